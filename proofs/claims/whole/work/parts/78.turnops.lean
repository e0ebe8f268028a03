theorem mfr_out {g : xG} {mo out : Nat} {adm : Nat → Nat} {K h h' : hp} {S : gS} {tt : Int} (hm0 : mdl g mo adm tt S K) (hK : K out = none) (hf : mfr mo adm h h') : h' out = h out :=
  hf out (fun z => by rw [z, hm0.1] at hK; cases hK) (fun k hk z => by rw [z, hm0.2.1 k hk] at hK; cases hK)
theorem toIntR (x : Int32) : R32 x.toInt := ⟨Int32.le_toInt _, Int32.toInt_lt _⟩
theorem T_newImage {g : xG} {x mo out b L : Nat} {adm : Nat → Nat} {xs : Nat → Int32} {nm : String} {hh : List (Nat × Nat × Nat × Nat)} {Q : qP} {rc rs : Nat} {h : hp} {i : Int} {v5 v6 : Option Value} (hN : ncOk g) (hXs : va_X b L xs g.2.1 g.2.1.heap) (hb : b < g.2.1.heap.size) (hL : L ≤ 2560) (i0 : 0 ≤ i) (i1 : i + 5 ≤ L) (hx : x = g.2.2.2.2 5) (hI9 : LInv g mo out adm h) (next : ∀ h' v5 v6, LInv g mo out adm h' → xW g (M_law nm hh) Q mN rc rs h' 2849 [some (.ref b), some (.ref x), some (.ref mo), some (.ref out), some (.int (iI i)), v5, v6] []) : xW g (M_law nm hh) Q mN (rc + 226) (rs + 7404) h 220 [some (.ref b), some (.ref x), some (.ref mo), some (.ref out), some (.int (iI i)), v5, v6] [] := by
  obtain ⟨ad, S, K, o, tt, hc, hm0, hK, hV, hE⟩ := hI9
  have hx2 : ad 0 0 = x := hc.2.2.2.2.2.trans hx.symm
  subst hx2
  obtain ⟨hI, hX9⟩ := id hV
  have h0 := hE.h
  refine x_aload_n d_law_220 rfl ?_
  refine x_aload_n d_law_221 rfl ?_
  refine x_iload d_law_222 rfl ?_
  refine x_iconst d_law_224 ?_
  refine x_iadd d_law_225 ?_
  refine x_sld hXs hb hL (by omega) (by omega) d_law_226 ?_
  refine x_aload_n d_law_227 rfl ?_
  refine x_callSWC (rc' := rc + 219) (rs' := rs + 7307) d_law_228 (q_law_147 nm hh) s_L_newImage (t_L_newImage hN hI hE (toIntR _) h hc) rfl (by rfl) (Nat.le_of_ble_eq_true rfl) (by show rc + 226 = rc + 219 + 7; omega) (by show rs + 7404 = rs + 7307 + 97; omega) ?_
  rintro _ h9 ⟨rfl, ad9, S9, o1, hc9, hq9⟩
  refine x_istore d_law_231 (Nat.le_of_ble_eq_true rfl) ?_
  have hm9 := mdl_in hc9 hm0 hK
  refine x_aload_n d_law_233 rfl ?_
  refine x_aload_n d_law_234 rfl ?_
  refine x_iload d_law_235 rfl ?_
  refine x_iconst d_law_237 ?_
  refine x_iadd d_law_238 ?_
  refine x_sld hXs hb hL (by omega) (by omega) d_law_239 ?_
  refine x_callVC (rc' := rc + 219) (rs' := rs + 7307) (r := (RX7, TX7, 28)) d_law_240 (q_law_152 nm hh) s_m_newImage v_m_newImage (t_m_newImage hI (toIntR _) h9 hm9) hm9.1 rfl rfl rfl rfl (Nat.le_of_ble_eq_true rfl) rfl rfl (fun _ _ z => False.elim z) ?_
  have hR : R32 (cd_newImage S ((xs (i + 1).toNat).toInt)) := by
    unfold cd_newImage 
    (repeat' split) <;> (unfold R32; omega)
  rintro v2 h10 ⟨_, S', ⟨rfl, hqa, hqb⟩, hm10, hf10⟩
  have hz : ∃ z : Int32, v2 = some (.int z) ∧ ((cd_newImage S ((xs (i + 1).toNat).toInt)) = 0 → z = iI (vl_newImage S ((xs (i + 1).toNat).toInt))) := by
    by_cases z0 : (cd_newImage S ((xs (i + 1).toNat).toInt)) = 0
    · exact ⟨_, (hqa z0).1, fun _ => rfl⟩
    · obtain ⟨_, z, hz⟩ := hqb z0
      exact ⟨z, hz, fun w => absurd w z0⟩
  obtain ⟨z, rfl, hz⟩ := hz
  refine x_istore d_law_243 (Nat.le_of_ble_eq_true rfl) ?_
  refine x_aload_n d_law_245 rfl ?_
  refine x_callVC (rc' := rc + 219) (rs' := rs + 7307) (r := (RX7, TX7, 28)) d_law_246 (q_law_153 nm hh) s_m_thrown v_m_thrown (t_m_thrown h10 hm10) hm10.1 rfl rfl rfl rfl (Nat.le_of_ble_eq_true rfl) rfl rfl (fun _ _ z => False.elim z) ?_
  rintro _ h11 ⟨_, _, ⟨rfl, rfl, rfl⟩, hm11, hf11⟩
  have hfin : LInv g mo out adm h11 := by
    rcases hq9 with ⟨hcd, hag, hE9, ho1⟩ | ⟨hne, e1, e2, e3⟩
    · exact turn_end hc9 hm0 hK hm11 (hf10.trans hf11) (by rw [(hqa hcd).2]; exact hag) (IV.agr (i_newImage hV hcd) hag hE9) hE9
    · exact turn_end hc9 hm0 hK hm11 (hf10.trans hf11) (by rw [e2, (hqb hne).1]; exact agr_refl _) (by rw [e2]; exact hV) (by rw [e2]; exact hE)
  refine x_iload d_law_249 rfl ?_
  refine x_icmp_eq (tgt := 256) d_law_251 (by decide) hR hR (fun _ => ?_) (fun w => absurd rfl w)
  refine x_iload d_law_256 rfl ?_
  refine x_if_ne (tgt := 273) d_law_258 (by decide) hR (fun w => ?_) (fun w => ?_)
  · skip
    refine x_goto (tgt := 2849) d_law_273 (by decide) ?_
    exact (next h11 _ _ hfin).mono (by omega) (by omega)
  · have ho : o1 0 = (iI (vl_newImage S ((xs (i + 1).toNat).toInt))).toInt64 := by
      rcases hq9 with ⟨_, _, _, ho1⟩ | ⟨hne, _⟩
      · exact ho1
      · exact absurd w hne
    have hout : h11 out = some (larr g 1 o1) := by rw [mfr_out hm0 hK hf11, mfr_out hm0 hK hf10]; exact hc9.2.2.1 out _ (hset_s _ _ _)
    refine x_aload_n d_law_261 rfl ?_
    refine x_iconst d_law_262 ?_
    refine x_lald (n := 1) d_law_263 hout (by decide) (by decide) (by decide) ?_
    refine x_iload d_law_264 rfl ?_
    refine x_i2l d_law_266 ?_
    refine x_lcmp d_law_267 ?_
    rw [show o1 (Int.toNat 0) = (iI (vl_newImage S ((xs (i + 1).toNat).toInt))).toInt64 from ho, hz w, lg_cmp_self]
    refine x_if_eq (tgt := 273) d_law_268 (by decide) R32_0 (fun _ => ?_) (fun q => absurd rfl q)
    refine x_goto (tgt := 2849) d_law_273 (by decide) ?_
    exact (next h11 _ _ hfin).mono (by omega) (by omega)
theorem T_write {g : xG} {x mo out b L : Nat} {adm : Nat → Nat} {xs : Nat → Int32} {nm : String} {hh : List (Nat × Nat × Nat × Nat)} {Q : qP} {rc rs : Nat} {h : hp} {i : Int} {v5 v6 : Option Value} (hN : ncOk g) (hXs : va_X b L xs g.2.1 g.2.1.heap) (hb : b < g.2.1.heap.size) (hL : L ≤ 2560) (i0 : 0 ≤ i) (i1 : i + 5 ≤ L) (hx : x = g.2.2.2.2 5) (hI9 : LInv g mo out adm h) (next : ∀ h' v5 v6, LInv g mo out adm h' → xW g (M_law nm hh) Q mN rc rs h' 2849 [some (.ref b), some (.ref x), some (.ref mo), some (.ref out), some (.int (iI i)), v5, v6] []) : xW g (M_law nm hh) Q mN (rc + 226) (rs + 7404) h 276 [some (.ref b), some (.ref x), some (.ref mo), some (.ref out), some (.int (iI i)), v5, v6] [] := by
  obtain ⟨ad, S, K, o, tt, hc, hm0, hK, hV, hE⟩ := hI9
  have hx2 : ad 0 0 = x := hc.2.2.2.2.2.trans hx.symm
  subst hx2
  obtain ⟨hI, hX9⟩ := id hV
  have h0 := hE.h
  refine x_aload_n d_law_276 rfl ?_
  refine x_aload_n d_law_277 rfl ?_
  refine x_iload d_law_278 rfl ?_
  refine x_iconst d_law_280 ?_
  refine x_iadd d_law_281 ?_
  refine x_sld hXs hb hL (by omega) (by omega) d_law_282 ?_
  refine x_aload_n d_law_283 rfl ?_
  refine x_iload d_law_284 rfl ?_
  refine x_iconst d_law_286 ?_
  refine x_iadd d_law_287 ?_
  refine x_sld hXs hb hL (by omega) (by omega) d_law_288 ?_
  refine x_aload_n d_law_289 rfl ?_
  refine x_iload d_law_290 rfl ?_
  refine x_iconst d_law_292 ?_
  refine x_iadd d_law_293 ?_
  refine x_sld hXs hb hL (by omega) (by omega) d_law_294 ?_
  refine x_aload_n d_law_295 rfl ?_
  refine x_callSWC (rc' := rc + 222) (rs' := rs + 7380) d_law_296 (q_law_157 nm hh) s_L_write (t_L_write hN hI hE (toIntR _) (toIntR _) (toIntR _) h hc) rfl (by rfl) (Nat.le_of_ble_eq_true rfl) (by show rc + 226 = rc + 222 + 4; omega) (by show rs + 7404 = rs + 7380 + 24; omega) ?_
  rintro _ h9 ⟨rfl, ad9, S9, o1, hc9, hq9⟩
  refine x_istore d_law_299 (Nat.le_of_ble_eq_true rfl) ?_
  have hm9 := mdl_in hc9 hm0 hK
  refine x_aload_n d_law_301 rfl ?_
  refine x_aload_n d_law_302 rfl ?_
  refine x_iload d_law_303 rfl ?_
  refine x_iconst d_law_305 ?_
  refine x_iadd d_law_306 ?_
  refine x_sld hXs hb hL (by omega) (by omega) d_law_307 ?_
  refine x_aload_n d_law_308 rfl ?_
  refine x_iload d_law_309 rfl ?_
  refine x_iconst d_law_311 ?_
  refine x_iadd d_law_312 ?_
  refine x_sld hXs hb hL (by omega) (by omega) d_law_313 ?_
  refine x_aload_n d_law_314 rfl ?_
  refine x_iload d_law_315 rfl ?_
  refine x_iconst d_law_317 ?_
  refine x_iadd d_law_318 ?_
  refine x_sld hXs hb hL (by omega) (by omega) d_law_319 ?_
  refine x_callVC (rc' := rc + 222) (rs' := rs + 7380) (r := (RX7, TX7, 28)) d_law_320 (q_law_160 nm hh) s_m_write v_m_write (t_m_write hI (toIntR _) (toIntR _) (toIntR _) h9 hm9) hm9.1 rfl rfl rfl rfl (Nat.le_of_ble_eq_true rfl) rfl rfl (fun _ _ z => False.elim z) ?_
  have hR : R32 (cd_write S ((xs (i + 1).toNat).toInt) ((xs (i + 2).toNat).toInt) ((xs (i + 3).toNat).toInt)) := by
    unfold cd_write 
    (repeat' split) <;> (unfold R32; omega)
  rintro v2 h10 ⟨_, S', ⟨rfl, hqa, hqb⟩, hm10, hf10⟩
  have hz : ∃ z : Int32, v2 = some (.int z) ∧ ((cd_write S ((xs (i + 1).toNat).toInt) ((xs (i + 2).toNat).toInt) ((xs (i + 3).toNat).toInt)) = 0 → z = iI (vl_write S ((xs (i + 1).toNat).toInt) ((xs (i + 2).toNat).toInt) ((xs (i + 3).toNat).toInt))) := by
    by_cases z0 : (cd_write S ((xs (i + 1).toNat).toInt) ((xs (i + 2).toNat).toInt) ((xs (i + 3).toNat).toInt)) = 0
    · exact ⟨_, (hqa z0).1, fun _ => rfl⟩
    · obtain ⟨_, z, hz⟩ := hqb z0
      exact ⟨z, hz, fun w => absurd w z0⟩
  obtain ⟨z, rfl, hz⟩ := hz
  refine x_istore d_law_323 (Nat.le_of_ble_eq_true rfl) ?_
  refine x_aload_n d_law_325 rfl ?_
  refine x_callVC (rc' := rc + 222) (rs' := rs + 7380) (r := (RX7, TX7, 28)) d_law_326 (q_law_153 nm hh) s_m_thrown v_m_thrown (t_m_thrown h10 hm10) hm10.1 rfl rfl rfl rfl (Nat.le_of_ble_eq_true rfl) rfl rfl (fun _ _ z => False.elim z) ?_
  rintro _ h11 ⟨_, _, ⟨rfl, rfl, rfl⟩, hm11, hf11⟩
  have hfin : LInv g mo out adm h11 := by
    rcases hq9 with ⟨hcd, hag, hE9, ho1⟩ | ⟨hne, e1, e2, e3⟩
    · exact turn_end hc9 hm0 hK hm11 (hf10.trans hf11) (by rw [(hqa hcd).2]; exact hag) (IV.agr (i_write hV hcd) hag hE9) hE9
    · exact turn_end hc9 hm0 hK hm11 (hf10.trans hf11) (by rw [e2, (hqb hne).1]; exact agr_refl _) (by rw [e2]; exact hV) (by rw [e2]; exact hE)
  refine x_iload d_law_329 rfl ?_
  refine x_icmp_eq (tgt := 336) d_law_331 (by decide) hR hR (fun _ => ?_) (fun w => absurd rfl w)
  refine x_iload d_law_336 rfl ?_
  refine x_if_ne (tgt := 353) d_law_338 (by decide) hR (fun w => ?_) (fun w => ?_)
  · skip
    refine x_goto (tgt := 2849) d_law_353 (by decide) ?_
    exact (next h11 _ _ hfin).mono (by omega) (by omega)
  · have ho : o1 0 = (iI (vl_write S ((xs (i + 1).toNat).toInt) ((xs (i + 2).toNat).toInt) ((xs (i + 3).toNat).toInt))).toInt64 := by
      rcases hq9 with ⟨_, _, _, ho1⟩ | ⟨hne, _⟩
      · exact ho1
      · exact absurd w hne
    have hout : h11 out = some (larr g 1 o1) := by rw [mfr_out hm0 hK hf11, mfr_out hm0 hK hf10]; exact hc9.2.2.1 out _ (hset_s _ _ _)
    refine x_aload_n d_law_341 rfl ?_
    refine x_iconst d_law_342 ?_
    refine x_lald (n := 1) d_law_343 hout (by decide) (by decide) (by decide) ?_
    refine x_iload d_law_344 rfl ?_
    refine x_i2l d_law_346 ?_
    refine x_lcmp d_law_347 ?_
    rw [show o1 (Int.toNat 0) = (iI (vl_write S ((xs (i + 1).toNat).toInt) ((xs (i + 2).toNat).toInt) ((xs (i + 3).toNat).toInt))).toInt64 from ho, hz w, lg_cmp_self]
    refine x_if_eq (tgt := 353) d_law_348 (by decide) R32_0 (fun _ => ?_) (fun q => absurd rfl q)
    refine x_goto (tgt := 2849) d_law_353 (by decide) ?_
    exact (next h11 _ _ hfin).mono (by omega) (by omega)
theorem T_remove {g : xG} {x mo out b L : Nat} {adm : Nat → Nat} {xs : Nat → Int32} {nm : String} {hh : List (Nat × Nat × Nat × Nat)} {Q : qP} {rc rs : Nat} {h : hp} {i : Int} {v5 v6 : Option Value} (hN : ncOk g) (hXs : va_X b L xs g.2.1 g.2.1.heap) (hb : b < g.2.1.heap.size) (hL : L ≤ 2560) (i0 : 0 ≤ i) (i1 : i + 5 ≤ L) (hx : x = g.2.2.2.2 5) (hI9 : LInv g mo out adm h) (next : ∀ h' v5 v6, LInv g mo out adm h' → xW g (M_law nm hh) Q mN rc rs h' 2849 [some (.ref b), some (.ref x), some (.ref mo), some (.ref out), some (.int (iI i)), v5, v6] []) : xW g (M_law nm hh) Q mN (rc + 226) (rs + 7404) h 356 [some (.ref b), some (.ref x), some (.ref mo), some (.ref out), some (.int (iI i)), v5, v6] [] := by
  obtain ⟨ad, S, K, o, tt, hc, hm0, hK, hV, hE⟩ := hI9
  have hx2 : ad 0 0 = x := hc.2.2.2.2.2.trans hx.symm
  subst hx2
  obtain ⟨hI, hX9⟩ := id hV
  have h0 := hE.h
  refine x_aload_n d_law_356 rfl ?_
  refine x_aload_n d_law_357 rfl ?_
  refine x_iload d_law_358 rfl ?_
  refine x_iconst d_law_360 ?_
  refine x_iadd d_law_361 ?_
  refine x_sld hXs hb hL (by omega) (by omega) d_law_362 ?_
  refine x_aload_n d_law_363 rfl ?_
  refine x_iload d_law_364 rfl ?_
  refine x_iconst d_law_366 ?_
  refine x_iadd d_law_367 ?_
  refine x_sld hXs hb hL (by omega) (by omega) d_law_368 ?_
  refine x_aload_n d_law_369 rfl ?_
  refine x_callSWC (rc' := rc + 222) (rs' := rs + 7380) d_law_370 (q_law_161 nm hh) s_L_remove (t_L_remove hN hI hE (toIntR _) (toIntR _) h hc) rfl (by rfl) (Nat.le_of_ble_eq_true rfl) (by show rc + 226 = rc + 222 + 4; omega) (by show rs + 7404 = rs + 7380 + 24; omega) ?_
  rintro _ h9 ⟨rfl, ad9, S9, o1, hc9, hq9⟩
  refine x_istore d_law_373 (Nat.le_of_ble_eq_true rfl) ?_
  have hm9 := mdl_in hc9 hm0 hK
  refine x_aload_n d_law_375 rfl ?_
  refine x_aload_n d_law_376 rfl ?_
  refine x_iload d_law_377 rfl ?_
  refine x_iconst d_law_379 ?_
  refine x_iadd d_law_380 ?_
  refine x_sld hXs hb hL (by omega) (by omega) d_law_381 ?_
  refine x_aload_n d_law_382 rfl ?_
  refine x_iload d_law_383 rfl ?_
  refine x_iconst d_law_385 ?_
  refine x_iadd d_law_386 ?_
  refine x_sld hXs hb hL (by omega) (by omega) d_law_387 ?_
  refine x_callVC (rc' := rc + 222) (rs' := rs + 7380) (r := (RX7, TX7, 28)) d_law_388 (q_law_164 nm hh) s_m_remove v_m_remove (t_m_remove hI (toIntR _) (toIntR _) h9 hm9) hm9.1 rfl rfl rfl rfl (Nat.le_of_ble_eq_true rfl) rfl rfl (fun _ _ z => False.elim z) ?_
  have hR : R32 (cd_remove S ((xs (i + 1).toNat).toInt) ((xs (i + 2).toNat).toInt)) := by
    unfold cd_remove 
    (repeat' split) <;> (unfold R32; omega)
  rintro v2 h10 ⟨_, S', ⟨rfl, hqa, hqb⟩, hm10, hf10⟩
  have hz : ∃ z : Int32, v2 = some (.int z) ∧ ((cd_remove S ((xs (i + 1).toNat).toInt) ((xs (i + 2).toNat).toInt)) = 0 → z = iI (vl_remove S ((xs (i + 1).toNat).toInt) ((xs (i + 2).toNat).toInt))) := by
    by_cases z0 : (cd_remove S ((xs (i + 1).toNat).toInt) ((xs (i + 2).toNat).toInt)) = 0
    · exact ⟨_, (hqa z0).1, fun _ => rfl⟩
    · obtain ⟨_, z, hz⟩ := hqb z0
      exact ⟨z, hz, fun w => absurd w z0⟩
  obtain ⟨z, rfl, hz⟩ := hz
  refine x_istore d_law_391 (Nat.le_of_ble_eq_true rfl) ?_
  refine x_aload_n d_law_393 rfl ?_
  refine x_callVC (rc' := rc + 222) (rs' := rs + 7380) (r := (RX7, TX7, 28)) d_law_394 (q_law_153 nm hh) s_m_thrown v_m_thrown (t_m_thrown h10 hm10) hm10.1 rfl rfl rfl rfl (Nat.le_of_ble_eq_true rfl) rfl rfl (fun _ _ z => False.elim z) ?_
  rintro _ h11 ⟨_, _, ⟨rfl, rfl, rfl⟩, hm11, hf11⟩
  have hfin : LInv g mo out adm h11 := by
    rcases hq9 with ⟨hcd, hag, hE9, ho1⟩ | ⟨hne, e1, e2, e3⟩
    · exact turn_end hc9 hm0 hK hm11 (hf10.trans hf11) (by rw [(hqa hcd).2]; exact hag) (IV.agr (i_remove hV) hag hE9) hE9
    · exact turn_end hc9 hm0 hK hm11 (hf10.trans hf11) (by rw [e2, (hqb hne).1]; exact agr_refl _) (by rw [e2]; exact hV) (by rw [e2]; exact hE)
  refine x_iload d_law_397 rfl ?_
  refine x_icmp_eq (tgt := 404) d_law_399 (by decide) hR hR (fun _ => ?_) (fun w => absurd rfl w)
  refine x_iload d_law_404 rfl ?_
  refine x_if_ne (tgt := 421) d_law_406 (by decide) hR (fun w => ?_) (fun w => ?_)
  · skip
    refine x_goto (tgt := 2849) d_law_421 (by decide) ?_
    exact (next h11 _ _ hfin).mono (by omega) (by omega)
  · have ho : o1 0 = (iI (vl_remove S ((xs (i + 1).toNat).toInt) ((xs (i + 2).toNat).toInt))).toInt64 := by
      rcases hq9 with ⟨_, _, _, ho1⟩ | ⟨hne, _⟩
      · exact ho1
      · exact absurd w hne
    have hout : h11 out = some (larr g 1 o1) := by rw [mfr_out hm0 hK hf11, mfr_out hm0 hK hf10]; exact hc9.2.2.1 out _ (hset_s _ _ _)
    refine x_aload_n d_law_409 rfl ?_
    refine x_iconst d_law_410 ?_
    refine x_lald (n := 1) d_law_411 hout (by decide) (by decide) (by decide) ?_
    refine x_iload d_law_412 rfl ?_
    refine x_i2l d_law_414 ?_
    refine x_lcmp d_law_415 ?_
    rw [show o1 (Int.toNat 0) = (iI (vl_remove S ((xs (i + 1).toNat).toInt) ((xs (i + 2).toNat).toInt))).toInt64 from ho, hz w, lg_cmp_self]
    refine x_if_eq (tgt := 421) d_law_416 (by decide) R32_0 (fun _ => ?_) (fun q => absurd rfl q)
    refine x_goto (tgt := 2849) d_law_421 (by decide) ?_
    exact (next h11 _ _ hfin).mono (by omega) (by omega)
theorem T_clear {g : xG} {x mo out b L : Nat} {adm : Nat → Nat} {xs : Nat → Int32} {nm : String} {hh : List (Nat × Nat × Nat × Nat)} {Q : qP} {rc rs : Nat} {h : hp} {i : Int} {v5 v6 : Option Value} (hN : ncOk g) (hXs : va_X b L xs g.2.1 g.2.1.heap) (hb : b < g.2.1.heap.size) (hL : L ≤ 2560) (i0 : 0 ≤ i) (i1 : i + 5 ≤ L) (hx : x = g.2.2.2.2 5) (hI9 : LInv g mo out adm h) (next : ∀ h' v5 v6, LInv g mo out adm h' → xW g (M_law nm hh) Q mN rc rs h' 2849 [some (.ref b), some (.ref x), some (.ref mo), some (.ref out), some (.int (iI i)), v5, v6] []) : xW g (M_law nm hh) Q mN (rc + 226) (rs + 7404) h 424 [some (.ref b), some (.ref x), some (.ref mo), some (.ref out), some (.int (iI i)), v5, v6] [] := by
  obtain ⟨ad, S, K, o, tt, hc, hm0, hK, hV, hE⟩ := hI9
  have hx2 : ad 0 0 = x := hc.2.2.2.2.2.trans hx.symm
  subst hx2
  obtain ⟨hI, hX9⟩ := id hV
  have h0 := hE.h
  refine x_aload_n d_law_424 rfl ?_
  refine x_aload_n d_law_425 rfl ?_
  refine x_iload d_law_426 rfl ?_
  refine x_iconst d_law_428 ?_
  refine x_iadd d_law_429 ?_
  refine x_sld hXs hb hL (by omega) (by omega) d_law_430 ?_
  refine x_aload_n d_law_431 rfl ?_
  refine x_iload d_law_432 rfl ?_
  refine x_iconst d_law_434 ?_
  refine x_iadd d_law_435 ?_
  refine x_sld hXs hb hL (by omega) (by omega) d_law_436 ?_
  refine x_aload_n d_law_437 rfl ?_
  refine x_callSWC (rc' := rc + 223) (rs' := rs + 7386) d_law_438 (q_law_165 nm hh) s_L_clear (t_L_clear hN hI hE (toIntR _) (toIntR _) h hc) rfl (by rfl) (Nat.le_of_ble_eq_true rfl) (by show rc + 226 = rc + 223 + 3; omega) (by show rs + 7404 = rs + 7386 + 18; omega) ?_
  rintro _ h9 ⟨rfl, ad9, S9, o1, hc9, hq9⟩
  refine x_istore d_law_441 (Nat.le_of_ble_eq_true rfl) ?_
  have hm9 := mdl_in hc9 hm0 hK
  refine x_aload_n d_law_443 rfl ?_
  refine x_aload_n d_law_444 rfl ?_
  refine x_iload d_law_445 rfl ?_
  refine x_iconst d_law_447 ?_
  refine x_iadd d_law_448 ?_
  refine x_sld hXs hb hL (by omega) (by omega) d_law_449 ?_
  refine x_aload_n d_law_450 rfl ?_
  refine x_iload d_law_451 rfl ?_
  refine x_iconst d_law_453 ?_
  refine x_iadd d_law_454 ?_
  refine x_sld hXs hb hL (by omega) (by omega) d_law_455 ?_
  refine x_callVC (rc' := rc + 223) (rs' := rs + 7386) (r := (RX7, TX7, 28)) d_law_456 (q_law_167 nm hh) s_m_clear v_m_clear (t_m_clear hI (toIntR _) (toIntR _) h9 hm9) hm9.1 rfl rfl rfl rfl (Nat.le_of_ble_eq_true rfl) rfl rfl (fun _ _ z => False.elim z) ?_
  have hR : R32 (cd_clear S ((xs (i + 1).toNat).toInt) ((xs (i + 2).toNat).toInt)) := by
    unfold cd_clear 
    (repeat' split) <;> (unfold R32; omega)
  rintro v2 h10 ⟨_, S', ⟨rfl, hqa, hqb⟩, hm10, hf10⟩
  have hz : ∃ z : Int32, v2 = some (.int z) ∧ ((cd_clear S ((xs (i + 1).toNat).toInt) ((xs (i + 2).toNat).toInt)) = 0 → z = iI (vl_clear S ((xs (i + 1).toNat).toInt) ((xs (i + 2).toNat).toInt))) := by
    by_cases z0 : (cd_clear S ((xs (i + 1).toNat).toInt) ((xs (i + 2).toNat).toInt)) = 0
    · exact ⟨_, (hqa z0).1, fun _ => rfl⟩
    · obtain ⟨_, z, hz⟩ := hqb z0
      exact ⟨z, hz, fun w => absurd w z0⟩
  obtain ⟨z, rfl, hz⟩ := hz
  refine x_istore d_law_459 (Nat.le_of_ble_eq_true rfl) ?_
  refine x_aload_n d_law_461 rfl ?_
  refine x_callVC (rc' := rc + 223) (rs' := rs + 7386) (r := (RX7, TX7, 28)) d_law_462 (q_law_153 nm hh) s_m_thrown v_m_thrown (t_m_thrown h10 hm10) hm10.1 rfl rfl rfl rfl (Nat.le_of_ble_eq_true rfl) rfl rfl (fun _ _ z => False.elim z) ?_
  rintro _ h11 ⟨_, _, ⟨rfl, rfl, rfl⟩, hm11, hf11⟩
  have hfin : LInv g mo out adm h11 := by
    rcases hq9 with ⟨hcd, hag, hE9, ho1⟩ | ⟨hne, e1, e2, e3⟩
    · exact turn_end hc9 hm0 hK hm11 (hf10.trans hf11) (by rw [(hqa hcd).2]; exact hag) (IV.agr (i_clear hV hcd) hag hE9) hE9
    · exact turn_end hc9 hm0 hK hm11 (hf10.trans hf11) (by rw [e2, (hqb hne).1]; exact agr_refl _) (by rw [e2]; exact hV) (by rw [e2]; exact hE)
  refine x_iload d_law_465 rfl ?_
  refine x_icmp_eq (tgt := 472) d_law_467 (by decide) hR hR (fun _ => ?_) (fun w => absurd rfl w)
  refine x_iload d_law_472 rfl ?_
  refine x_if_ne (tgt := 489) d_law_474 (by decide) hR (fun w => ?_) (fun w => ?_)
  · skip
    refine x_goto (tgt := 2849) d_law_489 (by decide) ?_
    exact (next h11 _ _ hfin).mono (by omega) (by omega)
  · have ho : o1 0 = (iI (vl_clear S ((xs (i + 1).toNat).toInt) ((xs (i + 2).toNat).toInt))).toInt64 := by
      rcases hq9 with ⟨_, _, _, ho1⟩ | ⟨hne, _⟩
      · exact ho1
      · exact absurd w hne
    have hout : h11 out = some (larr g 1 o1) := by rw [mfr_out hm0 hK hf11, mfr_out hm0 hK hf10]; exact hc9.2.2.1 out _ (hset_s _ _ _)
    refine x_aload_n d_law_477 rfl ?_
    refine x_iconst d_law_478 ?_
    refine x_lald (n := 1) d_law_479 hout (by decide) (by decide) (by decide) ?_
    refine x_iload d_law_480 rfl ?_
    refine x_i2l d_law_482 ?_
    refine x_lcmp d_law_483 ?_
    rw [show o1 (Int.toNat 0) = (iI (vl_clear S ((xs (i + 1).toNat).toInt) ((xs (i + 2).toNat).toInt))).toInt64 from ho, hz w, lg_cmp_self]
    refine x_if_eq (tgt := 489) d_law_484 (by decide) R32_0 (fun _ => ?_) (fun q => absurd rfl q)
    refine x_goto (tgt := 2849) d_law_489 (by decide) ?_
    exact (next h11 _ _ hfin).mono (by omega) (by omega)
theorem T_seal {g : xG} {x mo out b L : Nat} {adm : Nat → Nat} {xs : Nat → Int32} {nm : String} {hh : List (Nat × Nat × Nat × Nat)} {Q : qP} {rc rs : Nat} {h : hp} {i : Int} {v5 v6 : Option Value} (hN : ncOk g) (hXs : va_X b L xs g.2.1 g.2.1.heap) (hb : b < g.2.1.heap.size) (hL : L ≤ 2560) (i0 : 0 ≤ i) (i1 : i + 5 ≤ L) (hx : x = g.2.2.2.2 5) (hI9 : LInv g mo out adm h) (next : ∀ h' v5 v6, LInv g mo out adm h' → xW g (M_law nm hh) Q mN rc rs h' 2849 [some (.ref b), some (.ref x), some (.ref mo), some (.ref out), some (.int (iI i)), v5, v6] []) : xW g (M_law nm hh) Q mN (rc + 226) (rs + 7404) h 492 [some (.ref b), some (.ref x), some (.ref mo), some (.ref out), some (.int (iI i)), v5, v6] [] := by
  obtain ⟨ad, S, K, o, tt, hc, hm0, hK, hV, hE⟩ := hI9
  have hx2 : ad 0 0 = x := hc.2.2.2.2.2.trans hx.symm
  subst hx2
  obtain ⟨hI, hX9⟩ := id hV
  have h0 := hE.h
  refine x_aload_n d_law_492 rfl ?_
  refine x_aload_n d_law_493 rfl ?_
  refine x_iload d_law_494 rfl ?_
  refine x_iconst d_law_496 ?_
  refine x_iadd d_law_497 ?_
  refine x_sld hXs hb hL (by omega) (by omega) d_law_498 ?_
  refine x_aload_n d_law_499 rfl ?_
  refine x_callSWC (rc' := rc + 224) (rs' := rs + 7392) d_law_500 (q_law_168 nm hh) s_L_seal (t_L_seal hN hI hE (toIntR _) h hc) rfl (by rfl) (Nat.le_of_ble_eq_true rfl) (by show rc + 226 = rc + 224 + 2; omega) (by show rs + 7404 = rs + 7392 + 12; omega) ?_
  rintro _ h9 ⟨rfl, ad9, S9, o1, hc9, hq9⟩
  refine x_istore d_law_503 (Nat.le_of_ble_eq_true rfl) ?_
  have hm9 := mdl_in hc9 hm0 hK
  refine x_aload_n d_law_505 rfl ?_
  refine x_aload_n d_law_506 rfl ?_
  refine x_iload d_law_507 rfl ?_
  refine x_iconst d_law_509 ?_
  refine x_iadd d_law_510 ?_
  refine x_sld hXs hb hL (by omega) (by omega) d_law_511 ?_
  refine x_callVC (rc' := rc + 224) (rs' := rs + 7392) (r := (RX7, TX7, 28)) d_law_512 (q_law_170 nm hh) s_m_seal v_m_seal (t_m_seal hI (toIntR _) h9 hm9) hm9.1 rfl rfl rfl rfl (Nat.le_of_ble_eq_true rfl) rfl rfl (fun _ _ z => False.elim z) ?_
  have hR : R32 (cd_seal S ((xs (i + 1).toNat).toInt)) := by
    unfold cd_seal 
    (repeat' split) <;> (unfold R32; omega)
  rintro v2 h10 ⟨_, S', ⟨rfl, hqa, hqb⟩, hm10, hf10⟩
  have hz : ∃ z : Int32, v2 = some (.int z) ∧ ((cd_seal S ((xs (i + 1).toNat).toInt)) = 0 → z = iI (vl_seal S ((xs (i + 1).toNat).toInt))) := by
    by_cases z0 : (cd_seal S ((xs (i + 1).toNat).toInt)) = 0
    · exact ⟨_, (hqa z0).1, fun _ => rfl⟩
    · obtain ⟨_, z, hz⟩ := hqb z0
      exact ⟨z, hz, fun w => absurd w z0⟩
  obtain ⟨z, rfl, hz⟩ := hz
  refine x_istore d_law_515 (Nat.le_of_ble_eq_true rfl) ?_
  refine x_aload_n d_law_517 rfl ?_
  refine x_callVC (rc' := rc + 224) (rs' := rs + 7392) (r := (RX7, TX7, 28)) d_law_518 (q_law_153 nm hh) s_m_thrown v_m_thrown (t_m_thrown h10 hm10) hm10.1 rfl rfl rfl rfl (Nat.le_of_ble_eq_true rfl) rfl rfl (fun _ _ z => False.elim z) ?_
  rintro _ h11 ⟨_, _, ⟨rfl, rfl, rfl⟩, hm11, hf11⟩
  have hfin : LInv g mo out adm h11 := by
    rcases hq9 with ⟨hcd, hag, hE9, ho1⟩ | ⟨hne, e1, e2, e3⟩
    · exact turn_end hc9 hm0 hK hm11 (hf10.trans hf11) (by rw [(hqa hcd).2]; exact hag) (IV.agr (i_seal hV) hag hE9) hE9
    · exact turn_end hc9 hm0 hK hm11 (hf10.trans hf11) (by rw [e2, (hqb hne).1]; exact agr_refl _) (by rw [e2]; exact hV) (by rw [e2]; exact hE)
  refine x_iload d_law_521 rfl ?_
  refine x_icmp_eq (tgt := 528) d_law_523 (by decide) hR hR (fun _ => ?_) (fun w => absurd rfl w)
  refine x_iload d_law_528 rfl ?_
  refine x_if_ne (tgt := 545) d_law_530 (by decide) hR (fun w => ?_) (fun w => ?_)
  · skip
    refine x_goto (tgt := 2849) d_law_545 (by decide) ?_
    exact (next h11 _ _ hfin).mono (by omega) (by omega)
  · have ho : o1 0 = (iI (vl_seal S ((xs (i + 1).toNat).toInt))).toInt64 := by
      rcases hq9 with ⟨_, _, _, ho1⟩ | ⟨hne, _⟩
      · exact ho1
      · exact absurd w hne
    have hout : h11 out = some (larr g 1 o1) := by rw [mfr_out hm0 hK hf11, mfr_out hm0 hK hf10]; exact hc9.2.2.1 out _ (hset_s _ _ _)
    refine x_aload_n d_law_533 rfl ?_
    refine x_iconst d_law_534 ?_
    refine x_lald (n := 1) d_law_535 hout (by decide) (by decide) (by decide) ?_
    refine x_iload d_law_536 rfl ?_
    refine x_i2l d_law_538 ?_
    refine x_lcmp d_law_539 ?_
    rw [show o1 (Int.toNat 0) = (iI (vl_seal S ((xs (i + 1).toNat).toInt))).toInt64 from ho, hz w, lg_cmp_self]
    refine x_if_eq (tgt := 545) d_law_540 (by decide) R32_0 (fun _ => ?_) (fun q => absurd rfl q)
    refine x_goto (tgt := 2849) d_law_545 (by decide) ?_
    exact (next h11 _ _ hfin).mono (by omega) (by omega)
theorem T_shown {g : xG} {x mo out b L : Nat} {adm : Nat → Nat} {xs : Nat → Int32} {nm : String} {hh : List (Nat × Nat × Nat × Nat)} {Q : qP} {rc rs : Nat} {h : hp} {i : Int} {v5 v6 : Option Value} (hN : ncOk g) (hXs : va_X b L xs g.2.1 g.2.1.heap) (hb : b < g.2.1.heap.size) (hL : L ≤ 2560) (i0 : 0 ≤ i) (i1 : i + 5 ≤ L) (hx : x = g.2.2.2.2 5) (hI9 : LInv g mo out adm h) (next : ∀ h' v5 v6, LInv g mo out adm h' → xW g (M_law nm hh) Q mN rc rs h' 2849 [some (.ref b), some (.ref x), some (.ref mo), some (.ref out), some (.int (iI i)), v5, v6] []) : xW g (M_law nm hh) Q mN (rc + 226) (rs + 7404) h 548 [some (.ref b), some (.ref x), some (.ref mo), some (.ref out), some (.int (iI i)), v5, v6] [] := by
  obtain ⟨ad, S, K, o, tt, hc, hm0, hK, hV, hE⟩ := hI9
  have hx2 : ad 0 0 = x := hc.2.2.2.2.2.trans hx.symm
  subst hx2
  obtain ⟨hI, hX9⟩ := id hV
  have h0 := hE.h
  refine x_aload_n d_law_548 rfl ?_
  refine x_aload_n d_law_549 rfl ?_
  refine x_iload d_law_550 rfl ?_
  refine x_iconst d_law_552 ?_
  refine x_iadd d_law_553 ?_
  refine x_sld hXs hb hL (by omega) (by omega) d_law_554 ?_
  refine x_aload_n d_law_555 rfl ?_
  refine x_iload d_law_556 rfl ?_
  refine x_iconst d_law_558 ?_
  refine x_iadd d_law_559 ?_
  refine x_sld hXs hb hL (by omega) (by omega) d_law_560 ?_
  refine x_aload_n d_law_561 rfl ?_
  refine x_callSWC (rc' := rc + 224) (rs' := rs + 7392) d_law_562 (q_law_171 nm hh) s_L_shown (t_L_shown hN hI hE (toIntR _) (toIntR _) h hc) rfl (by rfl) (Nat.le_of_ble_eq_true rfl) (by show rc + 226 = rc + 224 + 2; omega) (by show rs + 7404 = rs + 7392 + 12; omega) ?_
  rintro _ h9 ⟨rfl, ad9, S9, o1, hc9, hq9⟩
  refine x_istore d_law_565 (Nat.le_of_ble_eq_true rfl) ?_
  have hm9 := mdl_in hc9 hm0 hK
  refine x_aload_n d_law_567 rfl ?_
  refine x_aload_n d_law_568 rfl ?_
  refine x_iload d_law_569 rfl ?_
  refine x_iconst d_law_571 ?_
  refine x_iadd d_law_572 ?_
  refine x_sld hXs hb hL (by omega) (by omega) d_law_573 ?_
  refine x_aload_n d_law_574 rfl ?_
  refine x_iload d_law_575 rfl ?_
  refine x_iconst d_law_577 ?_
  refine x_iadd d_law_578 ?_
  refine x_sld hXs hb hL (by omega) (by omega) d_law_579 ?_
  refine x_callVC (rc' := rc + 224) (rs' := rs + 7392) (r := (RX7, TX7, 28)) d_law_580 (q_law_173 nm hh) s_m_shown v_m_shown (t_m_shown hI (toIntR _) (toIntR _) h9 hm9) hm9.1 rfl rfl rfl rfl (Nat.le_of_ble_eq_true rfl) rfl rfl (fun _ _ z => False.elim z) ?_
  have hR : R32 (cd_shown S ((xs (i + 1).toNat).toInt) ((xs (i + 2).toNat).toInt)) := by
    unfold cd_shown 
    (repeat' split) <;> (unfold R32; omega)
  rintro v2 h10 ⟨_, S', ⟨rfl, hqa, hqb⟩, hm10, hf10⟩
  have hz : ∃ z : Int32, v2 = some (.int z) ∧ ((cd_shown S ((xs (i + 1).toNat).toInt) ((xs (i + 2).toNat).toInt)) = 0 → z = iI (vl_shown S ((xs (i + 1).toNat).toInt) ((xs (i + 2).toNat).toInt))) := by
    by_cases z0 : (cd_shown S ((xs (i + 1).toNat).toInt) ((xs (i + 2).toNat).toInt)) = 0
    · exact ⟨_, (hqa z0).1, fun _ => rfl⟩
    · obtain ⟨_, z, hz⟩ := hqb z0
      exact ⟨z, hz, fun w => absurd w z0⟩
  obtain ⟨z, rfl, hz⟩ := hz
  refine x_istore d_law_583 (Nat.le_of_ble_eq_true rfl) ?_
  refine x_aload_n d_law_585 rfl ?_
  refine x_callVC (rc' := rc + 224) (rs' := rs + 7392) (r := (RX7, TX7, 28)) d_law_586 (q_law_153 nm hh) s_m_thrown v_m_thrown (t_m_thrown h10 hm10) hm10.1 rfl rfl rfl rfl (Nat.le_of_ble_eq_true rfl) rfl rfl (fun _ _ z => False.elim z) ?_
  rintro _ h11 ⟨_, _, ⟨rfl, rfl, rfl⟩, hm11, hf11⟩
  have hfin : LInv g mo out adm h11 := by
    rcases hq9 with ⟨hcd, hag, hE9, ho1⟩ | ⟨hne, e1, e2, e3⟩
    · exact turn_end hc9 hm0 hK hm11 (hf10.trans hf11) (by rw [(hqa hcd).2]; exact hag) (IV.agr hV hag hE9) hE9
    · exact turn_end hc9 hm0 hK hm11 (hf10.trans hf11) (by rw [e2, (hqb hne).1]; exact agr_refl _) (by rw [e2]; exact hV) (by rw [e2]; exact hE)
  refine x_iload d_law_589 rfl ?_
  refine x_icmp_eq (tgt := 596) d_law_591 (by decide) hR hR (fun _ => ?_) (fun w => absurd rfl w)
  refine x_iload d_law_596 rfl ?_
  refine x_if_ne (tgt := 613) d_law_598 (by decide) hR (fun w => ?_) (fun w => ?_)
  · skip
    refine x_goto (tgt := 2849) d_law_613 (by decide) ?_
    exact (next h11 _ _ hfin).mono (by omega) (by omega)
  · have ho : o1 0 = (iI (vl_shown S ((xs (i + 1).toNat).toInt) ((xs (i + 2).toNat).toInt))).toInt64 := by
      rcases hq9 with ⟨_, _, _, ho1⟩ | ⟨hne, _⟩
      · exact ho1
      · exact absurd w hne
    have hout : h11 out = some (larr g 1 o1) := by rw [mfr_out hm0 hK hf11, mfr_out hm0 hK hf10]; exact hc9.2.2.1 out _ (hset_s _ _ _)
    refine x_aload_n d_law_601 rfl ?_
    refine x_iconst d_law_602 ?_
    refine x_lald (n := 1) d_law_603 hout (by decide) (by decide) (by decide) ?_
    refine x_iload d_law_604 rfl ?_
    refine x_i2l d_law_606 ?_
    refine x_lcmp d_law_607 ?_
    rw [show o1 (Int.toNat 0) = (iI (vl_shown S ((xs (i + 1).toNat).toInt) ((xs (i + 2).toNat).toInt))).toInt64 from ho, hz w, lg_cmp_self]
    refine x_if_eq (tgt := 613) d_law_608 (by decide) R32_0 (fun _ => ?_) (fun q => absurd rfl q)
    refine x_goto (tgt := 2849) d_law_613 (by decide) ?_
    exact (next h11 _ _ hfin).mono (by omega) (by omega)
theorem T_entries {g : xG} {x mo out b L : Nat} {adm : Nat → Nat} {xs : Nat → Int32} {nm : String} {hh : List (Nat × Nat × Nat × Nat)} {Q : qP} {rc rs : Nat} {h : hp} {i : Int} {v5 v6 : Option Value} (hN : ncOk g) (hXs : va_X b L xs g.2.1 g.2.1.heap) (hb : b < g.2.1.heap.size) (hL : L ≤ 2560) (i0 : 0 ≤ i) (i1 : i + 5 ≤ L) (hx : x = g.2.2.2.2 5) (hI9 : LInv g mo out adm h) (next : ∀ h' v5 v6, LInv g mo out adm h' → xW g (M_law nm hh) Q mN rc rs h' 2849 [some (.ref b), some (.ref x), some (.ref mo), some (.ref out), some (.int (iI i)), v5, v6] []) : xW g (M_law nm hh) Q mN (rc + 226) (rs + 7404) h 616 [some (.ref b), some (.ref x), some (.ref mo), some (.ref out), some (.int (iI i)), v5, v6] [] := by
  obtain ⟨ad, S, K, o, tt, hc, hm0, hK, hV, hE⟩ := hI9
  have hx2 : ad 0 0 = x := hc.2.2.2.2.2.trans hx.symm
  subst hx2
  obtain ⟨hI, hX9⟩ := id hV
  have h0 := hE.h
  refine x_aload_n d_law_616 rfl ?_
  refine x_aload_n d_law_617 rfl ?_
  refine x_iload d_law_618 rfl ?_
  refine x_iconst d_law_620 ?_
  refine x_iadd d_law_621 ?_
  refine x_sld hXs hb hL (by omega) (by omega) d_law_622 ?_
  refine x_aload_n d_law_623 rfl ?_
  refine x_iload d_law_624 rfl ?_
  refine x_iconst d_law_626 ?_
  refine x_iadd d_law_627 ?_
  refine x_sld hXs hb hL (by omega) (by omega) d_law_628 ?_
  refine x_aload_n d_law_629 rfl ?_
  refine x_callSWC (rc' := rc + 224) (rs' := rs + 7392) d_law_630 (q_law_174 nm hh) s_L_entries (t_L_entries hN hI hE (toIntR _) (toIntR _) h hc) rfl (by rfl) (Nat.le_of_ble_eq_true rfl) (by show rc + 226 = rc + 224 + 2; omega) (by show rs + 7404 = rs + 7392 + 12; omega) ?_
  rintro _ h9 ⟨rfl, ad9, S9, o1, hc9, hq9⟩
  refine x_istore d_law_633 (Nat.le_of_ble_eq_true rfl) ?_
  have hm9 := mdl_in hc9 hm0 hK
  refine x_aload_n d_law_635 rfl ?_
  refine x_aload_n d_law_636 rfl ?_
  refine x_iload d_law_637 rfl ?_
  refine x_iconst d_law_639 ?_
  refine x_iadd d_law_640 ?_
  refine x_sld hXs hb hL (by omega) (by omega) d_law_641 ?_
  refine x_aload_n d_law_642 rfl ?_
  refine x_iload d_law_643 rfl ?_
  refine x_iconst d_law_645 ?_
  refine x_iadd d_law_646 ?_
  refine x_sld hXs hb hL (by omega) (by omega) d_law_647 ?_
  refine x_callVC (rc' := rc + 224) (rs' := rs + 7392) (r := (RX7, TX7, 28)) d_law_648 (q_law_176 nm hh) s_m_entries v_m_entries (t_m_entries hI (toIntR _) (toIntR _) h9 hm9) hm9.1 rfl rfl rfl rfl (Nat.le_of_ble_eq_true rfl) rfl rfl (fun _ _ z => False.elim z) ?_
  have hR : R32 (cd_entries S ((xs (i + 1).toNat).toInt) ((xs (i + 2).toNat).toInt)) := by
    unfold cd_entries 
    (repeat' split) <;> (unfold R32; omega)
  rintro v2 h10 ⟨_, S', ⟨rfl, hqa, hqb⟩, hm10, hf10⟩
  have hz : ∃ z : Int32, v2 = some (.int z) ∧ ((cd_entries S ((xs (i + 1).toNat).toInt) ((xs (i + 2).toNat).toInt)) = 0 → z = iI (vl_entries S ((xs (i + 1).toNat).toInt) ((xs (i + 2).toNat).toInt))) := by
    by_cases z0 : (cd_entries S ((xs (i + 1).toNat).toInt) ((xs (i + 2).toNat).toInt)) = 0
    · exact ⟨_, (hqa z0).1, fun _ => rfl⟩
    · obtain ⟨_, z, hz⟩ := hqb z0
      exact ⟨z, hz, fun w => absurd w z0⟩
  obtain ⟨z, rfl, hz⟩ := hz
  refine x_istore d_law_651 (Nat.le_of_ble_eq_true rfl) ?_
  refine x_aload_n d_law_653 rfl ?_
  refine x_callVC (rc' := rc + 224) (rs' := rs + 7392) (r := (RX7, TX7, 28)) d_law_654 (q_law_153 nm hh) s_m_thrown v_m_thrown (t_m_thrown h10 hm10) hm10.1 rfl rfl rfl rfl (Nat.le_of_ble_eq_true rfl) rfl rfl (fun _ _ z => False.elim z) ?_
  rintro _ h11 ⟨_, _, ⟨rfl, rfl, rfl⟩, hm11, hf11⟩
  have hfin : LInv g mo out adm h11 := by
    rcases hq9 with ⟨hcd, hag, hE9, ho1⟩ | ⟨hne, e1, e2, e3⟩
    · exact turn_end hc9 hm0 hK hm11 (hf10.trans hf11) (by rw [(hqa hcd).2]; exact hag) (IV.agr hV hag hE9) hE9
    · exact turn_end hc9 hm0 hK hm11 (hf10.trans hf11) (by rw [e2, (hqb hne).1]; exact agr_refl _) (by rw [e2]; exact hV) (by rw [e2]; exact hE)
  refine x_iload d_law_657 rfl ?_
  refine x_icmp_eq (tgt := 664) d_law_659 (by decide) hR hR (fun _ => ?_) (fun w => absurd rfl w)
  refine x_iload d_law_664 rfl ?_
  refine x_if_ne (tgt := 681) d_law_666 (by decide) hR (fun w => ?_) (fun w => ?_)
  · skip
    refine x_goto (tgt := 2849) d_law_681 (by decide) ?_
    exact (next h11 _ _ hfin).mono (by omega) (by omega)
  · have ho : o1 0 = (iI (vl_entries S ((xs (i + 1).toNat).toInt) ((xs (i + 2).toNat).toInt))).toInt64 := by
      rcases hq9 with ⟨_, _, _, ho1⟩ | ⟨hne, _⟩
      · exact ho1
      · exact absurd w hne
    have hout : h11 out = some (larr g 1 o1) := by rw [mfr_out hm0 hK hf11, mfr_out hm0 hK hf10]; exact hc9.2.2.1 out _ (hset_s _ _ _)
    refine x_aload_n d_law_669 rfl ?_
    refine x_iconst d_law_670 ?_
    refine x_lald (n := 1) d_law_671 hout (by decide) (by decide) (by decide) ?_
    refine x_iload d_law_672 rfl ?_
    refine x_i2l d_law_674 ?_
    refine x_lcmp d_law_675 ?_
    rw [show o1 (Int.toNat 0) = (iI (vl_entries S ((xs (i + 1).toNat).toInt) ((xs (i + 2).toNat).toInt))).toInt64 from ho, hz w, lg_cmp_self]
    refine x_if_eq (tgt := 681) d_law_676 (by decide) R32_0 (fun _ => ?_) (fun q => absurd rfl q)
    refine x_goto (tgt := 2849) d_law_681 (by decide) ?_
    exact (next h11 _ _ hfin).mono (by omega) (by omega)
theorem T_commit {g : xG} {x mo out b L : Nat} {adm : Nat → Nat} {xs : Nat → Int32} {nm : String} {hh : List (Nat × Nat × Nat × Nat)} {Q : qP} {rc rs : Nat} {h : hp} {i : Int} {v5 v6 : Option Value} (hN : ncOk g) (hXs : va_X b L xs g.2.1 g.2.1.heap) (hb : b < g.2.1.heap.size) (hL : L ≤ 2560) (i0 : 0 ≤ i) (i1 : i + 5 ≤ L) (hx : x = g.2.2.2.2 5) (hI9 : LInv g mo out adm h) (next : ∀ h' v5 v6, LInv g mo out adm h' → xW g (M_law nm hh) Q mN rc rs h' 2849 [some (.ref b), some (.ref x), some (.ref mo), some (.ref out), some (.int (iI i)), v5, v6] []) : xW g (M_law nm hh) Q mN (rc + 226) (rs + 7404) h 684 [some (.ref b), some (.ref x), some (.ref mo), some (.ref out), some (.int (iI i)), v5, v6] [] := by
  obtain ⟨ad, S, K, o, tt, hc, hm0, hK, hV, hE⟩ := hI9
  have hx2 : ad 0 0 = x := hc.2.2.2.2.2.trans hx.symm
  subst hx2
  obtain ⟨hI, hX9⟩ := id hV
  have h0 := hE.h
  refine x_aload_n d_law_684 rfl ?_
  refine x_aload_n d_law_685 rfl ?_
  refine x_iload d_law_686 rfl ?_
  refine x_iconst d_law_688 ?_
  refine x_iadd d_law_689 ?_
  refine x_sld hXs hb hL (by omega) (by omega) d_law_690 ?_
  refine x_aload_n d_law_691 rfl ?_
  refine x_callSWC (rc' := rc + 219) (rs' := rs + 7307) d_law_692 (q_law_177 nm hh) s_L_commit (t_L_commit hN hI hE (toIntR _) h hc) rfl (by rfl) (Nat.le_of_ble_eq_true rfl) (by show rc + 226 = rc + 219 + 7; omega) (by show rs + 7404 = rs + 7307 + 97; omega) ?_
  rintro _ h9 ⟨rfl, ad9, S9, o1, hc9, hq9⟩
  refine x_istore d_law_695 (Nat.le_of_ble_eq_true rfl) ?_
  have hm9 := mdl_in hc9 hm0 hK
  refine x_aload_n d_law_697 rfl ?_
  refine x_aload_n d_law_698 rfl ?_
  refine x_iload d_law_699 rfl ?_
  refine x_iconst d_law_701 ?_
  refine x_iadd d_law_702 ?_
  refine x_sld hXs hb hL (by omega) (by omega) d_law_703 ?_
  refine x_callVC (rc' := rc + 219) (rs' := rs + 7307) (r := (RX7, TX7, 28)) d_law_704 (q_law_179 nm hh) s_m_commit v_m_commit (t_m_commit hI (toIntR _) h9 hm9) hm9.1 rfl rfl rfl rfl (Nat.le_of_ble_eq_true rfl) rfl rfl (fun _ _ z => False.elim z) ?_
  have hR : R32 (cd_commit S ((xs (i + 1).toNat).toInt)) := by
    unfold cd_commit 
    (repeat' split) <;> (unfold R32; omega)
  rintro v2 h10 ⟨_, S', ⟨rfl, hqa, hqb⟩, hm10, hf10⟩
  have hz : ∃ z : Int32, v2 = some (.int z) ∧ ((cd_commit S ((xs (i + 1).toNat).toInt)) = 0 → z = iI (vl_commit S ((xs (i + 1).toNat).toInt))) := by
    by_cases z0 : (cd_commit S ((xs (i + 1).toNat).toInt)) = 0
    · exact ⟨_, (hqa z0).1, fun _ => rfl⟩
    · obtain ⟨_, z, hz⟩ := hqb z0
      exact ⟨z, hz, fun w => absurd w z0⟩
  obtain ⟨z, rfl, hz⟩ := hz
  refine x_istore d_law_707 (Nat.le_of_ble_eq_true rfl) ?_
  refine x_aload_n d_law_709 rfl ?_
  refine x_callVC (rc' := rc + 219) (rs' := rs + 7307) (r := (RX7, TX7, 28)) d_law_710 (q_law_153 nm hh) s_m_thrown v_m_thrown (t_m_thrown h10 hm10) hm10.1 rfl rfl rfl rfl (Nat.le_of_ble_eq_true rfl) rfl rfl (fun _ _ z => False.elim z) ?_
  rintro _ h11 ⟨_, _, ⟨rfl, rfl, rfl⟩, hm11, hf11⟩
  have hfin : LInv g mo out adm h11 := by
    rcases hq9 with ⟨hcd, hag, hE9, ho1⟩ | ⟨hne, e1, e2, e3⟩
    · exact turn_end hc9 hm0 hK hm11 (hf10.trans hf11) (by rw [(hqa hcd).2]; exact hag) (IV.agr (i_commit hV hcd) hag hE9) hE9
    · exact turn_end hc9 hm0 hK hm11 (hf10.trans hf11) (by rw [e2, (hqb hne).1]; exact agr_refl _) (by rw [e2]; exact hV) (by rw [e2]; exact hE)
  refine x_iload d_law_713 rfl ?_
  refine x_icmp_eq (tgt := 720) d_law_715 (by decide) hR hR (fun _ => ?_) (fun w => absurd rfl w)
  refine x_iload d_law_720 rfl ?_
  refine x_if_ne (tgt := 737) d_law_722 (by decide) hR (fun w => ?_) (fun w => ?_)
  · skip
    refine x_goto (tgt := 2849) d_law_737 (by decide) ?_
    exact (next h11 _ _ hfin).mono (by omega) (by omega)
  · have ho : o1 0 = (iI (vl_commit S ((xs (i + 1).toNat).toInt))).toInt64 := by
      rcases hq9 with ⟨_, _, _, ho1⟩ | ⟨hne, _⟩
      · exact ho1
      · exact absurd w hne
    have hout : h11 out = some (larr g 1 o1) := by rw [mfr_out hm0 hK hf11, mfr_out hm0 hK hf10]; exact hc9.2.2.1 out _ (hset_s _ _ _)
    refine x_aload_n d_law_725 rfl ?_
    refine x_iconst d_law_726 ?_
    refine x_lald (n := 1) d_law_727 hout (by decide) (by decide) (by decide) ?_
    refine x_iload d_law_728 rfl ?_
    refine x_i2l d_law_730 ?_
    refine x_lcmp d_law_731 ?_
    rw [show o1 (Int.toNat 0) = (iI (vl_commit S ((xs (i + 1).toNat).toInt))).toInt64 from ho, hz w, lg_cmp_self]
    refine x_if_eq (tgt := 737) d_law_732 (by decide) R32_0 (fun _ => ?_) (fun q => absurd rfl q)
    refine x_goto (tgt := 2849) d_law_737 (by decide) ?_
    exact (next h11 _ _ hfin).mono (by omega) (by omega)
theorem T_newGroup {g : xG} {x mo out b L : Nat} {adm : Nat → Nat} {xs : Nat → Int32} {nm : String} {hh : List (Nat × Nat × Nat × Nat)} {Q : qP} {rc rs : Nat} {h : hp} {i : Int} {v5 v6 : Option Value} (hN : ncOk g) (hXs : va_X b L xs g.2.1 g.2.1.heap) (hb : b < g.2.1.heap.size) (hL : L ≤ 2560) (i0 : 0 ≤ i) (i1 : i + 5 ≤ L) (hx : x = g.2.2.2.2 5) (hI9 : LInv g mo out adm h) (next : ∀ h' v5 v6, LInv g mo out adm h' → xW g (M_law nm hh) Q mN rc rs h' 2849 [some (.ref b), some (.ref x), some (.ref mo), some (.ref out), some (.int (iI i)), v5, v6] []) : xW g (M_law nm hh) Q mN (rc + 226) (rs + 7404) h 740 [some (.ref b), some (.ref x), some (.ref mo), some (.ref out), some (.int (iI i)), v5, v6] [] := by
  obtain ⟨ad, S, K, o, tt, hc, hm0, hK, hV, hE⟩ := hI9
  have hx2 : ad 0 0 = x := hc.2.2.2.2.2.trans hx.symm
  subst hx2
  obtain ⟨hI, hX9⟩ := id hV
  have h0 := hE.h
  refine x_aload_n d_law_740 rfl ?_
  refine x_aload_n d_law_741 rfl ?_
  refine x_iload d_law_742 rfl ?_
  refine x_iconst d_law_744 ?_
  refine x_iadd d_law_745 ?_
  refine x_sld hXs hb hL (by omega) (by omega) d_law_746 ?_
  refine x_aload_n d_law_747 rfl ?_
  refine x_iload d_law_748 rfl ?_
  refine x_iconst d_law_750 ?_
  refine x_iadd d_law_751 ?_
  refine x_sld hXs hb hL (by omega) (by omega) d_law_752 ?_
  refine x_aload_n d_law_753 rfl ?_
  refine x_iload d_law_754 rfl ?_
  refine x_iconst d_law_756 ?_
  refine x_iadd d_law_757 ?_
  refine x_sld hXs hb hL (by omega) (by omega) d_law_758 ?_
  refine x_aload_n d_law_759 rfl ?_
  refine x_iload d_law_760 rfl ?_
  refine x_iconst d_law_762 ?_
  refine x_iadd d_law_763 ?_
  refine x_sld hXs hb hL (by omega) (by omega) d_law_764 ?_
  refine x_aload_n d_law_765 rfl ?_
  refine x_callSWC (rc' := rc + 219) (rs' := rs + 7334) d_law_766 (q_law_180 nm hh) s_L_newGroup (t_L_newGroup hN hI hE (toIntR _) (toIntR _) (toIntR _) (toIntR _) h hc) rfl (by rfl) (Nat.le_of_ble_eq_true rfl) (by show rc + 226 = rc + 219 + 7; omega) (by show rs + 7404 = rs + 7334 + 70; omega) ?_
  rintro _ h9 ⟨rfl, ad9, S9, o1, hc9, hq9⟩
  refine x_istore d_law_769 (Nat.le_of_ble_eq_true rfl) ?_
  have hm9 := mdl_in hc9 hm0 hK
  refine x_aload_n d_law_771 rfl ?_
  refine x_aload_n d_law_772 rfl ?_
  refine x_iload d_law_773 rfl ?_
  refine x_iconst d_law_775 ?_
  refine x_iadd d_law_776 ?_
  refine x_sld hXs hb hL (by omega) (by omega) d_law_777 ?_
  refine x_aload_n d_law_778 rfl ?_
  refine x_iload d_law_779 rfl ?_
  refine x_iconst d_law_781 ?_
  refine x_iadd d_law_782 ?_
  refine x_sld hXs hb hL (by omega) (by omega) d_law_783 ?_
  refine x_aload_n d_law_784 rfl ?_
  refine x_iload d_law_785 rfl ?_
  refine x_iconst d_law_787 ?_
  refine x_iadd d_law_788 ?_
  refine x_sld hXs hb hL (by omega) (by omega) d_law_789 ?_
  refine x_aload_n d_law_790 rfl ?_
  refine x_iload d_law_791 rfl ?_
  refine x_iconst d_law_793 ?_
  refine x_iadd d_law_794 ?_
  refine x_sld hXs hb hL (by omega) (by omega) d_law_795 ?_
  refine x_callVC (rc' := rc + 219) (rs' := rs + 7334) (r := (RX7, TX7, 28)) d_law_796 (q_law_183 nm hh) s_m_newGroup v_m_newGroup (t_m_newGroup hI (toIntR _) (toIntR _) (toIntR _) (toIntR _) h9 hm9) hm9.1 rfl rfl rfl rfl (Nat.le_of_ble_eq_true rfl) rfl rfl (fun _ _ z => False.elim z) ?_
  have hR : R32 (cd_newGroup S ((xs (i + 1).toNat).toInt) ((xs (i + 2).toNat).toInt) ((xs (i + 3).toNat).toInt) ((xs (i + 4).toNat).toInt)) := by
    unfold cd_newGroup 
    (repeat' split) <;> (unfold R32; omega)
  rintro v2 h10 ⟨_, S', ⟨rfl, hqa, hqb⟩, hm10, hf10⟩
  have hz : ∃ z : Int32, v2 = some (.int z) ∧ ((cd_newGroup S ((xs (i + 1).toNat).toInt) ((xs (i + 2).toNat).toInt) ((xs (i + 3).toNat).toInt) ((xs (i + 4).toNat).toInt)) = 0 → z = iI (vl_newGroup S ((xs (i + 1).toNat).toInt) ((xs (i + 2).toNat).toInt) ((xs (i + 3).toNat).toInt) ((xs (i + 4).toNat).toInt))) := by
    by_cases z0 : (cd_newGroup S ((xs (i + 1).toNat).toInt) ((xs (i + 2).toNat).toInt) ((xs (i + 3).toNat).toInt) ((xs (i + 4).toNat).toInt)) = 0
    · exact ⟨_, (hqa z0).1, fun _ => rfl⟩
    · obtain ⟨_, z, hz⟩ := hqb z0
      exact ⟨z, hz, fun w => absurd w z0⟩
  obtain ⟨z, rfl, hz⟩ := hz
  refine x_istore d_law_799 (Nat.le_of_ble_eq_true rfl) ?_
  refine x_aload_n d_law_801 rfl ?_
  refine x_callVC (rc' := rc + 219) (rs' := rs + 7334) (r := (RX7, TX7, 28)) d_law_802 (q_law_153 nm hh) s_m_thrown v_m_thrown (t_m_thrown h10 hm10) hm10.1 rfl rfl rfl rfl (Nat.le_of_ble_eq_true rfl) rfl rfl (fun _ _ z => False.elim z) ?_
  rintro _ h11 ⟨_, _, ⟨rfl, rfl, rfl⟩, hm11, hf11⟩
  have hfin : LInv g mo out adm h11 := by
    rcases hq9 with ⟨hcd, hag, hE9, ho1⟩ | ⟨hne, e1, e2, e3⟩
    · exact turn_end hc9 hm0 hK hm11 (hf10.trans hf11) (by rw [(hqa hcd).2]; exact hag) (IV.agr (i_newGroup hV hcd) hag hE9) hE9
    · exact turn_end hc9 hm0 hK hm11 (hf10.trans hf11) (by rw [e2, (hqb hne).1]; exact agr_refl _) (by rw [e2]; exact hV) (by rw [e2]; exact hE)
  refine x_iload d_law_805 rfl ?_
  refine x_icmp_eq (tgt := 812) d_law_807 (by decide) hR hR (fun _ => ?_) (fun w => absurd rfl w)
  refine x_iload d_law_812 rfl ?_
  refine x_if_ne (tgt := 829) d_law_814 (by decide) hR (fun w => ?_) (fun w => ?_)
  · skip
    refine x_goto (tgt := 2849) d_law_829 (by decide) ?_
    exact (next h11 _ _ hfin).mono (by omega) (by omega)
  · have ho : o1 0 = (iI (vl_newGroup S ((xs (i + 1).toNat).toInt) ((xs (i + 2).toNat).toInt) ((xs (i + 3).toNat).toInt) ((xs (i + 4).toNat).toInt))).toInt64 := by
      rcases hq9 with ⟨_, _, _, ho1⟩ | ⟨hne, _⟩
      · exact ho1
      · exact absurd w hne
    have hout : h11 out = some (larr g 1 o1) := by rw [mfr_out hm0 hK hf11, mfr_out hm0 hK hf10]; exact hc9.2.2.1 out _ (hset_s _ _ _)
    refine x_aload_n d_law_817 rfl ?_
    refine x_iconst d_law_818 ?_
    refine x_lald (n := 1) d_law_819 hout (by decide) (by decide) (by decide) ?_
    refine x_iload d_law_820 rfl ?_
    refine x_i2l d_law_822 ?_
    refine x_lcmp d_law_823 ?_
    rw [show o1 (Int.toNat 0) = (iI (vl_newGroup S ((xs (i + 1).toNat).toInt) ((xs (i + 2).toNat).toInt) ((xs (i + 3).toNat).toInt) ((xs (i + 4).toNat).toInt))).toInt64 from ho, hz w, lg_cmp_self]
    refine x_if_eq (tgt := 829) d_law_824 (by decide) R32_0 (fun _ => ?_) (fun q => absurd rfl q)
    refine x_goto (tgt := 2849) d_law_829 (by decide) ?_
    exact (next h11 _ _ hfin).mono (by omega) (by omega)
theorem T_groupMemory {g : xG} {x mo out b L : Nat} {adm : Nat → Nat} {xs : Nat → Int32} {nm : String} {hh : List (Nat × Nat × Nat × Nat)} {Q : qP} {rc rs : Nat} {h : hp} {i : Int} {v5 v6 : Option Value} (hN : ncOk g) (hXs : va_X b L xs g.2.1 g.2.1.heap) (hb : b < g.2.1.heap.size) (hL : L ≤ 2560) (i0 : 0 ≤ i) (i1 : i + 5 ≤ L) (hx : x = g.2.2.2.2 5) (hI9 : LInv g mo out adm h) (next : ∀ h' v5 v6, LInv g mo out adm h' → xW g (M_law nm hh) Q mN rc rs h' 2849 [some (.ref b), some (.ref x), some (.ref mo), some (.ref out), some (.int (iI i)), v5, v6] []) : xW g (M_law nm hh) Q mN (rc + 226) (rs + 7404) h 832 [some (.ref b), some (.ref x), some (.ref mo), some (.ref out), some (.int (iI i)), v5, v6] [] := by
  obtain ⟨ad, S, K, o, tt, hc, hm0, hK, hV, hE⟩ := hI9
  have hx2 : ad 0 0 = x := hc.2.2.2.2.2.trans hx.symm
  subst hx2
  obtain ⟨hI, hX9⟩ := id hV
  have h0 := hE.h
  refine x_aload_n d_law_832 rfl ?_
  refine x_aload_n d_law_833 rfl ?_
  refine x_iload d_law_834 rfl ?_
  refine x_iconst d_law_836 ?_
  refine x_iadd d_law_837 ?_
  refine x_sld hXs hb hL (by omega) (by omega) d_law_838 ?_
  refine x_aload_n d_law_839 rfl ?_
  refine x_callSWC (rc' := rc + 225) (rs' := rs + 7398) d_law_840 (q_law_184 nm hh) s_L_groupMemory (t_L_groupMemory hN hI hE (toIntR _) h hc) rfl (by rfl) (Nat.le_of_ble_eq_true rfl) (by show rc + 226 = rc + 225 + 1; omega) (by show rs + 7404 = rs + 7398 + 6; omega) ?_
  rintro _ h9 ⟨rfl, ad9, S9, o1, hc9, hq9⟩
  refine x_istore d_law_843 (Nat.le_of_ble_eq_true rfl) ?_
  have hm9 := mdl_in hc9 hm0 hK
  refine x_aload_n d_law_845 rfl ?_
  refine x_aload_n d_law_846 rfl ?_
  refine x_iload d_law_847 rfl ?_
  refine x_iconst d_law_849 ?_
  refine x_iadd d_law_850 ?_
  refine x_sld hXs hb hL (by omega) (by omega) d_law_851 ?_
  refine x_callVC (rc' := rc + 225) (rs' := rs + 7398) (r := (RX7, TX7, 28)) d_law_852 (q_law_186 nm hh) s_m_groupMemory v_m_groupMemory (t_m_groupMemory hI (toIntR _) h9 hm9) hm9.1 rfl rfl rfl rfl (Nat.le_of_ble_eq_true rfl) rfl rfl (fun _ _ z => False.elim z) ?_
  have hR : R32 (cd_groupMemory S ((xs (i + 1).toNat).toInt)) := by
    unfold cd_groupMemory 
    (repeat' split) <;> (unfold R32; omega)
  rintro v2 h10 ⟨_, S', ⟨rfl, hqa, hqb⟩, hm10, hf10⟩
  have hz : ∃ z : Int32, v2 = some (.int z) ∧ ((cd_groupMemory S ((xs (i + 1).toNat).toInt)) = 0 → z = iI (vl_groupMemory S ((xs (i + 1).toNat).toInt))) := by
    by_cases z0 : (cd_groupMemory S ((xs (i + 1).toNat).toInt)) = 0
    · exact ⟨_, (hqa z0).1, fun _ => rfl⟩
    · obtain ⟨_, z, hz⟩ := hqb z0
      exact ⟨z, hz, fun w => absurd w z0⟩
  obtain ⟨z, rfl, hz⟩ := hz
  refine x_istore d_law_855 (Nat.le_of_ble_eq_true rfl) ?_
  refine x_aload_n d_law_857 rfl ?_
  refine x_callVC (rc' := rc + 225) (rs' := rs + 7398) (r := (RX7, TX7, 28)) d_law_858 (q_law_153 nm hh) s_m_thrown v_m_thrown (t_m_thrown h10 hm10) hm10.1 rfl rfl rfl rfl (Nat.le_of_ble_eq_true rfl) rfl rfl (fun _ _ z => False.elim z) ?_
  rintro _ h11 ⟨_, _, ⟨rfl, rfl, rfl⟩, hm11, hf11⟩
  have hfin : LInv g mo out adm h11 := by
    rcases hq9 with ⟨hcd, hag, hE9, ho1⟩ | ⟨hne, e1, e2, e3⟩
    · exact turn_end hc9 hm0 hK hm11 (hf10.trans hf11) (by rw [(hqa hcd).2]; exact hag) (IV.agr hV hag hE9) hE9
    · exact turn_end hc9 hm0 hK hm11 (hf10.trans hf11) (by rw [e2, (hqb hne).1]; exact agr_refl _) (by rw [e2]; exact hV) (by rw [e2]; exact hE)
  refine x_iload d_law_861 rfl ?_
  refine x_icmp_eq (tgt := 868) d_law_863 (by decide) hR hR (fun _ => ?_) (fun w => absurd rfl w)
  refine x_iload d_law_868 rfl ?_
  refine x_if_ne (tgt := 885) d_law_870 (by decide) hR (fun w => ?_) (fun w => ?_)
  · skip
    refine x_goto (tgt := 2849) d_law_885 (by decide) ?_
    exact (next h11 _ _ hfin).mono (by omega) (by omega)
  · have ho : o1 0 = (iI (vl_groupMemory S ((xs (i + 1).toNat).toInt))).toInt64 := by
      rcases hq9 with ⟨_, _, _, ho1⟩ | ⟨hne, _⟩
      · exact ho1
      · exact absurd w hne
    have hout : h11 out = some (larr g 1 o1) := by rw [mfr_out hm0 hK hf11, mfr_out hm0 hK hf10]; exact hc9.2.2.1 out _ (hset_s _ _ _)
    refine x_aload_n d_law_873 rfl ?_
    refine x_iconst d_law_874 ?_
    refine x_lald (n := 1) d_law_875 hout (by decide) (by decide) (by decide) ?_
    refine x_iload d_law_876 rfl ?_
    refine x_i2l d_law_878 ?_
    refine x_lcmp d_law_879 ?_
    rw [show o1 (Int.toNat 0) = (iI (vl_groupMemory S ((xs (i + 1).toNat).toInt))).toInt64 from ho, hz w, lg_cmp_self]
    refine x_if_eq (tgt := 885) d_law_880 (by decide) R32_0 (fun _ => ?_) (fun q => absurd rfl q)
    refine x_goto (tgt := 2849) d_law_885 (by decide) ?_
    exact (next h11 _ _ hfin).mono (by omega) (by omega)
theorem T_groupProcesses {g : xG} {x mo out b L : Nat} {adm : Nat → Nat} {xs : Nat → Int32} {nm : String} {hh : List (Nat × Nat × Nat × Nat)} {Q : qP} {rc rs : Nat} {h : hp} {i : Int} {v5 v6 : Option Value} (hN : ncOk g) (hXs : va_X b L xs g.2.1 g.2.1.heap) (hb : b < g.2.1.heap.size) (hL : L ≤ 2560) (i0 : 0 ≤ i) (i1 : i + 5 ≤ L) (hx : x = g.2.2.2.2 5) (hI9 : LInv g mo out adm h) (next : ∀ h' v5 v6, LInv g mo out adm h' → xW g (M_law nm hh) Q mN rc rs h' 2849 [some (.ref b), some (.ref x), some (.ref mo), some (.ref out), some (.int (iI i)), v5, v6] []) : xW g (M_law nm hh) Q mN (rc + 226) (rs + 7404) h 888 [some (.ref b), some (.ref x), some (.ref mo), some (.ref out), some (.int (iI i)), v5, v6] [] := by
  obtain ⟨ad, S, K, o, tt, hc, hm0, hK, hV, hE⟩ := hI9
  have hx2 : ad 0 0 = x := hc.2.2.2.2.2.trans hx.symm
  subst hx2
  obtain ⟨hI, hX9⟩ := id hV
  have h0 := hE.h
  refine x_aload_n d_law_888 rfl ?_
  refine x_aload_n d_law_889 rfl ?_
  refine x_iload d_law_890 rfl ?_
  refine x_iconst d_law_892 ?_
  refine x_iadd d_law_893 ?_
  refine x_sld hXs hb hL (by omega) (by omega) d_law_894 ?_
  refine x_aload_n d_law_895 rfl ?_
  refine x_callSWC (rc' := rc + 225) (rs' := rs + 7398) d_law_896 (q_law_187 nm hh) s_L_groupProcesses (t_L_groupProcesses hN hI hE (toIntR _) h hc) rfl (by rfl) (Nat.le_of_ble_eq_true rfl) (by show rc + 226 = rc + 225 + 1; omega) (by show rs + 7404 = rs + 7398 + 6; omega) ?_
  rintro _ h9 ⟨rfl, ad9, S9, o1, hc9, hq9⟩
  refine x_istore d_law_899 (Nat.le_of_ble_eq_true rfl) ?_
  have hm9 := mdl_in hc9 hm0 hK
  refine x_aload_n d_law_901 rfl ?_
  refine x_aload_n d_law_902 rfl ?_
  refine x_iload d_law_903 rfl ?_
  refine x_iconst d_law_905 ?_
  refine x_iadd d_law_906 ?_
  refine x_sld hXs hb hL (by omega) (by omega) d_law_907 ?_
  refine x_callVC (rc' := rc + 225) (rs' := rs + 7398) (r := (RX7, TX7, 28)) d_law_908 (q_law_189 nm hh) s_m_groupProcesses v_m_groupProcesses (t_m_groupProcesses hI (toIntR _) h9 hm9) hm9.1 rfl rfl rfl rfl (Nat.le_of_ble_eq_true rfl) rfl rfl (fun _ _ z => False.elim z) ?_
  have hR : R32 (cd_groupProcesses S ((xs (i + 1).toNat).toInt)) := by
    unfold cd_groupProcesses 
    (repeat' split) <;> (unfold R32; omega)
  rintro v2 h10 ⟨_, S', ⟨rfl, hqa, hqb⟩, hm10, hf10⟩
  have hz : ∃ z : Int32, v2 = some (.int z) ∧ ((cd_groupProcesses S ((xs (i + 1).toNat).toInt)) = 0 → z = iI (vl_groupProcesses S ((xs (i + 1).toNat).toInt))) := by
    by_cases z0 : (cd_groupProcesses S ((xs (i + 1).toNat).toInt)) = 0
    · exact ⟨_, (hqa z0).1, fun _ => rfl⟩
    · obtain ⟨_, z, hz⟩ := hqb z0
      exact ⟨z, hz, fun w => absurd w z0⟩
  obtain ⟨z, rfl, hz⟩ := hz
  refine x_istore d_law_911 (Nat.le_of_ble_eq_true rfl) ?_
  refine x_aload_n d_law_913 rfl ?_
  refine x_callVC (rc' := rc + 225) (rs' := rs + 7398) (r := (RX7, TX7, 28)) d_law_914 (q_law_153 nm hh) s_m_thrown v_m_thrown (t_m_thrown h10 hm10) hm10.1 rfl rfl rfl rfl (Nat.le_of_ble_eq_true rfl) rfl rfl (fun _ _ z => False.elim z) ?_
  rintro _ h11 ⟨_, _, ⟨rfl, rfl, rfl⟩, hm11, hf11⟩
  have hfin : LInv g mo out adm h11 := by
    rcases hq9 with ⟨hcd, hag, hE9, ho1⟩ | ⟨hne, e1, e2, e3⟩
    · exact turn_end hc9 hm0 hK hm11 (hf10.trans hf11) (by rw [(hqa hcd).2]; exact hag) (IV.agr hV hag hE9) hE9
    · exact turn_end hc9 hm0 hK hm11 (hf10.trans hf11) (by rw [e2, (hqb hne).1]; exact agr_refl _) (by rw [e2]; exact hV) (by rw [e2]; exact hE)
  refine x_iload d_law_917 rfl ?_
  refine x_icmp_eq (tgt := 924) d_law_919 (by decide) hR hR (fun _ => ?_) (fun w => absurd rfl w)
  refine x_iload d_law_924 rfl ?_
  refine x_if_ne (tgt := 941) d_law_926 (by decide) hR (fun w => ?_) (fun w => ?_)
  · skip
    refine x_goto (tgt := 2849) d_law_941 (by decide) ?_
    exact (next h11 _ _ hfin).mono (by omega) (by omega)
  · have ho : o1 0 = (iI (vl_groupProcesses S ((xs (i + 1).toNat).toInt))).toInt64 := by
      rcases hq9 with ⟨_, _, _, ho1⟩ | ⟨hne, _⟩
      · exact ho1
      · exact absurd w hne
    have hout : h11 out = some (larr g 1 o1) := by rw [mfr_out hm0 hK hf11, mfr_out hm0 hK hf10]; exact hc9.2.2.1 out _ (hset_s _ _ _)
    refine x_aload_n d_law_929 rfl ?_
    refine x_iconst d_law_930 ?_
    refine x_lald (n := 1) d_law_931 hout (by decide) (by decide) (by decide) ?_
    refine x_iload d_law_932 rfl ?_
    refine x_i2l d_law_934 ?_
    refine x_lcmp d_law_935 ?_
    rw [show o1 (Int.toNat 0) = (iI (vl_groupProcesses S ((xs (i + 1).toNat).toInt))).toInt64 from ho, hz w, lg_cmp_self]
    refine x_if_eq (tgt := 941) d_law_936 (by decide) R32_0 (fun _ => ?_) (fun q => absurd rfl q)
    refine x_goto (tgt := 2849) d_law_941 (by decide) ?_
    exact (next h11 _ _ hfin).mono (by omega) (by omega)
theorem T_run {g : xG} {x mo out b L : Nat} {adm : Nat → Nat} {xs : Nat → Int32} {nm : String} {hh : List (Nat × Nat × Nat × Nat)} {Q : qP} {rc rs : Nat} {h : hp} {i : Int} {v5 v6 : Option Value} (hN : ncOk g) (hXs : va_X b L xs g.2.1 g.2.1.heap) (hb : b < g.2.1.heap.size) (hL : L ≤ 2560) (i0 : 0 ≤ i) (i1 : i + 5 ≤ L) (hx : x = g.2.2.2.2 5) (hI9 : LInv g mo out adm h) (next : ∀ h' v5 v6, LInv g mo out adm h' → xW g (M_law nm hh) Q mN rc rs h' 2849 [some (.ref b), some (.ref x), some (.ref mo), some (.ref out), some (.int (iI i)), v5, v6] []) : xW g (M_law nm hh) Q mN (rc + 226) (rs + 7404) h 944 [some (.ref b), some (.ref x), some (.ref mo), some (.ref out), some (.int (iI i)), v5, v6] [] := by
  obtain ⟨ad, S, K, o, tt, hc, hm0, hK, hV, hE⟩ := hI9
  have hx2 : ad 0 0 = x := hc.2.2.2.2.2.trans hx.symm
  subst hx2
  obtain ⟨hI, hX9⟩ := id hV
  have h0 := hE.h
  refine x_aload_n d_law_944 rfl ?_
  refine x_aload_n d_law_945 rfl ?_
  refine x_iload d_law_946 rfl ?_
  refine x_iconst d_law_948 ?_
  refine x_iadd d_law_949 ?_
  refine x_sld hXs hb hL (by omega) (by omega) d_law_950 ?_
  refine x_aload_n d_law_951 rfl ?_
  refine x_iload d_law_952 rfl ?_
  refine x_iconst d_law_954 ?_
  refine x_iadd d_law_955 ?_
  refine x_sld hXs hb hL (by omega) (by omega) d_law_956 ?_
  refine x_aload_n d_law_957 rfl ?_
  refine x_iload d_law_958 rfl ?_
  refine x_iconst d_law_960 ?_
  refine x_iadd d_law_961 ?_
  refine x_sld hXs hb hL (by omega) (by omega) d_law_962 ?_
  refine x_aload_n d_law_963 rfl ?_
  refine x_iload d_law_964 rfl ?_
  refine x_iconst d_law_966 ?_
  refine x_iadd d_law_967 ?_
  refine x_sld hXs hb hL (by omega) (by omega) d_law_968 ?_
  refine x_aload_n d_law_969 rfl ?_
  refine x_callSWC (rc' := rc + 215) (rs' := rs + 7272) d_law_970 (q_law_190 nm hh) s_L_run (t_L_run hN hI hE (toIntR _) (toIntR _) (toIntR _) (toIntR _) h hc) rfl (by rfl) (Nat.le_of_ble_eq_true rfl) (by show rc + 226 = rc + 215 + 11; omega) (by show rs + 7404 = rs + 7272 + 132; omega) ?_
  rintro _ h9 ⟨rfl, ad9, S9, o1, hc9, hq9⟩
  refine x_istore d_law_973 (Nat.le_of_ble_eq_true rfl) ?_
  have hm9 := mdl_in hc9 hm0 hK
  refine x_aload_n d_law_975 rfl ?_
  refine x_aload_n d_law_976 rfl ?_
  refine x_iload d_law_977 rfl ?_
  refine x_iconst d_law_979 ?_
  refine x_iadd d_law_980 ?_
  refine x_sld hXs hb hL (by omega) (by omega) d_law_981 ?_
  refine x_aload_n d_law_982 rfl ?_
  refine x_iload d_law_983 rfl ?_
  refine x_iconst d_law_985 ?_
  refine x_iadd d_law_986 ?_
  refine x_sld hXs hb hL (by omega) (by omega) d_law_987 ?_
  refine x_aload_n d_law_988 rfl ?_
  refine x_iload d_law_989 rfl ?_
  refine x_iconst d_law_991 ?_
  refine x_iadd d_law_992 ?_
  refine x_sld hXs hb hL (by omega) (by omega) d_law_993 ?_
  refine x_aload_n d_law_994 rfl ?_
  refine x_iload d_law_995 rfl ?_
  refine x_iconst d_law_997 ?_
  refine x_iadd d_law_998 ?_
  refine x_sld hXs hb hL (by omega) (by omega) d_law_999 ?_
  refine x_callVC (rc' := rc + 215) (rs' := rs + 7272) (r := (RX7, TX7, 28)) d_law_1000 (q_law_192 nm hh) s_m_run v_m_run (t_m_run hI (toIntR _) (toIntR _) (toIntR _) (toIntR _) h9 hm9) hm9.1 rfl rfl rfl rfl (Nat.le_of_ble_eq_true rfl) rfl rfl (fun _ _ z => False.elim z) ?_
  have hR : R32 (cd_run S ((xs (i + 1).toNat).toInt) ((xs (i + 2).toNat).toInt) ((xs (i + 3).toNat).toInt) ((xs (i + 4).toNat).toInt)) := by
    unfold cd_run 
    (repeat' split) <;> (unfold R32; omega)
  rintro v2 h10 ⟨_, S', ⟨rfl, hqa, hqb⟩, hm10, hf10⟩
  have hz : ∃ z : Int32, v2 = some (.int z) ∧ ((cd_run S ((xs (i + 1).toNat).toInt) ((xs (i + 2).toNat).toInt) ((xs (i + 3).toNat).toInt) ((xs (i + 4).toNat).toInt)) = 0 → z = iI (vl_run S ((xs (i + 1).toNat).toInt) ((xs (i + 2).toNat).toInt) ((xs (i + 3).toNat).toInt) ((xs (i + 4).toNat).toInt))) := by
    by_cases z0 : (cd_run S ((xs (i + 1).toNat).toInt) ((xs (i + 2).toNat).toInt) ((xs (i + 3).toNat).toInt) ((xs (i + 4).toNat).toInt)) = 0
    · exact ⟨_, (hqa z0).1, fun _ => rfl⟩
    · obtain ⟨_, z, hz⟩ := hqb z0
      exact ⟨z, hz, fun w => absurd w z0⟩
  obtain ⟨z, rfl, hz⟩ := hz
  refine x_istore d_law_1003 (Nat.le_of_ble_eq_true rfl) ?_
  refine x_aload_n d_law_1005 rfl ?_
  refine x_callVC (rc' := rc + 215) (rs' := rs + 7272) (r := (RX7, TX7, 28)) d_law_1006 (q_law_153 nm hh) s_m_thrown v_m_thrown (t_m_thrown h10 hm10) hm10.1 rfl rfl rfl rfl (Nat.le_of_ble_eq_true rfl) rfl rfl (fun _ _ z => False.elim z) ?_
  rintro _ h11 ⟨_, _, ⟨rfl, rfl, rfl⟩, hm11, hf11⟩
  have hfin : LInv g mo out adm h11 := by
    rcases hq9 with ⟨hcd, hag, hE9, ho1⟩ | ⟨hne, e1, e2, e3⟩
    · exact turn_end hc9 hm0 hK hm11 (hf10.trans hf11) (by rw [(hqa hcd).2]; exact hag) (IV.agr (i_run hV hcd) hag hE9) hE9
    · exact turn_end hc9 hm0 hK hm11 (hf10.trans hf11) (by rw [e2, (hqb hne).1]; exact agr_refl _) (by rw [e2]; exact hV) (by rw [e2]; exact hE)
  refine x_iload d_law_1009 rfl ?_
  refine x_icmp_eq (tgt := 1016) d_law_1011 (by decide) hR hR (fun _ => ?_) (fun w => absurd rfl w)
  refine x_iload d_law_1016 rfl ?_
  refine x_if_ne (tgt := 1033) d_law_1018 (by decide) hR (fun w => ?_) (fun w => ?_)
  · skip
    refine x_goto (tgt := 2849) d_law_1033 (by decide) ?_
    exact (next h11 _ _ hfin).mono (by omega) (by omega)
  · have ho : o1 0 = (iI (vl_run S ((xs (i + 1).toNat).toInt) ((xs (i + 2).toNat).toInt) ((xs (i + 3).toNat).toInt) ((xs (i + 4).toNat).toInt))).toInt64 := by
      rcases hq9 with ⟨_, _, _, ho1⟩ | ⟨hne, _⟩
      · exact ho1
      · exact absurd w hne
    have hout : h11 out = some (larr g 1 o1) := by rw [mfr_out hm0 hK hf11, mfr_out hm0 hK hf10]; exact hc9.2.2.1 out _ (hset_s _ _ _)
    refine x_aload_n d_law_1021 rfl ?_
    refine x_iconst d_law_1022 ?_
    refine x_lald (n := 1) d_law_1023 hout (by decide) (by decide) (by decide) ?_
    refine x_iload d_law_1024 rfl ?_
    refine x_i2l d_law_1026 ?_
    refine x_lcmp d_law_1027 ?_
    rw [show o1 (Int.toNat 0) = (iI (vl_run S ((xs (i + 1).toNat).toInt) ((xs (i + 2).toNat).toInt) ((xs (i + 3).toNat).toInt) ((xs (i + 4).toNat).toInt))).toInt64 from ho, hz w, lg_cmp_self]
    refine x_if_eq (tgt := 1033) d_law_1028 (by decide) R32_0 (fun _ => ?_) (fun q => absurd rfl q)
    refine x_goto (tgt := 2849) d_law_1033 (by decide) ?_
    exact (next h11 _ _ hfin).mono (by omega) (by omega)
theorem T_pause {g : xG} {x mo out b L : Nat} {adm : Nat → Nat} {xs : Nat → Int32} {nm : String} {hh : List (Nat × Nat × Nat × Nat)} {Q : qP} {rc rs : Nat} {h : hp} {i : Int} {v5 v6 : Option Value} (hN : ncOk g) (hXs : va_X b L xs g.2.1 g.2.1.heap) (hb : b < g.2.1.heap.size) (hL : L ≤ 2560) (i0 : 0 ≤ i) (i1 : i + 5 ≤ L) (hx : x = g.2.2.2.2 5) (hI9 : LInv g mo out adm h) (next : ∀ h' v5 v6, LInv g mo out adm h' → xW g (M_law nm hh) Q mN rc rs h' 2849 [some (.ref b), some (.ref x), some (.ref mo), some (.ref out), some (.int (iI i)), v5, v6] []) : xW g (M_law nm hh) Q mN (rc + 226) (rs + 7404) h 1036 [some (.ref b), some (.ref x), some (.ref mo), some (.ref out), some (.int (iI i)), v5, v6] [] := by
  obtain ⟨ad, S, K, o, tt, hc, hm0, hK, hV, hE⟩ := hI9
  have hx2 : ad 0 0 = x := hc.2.2.2.2.2.trans hx.symm
  subst hx2
  obtain ⟨hI, hX9⟩ := id hV
  have h0 := hE.h
  refine x_aload_n d_law_1036 rfl ?_
  refine x_aload_n d_law_1037 rfl ?_
  refine x_iload d_law_1038 rfl ?_
  refine x_iconst d_law_1040 ?_
  refine x_iadd d_law_1041 ?_
  refine x_sld hXs hb hL (by omega) (by omega) d_law_1042 ?_
  refine x_callSWC (rc' := rc + 224) (rs' := rs + 7392) d_law_1043 (q_law_193 nm hh) s_L_pause (t_L_pause hN hI hE (toIntR _) h hc) rfl (by rfl) (Nat.le_of_ble_eq_true rfl) (by show rc + 226 = rc + 224 + 2; omega) (by show rs + 7404 = rs + 7392 + 12; omega) ?_
  rintro _ h9 ⟨rfl, ad9, S9, hc9, hq9⟩
  refine x_istore d_law_1046 (Nat.le_of_ble_eq_true rfl) ?_
  have hm9 := mdl_in hc9 hm0 hK
  refine x_aload_n d_law_1048 rfl ?_
  refine x_aload_n d_law_1049 rfl ?_
  refine x_iload d_law_1050 rfl ?_
  refine x_iconst d_law_1052 ?_
  refine x_iadd d_law_1053 ?_
  refine x_sld hXs hb hL (by omega) (by omega) d_law_1054 ?_
  refine x_callVC (rc' := rc + 224) (rs' := rs + 7392) (r := (RX7, TX7, 28)) d_law_1055 (q_law_196 nm hh) s_m_pause v_m_pause (t_m_pause hI (toIntR _) h9 hm9) hm9.1 rfl rfl rfl rfl (Nat.le_of_ble_eq_true rfl) rfl rfl (fun _ _ z => False.elim z) ?_
  have hR : R32 (cd_pause S ((xs (i + 1).toNat).toInt)) := by
    unfold cd_pause ist 
    (repeat' split) <;> (unfold R32; omega)
  rintro _ h10 ⟨_, S', ⟨rfl, rfl, hqa, hqb⟩, hm10, hf10⟩
  refine x_aload_n d_law_1058 rfl ?_
  refine x_callVC (rc' := rc + 224) (rs' := rs + 7392) (r := (RX7, TX7, 28)) d_law_1059 (q_law_153 nm hh) s_m_thrown v_m_thrown (t_m_thrown h10 hm10) hm10.1 rfl rfl rfl rfl (Nat.le_of_ble_eq_true rfl) rfl rfl (fun _ _ z => False.elim z) ?_
  rintro _ h11 ⟨_, _, ⟨rfl, rfl, rfl⟩, hm11, hf11⟩
  have hfin : LInv g mo out adm h11 := by
    rcases hq9 with ⟨hcd, hag, hE9⟩ | ⟨hne, e1, e2⟩
    · exact turn_end hc9 hm0 hK hm11 (hf10.trans hf11) (by rw [(hqa hcd)]; exact hag) (IV.agr (i_pause hV hcd) hag hE9) hE9
    · exact turn_end hc9 hm0 hK hm11 (hf10.trans hf11) (by rw [e2, (hqb hne)]; exact agr_refl _) (by rw [e2]; exact hV) (by rw [e2]; exact hE)
  refine x_iload d_law_1062 rfl ?_
  refine x_icmp_eq (tgt := 1069) d_law_1064 (by decide) hR hR (fun _ => ?_) (fun w => absurd rfl w)
  refine x_goto (tgt := 2849) d_law_1069 (by decide) ?_
  exact (next h11 _ _ hfin).mono (by omega) (by omega)
theorem T_resume {g : xG} {x mo out b L : Nat} {adm : Nat → Nat} {xs : Nat → Int32} {nm : String} {hh : List (Nat × Nat × Nat × Nat)} {Q : qP} {rc rs : Nat} {h : hp} {i : Int} {v5 v6 : Option Value} (hN : ncOk g) (hXs : va_X b L xs g.2.1 g.2.1.heap) (hb : b < g.2.1.heap.size) (hL : L ≤ 2560) (i0 : 0 ≤ i) (i1 : i + 5 ≤ L) (hx : x = g.2.2.2.2 5) (hI9 : LInv g mo out adm h) (next : ∀ h' v5 v6, LInv g mo out adm h' → xW g (M_law nm hh) Q mN rc rs h' 2849 [some (.ref b), some (.ref x), some (.ref mo), some (.ref out), some (.int (iI i)), v5, v6] []) : xW g (M_law nm hh) Q mN (rc + 226) (rs + 7404) h 1072 [some (.ref b), some (.ref x), some (.ref mo), some (.ref out), some (.int (iI i)), v5, v6] [] := by
  obtain ⟨ad, S, K, o, tt, hc, hm0, hK, hV, hE⟩ := hI9
  have hx2 : ad 0 0 = x := hc.2.2.2.2.2.trans hx.symm
  subst hx2
  obtain ⟨hI, hX9⟩ := id hV
  have h0 := hE.h
  refine x_aload_n d_law_1072 rfl ?_
  refine x_aload_n d_law_1073 rfl ?_
  refine x_iload d_law_1074 rfl ?_
  refine x_iconst d_law_1076 ?_
  refine x_iadd d_law_1077 ?_
  refine x_sld hXs hb hL (by omega) (by omega) d_law_1078 ?_
  refine x_callSWC (rc' := rc + 224) (rs' := rs + 7392) d_law_1079 (q_law_197 nm hh) s_L_resume (t_L_resume hN hI hE (toIntR _) h hc) rfl (by rfl) (Nat.le_of_ble_eq_true rfl) (by show rc + 226 = rc + 224 + 2; omega) (by show rs + 7404 = rs + 7392 + 12; omega) ?_
  rintro _ h9 ⟨rfl, ad9, S9, hc9, hq9⟩
  refine x_istore d_law_1082 (Nat.le_of_ble_eq_true rfl) ?_
  have hm9 := mdl_in hc9 hm0 hK
  refine x_aload_n d_law_1084 rfl ?_
  refine x_aload_n d_law_1085 rfl ?_
  refine x_iload d_law_1086 rfl ?_
  refine x_iconst d_law_1088 ?_
  refine x_iadd d_law_1089 ?_
  refine x_sld hXs hb hL (by omega) (by omega) d_law_1090 ?_
  refine x_callVC (rc' := rc + 224) (rs' := rs + 7392) (r := (RX7, TX7, 28)) d_law_1091 (q_law_199 nm hh) s_m_resume v_m_resume (t_m_resume hI (toIntR _) h9 hm9) hm9.1 rfl rfl rfl rfl (Nat.le_of_ble_eq_true rfl) rfl rfl (fun _ _ z => False.elim z) ?_
  have hR : R32 (cd_resume S ((xs (i + 1).toNat).toInt)) := by
    unfold cd_resume ist 
    (repeat' split) <;> (unfold R32; omega)
  rintro _ h10 ⟨_, S', ⟨rfl, rfl, hqa, hqb⟩, hm10, hf10⟩
  refine x_aload_n d_law_1094 rfl ?_
  refine x_callVC (rc' := rc + 224) (rs' := rs + 7392) (r := (RX7, TX7, 28)) d_law_1095 (q_law_153 nm hh) s_m_thrown v_m_thrown (t_m_thrown h10 hm10) hm10.1 rfl rfl rfl rfl (Nat.le_of_ble_eq_true rfl) rfl rfl (fun _ _ z => False.elim z) ?_
  rintro _ h11 ⟨_, _, ⟨rfl, rfl, rfl⟩, hm11, hf11⟩
  have hfin : LInv g mo out adm h11 := by
    rcases hq9 with ⟨hcd, hag, hE9⟩ | ⟨hne, e1, e2⟩
    · exact turn_end hc9 hm0 hK hm11 (hf10.trans hf11) (by rw [(hqa hcd)]; exact hag) (IV.agr (i_resume hV hcd) hag hE9) hE9
    · exact turn_end hc9 hm0 hK hm11 (hf10.trans hf11) (by rw [e2, (hqb hne)]; exact agr_refl _) (by rw [e2]; exact hV) (by rw [e2]; exact hE)
  refine x_iload d_law_1098 rfl ?_
  refine x_icmp_eq (tgt := 1105) d_law_1100 (by decide) hR hR (fun _ => ?_) (fun w => absurd rfl w)
  refine x_goto (tgt := 2849) d_law_1105 (by decide) ?_
  exact (next h11 _ _ hfin).mono (by omega) (by omega)
theorem T_stop {g : xG} {x mo out b L : Nat} {adm : Nat → Nat} {xs : Nat → Int32} {nm : String} {hh : List (Nat × Nat × Nat × Nat)} {Q : qP} {rc rs : Nat} {h : hp} {i : Int} {v5 v6 : Option Value} (hN : ncOk g) (hXs : va_X b L xs g.2.1 g.2.1.heap) (hb : b < g.2.1.heap.size) (hL : L ≤ 2560) (i0 : 0 ≤ i) (i1 : i + 5 ≤ L) (hx : x = g.2.2.2.2 5) (hI9 : LInv g mo out adm h) (next : ∀ h' v5 v6, LInv g mo out adm h' → xW g (M_law nm hh) Q mN rc rs h' 2849 [some (.ref b), some (.ref x), some (.ref mo), some (.ref out), some (.int (iI i)), v5, v6] []) : xW g (M_law nm hh) Q mN (rc + 226) (rs + 7404) h 1108 [some (.ref b), some (.ref x), some (.ref mo), some (.ref out), some (.int (iI i)), v5, v6] [] := by
  obtain ⟨ad, S, K, o, tt, hc, hm0, hK, hV, hE⟩ := hI9
  have hx2 : ad 0 0 = x := hc.2.2.2.2.2.trans hx.symm
  subst hx2
  obtain ⟨hI, hX9⟩ := id hV
  have h0 := hE.h
  refine x_aload_n d_law_1108 rfl ?_
  refine x_aload_n d_law_1109 rfl ?_
  refine x_iload d_law_1110 rfl ?_
  refine x_iconst d_law_1112 ?_
  refine x_iadd d_law_1113 ?_
  refine x_sld hXs hb hL (by omega) (by omega) d_law_1114 ?_
  refine x_aload_n d_law_1115 rfl ?_
  refine x_callSWC (rc' := rc + 224) (rs' := rs + 7392) d_law_1116 (q_law_200 nm hh) s_L_stop (t_L_stop hN hI hE (toIntR _) h hc) rfl (by rfl) (Nat.le_of_ble_eq_true rfl) (by show rc + 226 = rc + 224 + 2; omega) (by show rs + 7404 = rs + 7392 + 12; omega) ?_
  rintro _ h9 ⟨rfl, ad9, S9, o1, hc9, hq9⟩
  refine x_istore d_law_1119 (Nat.le_of_ble_eq_true rfl) ?_
  have hm9 := mdl_in hc9 hm0 hK
  refine x_aload_n d_law_1121 rfl ?_
  refine x_aload_n d_law_1122 rfl ?_
  refine x_iload d_law_1123 rfl ?_
  refine x_iconst d_law_1125 ?_
  refine x_iadd d_law_1126 ?_
  refine x_sld hXs hb hL (by omega) (by omega) d_law_1127 ?_
  refine x_callVC (rc' := rc + 224) (rs' := rs + 7392) (r := (RX7, TX7, 28)) d_law_1128 (q_law_202 nm hh) s_m_stop v_m_stop (t_m_stop hI (toIntR _) h9 hm9) hm9.1 rfl rfl rfl rfl (Nat.le_of_ble_eq_true rfl) rfl rfl (fun _ _ z => False.elim z) ?_
  have hR : R32 (cd_stop S ((xs (i + 1).toNat).toInt)) := by
    unfold cd_stop 
    (repeat' split) <;> (unfold R32; omega)
  rintro v2 h10 ⟨_, S', ⟨rfl, hqa, hqb⟩, hm10, hf10⟩
  have hz : ∃ z : Int32, v2 = some (.int z) ∧ ((cd_stop S ((xs (i + 1).toNat).toInt)) = 0 → z = iI (vl_stop S ((xs (i + 1).toNat).toInt))) := by
    by_cases z0 : (cd_stop S ((xs (i + 1).toNat).toInt)) = 0
    · exact ⟨_, (hqa z0).1, fun _ => rfl⟩
    · obtain ⟨_, z, hz⟩ := hqb z0
      exact ⟨z, hz, fun w => absurd w z0⟩
  obtain ⟨z, rfl, hz⟩ := hz
  refine x_istore d_law_1131 (Nat.le_of_ble_eq_true rfl) ?_
  refine x_aload_n d_law_1133 rfl ?_
  refine x_callVC (rc' := rc + 224) (rs' := rs + 7392) (r := (RX7, TX7, 28)) d_law_1134 (q_law_153 nm hh) s_m_thrown v_m_thrown (t_m_thrown h10 hm10) hm10.1 rfl rfl rfl rfl (Nat.le_of_ble_eq_true rfl) rfl rfl (fun _ _ z => False.elim z) ?_
  rintro _ h11 ⟨_, _, ⟨rfl, rfl, rfl⟩, hm11, hf11⟩
  have hfin : LInv g mo out adm h11 := by
    rcases hq9 with ⟨hcd, hag, hE9, ho1⟩ | ⟨hne, e1, e2, e3⟩
    · exact turn_end hc9 hm0 hK hm11 (hf10.trans hf11) (by rw [(hqa hcd).2]; exact hag) (IV.agr (i_stop hV hcd) hag hE9) hE9
    · exact turn_end hc9 hm0 hK hm11 (hf10.trans hf11) (by rw [e2, (hqb hne).1]; exact agr_refl _) (by rw [e2]; exact hV) (by rw [e2]; exact hE)
  refine x_iload d_law_1137 rfl ?_
  refine x_icmp_eq (tgt := 1144) d_law_1139 (by decide) hR hR (fun _ => ?_) (fun w => absurd rfl w)
  refine x_iload d_law_1144 rfl ?_
  refine x_if_ne (tgt := 1161) d_law_1146 (by decide) hR (fun w => ?_) (fun w => ?_)
  · skip
    refine x_goto (tgt := 2849) d_law_1161 (by decide) ?_
    exact (next h11 _ _ hfin).mono (by omega) (by omega)
  · have ho : o1 0 = (iI (vl_stop S ((xs (i + 1).toNat).toInt))).toInt64 := by
      rcases hq9 with ⟨_, _, _, ho1⟩ | ⟨hne, _⟩
      · exact ho1
      · exact absurd w hne
    have hout : h11 out = some (larr g 1 o1) := by rw [mfr_out hm0 hK hf11, mfr_out hm0 hK hf10]; exact hc9.2.2.1 out _ (hset_s _ _ _)
    refine x_aload_n d_law_1149 rfl ?_
    refine x_iconst d_law_1150 ?_
    refine x_lald (n := 1) d_law_1151 hout (by decide) (by decide) (by decide) ?_
    refine x_iload d_law_1152 rfl ?_
    refine x_i2l d_law_1154 ?_
    refine x_lcmp d_law_1155 ?_
    rw [show o1 (Int.toNat 0) = (iI (vl_stop S ((xs (i + 1).toNat).toInt))).toInt64 from ho, hz w, lg_cmp_self]
    refine x_if_eq (tgt := 1161) d_law_1156 (by decide) R32_0 (fun _ => ?_) (fun q => absurd rfl q)
    refine x_goto (tgt := 2849) d_law_1161 (by decide) ?_
    exact (next h11 _ _ hfin).mono (by omega) (by omega)
theorem T_allocate {g : xG} {x mo out b L : Nat} {adm : Nat → Nat} {xs : Nat → Int32} {nm : String} {hh : List (Nat × Nat × Nat × Nat)} {Q : qP} {rc rs : Nat} {h : hp} {i : Int} {v5 v6 : Option Value} (hN : ncOk g) (hXs : va_X b L xs g.2.1 g.2.1.heap) (hb : b < g.2.1.heap.size) (hL : L ≤ 2560) (i0 : 0 ≤ i) (i1 : i + 5 ≤ L) (hx : x = g.2.2.2.2 5) (hI9 : LInv g mo out adm h) (next : ∀ h' v5 v6, LInv g mo out adm h' → xW g (M_law nm hh) Q mN rc rs h' 2849 [some (.ref b), some (.ref x), some (.ref mo), some (.ref out), some (.int (iI i)), v5, v6] []) : xW g (M_law nm hh) Q mN (rc + 226) (rs + 7404) h 1164 [some (.ref b), some (.ref x), some (.ref mo), some (.ref out), some (.int (iI i)), v5, v6] [] := by
  obtain ⟨ad, S, K, o, tt, hc, hm0, hK, hV, hE⟩ := hI9
  have hx2 : ad 0 0 = x := hc.2.2.2.2.2.trans hx.symm
  subst hx2
  obtain ⟨hI, hX9⟩ := id hV
  have h0 := hE.h
  refine x_aload_n d_law_1164 rfl ?_
  refine x_aload_n d_law_1165 rfl ?_
  refine x_iload d_law_1166 rfl ?_
  refine x_iconst d_law_1168 ?_
  refine x_iadd d_law_1169 ?_
  refine x_sld hXs hb hL (by omega) (by omega) d_law_1170 ?_
  refine x_aload_n d_law_1171 rfl ?_
  refine x_iload d_law_1172 rfl ?_
  refine x_iconst d_law_1174 ?_
  refine x_iadd d_law_1175 ?_
  refine x_sld hXs hb hL (by omega) (by omega) d_law_1176 ?_
  refine x_aload_n d_law_1177 rfl ?_
  refine x_callSWC (rc' := rc + 223) (rs' := rs + 7386) d_law_1178 (q_law_203 nm hh) s_L_allocate (t_L_allocate hN hI hE (toIntR _) (toIntR _) hX9 h hc) rfl (by rfl) (Nat.le_of_ble_eq_true rfl) (by show rc + 226 = rc + 223 + 3; omega) (by show rs + 7404 = rs + 7386 + 18; omega) ?_
  rintro _ h9 ⟨rfl, ad9, S9, o1, hc9, hq9⟩
  refine x_istore d_law_1181 (Nat.le_of_ble_eq_true rfl) ?_
  have hm9 := mdl_in hc9 hm0 hK
  refine x_aload_n d_law_1183 rfl ?_
  refine x_aload_n d_law_1184 rfl ?_
  refine x_iload d_law_1185 rfl ?_
  refine x_iconst d_law_1187 ?_
  refine x_iadd d_law_1188 ?_
  refine x_sld hXs hb hL (by omega) (by omega) d_law_1189 ?_
  refine x_aload_n d_law_1190 rfl ?_
  refine x_iload d_law_1191 rfl ?_
  refine x_iconst d_law_1193 ?_
  refine x_iadd d_law_1194 ?_
  refine x_sld hXs hb hL (by omega) (by omega) d_law_1195 ?_
  refine x_callVC (rc' := rc + 223) (rs' := rs + 7386) (r := (RX7, TX7, 28)) d_law_1196 (q_law_205 nm hh) s_m_allocate v_m_allocate (t_m_allocate hI (toIntR _) (toIntR _) h9 hm9) hm9.1 rfl rfl rfl rfl (Nat.le_of_ble_eq_true rfl) rfl rfl (fun _ _ z => False.elim z) ?_
  have hR : R32 (cd_allocate S ((xs (i + 1).toNat).toInt) ((xs (i + 2).toNat).toInt)) := by
    unfold cd_allocate 
    (repeat' split) <;> (unfold R32; omega)
  rintro v2 h10 ⟨_, S', ⟨rfl, hqa, hqb⟩, hm10, hf10⟩
  have hz : ∃ z : Int32, v2 = some (.int z) ∧ ((cd_allocate S ((xs (i + 1).toNat).toInt) ((xs (i + 2).toNat).toInt)) = 0 → z = iI (vl_allocate S ((xs (i + 1).toNat).toInt) ((xs (i + 2).toNat).toInt))) := by
    by_cases z0 : (cd_allocate S ((xs (i + 1).toNat).toInt) ((xs (i + 2).toNat).toInt)) = 0
    · exact ⟨_, (hqa z0).1, fun _ => rfl⟩
    · obtain ⟨_, z, hz⟩ := hqb z0
      exact ⟨z, hz, fun w => absurd w z0⟩
  obtain ⟨z, rfl, hz⟩ := hz
  refine x_istore d_law_1199 (Nat.le_of_ble_eq_true rfl) ?_
  refine x_aload_n d_law_1201 rfl ?_
  refine x_callVC (rc' := rc + 223) (rs' := rs + 7386) (r := (RX7, TX7, 28)) d_law_1202 (q_law_153 nm hh) s_m_thrown v_m_thrown (t_m_thrown h10 hm10) hm10.1 rfl rfl rfl rfl (Nat.le_of_ble_eq_true rfl) rfl rfl (fun _ _ z => False.elim z) ?_
  rintro _ h11 ⟨_, _, ⟨rfl, rfl, rfl⟩, hm11, hf11⟩
  have hfin : LInv g mo out adm h11 := by
    rcases hq9 with ⟨hcd, hag, hE9, ho1⟩ | ⟨hne, e1, e2, e3⟩
    · exact turn_end hc9 hm0 hK hm11 (hf10.trans hf11) (by rw [(hqa hcd).2]; exact hag) (IV.agr (i_allocate hV hcd) hag hE9) hE9
    · exact turn_end hc9 hm0 hK hm11 (hf10.trans hf11) (by rw [e2, (hqb hne).1]; exact agr_refl _) (by rw [e2]; exact hV) (by rw [e2]; exact hE)
  refine x_iload d_law_1205 rfl ?_
  refine x_icmp_eq (tgt := 1212) d_law_1207 (by decide) hR hR (fun _ => ?_) (fun w => absurd rfl w)
  refine x_iload d_law_1212 rfl ?_
  refine x_if_ne (tgt := 1229) d_law_1214 (by decide) hR (fun w => ?_) (fun w => ?_)
  · skip
    refine x_goto (tgt := 2849) d_law_1229 (by decide) ?_
    exact (next h11 _ _ hfin).mono (by omega) (by omega)
  · have ho : o1 0 = (iI (vl_allocate S ((xs (i + 1).toNat).toInt) ((xs (i + 2).toNat).toInt))).toInt64 := by
      rcases hq9 with ⟨_, _, _, ho1⟩ | ⟨hne, _⟩
      · exact ho1
      · exact absurd w hne
    have hout : h11 out = some (larr g 1 o1) := by rw [mfr_out hm0 hK hf11, mfr_out hm0 hK hf10]; exact hc9.2.2.1 out _ (hset_s _ _ _)
    refine x_aload_n d_law_1217 rfl ?_
    refine x_iconst d_law_1218 ?_
    refine x_lald (n := 1) d_law_1219 hout (by decide) (by decide) (by decide) ?_
    refine x_iload d_law_1220 rfl ?_
    refine x_i2l d_law_1222 ?_
    refine x_lcmp d_law_1223 ?_
    rw [show o1 (Int.toNat 0) = (iI (vl_allocate S ((xs (i + 1).toNat).toInt) ((xs (i + 2).toNat).toInt))).toInt64 from ho, hz w, lg_cmp_self]
    refine x_if_eq (tgt := 1229) d_law_1224 (by decide) R32_0 (fun _ => ?_) (fun q => absurd rfl q)
    refine x_goto (tgt := 2849) d_law_1229 (by decide) ?_
    exact (next h11 _ _ hfin).mono (by omega) (by omega)
theorem T_free {g : xG} {x mo out b L : Nat} {adm : Nat → Nat} {xs : Nat → Int32} {nm : String} {hh : List (Nat × Nat × Nat × Nat)} {Q : qP} {rc rs : Nat} {h : hp} {i : Int} {v5 v6 : Option Value} (hN : ncOk g) (hXs : va_X b L xs g.2.1 g.2.1.heap) (hb : b < g.2.1.heap.size) (hL : L ≤ 2560) (i0 : 0 ≤ i) (i1 : i + 5 ≤ L) (hx : x = g.2.2.2.2 5) (hI9 : LInv g mo out adm h) (next : ∀ h' v5 v6, LInv g mo out adm h' → xW g (M_law nm hh) Q mN rc rs h' 2849 [some (.ref b), some (.ref x), some (.ref mo), some (.ref out), some (.int (iI i)), v5, v6] []) : xW g (M_law nm hh) Q mN (rc + 226) (rs + 7404) h 1232 [some (.ref b), some (.ref x), some (.ref mo), some (.ref out), some (.int (iI i)), v5, v6] [] := by
  obtain ⟨ad, S, K, o, tt, hc, hm0, hK, hV, hE⟩ := hI9
  have hx2 : ad 0 0 = x := hc.2.2.2.2.2.trans hx.symm
  subst hx2
  obtain ⟨hI, hX9⟩ := id hV
  have h0 := hE.h
  refine x_aload_n d_law_1232 rfl ?_
  refine x_aload_n d_law_1233 rfl ?_
  refine x_iload d_law_1234 rfl ?_
  refine x_iconst d_law_1236 ?_
  refine x_iadd d_law_1237 ?_
  refine x_sld hXs hb hL (by omega) (by omega) d_law_1238 ?_
  refine x_aload_n d_law_1239 rfl ?_
  refine x_iload d_law_1240 rfl ?_
  refine x_iconst d_law_1242 ?_
  refine x_iadd d_law_1243 ?_
  refine x_sld hXs hb hL (by omega) (by omega) d_law_1244 ?_
  refine x_aload_n d_law_1245 rfl ?_
  refine x_callSWC (rc' := rc + 222) (rs' := rs + 7380) d_law_1246 (q_law_206 nm hh) s_L_free (t_L_free hN hI hE (toIntR _) (toIntR _) h hc) rfl (by rfl) (Nat.le_of_ble_eq_true rfl) (by show rc + 226 = rc + 222 + 4; omega) (by show rs + 7404 = rs + 7380 + 24; omega) ?_
  rintro _ h9 ⟨rfl, ad9, S9, o1, hc9, hq9⟩
  refine x_istore d_law_1249 (Nat.le_of_ble_eq_true rfl) ?_
  have hm9 := mdl_in hc9 hm0 hK
  refine x_aload_n d_law_1251 rfl ?_
  refine x_aload_n d_law_1252 rfl ?_
  refine x_iload d_law_1253 rfl ?_
  refine x_iconst d_law_1255 ?_
  refine x_iadd d_law_1256 ?_
  refine x_sld hXs hb hL (by omega) (by omega) d_law_1257 ?_
  refine x_aload_n d_law_1258 rfl ?_
  refine x_iload d_law_1259 rfl ?_
  refine x_iconst d_law_1261 ?_
  refine x_iadd d_law_1262 ?_
  refine x_sld hXs hb hL (by omega) (by omega) d_law_1263 ?_
  refine x_callVC (rc' := rc + 222) (rs' := rs + 7380) (r := (RX7, TX7, 28)) d_law_1264 (q_law_208 nm hh) s_m_free v_m_free (t_m_free hI (toIntR _) (toIntR _) h9 hm9) hm9.1 rfl rfl rfl rfl (Nat.le_of_ble_eq_true rfl) rfl rfl (fun _ _ z => False.elim z) ?_
  have hR : R32 (cd_free S ((xs (i + 1).toNat).toInt) ((xs (i + 2).toNat).toInt)) := by
    unfold cd_free 
    (repeat' split) <;> (unfold R32; omega)
  rintro v2 h10 ⟨_, S', ⟨rfl, hqa, hqb⟩, hm10, hf10⟩
  have hz : ∃ z : Int32, v2 = some (.int z) ∧ ((cd_free S ((xs (i + 1).toNat).toInt) ((xs (i + 2).toNat).toInt)) = 0 → z = iI (vl_free S ((xs (i + 1).toNat).toInt) ((xs (i + 2).toNat).toInt))) := by
    by_cases z0 : (cd_free S ((xs (i + 1).toNat).toInt) ((xs (i + 2).toNat).toInt)) = 0
    · exact ⟨_, (hqa z0).1, fun _ => rfl⟩
    · obtain ⟨_, z, hz⟩ := hqb z0
      exact ⟨z, hz, fun w => absurd w z0⟩
  obtain ⟨z, rfl, hz⟩ := hz
  refine x_istore d_law_1267 (Nat.le_of_ble_eq_true rfl) ?_
  refine x_aload_n d_law_1269 rfl ?_
  refine x_callVC (rc' := rc + 222) (rs' := rs + 7380) (r := (RX7, TX7, 28)) d_law_1270 (q_law_153 nm hh) s_m_thrown v_m_thrown (t_m_thrown h10 hm10) hm10.1 rfl rfl rfl rfl (Nat.le_of_ble_eq_true rfl) rfl rfl (fun _ _ z => False.elim z) ?_
  rintro _ h11 ⟨_, _, ⟨rfl, rfl, rfl⟩, hm11, hf11⟩
  have hfin : LInv g mo out adm h11 := by
    rcases hq9 with ⟨hcd, hag, hE9, ho1⟩ | ⟨hne, e1, e2, e3⟩
    · exact turn_end hc9 hm0 hK hm11 (hf10.trans hf11) (by rw [(hqa hcd).2]; exact hag) (IV.agr (i_free hV hcd) hag hE9) hE9
    · exact turn_end hc9 hm0 hK hm11 (hf10.trans hf11) (by rw [e2, (hqb hne).1]; exact agr_refl _) (by rw [e2]; exact hV) (by rw [e2]; exact hE)
  refine x_iload d_law_1273 rfl ?_
  refine x_icmp_eq (tgt := 1280) d_law_1275 (by decide) hR hR (fun _ => ?_) (fun w => absurd rfl w)
  refine x_iload d_law_1280 rfl ?_
  refine x_if_ne (tgt := 1297) d_law_1282 (by decide) hR (fun w => ?_) (fun w => ?_)
  · skip
    refine x_goto (tgt := 2849) d_law_1297 (by decide) ?_
    exact (next h11 _ _ hfin).mono (by omega) (by omega)
  · have ho : o1 0 = (iI (vl_free S ((xs (i + 1).toNat).toInt) ((xs (i + 2).toNat).toInt))).toInt64 := by
      rcases hq9 with ⟨_, _, _, ho1⟩ | ⟨hne, _⟩
      · exact ho1
      · exact absurd w hne
    have hout : h11 out = some (larr g 1 o1) := by rw [mfr_out hm0 hK hf11, mfr_out hm0 hK hf10]; exact hc9.2.2.1 out _ (hset_s _ _ _)
    refine x_aload_n d_law_1285 rfl ?_
    refine x_iconst d_law_1286 ?_
    refine x_lald (n := 1) d_law_1287 hout (by decide) (by decide) (by decide) ?_
    refine x_iload d_law_1288 rfl ?_
    refine x_i2l d_law_1290 ?_
    refine x_lcmp d_law_1291 ?_
    rw [show o1 (Int.toNat 0) = (iI (vl_free S ((xs (i + 1).toNat).toInt) ((xs (i + 2).toNat).toInt))).toInt64 from ho, hz w, lg_cmp_self]
    refine x_if_eq (tgt := 1297) d_law_1292 (by decide) R32_0 (fun _ => ?_) (fun q => absurd rfl q)
    refine x_goto (tgt := 2849) d_law_1297 (by decide) ?_
    exact (next h11 _ _ hfin).mono (by omega) (by omega)
theorem T_fork {g : xG} {x mo out b L : Nat} {adm : Nat → Nat} {xs : Nat → Int32} {nm : String} {hh : List (Nat × Nat × Nat × Nat)} {Q : qP} {rc rs : Nat} {h : hp} {i : Int} {v5 v6 : Option Value} (hN : ncOk g) (hXs : va_X b L xs g.2.1 g.2.1.heap) (hb : b < g.2.1.heap.size) (hL : L ≤ 2560) (i0 : 0 ≤ i) (i1 : i + 5 ≤ L) (hx : x = g.2.2.2.2 5) (hI9 : LInv g mo out adm h) (next : ∀ h' v5 v6, LInv g mo out adm h' → xW g (M_law nm hh) Q mN rc rs h' 2849 [some (.ref b), some (.ref x), some (.ref mo), some (.ref out), some (.int (iI i)), v5, v6] []) : xW g (M_law nm hh) Q mN (rc + 226) (rs + 7404) h 1300 [some (.ref b), some (.ref x), some (.ref mo), some (.ref out), some (.int (iI i)), v5, v6] [] := by
  obtain ⟨ad, S, K, o, tt, hc, hm0, hK, hV, hE⟩ := hI9
  have hx2 : ad 0 0 = x := hc.2.2.2.2.2.trans hx.symm
  subst hx2
  obtain ⟨hI, hX9⟩ := id hV
  have h0 := hE.h
  refine x_aload_n d_law_1300 rfl ?_
  refine x_aload_n d_law_1301 rfl ?_
  refine x_iload d_law_1302 rfl ?_
  refine x_iconst d_law_1304 ?_
  refine x_iadd d_law_1305 ?_
  refine x_sld hXs hb hL (by omega) (by omega) d_law_1306 ?_
  refine x_aload_n d_law_1307 rfl ?_
  refine x_callSWC (rc' := rc + 223) (rs' := rs + 7386) d_law_1308 (q_law_209 nm hh) s_L_fork (t_L_fork hN hI hE (toIntR _) h hc) rfl (by rfl) (Nat.le_of_ble_eq_true rfl) (by show rc + 226 = rc + 223 + 3; omega) (by show rs + 7404 = rs + 7386 + 18; omega) ?_
  rintro _ h9 ⟨rfl, ad9, S9, o1, hc9, hq9⟩
  refine x_istore d_law_1311 (Nat.le_of_ble_eq_true rfl) ?_
  have hm9 := mdl_in hc9 hm0 hK
  refine x_aload_n d_law_1313 rfl ?_
  refine x_aload_n d_law_1314 rfl ?_
  refine x_iload d_law_1315 rfl ?_
  refine x_iconst d_law_1317 ?_
  refine x_iadd d_law_1318 ?_
  refine x_sld hXs hb hL (by omega) (by omega) d_law_1319 ?_
  refine x_callVC (rc' := rc + 223) (rs' := rs + 7386) (r := (RX7, TX7, 28)) d_law_1320 (q_law_211 nm hh) s_m_fork v_m_fork (t_m_fork hI (toIntR _) h9 hm9) hm9.1 rfl rfl rfl rfl (Nat.le_of_ble_eq_true rfl) rfl rfl (fun _ _ z => False.elim z) ?_
  have hR : R32 (cd_fork S ((xs (i + 1).toNat).toInt)) := by
    unfold cd_fork 
    (repeat' split) <;> (unfold R32; omega)
  rintro v2 h10 ⟨_, S', ⟨rfl, hqa, hqb⟩, hm10, hf10⟩
  have hz : ∃ z : Int32, v2 = some (.int z) ∧ ((cd_fork S ((xs (i + 1).toNat).toInt)) = 0 → z = iI (vl_fork S ((xs (i + 1).toNat).toInt))) := by
    by_cases z0 : (cd_fork S ((xs (i + 1).toNat).toInt)) = 0
    · exact ⟨_, (hqa z0).1, fun _ => rfl⟩
    · obtain ⟨_, z, hz⟩ := hqb z0
      exact ⟨z, hz, fun w => absurd w z0⟩
  obtain ⟨z, rfl, hz⟩ := hz
  refine x_istore d_law_1323 (Nat.le_of_ble_eq_true rfl) ?_
  refine x_aload_n d_law_1325 rfl ?_
  refine x_callVC (rc' := rc + 223) (rs' := rs + 7386) (r := (RX7, TX7, 28)) d_law_1326 (q_law_153 nm hh) s_m_thrown v_m_thrown (t_m_thrown h10 hm10) hm10.1 rfl rfl rfl rfl (Nat.le_of_ble_eq_true rfl) rfl rfl (fun _ _ z => False.elim z) ?_
  rintro _ h11 ⟨_, _, ⟨rfl, rfl, rfl⟩, hm11, hf11⟩
  have hfin : LInv g mo out adm h11 := by
    rcases hq9 with ⟨hcd, hag, hE9, ho1⟩ | ⟨hne, e1, e2, e3⟩
    · exact turn_end hc9 hm0 hK hm11 (hf10.trans hf11) (by rw [(hqa hcd).2]; exact hag) (IV.agr (i_fork hV hcd) hag hE9) hE9
    · exact turn_end hc9 hm0 hK hm11 (hf10.trans hf11) (by rw [e2, (hqb hne).1]; exact agr_refl _) (by rw [e2]; exact hV) (by rw [e2]; exact hE)
  refine x_iload d_law_1329 rfl ?_
  refine x_icmp_eq (tgt := 1336) d_law_1331 (by decide) hR hR (fun _ => ?_) (fun w => absurd rfl w)
  refine x_iload d_law_1336 rfl ?_
  refine x_if_ne (tgt := 1353) d_law_1338 (by decide) hR (fun w => ?_) (fun w => ?_)
  · skip
    refine x_goto (tgt := 2849) d_law_1353 (by decide) ?_
    exact (next h11 _ _ hfin).mono (by omega) (by omega)
  · have ho : o1 0 = (iI (vl_fork S ((xs (i + 1).toNat).toInt))).toInt64 := by
      rcases hq9 with ⟨_, _, _, ho1⟩ | ⟨hne, _⟩
      · exact ho1
      · exact absurd w hne
    have hout : h11 out = some (larr g 1 o1) := by rw [mfr_out hm0 hK hf11, mfr_out hm0 hK hf10]; exact hc9.2.2.1 out _ (hset_s _ _ _)
    refine x_aload_n d_law_1341 rfl ?_
    refine x_iconst d_law_1342 ?_
    refine x_lald (n := 1) d_law_1343 hout (by decide) (by decide) (by decide) ?_
    refine x_iload d_law_1344 rfl ?_
    refine x_i2l d_law_1346 ?_
    refine x_lcmp d_law_1347 ?_
    rw [show o1 (Int.toNat 0) = (iI (vl_fork S ((xs (i + 1).toNat).toInt))).toInt64 from ho, hz w, lg_cmp_self]
    refine x_if_eq (tgt := 1353) d_law_1348 (by decide) R32_0 (fun _ => ?_) (fun q => absurd rfl q)
    refine x_goto (tgt := 2849) d_law_1353 (by decide) ?_
    exact (next h11 _ _ hfin).mono (by omega) (by omega)
theorem T_exit {g : xG} {x mo out b L : Nat} {adm : Nat → Nat} {xs : Nat → Int32} {nm : String} {hh : List (Nat × Nat × Nat × Nat)} {Q : qP} {rc rs : Nat} {h : hp} {i : Int} {v5 v6 : Option Value} (hN : ncOk g) (hXs : va_X b L xs g.2.1 g.2.1.heap) (hb : b < g.2.1.heap.size) (hL : L ≤ 2560) (i0 : 0 ≤ i) (i1 : i + 5 ≤ L) (hx : x = g.2.2.2.2 5) (hI9 : LInv g mo out adm h) (next : ∀ h' v5 v6, LInv g mo out adm h' → xW g (M_law nm hh) Q mN rc rs h' 2849 [some (.ref b), some (.ref x), some (.ref mo), some (.ref out), some (.int (iI i)), v5, v6] []) : xW g (M_law nm hh) Q mN (rc + 226) (rs + 7404) h 1356 [some (.ref b), some (.ref x), some (.ref mo), some (.ref out), some (.int (iI i)), v5, v6] [] := by
  obtain ⟨ad, S, K, o, tt, hc, hm0, hK, hV, hE⟩ := hI9
  have hx2 : ad 0 0 = x := hc.2.2.2.2.2.trans hx.symm
  subst hx2
  obtain ⟨hI, hX9⟩ := id hV
  have h0 := hE.h
  refine x_aload_n d_law_1356 rfl ?_
  refine x_aload_n d_law_1357 rfl ?_
  refine x_iload d_law_1358 rfl ?_
  refine x_iconst d_law_1360 ?_
  refine x_iadd d_law_1361 ?_
  refine x_sld hXs hb hL (by omega) (by omega) d_law_1362 ?_
  refine x_aload_n d_law_1363 rfl ?_
  refine x_callSWC (rc' := rc + 224) (rs' := rs + 7392) d_law_1364 (q_law_212 nm hh) s_L_exit (t_L_exit hN hI hE (toIntR _) hX9 h hc) rfl (by rfl) (Nat.le_of_ble_eq_true rfl) (by show rc + 226 = rc + 224 + 2; omega) (by show rs + 7404 = rs + 7392 + 12; omega) ?_
  rintro _ h9 ⟨rfl, ad9, S9, o1, hc9, hq9⟩
  refine x_istore d_law_1367 (Nat.le_of_ble_eq_true rfl) ?_
  have hm9 := mdl_in hc9 hm0 hK
  refine x_aload_n d_law_1369 rfl ?_
  refine x_aload_n d_law_1370 rfl ?_
  refine x_iload d_law_1371 rfl ?_
  refine x_iconst d_law_1373 ?_
  refine x_iadd d_law_1374 ?_
  refine x_sld hXs hb hL (by omega) (by omega) d_law_1375 ?_
  refine x_callVC (rc' := rc + 224) (rs' := rs + 7392) (r := (RX7, TX7, 28)) d_law_1376 (q_law_214 nm hh) s_m_exit v_m_exit (t_m_exit hI (toIntR _) h9 hm9) hm9.1 rfl rfl rfl rfl (Nat.le_of_ble_eq_true rfl) rfl rfl (fun _ _ z => False.elim z) ?_
  have hR : R32 (cd_exit S ((xs (i + 1).toNat).toInt)) := by
    unfold cd_exit ist 
    (repeat' split) <;> (unfold R32; omega)
  rintro v2 h10 ⟨_, S', ⟨rfl, hqa, hqb⟩, hm10, hf10⟩
  have hz : ∃ z : Int32, v2 = some (.int z) ∧ ((cd_exit S ((xs (i + 1).toNat).toInt)) = 0 → z = iI (vl_exit S ((xs (i + 1).toNat).toInt))) := by
    by_cases z0 : (cd_exit S ((xs (i + 1).toNat).toInt)) = 0
    · exact ⟨_, (hqa z0).1, fun _ => rfl⟩
    · obtain ⟨_, z, hz⟩ := hqb z0
      exact ⟨z, hz, fun w => absurd w z0⟩
  obtain ⟨z, rfl, hz⟩ := hz
  refine x_istore d_law_1379 (Nat.le_of_ble_eq_true rfl) ?_
  refine x_aload_n d_law_1381 rfl ?_
  refine x_callVC (rc' := rc + 224) (rs' := rs + 7392) (r := (RX7, TX7, 28)) d_law_1382 (q_law_153 nm hh) s_m_thrown v_m_thrown (t_m_thrown h10 hm10) hm10.1 rfl rfl rfl rfl (Nat.le_of_ble_eq_true rfl) rfl rfl (fun _ _ z => False.elim z) ?_
  rintro _ h11 ⟨_, _, ⟨rfl, rfl, rfl⟩, hm11, hf11⟩
  have hfin : LInv g mo out adm h11 := by
    rcases hq9 with ⟨hcd, hag, hE9, ho1⟩ | ⟨hne, e1, e2, e3⟩
    · exact turn_end hc9 hm0 hK hm11 (hf10.trans hf11) (by rw [(hqa hcd).2]; exact hag) (IV.agr (i_exit hV hcd) hag hE9) hE9
    · exact turn_end hc9 hm0 hK hm11 (hf10.trans hf11) (by rw [e2, (hqb hne).1]; exact agr_refl _) (by rw [e2]; exact hV) (by rw [e2]; exact hE)
  refine x_iload d_law_1385 rfl ?_
  refine x_icmp_eq (tgt := 1392) d_law_1387 (by decide) hR hR (fun _ => ?_) (fun w => absurd rfl w)
  refine x_iload d_law_1392 rfl ?_
  refine x_if_ne (tgt := 1409) d_law_1394 (by decide) hR (fun w => ?_) (fun w => ?_)
  · skip
    refine x_goto (tgt := 2849) d_law_1409 (by decide) ?_
    exact (next h11 _ _ hfin).mono (by omega) (by omega)
  · have ho : o1 0 = (iI (vl_exit S ((xs (i + 1).toNat).toInt))).toInt64 := by
      rcases hq9 with ⟨_, _, _, ho1⟩ | ⟨hne, _⟩
      · exact ho1
      · exact absurd w hne
    have hout : h11 out = some (larr g 1 o1) := by rw [mfr_out hm0 hK hf11, mfr_out hm0 hK hf10]; exact hc9.2.2.1 out _ (hset_s _ _ _)
    refine x_aload_n d_law_1397 rfl ?_
    refine x_iconst d_law_1398 ?_
    refine x_lald (n := 1) d_law_1399 hout (by decide) (by decide) (by decide) ?_
    refine x_iload d_law_1400 rfl ?_
    refine x_i2l d_law_1402 ?_
    refine x_lcmp d_law_1403 ?_
    rw [show o1 (Int.toNat 0) = (iI (vl_exit S ((xs (i + 1).toNat).toInt))).toInt64 from ho, hz w, lg_cmp_self]
    refine x_if_eq (tgt := 1409) d_law_1404 (by decide) R32_0 (fun _ => ?_) (fun q => absurd rfl q)
    refine x_goto (tgt := 2849) d_law_1409 (by decide) ?_
    exact (next h11 _ _ hfin).mono (by omega) (by omega)
theorem T_schedule {g : xG} {x mo out b L : Nat} {adm : Nat → Nat} {xs : Nat → Int32} {nm : String} {hh : List (Nat × Nat × Nat × Nat)} {Q : qP} {rc rs : Nat} {h : hp} {i : Int} {v5 v6 : Option Value} (hN : ncOk g) (hXs : va_X b L xs g.2.1 g.2.1.heap) (hb : b < g.2.1.heap.size) (hL : L ≤ 2560) (i0 : 0 ≤ i) (i1 : i + 5 ≤ L) (hx : x = g.2.2.2.2 5) (hI9 : LInv g mo out adm h) (next : ∀ h' v5 v6, LInv g mo out adm h' → xW g (M_law nm hh) Q mN rc rs h' 2849 [some (.ref b), some (.ref x), some (.ref mo), some (.ref out), some (.int (iI i)), v5, v6] []) : xW g (M_law nm hh) Q mN (rc + 226) (rs + 7404) h 1412 [some (.ref b), some (.ref x), some (.ref mo), some (.ref out), some (.int (iI i)), v5, v6] [] := by
  obtain ⟨ad, S, K, o, tt, hc, hm0, hK, hV, hE⟩ := hI9
  have hx2 : ad 0 0 = x := hc.2.2.2.2.2.trans hx.symm
  subst hx2
  obtain ⟨hI, hX9⟩ := id hV
  have h0 := hE.h
  refine x_aload_n d_law_1412 rfl ?_
  refine x_aload_n d_law_1413 rfl ?_
  refine x_iload d_law_1414 rfl ?_
  refine x_iconst d_law_1416 ?_
  refine x_iadd d_law_1417 ?_
  refine x_sld hXs hb hL (by omega) (by omega) d_law_1418 ?_
  refine x_aload_n d_law_1419 rfl ?_
  refine x_callSWC (rc' := rc + 0) (rs' := rs + 0) d_law_1420 (q_law_215 nm hh) s_L_schedule (t_L_schedule hN hI hE (toIntR _) h hc) rfl (by rfl) (Nat.le_of_ble_eq_true rfl) (by show rc + 226 = rc + 0 + 226; omega) (by show rs + 7404 = rs + 0 + 7404; omega) ?_
  rintro _ h9 ⟨rfl, ad9, S9, o1, hc9, hq9⟩
  refine x_istore d_law_1423 (Nat.le_of_ble_eq_true rfl) ?_
  have hm9 := mdl_in hc9 hm0 hK
  refine x_aload_n d_law_1425 rfl ?_
  refine x_aload_n d_law_1426 rfl ?_
  refine x_iload d_law_1427 rfl ?_
  refine x_iconst d_law_1429 ?_
  refine x_iadd d_law_1430 ?_
  refine x_sld hXs hb hL (by omega) (by omega) d_law_1431 ?_
  refine x_callVC (rc' := rc + 0) (rs' := rs + 0) (r := (RX7, TX7, 28)) d_law_1432 (q_law_217 nm hh) s_m_schedule v_m_schedule (t_m_schedule hI (toIntR _) h9 hm9) hm9.1 rfl rfl rfl rfl (Nat.le_of_ble_eq_true rfl) rfl rfl (fun _ _ z => False.elim z) ?_
  have hR : R32 (cd_schedule S ((xs (i + 1).toNat).toInt)) := by
    unfold cd_schedule 
    (repeat' split) <;> (unfold R32; omega)
  rintro v2 h10 ⟨_, S', ⟨rfl, hqa, hqb⟩, hm10, hf10⟩
  have hz : ∃ z : Int32, v2 = some (.int z) ∧ ((cd_schedule S ((xs (i + 1).toNat).toInt)) = 0 → z = iI (vl_schedule S ((xs (i + 1).toNat).toInt))) := by
    by_cases z0 : (cd_schedule S ((xs (i + 1).toNat).toInt)) = 0
    · exact ⟨_, (hqa z0).1, fun _ => rfl⟩
    · obtain ⟨_, z, hz⟩ := hqb z0
      exact ⟨z, hz, fun w => absurd w z0⟩
  obtain ⟨z, rfl, hz⟩ := hz
  refine x_istore d_law_1435 (Nat.le_of_ble_eq_true rfl) ?_
  refine x_aload_n d_law_1437 rfl ?_
  refine x_callVC (rc' := rc + 0) (rs' := rs + 0) (r := (RX7, TX7, 28)) d_law_1438 (q_law_153 nm hh) s_m_thrown v_m_thrown (t_m_thrown h10 hm10) hm10.1 rfl rfl rfl rfl (Nat.le_of_ble_eq_true rfl) rfl rfl (fun _ _ z => False.elim z) ?_
  rintro _ h11 ⟨_, _, ⟨rfl, rfl, rfl⟩, hm11, hf11⟩
  have hfin : LInv g mo out adm h11 := by
    rcases hq9 with ⟨hcd, hag, hE9, ho1⟩ | ⟨hne, e1, e2, e3⟩
    · exact turn_end hc9 hm0 hK hm11 (hf10.trans hf11) (by rw [(hqa hcd).2]; exact hag) (IV.agr (i_schedule hV hcd) hag hE9) hE9
    · exact turn_end hc9 hm0 hK hm11 (hf10.trans hf11) (by rw [e2, (hqb hne).1]; exact agr_refl _) (by rw [e2]; exact hV) (by rw [e2]; exact hE)
  refine x_iload d_law_1441 rfl ?_
  refine x_icmp_eq (tgt := 1448) d_law_1443 (by decide) hR hR (fun _ => ?_) (fun w => absurd rfl w)
  refine x_iload d_law_1448 rfl ?_
  refine x_if_ne (tgt := 1465) d_law_1450 (by decide) hR (fun w => ?_) (fun w => ?_)
  · skip
    refine x_goto (tgt := 2849) d_law_1465 (by decide) ?_
    exact (next h11 _ _ hfin).mono (by omega) (by omega)
  · have ho : o1 0 = (iI (vl_schedule S ((xs (i + 1).toNat).toInt))).toInt64 := by
      rcases hq9 with ⟨_, _, _, ho1⟩ | ⟨hne, _⟩
      · exact ho1
      · exact absurd w hne
    have hout : h11 out = some (larr g 1 o1) := by rw [mfr_out hm0 hK hf11, mfr_out hm0 hK hf10]; exact hc9.2.2.1 out _ (hset_s _ _ _)
    refine x_aload_n d_law_1453 rfl ?_
    refine x_iconst d_law_1454 ?_
    refine x_lald (n := 1) d_law_1455 hout (by decide) (by decide) (by decide) ?_
    refine x_iload d_law_1456 rfl ?_
    refine x_i2l d_law_1458 ?_
    refine x_lcmp d_law_1459 ?_
    rw [show o1 (Int.toNat 0) = (iI (vl_schedule S ((xs (i + 1).toNat).toInt))).toInt64 from ho, hz w, lg_cmp_self]
    refine x_if_eq (tgt := 1465) d_law_1460 (by decide) R32_0 (fun _ => ?_) (fun q => absurd rfl q)
    refine x_goto (tgt := 2849) d_law_1465 (by decide) ?_
    exact (next h11 _ _ hfin).mono (by omega) (by omega)
theorem T_writeFile {g : xG} {x mo out b L : Nat} {adm : Nat → Nat} {xs : Nat → Int32} {nm : String} {hh : List (Nat × Nat × Nat × Nat)} {Q : qP} {rc rs : Nat} {h : hp} {i : Int} {v5 v6 : Option Value} (hN : ncOk g) (hXs : va_X b L xs g.2.1 g.2.1.heap) (hb : b < g.2.1.heap.size) (hL : L ≤ 2560) (i0 : 0 ≤ i) (i1 : i + 5 ≤ L) (hx : x = g.2.2.2.2 5) (hI9 : LInv g mo out adm h) (next : ∀ h' v5 v6, LInv g mo out adm h' → xW g (M_law nm hh) Q mN rc rs h' 2849 [some (.ref b), some (.ref x), some (.ref mo), some (.ref out), some (.int (iI i)), v5, v6] []) : xW g (M_law nm hh) Q mN (rc + 226) (rs + 7404) h 1468 [some (.ref b), some (.ref x), some (.ref mo), some (.ref out), some (.int (iI i)), v5, v6] [] := by
  obtain ⟨ad, S, K, o, tt, hc, hm0, hK, hV, hE⟩ := hI9
  have hx2 : ad 0 0 = x := hc.2.2.2.2.2.trans hx.symm
  subst hx2
  obtain ⟨hI, hX9⟩ := id hV
  have h0 := hE.h
  refine x_aload_n d_law_1468 rfl ?_
  refine x_aload_n d_law_1469 rfl ?_
  refine x_iload d_law_1470 rfl ?_
  refine x_iconst d_law_1472 ?_
  refine x_iadd d_law_1473 ?_
  refine x_sld hXs hb hL (by omega) (by omega) d_law_1474 ?_
  refine x_aload_n d_law_1475 rfl ?_
  refine x_iload d_law_1476 rfl ?_
  refine x_iconst d_law_1478 ?_
  refine x_iadd d_law_1479 ?_
  refine x_sld hXs hb hL (by omega) (by omega) d_law_1480 ?_
  refine x_aload_n d_law_1481 rfl ?_
  refine x_iload d_law_1482 rfl ?_
  refine x_iconst d_law_1484 ?_
  refine x_iadd d_law_1485 ?_
  refine x_sld hXs hb hL (by omega) (by omega) d_law_1486 ?_
  refine x_aload_n d_law_1487 rfl ?_
  refine x_callSWC (rc' := rc + 221) (rs' := rs + 7374) d_law_1488 (q_law_218 nm hh) s_L_writeFile (t_L_writeFile hN hI hE (toIntR _) (toIntR _) (toIntR _) h hc) rfl (by rfl) (Nat.le_of_ble_eq_true rfl) (by show rc + 226 = rc + 221 + 5; omega) (by show rs + 7404 = rs + 7374 + 30; omega) ?_
  rintro _ h9 ⟨rfl, ad9, S9, o1, hc9, hq9⟩
  refine x_istore d_law_1491 (Nat.le_of_ble_eq_true rfl) ?_
  have hm9 := mdl_in hc9 hm0 hK
  refine x_aload_n d_law_1493 rfl ?_
  refine x_aload_n d_law_1494 rfl ?_
  refine x_iload d_law_1495 rfl ?_
  refine x_iconst d_law_1497 ?_
  refine x_iadd d_law_1498 ?_
  refine x_sld hXs hb hL (by omega) (by omega) d_law_1499 ?_
  refine x_aload_n d_law_1500 rfl ?_
  refine x_iload d_law_1501 rfl ?_
  refine x_iconst d_law_1503 ?_
  refine x_iadd d_law_1504 ?_
  refine x_sld hXs hb hL (by omega) (by omega) d_law_1505 ?_
  refine x_aload_n d_law_1506 rfl ?_
  refine x_iload d_law_1507 rfl ?_
  refine x_iconst d_law_1509 ?_
  refine x_iadd d_law_1510 ?_
  refine x_sld hXs hb hL (by omega) (by omega) d_law_1511 ?_
  refine x_callVC (rc' := rc + 221) (rs' := rs + 7374) (r := (RX7, TX7, 28)) d_law_1512 (q_law_220 nm hh) s_m_writeFile v_m_writeFile (t_m_writeFile hI (toIntR _) (toIntR _) (toIntR _) h9 hm9) hm9.1 rfl rfl rfl rfl (Nat.le_of_ble_eq_true rfl) rfl rfl (fun _ _ z => False.elim z) ?_
  have hR : R32 (cd_writeFile S ((xs (i + 1).toNat).toInt) ((xs (i + 2).toNat).toInt) ((xs (i + 3).toNat).toInt)) := by
    unfold cd_writeFile 
    (repeat' split) <;> (unfold R32; omega)
  rintro v2 h10 ⟨_, S', ⟨rfl, hqa, hqb⟩, hm10, hf10⟩
  have hz : ∃ z : Int32, v2 = some (.int z) ∧ ((cd_writeFile S ((xs (i + 1).toNat).toInt) ((xs (i + 2).toNat).toInt) ((xs (i + 3).toNat).toInt)) = 0 → z = iI (vl_writeFile S ((xs (i + 1).toNat).toInt) ((xs (i + 2).toNat).toInt) ((xs (i + 3).toNat).toInt))) := by
    by_cases z0 : (cd_writeFile S ((xs (i + 1).toNat).toInt) ((xs (i + 2).toNat).toInt) ((xs (i + 3).toNat).toInt)) = 0
    · exact ⟨_, (hqa z0).1, fun _ => rfl⟩
    · obtain ⟨_, z, hz⟩ := hqb z0
      exact ⟨z, hz, fun w => absurd w z0⟩
  obtain ⟨z, rfl, hz⟩ := hz
  refine x_istore d_law_1515 (Nat.le_of_ble_eq_true rfl) ?_
  refine x_aload_n d_law_1517 rfl ?_
  refine x_callVC (rc' := rc + 221) (rs' := rs + 7374) (r := (RX7, TX7, 28)) d_law_1518 (q_law_153 nm hh) s_m_thrown v_m_thrown (t_m_thrown h10 hm10) hm10.1 rfl rfl rfl rfl (Nat.le_of_ble_eq_true rfl) rfl rfl (fun _ _ z => False.elim z) ?_
  rintro _ h11 ⟨_, _, ⟨rfl, rfl, rfl⟩, hm11, hf11⟩
  have hfin : LInv g mo out adm h11 := by
    rcases hq9 with ⟨hcd, hag, hE9, ho1⟩ | ⟨hne, e1, e2, e3⟩
    · exact turn_end hc9 hm0 hK hm11 (hf10.trans hf11) (by rw [(hqa hcd).2]; exact hag) (IV.agr (i_writeFile hV hcd) hag hE9) hE9
    · exact turn_end hc9 hm0 hK hm11 (hf10.trans hf11) (by rw [e2, (hqb hne).1]; exact agr_refl _) (by rw [e2]; exact hV) (by rw [e2]; exact hE)
  refine x_iload d_law_1521 rfl ?_
  refine x_icmp_eq (tgt := 1528) d_law_1523 (by decide) hR hR (fun _ => ?_) (fun w => absurd rfl w)
  refine x_iload d_law_1528 rfl ?_
  refine x_if_ne (tgt := 1545) d_law_1530 (by decide) hR (fun w => ?_) (fun w => ?_)
  · skip
    refine x_goto (tgt := 2849) d_law_1545 (by decide) ?_
    exact (next h11 _ _ hfin).mono (by omega) (by omega)
  · have ho : o1 0 = (iI (vl_writeFile S ((xs (i + 1).toNat).toInt) ((xs (i + 2).toNat).toInt) ((xs (i + 3).toNat).toInt))).toInt64 := by
      rcases hq9 with ⟨_, _, _, ho1⟩ | ⟨hne, _⟩
      · exact ho1
      · exact absurd w hne
    have hout : h11 out = some (larr g 1 o1) := by rw [mfr_out hm0 hK hf11, mfr_out hm0 hK hf10]; exact hc9.2.2.1 out _ (hset_s _ _ _)
    refine x_aload_n d_law_1533 rfl ?_
    refine x_iconst d_law_1534 ?_
    refine x_lald (n := 1) d_law_1535 hout (by decide) (by decide) (by decide) ?_
    refine x_iload d_law_1536 rfl ?_
    refine x_i2l d_law_1538 ?_
    refine x_lcmp d_law_1539 ?_
    rw [show o1 (Int.toNat 0) = (iI (vl_writeFile S ((xs (i + 1).toNat).toInt) ((xs (i + 2).toNat).toInt) ((xs (i + 3).toNat).toInt))).toInt64 from ho, hz w, lg_cmp_self]
    refine x_if_eq (tgt := 1545) d_law_1540 (by decide) R32_0 (fun _ => ?_) (fun q => absurd rfl q)
    refine x_goto (tgt := 2849) d_law_1545 (by decide) ?_
    exact (next h11 _ _ hfin).mono (by omega) (by omega)
theorem T_removeFile {g : xG} {x mo out b L : Nat} {adm : Nat → Nat} {xs : Nat → Int32} {nm : String} {hh : List (Nat × Nat × Nat × Nat)} {Q : qP} {rc rs : Nat} {h : hp} {i : Int} {v5 v6 : Option Value} (hN : ncOk g) (hXs : va_X b L xs g.2.1 g.2.1.heap) (hb : b < g.2.1.heap.size) (hL : L ≤ 2560) (i0 : 0 ≤ i) (i1 : i + 5 ≤ L) (hx : x = g.2.2.2.2 5) (hI9 : LInv g mo out adm h) (next : ∀ h' v5 v6, LInv g mo out adm h' → xW g (M_law nm hh) Q mN rc rs h' 2849 [some (.ref b), some (.ref x), some (.ref mo), some (.ref out), some (.int (iI i)), v5, v6] []) : xW g (M_law nm hh) Q mN (rc + 226) (rs + 7404) h 1548 [some (.ref b), some (.ref x), some (.ref mo), some (.ref out), some (.int (iI i)), v5, v6] [] := by
  obtain ⟨ad, S, K, o, tt, hc, hm0, hK, hV, hE⟩ := hI9
  have hx2 : ad 0 0 = x := hc.2.2.2.2.2.trans hx.symm
  subst hx2
  obtain ⟨hI, hX9⟩ := id hV
  have h0 := hE.h
  refine x_aload_n d_law_1548 rfl ?_
  refine x_aload_n d_law_1549 rfl ?_
  refine x_iload d_law_1550 rfl ?_
  refine x_iconst d_law_1552 ?_
  refine x_iadd d_law_1553 ?_
  refine x_sld hXs hb hL (by omega) (by omega) d_law_1554 ?_
  refine x_aload_n d_law_1555 rfl ?_
  refine x_iload d_law_1556 rfl ?_
  refine x_iconst d_law_1558 ?_
  refine x_iadd d_law_1559 ?_
  refine x_sld hXs hb hL (by omega) (by omega) d_law_1560 ?_
  refine x_aload_n d_law_1561 rfl ?_
  refine x_callSWC (rc' := rc + 221) (rs' := rs + 7374) d_law_1562 (q_law_221 nm hh) s_L_removeFile (t_L_removeFile hN hI hE (toIntR _) (toIntR _) h hc) rfl (by rfl) (Nat.le_of_ble_eq_true rfl) (by show rc + 226 = rc + 221 + 5; omega) (by show rs + 7404 = rs + 7374 + 30; omega) ?_
  rintro _ h9 ⟨rfl, ad9, S9, o1, hc9, hq9⟩
  refine x_istore d_law_1565 (Nat.le_of_ble_eq_true rfl) ?_
  have hm9 := mdl_in hc9 hm0 hK
  refine x_aload_n d_law_1567 rfl ?_
  refine x_aload_n d_law_1568 rfl ?_
  refine x_iload d_law_1569 rfl ?_
  refine x_iconst d_law_1571 ?_
  refine x_iadd d_law_1572 ?_
  refine x_sld hXs hb hL (by omega) (by omega) d_law_1573 ?_
  refine x_aload_n d_law_1574 rfl ?_
  refine x_iload d_law_1575 rfl ?_
  refine x_iconst d_law_1577 ?_
  refine x_iadd d_law_1578 ?_
  refine x_sld hXs hb hL (by omega) (by omega) d_law_1579 ?_
  refine x_callVC (rc' := rc + 221) (rs' := rs + 7374) (r := (RX7, TX7, 28)) d_law_1580 (q_law_223 nm hh) s_m_removeFile v_m_removeFile (t_m_removeFile hI (toIntR _) (toIntR _) h9 hm9) hm9.1 rfl rfl rfl rfl (Nat.le_of_ble_eq_true rfl) rfl rfl (fun _ _ z => False.elim z) ?_
  have hR : R32 (cd_removeFile S ((xs (i + 1).toNat).toInt) ((xs (i + 2).toNat).toInt)) := by
    unfold cd_removeFile 
    (repeat' split) <;> (unfold R32; omega)
  rintro v2 h10 ⟨_, S', ⟨rfl, hqa, hqb⟩, hm10, hf10⟩
  have hz : ∃ z : Int32, v2 = some (.int z) ∧ ((cd_removeFile S ((xs (i + 1).toNat).toInt) ((xs (i + 2).toNat).toInt)) = 0 → z = iI (vl_removeFile S ((xs (i + 1).toNat).toInt) ((xs (i + 2).toNat).toInt))) := by
    by_cases z0 : (cd_removeFile S ((xs (i + 1).toNat).toInt) ((xs (i + 2).toNat).toInt)) = 0
    · exact ⟨_, (hqa z0).1, fun _ => rfl⟩
    · obtain ⟨_, z, hz⟩ := hqb z0
      exact ⟨z, hz, fun w => absurd w z0⟩
  obtain ⟨z, rfl, hz⟩ := hz
  refine x_istore d_law_1583 (Nat.le_of_ble_eq_true rfl) ?_
  refine x_aload_n d_law_1585 rfl ?_
  refine x_callVC (rc' := rc + 221) (rs' := rs + 7374) (r := (RX7, TX7, 28)) d_law_1586 (q_law_153 nm hh) s_m_thrown v_m_thrown (t_m_thrown h10 hm10) hm10.1 rfl rfl rfl rfl (Nat.le_of_ble_eq_true rfl) rfl rfl (fun _ _ z => False.elim z) ?_
  rintro _ h11 ⟨_, _, ⟨rfl, rfl, rfl⟩, hm11, hf11⟩
  have hfin : LInv g mo out adm h11 := by
    rcases hq9 with ⟨hcd, hag, hE9, ho1⟩ | ⟨hne, e1, e2, e3⟩
    · exact turn_end hc9 hm0 hK hm11 (hf10.trans hf11) (by rw [(hqa hcd).2]; exact hag) (IV.agr (i_removeFile hV) hag hE9) hE9
    · exact turn_end hc9 hm0 hK hm11 (hf10.trans hf11) (by rw [e2, (hqb hne).1]; exact agr_refl _) (by rw [e2]; exact hV) (by rw [e2]; exact hE)
  refine x_iload d_law_1589 rfl ?_
  refine x_icmp_eq (tgt := 1596) d_law_1591 (by decide) hR hR (fun _ => ?_) (fun w => absurd rfl w)
  refine x_iload d_law_1596 rfl ?_
  refine x_if_ne (tgt := 1613) d_law_1598 (by decide) hR (fun w => ?_) (fun w => ?_)
  · skip
    refine x_goto (tgt := 2849) d_law_1613 (by decide) ?_
    exact (next h11 _ _ hfin).mono (by omega) (by omega)
  · have ho : o1 0 = (iI (vl_removeFile S ((xs (i + 1).toNat).toInt) ((xs (i + 2).toNat).toInt))).toInt64 := by
      rcases hq9 with ⟨_, _, _, ho1⟩ | ⟨hne, _⟩
      · exact ho1
      · exact absurd w hne
    have hout : h11 out = some (larr g 1 o1) := by rw [mfr_out hm0 hK hf11, mfr_out hm0 hK hf10]; exact hc9.2.2.1 out _ (hset_s _ _ _)
    refine x_aload_n d_law_1601 rfl ?_
    refine x_iconst d_law_1602 ?_
    refine x_lald (n := 1) d_law_1603 hout (by decide) (by decide) (by decide) ?_
    refine x_iload d_law_1604 rfl ?_
    refine x_i2l d_law_1606 ?_
    refine x_lcmp d_law_1607 ?_
    rw [show o1 (Int.toNat 0) = (iI (vl_removeFile S ((xs (i + 1).toNat).toInt) ((xs (i + 2).toNat).toInt))).toInt64 from ho, hz w, lg_cmp_self]
    refine x_if_eq (tgt := 1613) d_law_1608 (by decide) R32_0 (fun _ => ?_) (fun q => absurd rfl q)
    refine x_goto (tgt := 2849) d_law_1613 (by decide) ?_
    exact (next h11 _ _ hfin).mono (by omega) (by omega)
theorem T_fileOf {g : xG} {x mo out b L : Nat} {adm : Nat → Nat} {xs : Nat → Int32} {nm : String} {hh : List (Nat × Nat × Nat × Nat)} {Q : qP} {rc rs : Nat} {h : hp} {i : Int} {v5 v6 : Option Value} (hN : ncOk g) (hXs : va_X b L xs g.2.1 g.2.1.heap) (hb : b < g.2.1.heap.size) (hL : L ≤ 2560) (i0 : 0 ≤ i) (i1 : i + 5 ≤ L) (hx : x = g.2.2.2.2 5) (hI9 : LInv g mo out adm h) (next : ∀ h' v5 v6, LInv g mo out adm h' → xW g (M_law nm hh) Q mN rc rs h' 2849 [some (.ref b), some (.ref x), some (.ref mo), some (.ref out), some (.int (iI i)), v5, v6] []) : xW g (M_law nm hh) Q mN (rc + 226) (rs + 7404) h 1616 [some (.ref b), some (.ref x), some (.ref mo), some (.ref out), some (.int (iI i)), v5, v6] [] := by
  obtain ⟨ad, S, K, o, tt, hc, hm0, hK, hV, hE⟩ := hI9
  have hx2 : ad 0 0 = x := hc.2.2.2.2.2.trans hx.symm
  subst hx2
  obtain ⟨hI, hX9⟩ := id hV
  have h0 := hE.h
  refine x_aload_n d_law_1616 rfl ?_
  refine x_aload_n d_law_1617 rfl ?_
  refine x_iload d_law_1618 rfl ?_
  refine x_iconst d_law_1620 ?_
  refine x_iadd d_law_1621 ?_
  refine x_sld hXs hb hL (by omega) (by omega) d_law_1622 ?_
  refine x_aload_n d_law_1623 rfl ?_
  refine x_iload d_law_1624 rfl ?_
  refine x_iconst d_law_1626 ?_
  refine x_iadd d_law_1627 ?_
  refine x_sld hXs hb hL (by omega) (by omega) d_law_1628 ?_
  refine x_aload_n d_law_1629 rfl ?_
  refine x_callSWC (rc' := rc + 224) (rs' := rs + 7392) d_law_1630 (q_law_224 nm hh) s_L_fileOf (t_L_fileOf hN hI hE (toIntR _) (toIntR _) h hc) rfl (by rfl) (Nat.le_of_ble_eq_true rfl) (by show rc + 226 = rc + 224 + 2; omega) (by show rs + 7404 = rs + 7392 + 12; omega) ?_
  rintro _ h9 ⟨rfl, ad9, S9, o1, hc9, hq9⟩
  refine x_istore d_law_1633 (Nat.le_of_ble_eq_true rfl) ?_
  have hm9 := mdl_in hc9 hm0 hK
  refine x_aload_n d_law_1635 rfl ?_
  refine x_aload_n d_law_1636 rfl ?_
  refine x_iload d_law_1637 rfl ?_
  refine x_iconst d_law_1639 ?_
  refine x_iadd d_law_1640 ?_
  refine x_sld hXs hb hL (by omega) (by omega) d_law_1641 ?_
  refine x_aload_n d_law_1642 rfl ?_
  refine x_iload d_law_1643 rfl ?_
  refine x_iconst d_law_1645 ?_
  refine x_iadd d_law_1646 ?_
  refine x_sld hXs hb hL (by omega) (by omega) d_law_1647 ?_
  refine x_callVC (rc' := rc + 224) (rs' := rs + 7392) (r := (RX7, TX7, 28)) d_law_1648 (q_law_226 nm hh) s_m_fileOf v_m_fileOf (t_m_fileOf hI (toIntR _) (toIntR _) h9 hm9) hm9.1 rfl rfl rfl rfl (Nat.le_of_ble_eq_true rfl) rfl rfl (fun _ _ z => False.elim z) ?_
  have hR : R32 (cd_fileOf S ((xs (i + 1).toNat).toInt) ((xs (i + 2).toNat).toInt)) := by
    unfold cd_fileOf 
    (repeat' split) <;> (unfold R32; omega)
  rintro v2 h10 ⟨_, S', ⟨rfl, hqa, hqb⟩, hm10, hf10⟩
  have hz : ∃ z : Int32, v2 = some (.int z) ∧ ((cd_fileOf S ((xs (i + 1).toNat).toInt) ((xs (i + 2).toNat).toInt)) = 0 → z = iI (vl_fileOf S ((xs (i + 1).toNat).toInt) ((xs (i + 2).toNat).toInt))) := by
    by_cases z0 : (cd_fileOf S ((xs (i + 1).toNat).toInt) ((xs (i + 2).toNat).toInt)) = 0
    · exact ⟨_, (hqa z0).1, fun _ => rfl⟩
    · obtain ⟨_, z, hz⟩ := hqb z0
      exact ⟨z, hz, fun w => absurd w z0⟩
  obtain ⟨z, rfl, hz⟩ := hz
  refine x_istore d_law_1651 (Nat.le_of_ble_eq_true rfl) ?_
  refine x_aload_n d_law_1653 rfl ?_
  refine x_callVC (rc' := rc + 224) (rs' := rs + 7392) (r := (RX7, TX7, 28)) d_law_1654 (q_law_153 nm hh) s_m_thrown v_m_thrown (t_m_thrown h10 hm10) hm10.1 rfl rfl rfl rfl (Nat.le_of_ble_eq_true rfl) rfl rfl (fun _ _ z => False.elim z) ?_
  rintro _ h11 ⟨_, _, ⟨rfl, rfl, rfl⟩, hm11, hf11⟩
  have hfin : LInv g mo out adm h11 := by
    rcases hq9 with ⟨hcd, hag, hE9, ho1⟩ | ⟨hne, e1, e2, e3⟩
    · exact turn_end hc9 hm0 hK hm11 (hf10.trans hf11) (by rw [(hqa hcd).2]; exact hag) (IV.agr hV hag hE9) hE9
    · exact turn_end hc9 hm0 hK hm11 (hf10.trans hf11) (by rw [e2, (hqb hne).1]; exact agr_refl _) (by rw [e2]; exact hV) (by rw [e2]; exact hE)
  refine x_iload d_law_1657 rfl ?_
  refine x_icmp_eq (tgt := 1664) d_law_1659 (by decide) hR hR (fun _ => ?_) (fun w => absurd rfl w)
  refine x_iload d_law_1664 rfl ?_
  refine x_if_ne (tgt := 1681) d_law_1666 (by decide) hR (fun w => ?_) (fun w => ?_)
  · skip
    refine x_goto (tgt := 2849) d_law_1681 (by decide) ?_
    exact (next h11 _ _ hfin).mono (by omega) (by omega)
  · have ho : o1 0 = (iI (vl_fileOf S ((xs (i + 1).toNat).toInt) ((xs (i + 2).toNat).toInt))).toInt64 := by
      rcases hq9 with ⟨_, _, _, ho1⟩ | ⟨hne, _⟩
      · exact ho1
      · exact absurd w hne
    have hout : h11 out = some (larr g 1 o1) := by rw [mfr_out hm0 hK hf11, mfr_out hm0 hK hf10]; exact hc9.2.2.1 out _ (hset_s _ _ _)
    refine x_aload_n d_law_1669 rfl ?_
    refine x_iconst d_law_1670 ?_
    refine x_lald (n := 1) d_law_1671 hout (by decide) (by decide) (by decide) ?_
    refine x_iload d_law_1672 rfl ?_
    refine x_i2l d_law_1674 ?_
    refine x_lcmp d_law_1675 ?_
    rw [show o1 (Int.toNat 0) = (iI (vl_fileOf S ((xs (i + 1).toNat).toInt) ((xs (i + 2).toNat).toInt))).toInt64 from ho, hz w, lg_cmp_self]
    refine x_if_eq (tgt := 1681) d_law_1676 (by decide) R32_0 (fun _ => ?_) (fun q => absurd rfl q)
    refine x_goto (tgt := 2849) d_law_1681 (by decide) ?_
    exact (next h11 _ _ hfin).mono (by omega) (by omega)
theorem T_plainFileOf {g : xG} {x mo out b L : Nat} {adm : Nat → Nat} {xs : Nat → Int32} {nm : String} {hh : List (Nat × Nat × Nat × Nat)} {Q : qP} {rc rs : Nat} {h : hp} {i : Int} {v5 v6 : Option Value} (hN : ncOk g) (hXs : va_X b L xs g.2.1 g.2.1.heap) (hb : b < g.2.1.heap.size) (hL : L ≤ 2560) (i0 : 0 ≤ i) (i1 : i + 5 ≤ L) (hx : x = g.2.2.2.2 5) (hI9 : LInv g mo out adm h) (next : ∀ h' v5 v6, LInv g mo out adm h' → xW g (M_law nm hh) Q mN rc rs h' 2849 [some (.ref b), some (.ref x), some (.ref mo), some (.ref out), some (.int (iI i)), v5, v6] []) : xW g (M_law nm hh) Q mN (rc + 226) (rs + 7404) h 1684 [some (.ref b), some (.ref x), some (.ref mo), some (.ref out), some (.int (iI i)), v5, v6] [] := by
  obtain ⟨ad, S, K, o, tt, hc, hm0, hK, hV, hE⟩ := hI9
  have hx2 : ad 0 0 = x := hc.2.2.2.2.2.trans hx.symm
  subst hx2
  obtain ⟨hI, hX9⟩ := id hV
  have h0 := hE.h
  refine x_aload_n d_law_1684 rfl ?_
  refine x_aload_n d_law_1685 rfl ?_
  refine x_iload d_law_1686 rfl ?_
  refine x_iconst d_law_1688 ?_
  refine x_iadd d_law_1689 ?_
  refine x_sld hXs hb hL (by omega) (by omega) d_law_1690 ?_
  refine x_aload_n d_law_1691 rfl ?_
  refine x_iload d_law_1692 rfl ?_
  refine x_iconst d_law_1694 ?_
  refine x_iadd d_law_1695 ?_
  refine x_sld hXs hb hL (by omega) (by omega) d_law_1696 ?_
  refine x_aload_n d_law_1697 rfl ?_
  refine x_callSWC (rc' := rc + 224) (rs' := rs + 7392) d_law_1698 (q_law_227 nm hh) s_L_plainFileOf (t_L_plainFileOf hN hI hE (toIntR _) (toIntR _) h hc) rfl (by rfl) (Nat.le_of_ble_eq_true rfl) (by show rc + 226 = rc + 224 + 2; omega) (by show rs + 7404 = rs + 7392 + 12; omega) ?_
  rintro _ h9 ⟨rfl, ad9, S9, o1, hc9, hq9⟩
  refine x_istore d_law_1701 (Nat.le_of_ble_eq_true rfl) ?_
  have hm9 := mdl_in hc9 hm0 hK
  refine x_aload_n d_law_1703 rfl ?_
  refine x_aload_n d_law_1704 rfl ?_
  refine x_iload d_law_1705 rfl ?_
  refine x_iconst d_law_1707 ?_
  refine x_iadd d_law_1708 ?_
  refine x_sld hXs hb hL (by omega) (by omega) d_law_1709 ?_
  refine x_aload_n d_law_1710 rfl ?_
  refine x_iload d_law_1711 rfl ?_
  refine x_iconst d_law_1713 ?_
  refine x_iadd d_law_1714 ?_
  refine x_sld hXs hb hL (by omega) (by omega) d_law_1715 ?_
  refine x_callVC (rc' := rc + 224) (rs' := rs + 7392) (r := (RX7, TX7, 28)) d_law_1716 (q_law_229 nm hh) s_m_plainFileOf v_m_plainFileOf (t_m_plainFileOf hI (toIntR _) (toIntR _) h9 hm9) hm9.1 rfl rfl rfl rfl (Nat.le_of_ble_eq_true rfl) rfl rfl (fun _ _ z => False.elim z) ?_
  have hR : R32 (cd_plainFileOf S ((xs (i + 1).toNat).toInt) ((xs (i + 2).toNat).toInt)) := by
    unfold cd_plainFileOf 
    (repeat' split) <;> (unfold R32; omega)
  rintro v2 h10 ⟨_, S', ⟨rfl, hqa, hqb⟩, hm10, hf10⟩
  have hz : ∃ z : Int32, v2 = some (.int z) ∧ ((cd_plainFileOf S ((xs (i + 1).toNat).toInt) ((xs (i + 2).toNat).toInt)) = 0 → z = iI (vl_plainFileOf S ((xs (i + 1).toNat).toInt) ((xs (i + 2).toNat).toInt))) := by
    by_cases z0 : (cd_plainFileOf S ((xs (i + 1).toNat).toInt) ((xs (i + 2).toNat).toInt)) = 0
    · exact ⟨_, (hqa z0).1, fun _ => rfl⟩
    · obtain ⟨_, z, hz⟩ := hqb z0
      exact ⟨z, hz, fun w => absurd w z0⟩
  obtain ⟨z, rfl, hz⟩ := hz
  refine x_istore d_law_1719 (Nat.le_of_ble_eq_true rfl) ?_
  refine x_aload_n d_law_1721 rfl ?_
  refine x_callVC (rc' := rc + 224) (rs' := rs + 7392) (r := (RX7, TX7, 28)) d_law_1722 (q_law_153 nm hh) s_m_thrown v_m_thrown (t_m_thrown h10 hm10) hm10.1 rfl rfl rfl rfl (Nat.le_of_ble_eq_true rfl) rfl rfl (fun _ _ z => False.elim z) ?_
  rintro _ h11 ⟨_, _, ⟨rfl, rfl, rfl⟩, hm11, hf11⟩
  have hfin : LInv g mo out adm h11 := by
    rcases hq9 with ⟨hcd, hag, hE9, ho1⟩ | ⟨hne, e1, e2, e3⟩
    · exact turn_end hc9 hm0 hK hm11 (hf10.trans hf11) (by rw [(hqa hcd).2]; exact hag) (IV.agr hV hag hE9) hE9
    · exact turn_end hc9 hm0 hK hm11 (hf10.trans hf11) (by rw [e2, (hqb hne).1]; exact agr_refl _) (by rw [e2]; exact hV) (by rw [e2]; exact hE)
  refine x_iload d_law_1725 rfl ?_
  refine x_icmp_eq (tgt := 1732) d_law_1727 (by decide) hR hR (fun _ => ?_) (fun w => absurd rfl w)
  refine x_iload d_law_1732 rfl ?_
  refine x_if_ne (tgt := 1749) d_law_1734 (by decide) hR (fun w => ?_) (fun w => ?_)
  · skip
    refine x_goto (tgt := 2849) d_law_1749 (by decide) ?_
    exact (next h11 _ _ hfin).mono (by omega) (by omega)
  · have ho : o1 0 = (iI (vl_plainFileOf S ((xs (i + 1).toNat).toInt) ((xs (i + 2).toNat).toInt))).toInt64 := by
      rcases hq9 with ⟨_, _, _, ho1⟩ | ⟨hne, _⟩
      · exact ho1
      · exact absurd w hne
    have hout : h11 out = some (larr g 1 o1) := by rw [mfr_out hm0 hK hf11, mfr_out hm0 hK hf10]; exact hc9.2.2.1 out _ (hset_s _ _ _)
    refine x_aload_n d_law_1737 rfl ?_
    refine x_iconst d_law_1738 ?_
    refine x_lald (n := 1) d_law_1739 hout (by decide) (by decide) (by decide) ?_
    refine x_iload d_law_1740 rfl ?_
    refine x_i2l d_law_1742 ?_
    refine x_lcmp d_law_1743 ?_
    rw [show o1 (Int.toNat 0) = (iI (vl_plainFileOf S ((xs (i + 1).toNat).toInt) ((xs (i + 2).toNat).toInt))).toInt64 from ho, hz w, lg_cmp_self]
    refine x_if_eq (tgt := 1749) d_law_1744 (by decide) R32_0 (fun _ => ?_) (fun q => absurd rfl q)
    refine x_goto (tgt := 2849) d_law_1749 (by decide) ?_
    exact (next h11 _ _ hfin).mono (by omega) (by omega)
theorem T_raise {g : xG} {x mo out b L : Nat} {adm : Nat → Nat} {xs : Nat → Int32} {nm : String} {hh : List (Nat × Nat × Nat × Nat)} {Q : qP} {rc rs : Nat} {h : hp} {i : Int} {v5 v6 : Option Value} (hN : ncOk g) (hXs : va_X b L xs g.2.1 g.2.1.heap) (hb : b < g.2.1.heap.size) (hL : L ≤ 2560) (i0 : 0 ≤ i) (i1 : i + 5 ≤ L) (hx : x = g.2.2.2.2 5) (hI9 : LInv g mo out adm h) (next : ∀ h' v5 v6, LInv g mo out adm h' → xW g (M_law nm hh) Q mN rc rs h' 2849 [some (.ref b), some (.ref x), some (.ref mo), some (.ref out), some (.int (iI i)), v5, v6] []) : xW g (M_law nm hh) Q mN (rc + 226) (rs + 7404) h 1752 [some (.ref b), some (.ref x), some (.ref mo), some (.ref out), some (.int (iI i)), v5, v6] [] := by
  obtain ⟨ad, S, K, o, tt, hc, hm0, hK, hV, hE⟩ := hI9
  have hx2 : ad 0 0 = x := hc.2.2.2.2.2.trans hx.symm
  subst hx2
  obtain ⟨hI, hX9⟩ := id hV
  have h0 := hE.h
  refine x_aload_n d_law_1752 rfl ?_
  refine x_aload_n d_law_1753 rfl ?_
  refine x_iload d_law_1754 rfl ?_
  refine x_iconst d_law_1756 ?_
  refine x_iadd d_law_1757 ?_
  refine x_sld hXs hb hL (by omega) (by omega) d_law_1758 ?_
  refine x_aload_n d_law_1759 rfl ?_
  refine x_iload d_law_1760 rfl ?_
  refine x_iconst d_law_1762 ?_
  refine x_iadd d_law_1763 ?_
  refine x_sld hXs hb hL (by omega) (by omega) d_law_1764 ?_
  refine x_aload_n d_law_1765 rfl ?_
  refine x_callSWC (rc' := rc + 222) (rs' := rs + 7380) d_law_1766 (q_law_230 nm hh) s_L_raise (t_L_raise hN hI hE (toIntR _) (toIntR _) h hc) rfl (by rfl) (Nat.le_of_ble_eq_true rfl) (by show rc + 226 = rc + 222 + 4; omega) (by show rs + 7404 = rs + 7380 + 24; omega) ?_
  rintro _ h9 ⟨rfl, ad9, S9, o1, hc9, hq9⟩
  refine x_istore d_law_1769 (Nat.le_of_ble_eq_true rfl) ?_
  have hm9 := mdl_in hc9 hm0 hK
  refine x_aload_n d_law_1771 rfl ?_
  refine x_aload_n d_law_1772 rfl ?_
  refine x_iload d_law_1773 rfl ?_
  refine x_iconst d_law_1775 ?_
  refine x_iadd d_law_1776 ?_
  refine x_sld hXs hb hL (by omega) (by omega) d_law_1777 ?_
  refine x_aload_n d_law_1778 rfl ?_
  refine x_iload d_law_1779 rfl ?_
  refine x_iconst d_law_1781 ?_
  refine x_iadd d_law_1782 ?_
  refine x_sld hXs hb hL (by omega) (by omega) d_law_1783 ?_
  refine x_callVC (rc' := rc + 222) (rs' := rs + 7380) (r := (RX7, TX7, 28)) d_law_1784 (q_law_232 nm hh) s_m_raise v_m_raise (t_m_raise hI (toIntR _) (toIntR _) h9 hm9) hm9.1 rfl rfl rfl rfl (Nat.le_of_ble_eq_true rfl) rfl rfl (fun _ _ z => False.elim z) ?_
  have hR : R32 (cd_raise S ((xs (i + 1).toNat).toInt) ((xs (i + 2).toNat).toInt)) := by
    unfold cd_raise icp 
    (repeat' split) <;> (unfold R32; omega)
  rintro v2 h10 ⟨_, S', ⟨rfl, hqa, hqb⟩, hm10, hf10⟩
  have hz : ∃ z : Int32, v2 = some (.int z) ∧ ((cd_raise S ((xs (i + 1).toNat).toInt) ((xs (i + 2).toNat).toInt)) = 0 → z = iI (vl_raise S ((xs (i + 1).toNat).toInt) ((xs (i + 2).toNat).toInt))) := by
    by_cases z0 : (cd_raise S ((xs (i + 1).toNat).toInt) ((xs (i + 2).toNat).toInt)) = 0
    · exact ⟨_, (hqa z0).1, fun _ => rfl⟩
    · obtain ⟨_, z, hz⟩ := hqb z0
      exact ⟨z, hz, fun w => absurd w z0⟩
  obtain ⟨z, rfl, hz⟩ := hz
  refine x_istore d_law_1787 (Nat.le_of_ble_eq_true rfl) ?_
  refine x_aload_n d_law_1789 rfl ?_
  refine x_callVC (rc' := rc + 222) (rs' := rs + 7380) (r := (RX7, TX7, 28)) d_law_1790 (q_law_153 nm hh) s_m_thrown v_m_thrown (t_m_thrown h10 hm10) hm10.1 rfl rfl rfl rfl (Nat.le_of_ble_eq_true rfl) rfl rfl (fun _ _ z => False.elim z) ?_
  rintro _ h11 ⟨_, _, ⟨rfl, rfl, rfl⟩, hm11, hf11⟩
  have hfin : LInv g mo out adm h11 := by
    rcases hq9 with ⟨hcd, hag, hE9, ho1⟩ | ⟨hne, e1, e2, e3⟩
    · exact turn_end hc9 hm0 hK hm11 (hf10.trans hf11) (by rw [(hqa hcd).2]; exact hag) (IV.agr (i_raise hV hcd) hag hE9) hE9
    · exact turn_end hc9 hm0 hK hm11 (hf10.trans hf11) (by rw [e2, (hqb hne).1]; exact agr_refl _) (by rw [e2]; exact hV) (by rw [e2]; exact hE)
  refine x_iload d_law_1793 rfl ?_
  refine x_icmp_eq (tgt := 1800) d_law_1795 (by decide) hR hR (fun _ => ?_) (fun w => absurd rfl w)
  refine x_iload d_law_1800 rfl ?_
  refine x_if_ne (tgt := 1817) d_law_1802 (by decide) hR (fun w => ?_) (fun w => ?_)
  · skip
    refine x_goto (tgt := 2849) d_law_1817 (by decide) ?_
    exact (next h11 _ _ hfin).mono (by omega) (by omega)
  · have ho : o1 0 = (iI (vl_raise S ((xs (i + 1).toNat).toInt) ((xs (i + 2).toNat).toInt))).toInt64 := by
      rcases hq9 with ⟨_, _, _, ho1⟩ | ⟨hne, _⟩
      · exact ho1
      · exact absurd w hne
    have hout : h11 out = some (larr g 1 o1) := by rw [mfr_out hm0 hK hf11, mfr_out hm0 hK hf10]; exact hc9.2.2.1 out _ (hset_s _ _ _)
    refine x_aload_n d_law_1805 rfl ?_
    refine x_iconst d_law_1806 ?_
    refine x_lald (n := 1) d_law_1807 hout (by decide) (by decide) (by decide) ?_
    refine x_iload d_law_1808 rfl ?_
    refine x_i2l d_law_1810 ?_
    refine x_lcmp d_law_1811 ?_
    rw [show o1 (Int.toNat 0) = (iI (vl_raise S ((xs (i + 1).toNat).toInt) ((xs (i + 2).toNat).toInt))).toInt64 from ho, hz w, lg_cmp_self]
    refine x_if_eq (tgt := 1817) d_law_1812 (by decide) R32_0 (fun _ => ?_) (fun q => absurd rfl q)
    refine x_goto (tgt := 2849) d_law_1817 (by decide) ?_
    exact (next h11 _ _ hfin).mono (by omega) (by omega)
theorem T_lower {g : xG} {x mo out b L : Nat} {adm : Nat → Nat} {xs : Nat → Int32} {nm : String} {hh : List (Nat × Nat × Nat × Nat)} {Q : qP} {rc rs : Nat} {h : hp} {i : Int} {v5 v6 : Option Value} (hN : ncOk g) (hXs : va_X b L xs g.2.1 g.2.1.heap) (hb : b < g.2.1.heap.size) (hL : L ≤ 2560) (i0 : 0 ≤ i) (i1 : i + 5 ≤ L) (hx : x = g.2.2.2.2 5) (hI9 : LInv g mo out adm h) (next : ∀ h' v5 v6, LInv g mo out adm h' → xW g (M_law nm hh) Q mN rc rs h' 2849 [some (.ref b), some (.ref x), some (.ref mo), some (.ref out), some (.int (iI i)), v5, v6] []) : xW g (M_law nm hh) Q mN (rc + 226) (rs + 7404) h 1820 [some (.ref b), some (.ref x), some (.ref mo), some (.ref out), some (.int (iI i)), v5, v6] [] := by
  obtain ⟨ad, S, K, o, tt, hc, hm0, hK, hV, hE⟩ := hI9
  have hx2 : ad 0 0 = x := hc.2.2.2.2.2.trans hx.symm
  subst hx2
  obtain ⟨hI, hX9⟩ := id hV
  have h0 := hE.h
  refine x_aload_n d_law_1820 rfl ?_
  refine x_aload_n d_law_1821 rfl ?_
  refine x_iload d_law_1822 rfl ?_
  refine x_iconst d_law_1824 ?_
  refine x_iadd d_law_1825 ?_
  refine x_sld hXs hb hL (by omega) (by omega) d_law_1826 ?_
  refine x_aload_n d_law_1827 rfl ?_
  refine x_iload d_law_1828 rfl ?_
  refine x_iconst d_law_1830 ?_
  refine x_iadd d_law_1831 ?_
  refine x_sld hXs hb hL (by omega) (by omega) d_law_1832 ?_
  refine x_aload_n d_law_1833 rfl ?_
  refine x_callSWC (rc' := rc + 223) (rs' := rs + 7386) d_law_1834 (q_law_233 nm hh) s_L_lower (t_L_lower hN hI hE (toIntR _) (toIntR _) h hc) rfl (by rfl) (Nat.le_of_ble_eq_true rfl) (by show rc + 226 = rc + 223 + 3; omega) (by show rs + 7404 = rs + 7386 + 18; omega) ?_
  rintro _ h9 ⟨rfl, ad9, S9, o1, hc9, hq9⟩
  refine x_istore d_law_1837 (Nat.le_of_ble_eq_true rfl) ?_
  have hm9 := mdl_in hc9 hm0 hK
  refine x_aload_n d_law_1839 rfl ?_
  refine x_aload_n d_law_1840 rfl ?_
  refine x_iload d_law_1841 rfl ?_
  refine x_iconst d_law_1843 ?_
  refine x_iadd d_law_1844 ?_
  refine x_sld hXs hb hL (by omega) (by omega) d_law_1845 ?_
  refine x_aload_n d_law_1846 rfl ?_
  refine x_iload d_law_1847 rfl ?_
  refine x_iconst d_law_1849 ?_
  refine x_iadd d_law_1850 ?_
  refine x_sld hXs hb hL (by omega) (by omega) d_law_1851 ?_
  refine x_callVC (rc' := rc + 223) (rs' := rs + 7386) (r := (RX7, TX7, 28)) d_law_1852 (q_law_235 nm hh) s_m_lower v_m_lower (t_m_lower hI (toIntR _) (toIntR _) h9 hm9) hm9.1 rfl rfl rfl rfl (Nat.le_of_ble_eq_true rfl) rfl rfl (fun _ _ z => False.elim z) ?_
  have hR : R32 (cd_lower S ((xs (i + 1).toNat).toInt) ((xs (i + 2).toNat).toInt)) := by
    unfold cd_lower icp 
    (repeat' split) <;> (unfold R32; omega)
  rintro v2 h10 ⟨_, S', ⟨rfl, hqa, hqb⟩, hm10, hf10⟩
  have hz : ∃ z : Int32, v2 = some (.int z) ∧ ((cd_lower S ((xs (i + 1).toNat).toInt) ((xs (i + 2).toNat).toInt)) = 0 → z = iI (vl_lower S ((xs (i + 1).toNat).toInt) ((xs (i + 2).toNat).toInt))) := by
    by_cases z0 : (cd_lower S ((xs (i + 1).toNat).toInt) ((xs (i + 2).toNat).toInt)) = 0
    · exact ⟨_, (hqa z0).1, fun _ => rfl⟩
    · obtain ⟨_, z, hz⟩ := hqb z0
      exact ⟨z, hz, fun w => absurd w z0⟩
  obtain ⟨z, rfl, hz⟩ := hz
  refine x_istore d_law_1855 (Nat.le_of_ble_eq_true rfl) ?_
  refine x_aload_n d_law_1857 rfl ?_
  refine x_callVC (rc' := rc + 223) (rs' := rs + 7386) (r := (RX7, TX7, 28)) d_law_1858 (q_law_153 nm hh) s_m_thrown v_m_thrown (t_m_thrown h10 hm10) hm10.1 rfl rfl rfl rfl (Nat.le_of_ble_eq_true rfl) rfl rfl (fun _ _ z => False.elim z) ?_
  rintro _ h11 ⟨_, _, ⟨rfl, rfl, rfl⟩, hm11, hf11⟩
  have hfin : LInv g mo out adm h11 := by
    rcases hq9 with ⟨hcd, hag, hE9, ho1⟩ | ⟨hne, e1, e2, e3⟩
    · exact turn_end hc9 hm0 hK hm11 (hf10.trans hf11) (by rw [(hqa hcd).2]; exact hag) (IV.agr (i_lower hV hcd) hag hE9) hE9
    · exact turn_end hc9 hm0 hK hm11 (hf10.trans hf11) (by rw [e2, (hqb hne).1]; exact agr_refl _) (by rw [e2]; exact hV) (by rw [e2]; exact hE)
  refine x_iload d_law_1861 rfl ?_
  refine x_icmp_eq (tgt := 1868) d_law_1863 (by decide) hR hR (fun _ => ?_) (fun w => absurd rfl w)
  refine x_iload d_law_1868 rfl ?_
  refine x_if_ne (tgt := 1885) d_law_1870 (by decide) hR (fun w => ?_) (fun w => ?_)
  · skip
    refine x_goto (tgt := 2849) d_law_1885 (by decide) ?_
    exact (next h11 _ _ hfin).mono (by omega) (by omega)
  · have ho : o1 0 = (iI (vl_lower S ((xs (i + 1).toNat).toInt) ((xs (i + 2).toNat).toInt))).toInt64 := by
      rcases hq9 with ⟨_, _, _, ho1⟩ | ⟨hne, _⟩
      · exact ho1
      · exact absurd w hne
    have hout : h11 out = some (larr g 1 o1) := by rw [mfr_out hm0 hK hf11, mfr_out hm0 hK hf10]; exact hc9.2.2.1 out _ (hset_s _ _ _)
    refine x_aload_n d_law_1873 rfl ?_
    refine x_iconst d_law_1874 ?_
    refine x_lald (n := 1) d_law_1875 hout (by decide) (by decide) (by decide) ?_
    refine x_iload d_law_1876 rfl ?_
    refine x_i2l d_law_1878 ?_
    refine x_lcmp d_law_1879 ?_
    rw [show o1 (Int.toNat 0) = (iI (vl_lower S ((xs (i + 1).toNat).toInt) ((xs (i + 2).toNat).toInt))).toInt64 from ho, hz w, lg_cmp_self]
    refine x_if_eq (tgt := 1885) d_law_1880 (by decide) R32_0 (fun _ => ?_) (fun q => absurd rfl q)
    refine x_goto (tgt := 2849) d_law_1885 (by decide) ?_
    exact (next h11 _ _ hfin).mono (by omega) (by omega)
theorem T_drop {g : xG} {x mo out b L : Nat} {adm : Nat → Nat} {xs : Nat → Int32} {nm : String} {hh : List (Nat × Nat × Nat × Nat)} {Q : qP} {rc rs : Nat} {h : hp} {i : Int} {v5 v6 : Option Value} (hN : ncOk g) (hXs : va_X b L xs g.2.1 g.2.1.heap) (hb : b < g.2.1.heap.size) (hL : L ≤ 2560) (i0 : 0 ≤ i) (i1 : i + 5 ≤ L) (hx : x = g.2.2.2.2 5) (hI9 : LInv g mo out adm h) (next : ∀ h' v5 v6, LInv g mo out adm h' → xW g (M_law nm hh) Q mN rc rs h' 2849 [some (.ref b), some (.ref x), some (.ref mo), some (.ref out), some (.int (iI i)), v5, v6] []) : xW g (M_law nm hh) Q mN (rc + 226) (rs + 7404) h 1888 [some (.ref b), some (.ref x), some (.ref mo), some (.ref out), some (.int (iI i)), v5, v6] [] := by
  obtain ⟨ad, S, K, o, tt, hc, hm0, hK, hV, hE⟩ := hI9
  have hx2 : ad 0 0 = x := hc.2.2.2.2.2.trans hx.symm
  subst hx2
  obtain ⟨hI, hX9⟩ := id hV
  have h0 := hE.h
  refine x_aload_n d_law_1888 rfl ?_
  refine x_aload_n d_law_1889 rfl ?_
  refine x_iload d_law_1890 rfl ?_
  refine x_iconst d_law_1892 ?_
  refine x_iadd d_law_1893 ?_
  refine x_sld hXs hb hL (by omega) (by omega) d_law_1894 ?_
  refine x_aload_n d_law_1895 rfl ?_
  refine x_iload d_law_1896 rfl ?_
  refine x_iconst d_law_1898 ?_
  refine x_iadd d_law_1899 ?_
  refine x_sld hXs hb hL (by omega) (by omega) d_law_1900 ?_
  refine x_aload_n d_law_1901 rfl ?_
  refine x_callSWC (rc' := rc + 223) (rs' := rs + 7386) d_law_1902 (q_law_236 nm hh) s_L_drop (t_L_drop hN hI hE (toIntR _) (toIntR _) h hc) rfl (by rfl) (Nat.le_of_ble_eq_true rfl) (by show rc + 226 = rc + 223 + 3; omega) (by show rs + 7404 = rs + 7386 + 18; omega) ?_
  rintro _ h9 ⟨rfl, ad9, S9, o1, hc9, hq9⟩
  refine x_istore d_law_1905 (Nat.le_of_ble_eq_true rfl) ?_
  have hm9 := mdl_in hc9 hm0 hK
  refine x_aload_n d_law_1907 rfl ?_
  refine x_aload_n d_law_1908 rfl ?_
  refine x_iload d_law_1909 rfl ?_
  refine x_iconst d_law_1911 ?_
  refine x_iadd d_law_1912 ?_
  refine x_sld hXs hb hL (by omega) (by omega) d_law_1913 ?_
  refine x_aload_n d_law_1914 rfl ?_
  refine x_iload d_law_1915 rfl ?_
  refine x_iconst d_law_1917 ?_
  refine x_iadd d_law_1918 ?_
  refine x_sld hXs hb hL (by omega) (by omega) d_law_1919 ?_
  refine x_callVC (rc' := rc + 223) (rs' := rs + 7386) (r := (RX7, TX7, 28)) d_law_1920 (q_law_238 nm hh) s_m_drop v_m_drop (t_m_drop hI (toIntR _) (toIntR _) h9 hm9) hm9.1 rfl rfl rfl rfl (Nat.le_of_ble_eq_true rfl) rfl rfl (fun _ _ z => False.elim z) ?_
  have hR : R32 (cd_drop S ((xs (i + 1).toNat).toInt) ((xs (i + 2).toNat).toInt)) := by
    unfold cd_drop icp 
    (repeat' split) <;> (unfold R32; omega)
  rintro v2 h10 ⟨_, S', ⟨rfl, hqa, hqb⟩, hm10, hf10⟩
  have hz : ∃ z : Int32, v2 = some (.int z) ∧ ((cd_drop S ((xs (i + 1).toNat).toInt) ((xs (i + 2).toNat).toInt)) = 0 → z = iI (vl_drop S ((xs (i + 1).toNat).toInt) ((xs (i + 2).toNat).toInt))) := by
    by_cases z0 : (cd_drop S ((xs (i + 1).toNat).toInt) ((xs (i + 2).toNat).toInt)) = 0
    · exact ⟨_, (hqa z0).1, fun _ => rfl⟩
    · obtain ⟨_, z, hz⟩ := hqb z0
      exact ⟨z, hz, fun w => absurd w z0⟩
  obtain ⟨z, rfl, hz⟩ := hz
  refine x_istore d_law_1923 (Nat.le_of_ble_eq_true rfl) ?_
  refine x_aload_n d_law_1925 rfl ?_
  refine x_callVC (rc' := rc + 223) (rs' := rs + 7386) (r := (RX7, TX7, 28)) d_law_1926 (q_law_153 nm hh) s_m_thrown v_m_thrown (t_m_thrown h10 hm10) hm10.1 rfl rfl rfl rfl (Nat.le_of_ble_eq_true rfl) rfl rfl (fun _ _ z => False.elim z) ?_
  rintro _ h11 ⟨_, _, ⟨rfl, rfl, rfl⟩, hm11, hf11⟩
  have hfin : LInv g mo out adm h11 := by
    rcases hq9 with ⟨hcd, hag, hE9, ho1⟩ | ⟨hne, e1, e2, e3⟩
    · exact turn_end hc9 hm0 hK hm11 (hf10.trans hf11) (by rw [(hqa hcd).2]; exact hag) (IV.agr (i_drop hV hcd) hag hE9) hE9
    · exact turn_end hc9 hm0 hK hm11 (hf10.trans hf11) (by rw [e2, (hqb hne).1]; exact agr_refl _) (by rw [e2]; exact hV) (by rw [e2]; exact hE)
  refine x_iload d_law_1929 rfl ?_
  refine x_icmp_eq (tgt := 1936) d_law_1931 (by decide) hR hR (fun _ => ?_) (fun w => absurd rfl w)
  refine x_iload d_law_1936 rfl ?_
  refine x_if_ne (tgt := 1953) d_law_1938 (by decide) hR (fun w => ?_) (fun w => ?_)
  · skip
    refine x_goto (tgt := 2849) d_law_1953 (by decide) ?_
    exact (next h11 _ _ hfin).mono (by omega) (by omega)
  · have ho : o1 0 = (iI (vl_drop S ((xs (i + 1).toNat).toInt) ((xs (i + 2).toNat).toInt))).toInt64 := by
      rcases hq9 with ⟨_, _, _, ho1⟩ | ⟨hne, _⟩
      · exact ho1
      · exact absurd w hne
    have hout : h11 out = some (larr g 1 o1) := by rw [mfr_out hm0 hK hf11, mfr_out hm0 hK hf10]; exact hc9.2.2.1 out _ (hset_s _ _ _)
    refine x_aload_n d_law_1941 rfl ?_
    refine x_iconst d_law_1942 ?_
    refine x_lald (n := 1) d_law_1943 hout (by decide) (by decide) (by decide) ?_
    refine x_iload d_law_1944 rfl ?_
    refine x_i2l d_law_1946 ?_
    refine x_lcmp d_law_1947 ?_
    rw [show o1 (Int.toNat 0) = (iI (vl_drop S ((xs (i + 1).toNat).toInt) ((xs (i + 2).toNat).toInt))).toInt64 from ho, hz w, lg_cmp_self]
    refine x_if_eq (tgt := 1953) d_law_1948 (by decide) R32_0 (fun _ => ?_) (fun q => absurd rfl q)
    refine x_goto (tgt := 2849) d_law_1953 (by decide) ?_
    exact (next h11 _ _ hfin).mono (by omega) (by omega)
theorem T_kill {g : xG} {x mo out b L : Nat} {adm : Nat → Nat} {xs : Nat → Int32} {nm : String} {hh : List (Nat × Nat × Nat × Nat)} {Q : qP} {rc rs : Nat} {h : hp} {i : Int} {v5 v6 : Option Value} (hN : ncOk g) (hXs : va_X b L xs g.2.1 g.2.1.heap) (hb : b < g.2.1.heap.size) (hL : L ≤ 2560) (i0 : 0 ≤ i) (i1 : i + 5 ≤ L) (hx : x = g.2.2.2.2 5) (hI9 : LInv g mo out adm h) (next : ∀ h' v5 v6, LInv g mo out adm h' → xW g (M_law nm hh) Q mN rc rs h' 2849 [some (.ref b), some (.ref x), some (.ref mo), some (.ref out), some (.int (iI i)), v5, v6] []) : xW g (M_law nm hh) Q mN (rc + 226) (rs + 7404) h 1956 [some (.ref b), some (.ref x), some (.ref mo), some (.ref out), some (.int (iI i)), v5, v6] [] := by
  obtain ⟨ad, S, K, o, tt, hc, hm0, hK, hV, hE⟩ := hI9
  have hx2 : ad 0 0 = x := hc.2.2.2.2.2.trans hx.symm
  subst hx2
  obtain ⟨hI, hX9⟩ := id hV
  have h0 := hE.h
  refine x_aload_n d_law_1956 rfl ?_
  refine x_aload_n d_law_1957 rfl ?_
  refine x_iload d_law_1958 rfl ?_
  refine x_iconst d_law_1960 ?_
  refine x_iadd d_law_1961 ?_
  refine x_sld hXs hb hL (by omega) (by omega) d_law_1962 ?_
  refine x_aload_n d_law_1963 rfl ?_
  refine x_iload d_law_1964 rfl ?_
  refine x_iconst d_law_1966 ?_
  refine x_iadd d_law_1967 ?_
  refine x_sld hXs hb hL (by omega) (by omega) d_law_1968 ?_
  refine x_aload_n d_law_1969 rfl ?_
  refine x_callSWC (rc' := rc + 220) (rs' := rs + 7368) d_law_1970 (q_law_239 nm hh) s_L_kill (t_L_kill hN hI hE (toIntR _) (toIntR _) h hc) rfl (by rfl) (Nat.le_of_ble_eq_true rfl) (by show rc + 226 = rc + 220 + 6; omega) (by show rs + 7404 = rs + 7368 + 36; omega) ?_
  rintro _ h9 ⟨rfl, ad9, S9, o1, hc9, hq9⟩
  refine x_istore d_law_1973 (Nat.le_of_ble_eq_true rfl) ?_
  have hm9 := mdl_in hc9 hm0 hK
  refine x_aload_n d_law_1975 rfl ?_
  refine x_aload_n d_law_1976 rfl ?_
  refine x_iload d_law_1977 rfl ?_
  refine x_iconst d_law_1979 ?_
  refine x_iadd d_law_1980 ?_
  refine x_sld hXs hb hL (by omega) (by omega) d_law_1981 ?_
  refine x_aload_n d_law_1982 rfl ?_
  refine x_iload d_law_1983 rfl ?_
  refine x_iconst d_law_1985 ?_
  refine x_iadd d_law_1986 ?_
  refine x_sld hXs hb hL (by omega) (by omega) d_law_1987 ?_
  refine x_callVC (rc' := rc + 220) (rs' := rs + 7368) (r := (RX7, TX7, 28)) d_law_1988 (q_law_241 nm hh) s_m_kill v_m_kill (t_m_kill hI (toIntR _) (toIntR _) h9 hm9) hm9.1 rfl rfl rfl rfl (Nat.le_of_ble_eq_true rfl) rfl rfl (fun _ _ z => False.elim z) ?_
  have hR : R32 (cd_kill S ((xs (i + 1).toNat).toInt) ((xs (i + 2).toNat).toInt)) := by
    unfold cd_kill 
    (repeat' split) <;> (unfold R32; omega)
  rintro v2 h10 ⟨_, S', ⟨rfl, hqa, hqb⟩, hm10, hf10⟩
  have hz : ∃ z : Int32, v2 = some (.int z) ∧ ((cd_kill S ((xs (i + 1).toNat).toInt) ((xs (i + 2).toNat).toInt)) = 0 → z = iI (vl_kill S ((xs (i + 1).toNat).toInt) ((xs (i + 2).toNat).toInt))) := by
    by_cases z0 : (cd_kill S ((xs (i + 1).toNat).toInt) ((xs (i + 2).toNat).toInt)) = 0
    · exact ⟨_, (hqa z0).1, fun _ => rfl⟩
    · obtain ⟨_, z, hz⟩ := hqb z0
      exact ⟨z, hz, fun w => absurd w z0⟩
  obtain ⟨z, rfl, hz⟩ := hz
  refine x_istore d_law_1991 (Nat.le_of_ble_eq_true rfl) ?_
  refine x_aload_n d_law_1993 rfl ?_
  refine x_callVC (rc' := rc + 220) (rs' := rs + 7368) (r := (RX7, TX7, 28)) d_law_1994 (q_law_153 nm hh) s_m_thrown v_m_thrown (t_m_thrown h10 hm10) hm10.1 rfl rfl rfl rfl (Nat.le_of_ble_eq_true rfl) rfl rfl (fun _ _ z => False.elim z) ?_
  rintro _ h11 ⟨_, _, ⟨rfl, rfl, rfl⟩, hm11, hf11⟩
  have hfin : LInv g mo out adm h11 := by
    rcases hq9 with ⟨hcd, hag, hE9, ho1⟩ | ⟨hne, e1, e2, e3⟩
    · exact turn_end hc9 hm0 hK hm11 (hf10.trans hf11) (by rw [(hqa hcd).2]; exact hag) (IV.agr (i_kill hV hcd) hag hE9) hE9
    · exact turn_end hc9 hm0 hK hm11 (hf10.trans hf11) (by rw [e2, (hqb hne).1]; exact agr_refl _) (by rw [e2]; exact hV) (by rw [e2]; exact hE)
  refine x_iload d_law_1997 rfl ?_
  refine x_icmp_eq (tgt := 2004) d_law_1999 (by decide) hR hR (fun _ => ?_) (fun w => absurd rfl w)
  refine x_iload d_law_2004 rfl ?_
  refine x_if_ne (tgt := 2021) d_law_2006 (by decide) hR (fun w => ?_) (fun w => ?_)
  · skip
    refine x_goto (tgt := 2849) d_law_2021 (by decide) ?_
    exact (next h11 _ _ hfin).mono (by omega) (by omega)
  · have ho : o1 0 = (iI (vl_kill S ((xs (i + 1).toNat).toInt) ((xs (i + 2).toNat).toInt))).toInt64 := by
      rcases hq9 with ⟨_, _, _, ho1⟩ | ⟨hne, _⟩
      · exact ho1
      · exact absurd w hne
    have hout : h11 out = some (larr g 1 o1) := by rw [mfr_out hm0 hK hf11, mfr_out hm0 hK hf10]; exact hc9.2.2.1 out _ (hset_s _ _ _)
    refine x_aload_n d_law_2009 rfl ?_
    refine x_iconst d_law_2010 ?_
    refine x_lald (n := 1) d_law_2011 hout (by decide) (by decide) (by decide) ?_
    refine x_iload d_law_2012 rfl ?_
    refine x_i2l d_law_2014 ?_
    refine x_lcmp d_law_2015 ?_
    rw [show o1 (Int.toNat 0) = (iI (vl_kill S ((xs (i + 1).toNat).toInt) ((xs (i + 2).toNat).toInt))).toInt64 from ho, hz w, lg_cmp_self]
    refine x_if_eq (tgt := 2021) d_law_2016 (by decide) R32_0 (fun _ => ?_) (fun q => absurd rfl q)
    refine x_goto (tgt := 2849) d_law_2021 (by decide) ?_
    exact (next h11 _ _ hfin).mono (by omega) (by omega)
theorem T_attach {g : xG} {x mo out b L : Nat} {adm : Nat → Nat} {xs : Nat → Int32} {nm : String} {hh : List (Nat × Nat × Nat × Nat)} {Q : qP} {rc rs : Nat} {h : hp} {i : Int} {v5 v6 : Option Value} (hN : ncOk g) (hXs : va_X b L xs g.2.1 g.2.1.heap) (hb : b < g.2.1.heap.size) (hL : L ≤ 2560) (i0 : 0 ≤ i) (i1 : i + 5 ≤ L) (hx : x = g.2.2.2.2 5) (hI9 : LInv g mo out adm h) (next : ∀ h' v5 v6, LInv g mo out adm h' → xW g (M_law nm hh) Q mN rc rs h' 2849 [some (.ref b), some (.ref x), some (.ref mo), some (.ref out), some (.int (iI i)), v5, v6] []) : xW g (M_law nm hh) Q mN (rc + 226) (rs + 7404) h 2024 [some (.ref b), some (.ref x), some (.ref mo), some (.ref out), some (.int (iI i)), v5, v6] [] := by
  obtain ⟨ad, S, K, o, tt, hc, hm0, hK, hV, hE⟩ := hI9
  have hx2 : ad 0 0 = x := hc.2.2.2.2.2.trans hx.symm
  subst hx2
  obtain ⟨hI, hX9⟩ := id hV
  have h0 := hE.h
  refine x_aload_n d_law_2024 rfl ?_
  refine x_aload_n d_law_2025 rfl ?_
  refine x_iload d_law_2026 rfl ?_
  refine x_iconst d_law_2028 ?_
  refine x_iadd d_law_2029 ?_
  refine x_sld hXs hb hL (by omega) (by omega) d_law_2030 ?_
  refine x_aload_n d_law_2031 rfl ?_
  refine x_iload d_law_2032 rfl ?_
  refine x_iconst d_law_2034 ?_
  refine x_iadd d_law_2035 ?_
  refine x_sld hXs hb hL (by omega) (by omega) d_law_2036 ?_
  refine x_aload_n d_law_2037 rfl ?_
  refine x_callSWC (rc' := rc + 221) (rs' := rs + 7374) d_law_2038 (q_law_242 nm hh) s_L_attach (t_L_attach hN hI hE (toIntR _) (toIntR _) hX9 h hc) rfl (by rfl) (Nat.le_of_ble_eq_true rfl) (by show rc + 226 = rc + 221 + 5; omega) (by show rs + 7404 = rs + 7374 + 30; omega) ?_
  rintro _ h9 ⟨rfl, ad9, S9, o1, hc9, hq9⟩
  refine x_istore d_law_2041 (Nat.le_of_ble_eq_true rfl) ?_
  have hm9 := mdl_in hc9 hm0 hK
  refine x_aload_n d_law_2043 rfl ?_
  refine x_aload_n d_law_2044 rfl ?_
  refine x_iload d_law_2045 rfl ?_
  refine x_iconst d_law_2047 ?_
  refine x_iadd d_law_2048 ?_
  refine x_sld hXs hb hL (by omega) (by omega) d_law_2049 ?_
  refine x_aload_n d_law_2050 rfl ?_
  refine x_iload d_law_2051 rfl ?_
  refine x_iconst d_law_2053 ?_
  refine x_iadd d_law_2054 ?_
  refine x_sld hXs hb hL (by omega) (by omega) d_law_2055 ?_
  refine x_callVC (rc' := rc + 221) (rs' := rs + 7374) (r := (RX7, TX7, 28)) d_law_2056 (q_law_244 nm hh) s_m_attach v_m_attach (t_m_attach hI (toIntR _) (toIntR _) h9 hm9) hm9.1 rfl rfl rfl rfl (Nat.le_of_ble_eq_true rfl) rfl rfl (fun _ _ z => False.elim z) ?_
  have hR : R32 (cd_attach S ((xs (i + 1).toNat).toInt) ((xs (i + 2).toNat).toInt)) := by
    unfold cd_attach 
    (repeat' split) <;> (unfold R32; omega)
  rintro v2 h10 ⟨_, S', ⟨rfl, hqa, hqb⟩, hm10, hf10⟩
  have hz : ∃ z : Int32, v2 = some (.int z) ∧ ((cd_attach S ((xs (i + 1).toNat).toInt) ((xs (i + 2).toNat).toInt)) = 0 → z = iI (vl_attach S ((xs (i + 1).toNat).toInt) ((xs (i + 2).toNat).toInt))) := by
    by_cases z0 : (cd_attach S ((xs (i + 1).toNat).toInt) ((xs (i + 2).toNat).toInt)) = 0
    · exact ⟨_, (hqa z0).1, fun _ => rfl⟩
    · obtain ⟨_, z, hz⟩ := hqb z0
      exact ⟨z, hz, fun w => absurd w z0⟩
  obtain ⟨z, rfl, hz⟩ := hz
  refine x_istore d_law_2059 (Nat.le_of_ble_eq_true rfl) ?_
  refine x_aload_n d_law_2061 rfl ?_
  refine x_callVC (rc' := rc + 221) (rs' := rs + 7374) (r := (RX7, TX7, 28)) d_law_2062 (q_law_153 nm hh) s_m_thrown v_m_thrown (t_m_thrown h10 hm10) hm10.1 rfl rfl rfl rfl (Nat.le_of_ble_eq_true rfl) rfl rfl (fun _ _ z => False.elim z) ?_
  rintro _ h11 ⟨_, _, ⟨rfl, rfl, rfl⟩, hm11, hf11⟩
  have hfin : LInv g mo out adm h11 := by
    rcases hq9 with ⟨hcd, hag, hE9, ho1⟩ | ⟨hne, e1, e2, e3⟩
    · exact turn_end hc9 hm0 hK hm11 (hf10.trans hf11) (by rw [(hqa hcd).2]; exact hag) (IV.agr (i_attach hV hcd) hag hE9) hE9
    · exact turn_end hc9 hm0 hK hm11 (hf10.trans hf11) (by rw [e2, (hqb hne).1]; exact agr_refl _) (by rw [e2]; exact hV) (by rw [e2]; exact hE)
  refine x_iload d_law_2065 rfl ?_
  refine x_icmp_eq (tgt := 2072) d_law_2067 (by decide) hR hR (fun _ => ?_) (fun w => absurd rfl w)
  refine x_iload d_law_2072 rfl ?_
  refine x_if_ne (tgt := 2089) d_law_2074 (by decide) hR (fun w => ?_) (fun w => ?_)
  · skip
    refine x_goto (tgt := 2849) d_law_2089 (by decide) ?_
    exact (next h11 _ _ hfin).mono (by omega) (by omega)
  · have ho : o1 0 = (iI (vl_attach S ((xs (i + 1).toNat).toInt) ((xs (i + 2).toNat).toInt))).toInt64 := by
      rcases hq9 with ⟨_, _, _, ho1⟩ | ⟨hne, _⟩
      · exact ho1
      · exact absurd w hne
    have hout : h11 out = some (larr g 1 o1) := by rw [mfr_out hm0 hK hf11, mfr_out hm0 hK hf10]; exact hc9.2.2.1 out _ (hset_s _ _ _)
    refine x_aload_n d_law_2077 rfl ?_
    refine x_iconst d_law_2078 ?_
    refine x_lald (n := 1) d_law_2079 hout (by decide) (by decide) (by decide) ?_
    refine x_iload d_law_2080 rfl ?_
    refine x_i2l d_law_2082 ?_
    refine x_lcmp d_law_2083 ?_
    rw [show o1 (Int.toNat 0) = (iI (vl_attach S ((xs (i + 1).toNat).toInt) ((xs (i + 2).toNat).toInt))).toInt64 from ho, hz w, lg_cmp_self]
    refine x_if_eq (tgt := 2089) d_law_2084 (by decide) R32_0 (fun _ => ?_) (fun q => absurd rfl q)
    refine x_goto (tgt := 2849) d_law_2089 (by decide) ?_
    exact (next h11 _ _ hfin).mono (by omega) (by omega)
theorem T_detach {g : xG} {x mo out b L : Nat} {adm : Nat → Nat} {xs : Nat → Int32} {nm : String} {hh : List (Nat × Nat × Nat × Nat)} {Q : qP} {rc rs : Nat} {h : hp} {i : Int} {v5 v6 : Option Value} (hN : ncOk g) (hXs : va_X b L xs g.2.1 g.2.1.heap) (hb : b < g.2.1.heap.size) (hL : L ≤ 2560) (i0 : 0 ≤ i) (i1 : i + 5 ≤ L) (hx : x = g.2.2.2.2 5) (hI9 : LInv g mo out adm h) (next : ∀ h' v5 v6, LInv g mo out adm h' → xW g (M_law nm hh) Q mN rc rs h' 2849 [some (.ref b), some (.ref x), some (.ref mo), some (.ref out), some (.int (iI i)), v5, v6] []) : xW g (M_law nm hh) Q mN (rc + 226) (rs + 7404) h 2092 [some (.ref b), some (.ref x), some (.ref mo), some (.ref out), some (.int (iI i)), v5, v6] [] := by
  obtain ⟨ad, S, K, o, tt, hc, hm0, hK, hV, hE⟩ := hI9
  have hx2 : ad 0 0 = x := hc.2.2.2.2.2.trans hx.symm
  subst hx2
  obtain ⟨hI, hX9⟩ := id hV
  have h0 := hE.h
  refine x_aload_n d_law_2092 rfl ?_
  refine x_aload_n d_law_2093 rfl ?_
  refine x_iload d_law_2094 rfl ?_
  refine x_iconst d_law_2096 ?_
  refine x_iadd d_law_2097 ?_
  refine x_sld hXs hb hL (by omega) (by omega) d_law_2098 ?_
  refine x_aload_n d_law_2099 rfl ?_
  refine x_callSWC (rc' := rc + 223) (rs' := rs + 7386) d_law_2100 (q_law_245 nm hh) s_L_detach (t_L_detach hN hI hE (toIntR _) h hc) rfl (by rfl) (Nat.le_of_ble_eq_true rfl) (by show rc + 226 = rc + 223 + 3; omega) (by show rs + 7404 = rs + 7386 + 18; omega) ?_
  rintro _ h9 ⟨rfl, ad9, S9, o1, hc9, hq9⟩
  refine x_istore d_law_2103 (Nat.le_of_ble_eq_true rfl) ?_
  have hm9 := mdl_in hc9 hm0 hK
  refine x_aload_n d_law_2105 rfl ?_
  refine x_aload_n d_law_2106 rfl ?_
  refine x_iload d_law_2107 rfl ?_
  refine x_iconst d_law_2109 ?_
  refine x_iadd d_law_2110 ?_
  refine x_sld hXs hb hL (by omega) (by omega) d_law_2111 ?_
  refine x_callVC (rc' := rc + 223) (rs' := rs + 7386) (r := (RX7, TX7, 28)) d_law_2112 (q_law_247 nm hh) s_m_detach v_m_detach (t_m_detach hI (toIntR _) h9 hm9) hm9.1 rfl rfl rfl rfl (Nat.le_of_ble_eq_true rfl) rfl rfl (fun _ _ z => False.elim z) ?_
  have hR : R32 (cd_detach S ((xs (i + 1).toNat).toInt)) := by
    unfold cd_detach 
    (repeat' split) <;> (unfold R32; omega)
  rintro v2 h10 ⟨_, S', ⟨rfl, hqa, hqb⟩, hm10, hf10⟩
  have hz : ∃ z : Int32, v2 = some (.int z) ∧ ((cd_detach S ((xs (i + 1).toNat).toInt)) = 0 → z = iI (vl_detach S ((xs (i + 1).toNat).toInt))) := by
    by_cases z0 : (cd_detach S ((xs (i + 1).toNat).toInt)) = 0
    · exact ⟨_, (hqa z0).1, fun _ => rfl⟩
    · obtain ⟨_, z, hz⟩ := hqb z0
      exact ⟨z, hz, fun w => absurd w z0⟩
  obtain ⟨z, rfl, hz⟩ := hz
  refine x_istore d_law_2115 (Nat.le_of_ble_eq_true rfl) ?_
  refine x_aload_n d_law_2117 rfl ?_
  refine x_callVC (rc' := rc + 223) (rs' := rs + 7386) (r := (RX7, TX7, 28)) d_law_2118 (q_law_153 nm hh) s_m_thrown v_m_thrown (t_m_thrown h10 hm10) hm10.1 rfl rfl rfl rfl (Nat.le_of_ble_eq_true rfl) rfl rfl (fun _ _ z => False.elim z) ?_
  rintro _ h11 ⟨_, _, ⟨rfl, rfl, rfl⟩, hm11, hf11⟩
  have hfin : LInv g mo out adm h11 := by
    rcases hq9 with ⟨hcd, hag, hE9, ho1⟩ | ⟨hne, e1, e2, e3⟩
    · exact turn_end hc9 hm0 hK hm11 (hf10.trans hf11) (by rw [(hqa hcd).2]; exact hag) (IV.agr (i_detach hV hcd) hag hE9) hE9
    · exact turn_end hc9 hm0 hK hm11 (hf10.trans hf11) (by rw [e2, (hqb hne).1]; exact agr_refl _) (by rw [e2]; exact hV) (by rw [e2]; exact hE)
  refine x_iload d_law_2121 rfl ?_
  refine x_icmp_eq (tgt := 2128) d_law_2123 (by decide) hR hR (fun _ => ?_) (fun w => absurd rfl w)
  refine x_iload d_law_2128 rfl ?_
  refine x_if_ne (tgt := 2145) d_law_2130 (by decide) hR (fun w => ?_) (fun w => ?_)
  · skip
    refine x_goto (tgt := 2849) d_law_2145 (by decide) ?_
    exact (next h11 _ _ hfin).mono (by omega) (by omega)
  · have ho : o1 0 = (iI (vl_detach S ((xs (i + 1).toNat).toInt))).toInt64 := by
      rcases hq9 with ⟨_, _, _, ho1⟩ | ⟨hne, _⟩
      · exact ho1
      · exact absurd w hne
    have hout : h11 out = some (larr g 1 o1) := by rw [mfr_out hm0 hK hf11, mfr_out hm0 hK hf10]; exact hc9.2.2.1 out _ (hset_s _ _ _)
    refine x_aload_n d_law_2133 rfl ?_
    refine x_iconst d_law_2134 ?_
    refine x_lald (n := 1) d_law_2135 hout (by decide) (by decide) (by decide) ?_
    refine x_iload d_law_2136 rfl ?_
    refine x_i2l d_law_2138 ?_
    refine x_lcmp d_law_2139 ?_
    rw [show o1 (Int.toNat 0) = (iI (vl_detach S ((xs (i + 1).toNat).toInt))).toInt64 from ho, hz w, lg_cmp_self]
    refine x_if_eq (tgt := 2145) d_law_2140 (by decide) R32_0 (fun _ => ?_) (fun q => absurd rfl q)
    refine x_goto (tgt := 2849) d_law_2145 (by decide) ?_
    exact (next h11 _ _ hfin).mono (by omega) (by omega)
theorem T_listen {g : xG} {x mo out b L : Nat} {adm : Nat → Nat} {xs : Nat → Int32} {nm : String} {hh : List (Nat × Nat × Nat × Nat)} {Q : qP} {rc rs : Nat} {h : hp} {i : Int} {v5 v6 : Option Value} (hN : ncOk g) (hXs : va_X b L xs g.2.1 g.2.1.heap) (hb : b < g.2.1.heap.size) (hL : L ≤ 2560) (i0 : 0 ≤ i) (i1 : i + 5 ≤ L) (hx : x = g.2.2.2.2 5) (hI9 : LInv g mo out adm h) (next : ∀ h' v5 v6, LInv g mo out adm h' → xW g (M_law nm hh) Q mN rc rs h' 2849 [some (.ref b), some (.ref x), some (.ref mo), some (.ref out), some (.int (iI i)), v5, v6] []) : xW g (M_law nm hh) Q mN (rc + 226) (rs + 7404) h 2148 [some (.ref b), some (.ref x), some (.ref mo), some (.ref out), some (.int (iI i)), v5, v6] [] := by
  obtain ⟨ad, S, K, o, tt, hc, hm0, hK, hV, hE⟩ := hI9
  have hx2 : ad 0 0 = x := hc.2.2.2.2.2.trans hx.symm
  subst hx2
  obtain ⟨hI, hX9⟩ := id hV
  have h0 := hE.h
  refine x_aload_n d_law_2148 rfl ?_
  refine x_aload_n d_law_2149 rfl ?_
  refine x_iload d_law_2150 rfl ?_
  refine x_iconst d_law_2152 ?_
  refine x_iadd d_law_2153 ?_
  refine x_sld hXs hb hL (by omega) (by omega) d_law_2154 ?_
  refine x_aload_n d_law_2155 rfl ?_
  refine x_iload d_law_2156 rfl ?_
  refine x_iconst d_law_2158 ?_
  refine x_iadd d_law_2159 ?_
  refine x_sld hXs hb hL (by omega) (by omega) d_law_2160 ?_
  refine x_aload_n d_law_2161 rfl ?_
  refine x_callSWC (rc' := rc + 221) (rs' := rs + 7374) d_law_2162 (q_law_248 nm hh) s_L_listen (t_L_listen hN hI hE (toIntR _) (toIntR _) h hc) rfl (by rfl) (Nat.le_of_ble_eq_true rfl) (by show rc + 226 = rc + 221 + 5; omega) (by show rs + 7404 = rs + 7374 + 30; omega) ?_
  rintro _ h9 ⟨rfl, ad9, S9, o1, hc9, hq9⟩
  refine x_istore d_law_2165 (Nat.le_of_ble_eq_true rfl) ?_
  have hm9 := mdl_in hc9 hm0 hK
  refine x_aload_n d_law_2167 rfl ?_
  refine x_aload_n d_law_2168 rfl ?_
  refine x_iload d_law_2169 rfl ?_
  refine x_iconst d_law_2171 ?_
  refine x_iadd d_law_2172 ?_
  refine x_sld hXs hb hL (by omega) (by omega) d_law_2173 ?_
  refine x_aload_n d_law_2174 rfl ?_
  refine x_iload d_law_2175 rfl ?_
  refine x_iconst d_law_2177 ?_
  refine x_iadd d_law_2178 ?_
  refine x_sld hXs hb hL (by omega) (by omega) d_law_2179 ?_
  refine x_callVC (rc' := rc + 221) (rs' := rs + 7374) (r := (RX7, TX7, 28)) d_law_2180 (q_law_250 nm hh) s_m_listen v_m_listen (t_m_listen hI (toIntR _) (toIntR _) h9 hm9) hm9.1 rfl rfl rfl rfl (Nat.le_of_ble_eq_true rfl) rfl rfl (fun _ _ z => False.elim z) ?_
  have hR : R32 (cd_listen S ((xs (i + 1).toNat).toInt) ((xs (i + 2).toNat).toInt)) := by
    unfold cd_listen 
    (repeat' split) <;> (unfold R32; omega)
  rintro v2 h10 ⟨_, S', ⟨rfl, hqa, hqb⟩, hm10, hf10⟩
  have hz : ∃ z : Int32, v2 = some (.int z) ∧ ((cd_listen S ((xs (i + 1).toNat).toInt) ((xs (i + 2).toNat).toInt)) = 0 → z = iI (vl_listen S ((xs (i + 1).toNat).toInt) ((xs (i + 2).toNat).toInt))) := by
    by_cases z0 : (cd_listen S ((xs (i + 1).toNat).toInt) ((xs (i + 2).toNat).toInt)) = 0
    · exact ⟨_, (hqa z0).1, fun _ => rfl⟩
    · obtain ⟨_, z, hz⟩ := hqb z0
      exact ⟨z, hz, fun w => absurd w z0⟩
  obtain ⟨z, rfl, hz⟩ := hz
  refine x_istore d_law_2183 (Nat.le_of_ble_eq_true rfl) ?_
  refine x_aload_n d_law_2185 rfl ?_
  refine x_callVC (rc' := rc + 221) (rs' := rs + 7374) (r := (RX7, TX7, 28)) d_law_2186 (q_law_153 nm hh) s_m_thrown v_m_thrown (t_m_thrown h10 hm10) hm10.1 rfl rfl rfl rfl (Nat.le_of_ble_eq_true rfl) rfl rfl (fun _ _ z => False.elim z) ?_
  rintro _ h11 ⟨_, _, ⟨rfl, rfl, rfl⟩, hm11, hf11⟩
  have hfin : LInv g mo out adm h11 := by
    rcases hq9 with ⟨hcd, hag, hE9, ho1⟩ | ⟨hne, e1, e2, e3⟩
    · exact turn_end hc9 hm0 hK hm11 (hf10.trans hf11) (by rw [(hqa hcd).2]; exact hag) (IV.agr (i_listen hV hcd) hag hE9) hE9
    · exact turn_end hc9 hm0 hK hm11 (hf10.trans hf11) (by rw [e2, (hqb hne).1]; exact agr_refl _) (by rw [e2]; exact hV) (by rw [e2]; exact hE)
  refine x_iload d_law_2189 rfl ?_
  refine x_icmp_eq (tgt := 2196) d_law_2191 (by decide) hR hR (fun _ => ?_) (fun w => absurd rfl w)
  refine x_iload d_law_2196 rfl ?_
  refine x_if_ne (tgt := 2213) d_law_2198 (by decide) hR (fun w => ?_) (fun w => ?_)
  · skip
    refine x_goto (tgt := 2849) d_law_2213 (by decide) ?_
    exact (next h11 _ _ hfin).mono (by omega) (by omega)
  · have ho : o1 0 = (iI (vl_listen S ((xs (i + 1).toNat).toInt) ((xs (i + 2).toNat).toInt))).toInt64 := by
      rcases hq9 with ⟨_, _, _, ho1⟩ | ⟨hne, _⟩
      · exact ho1
      · exact absurd w hne
    have hout : h11 out = some (larr g 1 o1) := by rw [mfr_out hm0 hK hf11, mfr_out hm0 hK hf10]; exact hc9.2.2.1 out _ (hset_s _ _ _)
    refine x_aload_n d_law_2201 rfl ?_
    refine x_iconst d_law_2202 ?_
    refine x_lald (n := 1) d_law_2203 hout (by decide) (by decide) (by decide) ?_
    refine x_iload d_law_2204 rfl ?_
    refine x_i2l d_law_2206 ?_
    refine x_lcmp d_law_2207 ?_
    rw [show o1 (Int.toNat 0) = (iI (vl_listen S ((xs (i + 1).toNat).toInt) ((xs (i + 2).toNat).toInt))).toInt64 from ho, hz w, lg_cmp_self]
    refine x_if_eq (tgt := 2213) d_law_2208 (by decide) R32_0 (fun _ => ?_) (fun q => absurd rfl q)
    refine x_goto (tgt := 2849) d_law_2213 (by decide) ?_
    exact (next h11 _ _ hfin).mono (by omega) (by omega)
theorem T_publish {g : xG} {x mo out b L : Nat} {adm : Nat → Nat} {xs : Nat → Int32} {nm : String} {hh : List (Nat × Nat × Nat × Nat)} {Q : qP} {rc rs : Nat} {h : hp} {i : Int} {v5 v6 : Option Value} (hN : ncOk g) (hXs : va_X b L xs g.2.1 g.2.1.heap) (hb : b < g.2.1.heap.size) (hL : L ≤ 2560) (i0 : 0 ≤ i) (i1 : i + 5 ≤ L) (hx : x = g.2.2.2.2 5) (hI9 : LInv g mo out adm h) (next : ∀ h' v5 v6, LInv g mo out adm h' → xW g (M_law nm hh) Q mN rc rs h' 2849 [some (.ref b), some (.ref x), some (.ref mo), some (.ref out), some (.int (iI i)), v5, v6] []) : xW g (M_law nm hh) Q mN (rc + 226) (rs + 7404) h 2216 [some (.ref b), some (.ref x), some (.ref mo), some (.ref out), some (.int (iI i)), v5, v6] [] := by
  obtain ⟨ad, S, K, o, tt, hc, hm0, hK, hV, hE⟩ := hI9
  have hx2 : ad 0 0 = x := hc.2.2.2.2.2.trans hx.symm
  subst hx2
  obtain ⟨hI, hX9⟩ := id hV
  have h0 := hE.h
  refine x_aload_n d_law_2216 rfl ?_
  refine x_aload_n d_law_2217 rfl ?_
  refine x_iload d_law_2218 rfl ?_
  refine x_iconst d_law_2220 ?_
  refine x_iadd d_law_2221 ?_
  refine x_sld hXs hb hL (by omega) (by omega) d_law_2222 ?_
  refine x_aload_n d_law_2223 rfl ?_
  refine x_iload d_law_2224 rfl ?_
  refine x_iconst d_law_2226 ?_
  refine x_iadd d_law_2227 ?_
  refine x_sld hXs hb hL (by omega) (by omega) d_law_2228 ?_
  refine x_aload_n d_law_2229 rfl ?_
  refine x_iload d_law_2230 rfl ?_
  refine x_iconst d_law_2232 ?_
  refine x_iadd d_law_2233 ?_
  refine x_sld hXs hb hL (by omega) (by omega) d_law_2234 ?_
  refine x_aload_n d_law_2235 rfl ?_
  refine x_callSWC (rc' := rc + 221) (rs' := rs + 7374) d_law_2236 (q_law_251 nm hh) s_L_publish (t_L_publish hN hI hE (toIntR _) (toIntR _) (toIntR _) h hc) rfl (by rfl) (Nat.le_of_ble_eq_true rfl) (by show rc + 226 = rc + 221 + 5; omega) (by show rs + 7404 = rs + 7374 + 30; omega) ?_
  rintro _ h9 ⟨rfl, ad9, S9, o1, hc9, hq9⟩
  refine x_istore d_law_2239 (Nat.le_of_ble_eq_true rfl) ?_
  have hm9 := mdl_in hc9 hm0 hK
  refine x_aload_n d_law_2241 rfl ?_
  refine x_aload_n d_law_2242 rfl ?_
  refine x_iload d_law_2243 rfl ?_
  refine x_iconst d_law_2245 ?_
  refine x_iadd d_law_2246 ?_
  refine x_sld hXs hb hL (by omega) (by omega) d_law_2247 ?_
  refine x_aload_n d_law_2248 rfl ?_
  refine x_iload d_law_2249 rfl ?_
  refine x_iconst d_law_2251 ?_
  refine x_iadd d_law_2252 ?_
  refine x_sld hXs hb hL (by omega) (by omega) d_law_2253 ?_
  refine x_aload_n d_law_2254 rfl ?_
  refine x_iload d_law_2255 rfl ?_
  refine x_iconst d_law_2257 ?_
  refine x_iadd d_law_2258 ?_
  refine x_sld hXs hb hL (by omega) (by omega) d_law_2259 ?_
  refine x_callVC (rc' := rc + 221) (rs' := rs + 7374) (r := (RX7, TX7, 28)) d_law_2260 (q_law_253 nm hh) s_m_publish v_m_publish (t_m_publish hI (toIntR _) (toIntR _) (toIntR _) h9 hm9) hm9.1 rfl rfl rfl rfl (Nat.le_of_ble_eq_true rfl) rfl rfl (fun _ _ z => False.elim z) ?_
  have hR : R32 (cd_publish S ((xs (i + 1).toNat).toInt) ((xs (i + 2).toNat).toInt) ((xs (i + 3).toNat).toInt)) := by
    unfold cd_publish 
    (repeat' split) <;> (unfold R32; omega)
  rintro v2 h10 ⟨_, S', ⟨rfl, hqa, hqb⟩, hm10, hf10⟩
  have hz : ∃ z : Int32, v2 = some (.int z) ∧ ((cd_publish S ((xs (i + 1).toNat).toInt) ((xs (i + 2).toNat).toInt) ((xs (i + 3).toNat).toInt)) = 0 → z = iI (vl_publish S ((xs (i + 1).toNat).toInt) ((xs (i + 2).toNat).toInt) ((xs (i + 3).toNat).toInt))) := by
    by_cases z0 : (cd_publish S ((xs (i + 1).toNat).toInt) ((xs (i + 2).toNat).toInt) ((xs (i + 3).toNat).toInt)) = 0
    · exact ⟨_, (hqa z0).1, fun _ => rfl⟩
    · obtain ⟨_, z, hz⟩ := hqb z0
      exact ⟨z, hz, fun w => absurd w z0⟩
  obtain ⟨z, rfl, hz⟩ := hz
  refine x_istore d_law_2263 (Nat.le_of_ble_eq_true rfl) ?_
  refine x_aload_n d_law_2265 rfl ?_
  refine x_callVC (rc' := rc + 221) (rs' := rs + 7374) (r := (RX7, TX7, 28)) d_law_2266 (q_law_153 nm hh) s_m_thrown v_m_thrown (t_m_thrown h10 hm10) hm10.1 rfl rfl rfl rfl (Nat.le_of_ble_eq_true rfl) rfl rfl (fun _ _ z => False.elim z) ?_
  rintro _ h11 ⟨_, _, ⟨rfl, rfl, rfl⟩, hm11, hf11⟩
  have hfin : LInv g mo out adm h11 := by
    rcases hq9 with ⟨hcd, hag, hE9, ho1⟩ | ⟨hne, e1, e2, e3⟩
    · exact turn_end hc9 hm0 hK hm11 (hf10.trans hf11) (by rw [(hqa hcd).2]; exact hag) (IV.agr (i_publish hV hcd) hag hE9) hE9
    · exact turn_end hc9 hm0 hK hm11 (hf10.trans hf11) (by rw [e2, (hqb hne).1]; exact agr_refl _) (by rw [e2]; exact hV) (by rw [e2]; exact hE)
  refine x_iload d_law_2269 rfl ?_
  refine x_icmp_eq (tgt := 2276) d_law_2271 (by decide) hR hR (fun _ => ?_) (fun w => absurd rfl w)
  refine x_iload d_law_2276 rfl ?_
  refine x_if_ne (tgt := 2293) d_law_2278 (by decide) hR (fun w => ?_) (fun w => ?_)
  · skip
    refine x_goto (tgt := 2849) d_law_2293 (by decide) ?_
    exact (next h11 _ _ hfin).mono (by omega) (by omega)
  · have ho : o1 0 = (iI (vl_publish S ((xs (i + 1).toNat).toInt) ((xs (i + 2).toNat).toInt) ((xs (i + 3).toNat).toInt))).toInt64 := by
      rcases hq9 with ⟨_, _, _, ho1⟩ | ⟨hne, _⟩
      · exact ho1
      · exact absurd w hne
    have hout : h11 out = some (larr g 1 o1) := by rw [mfr_out hm0 hK hf11, mfr_out hm0 hK hf10]; exact hc9.2.2.1 out _ (hset_s _ _ _)
    refine x_aload_n d_law_2281 rfl ?_
    refine x_iconst d_law_2282 ?_
    refine x_lald (n := 1) d_law_2283 hout (by decide) (by decide) (by decide) ?_
    refine x_iload d_law_2284 rfl ?_
    refine x_i2l d_law_2286 ?_
    refine x_lcmp d_law_2287 ?_
    rw [show o1 (Int.toNat 0) = (iI (vl_publish S ((xs (i + 1).toNat).toInt) ((xs (i + 2).toNat).toInt) ((xs (i + 3).toNat).toInt))).toInt64 from ho, hz w, lg_cmp_self]
    refine x_if_eq (tgt := 2293) d_law_2288 (by decide) R32_0 (fun _ => ?_) (fun q => absurd rfl q)
    refine x_goto (tgt := 2849) d_law_2293 (by decide) ?_
    exact (next h11 _ _ hfin).mono (by omega) (by omega)
theorem T_connect {g : xG} {x mo out b L : Nat} {adm : Nat → Nat} {xs : Nat → Int32} {nm : String} {hh : List (Nat × Nat × Nat × Nat)} {Q : qP} {rc rs : Nat} {h : hp} {i : Int} {v5 v6 : Option Value} (hN : ncOk g) (hXs : va_X b L xs g.2.1 g.2.1.heap) (hb : b < g.2.1.heap.size) (hL : L ≤ 2560) (i0 : 0 ≤ i) (i1 : i + 5 ≤ L) (hx : x = g.2.2.2.2 5) (hI9 : LInv g mo out adm h) (next : ∀ h' v5 v6, LInv g mo out adm h' → xW g (M_law nm hh) Q mN rc rs h' 2849 [some (.ref b), some (.ref x), some (.ref mo), some (.ref out), some (.int (iI i)), v5, v6] []) : xW g (M_law nm hh) Q mN (rc + 226) (rs + 7404) h 2296 [some (.ref b), some (.ref x), some (.ref mo), some (.ref out), some (.int (iI i)), v5, v6] [] := by
  obtain ⟨ad, S, K, o, tt, hc, hm0, hK, hV, hE⟩ := hI9
  have hx2 : ad 0 0 = x := hc.2.2.2.2.2.trans hx.symm
  subst hx2
  obtain ⟨hI, hX9⟩ := id hV
  have h0 := hE.h
  refine x_aload_n d_law_2296 rfl ?_
  refine x_aload_n d_law_2297 rfl ?_
  refine x_iload d_law_2298 rfl ?_
  refine x_iconst d_law_2300 ?_
  refine x_iadd d_law_2301 ?_
  refine x_sld hXs hb hL (by omega) (by omega) d_law_2302 ?_
  refine x_aload_n d_law_2303 rfl ?_
  refine x_iload d_law_2304 rfl ?_
  refine x_iconst d_law_2306 ?_
  refine x_iadd d_law_2307 ?_
  refine x_sld hXs hb hL (by omega) (by omega) d_law_2308 ?_
  refine x_aload_n d_law_2309 rfl ?_
  refine x_iload d_law_2310 rfl ?_
  refine x_iconst d_law_2312 ?_
  refine x_iadd d_law_2313 ?_
  refine x_sld hXs hb hL (by omega) (by omega) d_law_2314 ?_
  refine x_aload_n d_law_2315 rfl ?_
  refine x_callSWC (rc' := rc + 221) (rs' := rs + 7374) d_law_2316 (q_law_254 nm hh) s_L_connect (t_L_connect hN hI hE (toIntR _) (toIntR _) (toIntR _) hX9 h hc) rfl (by rfl) (Nat.le_of_ble_eq_true rfl) (by show rc + 226 = rc + 221 + 5; omega) (by show rs + 7404 = rs + 7374 + 30; omega) ?_
  rintro _ h9 ⟨rfl, ad9, S9, o1, hc9, hq9⟩
  refine x_istore d_law_2319 (Nat.le_of_ble_eq_true rfl) ?_
  have hm9 := mdl_in hc9 hm0 hK
  refine x_aload_n d_law_2321 rfl ?_
  refine x_aload_n d_law_2322 rfl ?_
  refine x_iload d_law_2323 rfl ?_
  refine x_iconst d_law_2325 ?_
  refine x_iadd d_law_2326 ?_
  refine x_sld hXs hb hL (by omega) (by omega) d_law_2327 ?_
  refine x_aload_n d_law_2328 rfl ?_
  refine x_iload d_law_2329 rfl ?_
  refine x_iconst d_law_2331 ?_
  refine x_iadd d_law_2332 ?_
  refine x_sld hXs hb hL (by omega) (by omega) d_law_2333 ?_
  refine x_aload_n d_law_2334 rfl ?_
  refine x_iload d_law_2335 rfl ?_
  refine x_iconst d_law_2337 ?_
  refine x_iadd d_law_2338 ?_
  refine x_sld hXs hb hL (by omega) (by omega) d_law_2339 ?_
  refine x_callVC (rc' := rc + 221) (rs' := rs + 7374) (r := (RX7, TX7, 28)) d_law_2340 (q_law_256 nm hh) s_m_connect v_m_connect (t_m_connect hI (toIntR _) (toIntR _) (toIntR _) h9 hm9) hm9.1 rfl rfl rfl rfl (Nat.le_of_ble_eq_true rfl) rfl rfl (fun _ _ z => False.elim z) ?_
  have hR : R32 (cd_connect S ((xs (i + 1).toNat).toInt) ((xs (i + 2).toNat).toInt) ((xs (i + 3).toNat).toInt)) := by
    unfold cd_connect 
    (repeat' split) <;> (unfold R32; omega)
  rintro v2 h10 ⟨_, S', ⟨rfl, hqa, hqb⟩, hm10, hf10⟩
  have hz : ∃ z : Int32, v2 = some (.int z) ∧ ((cd_connect S ((xs (i + 1).toNat).toInt) ((xs (i + 2).toNat).toInt) ((xs (i + 3).toNat).toInt)) = 0 → z = iI (vl_connect S ((xs (i + 1).toNat).toInt) ((xs (i + 2).toNat).toInt) ((xs (i + 3).toNat).toInt))) := by
    by_cases z0 : (cd_connect S ((xs (i + 1).toNat).toInt) ((xs (i + 2).toNat).toInt) ((xs (i + 3).toNat).toInt)) = 0
    · exact ⟨_, (hqa z0).1, fun _ => rfl⟩
    · obtain ⟨_, z, hz⟩ := hqb z0
      exact ⟨z, hz, fun w => absurd w z0⟩
  obtain ⟨z, rfl, hz⟩ := hz
  refine x_istore d_law_2343 (Nat.le_of_ble_eq_true rfl) ?_
  refine x_aload_n d_law_2345 rfl ?_
  refine x_callVC (rc' := rc + 221) (rs' := rs + 7374) (r := (RX7, TX7, 28)) d_law_2346 (q_law_153 nm hh) s_m_thrown v_m_thrown (t_m_thrown h10 hm10) hm10.1 rfl rfl rfl rfl (Nat.le_of_ble_eq_true rfl) rfl rfl (fun _ _ z => False.elim z) ?_
  rintro _ h11 ⟨_, _, ⟨rfl, rfl, rfl⟩, hm11, hf11⟩
  have hfin : LInv g mo out adm h11 := by
    rcases hq9 with ⟨hcd, hag, hE9, ho1⟩ | ⟨hne, e1, e2, e3⟩
    · exact turn_end hc9 hm0 hK hm11 (hf10.trans hf11) (by rw [(hqa hcd).2]; exact hag) (IV.agr hV hag hE9) hE9
    · exact turn_end hc9 hm0 hK hm11 (hf10.trans hf11) (by rw [e2, (hqb hne).1]; exact agr_refl _) (by rw [e2]; exact hV) (by rw [e2]; exact hE)
  refine x_iload d_law_2349 rfl ?_
  refine x_icmp_eq (tgt := 2356) d_law_2351 (by decide) hR hR (fun _ => ?_) (fun w => absurd rfl w)
  refine x_iload d_law_2356 rfl ?_
  refine x_if_ne (tgt := 2373) d_law_2358 (by decide) hR (fun w => ?_) (fun w => ?_)
  · skip
    refine x_goto (tgt := 2849) d_law_2373 (by decide) ?_
    exact (next h11 _ _ hfin).mono (by omega) (by omega)
  · have ho : o1 0 = (iI (vl_connect S ((xs (i + 1).toNat).toInt) ((xs (i + 2).toNat).toInt) ((xs (i + 3).toNat).toInt))).toInt64 := by
      rcases hq9 with ⟨_, _, _, ho1⟩ | ⟨hne, _⟩
      · exact ho1
      · exact absurd w hne
    have hout : h11 out = some (larr g 1 o1) := by rw [mfr_out hm0 hK hf11, mfr_out hm0 hK hf10]; exact hc9.2.2.1 out _ (hset_s _ _ _)
    refine x_aload_n d_law_2361 rfl ?_
    refine x_iconst d_law_2362 ?_
    refine x_lald (n := 1) d_law_2363 hout (by decide) (by decide) (by decide) ?_
    refine x_iload d_law_2364 rfl ?_
    refine x_i2l d_law_2366 ?_
    refine x_lcmp d_law_2367 ?_
    rw [show o1 (Int.toNat 0) = (iI (vl_connect S ((xs (i + 1).toNat).toInt) ((xs (i + 2).toNat).toInt) ((xs (i + 3).toNat).toInt))).toInt64 from ho, hz w, lg_cmp_self]
    refine x_if_eq (tgt := 2373) d_law_2368 (by decide) R32_0 (fun _ => ?_) (fun q => absurd rfl q)
    refine x_goto (tgt := 2849) d_law_2373 (by decide) ?_
    exact (next h11 _ _ hfin).mono (by omega) (by omega)
theorem T_connectHost {g : xG} {x mo out b L : Nat} {adm : Nat → Nat} {xs : Nat → Int32} {nm : String} {hh : List (Nat × Nat × Nat × Nat)} {Q : qP} {rc rs : Nat} {h : hp} {i : Int} {v5 v6 : Option Value} (hN : ncOk g) (hXs : va_X b L xs g.2.1 g.2.1.heap) (hb : b < g.2.1.heap.size) (hL : L ≤ 2560) (i0 : 0 ≤ i) (i1 : i + 5 ≤ L) (hx : x = g.2.2.2.2 5) (hI9 : LInv g mo out adm h) (next : ∀ h' v5 v6, LInv g mo out adm h' → xW g (M_law nm hh) Q mN rc rs h' 2849 [some (.ref b), some (.ref x), some (.ref mo), some (.ref out), some (.int (iI i)), v5, v6] []) : xW g (M_law nm hh) Q mN (rc + 226) (rs + 7404) h 2376 [some (.ref b), some (.ref x), some (.ref mo), some (.ref out), some (.int (iI i)), v5, v6] [] := by
  obtain ⟨ad, S, K, o, tt, hc, hm0, hK, hV, hE⟩ := hI9
  have hx2 : ad 0 0 = x := hc.2.2.2.2.2.trans hx.symm
  subst hx2
  obtain ⟨hI, hX9⟩ := id hV
  have h0 := hE.h
  refine x_aload_n d_law_2376 rfl ?_
  refine x_aload_n d_law_2377 rfl ?_
  refine x_iload d_law_2378 rfl ?_
  refine x_iconst d_law_2380 ?_
  refine x_iadd d_law_2381 ?_
  refine x_sld hXs hb hL (by omega) (by omega) d_law_2382 ?_
  refine x_aload_n d_law_2383 rfl ?_
  refine x_callSWC (rc' := rc + 225) (rs' := rs + 7398) d_law_2384 (q_law_257 nm hh) s_L_connectHost (t_L_connectHost hN hI hE (toIntR _) h hc) rfl (by rfl) (Nat.le_of_ble_eq_true rfl) (by show rc + 226 = rc + 225 + 1; omega) (by show rs + 7404 = rs + 7398 + 6; omega) ?_
  rintro _ h9 ⟨rfl, ad9, S9, o1, hc9, hq9⟩
  refine x_istore d_law_2387 (Nat.le_of_ble_eq_true rfl) ?_
  have hm9 := mdl_in hc9 hm0 hK
  refine x_aload_n d_law_2389 rfl ?_
  refine x_aload_n d_law_2390 rfl ?_
  refine x_iload d_law_2391 rfl ?_
  refine x_iconst d_law_2393 ?_
  refine x_iadd d_law_2394 ?_
  refine x_sld hXs hb hL (by omega) (by omega) d_law_2395 ?_
  refine x_callVC (rc' := rc + 225) (rs' := rs + 7398) (r := (RX7, TX7, 28)) d_law_2396 (q_law_259 nm hh) s_m_connectHost v_m_connectHost (t_m_connectHost hI (toIntR _) h9 hm9) hm9.1 rfl rfl rfl rfl (Nat.le_of_ble_eq_true rfl) rfl rfl (fun _ _ z => False.elim z) ?_
  have hR : R32 (cd_connectHost S ((xs (i + 1).toNat).toInt)) := by
    unfold cd_connectHost 
    (repeat' split) <;> (unfold R32; omega)
  rintro v2 h10 ⟨_, S', ⟨rfl, hqa, hqb⟩, hm10, hf10⟩
  have hz : ∃ z : Int32, v2 = some (.int z) ∧ ((cd_connectHost S ((xs (i + 1).toNat).toInt)) = 0 → z = iI (vl_connectHost S ((xs (i + 1).toNat).toInt))) := by
    by_cases z0 : (cd_connectHost S ((xs (i + 1).toNat).toInt)) = 0
    · exact ⟨_, (hqa z0).1, fun _ => rfl⟩
    · obtain ⟨_, z, hz⟩ := hqb z0
      exact ⟨z, hz, fun w => absurd w z0⟩
  obtain ⟨z, rfl, hz⟩ := hz
  refine x_istore d_law_2399 (Nat.le_of_ble_eq_true rfl) ?_
  refine x_aload_n d_law_2401 rfl ?_
  refine x_callVC (rc' := rc + 225) (rs' := rs + 7398) (r := (RX7, TX7, 28)) d_law_2402 (q_law_153 nm hh) s_m_thrown v_m_thrown (t_m_thrown h10 hm10) hm10.1 rfl rfl rfl rfl (Nat.le_of_ble_eq_true rfl) rfl rfl (fun _ _ z => False.elim z) ?_
  rintro _ h11 ⟨_, _, ⟨rfl, rfl, rfl⟩, hm11, hf11⟩
  have hfin : LInv g mo out adm h11 := by
    rcases hq9 with ⟨hcd, hag, hE9, ho1⟩ | ⟨hne, e1, e2, e3⟩
    · exact turn_end hc9 hm0 hK hm11 (hf10.trans hf11) (by rw [(hqa hcd).2]; exact hag) (IV.agr hV hag hE9) hE9
    · exact turn_end hc9 hm0 hK hm11 (hf10.trans hf11) (by rw [e2, (hqb hne).1]; exact agr_refl _) (by rw [e2]; exact hV) (by rw [e2]; exact hE)
  refine x_iload d_law_2405 rfl ?_
  refine x_icmp_eq (tgt := 2412) d_law_2407 (by decide) hR hR (fun _ => ?_) (fun w => absurd rfl w)
  refine x_iload d_law_2412 rfl ?_
  refine x_if_ne (tgt := 2429) d_law_2414 (by decide) hR (fun w => ?_) (fun w => ?_)
  · skip
    refine x_goto (tgt := 2849) d_law_2429 (by decide) ?_
    exact (next h11 _ _ hfin).mono (by omega) (by omega)
  · have ho : o1 0 = (iI (vl_connectHost S ((xs (i + 1).toNat).toInt))).toInt64 := by
      rcases hq9 with ⟨_, _, _, ho1⟩ | ⟨hne, _⟩
      · exact ho1
      · exact absurd w hne
    have hout : h11 out = some (larr g 1 o1) := by rw [mfr_out hm0 hK hf11, mfr_out hm0 hK hf10]; exact hc9.2.2.1 out _ (hset_s _ _ _)
    refine x_aload_n d_law_2417 rfl ?_
    refine x_iconst d_law_2418 ?_
    refine x_lald (n := 1) d_law_2419 hout (by decide) (by decide) (by decide) ?_
    refine x_iload d_law_2420 rfl ?_
    refine x_i2l d_law_2422 ?_
    refine x_lcmp d_law_2423 ?_
    rw [show o1 (Int.toNat 0) = (iI (vl_connectHost S ((xs (i + 1).toNat).toInt))).toInt64 from ho, hz w, lg_cmp_self]
    refine x_if_eq (tgt := 2429) d_law_2424 (by decide) R32_0 (fun _ => ?_) (fun q => absurd rfl q)
    refine x_goto (tgt := 2849) d_law_2429 (by decide) ?_
    exact (next h11 _ _ hfin).mono (by omega) (by omega)
theorem T_save {g : xG} {x mo out b L : Nat} {adm : Nat → Nat} {xs : Nat → Int32} {nm : String} {hh : List (Nat × Nat × Nat × Nat)} {Q : qP} {rc rs : Nat} {h : hp} {i : Int} {v5 v6 : Option Value} (hN : ncOk g) (hXs : va_X b L xs g.2.1 g.2.1.heap) (hb : b < g.2.1.heap.size) (hL : L ≤ 2560) (i0 : 0 ≤ i) (i1 : i + 5 ≤ L) (hx : x = g.2.2.2.2 5) (hI9 : LInv g mo out adm h) (next : ∀ h' v5 v6, LInv g mo out adm h' → xW g (M_law nm hh) Q mN rc rs h' 2849 [some (.ref b), some (.ref x), some (.ref mo), some (.ref out), some (.int (iI i)), v5, v6] []) : xW g (M_law nm hh) Q mN (rc + 226) (rs + 7404) h 2432 [some (.ref b), some (.ref x), some (.ref mo), some (.ref out), some (.int (iI i)), v5, v6] [] := by
  obtain ⟨ad, S, K, o, tt, hc, hm0, hK, hV, hE⟩ := hI9
  have hx2 : ad 0 0 = x := hc.2.2.2.2.2.trans hx.symm
  subst hx2
  obtain ⟨hI, hX9⟩ := id hV
  have h0 := hE.h
  refine x_aload_n d_law_2432 rfl ?_
  refine x_aload_n d_law_2433 rfl ?_
  refine x_iload d_law_2434 rfl ?_
  refine x_iconst d_law_2436 ?_
  refine x_iadd d_law_2437 ?_
  refine x_sld hXs hb hL (by omega) (by omega) d_law_2438 ?_
  refine x_aload_n d_law_2439 rfl ?_
  refine x_callSWC (rc' := rc + 219) (rs' := rs + 7302) d_law_2440 (q_law_260 nm hh) s_L_save (t_L_save hN hI hE (toIntR _) h hc) rfl (by rfl) (Nat.le_of_ble_eq_true rfl) (by show rc + 226 = rc + 219 + 7; omega) (by show rs + 7404 = rs + 7302 + 102; omega) ?_
  rintro _ h9 ⟨rfl, ad9, S9, o1, hc9, hq9⟩
  refine x_istore d_law_2443 (Nat.le_of_ble_eq_true rfl) ?_
  have hm9 := mdl_in hc9 hm0 hK
  refine x_aload_n d_law_2445 rfl ?_
  refine x_aload_n d_law_2446 rfl ?_
  refine x_iload d_law_2447 rfl ?_
  refine x_iconst d_law_2449 ?_
  refine x_iadd d_law_2450 ?_
  refine x_sld hXs hb hL (by omega) (by omega) d_law_2451 ?_
  refine x_callVC (rc' := rc + 219) (rs' := rs + 7302) (r := (RX7, TX7, 28)) d_law_2452 (q_law_262 nm hh) s_m_save v_m_save (t_m_save hI (toIntR _) h9 hm9) hm9.1 rfl rfl rfl rfl (Nat.le_of_ble_eq_true rfl) rfl rfl (fun _ _ z => False.elim z) ?_
  have hR : R32 (cd_save S ((xs (i + 1).toNat).toInt)) := by
    unfold cd_save 
    (repeat' split) <;> (unfold R32; omega)
  rintro v2 h10 ⟨_, S', ⟨rfl, hqa, hqb⟩, hm10, hf10⟩
  have hz : ∃ z : Int32, v2 = some (.int z) ∧ ((cd_save S ((xs (i + 1).toNat).toInt)) = 0 → z = iI (vl_save S ((xs (i + 1).toNat).toInt))) := by
    by_cases z0 : (cd_save S ((xs (i + 1).toNat).toInt)) = 0
    · exact ⟨_, (hqa z0).1, fun _ => rfl⟩
    · obtain ⟨_, z, hz⟩ := hqb z0
      exact ⟨z, hz, fun w => absurd w z0⟩
  obtain ⟨z, rfl, hz⟩ := hz
  refine x_istore d_law_2455 (Nat.le_of_ble_eq_true rfl) ?_
  refine x_aload_n d_law_2457 rfl ?_
  refine x_callVC (rc' := rc + 219) (rs' := rs + 7302) (r := (RX7, TX7, 28)) d_law_2458 (q_law_153 nm hh) s_m_thrown v_m_thrown (t_m_thrown h10 hm10) hm10.1 rfl rfl rfl rfl (Nat.le_of_ble_eq_true rfl) rfl rfl (fun _ _ z => False.elim z) ?_
  rintro _ h11 ⟨_, _, ⟨rfl, rfl, rfl⟩, hm11, hf11⟩
  have hfin : LInv g mo out adm h11 := by
    rcases hq9 with ⟨hcd, hag, hE9, ho1⟩ | ⟨hne, e1, e2, e3⟩
    · exact turn_end hc9 hm0 hK hm11 (hf10.trans hf11) (by rw [(hqa hcd).2]; exact hag) (IV.agr (i_save hV hcd) hag hE9) hE9
    · exact turn_end hc9 hm0 hK hm11 (hf10.trans hf11) (by rw [e2, (hqb hne).1]; exact agr_refl _) (by rw [e2]; exact hV) (by rw [e2]; exact hE)
  refine x_iload d_law_2461 rfl ?_
  refine x_icmp_eq (tgt := 2468) d_law_2463 (by decide) hR hR (fun _ => ?_) (fun w => absurd rfl w)
  refine x_iload d_law_2468 rfl ?_
  refine x_if_ne (tgt := 2485) d_law_2470 (by decide) hR (fun w => ?_) (fun w => ?_)
  · skip
    refine x_goto (tgt := 2849) d_law_2485 (by decide) ?_
    exact (next h11 _ _ hfin).mono (by omega) (by omega)
  · have ho : o1 0 = (iI (vl_save S ((xs (i + 1).toNat).toInt))).toInt64 := by
      rcases hq9 with ⟨_, _, _, ho1⟩ | ⟨hne, _⟩
      · exact ho1
      · exact absurd w hne
    have hout : h11 out = some (larr g 1 o1) := by rw [mfr_out hm0 hK hf11, mfr_out hm0 hK hf10]; exact hc9.2.2.1 out _ (hset_s _ _ _)
    refine x_aload_n d_law_2473 rfl ?_
    refine x_iconst d_law_2474 ?_
    refine x_lald (n := 1) d_law_2475 hout (by decide) (by decide) (by decide) ?_
    refine x_iload d_law_2476 rfl ?_
    refine x_i2l d_law_2478 ?_
    refine x_lcmp d_law_2479 ?_
    rw [show o1 (Int.toNat 0) = (iI (vl_save S ((xs (i + 1).toNat).toInt))).toInt64 from ho, hz w, lg_cmp_self]
    refine x_if_eq (tgt := 2485) d_law_2480 (by decide) R32_0 (fun _ => ?_) (fun q => absurd rfl q)
    refine x_goto (tgt := 2849) d_law_2485 (by decide) ?_
    exact (next h11 _ _ hfin).mono (by omega) (by omega)
theorem T_restore {g : xG} {x mo out b L : Nat} {adm : Nat → Nat} {xs : Nat → Int32} {nm : String} {hh : List (Nat × Nat × Nat × Nat)} {Q : qP} {rc rs : Nat} {h : hp} {i : Int} {v5 v6 : Option Value} (hN : ncOk g) (hXs : va_X b L xs g.2.1 g.2.1.heap) (hb : b < g.2.1.heap.size) (hL : L ≤ 2560) (i0 : 0 ≤ i) (i1 : i + 5 ≤ L) (hx : x = g.2.2.2.2 5) (hI9 : LInv g mo out adm h) (next : ∀ h' v5 v6, LInv g mo out adm h' → xW g (M_law nm hh) Q mN rc rs h' 2849 [some (.ref b), some (.ref x), some (.ref mo), some (.ref out), some (.int (iI i)), v5, v6] []) : xW g (M_law nm hh) Q mN (rc + 226) (rs + 7404) h 2488 [some (.ref b), some (.ref x), some (.ref mo), some (.ref out), some (.int (iI i)), v5, v6] [] := by
  obtain ⟨ad, S, K, o, tt, hc, hm0, hK, hV, hE⟩ := hI9
  have hx2 : ad 0 0 = x := hc.2.2.2.2.2.trans hx.symm
  subst hx2
  obtain ⟨hI, hX9⟩ := id hV
  have h0 := hE.h
  refine x_aload_n d_law_2488 rfl ?_
  refine x_aload_n d_law_2489 rfl ?_
  refine x_iload d_law_2490 rfl ?_
  refine x_iconst d_law_2492 ?_
  refine x_iadd d_law_2493 ?_
  refine x_sld hXs hb hL (by omega) (by omega) d_law_2494 ?_
  refine x_aload_n d_law_2495 rfl ?_
  refine x_iload d_law_2496 rfl ?_
  refine x_iconst d_law_2498 ?_
  refine x_iadd d_law_2499 ?_
  refine x_sld hXs hb hL (by omega) (by omega) d_law_2500 ?_
  refine x_aload_n d_law_2501 rfl ?_
  refine x_callSWC (rc' := rc + 218) (rs' := rs + 7290) d_law_2502 (q_law_263 nm hh) s_L_restore (t_L_restore hN hI hE (toIntR _) (toIntR _) h hc) rfl (by rfl) (Nat.le_of_ble_eq_true rfl) (by show rc + 226 = rc + 218 + 8; omega) (by show rs + 7404 = rs + 7290 + 114; omega) ?_
  rintro _ h9 ⟨rfl, ad9, S9, o1, hc9, hq9⟩
  refine x_istore d_law_2505 (Nat.le_of_ble_eq_true rfl) ?_
  have hm9 := mdl_in hc9 hm0 hK
  refine x_aload_n d_law_2507 rfl ?_
  refine x_aload_n d_law_2508 rfl ?_
  refine x_iload d_law_2509 rfl ?_
  refine x_iconst d_law_2511 ?_
  refine x_iadd d_law_2512 ?_
  refine x_sld hXs hb hL (by omega) (by omega) d_law_2513 ?_
  refine x_aload_n d_law_2514 rfl ?_
  refine x_iload d_law_2515 rfl ?_
  refine x_iconst d_law_2517 ?_
  refine x_iadd d_law_2518 ?_
  refine x_sld hXs hb hL (by omega) (by omega) d_law_2519 ?_
  refine x_callVC (rc' := rc + 218) (rs' := rs + 7290) (r := (RX7, TX7, 28)) d_law_2520 (q_law_265 nm hh) s_m_restore v_m_restore (t_m_restore hI (toIntR _) (toIntR _) h9 hm9) hm9.1 rfl rfl rfl rfl (Nat.le_of_ble_eq_true rfl) rfl rfl (fun _ _ z => False.elim z) ?_
  have hR : R32 (cd_restore S ((xs (i + 1).toNat).toInt) ((xs (i + 2).toNat).toInt)) := by
    unfold cd_restore 
    (repeat' split) <;> (unfold R32; omega)
  rintro v2 h10 ⟨_, S', ⟨rfl, hqa, hqb⟩, hm10, hf10⟩
  have hz : ∃ z : Int32, v2 = some (.int z) ∧ ((cd_restore S ((xs (i + 1).toNat).toInt) ((xs (i + 2).toNat).toInt)) = 0 → z = iI (vl_restore S ((xs (i + 1).toNat).toInt) ((xs (i + 2).toNat).toInt))) := by
    by_cases z0 : (cd_restore S ((xs (i + 1).toNat).toInt) ((xs (i + 2).toNat).toInt)) = 0
    · exact ⟨_, (hqa z0).1, fun _ => rfl⟩
    · obtain ⟨_, z, hz⟩ := hqb z0
      exact ⟨z, hz, fun w => absurd w z0⟩
  obtain ⟨z, rfl, hz⟩ := hz
  refine x_istore d_law_2523 (Nat.le_of_ble_eq_true rfl) ?_
  refine x_aload_n d_law_2525 rfl ?_
  refine x_callVC (rc' := rc + 218) (rs' := rs + 7290) (r := (RX7, TX7, 28)) d_law_2526 (q_law_153 nm hh) s_m_thrown v_m_thrown (t_m_thrown h10 hm10) hm10.1 rfl rfl rfl rfl (Nat.le_of_ble_eq_true rfl) rfl rfl (fun _ _ z => False.elim z) ?_
  rintro _ h11 ⟨_, _, ⟨rfl, rfl, rfl⟩, hm11, hf11⟩
  have hfin : LInv g mo out adm h11 := by
    rcases hq9 with ⟨hcd, hag, hE9, ho1⟩ | ⟨hne, e1, e2, e3⟩
    · exact turn_end hc9 hm0 hK hm11 (hf10.trans hf11) (by rw [(hqa hcd).2]; exact hag) (IV.agr (i_restore hV hcd) hag hE9) hE9
    · exact turn_end hc9 hm0 hK hm11 (hf10.trans hf11) (by rw [e2, (hqb hne).1]; exact agr_refl _) (by rw [e2]; exact hV) (by rw [e2]; exact hE)
  refine x_iload d_law_2529 rfl ?_
  refine x_icmp_eq (tgt := 2536) d_law_2531 (by decide) hR hR (fun _ => ?_) (fun w => absurd rfl w)
  refine x_iload d_law_2536 rfl ?_
  refine x_if_ne (tgt := 2553) d_law_2538 (by decide) hR (fun w => ?_) (fun w => ?_)
  · skip
    refine x_goto (tgt := 2849) d_law_2553 (by decide) ?_
    exact (next h11 _ _ hfin).mono (by omega) (by omega)
  · have ho : o1 0 = (iI (vl_restore S ((xs (i + 1).toNat).toInt) ((xs (i + 2).toNat).toInt))).toInt64 := by
      rcases hq9 with ⟨_, _, _, ho1⟩ | ⟨hne, _⟩
      · exact ho1
      · exact absurd w hne
    have hout : h11 out = some (larr g 1 o1) := by rw [mfr_out hm0 hK hf11, mfr_out hm0 hK hf10]; exact hc9.2.2.1 out _ (hset_s _ _ _)
    refine x_aload_n d_law_2541 rfl ?_
    refine x_iconst d_law_2542 ?_
    refine x_lald (n := 1) d_law_2543 hout (by decide) (by decide) (by decide) ?_
    refine x_iload d_law_2544 rfl ?_
    refine x_i2l d_law_2546 ?_
    refine x_lcmp d_law_2547 ?_
    rw [show o1 (Int.toNat 0) = (iI (vl_restore S ((xs (i + 1).toNat).toInt) ((xs (i + 2).toNat).toInt))).toInt64 from ho, hz w, lg_cmp_self]
    refine x_if_eq (tgt := 2553) d_law_2548 (by decide) R32_0 (fun _ => ?_) (fun q => absurd rfl q)
    refine x_goto (tgt := 2849) d_law_2553 (by decide) ?_
    exact (next h11 _ _ hfin).mono (by omega) (by omega)
theorem T_containers {g : xG} {x mo out b L : Nat} {adm : Nat → Nat} {xs : Nat → Int32} {nm : String} {hh : List (Nat × Nat × Nat × Nat)} {Q : qP} {rc rs : Nat} {h : hp} {i : Int} {v5 v6 : Option Value} (hN : ncOk g) (hXs : va_X b L xs g.2.1 g.2.1.heap) (hb : b < g.2.1.heap.size) (hL : L ≤ 2560) (i0 : 0 ≤ i) (i1 : i + 5 ≤ L) (hx : x = g.2.2.2.2 5) (hI9 : LInv g mo out adm h) (next : ∀ h' v5 v6, LInv g mo out adm h' → xW g (M_law nm hh) Q mN rc rs h' 2849 [some (.ref b), some (.ref x), some (.ref mo), some (.ref out), some (.int (iI i)), v5, v6] []) : xW g (M_law nm hh) Q mN (rc + 226) (rs + 7404) h 2556 [some (.ref b), some (.ref x), some (.ref mo), some (.ref out), some (.int (iI i)), v5, v6] [] := by
  obtain ⟨ad, S, K, o, tt, hc, hm0, hK, hV, hE⟩ := hI9
  have hx2 : ad 0 0 = x := hc.2.2.2.2.2.trans hx.symm
  subst hx2
  obtain ⟨hI, hX9⟩ := id hV
  have h0 := hE.h
  refine x_aload_n d_law_2556 rfl ?_
  refine x_callVC (rc' := rc + 226) (rs' := rs + 7404) (r := (RX6, TX6, 7)) d_law_2557 (q_law_266 nm hh) s_h_containers v_h_containers (t_h_containers (QX := cN) hE h hc) (hc.at 0 (by decide) h0) rfl rfl rfl rfl (Nat.le_of_ble_eq_true rfl) rfl rfl (fun _ _ z => by obtain ⟨_, _, z, _⟩ := z; exact z.elim) ?_
  rintro _ h9 ⟨_, _, ⟨rfl, rfl, rfl⟩, hc9⟩
  have hm9 := mdl_in hc9 hm0 hK
  refine x_aload_n d_law_2560 rfl ?_
  refine x_callVC (rc' := rc + 226) (rs' := rs + 7404) (r := (RX7, TX7, 28)) d_law_2561 (q_law_269 nm hh) s_m_containers v_m_containers (t_m_containers h9 hm9) hm9.1 rfl rfl rfl rfl (Nat.le_of_ble_eq_true rfl) rfl rfl (fun _ _ z => False.elim z) ?_
  rintro _ h10 ⟨_, _, ⟨rfl, rfl, rfl⟩, hm10, hf10⟩
  refine x_icmp_eq (tgt := 2849) d_law_2564 (by decide) (hI.1 11 0 (by decide)) (hI.1 11 0 (by decide)) (fun w => ?_) (fun w => ?_)
  · exact (next h10 _ _ (turn_end hc9 hm0 hK hm10 hf10 (agr_refl _) hV hE)).mono (by omega) (by omega)
  · exact absurd rfl w
theorem T_stateOf {g : xG} {x mo out b L : Nat} {adm : Nat → Nat} {xs : Nat → Int32} {nm : String} {hh : List (Nat × Nat × Nat × Nat)} {Q : qP} {rc rs : Nat} {h : hp} {i : Int} {v5 v6 : Option Value} (hN : ncOk g) (hXs : va_X b L xs g.2.1 g.2.1.heap) (hb : b < g.2.1.heap.size) (hL : L ≤ 2560) (i0 : 0 ≤ i) (i1 : i + 5 ≤ L) (hx : x = g.2.2.2.2 5) (hI9 : LInv g mo out adm h) (next : ∀ h' v5 v6, LInv g mo out adm h' → xW g (M_law nm hh) Q mN rc rs h' 2849 [some (.ref b), some (.ref x), some (.ref mo), some (.ref out), some (.int (iI i)), v5, v6] []) : xW g (M_law nm hh) Q mN (rc + 226) (rs + 7404) h 2569 [some (.ref b), some (.ref x), some (.ref mo), some (.ref out), some (.int (iI i)), v5, v6] [] := by
  obtain ⟨ad, S, K, o, tt, hc, hm0, hK, hV, hE⟩ := hI9
  have hx2 : ad 0 0 = x := hc.2.2.2.2.2.trans hx.symm
  subst hx2
  obtain ⟨hI, hX9⟩ := id hV
  have h0 := hE.h
  refine x_aload_n d_law_2569 rfl ?_
  refine x_aload_n d_law_2570 rfl ?_
  refine x_iload d_law_2571 rfl ?_
  refine x_iconst d_law_2573 ?_
  refine x_iadd d_law_2574 ?_
  refine x_sld hXs hb hL (by omega) (by omega) d_law_2575 ?_
  refine x_aload_n d_law_2576 rfl ?_
  refine x_callSWC (rc' := rc + 225) (rs' := rs + 7398) d_law_2577 (q_law_270 nm hh) s_L_stateOf (t_L_stateOf hN hI hE (toIntR _) h hc) rfl (by rfl) (Nat.le_of_ble_eq_true rfl) (by show rc + 226 = rc + 225 + 1; omega) (by show rs + 7404 = rs + 7398 + 6; omega) ?_
  rintro _ h9 ⟨rfl, ad9, S9, o1, hc9, hq9⟩
  refine x_istore d_law_2580 (Nat.le_of_ble_eq_true rfl) ?_
  have hm9 := mdl_in hc9 hm0 hK
  refine x_aload_n d_law_2582 rfl ?_
  refine x_aload_n d_law_2583 rfl ?_
  refine x_iload d_law_2584 rfl ?_
  refine x_iconst d_law_2586 ?_
  refine x_iadd d_law_2587 ?_
  refine x_sld hXs hb hL (by omega) (by omega) d_law_2588 ?_
  refine x_callVC (rc' := rc + 225) (rs' := rs + 7398) (r := (RX7, TX7, 28)) d_law_2589 (q_law_272 nm hh) s_m_stateOf v_m_stateOf (t_m_stateOf hI (toIntR _) h9 hm9) hm9.1 rfl rfl rfl rfl (Nat.le_of_ble_eq_true rfl) rfl rfl (fun _ _ z => False.elim z) ?_
  have hR : R32 (cd_stateOf S ((xs (i + 1).toNat).toInt)) := by
    unfold cd_stateOf 
    (repeat' split) <;> (unfold R32; omega)
  rintro v2 h10 ⟨_, S', ⟨rfl, hqa, hqb⟩, hm10, hf10⟩
  have hz : ∃ z : Int32, v2 = some (.int z) ∧ ((cd_stateOf S ((xs (i + 1).toNat).toInt)) = 0 → z = iI (vl_stateOf S ((xs (i + 1).toNat).toInt))) := by
    by_cases z0 : (cd_stateOf S ((xs (i + 1).toNat).toInt)) = 0
    · exact ⟨_, (hqa z0).1, fun _ => rfl⟩
    · obtain ⟨_, z, hz⟩ := hqb z0
      exact ⟨z, hz, fun w => absurd w z0⟩
  obtain ⟨z, rfl, hz⟩ := hz
  refine x_istore d_law_2592 (Nat.le_of_ble_eq_true rfl) ?_
  refine x_aload_n d_law_2594 rfl ?_
  refine x_callVC (rc' := rc + 225) (rs' := rs + 7398) (r := (RX7, TX7, 28)) d_law_2595 (q_law_153 nm hh) s_m_thrown v_m_thrown (t_m_thrown h10 hm10) hm10.1 rfl rfl rfl rfl (Nat.le_of_ble_eq_true rfl) rfl rfl (fun _ _ z => False.elim z) ?_
  rintro _ h11 ⟨_, _, ⟨rfl, rfl, rfl⟩, hm11, hf11⟩
  have hfin : LInv g mo out adm h11 := by
    rcases hq9 with ⟨hcd, hag, hE9, ho1⟩ | ⟨hne, e1, e2, e3⟩
    · exact turn_end hc9 hm0 hK hm11 (hf10.trans hf11) (by rw [(hqa hcd).2]; exact hag) (IV.agr hV hag hE9) hE9
    · exact turn_end hc9 hm0 hK hm11 (hf10.trans hf11) (by rw [e2, (hqb hne).1]; exact agr_refl _) (by rw [e2]; exact hV) (by rw [e2]; exact hE)
  refine x_iload d_law_2598 rfl ?_
  refine x_icmp_eq (tgt := 2605) d_law_2600 (by decide) hR hR (fun _ => ?_) (fun w => absurd rfl w)
  refine x_iload d_law_2605 rfl ?_
  refine x_if_ne (tgt := 2622) d_law_2607 (by decide) hR (fun w => ?_) (fun w => ?_)
  · skip
    refine x_goto (tgt := 2849) d_law_2622 (by decide) ?_
    exact (next h11 _ _ hfin).mono (by omega) (by omega)
  · have ho : o1 0 = (iI (vl_stateOf S ((xs (i + 1).toNat).toInt))).toInt64 := by
      rcases hq9 with ⟨_, _, _, ho1⟩ | ⟨hne, _⟩
      · exact ho1
      · exact absurd w hne
    have hout : h11 out = some (larr g 1 o1) := by rw [mfr_out hm0 hK hf11, mfr_out hm0 hK hf10]; exact hc9.2.2.1 out _ (hset_s _ _ _)
    refine x_aload_n d_law_2610 rfl ?_
    refine x_iconst d_law_2611 ?_
    refine x_lald (n := 1) d_law_2612 hout (by decide) (by decide) (by decide) ?_
    refine x_iload d_law_2613 rfl ?_
    refine x_i2l d_law_2615 ?_
    refine x_lcmp d_law_2616 ?_
    rw [show o1 (Int.toNat 0) = (iI (vl_stateOf S ((xs (i + 1).toNat).toInt))).toInt64 from ho, hz w, lg_cmp_self]
    refine x_if_eq (tgt := 2622) d_law_2617 (by decide) R32_0 (fun _ => ?_) (fun q => absurd rfl q)
    refine x_goto (tgt := 2849) d_law_2622 (by decide) ?_
    exact (next h11 _ _ hfin).mono (by omega) (by omega)
theorem T_memoryOf {g : xG} {x mo out b L : Nat} {adm : Nat → Nat} {xs : Nat → Int32} {nm : String} {hh : List (Nat × Nat × Nat × Nat)} {Q : qP} {rc rs : Nat} {h : hp} {i : Int} {v5 v6 : Option Value} (hN : ncOk g) (hXs : va_X b L xs g.2.1 g.2.1.heap) (hb : b < g.2.1.heap.size) (hL : L ≤ 2560) (i0 : 0 ≤ i) (i1 : i + 5 ≤ L) (hx : x = g.2.2.2.2 5) (hI9 : LInv g mo out adm h) (next : ∀ h' v5 v6, LInv g mo out adm h' → xW g (M_law nm hh) Q mN rc rs h' 2849 [some (.ref b), some (.ref x), some (.ref mo), some (.ref out), some (.int (iI i)), v5, v6] []) : xW g (M_law nm hh) Q mN (rc + 226) (rs + 7404) h 2625 [some (.ref b), some (.ref x), some (.ref mo), some (.ref out), some (.int (iI i)), v5, v6] [] := by
  obtain ⟨ad, S, K, o, tt, hc, hm0, hK, hV, hE⟩ := hI9
  have hx2 : ad 0 0 = x := hc.2.2.2.2.2.trans hx.symm
  subst hx2
  obtain ⟨hI, hX9⟩ := id hV
  have h0 := hE.h
  refine x_aload_n d_law_2625 rfl ?_
  refine x_aload_n d_law_2626 rfl ?_
  refine x_iload d_law_2627 rfl ?_
  refine x_iconst d_law_2629 ?_
  refine x_iadd d_law_2630 ?_
  refine x_sld hXs hb hL (by omega) (by omega) d_law_2631 ?_
  refine x_aload_n d_law_2632 rfl ?_
  refine x_callSWC (rc' := rc + 225) (rs' := rs + 7398) d_law_2633 (q_law_273 nm hh) s_L_memoryOf (t_L_memoryOf hN hI hE (toIntR _) h hc) rfl (by rfl) (Nat.le_of_ble_eq_true rfl) (by show rc + 226 = rc + 225 + 1; omega) (by show rs + 7404 = rs + 7398 + 6; omega) ?_
  rintro _ h9 ⟨rfl, ad9, S9, o1, hc9, hq9⟩
  refine x_istore d_law_2636 (Nat.le_of_ble_eq_true rfl) ?_
  have hm9 := mdl_in hc9 hm0 hK
  refine x_aload_n d_law_2638 rfl ?_
  refine x_aload_n d_law_2639 rfl ?_
  refine x_iload d_law_2640 rfl ?_
  refine x_iconst d_law_2642 ?_
  refine x_iadd d_law_2643 ?_
  refine x_sld hXs hb hL (by omega) (by omega) d_law_2644 ?_
  refine x_callVC (rc' := rc + 225) (rs' := rs + 7398) (r := (RX7, TX7, 28)) d_law_2645 (q_law_275 nm hh) s_m_memoryOf v_m_memoryOf (t_m_memoryOf hI (toIntR _) h9 hm9) hm9.1 rfl rfl rfl rfl (Nat.le_of_ble_eq_true rfl) rfl rfl (fun _ _ z => False.elim z) ?_
  have hR : R32 (cd_memoryOf S ((xs (i + 1).toNat).toInt)) := by
    unfold cd_memoryOf 
    (repeat' split) <;> (unfold R32; omega)
  rintro v2 h10 ⟨_, S', ⟨rfl, hqa, hqb⟩, hm10, hf10⟩
  have hz : ∃ z : Int32, v2 = some (.int z) ∧ ((cd_memoryOf S ((xs (i + 1).toNat).toInt)) = 0 → z = iI (vl_memoryOf S ((xs (i + 1).toNat).toInt))) := by
    by_cases z0 : (cd_memoryOf S ((xs (i + 1).toNat).toInt)) = 0
    · exact ⟨_, (hqa z0).1, fun _ => rfl⟩
    · obtain ⟨_, z, hz⟩ := hqb z0
      exact ⟨z, hz, fun w => absurd w z0⟩
  obtain ⟨z, rfl, hz⟩ := hz
  refine x_istore d_law_2648 (Nat.le_of_ble_eq_true rfl) ?_
  refine x_aload_n d_law_2650 rfl ?_
  refine x_callVC (rc' := rc + 225) (rs' := rs + 7398) (r := (RX7, TX7, 28)) d_law_2651 (q_law_153 nm hh) s_m_thrown v_m_thrown (t_m_thrown h10 hm10) hm10.1 rfl rfl rfl rfl (Nat.le_of_ble_eq_true rfl) rfl rfl (fun _ _ z => False.elim z) ?_
  rintro _ h11 ⟨_, _, ⟨rfl, rfl, rfl⟩, hm11, hf11⟩
  have hfin : LInv g mo out adm h11 := by
    rcases hq9 with ⟨hcd, hag, hE9, ho1⟩ | ⟨hne, e1, e2, e3⟩
    · exact turn_end hc9 hm0 hK hm11 (hf10.trans hf11) (by rw [(hqa hcd).2]; exact hag) (IV.agr hV hag hE9) hE9
    · exact turn_end hc9 hm0 hK hm11 (hf10.trans hf11) (by rw [e2, (hqb hne).1]; exact agr_refl _) (by rw [e2]; exact hV) (by rw [e2]; exact hE)
  refine x_iload d_law_2654 rfl ?_
  refine x_icmp_eq (tgt := 2661) d_law_2656 (by decide) hR hR (fun _ => ?_) (fun w => absurd rfl w)
  refine x_iload d_law_2661 rfl ?_
  refine x_if_ne (tgt := 2678) d_law_2663 (by decide) hR (fun w => ?_) (fun w => ?_)
  · skip
    refine x_goto (tgt := 2849) d_law_2678 (by decide) ?_
    exact (next h11 _ _ hfin).mono (by omega) (by omega)
  · have ho : o1 0 = (iI (vl_memoryOf S ((xs (i + 1).toNat).toInt))).toInt64 := by
      rcases hq9 with ⟨_, _, _, ho1⟩ | ⟨hne, _⟩
      · exact ho1
      · exact absurd w hne
    have hout : h11 out = some (larr g 1 o1) := by rw [mfr_out hm0 hK hf11, mfr_out hm0 hK hf10]; exact hc9.2.2.1 out _ (hset_s _ _ _)
    refine x_aload_n d_law_2666 rfl ?_
    refine x_iconst d_law_2667 ?_
    refine x_lald (n := 1) d_law_2668 hout (by decide) (by decide) (by decide) ?_
    refine x_iload d_law_2669 rfl ?_
    refine x_i2l d_law_2671 ?_
    refine x_lcmp d_law_2672 ?_
    rw [show o1 (Int.toNat 0) = (iI (vl_memoryOf S ((xs (i + 1).toNat).toInt))).toInt64 from ho, hz w, lg_cmp_self]
    refine x_if_eq (tgt := 2678) d_law_2673 (by decide) R32_0 (fun _ => ?_) (fun q => absurd rfl q)
    refine x_goto (tgt := 2849) d_law_2678 (by decide) ?_
    exact (next h11 _ _ hfin).mono (by omega) (by omega)
theorem T_timeOf {g : xG} {x mo out b L : Nat} {adm : Nat → Nat} {xs : Nat → Int32} {nm : String} {hh : List (Nat × Nat × Nat × Nat)} {Q : qP} {rc rs : Nat} {h : hp} {i : Int} {v5 v6 : Option Value} (hN : ncOk g) (hXs : va_X b L xs g.2.1 g.2.1.heap) (hb : b < g.2.1.heap.size) (hL : L ≤ 2560) (i0 : 0 ≤ i) (i1 : i + 5 ≤ L) (hx : x = g.2.2.2.2 5) (hI9 : LInv g mo out adm h) (next : ∀ h' v5 v6, LInv g mo out adm h' → xW g (M_law nm hh) Q mN rc rs h' 2849 [some (.ref b), some (.ref x), some (.ref mo), some (.ref out), some (.int (iI i)), v5, v6] []) : xW g (M_law nm hh) Q mN (rc + 226) (rs + 7404) h 2681 [some (.ref b), some (.ref x), some (.ref mo), some (.ref out), some (.int (iI i)), v5, v6] [] := by
  obtain ⟨ad, S, K, o, tt, hc, hm0, hK, hV, hE⟩ := hI9
  have hx2 : ad 0 0 = x := hc.2.2.2.2.2.trans hx.symm
  subst hx2
  obtain ⟨hI, hX9⟩ := id hV
  have h0 := hE.h
  refine x_aload_n d_law_2681 rfl ?_
  refine x_aload_n d_law_2682 rfl ?_
  refine x_iload d_law_2683 rfl ?_
  refine x_iconst d_law_2685 ?_
  refine x_iadd d_law_2686 ?_
  refine x_sld hXs hb hL (by omega) (by omega) d_law_2687 ?_
  refine x_aload_n d_law_2688 rfl ?_
  refine x_callSWC (rc' := rc + 225) (rs' := rs + 7398) d_law_2689 (q_law_276 nm hh) s_L_timeOf (t_L_timeOf hN hI hE (toIntR _) h hc) rfl (by rfl) (Nat.le_of_ble_eq_true rfl) (by show rc + 226 = rc + 225 + 1; omega) (by show rs + 7404 = rs + 7398 + 6; omega) ?_
  rintro _ h9 ⟨rfl, ad9, S9, o1, hc9, hq9⟩
  refine x_istore d_law_2692 (Nat.le_of_ble_eq_true rfl) ?_
  have hm9 := mdl_in hc9 hm0 hK
  refine x_aload_n d_law_2694 rfl ?_
  refine x_aload_n d_law_2695 rfl ?_
  refine x_iload d_law_2696 rfl ?_
  refine x_iconst d_law_2698 ?_
  refine x_iadd d_law_2699 ?_
  refine x_sld hXs hb hL (by omega) (by omega) d_law_2700 ?_
  refine x_callVC (rc' := rc + 225) (rs' := rs + 7398) (r := (RX7, TX7, 28)) d_law_2701 (q_law_278 nm hh) s_m_timeOf v_m_timeOf (t_m_timeOf hI (toIntR _) h9 hm9) hm9.1 rfl rfl rfl rfl (Nat.le_of_ble_eq_true rfl) rfl rfl (fun _ _ z => False.elim z) ?_
  have hR : R32 (cd_timeOf S ((xs (i + 1).toNat).toInt)) := by
    unfold cd_timeOf 
    (repeat' split) <;> (unfold R32; omega)
  rintro v2 h10 ⟨_, S', ⟨rfl, hqa, hqb⟩, hm10, hf10⟩
  have hz : ∃ z : Int32, v2 = some (.int z) ∧ ((cd_timeOf S ((xs (i + 1).toNat).toInt)) = 0 → z = iI (vl_timeOf S ((xs (i + 1).toNat).toInt))) := by
    by_cases z0 : (cd_timeOf S ((xs (i + 1).toNat).toInt)) = 0
    · exact ⟨_, (hqa z0).1, fun _ => rfl⟩
    · obtain ⟨_, z, hz⟩ := hqb z0
      exact ⟨z, hz, fun w => absurd w z0⟩
  obtain ⟨z, rfl, hz⟩ := hz
  refine x_istore d_law_2704 (Nat.le_of_ble_eq_true rfl) ?_
  refine x_aload_n d_law_2706 rfl ?_
  refine x_callVC (rc' := rc + 225) (rs' := rs + 7398) (r := (RX7, TX7, 28)) d_law_2707 (q_law_153 nm hh) s_m_thrown v_m_thrown (t_m_thrown h10 hm10) hm10.1 rfl rfl rfl rfl (Nat.le_of_ble_eq_true rfl) rfl rfl (fun _ _ z => False.elim z) ?_
  rintro _ h11 ⟨_, _, ⟨rfl, rfl, rfl⟩, hm11, hf11⟩
  have hfin : LInv g mo out adm h11 := by
    rcases hq9 with ⟨hcd, hag, hE9, ho1⟩ | ⟨hne, e1, e2, e3⟩
    · exact turn_end hc9 hm0 hK hm11 (hf10.trans hf11) (by rw [(hqa hcd).2]; exact hag) (IV.agr hV hag hE9) hE9
    · exact turn_end hc9 hm0 hK hm11 (hf10.trans hf11) (by rw [e2, (hqb hne).1]; exact agr_refl _) (by rw [e2]; exact hV) (by rw [e2]; exact hE)
  refine x_iload d_law_2710 rfl ?_
  refine x_icmp_eq (tgt := 2717) d_law_2712 (by decide) hR hR (fun _ => ?_) (fun w => absurd rfl w)
  refine x_iload d_law_2717 rfl ?_
  refine x_if_ne (tgt := 2734) d_law_2719 (by decide) hR (fun w => ?_) (fun w => ?_)
  · skip
    refine x_goto (tgt := 2849) d_law_2734 (by decide) ?_
    exact (next h11 _ _ hfin).mono (by omega) (by omega)
  · have ho : o1 0 = (iI (vl_timeOf S ((xs (i + 1).toNat).toInt))).toInt64 := by
      rcases hq9 with ⟨_, _, _, ho1⟩ | ⟨hne, _⟩
      · exact ho1
      · exact absurd w hne
    have hout : h11 out = some (larr g 1 o1) := by rw [mfr_out hm0 hK hf11, mfr_out hm0 hK hf10]; exact hc9.2.2.1 out _ (hset_s _ _ _)
    refine x_aload_n d_law_2722 rfl ?_
    refine x_iconst d_law_2723 ?_
    refine x_lald (n := 1) d_law_2724 hout (by decide) (by decide) (by decide) ?_
    refine x_iload d_law_2725 rfl ?_
    refine x_i2l d_law_2727 ?_
    refine x_lcmp d_law_2728 ?_
    rw [show o1 (Int.toNat 0) = (iI (vl_timeOf S ((xs (i + 1).toNat).toInt))).toInt64 from ho, hz w, lg_cmp_self]
    refine x_if_eq (tgt := 2734) d_law_2729 (by decide) R32_0 (fun _ => ?_) (fun q => absurd rfl q)
    refine x_goto (tgt := 2849) d_law_2734 (by decide) ?_
    exact (next h11 _ _ hfin).mono (by omega) (by omega)
theorem T_capabilitiesOf {g : xG} {x mo out b L : Nat} {adm : Nat → Nat} {xs : Nat → Int32} {nm : String} {hh : List (Nat × Nat × Nat × Nat)} {Q : qP} {rc rs : Nat} {h : hp} {i : Int} {v5 v6 : Option Value} (hN : ncOk g) (hXs : va_X b L xs g.2.1 g.2.1.heap) (hb : b < g.2.1.heap.size) (hL : L ≤ 2560) (i0 : 0 ≤ i) (i1 : i + 5 ≤ L) (hx : x = g.2.2.2.2 5) (hI9 : LInv g mo out adm h) (next : ∀ h' v5 v6, LInv g mo out adm h' → xW g (M_law nm hh) Q mN rc rs h' 2849 [some (.ref b), some (.ref x), some (.ref mo), some (.ref out), some (.int (iI i)), v5, v6] []) : xW g (M_law nm hh) Q mN (rc + 226) (rs + 7404) h 2737 [some (.ref b), some (.ref x), some (.ref mo), some (.ref out), some (.int (iI i)), v5, v6] [] := by
  obtain ⟨ad, S, K, o, tt, hc, hm0, hK, hV, hE⟩ := hI9
  have hx2 : ad 0 0 = x := hc.2.2.2.2.2.trans hx.symm
  subst hx2
  obtain ⟨hI, hX9⟩ := id hV
  have h0 := hE.h
  refine x_aload_n d_law_2737 rfl ?_
  refine x_aload_n d_law_2738 rfl ?_
  refine x_iload d_law_2739 rfl ?_
  refine x_iconst d_law_2741 ?_
  refine x_iadd d_law_2742 ?_
  refine x_sld hXs hb hL (by omega) (by omega) d_law_2743 ?_
  refine x_aload_n d_law_2744 rfl ?_
  refine x_callSWC (rc' := rc + 225) (rs' := rs + 7398) d_law_2745 (q_law_279 nm hh) s_L_capabilitiesOf (t_L_capabilitiesOf hN hI hE (toIntR _) h hc) rfl (by rfl) (Nat.le_of_ble_eq_true rfl) (by show rc + 226 = rc + 225 + 1; omega) (by show rs + 7404 = rs + 7398 + 6; omega) ?_
  rintro _ h9 ⟨rfl, ad9, S9, o1, hc9, hq9⟩
  refine x_istore d_law_2748 (Nat.le_of_ble_eq_true rfl) ?_
  have hm9 := mdl_in hc9 hm0 hK
  refine x_aload_n d_law_2750 rfl ?_
  refine x_aload_n d_law_2751 rfl ?_
  refine x_iload d_law_2752 rfl ?_
  refine x_iconst d_law_2754 ?_
  refine x_iadd d_law_2755 ?_
  refine x_sld hXs hb hL (by omega) (by omega) d_law_2756 ?_
  refine x_callVC (rc' := rc + 225) (rs' := rs + 7398) (r := (RX7, TX7, 28)) d_law_2757 (q_law_281 nm hh) s_m_capabilitiesOf v_m_capabilitiesOf (t_m_capabilitiesOf hI (toIntR _) h9 hm9) hm9.1 rfl rfl rfl rfl (Nat.le_of_ble_eq_true rfl) rfl rfl (fun _ _ z => False.elim z) ?_
  have hR : R32 (cd_capabilitiesOf S ((xs (i + 1).toNat).toInt)) := by
    unfold cd_capabilitiesOf 
    (repeat' split) <;> (unfold R32; omega)
  rintro v2 h10 ⟨_, S', ⟨rfl, hqa, hqb⟩, hm10, hf10⟩
  have hz : ∃ z : Int32, v2 = some (.int z) ∧ ((cd_capabilitiesOf S ((xs (i + 1).toNat).toInt)) = 0 → z = iI (vl_capabilitiesOf S ((xs (i + 1).toNat).toInt))) := by
    by_cases z0 : (cd_capabilitiesOf S ((xs (i + 1).toNat).toInt)) = 0
    · exact ⟨_, (hqa z0).1, fun _ => rfl⟩
    · obtain ⟨_, z, hz⟩ := hqb z0
      exact ⟨z, hz, fun w => absurd w z0⟩
  obtain ⟨z, rfl, hz⟩ := hz
  refine x_istore d_law_2760 (Nat.le_of_ble_eq_true rfl) ?_
  refine x_aload_n d_law_2762 rfl ?_
  refine x_callVC (rc' := rc + 225) (rs' := rs + 7398) (r := (RX7, TX7, 28)) d_law_2763 (q_law_153 nm hh) s_m_thrown v_m_thrown (t_m_thrown h10 hm10) hm10.1 rfl rfl rfl rfl (Nat.le_of_ble_eq_true rfl) rfl rfl (fun _ _ z => False.elim z) ?_
  rintro _ h11 ⟨_, _, ⟨rfl, rfl, rfl⟩, hm11, hf11⟩
  have hfin : LInv g mo out adm h11 := by
    rcases hq9 with ⟨hcd, hag, hE9, ho1⟩ | ⟨hne, e1, e2, e3⟩
    · exact turn_end hc9 hm0 hK hm11 (hf10.trans hf11) (by rw [(hqa hcd).2]; exact hag) (IV.agr hV hag hE9) hE9
    · exact turn_end hc9 hm0 hK hm11 (hf10.trans hf11) (by rw [e2, (hqb hne).1]; exact agr_refl _) (by rw [e2]; exact hV) (by rw [e2]; exact hE)
  refine x_iload d_law_2766 rfl ?_
  refine x_icmp_eq (tgt := 2773) d_law_2768 (by decide) hR hR (fun _ => ?_) (fun w => absurd rfl w)
  refine x_iload d_law_2773 rfl ?_
  refine x_if_ne (tgt := 2790) d_law_2775 (by decide) hR (fun w => ?_) (fun w => ?_)
  · skip
    refine x_goto (tgt := 2849) d_law_2790 (by decide) ?_
    exact (next h11 _ _ hfin).mono (by omega) (by omega)
  · have ho : o1 0 = (iI (vl_capabilitiesOf S ((xs (i + 1).toNat).toInt))).toInt64 := by
      rcases hq9 with ⟨_, _, _, ho1⟩ | ⟨hne, _⟩
      · exact ho1
      · exact absurd w hne
    have hout : h11 out = some (larr g 1 o1) := by rw [mfr_out hm0 hK hf11, mfr_out hm0 hK hf10]; exact hc9.2.2.1 out _ (hset_s _ _ _)
    refine x_aload_n d_law_2778 rfl ?_
    refine x_iconst d_law_2779 ?_
    refine x_lald (n := 1) d_law_2780 hout (by decide) (by decide) (by decide) ?_
    refine x_iload d_law_2781 rfl ?_
    refine x_i2l d_law_2783 ?_
    refine x_lcmp d_law_2784 ?_
    rw [show o1 (Int.toNat 0) = (iI (vl_capabilitiesOf S ((xs (i + 1).toNat).toInt))).toInt64 from ho, hz w, lg_cmp_self]
    refine x_if_eq (tgt := 2790) d_law_2785 (by decide) R32_0 (fun _ => ?_) (fun q => absurd rfl q)
    refine x_goto (tgt := 2849) d_law_2790 (by decide) ?_
    exact (next h11 _ _ hfin).mono (by omega) (by omega)
theorem T_addressOf {g : xG} {x mo out b L : Nat} {adm : Nat → Nat} {xs : Nat → Int32} {nm : String} {hh : List (Nat × Nat × Nat × Nat)} {Q : qP} {rc rs : Nat} {h : hp} {i : Int} {v5 v6 : Option Value} (hN : ncOk g) (hXs : va_X b L xs g.2.1 g.2.1.heap) (hb : b < g.2.1.heap.size) (hL : L ≤ 2560) (i0 : 0 ≤ i) (i1 : i + 5 ≤ L) (hx : x = g.2.2.2.2 5) (hI9 : LInv g mo out adm h) (next : ∀ h' v5 v6, LInv g mo out adm h' → xW g (M_law nm hh) Q mN rc rs h' 2849 [some (.ref b), some (.ref x), some (.ref mo), some (.ref out), some (.int (iI i)), v5, v6] []) : xW g (M_law nm hh) Q mN (rc + 226) (rs + 7404) h 2793 [some (.ref b), some (.ref x), some (.ref mo), some (.ref out), some (.int (iI i)), v5, v6] [] := by
  obtain ⟨ad, S, K, o, tt, hc, hm0, hK, hV, hE⟩ := hI9
  have hx2 : ad 0 0 = x := hc.2.2.2.2.2.trans hx.symm
  subst hx2
  obtain ⟨hI, hX9⟩ := id hV
  have h0 := hE.h
  refine x_aload_n d_law_2793 rfl ?_
  refine x_aload_n d_law_2794 rfl ?_
  refine x_iload d_law_2795 rfl ?_
  refine x_iconst d_law_2797 ?_
  refine x_iadd d_law_2798 ?_
  refine x_sld hXs hb hL (by omega) (by omega) d_law_2799 ?_
  refine x_aload_n d_law_2800 rfl ?_
  refine x_callSWC (rc' := rc + 225) (rs' := rs + 7398) d_law_2801 (q_law_282 nm hh) s_L_addressOf (t_L_addressOf hN hI hE (toIntR _) h hc) rfl (by rfl) (Nat.le_of_ble_eq_true rfl) (by show rc + 226 = rc + 225 + 1; omega) (by show rs + 7404 = rs + 7398 + 6; omega) ?_
  rintro _ h9 ⟨rfl, ad9, S9, o1, hc9, hq9⟩
  refine x_istore d_law_2804 (Nat.le_of_ble_eq_true rfl) ?_
  have hm9 := mdl_in hc9 hm0 hK
  refine x_aload_n d_law_2806 rfl ?_
  refine x_aload_n d_law_2807 rfl ?_
  refine x_iload d_law_2808 rfl ?_
  refine x_iconst d_law_2810 ?_
  refine x_iadd d_law_2811 ?_
  refine x_sld hXs hb hL (by omega) (by omega) d_law_2812 ?_
  refine x_callVC (rc' := rc + 225) (rs' := rs + 7398) (r := (RX7, TX7, 28)) d_law_2813 (q_law_284 nm hh) s_m_addressOf v_m_addressOf (t_m_addressOf hI (toIntR _) h9 hm9) hm9.1 rfl rfl rfl rfl (Nat.le_of_ble_eq_true rfl) rfl rfl (fun _ _ z => False.elim z) ?_
  have hR : R32 (cd_addressOf S ((xs (i + 1).toNat).toInt)) := by
    unfold cd_addressOf 
    (repeat' split) <;> (unfold R32; omega)
  rintro v2 h10 ⟨_, S', ⟨rfl, hqa, hqb⟩, hm10, hf10⟩
  have hz : ∃ z : Int32, v2 = some (.int z) ∧ ((cd_addressOf S ((xs (i + 1).toNat).toInt)) = 0 → z = iI (vl_addressOf S ((xs (i + 1).toNat).toInt))) := by
    by_cases z0 : (cd_addressOf S ((xs (i + 1).toNat).toInt)) = 0
    · exact ⟨_, (hqa z0).1, fun _ => rfl⟩
    · obtain ⟨_, z, hz⟩ := hqb z0
      exact ⟨z, hz, fun w => absurd w z0⟩
  obtain ⟨z, rfl, hz⟩ := hz
  refine x_istore d_law_2816 (Nat.le_of_ble_eq_true rfl) ?_
  refine x_aload_n d_law_2818 rfl ?_
  refine x_callVC (rc' := rc + 225) (rs' := rs + 7398) (r := (RX7, TX7, 28)) d_law_2819 (q_law_153 nm hh) s_m_thrown v_m_thrown (t_m_thrown h10 hm10) hm10.1 rfl rfl rfl rfl (Nat.le_of_ble_eq_true rfl) rfl rfl (fun _ _ z => False.elim z) ?_
  rintro _ h11 ⟨_, _, ⟨rfl, rfl, rfl⟩, hm11, hf11⟩
  have hfin : LInv g mo out adm h11 := by
    rcases hq9 with ⟨hcd, hag, hE9, ho1⟩ | ⟨hne, e1, e2, e3⟩
    · exact turn_end hc9 hm0 hK hm11 (hf10.trans hf11) (by rw [(hqa hcd).2]; exact hag) (IV.agr hV hag hE9) hE9
    · exact turn_end hc9 hm0 hK hm11 (hf10.trans hf11) (by rw [e2, (hqb hne).1]; exact agr_refl _) (by rw [e2]; exact hV) (by rw [e2]; exact hE)
  refine x_iload d_law_2822 rfl ?_
  refine x_icmp_eq (tgt := 2829) d_law_2824 (by decide) hR hR (fun _ => ?_) (fun w => absurd rfl w)
  refine x_iload d_law_2829 rfl ?_
  refine x_if_ne (tgt := 2846) d_law_2831 (by decide) hR (fun w => ?_) (fun w => ?_)
  · skip
    refine x_goto (tgt := 2849) d_law_2846 (by decide) ?_
    exact (next h11 _ _ hfin).mono (by omega) (by omega)
  · have ho : o1 0 = (iI (vl_addressOf S ((xs (i + 1).toNat).toInt))).toInt64 := by
      rcases hq9 with ⟨_, _, _, ho1⟩ | ⟨hne, _⟩
      · exact ho1
      · exact absurd w hne
    have hout : h11 out = some (larr g 1 o1) := by rw [mfr_out hm0 hK hf11, mfr_out hm0 hK hf10]; exact hc9.2.2.1 out _ (hset_s _ _ _)
    refine x_aload_n d_law_2834 rfl ?_
    refine x_iconst d_law_2835 ?_
    refine x_lald (n := 1) d_law_2836 hout (by decide) (by decide) (by decide) ?_
    refine x_iload d_law_2837 rfl ?_
    refine x_i2l d_law_2839 ?_
    refine x_lcmp d_law_2840 ?_
    rw [show o1 (Int.toNat 0) = (iI (vl_addressOf S ((xs (i + 1).toNat).toInt))).toInt64 from ho, hz w, lg_cmp_self]
    refine x_if_eq (tgt := 2846) d_law_2841 (by decide) R32_0 (fun _ => ?_) (fun q => absurd rfl q)
    refine x_goto (tgt := 2849) d_law_2846 (by decide) ?_
    exact (next h11 _ _ hfin).mono (by omega) (by omega)
