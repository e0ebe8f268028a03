theorem j41 {z : Int} (h0 : 0 ≤ z) (h1 : z ≤ 41) : z = 0 ∨ z = 1 ∨ z = 2 ∨ z = 3 ∨ z = 4 ∨ z = 5 ∨ z = 6 ∨ z = 7 ∨ z = 8 ∨ z = 9 ∨ z = 10 ∨ z = 11 ∨ z = 12 ∨ z = 13 ∨ z = 14 ∨ z = 15 ∨ z = 16 ∨ z = 17 ∨ z = 18 ∨ z = 19 ∨ z = 20 ∨ z = 21 ∨ z = 22 ∨ z = 23 ∨ z = 24 ∨ z = 25 ∨ z = 26 ∨ z = 27 ∨ z = 28 ∨ z = 29 ∨ z = 30 ∨ z = 31 ∨ z = 32 ∨ z = 33 ∨ z = 34 ∨ z = 35 ∨ z = 36 ∨ z = 37 ∨ z = 38 ∨ z = 39 ∨ z = 40 ∨ z = 41 := by omega
def lawQ : qP := fun v _ => v = some (.int 1)
theorem L_law {g : xG} {x mo out b L : Nat} {adm : Nat → Nat} {xs : Nat → Int32} {nm : String} {hh : List (Nat × Nat × Nat × Nat)} (hN : ncOk g) (hXs : va_X b L xs g.2.1 g.2.1.heap) (hb : b < g.2.1.heap.size) (hL : L ≤ 2560) (hx : x = g.2.2.2.2 5) : ∀ (f9 n : Nat) (h : hp) (v5 v6 : Option Value), LInv g mo out adm h → (n : Int) ≤ 512 → (L : Int) < 5 * n + 5 * f9 + 5 → xW g (M_law nm hh) lawQ mN (226 * f9) (7404 * f9) h 23 [some (.ref b), some (.ref x), some (.ref mo), some (.ref out), some (.int (iI (5 * (n : Int)))), v5, v6] [] := by
  have fin : ∀ (n rc rs : Nat) (h : hp) (v5 v6 : Option Value), xW g (M_law nm hh) lawQ mN rc rs h 2855 [some (.ref b), some (.ref x), some (.ref mo), some (.ref out), some (.int (iI (5 * (n : Int)))), v5, v6] [] := fun n rc rs h v5 v6 => by
    refine x_iconst d_law_2855 ?_
    exact x_zret (b := 1) rfl (Or.inr rfl) d_law_2856 rfl
  have head : ∀ (n rc rs : Nat) (h : hp) (v5 v6 : Option Value), (n : Int) ≤ 512 → (5 * (n : Int) + 5 ≤ L → xW g (M_law nm hh) lawQ mN rc rs h 32 [some (.ref b), some (.ref x), some (.ref mo), some (.ref out), some (.int (iI (5 * (n : Int)))), v5, v6] []) → xW g (M_law nm hh) lawQ mN rc rs h 23 [some (.ref b), some (.ref x), some (.ref mo), some (.ref out), some (.int (iI (5 * (n : Int)))), v5, v6] [] := fun n rc rs h v5 v6 hn k => by
    refine x_iload d_law_23 rfl ?_
    refine x_aload_n d_law_25 rfl ?_
    refine x_slen hXs hb d_law_26 ?_
    refine x_iconst d_law_27 ?_
    refine x_isub d_law_28 ?_
    refine x_icmp_gt (tgt := 2855) d_law_29 (by decide) (by unfold R32; omega) (by unfold R32; omega) (fun w => ?_) (fun w => ?_)
    · exact fin n rc rs h v5 v6
    · exact k (by omega)
  intro f9
  induction f9 with
  | zero =>
    intro n h v5 v6 hI9 q1 q2
    exact head n _ _ h v5 v6 q1 (fun w => by exfalso; omega)
  | succ f9 ih =>
    intro n h v5 v6 hI9 q1 q2
    refine head n _ _ h v5 v6 q1 (fun w => ?_)
    have next : ∀ h' v5 v6, LInv g mo out adm h' → xW g (M_law nm hh) lawQ mN (226 * f9) (7404 * f9) h' 2849 [some (.ref b), some (.ref x), some (.ref mo), some (.ref out), some (.int (iI (5 * (n : Int)))), v5, v6] [] := fun h' v5 v6 hI' => by
      refine x_iinc d_law_2849 rfl (Nat.le_of_ble_eq_true rfl) ?_
      refine x_goto (tgt := 23) d_law_2852 (by decide) ?_
      have e := ih (n + 1) h' v5 v6 hI' (by omega) (by omega)
      rw [show 5 * ((n + 1 : Nat) : Int) = 5 * (n : Int) + 5 by omega] at e
      exact e
    have i0 : 0 ≤ 5 * (n : Int) := by omega
    rw [show 226 * (f9 + 1) = 226 * f9 + 226 by omega, show 7404 * (f9 + 1) = 7404 * f9 + 7404 by omega]
    refine x_aload_n d_law_32 rfl ?_
    refine x_iload d_law_33 rfl ?_
    refine x_sld hXs hb hL i0 (by omega) d_law_35 ?_
    refine x_bipush d_law_36 (by decide) ?_
    refine x_iand d_law_38 rfl ?_
    generalize iI (xs (5 * (n : Int)).toNat).toInt &&& iI 63 = z
    by_cases hz : z.toInt < 0 ∨ 41 < z.toInt
    · refine x_tabOut (tgt := 2849) d_law_39 hz (by decide) ?_
      exact (next h v5 v6 hI9).mono (by omega) (by omega)
    · rcases j41 (show 0 ≤ z.toInt by omega) (by omega) with e | e | e | e | e | e | e | e | e | e | e | e | e | e | e | e | e | e | e | e | e | e | e | e | e | e | e | e | e | e | e | e | e | e | e | e | e | e | e | e | e | e
      · exact x_tabIn (off := 181) (tgt := 220) d_law_39 (by omega) (by omega) (by rw [e]; rfl) (by decide) (T_newImage hN hXs hb hL i0 w hx hI9 next)
      · exact x_tabIn (off := 237) (tgt := 276) d_law_39 (by omega) (by omega) (by rw [e]; rfl) (by decide) (T_write hN hXs hb hL i0 w hx hI9 next)
      · exact x_tabIn (off := 317) (tgt := 356) d_law_39 (by omega) (by omega) (by rw [e]; rfl) (by decide) (T_remove hN hXs hb hL i0 w hx hI9 next)
      · exact x_tabIn (off := 385) (tgt := 424) d_law_39 (by omega) (by omega) (by rw [e]; rfl) (by decide) (T_clear hN hXs hb hL i0 w hx hI9 next)
      · exact x_tabIn (off := 453) (tgt := 492) d_law_39 (by omega) (by omega) (by rw [e]; rfl) (by decide) (T_seal hN hXs hb hL i0 w hx hI9 next)
      · exact x_tabIn (off := 509) (tgt := 548) d_law_39 (by omega) (by omega) (by rw [e]; rfl) (by decide) (T_shown hN hXs hb hL i0 w hx hI9 next)
      · exact x_tabIn (off := 577) (tgt := 616) d_law_39 (by omega) (by omega) (by rw [e]; rfl) (by decide) (T_entries hN hXs hb hL i0 w hx hI9 next)
      · exact x_tabIn (off := 645) (tgt := 684) d_law_39 (by omega) (by omega) (by rw [e]; rfl) (by decide) (T_commit hN hXs hb hL i0 w hx hI9 next)
      · exact x_tabIn (off := 701) (tgt := 740) d_law_39 (by omega) (by omega) (by rw [e]; rfl) (by decide) (T_newGroup hN hXs hb hL i0 w hx hI9 next)
      · exact x_tabIn (off := 793) (tgt := 832) d_law_39 (by omega) (by omega) (by rw [e]; rfl) (by decide) (T_groupMemory hN hXs hb hL i0 w hx hI9 next)
      · exact x_tabIn (off := 849) (tgt := 888) d_law_39 (by omega) (by omega) (by rw [e]; rfl) (by decide) (T_groupProcesses hN hXs hb hL i0 w hx hI9 next)
      · exact x_tabIn (off := 905) (tgt := 944) d_law_39 (by omega) (by omega) (by rw [e]; rfl) (by decide) (T_run hN hXs hb hL i0 w hx hI9 next)
      · exact x_tabIn (off := 997) (tgt := 1036) d_law_39 (by omega) (by omega) (by rw [e]; rfl) (by decide) (T_pause hN hXs hb hL i0 w hx hI9 next)
      · exact x_tabIn (off := 1033) (tgt := 1072) d_law_39 (by omega) (by omega) (by rw [e]; rfl) (by decide) (T_resume hN hXs hb hL i0 w hx hI9 next)
      · exact x_tabIn (off := 1069) (tgt := 1108) d_law_39 (by omega) (by omega) (by rw [e]; rfl) (by decide) (T_stop hN hXs hb hL i0 w hx hI9 next)
      · exact x_tabIn (off := 1125) (tgt := 1164) d_law_39 (by omega) (by omega) (by rw [e]; rfl) (by decide) (T_allocate hN hXs hb hL i0 w hx hI9 next)
      · exact x_tabIn (off := 1193) (tgt := 1232) d_law_39 (by omega) (by omega) (by rw [e]; rfl) (by decide) (T_free hN hXs hb hL i0 w hx hI9 next)
      · exact x_tabIn (off := 1261) (tgt := 1300) d_law_39 (by omega) (by omega) (by rw [e]; rfl) (by decide) (T_fork hN hXs hb hL i0 w hx hI9 next)
      · exact x_tabIn (off := 1317) (tgt := 1356) d_law_39 (by omega) (by omega) (by rw [e]; rfl) (by decide) (T_exit hN hXs hb hL i0 w hx hI9 next)
      · exact x_tabIn (off := 1373) (tgt := 1412) d_law_39 (by omega) (by omega) (by rw [e]; rfl) (by decide) (T_schedule hN hXs hb hL i0 w hx hI9 next)
      · exact x_tabIn (off := 1429) (tgt := 1468) d_law_39 (by omega) (by omega) (by rw [e]; rfl) (by decide) (T_writeFile hN hXs hb hL i0 w hx hI9 next)
      · exact x_tabIn (off := 1509) (tgt := 1548) d_law_39 (by omega) (by omega) (by rw [e]; rfl) (by decide) (T_removeFile hN hXs hb hL i0 w hx hI9 next)
      · exact x_tabIn (off := 1577) (tgt := 1616) d_law_39 (by omega) (by omega) (by rw [e]; rfl) (by decide) (T_fileOf hN hXs hb hL i0 w hx hI9 next)
      · exact x_tabIn (off := 1645) (tgt := 1684) d_law_39 (by omega) (by omega) (by rw [e]; rfl) (by decide) (T_plainFileOf hN hXs hb hL i0 w hx hI9 next)
      · exact x_tabIn (off := 1713) (tgt := 1752) d_law_39 (by omega) (by omega) (by rw [e]; rfl) (by decide) (T_raise hN hXs hb hL i0 w hx hI9 next)
      · exact x_tabIn (off := 1781) (tgt := 1820) d_law_39 (by omega) (by omega) (by rw [e]; rfl) (by decide) (T_lower hN hXs hb hL i0 w hx hI9 next)
      · exact x_tabIn (off := 1849) (tgt := 1888) d_law_39 (by omega) (by omega) (by rw [e]; rfl) (by decide) (T_drop hN hXs hb hL i0 w hx hI9 next)
      · exact x_tabIn (off := 1917) (tgt := 1956) d_law_39 (by omega) (by omega) (by rw [e]; rfl) (by decide) (T_kill hN hXs hb hL i0 w hx hI9 next)
      · exact x_tabIn (off := 1985) (tgt := 2024) d_law_39 (by omega) (by omega) (by rw [e]; rfl) (by decide) (T_attach hN hXs hb hL i0 w hx hI9 next)
      · exact x_tabIn (off := 2053) (tgt := 2092) d_law_39 (by omega) (by omega) (by rw [e]; rfl) (by decide) (T_detach hN hXs hb hL i0 w hx hI9 next)
      · exact x_tabIn (off := 2109) (tgt := 2148) d_law_39 (by omega) (by omega) (by rw [e]; rfl) (by decide) (T_listen hN hXs hb hL i0 w hx hI9 next)
      · exact x_tabIn (off := 2177) (tgt := 2216) d_law_39 (by omega) (by omega) (by rw [e]; rfl) (by decide) (T_publish hN hXs hb hL i0 w hx hI9 next)
      · exact x_tabIn (off := 2257) (tgt := 2296) d_law_39 (by omega) (by omega) (by rw [e]; rfl) (by decide) (T_connect hN hXs hb hL i0 w hx hI9 next)
      · exact x_tabIn (off := 2337) (tgt := 2376) d_law_39 (by omega) (by omega) (by rw [e]; rfl) (by decide) (T_connectHost hN hXs hb hL i0 w hx hI9 next)
      · exact x_tabIn (off := 2393) (tgt := 2432) d_law_39 (by omega) (by omega) (by rw [e]; rfl) (by decide) (T_save hN hXs hb hL i0 w hx hI9 next)
      · exact x_tabIn (off := 2449) (tgt := 2488) d_law_39 (by omega) (by omega) (by rw [e]; rfl) (by decide) (T_restore hN hXs hb hL i0 w hx hI9 next)
      · exact x_tabIn (off := 2517) (tgt := 2556) d_law_39 (by omega) (by omega) (by rw [e]; rfl) (by decide) (T_containers hN hXs hb hL i0 w hx hI9 next)
      · exact x_tabIn (off := 2530) (tgt := 2569) d_law_39 (by omega) (by omega) (by rw [e]; rfl) (by decide) (T_stateOf hN hXs hb hL i0 w hx hI9 next)
      · exact x_tabIn (off := 2586) (tgt := 2625) d_law_39 (by omega) (by omega) (by rw [e]; rfl) (by decide) (T_memoryOf hN hXs hb hL i0 w hx hI9 next)
      · exact x_tabIn (off := 2642) (tgt := 2681) d_law_39 (by omega) (by omega) (by rw [e]; rfl) (by decide) (T_timeOf hN hXs hb hL i0 w hx hI9 next)
      · exact x_tabIn (off := 2698) (tgt := 2737) d_law_39 (by omega) (by omega) (by rw [e]; rfl) (by decide) (T_capabilitiesOf hN hXs hb hL i0 w hx hI9 next)
      · exact x_tabIn (off := 2754) (tgt := 2793) d_law_39 (by omega) (by omega) (by rw [e]; rfl) (by decide) (T_addressOf hN hXs hb hL i0 w hx hI9 next)
