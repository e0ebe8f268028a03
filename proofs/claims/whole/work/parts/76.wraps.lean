theorem t_L_newImage {g : xG} {K : hp} {ad : cA} {S : gS} {p : Int} {out : Nat} {o0 : Nat → Int64} (hN : ncOk g) (hI : Inv S) (hE : Ext S) (hp : R32 p) : ∀ h, cls g (hset K out (larr g 1 o0)) ad S h → xM g y_L_newImage k_L_newImage M_L_newImage [.ref (ad 0 0), .int (iI p), .ref out] h (LQ g K out ad S (cd_newImage S p) (vl_newImage S p) (st_newImage S p) o0) mN := by
  intro h hcl9
  have h0 := hE.h
  refine xM.ofH rfl (by decide) rfl rfl (by simp [Value.category]) (Nat.le_of_ble_eq_true rfl) rfl ?_
  refine x_aload_n d_L_newImage_0 rfl ?_
  refine x_iconst d_L_newImage_1 ?_
  refine x_aload_n d_L_newImage_2 rfl ?_
  refine x_iload_n d_L_newImage_3 rfl ?_
  refine x_callVC (rc' := 0) (rs' := 0) (r := (RX6, TX6, 7)) d_L_newImage_4 q_L_newImage_7 s_h_newImage v_h_newImage (t_h_newImage hI hE hp h hcl9) (hcl9.at 0 (by decide) h0) rfl rfl rfl rfl (Nat.le_of_ble_eq_true rfl) rfl rfl ?_ ?_
  · rintro E h' ⟨_, _, ⟨rfl, rfl, k, hk, hcd⟩, hc'⟩
    match k, hk, hcd with
    | 0, hk, hcd =>
      cases hk
      exact ⟨[], [(0, 9, 15, 15)], (0, 9, 12, 13), eIO, rfl, (fun z hz => by cases hz), rfl, by decide, w197, w209, fun q => x_astore_n d_L_newImage_12 (by decide) (x_iconst d_L_newImage_13 (x_iret rfl d_L_newImage_14 ⟨by rw [hcd]; rfl, _, _, _, hc', Or.inr ⟨by omega, rfl, rfl, rfl⟩⟩))⟩
    | 1, hk, hcd =>
      cases hk
      exact ⟨[(0, 9, 12, 13)], [], (0, 9, 15, 15), eIS, rfl, (fun z hz => by rcases List.mem_singleton.mp hz with rfl; exact ⟨by decide, eIO, w197, hN.1⟩), rfl, by decide, w198, w295, fun q => x_astore_n d_L_newImage_15 (by decide) (x_iconst d_L_newImage_16 (x_iret rfl d_L_newImage_17 ⟨by rw [hcd]; rfl, _, _, _, hc', Or.inr ⟨by omega, rfl, rfl, rfl⟩⟩))⟩
    | k + 2, hk, hcd => cases hk
  · rintro _ h' ⟨ad', S', ⟨hcd, rfl, hag, hE'⟩, hc'⟩
    refine x_i2l d_L_newImage_7 ?_
    refine x_last (n := 1) d_L_newImage_8 (hc'.2.2.1 out _ (hset_s _ _ _)) (by decide) (by decide) (by decide) ?_
    refine x_goto (tgt := 18) d_L_newImage_9 (by decide) ?_
    refine x_iconst d_L_newImage_18 ?_
    exact x_iret rfl d_L_newImage_19 ⟨by rw [hcd], ad', S', _, cls_up hc', Or.inl ⟨hcd, hag, hE', rfl⟩⟩
theorem t_L_write {g : xG} {K : hp} {ad : cA} {S : gS} {i f c : Int} {out : Nat} {o0 : Nat → Int64} (hN : ncOk g) (hI : Inv S) (hE : Ext S) (hi : R32 i) (hf : R32 f) (hc : R32 c) : ∀ h, cls g (hset K out (larr g 1 o0)) ad S h → xM g y_L_write k_L_write M_L_write [.ref (ad 0 0), .int (iI i), .int (iI f), .int (iI c), .ref out] h (LQ g K out ad S (cd_write S i f c) (vl_write S i f c) (st_write S i f c) o0) mN := by
  intro h hcl9
  have h0 := hE.h
  refine xM.ofH rfl (by decide) rfl rfl (by simp [Value.category]) (Nat.le_of_ble_eq_true rfl) rfl ?_
  refine x_aload d_L_write_0 rfl ?_
  refine x_iconst d_L_write_2 ?_
  refine x_aload_n d_L_write_3 rfl ?_
  refine x_iload_n d_L_write_4 rfl ?_
  refine x_iload_n d_L_write_5 rfl ?_
  refine x_iload_n d_L_write_6 rfl ?_
  refine x_callVC (rc' := 0) (rs' := 0) (r := (RX6, TX6, 7)) d_L_write_7 q_L_write_17 s_h_write v_h_write (t_h_write hI hE hi hf hc h hcl9) (hcl9.at 0 (by decide) h0) rfl rfl rfl rfl (Nat.le_of_ble_eq_true rfl) rfl rfl ?_ ?_
  · rintro E h' ⟨_, _, ⟨rfl, rfl, k, hk, hcd⟩, hc'⟩
    match k, hk, hcd with
    | 0, hk, hcd =>
      cases hk
      exact ⟨[], [(0, 12, 19, 21), (0, 12, 23, 15)], (0, 12, 15, 13), eIO, rfl, (fun z hz => by cases hz), rfl, by decide, w197, w209, fun q => x_astore d_L_write_15 (by decide) (x_iconst d_L_write_17 (x_iret rfl d_L_write_18 ⟨by rw [hcd]; rfl, _, _, _, hc', Or.inr ⟨by omega, rfl, rfl, rfl⟩⟩))⟩
    | 1, hk, hcd =>
      cases hk
      exact ⟨[(0, 12, 15, 13)], [(0, 12, 23, 15)], (0, 12, 19, 21), eIA, rfl, (fun z hz => by rcases List.mem_singleton.mp hz with rfl; exact ⟨by decide, eIO, w197, hN.2.1⟩), rfl, by decide, w356, w370, fun q => x_astore d_L_write_19 (by decide) (x_iconst d_L_write_21 (x_iret rfl d_L_write_22 ⟨by rw [hcd]; rfl, _, _, _, hc', Or.inr ⟨by omega, rfl, rfl, rfl⟩⟩))⟩
    | 2, hk, hcd =>
      cases hk
      exact ⟨[(0, 12, 15, 13), (0, 12, 19, 21)], [], (0, 12, 23, 15), eIS, rfl, (fun z hz => by rcases List.mem_cons.mp hz with rfl | hz; exact ⟨by decide, eIO, w197, hN.1⟩; rcases List.mem_singleton.mp hz with rfl; exact ⟨by decide, eIA, w356, hN.2.2⟩), rfl, by decide, w198, w295, fun q => x_astore d_L_write_23 (by decide) (x_iconst d_L_write_25 (x_iret rfl d_L_write_26 ⟨by rw [hcd]; rfl, _, _, _, hc', Or.inr ⟨by omega, rfl, rfl, rfl⟩⟩))⟩
    | k + 3, hk, hcd => cases hk
  · rintro _ h' ⟨ad', S', ⟨hcd, rfl, hag, hE'⟩, hc'⟩
    refine x_i2l d_L_write_10 ?_
    refine x_last (n := 1) d_L_write_11 (hc'.2.2.1 out _ (hset_s _ _ _)) (by decide) (by decide) (by decide) ?_
    refine x_goto (tgt := 27) d_L_write_12 (by decide) ?_
    refine x_iconst d_L_write_27 ?_
    exact x_iret rfl d_L_write_28 ⟨by rw [hcd], ad', S', _, cls_up hc', Or.inl ⟨hcd, hag, hE', rfl⟩⟩
theorem t_L_remove {g : xG} {K : hp} {ad : cA} {S : gS} {i f : Int} {out : Nat} {o0 : Nat → Int64} (hN : ncOk g) (hI : Inv S) (hE : Ext S) (hi : R32 i) (hf : R32 f) : ∀ h, cls g (hset K out (larr g 1 o0)) ad S h → xM g y_L_remove k_L_remove M_L_remove [.ref (ad 0 0), .int (iI i), .int (iI f), .ref out] h (LQ g K out ad S (cd_remove S i f) (vl_remove S i f) (st_remove S i f) o0) mN := by
  intro h hcl9
  have h0 := hE.h
  refine xM.ofH rfl (by decide) rfl rfl (by simp [Value.category]) (Nat.le_of_ble_eq_true rfl) rfl ?_
  refine x_aload_n d_L_remove_0 rfl ?_
  refine x_iconst d_L_remove_1 ?_
  refine x_aload_n d_L_remove_2 rfl ?_
  refine x_iload_n d_L_remove_3 rfl ?_
  refine x_iload_n d_L_remove_4 rfl ?_
  refine x_callVC (rc' := 0) (rs' := 0) (r := (RX6, TX6, 7)) d_L_remove_5 q_L_remove_23 s_h_remove v_h_remove (t_h_remove hI hE hi hf h hcl9) (hcl9.at 0 (by decide) h0) rfl rfl rfl rfl (Nat.le_of_ble_eq_true rfl) rfl rfl ?_ ?_
  · rintro E h' ⟨_, _, ⟨rfl, rfl, k, hk, hcd⟩, hc'⟩
    match k, hk, hcd with
    | 0, hk, hcd =>
      cases hk
      exact ⟨[], [(0, 10, 17, 15)], (0, 10, 13, 13), eIO, rfl, (fun z hz => by cases hz), rfl, by decide, w197, w209, fun q => x_astore d_L_remove_13 (by decide) (x_iconst d_L_remove_15 (x_iret rfl d_L_remove_16 ⟨by rw [hcd]; rfl, _, _, _, hc', Or.inr ⟨by omega, rfl, rfl, rfl⟩⟩))⟩
    | 1, hk, hcd =>
      cases hk
      exact ⟨[(0, 10, 13, 13)], [], (0, 10, 17, 15), eIS, rfl, (fun z hz => by rcases List.mem_singleton.mp hz with rfl; exact ⟨by decide, eIO, w197, hN.1⟩), rfl, by decide, w198, w295, fun q => x_astore d_L_remove_17 (by decide) (x_iconst d_L_remove_19 (x_iret rfl d_L_remove_20 ⟨by rw [hcd]; rfl, _, _, _, hc', Or.inr ⟨by omega, rfl, rfl, rfl⟩⟩))⟩
    | k + 2, hk, hcd => cases hk
  · rintro _ h' ⟨ad', S', ⟨hcd, rfl, hag, hE'⟩, hc'⟩
    refine x_i2l d_L_remove_8 ?_
    refine x_last (n := 1) d_L_remove_9 (hc'.2.2.1 out _ (hset_s _ _ _)) (by decide) (by decide) (by decide) ?_
    refine x_goto (tgt := 21) d_L_remove_10 (by decide) ?_
    refine x_iconst d_L_remove_21 ?_
    exact x_iret rfl d_L_remove_22 ⟨by rw [hcd], ad', S', _, cls_up hc', Or.inl ⟨hcd, hag, hE', rfl⟩⟩
theorem t_L_clear {g : xG} {K : hp} {ad : cA} {S : gS} {i d : Int} {out : Nat} {o0 : Nat → Int64} (hN : ncOk g) (hI : Inv S) (hE : Ext S) (hi : R32 i) (hd : R32 d) : ∀ h, cls g (hset K out (larr g 1 o0)) ad S h → xM g y_L_clear k_L_clear M_L_clear [.ref (ad 0 0), .int (iI i), .int (iI d), .ref out] h (LQ g K out ad S (cd_clear S i d) (vl_clear S i d) (st_clear S i d) o0) mN := by
  intro h hcl9
  have h0 := hE.h
  refine xM.ofH rfl (by decide) rfl rfl (by simp [Value.category]) (Nat.le_of_ble_eq_true rfl) rfl ?_
  refine x_aload_n d_L_clear_0 rfl ?_
  refine x_iconst d_L_clear_1 ?_
  refine x_aload_n d_L_clear_2 rfl ?_
  refine x_iload_n d_L_clear_3 rfl ?_
  refine x_iload_n d_L_clear_4 rfl ?_
  refine x_callVC (rc' := 0) (rs' := 0) (r := (RX6, TX6, 7)) d_L_clear_5 q_L_clear_27 s_h_clear v_h_clear (t_h_clear hI hE hi hd h hcl9) (hcl9.at 0 (by decide) h0) rfl rfl rfl rfl (Nat.le_of_ble_eq_true rfl) rfl rfl ?_ ?_
  · rintro E h' ⟨_, _, ⟨rfl, rfl, k, hk, hcd⟩, hc'⟩
    match k, hk, hcd with
    | 0, hk, hcd =>
      cases hk
      exact ⟨[], [(0, 10, 17, 15)], (0, 10, 13, 13), eIO, rfl, (fun z hz => by cases hz), rfl, by decide, w197, w209, fun q => x_astore d_L_clear_13 (by decide) (x_iconst d_L_clear_15 (x_iret rfl d_L_clear_16 ⟨by rw [hcd]; rfl, _, _, _, hc', Or.inr ⟨by omega, rfl, rfl, rfl⟩⟩))⟩
    | 1, hk, hcd =>
      cases hk
      exact ⟨[(0, 10, 13, 13)], [], (0, 10, 17, 15), eIS, rfl, (fun z hz => by rcases List.mem_singleton.mp hz with rfl; exact ⟨by decide, eIO, w197, hN.1⟩), rfl, by decide, w198, w295, fun q => x_astore d_L_clear_17 (by decide) (x_iconst d_L_clear_19 (x_iret rfl d_L_clear_20 ⟨by rw [hcd]; rfl, _, _, _, hc', Or.inr ⟨by omega, rfl, rfl, rfl⟩⟩))⟩
    | k + 2, hk, hcd => cases hk
  · rintro _ h' ⟨ad', S', ⟨hcd, rfl, hag, hE'⟩, hc'⟩
    refine x_i2l d_L_clear_8 ?_
    refine x_last (n := 1) d_L_clear_9 (hc'.2.2.1 out _ (hset_s _ _ _)) (by decide) (by decide) (by decide) ?_
    refine x_goto (tgt := 21) d_L_clear_10 (by decide) ?_
    refine x_iconst d_L_clear_21 ?_
    exact x_iret rfl d_L_clear_22 ⟨by rw [hcd], ad', S', _, cls_up hc', Or.inl ⟨hcd, hag, hE', rfl⟩⟩
theorem t_L_seal {g : xG} {K : hp} {ad : cA} {S : gS} {i : Int} {out : Nat} {o0 : Nat → Int64} (hN : ncOk g) (hI : Inv S) (hE : Ext S) (hi : R32 i) : ∀ h, cls g (hset K out (larr g 1 o0)) ad S h → xM g y_L_seal k_L_seal M_L_seal [.ref (ad 0 0), .int (iI i), .ref out] h (LQ g K out ad S (cd_seal S i) (vl_seal S i) (st_seal S i) o0) mN := by
  intro h hcl9
  have h0 := hE.h
  refine xM.ofH rfl (by decide) rfl rfl (by simp [Value.category]) (Nat.le_of_ble_eq_true rfl) rfl ?_
  refine x_aload_n d_L_seal_0 rfl ?_
  refine x_iconst d_L_seal_1 ?_
  refine x_aload_n d_L_seal_2 rfl ?_
  refine x_iload_n d_L_seal_3 rfl ?_
  refine x_callVC (rc' := 0) (rs' := 0) (r := (RX6, TX6, 7)) d_L_seal_4 q_L_seal_30 s_h_seal v_h_seal (t_h_seal hI hE hi h hcl9) (hcl9.at 0 (by decide) h0) rfl rfl rfl rfl (Nat.le_of_ble_eq_true rfl) rfl rfl ?_ ?_
  · rintro E h' ⟨_, _, ⟨rfl, rfl, k, hk, hcd⟩, hc'⟩
    match k, hk, hcd with
    | 0, hk, hcd =>
      cases hk
      exact ⟨[], [(0, 9, 15, 15)], (0, 9, 12, 13), eIO, rfl, (fun z hz => by cases hz), rfl, by decide, w197, w209, fun q => x_astore_n d_L_seal_12 (by decide) (x_iconst d_L_seal_13 (x_iret rfl d_L_seal_14 ⟨by rw [hcd]; rfl, _, _, _, hc', Or.inr ⟨by omega, rfl, rfl, rfl⟩⟩))⟩
    | 1, hk, hcd =>
      cases hk
      exact ⟨[(0, 9, 12, 13)], [], (0, 9, 15, 15), eIS, rfl, (fun z hz => by rcases List.mem_singleton.mp hz with rfl; exact ⟨by decide, eIO, w197, hN.1⟩), rfl, by decide, w198, w295, fun q => x_astore_n d_L_seal_15 (by decide) (x_iconst d_L_seal_16 (x_iret rfl d_L_seal_17 ⟨by rw [hcd]; rfl, _, _, _, hc', Or.inr ⟨by omega, rfl, rfl, rfl⟩⟩))⟩
    | k + 2, hk, hcd => cases hk
  · rintro _ h' ⟨ad', S', ⟨hcd, rfl, hag, hE'⟩, hc'⟩
    refine x_i2l d_L_seal_7 ?_
    refine x_last (n := 1) d_L_seal_8 (hc'.2.2.1 out _ (hset_s _ _ _)) (by decide) (by decide) (by decide) ?_
    refine x_goto (tgt := 18) d_L_seal_9 (by decide) ?_
    refine x_iconst d_L_seal_18 ?_
    exact x_iret rfl d_L_seal_19 ⟨by rw [hcd], ad', S', _, cls_up hc', Or.inl ⟨hcd, hag, hE', rfl⟩⟩
theorem t_L_shown {g : xG} {K : hp} {ad : cA} {S : gS} {i f : Int} {out : Nat} {o0 : Nat → Int64} (hN : ncOk g) (hI : Inv S) (hE : Ext S) (hi : R32 i) (hf : R32 f) : ∀ h, cls g (hset K out (larr g 1 o0)) ad S h → xM g y_L_shown k_L_shown M_L_shown [.ref (ad 0 0), .int (iI i), .int (iI f), .ref out] h (LQ g K out ad S (cd_shown S i f) (vl_shown S i f) (st_shown S i f) o0) mN := by
  intro h hcl9
  have h0 := hE.h
  refine xM.ofH rfl (by decide) rfl rfl (by simp [Value.category]) (Nat.le_of_ble_eq_true rfl) rfl ?_
  refine x_aload_n d_L_shown_0 rfl ?_
  refine x_iconst d_L_shown_1 ?_
  refine x_aload_n d_L_shown_2 rfl ?_
  refine x_iload_n d_L_shown_3 rfl ?_
  refine x_iload_n d_L_shown_4 rfl ?_
  refine x_callVC (rc' := 0) (rs' := 0) (r := (RX6, TX6, 7)) d_L_shown_5 q_L_shown_33 s_h_shown v_h_shown (t_h_shown hI hE hi hf h hcl9) (hcl9.at 0 (by decide) h0) rfl rfl rfl rfl (Nat.le_of_ble_eq_true rfl) rfl rfl ?_ ?_
  · rintro E h' ⟨_, _, ⟨rfl, rfl, k, hk, hcd⟩, hc'⟩
    match k, hk, hcd with
    | 0, hk, hcd =>
      cases hk
      exact ⟨[], [], (0, 10, 13, 13), eIO, rfl, (fun z hz => by cases hz), rfl, by decide, w197, w209, fun q => x_astore d_L_shown_13 (by decide) (x_iconst d_L_shown_15 (x_iret rfl d_L_shown_16 ⟨by rw [hcd]; rfl, _, _, _, hc', Or.inr ⟨by omega, rfl, rfl, rfl⟩⟩))⟩
    | k + 1, hk, hcd => cases hk
  · rintro _ h' ⟨ad', S', ⟨hcd, rfl, hag, hE'⟩, hc'⟩
    refine x_i2l d_L_shown_8 ?_
    refine x_last (n := 1) d_L_shown_9 (hc'.2.2.1 out _ (hset_s _ _ _)) (by decide) (by decide) (by decide) ?_
    refine x_goto (tgt := 17) d_L_shown_10 (by decide) ?_
    refine x_iconst d_L_shown_17 ?_
    exact x_iret rfl d_L_shown_18 ⟨by rw [hcd], ad', S', _, cls_up hc', Or.inl ⟨hcd, hag, hE', rfl⟩⟩
theorem t_L_entries {g : xG} {K : hp} {ad : cA} {S : gS} {i l : Int} {out : Nat} {o0 : Nat → Int64} (hN : ncOk g) (hI : Inv S) (hE : Ext S) (hi : R32 i) (hl : R32 l) : ∀ h, cls g (hset K out (larr g 1 o0)) ad S h → xM g y_L_entries k_L_entries M_L_entries [.ref (ad 0 0), .int (iI i), .int (iI l), .ref out] h (LQ g K out ad S (cd_entries S i l) (vl_entries S i l) (st_entries S i l) o0) mN := by
  intro h hcl9
  have h0 := hE.h
  refine xM.ofH rfl (by decide) rfl rfl (by simp [Value.category]) (Nat.le_of_ble_eq_true rfl) rfl ?_
  refine x_aload_n d_L_entries_0 rfl ?_
  refine x_iconst d_L_entries_1 ?_
  refine x_aload_n d_L_entries_2 rfl ?_
  refine x_iload_n d_L_entries_3 rfl ?_
  refine x_iload_n d_L_entries_4 rfl ?_
  refine x_callVC (rc' := 0) (rs' := 0) (r := (RX6, TX6, 7)) d_L_entries_5 q_L_entries_36 s_h_entries v_h_entries (t_h_entries hI hE hi hl h hcl9) (hcl9.at 0 (by decide) h0) rfl rfl rfl rfl (Nat.le_of_ble_eq_true rfl) rfl rfl ?_ ?_
  · rintro E h' ⟨_, _, ⟨rfl, rfl, k, hk, hcd⟩, hc'⟩
    match k, hk, hcd with
    | 0, hk, hcd =>
      cases hk
      exact ⟨[], [], (0, 10, 13, 13), eIO, rfl, (fun z hz => by cases hz), rfl, by decide, w197, w209, fun q => x_astore d_L_entries_13 (by decide) (x_iconst d_L_entries_15 (x_iret rfl d_L_entries_16 ⟨by rw [hcd]; rfl, _, _, _, hc', Or.inr ⟨by omega, rfl, rfl, rfl⟩⟩))⟩
    | k + 1, hk, hcd => cases hk
  · rintro _ h' ⟨ad', S', ⟨hcd, rfl, hag, hE'⟩, hc'⟩
    refine x_i2l d_L_entries_8 ?_
    refine x_last (n := 1) d_L_entries_9 (hc'.2.2.1 out _ (hset_s _ _ _)) (by decide) (by decide) (by decide) ?_
    refine x_goto (tgt := 17) d_L_entries_10 (by decide) ?_
    refine x_iconst d_L_entries_17 ?_
    exact x_iret rfl d_L_entries_18 ⟨by rw [hcd], ad', S', _, cls_up hc', Or.inl ⟨hcd, hag, hE', rfl⟩⟩
theorem t_L_commit {g : xG} {K : hp} {ad : cA} {S : gS} {c : Int} {out : Nat} {o0 : Nat → Int64} (hN : ncOk g) (hI : Inv S) (hE : Ext S) (hc : R32 c) : ∀ h, cls g (hset K out (larr g 1 o0)) ad S h → xM g y_L_commit k_L_commit M_L_commit [.ref (ad 0 0), .int (iI c), .ref out] h (LQ g K out ad S (cd_commit S c) (vl_commit S c) (st_commit S c) o0) mN := by
  intro h hcl9
  have h0 := hE.h
  refine xM.ofH rfl (by decide) rfl rfl (by simp [Value.category]) (Nat.le_of_ble_eq_true rfl) rfl ?_
  refine x_aload_n d_L_commit_0 rfl ?_
  refine x_iconst d_L_commit_1 ?_
  refine x_aload_n d_L_commit_2 rfl ?_
  refine x_iload_n d_L_commit_3 rfl ?_
  refine x_callVC (rc' := 0) (rs' := 0) (r := (RX6, TX6, 7)) d_L_commit_4 q_L_commit_39 s_h_commit v_h_commit (t_h_commit hI hE hc h hcl9) (hcl9.at 0 (by decide) h0) rfl rfl rfl rfl (Nat.le_of_ble_eq_true rfl) rfl rfl ?_ ?_
  · rintro E h' ⟨_, _, ⟨rfl, rfl, k, hk, hcd⟩, hc'⟩
    match k, hk, hcd with
    | 0, hk, hcd =>
      cases hk
      exact ⟨[], [(0, 9, 15, 15)], (0, 9, 12, 13), eIO, rfl, (fun z hz => by cases hz), rfl, by decide, w197, w209, fun q => x_astore_n d_L_commit_12 (by decide) (x_iconst d_L_commit_13 (x_iret rfl d_L_commit_14 ⟨by rw [hcd]; rfl, _, _, _, hc', Or.inr ⟨by omega, rfl, rfl, rfl⟩⟩))⟩
    | 1, hk, hcd =>
      cases hk
      exact ⟨[(0, 9, 12, 13)], [], (0, 9, 15, 15), eIS, rfl, (fun z hz => by rcases List.mem_singleton.mp hz with rfl; exact ⟨by decide, eIO, w197, hN.1⟩), rfl, by decide, w198, w295, fun q => x_astore_n d_L_commit_15 (by decide) (x_iconst d_L_commit_16 (x_iret rfl d_L_commit_17 ⟨by rw [hcd]; rfl, _, _, _, hc', Or.inr ⟨by omega, rfl, rfl, rfl⟩⟩))⟩
    | k + 2, hk, hcd => cases hk
  · rintro _ h' ⟨ad', S', ⟨hcd, rfl, hag, hE'⟩, hc'⟩
    refine x_i2l d_L_commit_7 ?_
    refine x_last (n := 1) d_L_commit_8 (hc'.2.2.1 out _ (hset_s _ _ _)) (by decide) (by decide) (by decide) ?_
    refine x_goto (tgt := 18) d_L_commit_9 (by decide) ?_
    refine x_iconst d_L_commit_18 ?_
    exact x_iret rfl d_L_commit_19 ⟨by rw [hcd], ad', S', _, cls_up hc', Or.inl ⟨hcd, hag, hE', rfl⟩⟩
theorem t_L_newGroup {g : xG} {K : hp} {ad : cA} {S : gS} {p m r s : Int} {out : Nat} {o0 : Nat → Int64} (hN : ncOk g) (hI : Inv S) (hE : Ext S) (hp : R32 p) (hm : R32 m) (hr : R32 r) (hs : R32 s) : ∀ h, cls g (hset K out (larr g 1 o0)) ad S h → xM g y_L_newGroup k_L_newGroup M_L_newGroup [.ref (ad 0 0), .int (iI p), .int (iI m), .int (iI r), .int (iI s), .ref out] h (LQ g K out ad S (cd_newGroup S p m r s) (vl_newGroup S p m r s) (st_newGroup S p m r s) o0) mN := by
  intro h hcl9
  have h0 := hE.h
  refine xM.ofH rfl (by decide) rfl rfl (by simp [Value.category]) (Nat.le_of_ble_eq_true rfl) rfl ?_
  refine x_aload d_L_newGroup_0 rfl ?_
  refine x_iconst d_L_newGroup_2 ?_
  refine x_aload_n d_L_newGroup_3 rfl ?_
  refine x_iload_n d_L_newGroup_4 rfl ?_
  refine x_iload_n d_L_newGroup_5 rfl ?_
  refine x_iload_n d_L_newGroup_6 rfl ?_
  refine x_iload d_L_newGroup_7 rfl ?_
  refine x_callVC (rc' := 0) (rs' := 0) (r := (RX6, TX6, 7)) d_L_newGroup_9 q_L_newGroup_42 s_h_newGroup v_h_newGroup (t_h_newGroup hI hE hp hm hr hs h hcl9) (hcl9.at 0 (by decide) h0) rfl rfl rfl rfl (Nat.le_of_ble_eq_true rfl) rfl rfl ?_ ?_
  · rintro E h' ⟨_, _, ⟨rfl, rfl, k, hk, hcd⟩, hc'⟩
    match k, hk, hcd with
    | 0, hk, hcd =>
      cases hk
      exact ⟨[], [(0, 14, 21, 21), (0, 14, 25, 15)], (0, 14, 17, 13), eIO, rfl, (fun z hz => by cases hz), rfl, by decide, w197, w209, fun q => x_astore d_L_newGroup_17 (by decide) (x_iconst d_L_newGroup_19 (x_iret rfl d_L_newGroup_20 ⟨by rw [hcd]; rfl, _, _, _, hc', Or.inr ⟨by omega, rfl, rfl, rfl⟩⟩))⟩
    | 1, hk, hcd =>
      cases hk
      exact ⟨[(0, 14, 17, 13)], [(0, 14, 25, 15)], (0, 14, 21, 21), eIA, rfl, (fun z hz => by rcases List.mem_singleton.mp hz with rfl; exact ⟨by decide, eIO, w197, hN.2.1⟩), rfl, by decide, w356, w370, fun q => x_astore d_L_newGroup_21 (by decide) (x_iconst d_L_newGroup_23 (x_iret rfl d_L_newGroup_24 ⟨by rw [hcd]; rfl, _, _, _, hc', Or.inr ⟨by omega, rfl, rfl, rfl⟩⟩))⟩
    | 2, hk, hcd =>
      cases hk
      exact ⟨[(0, 14, 17, 13), (0, 14, 21, 21)], [], (0, 14, 25, 15), eIS, rfl, (fun z hz => by rcases List.mem_cons.mp hz with rfl | hz; exact ⟨by decide, eIO, w197, hN.1⟩; rcases List.mem_singleton.mp hz with rfl; exact ⟨by decide, eIA, w356, hN.2.2⟩), rfl, by decide, w198, w295, fun q => x_astore d_L_newGroup_25 (by decide) (x_iconst d_L_newGroup_27 (x_iret rfl d_L_newGroup_28 ⟨by rw [hcd]; rfl, _, _, _, hc', Or.inr ⟨by omega, rfl, rfl, rfl⟩⟩))⟩
    | k + 3, hk, hcd => cases hk
  · rintro _ h' ⟨ad', S', ⟨hcd, rfl, hag, hE'⟩, hc'⟩
    refine x_i2l d_L_newGroup_12 ?_
    refine x_last (n := 1) d_L_newGroup_13 (hc'.2.2.1 out _ (hset_s _ _ _)) (by decide) (by decide) (by decide) ?_
    refine x_goto (tgt := 29) d_L_newGroup_14 (by decide) ?_
    refine x_iconst d_L_newGroup_29 ?_
    exact x_iret rfl d_L_newGroup_30 ⟨by rw [hcd], ad', S', _, cls_up hc', Or.inl ⟨hcd, hag, hE', rfl⟩⟩
theorem t_L_groupMemory {g : xG} {K : hp} {ad : cA} {S : gS} {a : Int} {out : Nat} {o0 : Nat → Int64} (hN : ncOk g) (hI : Inv S) (hE : Ext S) (ha : R32 a) : ∀ h, cls g (hset K out (larr g 1 o0)) ad S h → xM g y_L_groupMemory k_L_groupMemory M_L_groupMemory [.ref (ad 0 0), .int (iI a), .ref out] h (LQ g K out ad S (cd_groupMemory S a) (vl_groupMemory S a) (st_groupMemory S a) o0) mN := by
  intro h hcl9
  have h0 := hE.h
  refine xM.ofH rfl (by decide) rfl rfl (by simp [Value.category]) (Nat.le_of_ble_eq_true rfl) rfl ?_
  refine x_aload_n d_L_groupMemory_0 rfl ?_
  refine x_iconst d_L_groupMemory_1 ?_
  refine x_aload_n d_L_groupMemory_2 rfl ?_
  refine x_iload_n d_L_groupMemory_3 rfl ?_
  refine x_callVC (rc' := 0) (rs' := 0) (r := (RX6, TX6, 7)) d_L_groupMemory_4 q_L_groupMemory_46 s_h_groupMemory v_h_groupMemory (t_h_groupMemory hI hE ha h hcl9) (hcl9.at 0 (by decide) h0) rfl rfl rfl rfl (Nat.le_of_ble_eq_true rfl) rfl rfl ?_ ?_
  · rintro E h' ⟨_, _, ⟨rfl, rfl, k, hk, hcd⟩, hc'⟩
    match k, hk, hcd with
    | 0, hk, hcd =>
      cases hk
      exact ⟨[], [], (0, 9, 12, 13), eIO, rfl, (fun z hz => by cases hz), rfl, by decide, w197, w209, fun q => x_astore_n d_L_groupMemory_12 (by decide) (x_iconst d_L_groupMemory_13 (x_iret rfl d_L_groupMemory_14 ⟨by rw [hcd]; rfl, _, _, _, hc', Or.inr ⟨by omega, rfl, rfl, rfl⟩⟩))⟩
    | k + 1, hk, hcd => cases hk
  · rintro _ h' ⟨ad', S', ⟨hcd, rfl, hag, hE'⟩, hc'⟩
    refine x_i2l d_L_groupMemory_7 ?_
    refine x_last (n := 1) d_L_groupMemory_8 (hc'.2.2.1 out _ (hset_s _ _ _)) (by decide) (by decide) (by decide) ?_
    refine x_goto (tgt := 15) d_L_groupMemory_9 (by decide) ?_
    refine x_iconst d_L_groupMemory_15 ?_
    exact x_iret rfl d_L_groupMemory_16 ⟨by rw [hcd], ad', S', _, cls_up hc', Or.inl ⟨hcd, hag, hE', rfl⟩⟩
theorem t_L_groupProcesses {g : xG} {K : hp} {ad : cA} {S : gS} {a : Int} {out : Nat} {o0 : Nat → Int64} (hN : ncOk g) (hI : Inv S) (hE : Ext S) (ha : R32 a) : ∀ h, cls g (hset K out (larr g 1 o0)) ad S h → xM g y_L_groupProcesses k_L_groupProcesses M_L_groupProcesses [.ref (ad 0 0), .int (iI a), .ref out] h (LQ g K out ad S (cd_groupProcesses S a) (vl_groupProcesses S a) (st_groupProcesses S a) o0) mN := by
  intro h hcl9
  have h0 := hE.h
  refine xM.ofH rfl (by decide) rfl rfl (by simp [Value.category]) (Nat.le_of_ble_eq_true rfl) rfl ?_
  refine x_aload_n d_L_groupProcesses_0 rfl ?_
  refine x_iconst d_L_groupProcesses_1 ?_
  refine x_aload_n d_L_groupProcesses_2 rfl ?_
  refine x_iload_n d_L_groupProcesses_3 rfl ?_
  refine x_callVC (rc' := 0) (rs' := 0) (r := (RX6, TX6, 7)) d_L_groupProcesses_4 q_L_groupProcesses_49 s_h_groupProcesses v_h_groupProcesses (t_h_groupProcesses hI hE ha h hcl9) (hcl9.at 0 (by decide) h0) rfl rfl rfl rfl (Nat.le_of_ble_eq_true rfl) rfl rfl ?_ ?_
  · rintro E h' ⟨_, _, ⟨rfl, rfl, k, hk, hcd⟩, hc'⟩
    match k, hk, hcd with
    | 0, hk, hcd =>
      cases hk
      exact ⟨[], [], (0, 9, 12, 13), eIO, rfl, (fun z hz => by cases hz), rfl, by decide, w197, w209, fun q => x_astore_n d_L_groupProcesses_12 (by decide) (x_iconst d_L_groupProcesses_13 (x_iret rfl d_L_groupProcesses_14 ⟨by rw [hcd]; rfl, _, _, _, hc', Or.inr ⟨by omega, rfl, rfl, rfl⟩⟩))⟩
    | k + 1, hk, hcd => cases hk
  · rintro _ h' ⟨ad', S', ⟨hcd, rfl, hag, hE'⟩, hc'⟩
    refine x_i2l d_L_groupProcesses_7 ?_
    refine x_last (n := 1) d_L_groupProcesses_8 (hc'.2.2.1 out _ (hset_s _ _ _)) (by decide) (by decide) (by decide) ?_
    refine x_goto (tgt := 15) d_L_groupProcesses_9 (by decide) ?_
    refine x_iconst d_L_groupProcesses_15 ?_
    exact x_iret rfl d_L_groupProcesses_16 ⟨by rw [hcd], ad', S', _, cls_up hc', Or.inl ⟨hcd, hag, hE', rfl⟩⟩
theorem t_L_run {g : xG} {K : hp} {ad : cA} {S : gS} {i w p s : Int} {out : Nat} {o0 : Nat → Int64} (hN : ncOk g) (hI : Inv S) (hE : Ext S) (hi : R32 i) (hw : R32 w) (hp : R32 p) (hs : R32 s) : ∀ h, cls g (hset K out (larr g 1 o0)) ad S h → xM g y_L_run k_L_run M_L_run [.ref (ad 0 0), .int (iI i), .int (iI w), .int (iI p), .int (iI s), .ref out] h (LQ g K out ad S (cd_run S i w p s) (vl_run S i w p s) (st_run S i w p s) o0) mN := by
  intro h hcl9
  have h0 := hE.h
  refine xM.ofH rfl (by decide) rfl rfl (by simp [Value.category]) (Nat.le_of_ble_eq_true rfl) rfl ?_
  refine x_aload d_L_run_0 rfl ?_
  refine x_iconst d_L_run_2 ?_
  refine x_aload_n d_L_run_3 rfl ?_
  refine x_iload_n d_L_run_4 rfl ?_
  refine x_iload_n d_L_run_5 rfl ?_
  refine x_iload_n d_L_run_6 rfl ?_
  refine x_iload d_L_run_7 rfl ?_
  refine x_callVC (rc' := 0) (rs' := 0) (r := (RX6, TX6, 7)) d_L_run_9 q_L_run_52 s_h_run v_h_run (t_h_run hI hE hi hw hp hs h hcl9) (hcl9.at 0 (by decide) h0) rfl rfl rfl rfl (Nat.le_of_ble_eq_true rfl) rfl rfl ?_ ?_
  · rintro E h' ⟨_, _, ⟨rfl, rfl, k, hk, hcd⟩, hc'⟩
    match k, hk, hcd with
    | 0, hk, hcd =>
      cases hk
      exact ⟨[], [(0, 14, 21, 21), (0, 14, 25, 15)], (0, 14, 17, 13), eIO, rfl, (fun z hz => by cases hz), rfl, by decide, w197, w209, fun q => x_astore d_L_run_17 (by decide) (x_iconst d_L_run_19 (x_iret rfl d_L_run_20 ⟨by rw [hcd]; rfl, _, _, _, hc', Or.inr ⟨by omega, rfl, rfl, rfl⟩⟩))⟩
    | 1, hk, hcd =>
      cases hk
      exact ⟨[(0, 14, 17, 13)], [(0, 14, 25, 15)], (0, 14, 21, 21), eIA, rfl, (fun z hz => by rcases List.mem_singleton.mp hz with rfl; exact ⟨by decide, eIO, w197, hN.2.1⟩), rfl, by decide, w356, w370, fun q => x_astore d_L_run_21 (by decide) (x_iconst d_L_run_23 (x_iret rfl d_L_run_24 ⟨by rw [hcd]; rfl, _, _, _, hc', Or.inr ⟨by omega, rfl, rfl, rfl⟩⟩))⟩
    | 2, hk, hcd =>
      cases hk
      exact ⟨[(0, 14, 17, 13), (0, 14, 21, 21)], [], (0, 14, 25, 15), eIS, rfl, (fun z hz => by rcases List.mem_cons.mp hz with rfl | hz; exact ⟨by decide, eIO, w197, hN.1⟩; rcases List.mem_singleton.mp hz with rfl; exact ⟨by decide, eIA, w356, hN.2.2⟩), rfl, by decide, w198, w295, fun q => x_astore d_L_run_25 (by decide) (x_iconst d_L_run_27 (x_iret rfl d_L_run_28 ⟨by rw [hcd]; rfl, _, _, _, hc', Or.inr ⟨by omega, rfl, rfl, rfl⟩⟩))⟩
    | k + 3, hk, hcd => cases hk
  · rintro _ h' ⟨ad', S', ⟨hcd, rfl, hag, hE'⟩, hc'⟩
    refine x_i2l d_L_run_12 ?_
    refine x_last (n := 1) d_L_run_13 (hc'.2.2.1 out _ (hset_s _ _ _)) (by decide) (by decide) (by decide) ?_
    refine x_goto (tgt := 29) d_L_run_14 (by decide) ?_
    refine x_iconst d_L_run_29 ?_
    exact x_iret rfl d_L_run_30 ⟨by rw [hcd], ad', S', _, cls_up hc', Or.inl ⟨hcd, hag, hE', rfl⟩⟩
theorem t_L_pause {g : xG} {K : hp} {ad : cA} {S : gS} {c : Int} (hN : ncOk g) (hI : Inv S) (hE : Ext S) (hc : R32 c) : ∀ h, cls g K ad S h → xM g y_L_pause k_L_pause M_L_pause [.ref (ad 0 0), .int (iI c)] h (LQV g K ad S (cd_pause S c) (st_pause S c)) mN := by
  intro h hcl9
  have h0 := hE.h
  refine xM.ofH rfl (by decide) rfl rfl (by simp [Value.category]) (Nat.le_of_ble_eq_true rfl) rfl ?_
  refine x_aload_n d_L_pause_0 rfl ?_
  refine x_iload_n d_L_pause_1 rfl ?_
  refine x_callVC (rc' := 0) (rs' := 0) (r := (RX6, TX6, 7)) d_L_pause_2 q_L_pause_55 s_h_pause v_h_pause (t_h_pause hI hE hc h hcl9) (hcl9.at 0 (by decide) h0) rfl rfl rfl rfl (Nat.le_of_ble_eq_true rfl) rfl rfl ?_ ?_
  · rintro E h' ⟨_, _, ⟨rfl, rfl, k, hk, hcd⟩, hc'⟩
    match k, hk, hcd with
    | 0, hk, hcd =>
      cases hk
      exact ⟨[], [(0, 5, 11, 15)], (0, 5, 8, 13), eIO, rfl, (fun z hz => by cases hz), rfl, by decide, w197, w209, fun q => x_astore_n d_L_pause_8 (by decide) (x_iconst d_L_pause_9 (x_iret rfl d_L_pause_10 ⟨by rw [hcd]; rfl, _, _, hc', Or.inr ⟨by omega, rfl, rfl⟩⟩))⟩
    | 1, hk, hcd =>
      cases hk
      exact ⟨[(0, 5, 8, 13)], [], (0, 5, 11, 15), eIS, rfl, (fun z hz => by rcases List.mem_singleton.mp hz with rfl; exact ⟨by decide, eIO, w197, hN.1⟩), rfl, by decide, w198, w295, fun q => x_astore_n d_L_pause_11 (by decide) (x_iconst d_L_pause_12 (x_iret rfl d_L_pause_13 ⟨by rw [hcd]; rfl, _, _, hc', Or.inr ⟨by omega, rfl, rfl⟩⟩))⟩
    | k + 2, hk, hcd => cases hk
  · rintro _ h' ⟨ad', S', ⟨hcd, rfl, hag, hE'⟩, hc'⟩
    refine x_goto (tgt := 14) d_L_pause_5 (by decide) ?_
    refine x_iconst d_L_pause_14 ?_
    exact x_iret rfl d_L_pause_15 ⟨by rw [hcd], ad', S', hc', Or.inl ⟨hcd, hag, hE'⟩⟩
theorem t_L_resume {g : xG} {K : hp} {ad : cA} {S : gS} {c : Int} (hN : ncOk g) (hI : Inv S) (hE : Ext S) (hc : R32 c) : ∀ h, cls g K ad S h → xM g y_L_resume k_L_resume M_L_resume [.ref (ad 0 0), .int (iI c)] h (LQV g K ad S (cd_resume S c) (st_resume S c)) mN := by
  intro h hcl9
  have h0 := hE.h
  refine xM.ofH rfl (by decide) rfl rfl (by simp [Value.category]) (Nat.le_of_ble_eq_true rfl) rfl ?_
  refine x_aload_n d_L_resume_0 rfl ?_
  refine x_iload_n d_L_resume_1 rfl ?_
  refine x_callVC (rc' := 0) (rs' := 0) (r := (RX6, TX6, 7)) d_L_resume_2 q_L_resume_59 s_h_resume v_h_resume (t_h_resume hI hE hc h hcl9) (hcl9.at 0 (by decide) h0) rfl rfl rfl rfl (Nat.le_of_ble_eq_true rfl) rfl rfl ?_ ?_
  · rintro E h' ⟨_, _, ⟨rfl, rfl, k, hk, hcd⟩, hc'⟩
    match k, hk, hcd with
    | 0, hk, hcd =>
      cases hk
      exact ⟨[], [(0, 5, 11, 15)], (0, 5, 8, 13), eIO, rfl, (fun z hz => by cases hz), rfl, by decide, w197, w209, fun q => x_astore_n d_L_resume_8 (by decide) (x_iconst d_L_resume_9 (x_iret rfl d_L_resume_10 ⟨by rw [hcd]; rfl, _, _, hc', Or.inr ⟨by omega, rfl, rfl⟩⟩))⟩
    | 1, hk, hcd =>
      cases hk
      exact ⟨[(0, 5, 8, 13)], [], (0, 5, 11, 15), eIS, rfl, (fun z hz => by rcases List.mem_singleton.mp hz with rfl; exact ⟨by decide, eIO, w197, hN.1⟩), rfl, by decide, w198, w295, fun q => x_astore_n d_L_resume_11 (by decide) (x_iconst d_L_resume_12 (x_iret rfl d_L_resume_13 ⟨by rw [hcd]; rfl, _, _, hc', Or.inr ⟨by omega, rfl, rfl⟩⟩))⟩
    | k + 2, hk, hcd => cases hk
  · rintro _ h' ⟨ad', S', ⟨hcd, rfl, hag, hE'⟩, hc'⟩
    refine x_goto (tgt := 14) d_L_resume_5 (by decide) ?_
    refine x_iconst d_L_resume_14 ?_
    exact x_iret rfl d_L_resume_15 ⟨by rw [hcd], ad', S', hc', Or.inl ⟨hcd, hag, hE'⟩⟩
theorem t_L_stop {g : xG} {K : hp} {ad : cA} {S : gS} {c : Int} {out : Nat} {o0 : Nat → Int64} (hN : ncOk g) (hI : Inv S) (hE : Ext S) (hc : R32 c) : ∀ h, cls g (hset K out (larr g 1 o0)) ad S h → xM g y_L_stop k_L_stop M_L_stop [.ref (ad 0 0), .int (iI c), .ref out] h (LQ g K out ad S (cd_stop S c) (vl_stop S c) (st_stop S c) o0) mN := by
  intro h hcl9
  have h0 := hE.h
  refine xM.ofH rfl (by decide) rfl rfl (by simp [Value.category]) (Nat.le_of_ble_eq_true rfl) rfl ?_
  refine x_aload_n d_L_stop_0 rfl ?_
  refine x_iconst d_L_stop_1 ?_
  refine x_aload_n d_L_stop_2 rfl ?_
  refine x_iload_n d_L_stop_3 rfl ?_
  refine x_callVC (rc' := 0) (rs' := 0) (r := (RX6, TX6, 7)) d_L_stop_4 q_L_stop_62 s_h_stop v_h_stop (t_h_stop hI hE hc h hcl9) (hcl9.at 0 (by decide) h0) rfl rfl rfl rfl (Nat.le_of_ble_eq_true rfl) rfl rfl ?_ ?_
  · rintro E h' ⟨_, _, ⟨rfl, rfl, k, hk, hcd⟩, hc'⟩
    match k, hk, hcd with
    | 0, hk, hcd =>
      cases hk
      exact ⟨[], [(0, 9, 15, 15)], (0, 9, 12, 13), eIO, rfl, (fun z hz => by cases hz), rfl, by decide, w197, w209, fun q => x_astore_n d_L_stop_12 (by decide) (x_iconst d_L_stop_13 (x_iret rfl d_L_stop_14 ⟨by rw [hcd]; rfl, _, _, _, hc', Or.inr ⟨by omega, rfl, rfl, rfl⟩⟩))⟩
    | 1, hk, hcd =>
      cases hk
      exact ⟨[(0, 9, 12, 13)], [], (0, 9, 15, 15), eIS, rfl, (fun z hz => by rcases List.mem_singleton.mp hz with rfl; exact ⟨by decide, eIO, w197, hN.1⟩), rfl, by decide, w198, w295, fun q => x_astore_n d_L_stop_15 (by decide) (x_iconst d_L_stop_16 (x_iret rfl d_L_stop_17 ⟨by rw [hcd]; rfl, _, _, _, hc', Or.inr ⟨by omega, rfl, rfl, rfl⟩⟩))⟩
    | k + 2, hk, hcd => cases hk
  · rintro _ h' ⟨ad', S', ⟨hcd, rfl, hag, hE'⟩, hc'⟩
    refine x_i2l d_L_stop_7 ?_
    refine x_last (n := 1) d_L_stop_8 (hc'.2.2.1 out _ (hset_s _ _ _)) (by decide) (by decide) (by decide) ?_
    refine x_goto (tgt := 18) d_L_stop_9 (by decide) ?_
    refine x_iconst d_L_stop_18 ?_
    exact x_iret rfl d_L_stop_19 ⟨by rw [hcd], ad', S', _, cls_up hc', Or.inl ⟨hcd, hag, hE', rfl⟩⟩
theorem t_L_allocate {g : xG} {K : hp} {ad : cA} {S : gS} {c u : Int} {out : Nat} {o0 : Nat → Int64} (hN : ncOk g) (hI : Inv S) (hE : Ext S) (hc : R32 c) (hu : R32 u) (hX9 : InvX S) : ∀ h, cls g (hset K out (larr g 1 o0)) ad S h → xM g y_L_allocate k_L_allocate M_L_allocate [.ref (ad 0 0), .int (iI c), .int (iI u), .ref out] h (LQ g K out ad S (cd_allocate S c u) (vl_allocate S c u) (st_allocate S c u) o0) mN := by
  intro h hcl9
  have h0 := hE.h
  refine xM.ofH rfl (by decide) rfl rfl (by simp [Value.category]) (Nat.le_of_ble_eq_true rfl) rfl ?_
  refine x_aload_n d_L_allocate_0 rfl ?_
  refine x_iconst d_L_allocate_1 ?_
  refine x_aload_n d_L_allocate_2 rfl ?_
  refine x_iload_n d_L_allocate_3 rfl ?_
  refine x_iload_n d_L_allocate_4 rfl ?_
  refine x_callVC (rc' := 0) (rs' := 0) (r := (RX6, TX6, 7)) d_L_allocate_5 q_L_allocate_65 s_h_allocate v_h_allocate (t_h_allocate hI hE hc hu hX9 h hcl9) (hcl9.at 0 (by decide) h0) rfl rfl rfl rfl (Nat.le_of_ble_eq_true rfl) rfl rfl ?_ ?_
  · rintro E h' ⟨_, _, ⟨rfl, rfl, k, hk, hcd⟩, hc'⟩
    match k, hk, hcd with
    | 0, hk, hcd =>
      cases hk
      exact ⟨[], [(0, 10, 17, 21), (0, 10, 21, 15)], (0, 10, 13, 13), eIO, rfl, (fun z hz => by cases hz), rfl, by decide, w197, w209, fun q => x_astore d_L_allocate_13 (by decide) (x_iconst d_L_allocate_15 (x_iret rfl d_L_allocate_16 ⟨by rw [hcd]; rfl, _, _, _, hc', Or.inr ⟨by omega, rfl, rfl, rfl⟩⟩))⟩
    | 1, hk, hcd =>
      cases hk
      exact ⟨[(0, 10, 13, 13)], [(0, 10, 21, 15)], (0, 10, 17, 21), eIA, rfl, (fun z hz => by rcases List.mem_singleton.mp hz with rfl; exact ⟨by decide, eIO, w197, hN.2.1⟩), rfl, by decide, w356, w370, fun q => x_astore d_L_allocate_17 (by decide) (x_iconst d_L_allocate_19 (x_iret rfl d_L_allocate_20 ⟨by rw [hcd]; rfl, _, _, _, hc', Or.inr ⟨by omega, rfl, rfl, rfl⟩⟩))⟩
    | 2, hk, hcd =>
      cases hk
      exact ⟨[(0, 10, 13, 13), (0, 10, 17, 21)], [], (0, 10, 21, 15), eIS, rfl, (fun z hz => by rcases List.mem_cons.mp hz with rfl | hz; exact ⟨by decide, eIO, w197, hN.1⟩; rcases List.mem_singleton.mp hz with rfl; exact ⟨by decide, eIA, w356, hN.2.2⟩), rfl, by decide, w198, w295, fun q => x_astore d_L_allocate_21 (by decide) (x_iconst d_L_allocate_23 (x_iret rfl d_L_allocate_24 ⟨by rw [hcd]; rfl, _, _, _, hc', Or.inr ⟨by omega, rfl, rfl, rfl⟩⟩))⟩
    | k + 3, hk, hcd => cases hk
  · rintro _ h' ⟨ad', S', ⟨hcd, rfl, hag, hE'⟩, hc'⟩
    refine x_i2l d_L_allocate_8 ?_
    refine x_last (n := 1) d_L_allocate_9 (hc'.2.2.1 out _ (hset_s _ _ _)) (by decide) (by decide) (by decide) ?_
    refine x_goto (tgt := 25) d_L_allocate_10 (by decide) ?_
    refine x_iconst d_L_allocate_25 ?_
    exact x_iret rfl d_L_allocate_26 ⟨by rw [hcd], ad', S', _, cls_up hc', Or.inl ⟨hcd, hag, hE', rfl⟩⟩
theorem t_L_free {g : xG} {K : hp} {ad : cA} {S : gS} {c u : Int} {out : Nat} {o0 : Nat → Int64} (hN : ncOk g) (hI : Inv S) (hE : Ext S) (hc : R32 c) (hu : R32 u) : ∀ h, cls g (hset K out (larr g 1 o0)) ad S h → xM g y_L_free k_L_free M_L_free [.ref (ad 0 0), .int (iI c), .int (iI u), .ref out] h (LQ g K out ad S (cd_free S c u) (vl_free S c u) (st_free S c u) o0) mN := by
  intro h hcl9
  have h0 := hE.h
  refine xM.ofH rfl (by decide) rfl rfl (by simp [Value.category]) (Nat.le_of_ble_eq_true rfl) rfl ?_
  refine x_aload_n d_L_free_0 rfl ?_
  refine x_iconst d_L_free_1 ?_
  refine x_aload_n d_L_free_2 rfl ?_
  refine x_iload_n d_L_free_3 rfl ?_
  refine x_iload_n d_L_free_4 rfl ?_
  refine x_callVC (rc' := 0) (rs' := 0) (r := (RX6, TX6, 7)) d_L_free_5 q_L_free_68 s_h_free v_h_free (t_h_free hI hE hc hu h hcl9) (hcl9.at 0 (by decide) h0) rfl rfl rfl rfl (Nat.le_of_ble_eq_true rfl) rfl rfl ?_ ?_
  · rintro E h' ⟨_, _, ⟨rfl, rfl, k, hk, hcd⟩, hc'⟩
    match k, hk, hcd with
    | 0, hk, hcd =>
      cases hk
      exact ⟨[], [(0, 10, 17, 21), (0, 10, 21, 15)], (0, 10, 13, 13), eIO, rfl, (fun z hz => by cases hz), rfl, by decide, w197, w209, fun q => x_astore d_L_free_13 (by decide) (x_iconst d_L_free_15 (x_iret rfl d_L_free_16 ⟨by rw [hcd]; rfl, _, _, _, hc', Or.inr ⟨by omega, rfl, rfl, rfl⟩⟩))⟩
    | 1, hk, hcd =>
      cases hk
      exact ⟨[(0, 10, 13, 13)], [(0, 10, 21, 15)], (0, 10, 17, 21), eIA, rfl, (fun z hz => by rcases List.mem_singleton.mp hz with rfl; exact ⟨by decide, eIO, w197, hN.2.1⟩), rfl, by decide, w356, w370, fun q => x_astore d_L_free_17 (by decide) (x_iconst d_L_free_19 (x_iret rfl d_L_free_20 ⟨by rw [hcd]; rfl, _, _, _, hc', Or.inr ⟨by omega, rfl, rfl, rfl⟩⟩))⟩
    | 2, hk, hcd =>
      cases hk
      exact ⟨[(0, 10, 13, 13), (0, 10, 17, 21)], [], (0, 10, 21, 15), eIS, rfl, (fun z hz => by rcases List.mem_cons.mp hz with rfl | hz; exact ⟨by decide, eIO, w197, hN.1⟩; rcases List.mem_singleton.mp hz with rfl; exact ⟨by decide, eIA, w356, hN.2.2⟩), rfl, by decide, w198, w295, fun q => x_astore d_L_free_21 (by decide) (x_iconst d_L_free_23 (x_iret rfl d_L_free_24 ⟨by rw [hcd]; rfl, _, _, _, hc', Or.inr ⟨by omega, rfl, rfl, rfl⟩⟩))⟩
    | k + 3, hk, hcd => cases hk
  · rintro _ h' ⟨ad', S', ⟨hcd, rfl, hag, hE'⟩, hc'⟩
    refine x_i2l d_L_free_8 ?_
    refine x_last (n := 1) d_L_free_9 (hc'.2.2.1 out _ (hset_s _ _ _)) (by decide) (by decide) (by decide) ?_
    refine x_goto (tgt := 25) d_L_free_10 (by decide) ?_
    refine x_iconst d_L_free_25 ?_
    exact x_iret rfl d_L_free_26 ⟨by rw [hcd], ad', S', _, cls_up hc', Or.inl ⟨hcd, hag, hE', rfl⟩⟩
theorem t_L_fork {g : xG} {K : hp} {ad : cA} {S : gS} {c : Int} {out : Nat} {o0 : Nat → Int64} (hN : ncOk g) (hI : Inv S) (hE : Ext S) (hc : R32 c) : ∀ h, cls g (hset K out (larr g 1 o0)) ad S h → xM g y_L_fork k_L_fork M_L_fork [.ref (ad 0 0), .int (iI c), .ref out] h (LQ g K out ad S (cd_fork S c) (vl_fork S c) (st_fork S c) o0) mN := by
  intro h hcl9
  have h0 := hE.h
  refine xM.ofH rfl (by decide) rfl rfl (by simp [Value.category]) (Nat.le_of_ble_eq_true rfl) rfl ?_
  refine x_aload_n d_L_fork_0 rfl ?_
  refine x_iconst d_L_fork_1 ?_
  refine x_aload_n d_L_fork_2 rfl ?_
  refine x_iload_n d_L_fork_3 rfl ?_
  refine x_callVC (rc' := 0) (rs' := 0) (r := (RX6, TX6, 7)) d_L_fork_4 q_L_fork_71 s_h_fork v_h_fork (t_h_fork hI hE hc h hcl9) (hcl9.at 0 (by decide) h0) rfl rfl rfl rfl (Nat.le_of_ble_eq_true rfl) rfl rfl ?_ ?_
  · rintro E h' ⟨_, _, ⟨rfl, rfl, k, hk, hcd⟩, hc'⟩
    match k, hk, hcd with
    | 0, hk, hcd =>
      cases hk
      exact ⟨[], [(0, 9, 15, 15)], (0, 9, 12, 13), eIO, rfl, (fun z hz => by cases hz), rfl, by decide, w197, w209, fun q => x_astore_n d_L_fork_12 (by decide) (x_iconst d_L_fork_13 (x_iret rfl d_L_fork_14 ⟨by rw [hcd]; rfl, _, _, _, hc', Or.inr ⟨by omega, rfl, rfl, rfl⟩⟩))⟩
    | 1, hk, hcd =>
      cases hk
      exact ⟨[(0, 9, 12, 13)], [], (0, 9, 15, 15), eIS, rfl, (fun z hz => by rcases List.mem_singleton.mp hz with rfl; exact ⟨by decide, eIO, w197, hN.1⟩), rfl, by decide, w198, w295, fun q => x_astore_n d_L_fork_15 (by decide) (x_iconst d_L_fork_16 (x_iret rfl d_L_fork_17 ⟨by rw [hcd]; rfl, _, _, _, hc', Or.inr ⟨by omega, rfl, rfl, rfl⟩⟩))⟩
    | k + 2, hk, hcd => cases hk
  · rintro _ h' ⟨ad', S', ⟨hcd, rfl, hag, hE'⟩, hc'⟩
    refine x_i2l d_L_fork_7 ?_
    refine x_last (n := 1) d_L_fork_8 (hc'.2.2.1 out _ (hset_s _ _ _)) (by decide) (by decide) (by decide) ?_
    refine x_goto (tgt := 18) d_L_fork_9 (by decide) ?_
    refine x_iconst d_L_fork_18 ?_
    exact x_iret rfl d_L_fork_19 ⟨by rw [hcd], ad', S', _, cls_up hc', Or.inl ⟨hcd, hag, hE', rfl⟩⟩
theorem t_L_exit {g : xG} {K : hp} {ad : cA} {S : gS} {c : Int} {out : Nat} {o0 : Nat → Int64} (hN : ncOk g) (hI : Inv S) (hE : Ext S) (hc : R32 c) (hX9 : InvX S) : ∀ h, cls g (hset K out (larr g 1 o0)) ad S h → xM g y_L_exit k_L_exit M_L_exit [.ref (ad 0 0), .int (iI c), .ref out] h (LQ g K out ad S (cd_exit S c) (vl_exit S c) (st_exit S c) o0) mN := by
  intro h hcl9
  have h0 := hE.h
  refine xM.ofH rfl (by decide) rfl rfl (by simp [Value.category]) (Nat.le_of_ble_eq_true rfl) rfl ?_
  refine x_aload_n d_L_exit_0 rfl ?_
  refine x_iconst d_L_exit_1 ?_
  refine x_aload_n d_L_exit_2 rfl ?_
  refine x_iload_n d_L_exit_3 rfl ?_
  refine x_callVC (rc' := 0) (rs' := 0) (r := (RX6, TX6, 7)) d_L_exit_4 q_L_exit_74 s_h_exit v_h_exit (t_h_exit hI hE hc hX9 h hcl9) (hcl9.at 0 (by decide) h0) rfl rfl rfl rfl (Nat.le_of_ble_eq_true rfl) rfl rfl ?_ ?_
  · rintro E h' ⟨_, _, ⟨rfl, rfl, k, hk, hcd⟩, hc'⟩
    match k, hk, hcd with
    | 0, hk, hcd =>
      cases hk
      exact ⟨[], [(0, 9, 15, 15)], (0, 9, 12, 13), eIO, rfl, (fun z hz => by cases hz), rfl, by decide, w197, w209, fun q => x_astore_n d_L_exit_12 (by decide) (x_iconst d_L_exit_13 (x_iret rfl d_L_exit_14 ⟨by rw [hcd]; rfl, _, _, _, hc', Or.inr ⟨by omega, rfl, rfl, rfl⟩⟩))⟩
    | 1, hk, hcd =>
      cases hk
      exact ⟨[(0, 9, 12, 13)], [], (0, 9, 15, 15), eIS, rfl, (fun z hz => by rcases List.mem_singleton.mp hz with rfl; exact ⟨by decide, eIO, w197, hN.1⟩), rfl, by decide, w198, w295, fun q => x_astore_n d_L_exit_15 (by decide) (x_iconst d_L_exit_16 (x_iret rfl d_L_exit_17 ⟨by rw [hcd]; rfl, _, _, _, hc', Or.inr ⟨by omega, rfl, rfl, rfl⟩⟩))⟩
    | k + 2, hk, hcd => cases hk
  · rintro _ h' ⟨ad', S', ⟨hcd, rfl, hag, hE'⟩, hc'⟩
    refine x_i2l d_L_exit_7 ?_
    refine x_last (n := 1) d_L_exit_8 (hc'.2.2.1 out _ (hset_s _ _ _)) (by decide) (by decide) (by decide) ?_
    refine x_goto (tgt := 18) d_L_exit_9 (by decide) ?_
    refine x_iconst d_L_exit_18 ?_
    exact x_iret rfl d_L_exit_19 ⟨by rw [hcd], ad', S', _, cls_up hc', Or.inl ⟨hcd, hag, hE', rfl⟩⟩
theorem t_L_schedule {g : xG} {K : hp} {ad : cA} {S : gS} {u : Int} {out : Nat} {o0 : Nat → Int64} (hN : ncOk g) (hI : Inv S) (hE : Ext S) (hu : R32 u) : ∀ h, cls g (hset K out (larr g 1 o0)) ad S h → xM g y_L_schedule k_L_schedule M_L_schedule [.ref (ad 0 0), .int (iI u), .ref out] h (LQ g K out ad S (cd_schedule S u) (vl_schedule S u) (st_schedule S u) o0) mN := by
  intro h hcl9
  have h0 := hE.h
  refine xM.ofH rfl (by decide) rfl rfl (by simp [Value.category]) (Nat.le_of_ble_eq_true rfl) rfl ?_
  refine x_aload_n d_L_schedule_0 rfl ?_
  refine x_iconst d_L_schedule_1 ?_
  refine x_aload_n d_L_schedule_2 rfl ?_
  refine x_iload_n d_L_schedule_3 rfl ?_
  refine x_callVC (rc' := 0) (rs' := 0) (r := (RX6, TX6, 7)) d_L_schedule_4 q_L_schedule_77 s_h_schedule v_h_schedule (t_h_schedule hI hE hu h hcl9) (hcl9.at 0 (by decide) h0) rfl rfl rfl rfl (Nat.le_of_ble_eq_true rfl) rfl rfl ?_ ?_
  · rintro E h' ⟨_, _, ⟨rfl, rfl, k, hk, hcd⟩, hc'⟩
    match k, hk, hcd with
    | 0, hk, hcd =>
      cases hk
      exact ⟨[], [], (0, 9, 12, 21), eIA, rfl, (fun z hz => by cases hz), rfl, by decide, w356, w370, fun q => x_astore_n d_L_schedule_12 (by decide) (x_iconst d_L_schedule_13 (x_iret rfl d_L_schedule_14 ⟨by rw [hcd]; rfl, _, _, _, hc', Or.inr ⟨by omega, rfl, rfl, rfl⟩⟩))⟩
    | k + 1, hk, hcd => cases hk
  · rintro _ h' ⟨ad', S', ⟨hcd, rfl, hag, hE'⟩, hc'⟩
    refine x_i2l d_L_schedule_7 ?_
    refine x_last (n := 1) d_L_schedule_8 (hc'.2.2.1 out _ (hset_s _ _ _)) (by decide) (by decide) (by decide) ?_
    refine x_goto (tgt := 15) d_L_schedule_9 (by decide) ?_
    refine x_iconst d_L_schedule_15 ?_
    exact x_iret rfl d_L_schedule_16 ⟨by rw [hcd], ad', S', _, cls_up hc', Or.inl ⟨hcd, hag, hE', rfl⟩⟩
theorem t_L_writeFile {g : xG} {K : hp} {ad : cA} {S : gS} {c f v : Int} {out : Nat} {o0 : Nat → Int64} (hN : ncOk g) (hI : Inv S) (hE : Ext S) (hc : R32 c) (hf : R32 f) (hv : R32 v) : ∀ h, cls g (hset K out (larr g 1 o0)) ad S h → xM g y_L_writeFile k_L_writeFile M_L_writeFile [.ref (ad 0 0), .int (iI c), .int (iI f), .int (iI v), .ref out] h (LQ g K out ad S (cd_writeFile S c f v) (vl_writeFile S c f v) (st_writeFile S c f v) o0) mN := by
  intro h hcl9
  have h0 := hE.h
  refine xM.ofH rfl (by decide) rfl rfl (by simp [Value.category]) (Nat.le_of_ble_eq_true rfl) rfl ?_
  refine x_aload d_L_writeFile_0 rfl ?_
  refine x_iconst d_L_writeFile_2 ?_
  refine x_aload_n d_L_writeFile_3 rfl ?_
  refine x_iload_n d_L_writeFile_4 rfl ?_
  refine x_iload_n d_L_writeFile_5 rfl ?_
  refine x_iload_n d_L_writeFile_6 rfl ?_
  refine x_callVC (rc' := 0) (rs' := 0) (r := (RX6, TX6, 7)) d_L_writeFile_7 q_L_writeFile_80 s_h_writeFile v_h_writeFile (t_h_writeFile hI hE hc hf hv h hcl9) (hcl9.at 0 (by decide) h0) rfl rfl rfl rfl (Nat.le_of_ble_eq_true rfl) rfl rfl ?_ ?_
  · rintro E h' ⟨_, _, ⟨rfl, rfl, k, hk, hcd⟩, hc'⟩
    match k, hk, hcd with
    | 0, hk, hcd =>
      cases hk
      exact ⟨[], [(0, 12, 19, 21), (0, 12, 23, 15)], (0, 12, 15, 13), eIO, rfl, (fun z hz => by cases hz), rfl, by decide, w197, w209, fun q => x_astore d_L_writeFile_15 (by decide) (x_iconst d_L_writeFile_17 (x_iret rfl d_L_writeFile_18 ⟨by rw [hcd]; rfl, _, _, _, hc', Or.inr ⟨by omega, rfl, rfl, rfl⟩⟩))⟩
    | 1, hk, hcd =>
      cases hk
      exact ⟨[(0, 12, 15, 13)], [(0, 12, 23, 15)], (0, 12, 19, 21), eIA, rfl, (fun z hz => by rcases List.mem_singleton.mp hz with rfl; exact ⟨by decide, eIO, w197, hN.2.1⟩), rfl, by decide, w356, w370, fun q => x_astore d_L_writeFile_19 (by decide) (x_iconst d_L_writeFile_21 (x_iret rfl d_L_writeFile_22 ⟨by rw [hcd]; rfl, _, _, _, hc', Or.inr ⟨by omega, rfl, rfl, rfl⟩⟩))⟩
    | 2, hk, hcd =>
      cases hk
      exact ⟨[(0, 12, 15, 13), (0, 12, 19, 21)], [], (0, 12, 23, 15), eIS, rfl, (fun z hz => by rcases List.mem_cons.mp hz with rfl | hz; exact ⟨by decide, eIO, w197, hN.1⟩; rcases List.mem_singleton.mp hz with rfl; exact ⟨by decide, eIA, w356, hN.2.2⟩), rfl, by decide, w198, w295, fun q => x_astore d_L_writeFile_23 (by decide) (x_iconst d_L_writeFile_25 (x_iret rfl d_L_writeFile_26 ⟨by rw [hcd]; rfl, _, _, _, hc', Or.inr ⟨by omega, rfl, rfl, rfl⟩⟩))⟩
    | k + 3, hk, hcd => cases hk
  · rintro _ h' ⟨ad', S', ⟨hcd, rfl, hag, hE'⟩, hc'⟩
    refine x_i2l d_L_writeFile_10 ?_
    refine x_last (n := 1) d_L_writeFile_11 (hc'.2.2.1 out _ (hset_s _ _ _)) (by decide) (by decide) (by decide) ?_
    refine x_goto (tgt := 27) d_L_writeFile_12 (by decide) ?_
    refine x_iconst d_L_writeFile_27 ?_
    exact x_iret rfl d_L_writeFile_28 ⟨by rw [hcd], ad', S', _, cls_up hc', Or.inl ⟨hcd, hag, hE', rfl⟩⟩
theorem t_L_removeFile {g : xG} {K : hp} {ad : cA} {S : gS} {c f : Int} {out : Nat} {o0 : Nat → Int64} (hN : ncOk g) (hI : Inv S) (hE : Ext S) (hc : R32 c) (hf : R32 f) : ∀ h, cls g (hset K out (larr g 1 o0)) ad S h → xM g y_L_removeFile k_L_removeFile M_L_removeFile [.ref (ad 0 0), .int (iI c), .int (iI f), .ref out] h (LQ g K out ad S (cd_removeFile S c f) (vl_removeFile S c f) (st_removeFile S c f) o0) mN := by
  intro h hcl9
  have h0 := hE.h
  refine xM.ofH rfl (by decide) rfl rfl (by simp [Value.category]) (Nat.le_of_ble_eq_true rfl) rfl ?_
  refine x_aload_n d_L_removeFile_0 rfl ?_
  refine x_iconst d_L_removeFile_1 ?_
  refine x_aload_n d_L_removeFile_2 rfl ?_
  refine x_iload_n d_L_removeFile_3 rfl ?_
  refine x_iload_n d_L_removeFile_4 rfl ?_
  refine x_callVC (rc' := 0) (rs' := 0) (r := (RX6, TX6, 7)) d_L_removeFile_5 q_L_removeFile_83 s_h_removeFile v_h_removeFile (t_h_removeFile hI hE hc hf h hcl9) (hcl9.at 0 (by decide) h0) rfl rfl rfl rfl (Nat.le_of_ble_eq_true rfl) rfl rfl ?_ ?_
  · rintro E h' ⟨_, _, ⟨rfl, rfl, k, hk, hcd⟩, hc'⟩
    match k, hk, hcd with
    | 0, hk, hcd =>
      cases hk
      exact ⟨[], [(0, 10, 17, 15)], (0, 10, 13, 13), eIO, rfl, (fun z hz => by cases hz), rfl, by decide, w197, w209, fun q => x_astore d_L_removeFile_13 (by decide) (x_iconst d_L_removeFile_15 (x_iret rfl d_L_removeFile_16 ⟨by rw [hcd]; rfl, _, _, _, hc', Or.inr ⟨by omega, rfl, rfl, rfl⟩⟩))⟩
    | 1, hk, hcd =>
      cases hk
      exact ⟨[(0, 10, 13, 13)], [], (0, 10, 17, 15), eIS, rfl, (fun z hz => by rcases List.mem_singleton.mp hz with rfl; exact ⟨by decide, eIO, w197, hN.1⟩), rfl, by decide, w198, w295, fun q => x_astore d_L_removeFile_17 (by decide) (x_iconst d_L_removeFile_19 (x_iret rfl d_L_removeFile_20 ⟨by rw [hcd]; rfl, _, _, _, hc', Or.inr ⟨by omega, rfl, rfl, rfl⟩⟩))⟩
    | k + 2, hk, hcd => cases hk
  · rintro _ h' ⟨ad', S', ⟨hcd, rfl, hag, hE'⟩, hc'⟩
    refine x_i2l d_L_removeFile_8 ?_
    refine x_last (n := 1) d_L_removeFile_9 (hc'.2.2.1 out _ (hset_s _ _ _)) (by decide) (by decide) (by decide) ?_
    refine x_goto (tgt := 21) d_L_removeFile_10 (by decide) ?_
    refine x_iconst d_L_removeFile_21 ?_
    exact x_iret rfl d_L_removeFile_22 ⟨by rw [hcd], ad', S', _, cls_up hc', Or.inl ⟨hcd, hag, hE', rfl⟩⟩
theorem t_L_fileOf {g : xG} {K : hp} {ad : cA} {S : gS} {c f : Int} {out : Nat} {o0 : Nat → Int64} (hN : ncOk g) (hI : Inv S) (hE : Ext S) (hc : R32 c) (hf : R32 f) : ∀ h, cls g (hset K out (larr g 1 o0)) ad S h → xM g y_L_fileOf k_L_fileOf M_L_fileOf [.ref (ad 0 0), .int (iI c), .int (iI f), .ref out] h (LQ g K out ad S (cd_fileOf S c f) (vl_fileOf S c f) (st_fileOf S c f) o0) mN := by
  intro h hcl9
  have h0 := hE.h
  refine xM.ofH rfl (by decide) rfl rfl (by simp [Value.category]) (Nat.le_of_ble_eq_true rfl) rfl ?_
  refine x_aload_n d_L_fileOf_0 rfl ?_
  refine x_iconst d_L_fileOf_1 ?_
  refine x_aload_n d_L_fileOf_2 rfl ?_
  refine x_iload_n d_L_fileOf_3 rfl ?_
  refine x_iload_n d_L_fileOf_4 rfl ?_
  refine x_callVC (rc' := 0) (rs' := 0) (r := (RX6, TX6, 7)) d_L_fileOf_5 q_L_fileOf_86 s_h_fileOf v_h_fileOf (t_h_fileOf hI hE hc hf h hcl9) (hcl9.at 0 (by decide) h0) rfl rfl rfl rfl (Nat.le_of_ble_eq_true rfl) rfl rfl ?_ ?_
  · rintro E h' ⟨_, _, ⟨rfl, rfl, k, hk, hcd⟩, hc'⟩
    match k, hk, hcd with
    | 0, hk, hcd =>
      cases hk
      exact ⟨[], [], (0, 10, 13, 13), eIO, rfl, (fun z hz => by cases hz), rfl, by decide, w197, w209, fun q => x_astore d_L_fileOf_13 (by decide) (x_iconst d_L_fileOf_15 (x_iret rfl d_L_fileOf_16 ⟨by rw [hcd]; rfl, _, _, _, hc', Or.inr ⟨by omega, rfl, rfl, rfl⟩⟩))⟩
    | k + 1, hk, hcd => cases hk
  · rintro _ h' ⟨ad', S', ⟨hcd, rfl, hag, hE'⟩, hc'⟩
    refine x_i2l d_L_fileOf_8 ?_
    refine x_last (n := 1) d_L_fileOf_9 (hc'.2.2.1 out _ (hset_s _ _ _)) (by decide) (by decide) (by decide) ?_
    refine x_goto (tgt := 17) d_L_fileOf_10 (by decide) ?_
    refine x_iconst d_L_fileOf_17 ?_
    exact x_iret rfl d_L_fileOf_18 ⟨by rw [hcd], ad', S', _, cls_up hc', Or.inl ⟨hcd, hag, hE', rfl⟩⟩
theorem t_L_plainFileOf {g : xG} {K : hp} {ad : cA} {S : gS} {c f : Int} {out : Nat} {o0 : Nat → Int64} (hN : ncOk g) (hI : Inv S) (hE : Ext S) (hc : R32 c) (hf : R32 f) : ∀ h, cls g (hset K out (larr g 1 o0)) ad S h → xM g y_L_plainFileOf k_L_plainFileOf M_L_plainFileOf [.ref (ad 0 0), .int (iI c), .int (iI f), .ref out] h (LQ g K out ad S (cd_plainFileOf S c f) (vl_plainFileOf S c f) (st_plainFileOf S c f) o0) mN := by
  intro h hcl9
  have h0 := hE.h
  refine xM.ofH rfl (by decide) rfl rfl (by simp [Value.category]) (Nat.le_of_ble_eq_true rfl) rfl ?_
  refine x_aload_n d_L_plainFileOf_0 rfl ?_
  refine x_iconst d_L_plainFileOf_1 ?_
  refine x_aload_n d_L_plainFileOf_2 rfl ?_
  refine x_iload_n d_L_plainFileOf_3 rfl ?_
  refine x_iload_n d_L_plainFileOf_4 rfl ?_
  refine x_callVC (rc' := 0) (rs' := 0) (r := (RX6, TX6, 7)) d_L_plainFileOf_5 q_L_plainFileOf_89 s_h_plainFileOf v_h_plainFileOf (t_h_plainFileOf hI hE hc hf h hcl9) (hcl9.at 0 (by decide) h0) rfl rfl rfl rfl (Nat.le_of_ble_eq_true rfl) rfl rfl ?_ ?_
  · rintro E h' ⟨_, _, ⟨rfl, rfl, k, hk, hcd⟩, hc'⟩
    match k, hk, hcd with
    | 0, hk, hcd =>
      cases hk
      exact ⟨[], [], (0, 10, 13, 13), eIO, rfl, (fun z hz => by cases hz), rfl, by decide, w197, w209, fun q => x_astore d_L_plainFileOf_13 (by decide) (x_iconst d_L_plainFileOf_15 (x_iret rfl d_L_plainFileOf_16 ⟨by rw [hcd]; rfl, _, _, _, hc', Or.inr ⟨by omega, rfl, rfl, rfl⟩⟩))⟩
    | k + 1, hk, hcd => cases hk
  · rintro _ h' ⟨ad', S', ⟨hcd, rfl, hag, hE'⟩, hc'⟩
    refine x_i2l d_L_plainFileOf_8 ?_
    refine x_last (n := 1) d_L_plainFileOf_9 (hc'.2.2.1 out _ (hset_s _ _ _)) (by decide) (by decide) (by decide) ?_
    refine x_goto (tgt := 17) d_L_plainFileOf_10 (by decide) ?_
    refine x_iconst d_L_plainFileOf_17 ?_
    exact x_iret rfl d_L_plainFileOf_18 ⟨by rw [hcd], ad', S', _, cls_up hc', Or.inl ⟨hcd, hag, hE', rfl⟩⟩
theorem t_L_raise {g : xG} {K : hp} {ad : cA} {S : gS} {c k : Int} {out : Nat} {o0 : Nat → Int64} (hN : ncOk g) (hI : Inv S) (hE : Ext S) (hc : R32 c) (hk : R32 k) : ∀ h, cls g (hset K out (larr g 1 o0)) ad S h → xM g y_L_raise k_L_raise M_L_raise [.ref (ad 0 0), .int (iI c), .int (iI k), .ref out] h (LQ g K out ad S (cd_raise S c k) (vl_raise S c k) (st_raise S c k) o0) mN := by
  intro h hcl9
  have h0 := hE.h
  refine xM.ofH rfl (by decide) rfl rfl (by simp [Value.category]) (Nat.le_of_ble_eq_true rfl) rfl ?_
  refine x_aload_n d_L_raise_0 rfl ?_
  refine x_iconst d_L_raise_1 ?_
  refine x_aload_n d_L_raise_2 rfl ?_
  refine x_iload_n d_L_raise_3 rfl ?_
  refine x_iload_n d_L_raise_4 rfl ?_
  refine x_callVC (rc' := 0) (rs' := 0) (r := (RX6, TX6, 7)) d_L_raise_5 q_L_raise_92 s_h_raise v_h_raise (t_h_raise hI hE hc hk h hcl9) (hcl9.at 0 (by decide) h0) rfl rfl rfl rfl (Nat.le_of_ble_eq_true rfl) rfl rfl ?_ ?_
  · rintro E h' ⟨_, _, ⟨rfl, rfl, k, hk, hcd⟩, hc'⟩
    match k, hk, hcd with
    | 0, hk, hcd =>
      cases hk
      exact ⟨[], [(0, 10, 17, 15)], (0, 10, 13, 13), eIO, rfl, (fun z hz => by cases hz), rfl, by decide, w197, w209, fun q => x_astore d_L_raise_13 (by decide) (x_iconst d_L_raise_15 (x_iret rfl d_L_raise_16 ⟨by rw [hcd]; rfl, _, _, _, hc', Or.inr ⟨by omega, rfl, rfl, rfl⟩⟩))⟩
    | 1, hk, hcd =>
      cases hk
      exact ⟨[(0, 10, 13, 13)], [], (0, 10, 17, 15), eIS, rfl, (fun z hz => by rcases List.mem_singleton.mp hz with rfl; exact ⟨by decide, eIO, w197, hN.1⟩), rfl, by decide, w198, w295, fun q => x_astore d_L_raise_17 (by decide) (x_iconst d_L_raise_19 (x_iret rfl d_L_raise_20 ⟨by rw [hcd]; rfl, _, _, _, hc', Or.inr ⟨by omega, rfl, rfl, rfl⟩⟩))⟩
    | k + 2, hk, hcd => cases hk
  · rintro _ h' ⟨ad', S', ⟨hcd, rfl, hag, hE'⟩, hc'⟩
    refine x_i2l d_L_raise_8 ?_
    refine x_last (n := 1) d_L_raise_9 (hc'.2.2.1 out _ (hset_s _ _ _)) (by decide) (by decide) (by decide) ?_
    refine x_goto (tgt := 21) d_L_raise_10 (by decide) ?_
    refine x_iconst d_L_raise_21 ?_
    exact x_iret rfl d_L_raise_22 ⟨by rw [hcd], ad', S', _, cls_up hc', Or.inl ⟨hcd, hag, hE', rfl⟩⟩
theorem t_L_lower {g : xG} {K : hp} {ad : cA} {S : gS} {c k : Int} {out : Nat} {o0 : Nat → Int64} (hN : ncOk g) (hI : Inv S) (hE : Ext S) (hc : R32 c) (hk : R32 k) : ∀ h, cls g (hset K out (larr g 1 o0)) ad S h → xM g y_L_lower k_L_lower M_L_lower [.ref (ad 0 0), .int (iI c), .int (iI k), .ref out] h (LQ g K out ad S (cd_lower S c k) (vl_lower S c k) (st_lower S c k) o0) mN := by
  intro h hcl9
  have h0 := hE.h
  refine xM.ofH rfl (by decide) rfl rfl (by simp [Value.category]) (Nat.le_of_ble_eq_true rfl) rfl ?_
  refine x_aload_n d_L_lower_0 rfl ?_
  refine x_iconst d_L_lower_1 ?_
  refine x_aload_n d_L_lower_2 rfl ?_
  refine x_iload_n d_L_lower_3 rfl ?_
  refine x_iload_n d_L_lower_4 rfl ?_
  refine x_callVC (rc' := 0) (rs' := 0) (r := (RX6, TX6, 7)) d_L_lower_5 q_L_lower_95 s_h_lower v_h_lower (t_h_lower hI hE hc hk h hcl9) (hcl9.at 0 (by decide) h0) rfl rfl rfl rfl (Nat.le_of_ble_eq_true rfl) rfl rfl ?_ ?_
  · rintro E h' ⟨_, _, ⟨rfl, rfl, k, hk, hcd⟩, hc'⟩
    match k, hk, hcd with
    | 0, hk, hcd =>
      cases hk
      exact ⟨[], [(0, 10, 17, 15)], (0, 10, 13, 13), eIO, rfl, (fun z hz => by cases hz), rfl, by decide, w197, w209, fun q => x_astore d_L_lower_13 (by decide) (x_iconst d_L_lower_15 (x_iret rfl d_L_lower_16 ⟨by rw [hcd]; rfl, _, _, _, hc', Or.inr ⟨by omega, rfl, rfl, rfl⟩⟩))⟩
    | 1, hk, hcd =>
      cases hk
      exact ⟨[(0, 10, 13, 13)], [], (0, 10, 17, 15), eIS, rfl, (fun z hz => by rcases List.mem_singleton.mp hz with rfl; exact ⟨by decide, eIO, w197, hN.1⟩), rfl, by decide, w198, w295, fun q => x_astore d_L_lower_17 (by decide) (x_iconst d_L_lower_19 (x_iret rfl d_L_lower_20 ⟨by rw [hcd]; rfl, _, _, _, hc', Or.inr ⟨by omega, rfl, rfl, rfl⟩⟩))⟩
    | k + 2, hk, hcd => cases hk
  · rintro _ h' ⟨ad', S', ⟨hcd, rfl, hag, hE'⟩, hc'⟩
    refine x_i2l d_L_lower_8 ?_
    refine x_last (n := 1) d_L_lower_9 (hc'.2.2.1 out _ (hset_s _ _ _)) (by decide) (by decide) (by decide) ?_
    refine x_goto (tgt := 21) d_L_lower_10 (by decide) ?_
    refine x_iconst d_L_lower_21 ?_
    exact x_iret rfl d_L_lower_22 ⟨by rw [hcd], ad', S', _, cls_up hc', Or.inl ⟨hcd, hag, hE', rfl⟩⟩
theorem t_L_drop {g : xG} {K : hp} {ad : cA} {S : gS} {c k : Int} {out : Nat} {o0 : Nat → Int64} (hN : ncOk g) (hI : Inv S) (hE : Ext S) (hc : R32 c) (hk : R32 k) : ∀ h, cls g (hset K out (larr g 1 o0)) ad S h → xM g y_L_drop k_L_drop M_L_drop [.ref (ad 0 0), .int (iI c), .int (iI k), .ref out] h (LQ g K out ad S (cd_drop S c k) (vl_drop S c k) (st_drop S c k) o0) mN := by
  intro h hcl9
  have h0 := hE.h
  refine xM.ofH rfl (by decide) rfl rfl (by simp [Value.category]) (Nat.le_of_ble_eq_true rfl) rfl ?_
  refine x_aload_n d_L_drop_0 rfl ?_
  refine x_iconst d_L_drop_1 ?_
  refine x_aload_n d_L_drop_2 rfl ?_
  refine x_iload_n d_L_drop_3 rfl ?_
  refine x_iload_n d_L_drop_4 rfl ?_
  refine x_callVC (rc' := 0) (rs' := 0) (r := (RX6, TX6, 7)) d_L_drop_5 q_L_drop_98 s_h_drop v_h_drop (t_h_drop hI hE hc hk h hcl9) (hcl9.at 0 (by decide) h0) rfl rfl rfl rfl (Nat.le_of_ble_eq_true rfl) rfl rfl ?_ ?_
  · rintro E h' ⟨_, _, ⟨rfl, rfl, k, hk, hcd⟩, hc'⟩
    match k, hk, hcd with
    | 0, hk, hcd =>
      cases hk
      exact ⟨[], [(0, 10, 17, 15)], (0, 10, 13, 13), eIO, rfl, (fun z hz => by cases hz), rfl, by decide, w197, w209, fun q => x_astore d_L_drop_13 (by decide) (x_iconst d_L_drop_15 (x_iret rfl d_L_drop_16 ⟨by rw [hcd]; rfl, _, _, _, hc', Or.inr ⟨by omega, rfl, rfl, rfl⟩⟩))⟩
    | 1, hk, hcd =>
      cases hk
      exact ⟨[(0, 10, 13, 13)], [], (0, 10, 17, 15), eIS, rfl, (fun z hz => by rcases List.mem_singleton.mp hz with rfl; exact ⟨by decide, eIO, w197, hN.1⟩), rfl, by decide, w198, w295, fun q => x_astore d_L_drop_17 (by decide) (x_iconst d_L_drop_19 (x_iret rfl d_L_drop_20 ⟨by rw [hcd]; rfl, _, _, _, hc', Or.inr ⟨by omega, rfl, rfl, rfl⟩⟩))⟩
    | k + 2, hk, hcd => cases hk
  · rintro _ h' ⟨ad', S', ⟨hcd, rfl, hag, hE'⟩, hc'⟩
    refine x_i2l d_L_drop_8 ?_
    refine x_last (n := 1) d_L_drop_9 (hc'.2.2.1 out _ (hset_s _ _ _)) (by decide) (by decide) (by decide) ?_
    refine x_goto (tgt := 21) d_L_drop_10 (by decide) ?_
    refine x_iconst d_L_drop_21 ?_
    exact x_iret rfl d_L_drop_22 ⟨by rw [hcd], ad', S', _, cls_up hc', Or.inl ⟨hcd, hag, hE', rfl⟩⟩
theorem t_L_kill {g : xG} {K : hp} {ad : cA} {S : gS} {c v : Int} {out : Nat} {o0 : Nat → Int64} (hN : ncOk g) (hI : Inv S) (hE : Ext S) (hc : R32 c) (hv : R32 v) : ∀ h, cls g (hset K out (larr g 1 o0)) ad S h → xM g y_L_kill k_L_kill M_L_kill [.ref (ad 0 0), .int (iI c), .int (iI v), .ref out] h (LQ g K out ad S (cd_kill S c v) (vl_kill S c v) (st_kill S c v) o0) mN := by
  intro h hcl9
  have h0 := hE.h
  refine xM.ofH rfl (by decide) rfl rfl (by simp [Value.category]) (Nat.le_of_ble_eq_true rfl) rfl ?_
  refine x_aload_n d_L_kill_0 rfl ?_
  refine x_iconst d_L_kill_1 ?_
  refine x_aload_n d_L_kill_2 rfl ?_
  refine x_iload_n d_L_kill_3 rfl ?_
  refine x_iload_n d_L_kill_4 rfl ?_
  refine x_callVC (rc' := 0) (rs' := 0) (r := (RX6, TX6, 7)) d_L_kill_5 q_L_kill_101 s_h_kill v_h_kill (t_h_kill hI hE hc hv h hcl9) (hcl9.at 0 (by decide) h0) rfl rfl rfl rfl (Nat.le_of_ble_eq_true rfl) rfl rfl ?_ ?_
  · rintro E h' ⟨_, _, ⟨rfl, rfl, k, hk, hcd⟩, hc'⟩
    match k, hk, hcd with
    | 0, hk, hcd =>
      cases hk
      exact ⟨[], [(0, 10, 17, 15)], (0, 10, 13, 13), eIO, rfl, (fun z hz => by cases hz), rfl, by decide, w197, w209, fun q => x_astore d_L_kill_13 (by decide) (x_iconst d_L_kill_15 (x_iret rfl d_L_kill_16 ⟨by rw [hcd]; rfl, _, _, _, hc', Or.inr ⟨by omega, rfl, rfl, rfl⟩⟩))⟩
    | 1, hk, hcd =>
      cases hk
      exact ⟨[(0, 10, 13, 13)], [], (0, 10, 17, 15), eIS, rfl, (fun z hz => by rcases List.mem_singleton.mp hz with rfl; exact ⟨by decide, eIO, w197, hN.1⟩), rfl, by decide, w198, w295, fun q => x_astore d_L_kill_17 (by decide) (x_iconst d_L_kill_19 (x_iret rfl d_L_kill_20 ⟨by rw [hcd]; rfl, _, _, _, hc', Or.inr ⟨by omega, rfl, rfl, rfl⟩⟩))⟩
    | k + 2, hk, hcd => cases hk
  · rintro _ h' ⟨ad', S', ⟨hcd, rfl, hag, hE'⟩, hc'⟩
    refine x_i2l d_L_kill_8 ?_
    refine x_last (n := 1) d_L_kill_9 (hc'.2.2.1 out _ (hset_s _ _ _)) (by decide) (by decide) (by decide) ?_
    refine x_goto (tgt := 21) d_L_kill_10 (by decide) ?_
    refine x_iconst d_L_kill_21 ?_
    exact x_iret rfl d_L_kill_22 ⟨by rw [hcd], ad', S', _, cls_up hc', Or.inl ⟨hcd, hag, hE', rfl⟩⟩
theorem t_L_attach {g : xG} {K : hp} {ad : cA} {S : gS} {c b : Int} {out : Nat} {o0 : Nat → Int64} (hN : ncOk g) (hI : Inv S) (hE : Ext S) (hc : R32 c) (hb : R32 b) (hX9 : InvX S) : ∀ h, cls g (hset K out (larr g 1 o0)) ad S h → xM g y_L_attach k_L_attach M_L_attach [.ref (ad 0 0), .int (iI c), .int (iI b), .ref out] h (LQ g K out ad S (cd_attach S c b) (vl_attach S c b) (st_attach S c b) o0) mN := by
  intro h hcl9
  have h0 := hE.h
  refine xM.ofH rfl (by decide) rfl rfl (by simp [Value.category]) (Nat.le_of_ble_eq_true rfl) rfl ?_
  refine x_aload_n d_L_attach_0 rfl ?_
  refine x_iconst d_L_attach_1 ?_
  refine x_aload_n d_L_attach_2 rfl ?_
  refine x_iload_n d_L_attach_3 rfl ?_
  refine x_iload_n d_L_attach_4 rfl ?_
  refine x_callVC (rc' := 0) (rs' := 0) (r := (RX6, TX6, 7)) d_L_attach_5 q_L_attach_104 s_h_attach v_h_attach (t_h_attach hI hE hc hb hX9 h hcl9) (hcl9.at 0 (by decide) h0) rfl rfl rfl rfl (Nat.le_of_ble_eq_true rfl) rfl rfl ?_ ?_
  · rintro E h' ⟨_, _, ⟨rfl, rfl, k, hk, hcd⟩, hc'⟩
    match k, hk, hcd with
    | 0, hk, hcd =>
      cases hk
      exact ⟨[], [(0, 10, 17, 15)], (0, 10, 13, 13), eIO, rfl, (fun z hz => by cases hz), rfl, by decide, w197, w209, fun q => x_astore d_L_attach_13 (by decide) (x_iconst d_L_attach_15 (x_iret rfl d_L_attach_16 ⟨by rw [hcd]; rfl, _, _, _, hc', Or.inr ⟨by omega, rfl, rfl, rfl⟩⟩))⟩
    | 1, hk, hcd =>
      cases hk
      exact ⟨[(0, 10, 13, 13)], [], (0, 10, 17, 15), eIS, rfl, (fun z hz => by rcases List.mem_singleton.mp hz with rfl; exact ⟨by decide, eIO, w197, hN.1⟩), rfl, by decide, w198, w295, fun q => x_astore d_L_attach_17 (by decide) (x_iconst d_L_attach_19 (x_iret rfl d_L_attach_20 ⟨by rw [hcd]; rfl, _, _, _, hc', Or.inr ⟨by omega, rfl, rfl, rfl⟩⟩))⟩
    | k + 2, hk, hcd => cases hk
  · rintro _ h' ⟨ad', S', ⟨hcd, rfl, hag, hE'⟩, hc'⟩
    refine x_i2l d_L_attach_8 ?_
    refine x_last (n := 1) d_L_attach_9 (hc'.2.2.1 out _ (hset_s _ _ _)) (by decide) (by decide) (by decide) ?_
    refine x_goto (tgt := 21) d_L_attach_10 (by decide) ?_
    refine x_iconst d_L_attach_21 ?_
    exact x_iret rfl d_L_attach_22 ⟨by rw [hcd], ad', S', _, cls_up hc', Or.inl ⟨hcd, hag, hE', rfl⟩⟩
theorem t_L_detach {g : xG} {K : hp} {ad : cA} {S : gS} {c : Int} {out : Nat} {o0 : Nat → Int64} (hN : ncOk g) (hI : Inv S) (hE : Ext S) (hc : R32 c) : ∀ h, cls g (hset K out (larr g 1 o0)) ad S h → xM g y_L_detach k_L_detach M_L_detach [.ref (ad 0 0), .int (iI c), .ref out] h (LQ g K out ad S (cd_detach S c) (vl_detach S c) (st_detach S c) o0) mN := by
  intro h hcl9
  have h0 := hE.h
  refine xM.ofH rfl (by decide) rfl rfl (by simp [Value.category]) (Nat.le_of_ble_eq_true rfl) rfl ?_
  refine x_aload_n d_L_detach_0 rfl ?_
  refine x_iconst d_L_detach_1 ?_
  refine x_aload_n d_L_detach_2 rfl ?_
  refine x_iload_n d_L_detach_3 rfl ?_
  refine x_callVC (rc' := 0) (rs' := 0) (r := (RX6, TX6, 7)) d_L_detach_4 q_L_detach_107 s_h_detach v_h_detach (t_h_detach hI hE hc h hcl9) (hcl9.at 0 (by decide) h0) rfl rfl rfl rfl (Nat.le_of_ble_eq_true rfl) rfl rfl ?_ ?_
  · rintro E h' ⟨_, _, ⟨rfl, rfl, k, hk, hcd⟩, hc'⟩
    match k, hk, hcd with
    | 0, hk, hcd =>
      cases hk
      exact ⟨[], [(0, 9, 15, 15)], (0, 9, 12, 13), eIO, rfl, (fun z hz => by cases hz), rfl, by decide, w197, w209, fun q => x_astore_n d_L_detach_12 (by decide) (x_iconst d_L_detach_13 (x_iret rfl d_L_detach_14 ⟨by rw [hcd]; rfl, _, _, _, hc', Or.inr ⟨by omega, rfl, rfl, rfl⟩⟩))⟩
    | 1, hk, hcd =>
      cases hk
      exact ⟨[(0, 9, 12, 13)], [], (0, 9, 15, 15), eIS, rfl, (fun z hz => by rcases List.mem_singleton.mp hz with rfl; exact ⟨by decide, eIO, w197, hN.1⟩), rfl, by decide, w198, w295, fun q => x_astore_n d_L_detach_15 (by decide) (x_iconst d_L_detach_16 (x_iret rfl d_L_detach_17 ⟨by rw [hcd]; rfl, _, _, _, hc', Or.inr ⟨by omega, rfl, rfl, rfl⟩⟩))⟩
    | k + 2, hk, hcd => cases hk
  · rintro _ h' ⟨ad', S', ⟨hcd, rfl, hag, hE'⟩, hc'⟩
    refine x_i2l d_L_detach_7 ?_
    refine x_last (n := 1) d_L_detach_8 (hc'.2.2.1 out _ (hset_s _ _ _)) (by decide) (by decide) (by decide) ?_
    refine x_goto (tgt := 18) d_L_detach_9 (by decide) ?_
    refine x_iconst d_L_detach_18 ?_
    exact x_iret rfl d_L_detach_19 ⟨by rw [hcd], ad', S', _, cls_up hc', Or.inl ⟨hcd, hag, hE', rfl⟩⟩
theorem t_L_listen {g : xG} {K : hp} {ad : cA} {S : gS} {c p : Int} {out : Nat} {o0 : Nat → Int64} (hN : ncOk g) (hI : Inv S) (hE : Ext S) (hc : R32 c) (hp : R32 p) : ∀ h, cls g (hset K out (larr g 1 o0)) ad S h → xM g y_L_listen k_L_listen M_L_listen [.ref (ad 0 0), .int (iI c), .int (iI p), .ref out] h (LQ g K out ad S (cd_listen S c p) (vl_listen S c p) (st_listen S c p) o0) mN := by
  intro h hcl9
  have h0 := hE.h
  refine xM.ofH rfl (by decide) rfl rfl (by simp [Value.category]) (Nat.le_of_ble_eq_true rfl) rfl ?_
  refine x_aload_n d_L_listen_0 rfl ?_
  refine x_iconst d_L_listen_1 ?_
  refine x_aload_n d_L_listen_2 rfl ?_
  refine x_iload_n d_L_listen_3 rfl ?_
  refine x_iload_n d_L_listen_4 rfl ?_
  refine x_callVC (rc' := 0) (rs' := 0) (r := (RX6, TX6, 7)) d_L_listen_5 q_L_listen_110 s_h_listen v_h_listen (t_h_listen hI hE hc hp h hcl9) (hcl9.at 0 (by decide) h0) rfl rfl rfl rfl (Nat.le_of_ble_eq_true rfl) rfl rfl ?_ ?_
  · rintro E h' ⟨_, _, ⟨rfl, rfl, k, hk, hcd⟩, hc'⟩
    match k, hk, hcd with
    | 0, hk, hcd =>
      cases hk
      exact ⟨[], [(0, 10, 17, 15)], (0, 10, 13, 13), eIO, rfl, (fun z hz => by cases hz), rfl, by decide, w197, w209, fun q => x_astore d_L_listen_13 (by decide) (x_iconst d_L_listen_15 (x_iret rfl d_L_listen_16 ⟨by rw [hcd]; rfl, _, _, _, hc', Or.inr ⟨by omega, rfl, rfl, rfl⟩⟩))⟩
    | 1, hk, hcd =>
      cases hk
      exact ⟨[(0, 10, 13, 13)], [], (0, 10, 17, 15), eIS, rfl, (fun z hz => by rcases List.mem_singleton.mp hz with rfl; exact ⟨by decide, eIO, w197, hN.1⟩), rfl, by decide, w198, w295, fun q => x_astore d_L_listen_17 (by decide) (x_iconst d_L_listen_19 (x_iret rfl d_L_listen_20 ⟨by rw [hcd]; rfl, _, _, _, hc', Or.inr ⟨by omega, rfl, rfl, rfl⟩⟩))⟩
    | k + 2, hk, hcd => cases hk
  · rintro _ h' ⟨ad', S', ⟨hcd, rfl, hag, hE'⟩, hc'⟩
    refine x_i2l d_L_listen_8 ?_
    refine x_last (n := 1) d_L_listen_9 (hc'.2.2.1 out _ (hset_s _ _ _)) (by decide) (by decide) (by decide) ?_
    refine x_goto (tgt := 21) d_L_listen_10 (by decide) ?_
    refine x_iconst d_L_listen_21 ?_
    exact x_iret rfl d_L_listen_22 ⟨by rw [hcd], ad', S', _, cls_up hc', Or.inl ⟨hcd, hag, hE', rfl⟩⟩
theorem t_L_publish {g : xG} {K : hp} {ad : cA} {S : gS} {c p k : Int} {out : Nat} {o0 : Nat → Int64} (hN : ncOk g) (hI : Inv S) (hE : Ext S) (hc : R32 c) (hp : R32 p) (hk : R32 k) : ∀ h, cls g (hset K out (larr g 1 o0)) ad S h → xM g y_L_publish k_L_publish M_L_publish [.ref (ad 0 0), .int (iI c), .int (iI p), .int (iI k), .ref out] h (LQ g K out ad S (cd_publish S c p k) (vl_publish S c p k) (st_publish S c p k) o0) mN := by
  intro h hcl9
  have h0 := hE.h
  refine xM.ofH rfl (by decide) rfl rfl (by simp [Value.category]) (Nat.le_of_ble_eq_true rfl) rfl ?_
  refine x_aload d_L_publish_0 rfl ?_
  refine x_iconst d_L_publish_2 ?_
  refine x_aload_n d_L_publish_3 rfl ?_
  refine x_iload_n d_L_publish_4 rfl ?_
  refine x_iload_n d_L_publish_5 rfl ?_
  refine x_iload_n d_L_publish_6 rfl ?_
  refine x_callVC (rc' := 0) (rs' := 0) (r := (RX6, TX6, 7)) d_L_publish_7 q_L_publish_113 s_h_publish v_h_publish (t_h_publish hI hE hc hp hk h hcl9) (hcl9.at 0 (by decide) h0) rfl rfl rfl rfl (Nat.le_of_ble_eq_true rfl) rfl rfl ?_ ?_
  · rintro E h' ⟨_, _, ⟨rfl, rfl, k, hk, hcd⟩, hc'⟩
    match k, hk, hcd with
    | 0, hk, hcd =>
      cases hk
      exact ⟨[], [(0, 12, 19, 15)], (0, 12, 15, 13), eIO, rfl, (fun z hz => by cases hz), rfl, by decide, w197, w209, fun q => x_astore d_L_publish_15 (by decide) (x_iconst d_L_publish_17 (x_iret rfl d_L_publish_18 ⟨by rw [hcd]; rfl, _, _, _, hc', Or.inr ⟨by omega, rfl, rfl, rfl⟩⟩))⟩
    | 1, hk, hcd =>
      cases hk
      exact ⟨[(0, 12, 15, 13)], [], (0, 12, 19, 15), eIS, rfl, (fun z hz => by rcases List.mem_singleton.mp hz with rfl; exact ⟨by decide, eIO, w197, hN.1⟩), rfl, by decide, w198, w295, fun q => x_astore d_L_publish_19 (by decide) (x_iconst d_L_publish_21 (x_iret rfl d_L_publish_22 ⟨by rw [hcd]; rfl, _, _, _, hc', Or.inr ⟨by omega, rfl, rfl, rfl⟩⟩))⟩
    | k + 2, hk, hcd => cases hk
  · rintro _ h' ⟨ad', S', ⟨hcd, rfl, hag, hE'⟩, hc'⟩
    refine x_i2l d_L_publish_10 ?_
    refine x_last (n := 1) d_L_publish_11 (hc'.2.2.1 out _ (hset_s _ _ _)) (by decide) (by decide) (by decide) ?_
    refine x_goto (tgt := 23) d_L_publish_12 (by decide) ?_
    refine x_iconst d_L_publish_23 ?_
    exact x_iret rfl d_L_publish_24 ⟨by rw [hcd], ad', S', _, cls_up hc', Or.inl ⟨hcd, hag, hE', rfl⟩⟩
theorem t_L_connect {g : xG} {K : hp} {ad : cA} {S : gS} {c a p : Int} {out : Nat} {o0 : Nat → Int64} (hN : ncOk g) (hI : Inv S) (hE : Ext S) (hc : R32 c) (ha : R32 a) (hp : R32 p) (hX9 : InvX S) : ∀ h, cls g (hset K out (larr g 1 o0)) ad S h → xM g y_L_connect k_L_connect M_L_connect [.ref (ad 0 0), .int (iI c), .int (iI a), .int (iI p), .ref out] h (LQ g K out ad S (cd_connect S c a p) (vl_connect S c a p) (st_connect S c a p) o0) mN := by
  intro h hcl9
  have h0 := hE.h
  refine xM.ofH rfl (by decide) rfl rfl (by simp [Value.category]) (Nat.le_of_ble_eq_true rfl) rfl ?_
  refine x_aload d_L_connect_0 rfl ?_
  refine x_iconst d_L_connect_2 ?_
  refine x_aload_n d_L_connect_3 rfl ?_
  refine x_iload_n d_L_connect_4 rfl ?_
  refine x_iload_n d_L_connect_5 rfl ?_
  refine x_iload_n d_L_connect_6 rfl ?_
  refine x_callVC (rc' := 0) (rs' := 0) (r := (RX6, TX6, 7)) d_L_connect_7 q_L_connect_116 s_h_connect v_h_connect (t_h_connect hI hE hc ha hp hX9 h hcl9) (hcl9.at 0 (by decide) h0) rfl rfl rfl rfl (Nat.le_of_ble_eq_true rfl) rfl rfl ?_ ?_
  · rintro E h' ⟨_, _, ⟨rfl, rfl, k, hk, hcd⟩, hc'⟩
    match k, hk, hcd with
    | 0, hk, hcd =>
      cases hk
      exact ⟨[], [(0, 12, 19, 21), (0, 12, 23, 15)], (0, 12, 15, 13), eIO, rfl, (fun z hz => by cases hz), rfl, by decide, w197, w209, fun q => x_astore d_L_connect_15 (by decide) (x_iconst d_L_connect_17 (x_iret rfl d_L_connect_18 ⟨by rw [hcd]; rfl, _, _, _, hc', Or.inr ⟨by omega, rfl, rfl, rfl⟩⟩))⟩
    | 1, hk, hcd =>
      cases hk
      exact ⟨[(0, 12, 15, 13)], [(0, 12, 23, 15)], (0, 12, 19, 21), eIA, rfl, (fun z hz => by rcases List.mem_singleton.mp hz with rfl; exact ⟨by decide, eIO, w197, hN.2.1⟩), rfl, by decide, w356, w370, fun q => x_astore d_L_connect_19 (by decide) (x_iconst d_L_connect_21 (x_iret rfl d_L_connect_22 ⟨by rw [hcd]; rfl, _, _, _, hc', Or.inr ⟨by omega, rfl, rfl, rfl⟩⟩))⟩
    | 2, hk, hcd =>
      cases hk
      exact ⟨[(0, 12, 15, 13), (0, 12, 19, 21)], [], (0, 12, 23, 15), eIS, rfl, (fun z hz => by rcases List.mem_cons.mp hz with rfl | hz; exact ⟨by decide, eIO, w197, hN.1⟩; rcases List.mem_singleton.mp hz with rfl; exact ⟨by decide, eIA, w356, hN.2.2⟩), rfl, by decide, w198, w295, fun q => x_astore d_L_connect_23 (by decide) (x_iconst d_L_connect_25 (x_iret rfl d_L_connect_26 ⟨by rw [hcd]; rfl, _, _, _, hc', Or.inr ⟨by omega, rfl, rfl, rfl⟩⟩))⟩
    | k + 3, hk, hcd => cases hk
  · rintro _ h' ⟨ad', S', ⟨hcd, rfl, hag, hE'⟩, hc'⟩
    refine x_i2l d_L_connect_10 ?_
    refine x_last (n := 1) d_L_connect_11 (hc'.2.2.1 out _ (hset_s _ _ _)) (by decide) (by decide) (by decide) ?_
    refine x_goto (tgt := 27) d_L_connect_12 (by decide) ?_
    refine x_iconst d_L_connect_27 ?_
    exact x_iret rfl d_L_connect_28 ⟨by rw [hcd], ad', S', _, cls_up hc', Or.inl ⟨hcd, hag, hE', rfl⟩⟩
theorem t_L_connectHost {g : xG} {K : hp} {ad : cA} {S : gS} {k : Int} {out : Nat} {o0 : Nat → Int64} (hN : ncOk g) (hI : Inv S) (hE : Ext S) (hk : R32 k) : ∀ h, cls g (hset K out (larr g 1 o0)) ad S h → xM g y_L_connectHost k_L_connectHost M_L_connectHost [.ref (ad 0 0), .int (iI k), .ref out] h (LQ g K out ad S (cd_connectHost S k) (vl_connectHost S k) (st_connectHost S k) o0) mN := by
  intro h hcl9
  have h0 := hE.h
  refine xM.ofH rfl (by decide) rfl rfl (by simp [Value.category]) (Nat.le_of_ble_eq_true rfl) rfl ?_
  refine x_aload_n d_L_connectHost_0 rfl ?_
  refine x_iconst d_L_connectHost_1 ?_
  refine x_aload_n d_L_connectHost_2 rfl ?_
  refine x_iload_n d_L_connectHost_3 rfl ?_
  refine x_callVC (rc' := 0) (rs' := 0) (r := (RX6, TX6, 7)) d_L_connectHost_4 q_L_connectHost_119 s_h_connectHost v_h_connectHost (t_h_connectHost hI hE hk h hcl9) (hcl9.at 0 (by decide) h0) rfl rfl rfl rfl (Nat.le_of_ble_eq_true rfl) rfl rfl ?_ ?_
  · rintro E h' ⟨_, _, ⟨rfl, rfl, k, hk, hcd⟩, hc'⟩
    match k, hk, hcd with
    | 0, hk, hcd =>
      cases hk
      exact ⟨[], [], (0, 9, 12, 13), eIO, rfl, (fun z hz => by cases hz), rfl, by decide, w197, w209, fun q => x_astore_n d_L_connectHost_12 (by decide) (x_iconst d_L_connectHost_13 (x_iret rfl d_L_connectHost_14 ⟨by rw [hcd]; rfl, _, _, _, hc', Or.inr ⟨by omega, rfl, rfl, rfl⟩⟩))⟩
    | k + 1, hk, hcd => cases hk
  · rintro _ h' ⟨ad', S', ⟨hcd, rfl, hag, hE'⟩, hc'⟩
    refine x_i2l d_L_connectHost_7 ?_
    refine x_last (n := 1) d_L_connectHost_8 (hc'.2.2.1 out _ (hset_s _ _ _)) (by decide) (by decide) (by decide) ?_
    refine x_goto (tgt := 15) d_L_connectHost_9 (by decide) ?_
    refine x_iconst d_L_connectHost_15 ?_
    exact x_iret rfl d_L_connectHost_16 ⟨by rw [hcd], ad', S', _, cls_up hc', Or.inl ⟨hcd, hag, hE', rfl⟩⟩
theorem t_L_save {g : xG} {K : hp} {ad : cA} {S : gS} {c : Int} {out : Nat} {o0 : Nat → Int64} (hN : ncOk g) (hI : Inv S) (hE : Ext S) (hc : R32 c) : ∀ h, cls g (hset K out (larr g 1 o0)) ad S h → xM g y_L_save k_L_save M_L_save [.ref (ad 0 0), .int (iI c), .ref out] h (LQ g K out ad S (cd_save S c) (vl_save S c) (st_save S c) o0) mN := by
  intro h hcl9
  have h0 := hE.h
  refine xM.ofH rfl (by decide) rfl rfl (by simp [Value.category]) (Nat.le_of_ble_eq_true rfl) rfl ?_
  refine x_aload_n d_L_save_0 rfl ?_
  refine x_iconst d_L_save_1 ?_
  refine x_aload_n d_L_save_2 rfl ?_
  refine x_iload_n d_L_save_3 rfl ?_
  refine x_callVC (rc' := 0) (rs' := 0) (r := (RX6, TX6, 7)) d_L_save_4 q_L_save_122 s_h_save v_h_save (t_h_save hI hE hc h hcl9) (hcl9.at 0 (by decide) h0) rfl rfl rfl rfl (Nat.le_of_ble_eq_true rfl) rfl rfl ?_ ?_
  · rintro E h' ⟨_, _, ⟨rfl, rfl, k, hk, hcd⟩, hc'⟩
    match k, hk, hcd with
    | 0, hk, hcd =>
      cases hk
      exact ⟨[], [(0, 9, 15, 15)], (0, 9, 12, 13), eIO, rfl, (fun z hz => by cases hz), rfl, by decide, w197, w209, fun q => x_astore_n d_L_save_12 (by decide) (x_iconst d_L_save_13 (x_iret rfl d_L_save_14 ⟨by rw [hcd]; rfl, _, _, _, hc', Or.inr ⟨by omega, rfl, rfl, rfl⟩⟩))⟩
    | 1, hk, hcd =>
      cases hk
      exact ⟨[(0, 9, 12, 13)], [], (0, 9, 15, 15), eIS, rfl, (fun z hz => by rcases List.mem_singleton.mp hz with rfl; exact ⟨by decide, eIO, w197, hN.1⟩), rfl, by decide, w198, w295, fun q => x_astore_n d_L_save_15 (by decide) (x_iconst d_L_save_16 (x_iret rfl d_L_save_17 ⟨by rw [hcd]; rfl, _, _, _, hc', Or.inr ⟨by omega, rfl, rfl, rfl⟩⟩))⟩
    | k + 2, hk, hcd => cases hk
  · rintro _ h' ⟨ad', S', ⟨hcd, rfl, hag, hE'⟩, hc'⟩
    refine x_i2l d_L_save_7 ?_
    refine x_last (n := 1) d_L_save_8 (hc'.2.2.1 out _ (hset_s _ _ _)) (by decide) (by decide) (by decide) ?_
    refine x_goto (tgt := 18) d_L_save_9 (by decide) ?_
    refine x_iconst d_L_save_18 ?_
    exact x_iret rfl d_L_save_19 ⟨by rw [hcd], ad', S', _, cls_up hc', Or.inl ⟨hcd, hag, hE', rfl⟩⟩
theorem t_L_restore {g : xG} {K : hp} {ad : cA} {S : gS} {k w : Int} {out : Nat} {o0 : Nat → Int64} (hN : ncOk g) (hI : Inv S) (hE : Ext S) (hk : R32 k) (hw : R32 w) : ∀ h, cls g (hset K out (larr g 1 o0)) ad S h → xM g y_L_restore k_L_restore M_L_restore [.ref (ad 0 0), .int (iI k), .int (iI w), .ref out] h (LQ g K out ad S (cd_restore S k w) (vl_restore S k w) (st_restore S k w) o0) mN := by
  intro h hcl9
  have h0 := hE.h
  refine xM.ofH rfl (by decide) rfl rfl (by simp [Value.category]) (Nat.le_of_ble_eq_true rfl) rfl ?_
  refine x_aload_n d_L_restore_0 rfl ?_
  refine x_iconst d_L_restore_1 ?_
  refine x_aload_n d_L_restore_2 rfl ?_
  refine x_iload_n d_L_restore_3 rfl ?_
  refine x_iload_n d_L_restore_4 rfl ?_
  refine x_callVC (rc' := 0) (rs' := 0) (r := (RX6, TX6, 7)) d_L_restore_5 q_L_restore_125 s_h_restore v_h_restore (t_h_restore hI hE hk hw h hcl9) (hcl9.at 0 (by decide) h0) rfl rfl rfl rfl (Nat.le_of_ble_eq_true rfl) rfl rfl ?_ ?_
  · rintro E h' ⟨_, _, ⟨rfl, rfl, k, hk, hcd⟩, hc'⟩
    match k, hk, hcd with
    | 0, hk, hcd =>
      cases hk
      exact ⟨[], [(0, 10, 17, 15)], (0, 10, 13, 13), eIO, rfl, (fun z hz => by cases hz), rfl, by decide, w197, w209, fun q => x_astore d_L_restore_13 (by decide) (x_iconst d_L_restore_15 (x_iret rfl d_L_restore_16 ⟨by rw [hcd]; rfl, _, _, _, hc', Or.inr ⟨by omega, rfl, rfl, rfl⟩⟩))⟩
    | 1, hk, hcd =>
      cases hk
      exact ⟨[(0, 10, 13, 13)], [], (0, 10, 17, 15), eIS, rfl, (fun z hz => by rcases List.mem_singleton.mp hz with rfl; exact ⟨by decide, eIO, w197, hN.1⟩), rfl, by decide, w198, w295, fun q => x_astore d_L_restore_17 (by decide) (x_iconst d_L_restore_19 (x_iret rfl d_L_restore_20 ⟨by rw [hcd]; rfl, _, _, _, hc', Or.inr ⟨by omega, rfl, rfl, rfl⟩⟩))⟩
    | k + 2, hk, hcd => cases hk
  · rintro _ h' ⟨ad', S', ⟨hcd, rfl, hag, hE'⟩, hc'⟩
    refine x_i2l d_L_restore_8 ?_
    refine x_last (n := 1) d_L_restore_9 (hc'.2.2.1 out _ (hset_s _ _ _)) (by decide) (by decide) (by decide) ?_
    refine x_goto (tgt := 21) d_L_restore_10 (by decide) ?_
    refine x_iconst d_L_restore_21 ?_
    exact x_iret rfl d_L_restore_22 ⟨by rw [hcd], ad', S', _, cls_up hc', Or.inl ⟨hcd, hag, hE', rfl⟩⟩
theorem t_L_stateOf {g : xG} {K : hp} {ad : cA} {S : gS} {c : Int} {out : Nat} {o0 : Nat → Int64} (hN : ncOk g) (hI : Inv S) (hE : Ext S) (hc : R32 c) : ∀ h, cls g (hset K out (larr g 1 o0)) ad S h → xM g y_L_stateOf k_L_stateOf M_L_stateOf [.ref (ad 0 0), .int (iI c), .ref out] h (LQ g K out ad S (cd_stateOf S c) (vl_stateOf S c) (st_stateOf S c) o0) mN := by
  intro h hcl9
  have h0 := hE.h
  refine xM.ofH rfl (by decide) rfl rfl (by simp [Value.category]) (Nat.le_of_ble_eq_true rfl) rfl ?_
  refine x_aload_n d_L_stateOf_0 rfl ?_
  refine x_iconst d_L_stateOf_1 ?_
  refine x_aload_n d_L_stateOf_2 rfl ?_
  refine x_iload_n d_L_stateOf_3 rfl ?_
  refine x_callVC (rc' := 0) (rs' := 0) (r := (RX6, TX6, 7)) d_L_stateOf_4 q_L_stateOf_128 s_h_stateOf v_h_stateOf (t_h_stateOf hI hE hc h hcl9) (hcl9.at 0 (by decide) h0) rfl rfl rfl rfl (Nat.le_of_ble_eq_true rfl) rfl rfl ?_ ?_
  · rintro E h' ⟨_, _, ⟨rfl, rfl, k, hk, hcd⟩, hc'⟩
    match k, hk, hcd with
    | 0, hk, hcd =>
      cases hk
      exact ⟨[], [], (0, 9, 12, 13), eIO, rfl, (fun z hz => by cases hz), rfl, by decide, w197, w209, fun q => x_astore_n d_L_stateOf_12 (by decide) (x_iconst d_L_stateOf_13 (x_iret rfl d_L_stateOf_14 ⟨by rw [hcd]; rfl, _, _, _, hc', Or.inr ⟨by omega, rfl, rfl, rfl⟩⟩))⟩
    | k + 1, hk, hcd => cases hk
  · rintro _ h' ⟨ad', S', ⟨hcd, rfl, hag, hE'⟩, hc'⟩
    refine x_i2l d_L_stateOf_7 ?_
    refine x_last (n := 1) d_L_stateOf_8 (hc'.2.2.1 out _ (hset_s _ _ _)) (by decide) (by decide) (by decide) ?_
    refine x_goto (tgt := 15) d_L_stateOf_9 (by decide) ?_
    refine x_iconst d_L_stateOf_15 ?_
    exact x_iret rfl d_L_stateOf_16 ⟨by rw [hcd], ad', S', _, cls_up hc', Or.inl ⟨hcd, hag, hE', rfl⟩⟩
theorem t_L_memoryOf {g : xG} {K : hp} {ad : cA} {S : gS} {c : Int} {out : Nat} {o0 : Nat → Int64} (hN : ncOk g) (hI : Inv S) (hE : Ext S) (hc : R32 c) : ∀ h, cls g (hset K out (larr g 1 o0)) ad S h → xM g y_L_memoryOf k_L_memoryOf M_L_memoryOf [.ref (ad 0 0), .int (iI c), .ref out] h (LQ g K out ad S (cd_memoryOf S c) (vl_memoryOf S c) (st_memoryOf S c) o0) mN := by
  intro h hcl9
  have h0 := hE.h
  refine xM.ofH rfl (by decide) rfl rfl (by simp [Value.category]) (Nat.le_of_ble_eq_true rfl) rfl ?_
  refine x_aload_n d_L_memoryOf_0 rfl ?_
  refine x_iconst d_L_memoryOf_1 ?_
  refine x_aload_n d_L_memoryOf_2 rfl ?_
  refine x_iload_n d_L_memoryOf_3 rfl ?_
  refine x_callVC (rc' := 0) (rs' := 0) (r := (RX6, TX6, 7)) d_L_memoryOf_4 q_L_memoryOf_131 s_h_memoryOf v_h_memoryOf (t_h_memoryOf hI hE hc h hcl9) (hcl9.at 0 (by decide) h0) rfl rfl rfl rfl (Nat.le_of_ble_eq_true rfl) rfl rfl ?_ ?_
  · rintro E h' ⟨_, _, ⟨rfl, rfl, k, hk, hcd⟩, hc'⟩
    match k, hk, hcd with
    | 0, hk, hcd =>
      cases hk
      exact ⟨[], [], (0, 9, 12, 13), eIO, rfl, (fun z hz => by cases hz), rfl, by decide, w197, w209, fun q => x_astore_n d_L_memoryOf_12 (by decide) (x_iconst d_L_memoryOf_13 (x_iret rfl d_L_memoryOf_14 ⟨by rw [hcd]; rfl, _, _, _, hc', Or.inr ⟨by omega, rfl, rfl, rfl⟩⟩))⟩
    | k + 1, hk, hcd => cases hk
  · rintro _ h' ⟨ad', S', ⟨hcd, rfl, hag, hE'⟩, hc'⟩
    refine x_i2l d_L_memoryOf_7 ?_
    refine x_last (n := 1) d_L_memoryOf_8 (hc'.2.2.1 out _ (hset_s _ _ _)) (by decide) (by decide) (by decide) ?_
    refine x_goto (tgt := 15) d_L_memoryOf_9 (by decide) ?_
    refine x_iconst d_L_memoryOf_15 ?_
    exact x_iret rfl d_L_memoryOf_16 ⟨by rw [hcd], ad', S', _, cls_up hc', Or.inl ⟨hcd, hag, hE', rfl⟩⟩
theorem t_L_timeOf {g : xG} {K : hp} {ad : cA} {S : gS} {c : Int} {out : Nat} {o0 : Nat → Int64} (hN : ncOk g) (hI : Inv S) (hE : Ext S) (hc : R32 c) : ∀ h, cls g (hset K out (larr g 1 o0)) ad S h → xM g y_L_timeOf k_L_timeOf M_L_timeOf [.ref (ad 0 0), .int (iI c), .ref out] h (LQ g K out ad S (cd_timeOf S c) (vl_timeOf S c) (st_timeOf S c) o0) mN := by
  intro h hcl9
  have h0 := hE.h
  refine xM.ofH rfl (by decide) rfl rfl (by simp [Value.category]) (Nat.le_of_ble_eq_true rfl) rfl ?_
  refine x_aload_n d_L_timeOf_0 rfl ?_
  refine x_iconst d_L_timeOf_1 ?_
  refine x_aload_n d_L_timeOf_2 rfl ?_
  refine x_iload_n d_L_timeOf_3 rfl ?_
  refine x_callVC (rc' := 0) (rs' := 0) (r := (RX6, TX6, 7)) d_L_timeOf_4 q_L_timeOf_134 s_h_timeOf v_h_timeOf (t_h_timeOf hI hE hc h hcl9) (hcl9.at 0 (by decide) h0) rfl rfl rfl rfl (Nat.le_of_ble_eq_true rfl) rfl rfl ?_ ?_
  · rintro E h' ⟨_, _, ⟨rfl, rfl, k, hk, hcd⟩, hc'⟩
    match k, hk, hcd with
    | 0, hk, hcd =>
      cases hk
      exact ⟨[], [], (0, 9, 12, 13), eIO, rfl, (fun z hz => by cases hz), rfl, by decide, w197, w209, fun q => x_astore_n d_L_timeOf_12 (by decide) (x_iconst d_L_timeOf_13 (x_iret rfl d_L_timeOf_14 ⟨by rw [hcd]; rfl, _, _, _, hc', Or.inr ⟨by omega, rfl, rfl, rfl⟩⟩))⟩
    | k + 1, hk, hcd => cases hk
  · rintro _ h' ⟨ad', S', ⟨hcd, rfl, hag, hE'⟩, hc'⟩
    refine x_i2l d_L_timeOf_7 ?_
    refine x_last (n := 1) d_L_timeOf_8 (hc'.2.2.1 out _ (hset_s _ _ _)) (by decide) (by decide) (by decide) ?_
    refine x_goto (tgt := 15) d_L_timeOf_9 (by decide) ?_
    refine x_iconst d_L_timeOf_15 ?_
    exact x_iret rfl d_L_timeOf_16 ⟨by rw [hcd], ad', S', _, cls_up hc', Or.inl ⟨hcd, hag, hE', rfl⟩⟩
theorem t_L_capabilitiesOf {g : xG} {K : hp} {ad : cA} {S : gS} {c : Int} {out : Nat} {o0 : Nat → Int64} (hN : ncOk g) (hI : Inv S) (hE : Ext S) (hc : R32 c) : ∀ h, cls g (hset K out (larr g 1 o0)) ad S h → xM g y_L_capabilitiesOf k_L_capabilitiesOf M_L_capabilitiesOf [.ref (ad 0 0), .int (iI c), .ref out] h (LQ g K out ad S (cd_capabilitiesOf S c) (vl_capabilitiesOf S c) (st_capabilitiesOf S c) o0) mN := by
  intro h hcl9
  have h0 := hE.h
  refine xM.ofH rfl (by decide) rfl rfl (by simp [Value.category]) (Nat.le_of_ble_eq_true rfl) rfl ?_
  refine x_aload_n d_L_capabilitiesOf_0 rfl ?_
  refine x_iconst d_L_capabilitiesOf_1 ?_
  refine x_aload_n d_L_capabilitiesOf_2 rfl ?_
  refine x_iload_n d_L_capabilitiesOf_3 rfl ?_
  refine x_callVC (rc' := 0) (rs' := 0) (r := (RX6, TX6, 7)) d_L_capabilitiesOf_4 q_L_capabilitiesOf_137 s_h_capabilitiesOf v_h_capabilitiesOf (t_h_capabilitiesOf hI hE hc h hcl9) (hcl9.at 0 (by decide) h0) rfl rfl rfl rfl (Nat.le_of_ble_eq_true rfl) rfl rfl ?_ ?_
  · rintro E h' ⟨_, _, ⟨rfl, rfl, k, hk, hcd⟩, hc'⟩
    match k, hk, hcd with
    | 0, hk, hcd =>
      cases hk
      exact ⟨[], [], (0, 9, 12, 13), eIO, rfl, (fun z hz => by cases hz), rfl, by decide, w197, w209, fun q => x_astore_n d_L_capabilitiesOf_12 (by decide) (x_iconst d_L_capabilitiesOf_13 (x_iret rfl d_L_capabilitiesOf_14 ⟨by rw [hcd]; rfl, _, _, _, hc', Or.inr ⟨by omega, rfl, rfl, rfl⟩⟩))⟩
    | k + 1, hk, hcd => cases hk
  · rintro _ h' ⟨ad', S', ⟨hcd, rfl, hag, hE'⟩, hc'⟩
    refine x_i2l d_L_capabilitiesOf_7 ?_
    refine x_last (n := 1) d_L_capabilitiesOf_8 (hc'.2.2.1 out _ (hset_s _ _ _)) (by decide) (by decide) (by decide) ?_
    refine x_goto (tgt := 15) d_L_capabilitiesOf_9 (by decide) ?_
    refine x_iconst d_L_capabilitiesOf_15 ?_
    exact x_iret rfl d_L_capabilitiesOf_16 ⟨by rw [hcd], ad', S', _, cls_up hc', Or.inl ⟨hcd, hag, hE', rfl⟩⟩
theorem t_L_addressOf {g : xG} {K : hp} {ad : cA} {S : gS} {c : Int} {out : Nat} {o0 : Nat → Int64} (hN : ncOk g) (hI : Inv S) (hE : Ext S) (hc : R32 c) : ∀ h, cls g (hset K out (larr g 1 o0)) ad S h → xM g y_L_addressOf k_L_addressOf M_L_addressOf [.ref (ad 0 0), .int (iI c), .ref out] h (LQ g K out ad S (cd_addressOf S c) (vl_addressOf S c) (st_addressOf S c) o0) mN := by
  intro h hcl9
  have h0 := hE.h
  refine xM.ofH rfl (by decide) rfl rfl (by simp [Value.category]) (Nat.le_of_ble_eq_true rfl) rfl ?_
  refine x_aload_n d_L_addressOf_0 rfl ?_
  refine x_iconst d_L_addressOf_1 ?_
  refine x_aload_n d_L_addressOf_2 rfl ?_
  refine x_iload_n d_L_addressOf_3 rfl ?_
  refine x_callVC (rc' := 0) (rs' := 0) (r := (RX6, TX6, 7)) d_L_addressOf_4 q_L_addressOf_140 s_h_addressOf v_h_addressOf (t_h_addressOf hI hE hc h hcl9) (hcl9.at 0 (by decide) h0) rfl rfl rfl rfl (Nat.le_of_ble_eq_true rfl) rfl rfl ?_ ?_
  · rintro E h' ⟨_, _, ⟨rfl, rfl, k, hk, hcd⟩, hc'⟩
    match k, hk, hcd with
    | 0, hk, hcd =>
      cases hk
      exact ⟨[], [], (0, 9, 12, 13), eIO, rfl, (fun z hz => by cases hz), rfl, by decide, w197, w209, fun q => x_astore_n d_L_addressOf_12 (by decide) (x_iconst d_L_addressOf_13 (x_iret rfl d_L_addressOf_14 ⟨by rw [hcd]; rfl, _, _, _, hc', Or.inr ⟨by omega, rfl, rfl, rfl⟩⟩))⟩
    | k + 1, hk, hcd => cases hk
  · rintro _ h' ⟨ad', S', ⟨hcd, rfl, hag, hE'⟩, hc'⟩
    refine x_i2l d_L_addressOf_7 ?_
    refine x_last (n := 1) d_L_addressOf_8 (hc'.2.2.1 out _ (hset_s _ _ _)) (by decide) (by decide) (by decide) ?_
    refine x_goto (tgt := 15) d_L_addressOf_9 (by decide) ?_
    refine x_iconst d_L_addressOf_15 ?_
    exact x_iret rfl d_L_addressOf_16 ⟨by rw [hcd], ad', S', _, cls_up hc', Or.inl ⟨hcd, hag, hE', rfl⟩⟩
