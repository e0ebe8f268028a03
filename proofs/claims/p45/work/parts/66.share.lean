/-- what lives, alone -/
def Ex0 (S : gS) : Prop := ExL S
theorem Ext.x0 {S : gS} (hE : Ext S) : Ex0 S := hE.1
section E0
variable {S : gS}
theorem Ex0.h (hE : Ex0 S) : S 50 0 = 1 := hE.1
theorem Ex0.l (hE : Ex0 S) {n : Int} (h0 : 1 ≤ n) (h1 : n ≤ 5) : S 51 n = 1 := hE.2.1 n h0 h1
theorem Ex0.p (hE : Ex0 S) {i : Int} (h0 : 0 ≤ i) (h1 : i < S 6 0) : S 53 i = 1 := (hE.2.2.2.1 i).mpr ⟨h0, h1⟩
theorem Ex0.k (hE : Ex0 S) {i : Int} (h0 : 0 ≤ i) (h1 : i < S 11 0) : S 54 i = 1 := (hE.2.2.2.2.1 i).mpr ⟨h0, h1⟩
theorem Ex0.o (hE : Ex0 S) : S 59 0 = 1 := hE.2.2.2.2.2.2.2.2.1
theorem Ex0.r (hE : Ex0 S) : S 60 0 = 1 := hE.2.2.2.2.2.2.2.2.2.1
theorem Ex0.e (hE : Ex0 S) : ∀ n, S 58 n = 1 ∨ S 51 n = 1 → 1 ≤ n ∧ n ≤ 5 := hE.2.2.2.2.2.2.2.2.2.2.1
theorem Ex0.pt (hE : Ex0 S) {j : Int} (h0 : 0 ≤ j) (h1 : j < S 43 0) : (S 44 j < 8 ∧ S 53 (S 44 j) = 1) ∨ (8 ≤ S 44 j ∧ S 54 (S 44 j - 8) = 1) := hE.2.2.2.2.2.2.2.2.2.2.2 j h0 h1
end E0
theorem L0_h_hasRunning {g : xG} {K : hp} {ad : cA} {S : gS} {QX : qKE} {rc rs : Nat} {p : Int} (hI : Inv S) (hE : Ex0 S) (hp0 : 0 ≤ p) (hp1 : p < S 6 0) : ∀ (f9 i : Nat) (v3 : Option Value), (i : Int) ≤ S 11 0 → S 11 0 < (i : Int) + f9 → runN S p i = 0 → cW g M_h_hasRunning K (rd ad S (.int (iI (run1 S p)))) QX rc rs ad S 2 [some (.ref (ad 0 0)), some (.ref (ad 3 p)), some (.int (iI (i : Int))), v3] [] := by
  intro f9
  induction f9 with
  | zero => intros; omega
  | succ f9 ih =>
    intro i v3 q1 q2 q3
    obtain ⟨hR, hI1, hI2, hI3, hI4, hI5, hI6, hI7⟩ := id hI
    unfold Inv1 at hI1
    have h0 := hE.h
    have hL1 := hE.l (n := 1) (by decide) (by decide)
    have hL2 := hE.l (n := 2) (by decide) (by decide)
    have hL3 := hE.l (n := 3) (by decide) (by decide)
    have hL4 := hE.l (n := 4) (by decide) (by decide)
    have hL5 := hE.l (n := 5) (by decide) (by decide)
    have hO := hE.o
    have hRm := hE.r
    refine c_iload_n d_h_hasRunning_2 rfl ?_
    refine c_aload_n d_h_hasRunning_3 rfl ?_
    refine cg_h_19_6 h0 d_h_hasRunning_4 rfl ?_
    refine c_lsize3 hL3 d_h_hasRunning_7 q_h_hasRunning_147 (Nat.le_of_ble_eq_true rfl) rfl ?_
    refine c_icmp_ge (tgt := 51) d_h_hasRunning_10 (by decide) (by first | assumption | exact hR _ _ (by decide) | (unfold R32; omega)) (by first | assumption | exact hR _ _ (by decide) | (unfold R32; omega)) (fun z10 => ?_) (fun z10 => ?_)
    · refine c_iconst d_h_hasRunning_51 ?_
      exact c_zret rfl (by omega) d_h_hasRunning_52 (⟨congrArg (fun z => some (Value.int (iI z))) (by unfold run1; rw [show (S 11 0).toNat = i by omega, q3]), rfl, rfl⟩)
    · have hgi := (hI4 i (by omega) (by omega)).2.1
      have hbl := bel_01 S (S 20 i) p
      refine c_aload_n d_h_hasRunning_13 rfl ?_
      refine cg_h_19_6 h0 d_h_hasRunning_14 rfl ?_
      refine c_iload_n d_h_hasRunning_17 rfl ?_
      refine c_lget3 hL3 (hE.k (by omega) (by omega)) (by omega) (by omega) d_h_hasRunning_18 d_h_hasRunning_21 q_h_hasRunning_226 (Nat.le_of_ble_eq_true rfl) rfl rfl ?_
      refine c_astore_n d_h_hasRunning_24 (by decide) ?_
      refine c_aload_n d_h_hasRunning_25 rfl ?_
      refine cg_h_191_2 (hE.k (by omega) (by omega)) d_h_hasRunning_26 rfl ?_
      refine c_if_ne (tgt := 45) d_h_hasRunning_29 (by decide) (by first | assumption | exact hR _ _ (by decide) | (unfold R32; omega)) (fun z29 => ?_) (fun z29 => ?_)
      · refine c_iinc d_h_hasRunning_45 rfl (by decide) ?_
        refine c_goto (tgt := 2) d_h_hasRunning_48 (by decide) ?_
        exact ih (i + 1) _ (by omega) (by omega) (if_neg (by rw [q3]; omega))
      · refine c_aload_n d_h_hasRunning_32 rfl ?_
        refine cg_h_214_2 (hE.k (by omega) (by omega)) d_h_hasRunning_33 rfl ?_
        refine c_aload_n d_h_hasRunning_36 rfl ?_
        refine c_callV (r := (RX2, TX2, 7)) d_h_hasRunning_37 q_h_hasRunning_250 s_g_isWithin v_g_isWithin (t_g_isWithin hI2 hI1 (fun p a b => hE.p a b) hgi.1 hgi.2 hp0 hp1) (fun _ z => ⟨_, z.at 3 (by decide) (hE.p hgi.1 hgi.2)⟩) rfl rfl rfl rfl (Nat.le_of_ble_eq_true rfl) rfl rfl rfl (fun _ _ _ z => z) ?_
        rintro _ _ _ ⟨rfl, rfl, rfl⟩
        refine c_if_eq (tgt := 45) d_h_hasRunning_40 (by decide) (by first | assumption | exact hR _ _ (by decide) | (unfold R32; omega)) (fun z40 => ?_) (fun z40 => ?_)
        · refine c_iinc d_h_hasRunning_45 rfl (by decide) ?_
          refine c_goto (tgt := 2) d_h_hasRunning_48 (by decide) ?_
          exact ih (i + 1) _ (by omega) (by omega) (if_neg (by rw [q3]; omega))
        · refine c_iconst d_h_hasRunning_43 ?_
          exact c_zret rfl (by omega) d_h_hasRunning_44 (⟨congrArg (fun z => some (Value.int (iI z))) (runN_hit S p (i := i) (by omega) (by omega) (S 11 0).toNat (by omega)).symm, rfl, rfl⟩)
theorem t0_h_hasRunning {g : xG} {K : hp} {ad : cA} {S : gS} {QX : qKE} {p : Int} (hI : Inv S) (hE : Ex0 S) (hp0 : 0 ≤ p) (hp1 : p < S 6 0) : cM g y_h_hasRunning k_h_hasRunning M_h_hasRunning K [.ref (ad 0 0), .ref (ad 3 p)] ad S (rd ad S (.int (iI (run1 S p)))) QX := by
  refine cM.of rfl (by decide) rfl rfl rfl (by simp [Value.category]) (Nat.le_of_ble_eq_true rfl) rfl ?_
  obtain ⟨hR, hI1, hI2, hI3, hI4, hI5, hI6, hI7⟩ := id hI
  unfold Inv1 at hI1
  have h0 := hE.h
  have hL1 := hE.l (n := 1) (by decide) (by decide)
  have hL2 := hE.l (n := 2) (by decide) (by decide)
  have hL3 := hE.l (n := 3) (by decide) (by decide)
  have hL4 := hE.l (n := 4) (by decide) (by decide)
  have hL5 := hE.l (n := 5) (by decide) (by decide)
  have hO := hE.o
  have hRm := hE.r
  refine c_iconst d_h_hasRunning_0 ?_
  refine c_istore_n d_h_hasRunning_1 (by decide) ?_
  exact L0_h_hasRunning hI hE hp0 hp1 (S 11 0 + 1).toNat 0 none (by omega) (by omega) rfl
theorem Wf_of0 {S : gS} (hI : Inv S) (hE : Ex0 S) : Wf S := by
  obtain ⟨hR, h1, h2, h3, h4, h5, h6, h7⟩ := id hI
  have L := hE
  refine ⟨fun i hi => ?_, fun c hc => ?_, fun k hk => ?_, fun l hl => ?_, fun p hp => ?_, fun n j hn j0 j1 => ?_, fun j j0 j1 => ?_⟩
  · have := (L.2.2.1 i).mp hi
    exact (fun z => (L.2.2.2.2.2.2.1 _).mpr z) (lvl.i this.1 this.2)
  · have q := (L.2.2.2.2.1 c).mp hc
    have := (h4 c q.1 q.2).2.1
    exact ⟨(fun z => (L.2.2.2.2.2.2.1 _).mpr z) (lvl.k q.1 q.2), hE.p this.1 this.2⟩
  · have q := (L.2.2.2.2.2.1 k).mp hk
    exact (fun z => (L.2.2.2.2.2.2.1 _).mpr z) (lvl.s q.1 q.2)
  · have q := (L.2.2.2.2.2.2.1 l).mp hl
    exact ⟨(L.2.2.2.2.2.2.2.1 _).mpr q, (q.dn hI).imp_right (fun z => (L.2.2.2.2.2.2.1 _).mpr z.2.2)⟩
  · have q := (L.2.2.2.1 p).mp hp
    by_cases z : S 7 p = -1
    · exact Or.inl z
    · have := h2.pa h1 p q.1 q.2
      exact Or.inr (hE.p (by omega) (by omega))
  · have hb := hE.e n (Or.inr hn)
    have : n = 1 ∨ n = 2 ∨ n = 3 ∨ n = 4 ∨ n = 5 := by omega
    rcases this with e | e | e | e | e
    · subst e; exact (L.2.2.1 _).mpr ⟨j0, j1⟩
    · subst e; exact hE.p j0 j1
    · subst e; exact hE.k j0 j1
    · subst e; exact (L.2.2.2.2.2.1 _).mpr ⟨j0, j1⟩
    · subst e
      have q := hE.pt j0 j1
      show S (50 + (if S 44 j < 8 then 3 else 4)) (if S 44 j < 8 then S 44 j else S 44 j - 8) = 1
      rcases q with ⟨a, b⟩ | ⟨a, b⟩
      · rw [if_pos a, if_pos a]; exact b
      · rw [if_neg (by omega), if_neg (by omega)]; exact b
  · have q := h6.2.2.2 j j0 j1
    by_cases z : S 24 j = -1
    · exact Or.inl z
    · exact Or.inr (hE.k (by omega) q.2)
theorem cn2_le (S : gS) (g : Int) : ∀ n : Nat, cn2 S g n ≤ n := by
  intro n
  induction n with
  | zero => exact Nat.le_refl 0
  | succ n ih => unfold cn2; split <;> omega
theorem cn2_mono (S : gS) (g : Int) {a : Nat} : ∀ b : Nat, a ≤ b → cn2 S g a ≤ cn2 S g b := by
  intro b
  induction b with
  | zero => intro h; rw [show a = 0 by omega]; exact Nat.le_refl _
  | succ b ih =>
    intro h
    by_cases e : a = b + 1
    · rw [e]; exact Nat.le_refl _
    · have := ih (by omega)
      show cn2 S g a ≤ cn2 S g b + _
      omega
theorem cn2_lt (S : gS) (g : Int) {a b : Nat} (h : a < b) (hi : isp S a g = 1) : cn2 S g a < cn2 S g b := by
  have h1 : cn2 S g (a + 1) = cn2 S g a + 1 := by
    show cn2 S g a + (if isp S a g = 1 then 1 else 0) = _
    rw [if_pos hi]
  have := cn2_mono S g b (show a + 1 ≤ b by omega)
  omega
theorem cn2_inj (S : gS) (g : Int) {a b : Nat} (ha : isp S a g = 1) (hb : isp S b g = 1) (h : cn2 S g a = cn2 S g b) : a = b := by
  rcases (by omega : a < b ∨ a = b ∨ b < a) with q | q | q
  · have := cn2_lt S g q ha; omega
  · exact q
  · have := cn2_lt S g q hb; omega
theorem cn2_inv (S : gS) (g : Int) {j : Nat} : ∀ n : Nat, j < cn2 S g n → ∃ p : Nat, p < n ∧ isp S p g = 1 ∧ cn2 S g p = j := by
  intro n
  induction n with
  | zero => intro h; exact absurd h (Nat.not_lt_zero _)
  | succ n ih =>
    intro h
    by_cases q : j < cn2 S g n
    · obtain ⟨p, a, b, c⟩ := ih q
      exact ⟨p, by omega, b, c⟩
    · have h' : j < cn2 S g n + (if isp S n g = 1 then 1 else 0) := h
      by_cases z : isp S n g = 1
      · rw [if_pos z] at h'
        exact ⟨n, by omega, z, by omega⟩
      · rw [if_neg z] at h'
        omega
theorem isp_lv {S : gS} {p g : Int} (h0 : 0 ≤ p) (h : isp S p g = 1) : (p < 8 ∧ p < S 6 0 ∧ S 7 p = g ∧ run1 S p = 1) ∨ (8 ≤ p ∧ p - 8 < S 11 0 ∧ S 19 (p - 8) = 0 ∧ S 20 (p - 8) = g) := by
  unfold isp at h
  split at h
  · rename_i a
    split at h
    · rename_i b; exact Or.inr ⟨a, b.1, b.2.1, b.2.2⟩
    · omega
  · rename_i a
    split at h
    · rename_i b; exact Or.inl ⟨by omega, b.1, b.2.1, b.2.2⟩
    · omega
/-- the parts below n stand in the list -/
def pLs (T : gS) (g : Int) (n : Nat) (U : gS) : Prop := (∀ k, k ≠ 41 → k ≠ 42 → k ≠ 43 → k ≠ 44 → k ≠ 58 → U k = T k) ∧ (∀ i, U 58 i = 1 → T 58 i = 1 ∨ i = 5) ∧ ExR U ∧ U 43 0 = cn2 T g n ∧ ∀ p : Nat, p < n → isp T p g = 1 → U 44 (cn2 T g p) = p
theorem pLs.x0 {T U : gS} {g : Int} {n : Nat} (hX : Ex0 T) (h : pLs T g n U) : Ex0 U := by
  have r : ∀ k, (k != 41 && k != 42 && k != 43 && k != 44 && k != 58) = true → U k = T k := fun k hk => by
    simp only [Bool.and_eq_true, bne_iff_ne] at hk
    exact h.1 k hk.1.1.1.1 hk.1.1.1.2 hk.1.1.2 hk.1.2 hk.2
  have L := hX
  have hlv : ∀ l, lvl U l ↔ lvl T l := fun l => lvl.eq (r 3 rfl) (r 11 rfl) (r 23 rfl) l
  refine ⟨by rw [r 50 rfl]; exact L.1, by rw [r 51 rfl]; exact L.2.1, by rw [r 52 rfl, r 3 rfl]; exact L.2.2.1, by rw [r 53 rfl, r 6 rfl]; exact L.2.2.2.1, by rw [r 54 rfl, r 11 rfl]; exact L.2.2.2.2.1, by rw [r 55 rfl, r 23 rfl]; exact L.2.2.2.2.2.1, fun l => by rw [r 56 rfl, hlv]; exact L.2.2.2.2.2.2.1 l, fun l => by rw [r 57 rfl, hlv]; exact L.2.2.2.2.2.2.2.1 l, by rw [r 59 rfl]; exact hX.o, by rw [r 60 rfl]; exact hX.r, fun i hi => ?_, fun j a b => ?_⟩
  · rw [r 51 rfl] at hi
    rcases hi with z | z
    · rcases h.2.1 i z with y | y
      · exact hX.e i (Or.inl y)
      · omega
    · exact hX.e i (Or.inr z)
  · rw [h.2.2.2.1] at b
    obtain ⟨p, p1, p2, p3⟩ := cn2_inv T g (j := j.toNat) n (by omega)
    have e := h.2.2.2.2 p p1 p2
    rw [p3, Int.toNat_of_nonneg a] at e
    rw [e, r 53 rfl, r 54 rfl]
    rcases isp_lv (by omega) p2 with z | z
    · exact Or.inl ⟨z.1, hX.p (by omega) z.2.1⟩
    · exact Or.inr ⟨z.1, hX.k (by omega) z.2.1⟩
theorem pLs.inv {T U : gS} {g : Int} {n : Nat} (hI : Inv T) (h : pLs T g n U) : Inv U := Inv_agr hI (fun k hk => h.1 k (by omega) (by omega) (by omega) (by omega) (by omega)) h.2.2.1
theorem pLs.no {T U : gS} {g : Int} {n : Nat} (h : pLs T g n U) (hn : ¬ isp T n g = 1) : pLs T g (n + 1) U := by
  have e : cn2 T g (n + 1) = cn2 T g n := by
    show cn2 T g n + (if isp T n g = 1 then 1 else 0) = _
    rw [if_neg hn, Nat.add_zero]
  refine ⟨h.1, h.2.1, h.2.2.1, by rw [e]; exact h.2.2.2.1, fun p hp hi => ?_⟩
  by_cases z : p = n
  · subst z; exact absurd hi hn
  · exact h.2.2.2.2 p (by omega) hi
theorem pLs.yes {T U : gS} {g : Int} {n : Nat} {N' : Int} (h : pLs T g n U) (hn : isp T n g = 1) (hN : R32 N') (hb : n < 28) : pLs T g (n + 1) (lad5 (sset U 44 (cn2 T g n) n) N') := by
  have e : cn2 T g (n + 1) = cn2 T g n + 1 := by
    show cn2 T g n + (if isp T n g = 1 then 1 else 0) = _
    rw [if_pos hn]
  have hc := cn2_le T g n
  refine ⟨fun k a b c d f => ?_, fun i hi => ?_, ?_, ?_, fun p hp hi => ?_⟩
  · rw [lad5_r a f b c, sset_n _ _ _ d]
    exact h.1 k a b c d f
  · have hi' : (if 58 = 58 ∧ i = 5 then (1 : Int) else U 58 i) = 1 := hi
    by_cases z : i = 5
    · exact Or.inr z
    · rw [if_neg (fun w => z w.2)] at hi'
      exact h.2.1 i hi'
  · unfold lad5
    exact ((((h.2.2.1.set (fun _ => by unfold R32; omega)).set (fun _ => hN)).set (fun _ => by unfold R32; omega)).set (fun _ => ⟨(iI _).le_toInt, (iI _).toInt_lt⟩)).set (fun _ => by
      have := h.2.2.2.1
      show R32 (U 43 0 + 1)
      rw [this]
      unfold R32
      omega)
  · show (if 43 = 43 ∧ (0 : Int) = 0 then U 43 0 + 1 else U 43 0) = _
    rw [if_pos ⟨rfl, rfl⟩, h.2.2.2.1, e]
    omega
  · show (if 44 = 44 ∧ (cn2 T g p : Int) = (cn2 T g n : Int) then (n : Int) else U 44 (cn2 T g p)) = p
    by_cases z : p = n
    · subst z
      rw [if_pos ⟨rfl, rfl⟩]
    · have := cn2_lt T g (show p < n by omega) hi
      rw [if_neg (by omega)]
      exact h.2.2.2.2 p (by omega) hi
theorem pLs.skip {T U : gS} {g : Int} {a : Nat} (h : pLs T g a U) : ∀ d : Nat, (∀ p : Nat, a ≤ p → p < a + d → ¬ isp T p g = 1) → pLs T g (a + d) U ∧ shA T g (a + d) = shA T g a := by
  intro d
  induction d with
  | zero => intro _; exact ⟨h, rfl⟩
  | succ d ih =>
    intro hz
    have q := ih (fun p x y => hz p x (by omega))
    refine ⟨q.1.no (hz (a + d) (by omega) (by omega)), ?_⟩
    show shA T g (a + d) + (if isp T ((a + d : Nat) : Int) g = 1 then shp T ((a + d : Nat) : Int) else 0) = _
    rw [if_neg (hz (a + d) (by omega) (by omega)), q.2, Int.add_zero]
theorem cup_cup (ad : cA) (k : Nat) (i : Int) (a b : Nat) : cup (cup ad k i a) k i b = cup ad k i b := by
  funext x j
  unfold cup
  by_cases z : x = k ∧ j = i
  · rw [if_pos z, if_pos z]
  · rw [if_neg z, if_neg z, if_neg z]
theorem cup_id (ad : cA) (k : Nat) (i : Int) : cup ad k i (ad k i) = ad := by
  funext x j
  unfold cup
  by_cases z : x = k ∧ j = i
  · rw [if_pos z, z.1, z.2]
  · rw [if_neg z]
theorem L2_h_collectParts {g : xG} {K : hp} {T : gS} {QX : qKE} {g9 : Int} (hI : Inv T) (hX : Ex0 T) (hg0 : 0 ≤ g9) (hg1 : g9 < T 6 0) : ∀ (f9 i : Nat) (U : gS) (ad : cA) (v4 : Option Value), pLs T g9 (8 + i) U → (i : Int) ≤ T 11 0 → T 11 0 ≤ (i : Int) + f9 → cW g M_h_collectParts K (fun v9 ad9 S9 => v9 = some (.int (iI (shA T g9 28))) ∧ (∃ d, ad9 = cup ad 8 5 d) ∧ pLs T g9 28 S9) QX f9 (33 * f9) ad U 79 [some (.ref (ad 0 0)), some (.ref (ad 3 g9)), some (.int (iI (shA T g9 (8 + i)))), some (.int (iI (i : Int))), v4] [] := by
  intro f9
  induction f9 with
  | zero =>
    intro i U ad v4 hU q1 q2
    have hXU := hU.x0 hX
    have h0 : U 50 0 = 1 := hXU.h
    have hL2 : U 51 2 = 1 := hXU.l (by decide) (by decide)
    have hL3 : U 51 3 = 1 := hXU.l (by decide) (by decide)
    have hL5 : U 51 5 = 1 := hXU.l (by decide) (by decide)
    have r : ∀ k, (k != 41 && k != 42 && k != 43 && k != 44 && k != 58) = true → U k = T k := fun k hk => by
      simp only [Bool.and_eq_true, bne_iff_ne] at hk
      exact hU.1 k hk.1.1.1.1 hk.1.1.1.2 hk.1.1.2 hk.1.2 hk.2
    obtain ⟨hR, hI1, hI2, hI3, hI4, hI5, hI6, hI7⟩ := id (hU.inv hI)
    unfold Inv1 at hI1
    have hWU := Wf_of0 (hU.inv hI) hXU
    have hcl := cn2_le T g9 (8 + i)
    have hi9 : (i : Int) = U 11 0 := by rw [r 11 rfl]; omega
    have hsk := hU.skip (20 - i) (fun p a b q => by
      rcases isp_lv (by omega) q with y | y
      · omega
      · rw [← r 11 rfl] at y; omega)
    rw [show 8 + i + (20 - i) = 28 by omega] at hsk
    refine c_iload_n d_h_collectParts_79 rfl ?_
    refine c_aload_n d_h_collectParts_80 rfl ?_
    refine cg_h_19_6 h0 d_h_collectParts_81 rfl ?_
    refine c_lsize3 hL3 d_h_collectParts_84 q_h_collectParts_147 (Nat.le_of_ble_eq_true rfl) rfl ?_
    refine c_icmp_ge (tgt := 144) d_h_collectParts_87 (by decide) (by first | assumption | exact hR _ _ (by decide) | (unfold R32; omega)) (by first | assumption | exact hR _ _ (by decide) | (unfold R32; omega)) (fun z87 => ?_) (fun z87 => ?_)
    · refine c_iload_n d_h_collectParts_144 rfl ?_
      exact c_iret rfl d_h_collectParts_145 (⟨by rw [hsk.2], ⟨ad 8 5, (cup_id ad 8 5).symm⟩, hsk.1⟩)
    · exfalso; omega
  | succ f9 ih =>
    intro i U ad v4 hU q1 q2
    have hXU := hU.x0 hX
    have h0 : U 50 0 = 1 := hXU.h
    have hL2 : U 51 2 = 1 := hXU.l (by decide) (by decide)
    have hL3 : U 51 3 = 1 := hXU.l (by decide) (by decide)
    have hL5 : U 51 5 = 1 := hXU.l (by decide) (by decide)
    have r : ∀ k, (k != 41 && k != 42 && k != 43 && k != 44 && k != 58) = true → U k = T k := fun k hk => by
      simp only [Bool.and_eq_true, bne_iff_ne] at hk
      exact hU.1 k hk.1.1.1.1 hk.1.1.1.2 hk.1.1.2 hk.1.2 hk.2
    obtain ⟨hR, hI1, hI2, hI3, hI4, hI5, hI6, hI7⟩ := id (hU.inv hI)
    unfold Inv1 at hI1
    have hWU := Wf_of0 (hU.inv hI) hXU
    have hcl := cn2_le T g9 (8 + i)
    have h11 : U 11 0 = T 11 0 := by rw [r 11 rfl]
    refine c_iload_n d_h_collectParts_79 rfl ?_
    refine c_aload_n d_h_collectParts_80 rfl ?_
    refine cg_h_19_6 h0 d_h_collectParts_81 rfl ?_
    refine c_lsize3 hL3 d_h_collectParts_84 q_h_collectParts_147 (Nat.le_of_ble_eq_true rfl) rfl ?_
    refine c_icmp_ge (tgt := 144) d_h_collectParts_87 (by decide) (by first | assumption | exact hR _ _ (by decide) | (unfold R32; omega)) (by first | assumption | exact hR _ _ (by decide) | (unfold R32; omega)) (fun z87 => ?_) (fun z87 => ?_)
    · have hi9 : (i : Int) = U 11 0 := by omega
      have hsk := hU.skip (20 - i) (fun p a b q => by
        rcases isp_lv (by omega) q with y | y
        · omega
        · rw [← r 11 rfl] at y; omega)
      rw [show 8 + i + (20 - i) = 28 by omega] at hsk
      refine c_iload_n d_h_collectParts_144 rfl ?_
      exact c_iret rfl d_h_collectParts_145 (⟨by rw [hsk.2], ⟨ad 8 5, (cup_id ad 8 5).symm⟩, hsk.1⟩)
    · refine c_aload_n d_h_collectParts_90 rfl ?_
      refine cg_h_19_6 h0 d_h_collectParts_91 rfl ?_
      refine c_iload_n d_h_collectParts_94 rfl ?_
      refine c_lget3 hL3 (hXU.k (by omega) (by omega)) (by omega) (by omega) d_h_collectParts_95 d_h_collectParts_98 q_h_collectParts_226 (Nat.le_of_ble_eq_true rfl) rfl rfl ?_
      refine c_astore d_h_collectParts_101 (by decide) ?_
      have hkU : U 54 (i : Int) = 1 := hXU.k (by omega) (by omega)
      have h20i := (hI4 i (by omega) (by omega)).2.1
      refine c_aload d_h_collectParts_103 rfl ?_
      refine cg_h_214_2 hkU d_h_collectParts_105 rfl ?_
      refine c_aload_n d_h_collectParts_108 rfl ?_
      refine c_acmp_neK (by decide) (hXU.p h20i.1 h20i.2) (hXU.p hg0 (by rw [r 6 rfl]; exact hg1)) (tgt := 138) d_h_collectParts_109 (by decide) (fun z109 => ?_) (fun z109 => ?_)
      · refine c_iinc d_h_collectParts_138 rfl (by decide) ?_
        refine c_goto (tgt := 79) d_h_collectParts_141 (by decide) ?_
        have hno : ¬ isp T ((8 + i : Nat) : Int) g9 = 1 := fun q => by
          rcases isp_lv (by omega) q with y | y
          · omega
          · rw [show (((8 + i : Nat) : Int) - 8) = (i : Int) by omega, ← r 20 rfl] at y; exact z109 y.2.2.2
        have e := ih (i + 1) U ad (some (.ref (ad 4 i))) (hU.no hno) (by omega) (by omega)
        rw [show shA T g9 (8 + (i + 1)) = shA T g9 (8 + i) from by show shA T g9 (8 + i) + (if isp T ((8 + i : Nat) : Int) g9 = 1 then shp T ((8 + i : Nat) : Int) else 0) = _; rw [if_neg hno, Int.add_zero]] at e
        exact c_mono e (by omega) (by omega)
      refine c_aload d_h_collectParts_112 rfl ?_
      refine cg_h_191_2 hkU d_h_collectParts_114 rfl ?_
      refine c_if_ne (tgt := 138) d_h_collectParts_117 (by decide) (by first | assumption | exact hR _ _ (by decide) | (unfold R32; omega)) (fun z117 => ?_) (fun z117 => ?_)
      · refine c_iinc d_h_collectParts_138 rfl (by decide) ?_
        refine c_goto (tgt := 79) d_h_collectParts_141 (by decide) ?_
        have hno : ¬ isp T ((8 + i : Nat) : Int) g9 = 1 := fun q => by
          rcases isp_lv (by omega) q with y | y
          · omega
          · rw [show (((8 + i : Nat) : Int) - 8) = (i : Int) by omega, ← r 19 rfl] at y; omega
        have e := ih (i + 1) U ad (some (.ref (ad 4 i))) (hU.no hno) (by omega) (by omega)
        rw [show shA T g9 (8 + (i + 1)) = shA T g9 (8 + i) from by show shA T g9 (8 + i) + (if isp T ((8 + i : Nat) : Int) g9 = 1 then shp T ((8 + i : Nat) : Int) else 0) = _; rw [if_neg hno, Int.add_zero]] at e
        exact c_mono e (by omega) (by omega)
      · refine c_aload_n d_h_collectParts_120 rfl ?_
        refine cg_h_31_6 h0 d_h_collectParts_121 rfl ?_
        refine c_aload d_h_collectParts_124 rfl ?_
        have hy9 : isp T ((8 + i : Nat) : Int) g9 = 1 := by
          unfold isp
          rw [if_pos (by omega), show (((8 + i : Nat) : Int) - 8) = (i : Int) by omega, if_pos ⟨by rw [← r 11 rfl]; omega, by rw [← r 19 rfl]; omega, by rw [← r 20 rfl]; exact z109⟩]
        refine c_goS (S' := sset U 44 (cn2 T g9 (8 + i)) ((8 + i) : Nat)) (fun h hc => cls_g44 hc (by rw [hU.2.2.2.1]; omega)) ?_
        have hW4 : Wf (sset U 44 (cn2 T g9 (8 + i)) ((8 + i) : Nat)) := by
          refine ⟨hWU.1, hWU.2.1, hWU.2.2.1, hWU.2.2.2.1, hWU.2.2.2.2.1, fun n j x y z => ?_, hWU.2.2.2.2.2.2⟩
          have hn5 := hXU.e n (Or.inr x)
          have q := hWU.2.2.2.2.2.1 n j x y z
          by_cases z5 : n = 5
          · have z' : j < U 43 0 := by rw [z5] at z; exact z
            have e44 : sset U 44 (cn2 T g9 (8 + i)) ((8 + i) : Nat) 44 j = U 44 j := sset_o _ _ _ _ (by rw [hU.2.2.2.1] at z'; omega)
            have e1 : elK (sset U 44 (cn2 T g9 (8 + i)) ((8 + i) : Nat)) n j = elK U n j := by unfold elK; rw [e44]
            have e2 : elI (sset U 44 (cn2 T g9 (8 + i)) ((8 + i) : Nat)) n j = elI U n j := by unfold elI; rw [e44]
            have hb := elK_b U n j
            rw [e1, e2, sset_n _ _ _ (by omega)]
            exact q
          · have e1 : elK (sset U 44 (cn2 T g9 (8 + i)) ((8 + i) : Nat)) n j = elK U n j := by
              have : n = 1 ∨ n = 2 ∨ n = 3 ∨ n = 4 := by omega
              rcases this with e | e | e | e <;> (subst e; rfl)
            have e2 : elI (sset U 44 (cn2 T g9 (8 + i)) ((8 + i) : Nat)) n j = elI U n j := by
              unfold elI
              rw [if_neg z5, if_neg z5]
            have hb := elK_b U n j
            rw [e1, e2, sset_n _ _ _ (by omega)]
            exact q
        have e44n : sset U 44 (cn2 T g9 (8 + i)) ((8 + i) : Nat) 44 (U 43 0) = ((8 + i) : Nat) := by rw [hU.2.2.2.1]; exact sset_e _ _ _ _
        have ek5 : elK (sset U 44 (cn2 T g9 (8 + i)) ((8 + i) : Nat)) 5 (U 43 0) = 4 := by
          show (if sset U 44 (cn2 T g9 (8 + i)) ((8 + i) : Nat) 44 (U 43 0) < 8 then 3 else 4) = 4
          rw [e44n]
          exact if_neg (by omega)
        have ei5 : elI (sset U 44 (cn2 T g9 (8 + i)) ((8 + i) : Nat)) 5 (U 43 0) = (i : Int) := by
          show (if sset U 44 (cn2 T g9 (8 + i)) ((8 + i) : Nat) 44 (U 43 0) < 8 then sset U 44 (cn2 T g9 (8 + i)) ((8 + i) : Nat) 44 (U 43 0) else sset U 44 (cn2 T g9 (8 + i)) ((8 + i) : Nat) 44 (U 43 0) - 8) = (i : Int)
          rw [e44n]
          rw [if_neg (by omega)]; omega
        refine c_callV (rc' := f9) (rs' := 33 * f9) (r := (RJx4a65c, TJx4a65c, 3)) d_h_collectParts_126 q_h_collectParts_43 s_al_add_ngObject21 v_al_add_ngObject21 (t_al_add5_c (S := sset U 44 (cn2 T g9 (8 + i)) ((8 + i) : Nat)) (ke := 4) (ie := (i : Int)) hW4 hXU.e hL5 (by decide) (by decide) ek5 ei5 (hXU.k (by omega) (by omega)) (by rw [show sset U 44 (cn2 T g9 (8 + i)) ((8 + i) : Nat) 43 0 = U 43 0 from rfl, hU.2.2.2.1]; omega)) (fun _ z => ⟨_, z.at 1 (by decide) hL5⟩) rfl rfl rfl rfl (Nat.le_of_ble_eq_true rfl) rfl (by show _ = _ + 1; omega) (by show _ = _ + 33; omega) (fun _ _ _ z => z) ?_
        rintro _ _ _ ⟨rfl, d9, N9, hN9, rfl, rfl⟩
        have hU2 := hU.yes hy9 hN9 (by omega)
        refine c_pop d_h_collectParts_129 rfl ?_
        refine c_iload_n d_h_collectParts_130 rfl ?_
        refine c_aload d_h_collectParts_131 rfl ?_
        refine cg_h_398_2 (i := (i : Int)) hkU d_h_collectParts_133 rfl ?_
        refine c_iadd d_h_collectParts_136 ?_
        refine c_istore_n d_h_collectParts_137 (by decide) ?_
        refine c_iinc d_h_collectParts_138 rfl (by decide) ?_
        refine c_goto (tgt := 79) d_h_collectParts_141 (by decide) ?_
        have e := ih (i + 1) _ (cup ad 8 5 d9) (some (.ref (ad 4 i))) hU2 (by omega) (by omega)
        rw [show shA T g9 (8 + (i + 1)) = shA T g9 (8 + i) + U 13 (i : Int) from by show shA T g9 (8 + i) + (if isp T ((8 + i : Nat) : Int) g9 = 1 then shp T ((8 + i : Nat) : Int) else 0) = _; rw [if_pos hy9]; unfold shp; rw [if_neg (by omega), show (((8 + i : Nat) : Int) - 8) = (i : Int) by omega, ← r 13 rfl]] at e
        refine cW_post e (fun v a s z => ⟨z.1, ?_, z.2.2⟩) (fun _ _ _ z => z)
        obtain ⟨d, hd⟩ := z.2.1
        exact ⟨d, by rw [hd, cup_cup]⟩
theorem L1_h_collectParts {g : xG} {K : hp} {T : gS} {QX : qKE} {g9 : Int} (hI : Inv T) (hX : Ex0 T) (hg0 : 0 ≤ g9) (hg1 : g9 < T 6 0) : ∀ (f9 i : Nat) (U : gS) (ad : cA) (v4 : Option Value), pLs T g9 i U → (i : Int) ≤ T 6 0 → T 6 0 ≤ (i : Int) + f9 → cW g M_h_collectParts K (fun v9 ad9 S9 => v9 = some (.int (iI (shA T g9 28))) ∧ (∃ d, ad9 = cup ad 8 5 d) ∧ pLs T g9 28 S9) QX (f9 + 20) (33 * (f9 + 20)) ad U 11 [some (.ref (ad 0 0)), some (.ref (ad 3 g9)), some (.int (iI (shA T g9 i))), some (.int (iI (i : Int))), v4] [] := by
  intro f9
  induction f9 with
  | zero =>
    intro i U ad v4 hU q1 q2
    have hXU := hU.x0 hX
    have h0 : U 50 0 = 1 := hXU.h
    have hL2 : U 51 2 = 1 := hXU.l (by decide) (by decide)
    have hL3 : U 51 3 = 1 := hXU.l (by decide) (by decide)
    have hL5 : U 51 5 = 1 := hXU.l (by decide) (by decide)
    have r : ∀ k, (k != 41 && k != 42 && k != 43 && k != 44 && k != 58) = true → U k = T k := fun k hk => by
      simp only [Bool.and_eq_true, bne_iff_ne] at hk
      exact hU.1 k hk.1.1.1.1 hk.1.1.1.2 hk.1.1.2 hk.1.2 hk.2
    obtain ⟨hR, hI1, hI2, hI3, hI4, hI5, hI6, hI7⟩ := id (hU.inv hI)
    unfold Inv1 at hI1
    have hWU := Wf_of0 (hU.inv hI) hXU
    have hcl := cn2_le T g9 i
    have h6 : U 6 0 = T 6 0 := by rw [r 6 rfl]
    refine c_iload_n d_h_collectParts_11 rfl ?_
    refine c_aload_n d_h_collectParts_12 rfl ?_
    refine cg_h_16_6 h0 d_h_collectParts_13 rfl ?_
    refine c_lsize2 hL2 d_h_collectParts_16 q_h_collectParts_147 (Nat.le_of_ble_eq_true rfl) rfl ?_
    refine c_icmp_ge (tgt := 77) d_h_collectParts_19 (by decide) (by first | assumption | exact hR _ _ (by decide) | (unfold R32; omega)) (by first | assumption | exact hR _ _ (by decide) | (unfold R32; omega)) (fun z19 => ?_) (fun z19 => ?_)
    · refine c_iconst d_h_collectParts_77 ?_
      refine c_istore_n d_h_collectParts_78 (by decide) ?_
      have hsk := hU.skip (8 - i) (fun p a b q => by
        rcases isp_lv (by omega) q with y | y
        · rw [← r 6 rfl] at y; omega
        · omega)
      rw [show i + (8 - i) = 8 by omega] at hsk
      have e := L2_h_collectParts (g := g) (K := K) (QX := QX) hI hX hg0 hg1 20 0 U ad v4 hsk.1 (by have := hI.2.1; unfold Inv1 at this; omega) (by have := hI.2.1; unfold Inv1 at this; omega)
      rw [show shA T g9 (8 + 0) = shA T g9 i from hsk.2] at e
      exact c_mono e (by omega) (by omega)
    · exfalso; omega
  | succ f9 ih =>
    intro i U ad v4 hU q1 q2
    have hXU := hU.x0 hX
    have h0 : U 50 0 = 1 := hXU.h
    have hL2 : U 51 2 = 1 := hXU.l (by decide) (by decide)
    have hL3 : U 51 3 = 1 := hXU.l (by decide) (by decide)
    have hL5 : U 51 5 = 1 := hXU.l (by decide) (by decide)
    have r : ∀ k, (k != 41 && k != 42 && k != 43 && k != 44 && k != 58) = true → U k = T k := fun k hk => by
      simp only [Bool.and_eq_true, bne_iff_ne] at hk
      exact hU.1 k hk.1.1.1.1 hk.1.1.1.2 hk.1.1.2 hk.1.2 hk.2
    obtain ⟨hR, hI1, hI2, hI3, hI4, hI5, hI6, hI7⟩ := id (hU.inv hI)
    unfold Inv1 at hI1
    have hWU := Wf_of0 (hU.inv hI) hXU
    have hcl := cn2_le T g9 i
    have h6 : U 6 0 = T 6 0 := by rw [r 6 rfl]
    refine c_iload_n d_h_collectParts_11 rfl ?_
    refine c_aload_n d_h_collectParts_12 rfl ?_
    refine cg_h_16_6 h0 d_h_collectParts_13 rfl ?_
    refine c_lsize2 hL2 d_h_collectParts_16 q_h_collectParts_147 (Nat.le_of_ble_eq_true rfl) rfl ?_
    refine c_icmp_ge (tgt := 77) d_h_collectParts_19 (by decide) (by first | assumption | exact hR _ _ (by decide) | (unfold R32; omega)) (by first | assumption | exact hR _ _ (by decide) | (unfold R32; omega)) (fun z19 => ?_) (fun z19 => ?_)
    · refine c_iconst d_h_collectParts_77 ?_
      refine c_istore_n d_h_collectParts_78 (by decide) ?_
      have hsk := hU.skip (8 - i) (fun p a b q => by
        rcases isp_lv (by omega) q with y | y
        · rw [← r 6 rfl] at y; omega
        · omega)
      rw [show i + (8 - i) = 8 by omega] at hsk
      have e := L2_h_collectParts (g := g) (K := K) (QX := QX) hI hX hg0 hg1 20 0 U ad v4 hsk.1 (by have := hI.2.1; unfold Inv1 at this; omega) (by have := hI.2.1; unfold Inv1 at this; omega)
      rw [show shA T g9 (8 + 0) = shA T g9 i from hsk.2] at e
      exact c_mono e (by omega) (by omega)
    · refine c_aload_n d_h_collectParts_22 rfl ?_
      refine cg_h_16_6 h0 d_h_collectParts_23 rfl ?_
      refine c_iload_n d_h_collectParts_26 rfl ?_
      refine c_lget2 hL2 (hXU.p (by omega) (by omega)) (by omega) (by omega) d_h_collectParts_27 d_h_collectParts_30 q_h_collectParts_226 (Nat.le_of_ble_eq_true rfl) rfl rfl ?_
      refine c_astore d_h_collectParts_33 (by decide) ?_
      have hpU : U 53 (i : Int) = 1 := hXU.p (by omega) (by omega)
      have h7i := hI2.pa (by unfold Inv1; exact hI1) i (by omega) (by omega)
      have hrun : run1 U (i : Int) = run1 T (i : Int) := by unfold run1; rw [r 11 rfl]; exact runN_c (r 7 rfl) (r 19 rfl) (r 20 rfl) _ _
      have hr01 := run1_01 U (i : Int)
      refine c_aload d_h_collectParts_35 rfl ?_
      refine cg_h_394_3 hpU d_h_collectParts_37 rfl ?_
      refine c_aload_n d_h_collectParts_40 rfl ?_
      refine c_acmp_neF (by decide) (by
        by_cases z : U 7 (i : Int) = -1
        · exact Or.inl z
        · exact Or.inr (hXU.p (by omega) (by omega))) (hXU.p hg0 (by rw [r 6 rfl]; exact hg1)) (by omega) (tgt := 71) d_h_collectParts_41 (by decide) (fun z41 => ?_) (fun z41 => ?_)
      · refine c_iinc d_h_collectParts_71 rfl (by decide) ?_
        refine c_goto (tgt := 11) d_h_collectParts_74 (by decide) ?_
        have hno : ¬ isp T (i : Int) g9 = 1 := fun q => by
          rcases isp_lv (by omega) q with y | y
          · rw [← r 7 rfl] at y; exact z41 y.2.2.1
          · omega
        have e := ih (i + 1) U ad (some (.ref (ad 3 i))) (hU.no hno) (by omega) (by omega)
        rw [show shA T g9 (i + 1) = shA T g9 i from by show shA T g9 i + (if isp T (i : Int) g9 = 1 then shp T (i : Int) else 0) = _; rw [if_neg hno, Int.add_zero]] at e
        exact c_mono e (by omega) (by omega)
      refine c_aload_n d_h_collectParts_44 rfl ?_
      refine c_aload d_h_collectParts_45 rfl ?_
      refine c_callV (rc' := (f9 + 1 + 20)) (rs' := (33 * (f9 + 1 + 20))) (r := (RX6, TX6, 7)) d_h_collectParts_47 q_h_collectParts_219 s_h_hasRunning v_h_hasRunning (t0_h_hasRunning (hU.inv hI) hXU (by omega) (by omega)) (fun _ z => ⟨_, z.at 0 (by decide) h0⟩) rfl rfl rfl rfl (Nat.le_of_ble_eq_true rfl) rfl rfl rfl (fun _ _ _ z => z) ?_
      rintro _ _ _ ⟨rfl, rfl, rfl⟩
      refine c_if_eq (tgt := 71) d_h_collectParts_50 (by decide) (by first | assumption | exact hR _ _ (by decide) | (unfold R32; omega)) (fun z50 => ?_) (fun z50 => ?_)
      · refine c_iinc d_h_collectParts_71 rfl (by decide) ?_
        refine c_goto (tgt := 11) d_h_collectParts_74 (by decide) ?_
        have hno : ¬ isp T (i : Int) g9 = 1 := fun q => by
          rcases isp_lv (by omega) q with y | y
          · rw [← hrun] at y; omega
          · omega
        have e := ih (i + 1) U ad (some (.ref (ad 3 i))) (hU.no hno) (by omega) (by omega)
        rw [show shA T g9 (i + 1) = shA T g9 i from by show shA T g9 i + (if isp T (i : Int) g9 = 1 then shp T (i : Int) else 0) = _; rw [if_neg hno, Int.add_zero]] at e
        exact c_mono e (by omega) (by omega)
      · refine c_aload_n d_h_collectParts_53 rfl ?_
        refine cg_h_31_6 h0 d_h_collectParts_54 rfl ?_
        refine c_aload d_h_collectParts_57 rfl ?_
        have hy9 : isp T ((i : Nat) : Int) g9 = 1 := by
          unfold isp
          rw [if_neg (by omega), if_pos ⟨by rw [← r 6 rfl]; omega, by rw [← r 7 rfl]; exact z41, by rw [← hrun]; omega⟩]
        refine c_goS (S' := sset U 44 (cn2 T g9 i) (i : Nat)) (fun h hc => cls_g44 hc (by rw [hU.2.2.2.1]; omega)) ?_
        have hW4 : Wf (sset U 44 (cn2 T g9 i) (i : Nat)) := by
          refine ⟨hWU.1, hWU.2.1, hWU.2.2.1, hWU.2.2.2.1, hWU.2.2.2.2.1, fun n j x y z => ?_, hWU.2.2.2.2.2.2⟩
          have hn5 := hXU.e n (Or.inr x)
          have q := hWU.2.2.2.2.2.1 n j x y z
          by_cases z5 : n = 5
          · have z' : j < U 43 0 := by rw [z5] at z; exact z
            have e44 : sset U 44 (cn2 T g9 i) (i : Nat) 44 j = U 44 j := sset_o _ _ _ _ (by rw [hU.2.2.2.1] at z'; omega)
            have e1 : elK (sset U 44 (cn2 T g9 i) (i : Nat)) n j = elK U n j := by unfold elK; rw [e44]
            have e2 : elI (sset U 44 (cn2 T g9 i) (i : Nat)) n j = elI U n j := by unfold elI; rw [e44]
            have hb := elK_b U n j
            rw [e1, e2, sset_n _ _ _ (by omega)]
            exact q
          · have e1 : elK (sset U 44 (cn2 T g9 i) (i : Nat)) n j = elK U n j := by
              have : n = 1 ∨ n = 2 ∨ n = 3 ∨ n = 4 := by omega
              rcases this with e | e | e | e <;> (subst e; rfl)
            have e2 : elI (sset U 44 (cn2 T g9 i) (i : Nat)) n j = elI U n j := by
              unfold elI
              rw [if_neg z5, if_neg z5]
            have hb := elK_b U n j
            rw [e1, e2, sset_n _ _ _ (by omega)]
            exact q
        have e44n : sset U 44 (cn2 T g9 i) (i : Nat) 44 (U 43 0) = (i : Nat) := by rw [hU.2.2.2.1]; exact sset_e _ _ _ _
        have ek5 : elK (sset U 44 (cn2 T g9 i) (i : Nat)) 5 (U 43 0) = 3 := by
          show (if sset U 44 (cn2 T g9 i) (i : Nat) 44 (U 43 0) < 8 then 3 else 4) = 3
          rw [e44n]
          exact if_pos (by omega)
        have ei5 : elI (sset U 44 (cn2 T g9 i) (i : Nat)) 5 (U 43 0) = (i : Int) := by
          show (if sset U 44 (cn2 T g9 i) (i : Nat) 44 (U 43 0) < 8 then sset U 44 (cn2 T g9 i) (i : Nat) 44 (U 43 0) else sset U 44 (cn2 T g9 i) (i : Nat) 44 (U 43 0) - 8) = (i : Int)
          rw [e44n]
          exact if_pos (by omega)
        refine c_callV (rc' := (f9 + 20)) (rs' := (33 * (f9 + 20))) (r := (RJx4a65c, TJx4a65c, 3)) d_h_collectParts_59 q_h_collectParts_43 s_al_add_ngObject21 v_al_add_ngObject21 (t_al_add5_c (S := sset U 44 (cn2 T g9 i) (i : Nat)) (ke := 3) (ie := (i : Int)) hW4 hXU.e hL5 (by decide) (by decide) ek5 ei5 (hXU.p (by omega) (by omega)) (by rw [show sset U 44 (cn2 T g9 i) (i : Nat) 43 0 = U 43 0 from rfl, hU.2.2.2.1]; omega)) (fun _ z => ⟨_, z.at 1 (by decide) hL5⟩) rfl rfl rfl rfl (Nat.le_of_ble_eq_true rfl) rfl (by show _ = _ + 1; omega) (by show _ = _ + 33; omega) (fun _ _ _ z => z) ?_
        rintro _ _ _ ⟨rfl, d9, N9, hN9, rfl, rfl⟩
        have hU2 := hU.yes hy9 hN9 (by omega)
        refine c_pop d_h_collectParts_62 rfl ?_
        refine c_iload_n d_h_collectParts_63 rfl ?_
        refine c_aload d_h_collectParts_64 rfl ?_
        refine cg_h_397_3 (i := (i : Int)) hpU d_h_collectParts_66 rfl ?_
        refine c_iadd d_h_collectParts_69 ?_
        refine c_istore_n d_h_collectParts_70 (by decide) ?_
        refine c_iinc d_h_collectParts_71 rfl (by decide) ?_
        refine c_goto (tgt := 11) d_h_collectParts_74 (by decide) ?_
        have e := ih (i + 1) _ (cup ad 8 5 d9) (some (.ref (ad 3 i))) hU2 (by omega) (by omega)
        have hi0 : (i : Int) ≠ 0 := fun q => by
          rw [q, hI2.2.1] at z41
          omega
        rw [show shA T g9 (i + 1) = shA T g9 i + (if (i : Int) = 0 then 1 else U 10 (i : Int)) from by show shA T g9 i + (if isp T (i : Int) g9 = 1 then shp T (i : Int) else 0) = _; rw [if_pos hy9, if_neg hi0]; unfold shp; rw [if_pos (by omega), ← r 10 rfl]] at e
        refine cW_post e (fun v a s z => ⟨z.1, ?_, z.2.2⟩) (fun _ _ _ z => z)
        obtain ⟨d, hd⟩ := z.2.1
        exact ⟨d, by rw [hd, cup_cup]⟩
theorem clr5_LP {T : gS} (hR : ExR T) (g : Int) : pLs T g 0 (clr5 T) := by
  refine ⟨fun k a b c d f => ?_, fun i hi => Or.inl hi, ?_, ?_, fun p hp => absurd hp (Nat.not_lt_zero _)⟩
  · unfold clr5
    rw [sset_n _ _ _ c, sset_n _ _ _ b]
  · unfold clr5
    exact (hR.set (fun _ => ⟨(iI _).le_toInt, (iI _).toInt_lt⟩)).set (fun _ => by unfold R32; omega)
  · exact (sset_e _ _ _ _ : clr5 T 43 0 = 0)
theorem t_h_collectParts {g : xG} {K : hp} {ad : cA} {T : gS} {QX : qKE} {g9 : Int} (hI : Inv T) (hX : Ex0 T) (hR : ExR T) (hg0 : 0 ≤ g9) (hg1 : g9 < T 6 0) : cM g y_h_collectParts k_h_collectParts M_h_collectParts K [.ref (ad 0 0), .ref (ad 3 g9)] ad T (fun v9 ad9 S9 => v9 = some (.int (iI (shA T g9 28))) ∧ (∃ d, ad9 = cup ad 8 5 d) ∧ pLs T g9 28 S9) QX := by
  refine cM.of rfl (by decide) rfl rfl rfl (by simp [Value.category]) (Nat.le_of_ble_eq_true rfl) rfl ?_
  have h0 : T 50 0 = 1 := hX.h
  have hL5 : T 51 5 = 1 := hX.l (by decide) (by decide)
  have hi1 := hI.2.1
  unfold Inv1 at hi1
  refine c_aload_n d_h_collectParts_0 rfl ?_
  refine cg_h_31_6 h0 d_h_collectParts_1 rfl ?_
  refine c_callV (r := (RJx4a65c, TJx4a65c, 3)) d_h_collectParts_4 q_h_collectParts_391 s_al_clear v_al_clear (t_al_clear_c (Wf_of0 hI hX) hX.e hL5) (fun _ z => ⟨_, z.at 1 (by decide) hL5⟩) rfl rfl rfl rfl (Nat.le_of_ble_eq_true rfl) rfl rfl rfl (fun _ _ _ z => z) ?_
  rintro _ _ _ ⟨rfl, rfl, rfl⟩
  refine c_iconst d_h_collectParts_7 ?_
  refine c_istore_n d_h_collectParts_8 (by decide) ?_
  refine c_iconst d_h_collectParts_9 ?_
  refine c_istore_n d_h_collectParts_10 (by decide) ?_
  exact c_mono (L1_h_collectParts hI hX hg0 hg1 8 0 (clr5 T) ad none (clr5_LP hR g9) (by omega) (by omega)) (by decide) (by decide)
/-- the first of the greatest of the first n that are no less than 0; -1: none -/
def cgN (f : Int → Int) : Nat → Int
  | 0 => -1
  | n + 1 => if (if cgN f n = -1 then -1 else f (cgN f n)) < f n then n else cgN f n
theorem cgN_b (f : Int → Int) : ∀ n : Nat, -1 ≤ cgN f n ∧ cgN f n < n := by
  intro n
  induction n with
  | zero => unfold cgN; omega
  | succ n ih => unfold cgN; split <;> omega
theorem cgN_max (f : Int → Int) : ∀ n : Nat, (cgN f n = -1 → ∀ j : Nat, j < n → f j ≤ -1) ∧ (cgN f n ≠ -1 → 0 ≤ f (cgN f n) ∧ ∀ j : Nat, j < n → f j ≤ f (cgN f n) ∧ ((j : Int) < cgN f n → f j < f (cgN f n))) := by
  intro n
  induction n with
  | zero => exact ⟨fun _ j hj => absurd hj (Nat.not_lt_zero _), fun h => absurd rfl h⟩
  | succ n ih =>
    have hb := cgN_b f n
    by_cases q : (if cgN f n = -1 then -1 else f (cgN f n)) < f n
    · have e : cgN f (n + 1) = n := if_pos q
      rw [e]
      refine ⟨fun z => by omega, fun _ => ?_⟩
      by_cases z : cgN f n = -1
      · rw [if_pos z] at q
        refine ⟨by omega, fun j hj => ?_⟩
        by_cases y : j = n
        · subst y; exact ⟨Int.le_refl _, fun w => by omega⟩
        · have := ih.1 z j (by omega); omega
      · rw [if_neg z] at q
        have w := ih.2 z
        refine ⟨by omega, fun j hj => ?_⟩
        by_cases y : j = n
        · subst y; exact ⟨Int.le_refl _, fun w => by omega⟩
        · have := w.2 j (by omega); omega
    · have e : cgN f (n + 1) = cgN f n := if_neg q
      rw [e]
      refine ⟨fun z j hj => ?_, fun z => ?_⟩
      · rw [if_pos z] at q
        by_cases y : j = n
        · subst y; omega
        · exact ih.1 z j (by omega)
      · rw [if_neg z] at q
        have w := ih.2 z
        refine ⟨w.1, fun j hj => ?_⟩
        by_cases y : j = n
        · subst y; exact ⟨by omega, fun x => by omega⟩
        · exact w.2 j (by omega)
theorem L_h_greatestRemainder {g : xG} {K : hp} {ad : cA} {U : gS} {QX : qKE} {rc rs : Nat} (h0 : U 50 0 = 1) (hL5 : U 51 5 = 1) (hRm : U 60 0 = 1) (hR : ExR U) (hn0 : 0 ≤ U 43 0) (hn1 : U 43 0 ≤ 28) : ∀ (f9 i : Nat), (i : Int) ≤ U 43 0 → U 43 0 < (i : Int) + f9 → cW g M_h_greatestRemainder K (rd ad U (.int (iI (cgN (U 35) (U 43 0).toNat)))) QX rc rs ad U 6 [some (.ref (ad 0 0)), some (.int (iI (cgN (U 35) i))), some (.int (iI (if cgN (U 35) i = -1 then -1 else U 35 (cgN (U 35) i)))), some (.int (iI (i : Int)))] [] := by
  intro f9
  induction f9 with
  | zero => intros; omega
  | succ f9 ih =>
    intro i q1 q2
    have hgb := cgN_b (U 35) i
    have hr35 : ∀ j, R32 (U 35 j) := fun j => hR 35 j (by omega)
    have hrm : R32 (if cgN (U 35) i = -1 then -1 else U 35 (cgN (U 35) i)) := by
      split
      · unfold R32; omega
      · exact hr35 _
    refine c_iload_n d_h_greatestRemainder_6 rfl ?_
    refine c_aload_n d_h_greatestRemainder_7 rfl ?_
    refine cg_h_31_6 h0 d_h_greatestRemainder_8 rfl ?_
    refine c_lsize5 hL5 d_h_greatestRemainder_11 q_h_greatestRemainder_147 (Nat.le_of_ble_eq_true rfl) rfl ?_
    refine c_icmp_ge (tgt := 51) d_h_greatestRemainder_14 (by decide) (by first | assumption | exact hr35 _ | (unfold R32; omega)) (by first | assumption | exact hr35 _ | (unfold R32; omega)) (fun z14 => ?_) (fun z14 => ?_)
    · have hi9 : U 43 0 = (i : Int) := by omega
      refine c_iload_n d_h_greatestRemainder_51 rfl ?_
      exact c_iret rfl d_h_greatestRemainder_52 ⟨by rw [show (U 43 0).toNat = i by omega], rfl, rfl⟩
    · refine c_iload_n d_h_greatestRemainder_17 rfl ?_
      refine c_aload_n d_h_greatestRemainder_18 rfl ?_
      refine cg_h_34_6 h0 d_h_greatestRemainder_19 rfl ?_
      refine c_ralen hRm d_h_greatestRemainder_22 ?_
      refine c_icmp_ge (tgt := 51) d_h_greatestRemainder_23 (by decide) (by first | assumption | exact hr35 _ | (unfold R32; omega)) (by first | assumption | exact hr35 _ | (unfold R32; omega)) (fun z23 => ?_) (fun z23 => ?_)
      · have hi9 : U 43 0 = (i : Int) := by omega
        refine c_iload_n d_h_greatestRemainder_51 rfl ?_
        exact c_iret rfl d_h_greatestRemainder_52 ⟨by rw [show (U 43 0).toNat = i by omega], rfl, rfl⟩
      · refine c_aload_n d_h_greatestRemainder_26 rfl ?_
        refine cg_h_34_6 h0 d_h_greatestRemainder_27 rfl ?_
        refine c_iload_n d_h_greatestRemainder_30 rfl ?_
        refine c_rald hRm d_h_greatestRemainder_31 (by omega) (by omega) ?_
        refine c_iload_n d_h_greatestRemainder_32 rfl ?_
        refine c_icmp_le (tgt := 45) d_h_greatestRemainder_33 (by decide) (by first | assumption | exact hr35 _ | (unfold R32; omega)) (by first | assumption | exact hr35 _ | (unfold R32; omega)) (fun z33 => ?_) (fun z33 => ?_)
        · refine c_iinc d_h_greatestRemainder_45 rfl (by decide) ?_
          refine c_goto (tgt := 6) d_h_greatestRemainder_48 (by decide) ?_
          have e := ih (i + 1) (by omega) (by omega)
          first
          | (have e9 : cgN (U 35) (i + 1) = i := if_pos (by omega)
             rw [e9, if_neg (by omega)] at e
             exact e)
          | (have e9 : cgN (U 35) (i + 1) = cgN (U 35) i := if_neg (by omega)
             rw [e9] at e
             exact e)
        · refine c_iload_n d_h_greatestRemainder_36 rfl ?_
          refine c_istore_n d_h_greatestRemainder_37 (by decide) ?_
          refine c_aload_n d_h_greatestRemainder_38 rfl ?_
          refine cg_h_34_6 h0 d_h_greatestRemainder_39 rfl ?_
          refine c_iload_n d_h_greatestRemainder_42 rfl ?_
          refine c_rald hRm d_h_greatestRemainder_43 (by omega) (by omega) ?_
          refine c_istore_n d_h_greatestRemainder_44 (by decide) ?_
          refine c_iinc d_h_greatestRemainder_45 rfl (by decide) ?_
          refine c_goto (tgt := 6) d_h_greatestRemainder_48 (by decide) ?_
          have e := ih (i + 1) (by omega) (by omega)
          first
          | (have e9 : cgN (U 35) (i + 1) = i := if_pos (by omega)
             rw [e9, if_neg (by omega)] at e
             exact e)
          | (have e9 : cgN (U 35) (i + 1) = cgN (U 35) i := if_neg (by omega)
             rw [e9] at e
             exact e)
theorem t_h_greatestRemainder {g : xG} {K : hp} {ad : cA} {U : gS} {QX : qKE} (h0 : U 50 0 = 1) (hL5 : U 51 5 = 1) (hRm : U 60 0 = 1) (hR : ExR U) (hn0 : 0 ≤ U 43 0) (hn1 : U 43 0 ≤ 28) : cM g y_h_greatestRemainder k_h_greatestRemainder M_h_greatestRemainder K [.ref (ad 0 0)] ad U (rd ad U (.int (iI (cgN (U 35) (U 43 0).toNat)))) QX := by
  refine cM.of rfl (by decide) rfl rfl rfl (by simp [Value.category]) (Nat.le_of_ble_eq_true rfl) rfl ?_
  refine c_iconst d_h_greatestRemainder_0 ?_
  refine c_istore_n d_h_greatestRemainder_1 (by decide) ?_
  refine c_iconst d_h_greatestRemainder_2 ?_
  refine c_istore_n d_h_greatestRemainder_3 (by decide) ?_
  refine c_iconst d_h_greatestRemainder_4 ?_
  refine c_istore_n d_h_greatestRemainder_5 (by decide) ?_
  exact L_h_greatestRemainder h0 hL5 hRm hR hn0 hn1 (U 43 0 + 1).toNat 0 (by omega) (by omega)
