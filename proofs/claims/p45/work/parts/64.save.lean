theorem w893o : Cond.methodLink "ContainerHost$Checkpoint" 1 Lib.objectInit ∈ lw_tbl := mt (i := 689) (by decide +kernel)
theorem cls_frs {g : xG} {K : hp} {ad : cA} {S : gS} {h : hp} (hc : cls g K ad S h) {x : Nat} (hx : h x = none) (e : va_E) : cls g (hset K x e) ad S (hset h x e) := by
  refine ⟨fun k i hk hl => ?_, hc.2.1, fun a v ha => ?_, hc.2.2.2⟩
  · have q := hc.1 k i hk hl
    have n := hc.ne hk hl hx
    rw [hset_n _ _ n, hset_n _ _ n]
    exact q
  · by_cases z : a = x
    · subst z
      rw [hset_s] at ha ⊢
      exact ha
    · rw [hset_n _ _ z] at ha ⊢
      exact hc.2.2.1 a v ha
theorem cls_drop {g : xG} {K : hp} {ad : cA} {S : gS} {h : hp} {x : Nat} {e : va_E} (hc : cls g (hset K x e) ad S h) (hK : K x = none) : cls g K ad S (fun a => if a = x then none else h a) ∧ h x = some e ∧ ∀ k i, k ≤ 10 → S (50 + k) i = 1 → ad k i ≠ x := by
  have hn : ∀ k i, k ≤ 10 → S (50 + k) i = 1 → ad k i ≠ x := fun k i hk hl z => by
    have q := (hc.1 k i hk hl).2.1
    rw [z, hset_s] at q
    cases q
  refine ⟨⟨fun k i hk hl => ?_, hc.2.1, fun a v ha => ?_, hc.2.2.2⟩, hc.2.2.1 x e (hset_s _ _ _), hn⟩
  · have q := hc.1 k i hk hl
    have n := hn k i hk hl
    rw [hset_n _ _ n] at q
    exact ⟨(if_neg n).trans q.1, q.2⟩
  · have z : a ≠ x := fun z => by rw [z, hK] at ha; cases ha
    exact (if_neg z).trans (hc.2.2.1 a v (by rw [hset_n _ _ z]; exact ha))
theorem t_k_init {g : xG} {K : hp} {ad : cA} {S : gS} {QX : qE} {h0 : hp} {x : Nat} {c l : Int} (hc : cls g K ad S h0) (hx : h0 x = none) (hk : S 54 c = 1) (hW : Wf S) (h58 : ∀ n, S 58 n = 1 → S 51 n = 1) (h6 : S 56 l ≠ 1) (h7 : S 57 l ≠ 1) (hl0 : 0 ≤ l) (hl1 : l < 35) (hb : blw S l = blw S (10 + c)) (h36 : S 36 l = if blw S (10 + c) = -1 then 1 else S 36 (blw S (10 + c)) + 1) (h2 : S 2 l = 0) (hf : ∀ f, 0 ≤ f → f < 32 → S 1 (32 * l + f) = 0) : xM g y_k_init k_k_init M_k_init [.ref x, .ref (ad 4 c)] (hset h0 x (.inr (1, zfX0))) (fun v h9 => v = none ∧ ∃ q y h1, cls g K (aly ad l q y) (cz (bly S l) l (10 + c) 32) h1 ∧ h1 x = none ∧ h9 = hset h1 x (.inr (1, [.ref (aly ad l q y 6 l), .int (iI (S 13 c)), .int (iI (S 14 c)), .int (iI (S 15 c)), .int (iI (S 16 c)), .int (iI (S 17 c)), .int (iI (S 18 c))]))) QX := by
  refine xM.of rfl (by decide) rfl rfl rfl (by simp [Value.category]) (Nat.le_of_ble_eq_true rfl) rfl ?_
  have hK : K x = none := by
    cases z : K x with
    | none => rfl
    | some v => rw [hc.2.2.1 x v z] at hx; cases hx
  have hs6 : S 56 (10 + c) = 1 := (hW.2.1 c hk).1
  have hcF := cls_frs hc hx (.inr (1, zfX0))
  refine x_aload_n d_k_init_0 rfl ?_
  refine x_objInit d_k_init_1 w893o wOI1 wOI2 (by decide) (by decide) (Nat.le_of_ble_eq_true rfl) ?_
  refine x_aload_n d_k_init_4 rfl ?_
  refine x_aload_n d_k_init_5 rfl ?_
  refine fg_k_7_2 d_k_init_6 rfl (hcF.at 4 (by decide) hk) rfl ?_
  refine x_callV (r := (RX4, TX4, 4)) d_k_init_9 q_k_init_13 s_l_copied v_l_copied (t_l_copied (K := hset K x (.inr (1, zfX0))) (QX := fun _ _ _ => False) hW h58 hs6 h6 h7 hl0 hl1 hb h36 h2 hf _ hcF) (hcF.at 6 (by decide) hs6) rfl rfl rfl rfl (Nat.le_of_ble_eq_true rfl) rfl rfl rfl (fun E h' z => by obtain ⟨_, _, z, _⟩ := z; exact z.elim) ?_
  rintro _ h1 ⟨_, _, ⟨rfl, ⟨q, y, rfl⟩, rfl⟩, hc1⟩
  obtain ⟨hcd, hx1, hn1⟩ := cls_drop hc1 hK
  have hk1 : cz (bly S l) l (10 + c) 32 54 c = 1 := hk
  have HC : ∀ e : va_E, hset h1 x e (ad 4 c) = some (.inr (2, fl4 (cz (bly S l) l (10 + c) 32) (aly ad l q y) c)) := fun e => (hset_n _ _ (hn1 4 c (by decide) hk1)).trans (hc1.at 4 (by decide) hk1)
  refine fp_k_19_1 (Or.inr ⟨_, rfl⟩) d_k_init_12 rfl rfl hx1 (Nat.le_of_ble_eq_true rfl) ?_
  refine x_aload_n d_k_init_15 rfl ?_
  refine x_aload_n d_k_init_16 rfl ?_
  refine fg_k_22_2 d_k_init_17 rfl (HC _) rfl ?_
  refine fp_k_26_1 d_k_init_20 rfl rfl (hset_s _ _ _) (Nat.le_of_ble_eq_true rfl) ?_
  rw [hset_hset]
  refine x_aload_n d_k_init_23 rfl ?_
  refine x_aload_n d_k_init_24 rfl ?_
  refine fg_k_27_2 d_k_init_25 rfl (HC _) rfl ?_
  refine fp_k_30_1 d_k_init_28 rfl rfl (hset_s _ _ _) (Nat.le_of_ble_eq_true rfl) ?_
  rw [hset_hset]
  refine x_aload_n d_k_init_31 rfl ?_
  refine x_aload_n d_k_init_32 rfl ?_
  refine fg_k_31_2 d_k_init_33 rfl (HC _) rfl ?_
  refine fp_k_34_1 d_k_init_36 rfl rfl (hset_s _ _ _) (Nat.le_of_ble_eq_true rfl) ?_
  rw [hset_hset]
  refine x_aload_n d_k_init_39 rfl ?_
  refine x_aload_n d_k_init_40 rfl ?_
  refine fg_k_35_2 d_k_init_41 rfl (HC _) rfl ?_
  refine fp_k_38_1 d_k_init_44 rfl rfl (hset_s _ _ _) (Nat.le_of_ble_eq_true rfl) ?_
  rw [hset_hset]
  refine x_aload_n d_k_init_47 rfl ?_
  refine x_aload_n d_k_init_48 rfl ?_
  refine fg_k_39_2 d_k_init_49 rfl (HC _) rfl ?_
  refine fp_k_42_1 d_k_init_52 rfl rfl (hset_s _ _ _) (Nat.le_of_ble_eq_true rfl) ?_
  rw [hset_hset]
  refine x_aload_n d_k_init_55 rfl ?_
  refine x_aload_n d_k_init_56 rfl ?_
  refine fg_k_43_2 d_k_init_57 rfl (HC _) rfl ?_
  refine fp_k_46_1 d_k_init_60 rfl rfl (hset_s _ _ _) (Nat.le_of_ble_eq_true rfl) ?_
  rw [hset_hset]
  refine x_vret rfl d_k_init_63 ⟨rfl, q, y, _, hcd, if_pos rfl, ?_⟩
  funext a
  unfold hset
  by_cases z : a = x
  · rw [if_pos z, if_pos z]
    rfl
  · rw [if_neg z, if_neg z]
    exact (if_neg z).symm
theorem dead23 {S : gS} (hI : Inv S) (hE : Ext S) (h : S 23 0 < 5) : S 55 (S 23 0) ≠ 1 ∧ S 54 (20 + S 23 0) ≠ 1 ∧ S 56 (30 + S 23 0) ≠ 1 ∧ S 57 (30 + S 23 0) ≠ 1 := by
  have h1 := hI.2.1
  unfold Inv1 at h1
  have L := hE.1
  have hv : ¬ lvl S (30 + S 23 0) := fun z => by unfold lvl isCK at z; omega
  exact ⟨fun z => by have := (L.2.2.2.2.2.1 _).mp z; omega, fun z => by have := (L.2.2.2.2.1 _).mp z; omega, fun z => hv ((L.2.2.2.2.2.2.1 _).mp z), fun z => hv ((L.2.2.2.2.2.2.2.1 _).mp z)⟩
def Kg (S : gS) (m c : Int) : gS := sset (ez (kps0 S (20 + m) c) (30 + m) 32) 36 (30 + m) (lay S (S 12 c) + 1)
theorem kps0_r {S : gS} {t f : Int} {k : Nat} (h : k < 12 ∨ 18 < k) : kps0 S t f k = S k := by
  unfold kps0
  rw [sset_n _ _ _ (by omega), sset_n _ _ _ (by omega), sset_n _ _ _ (by omega), sset_n _ _ _ (by omega), sset_n _ _ _ (by omega), sset_n _ _ _ (by omega), sset_n _ _ _ (by omega)]
theorem kps0_s {S : gS} {t f : Int} {k : Nat} (h0 : 12 ≤ k) (h1 : k ≤ 18) : kps0 S t f k = fset (S k) t (S k f) := by
  have : k = 12 ∨ k = 13 ∨ k = 14 ∨ k = 15 ∨ k = 16 ∨ k = 17 ∨ k = 18 := by omega
  rcases this with rfl | rfl | rfl | rfl | rfl | rfl | rfl
  all_goals
    unfold kps0
    simp only [sset_n, sset_s, ne_eq, Nat.reduceEqDiff, not_false_eq_true]
theorem Kg_r {S : gS} {m c : Int} {k : Nat} (h : k < 12 ∨ 18 < k) (h1 : k ≠ 1) (h2 : k ≠ 2) (h36 : k ≠ 36) : Kg S m c k = S k := by
  unfold Kg
  rw [sset_n _ _ _ h36, ez_r _ _ h1 h2, kps0_r h]
theorem Kg_s {S : gS} {m c : Int} {k : Nat} (h0 : 12 ≤ k) (h1 : k ≤ 18) : Kg S m c k = fset (S k) (20 + m) (S k c) := by
  unfold Kg
  rw [sset_n _ _ _ (by omega), ez_r _ _ (by omega) (by omega), kps0_s h0 h1]
theorem cls_Kg {g : xG} {K : hp} {ad : cA} {S : gS} {h : hp} (hc : cls g K ad S h) {m c : Int} (h55 : S 55 m ≠ 1) (h54 : S 54 (20 + m) ≠ 1) (h6 : S 56 (30 + m) ≠ 1) (h7 : S 57 (30 + m) ≠ 1) : cls g K ad (Kg S m c) h := by
  have a : cls g K ad (kps0 S (20 + m) c) h := (((((((hc.gs1 (r := 12) (S 12 c) (fun z => z.elim (by decide) (fun q => h6 (by rw [show 30 + m = 20 + m + 10 by omega]; exact q)))).gs1 (r := 13) (S 13 c) (fun z => z.elim (by decide) (fun q => q.elim h54 (fun z => h55 (by rw [show m = 20 + m - 20 by omega]; exact z))))).gs1 (r := 14) (S 14 c) (fun z => z.elim (by decide) (fun q => q.elim h54 (fun z => h55 (by rw [show m = 20 + m - 20 by omega]; exact z))))).gs1 (r := 15) (S 15 c) (fun z => z.elim (by decide) (fun q => q.elim h54 (fun z => h55 (by rw [show m = 20 + m - 20 by omega]; exact z))))).gs1 (r := 16) (S 16 c) (fun z => z.elim (by decide) (fun q => q.elim h54 (fun z => h55 (by rw [show m = 20 + m - 20 by omega]; exact z))))).gs1 (r := 17) (S 17 c) (fun z => z.elim (by decide) (fun q => q.elim h54 (fun z => h55 (by rw [show m = 20 + m - 20 by omega]; exact z))))).gs1 (r := 18) (S 18 c) (fun z => z.elim (by decide) (fun q => q.elim h54 (fun z => h55 (by rw [show m = 20 + m - 20 by omega]; exact z)))))
  exact (cls.gez a (l := 30 + m) h6 h7).gs1 (r := 36) _ (fun z => z.elim (by decide) (fun q => h6 q))
theorem Wf_Kg {S : gS} (hW : Wf S) {m c : Int} (h6 : S 56 (30 + m) ≠ 1) (h0 : 0 ≤ m) : Wf (Kg S m c) := by
  refine ⟨hW.1, hW.2.1, hW.2.2.1, fun l hl => ⟨(hW.2.2.2.1 l hl).1, ?_⟩, hW.2.2.2.2.1, fun n j x y z => ?_, hW.2.2.2.2.2.2⟩
  · have hl' : S 56 l = 1 := hl
    have e : blw (Kg S m c) l = blw S l := by
      unfold blw
      by_cases q : l < 10
      · rw [if_pos q, if_pos q]
        rfl
      · rw [if_neg q, if_neg q, Kg_s (by decide) (by decide)]
        exact if_neg (fun q2 => h6 (by rw [show 30 + m = l by omega]; exact hl'))
    rw [e]
    exact (hW.2.2.2.1 l hl').2
  · have hb := elK_b S n j
    have q := hW.2.2.2.2.2.1 n j x y z
    show Kg S m c (50 + elK S n j) (elI S n j) = 1
    rw [Kg_r (by omega) (by omega) (by omega) (by omega)]
    exact q
theorem sv_agr {S : gS} {m c N' : Int} (hm : m = S 23 0) (hf : 30 + m ≠ 10 + c) : agr (lad4 (sset (cz (bly (Kg S m c) (30 + m)) (30 + m) (10 + c) 32) 55 m 1) N') (sset (kps S (20 + m) c) 23 0 (m + 1)) := by
  intro k hk
  by_cases h3 : k = 23
  · subst h3
    funext j
    show (if 23 = 23 ∧ j = 0 then S 23 0 + 1 else S 23 j) = (if 23 = 23 ∧ j = 0 then m + 1 else S 23 j)
    rw [hm]
  · rw [lad4_r (by omega) (by omega) (by omega) h3, sset_n _ _ _ (by omega), cz_bly, bly_r (by omega) (by omega), sset_n _ _ _ h3]
    unfold kps Kg
    rw [cz_36 _ _ _ _ _ (by omega), cz_ez _ hf, show 10 + (20 + m) = 30 + m by omega]
theorem sv_ext {S : gS} (hI : Inv S) (hE : Ext S) {m c N' : Int} (hm : m = S 23 0) (hm1 : m < 5) (hc0 : 0 ≤ c) (hc1 : c < S 11 0) (hN : R32 N') : Ext (lad4 (sset (cz (bly (Kg S m c) (30 + m)) (30 + m) (10 + c) 32) 55 m 1) N') := by
  obtain ⟨hr, h1, h2, h3, -⟩ := id hI
  unfold Inv1 at h1
  have L := hE.1
  have hk := (h3 c (Or.inl ⟨hc0, hc1⟩)).1
  have hln := lay_nn S (S 12 c)
  have hlb := lay_le h2 (k := S 12 c) (by omega) hk.2
  generalize hT : lad4 (sset (cz (bly (Kg S m c) (30 + m)) (30 + m) (10 + c) 32) 55 m 1) N' = T
  have T_r : ∀ k, k ≠ 1 → k ≠ 2 → k ≠ 23 → k ≠ 41 → k ≠ 42 → k ≠ 58 → k ≠ 55 → k ≠ 56 → k ≠ 57 → T k = Kg S m c k := fun k a b d e f g h i j => by
    rw [← hT, lad4_r e g f d, sset_n _ _ _ h, cz_rr _ _ _ a b, bly_r j i]
  have same : ∀ k, (k < 12 ∨ 18 < k) → k ≠ 1 → k ≠ 2 → k ≠ 23 → k ≠ 36 → k ≠ 41 → k ≠ 42 → k ≠ 58 → k ≠ 55 → k ≠ 56 → k ≠ 57 → T k = S k := fun k z a b d z6 e f g h i j => by
    rw [T_r k a b d e f g h i j, Kg_r z a b z6]
  have sb : ∀ k, (k == 3 || k == 4 || k == 6 || k == 7 || k == 11 || k == 20 || k == 21 || k == 30 || k == 31 || k == 32 || k == 33 || k == 34 || k == 43 || k == 44 || k == 50 || k == 51 || k == 52 || k == 53 || k == 54 || k == 59 || k == 60) = true → T k = S k := fun k hk => by
    simp only [Bool.or_eq_true, beq_iff_eq] at hk
    exact same k (by omega) (by omega) (by omega) (by omega) (by omega) (by omega) (by omega) (by omega) (by omega) (by omega) (by omega)
  have row : ∀ k, 12 ≤ k → k ≤ 18 → T k = fset (S k) (20 + m) (S k c) := fun k a b => by
    rw [T_r k (by omega) (by omega) (by omega) (by omega) (by omega) (by omega) (by omega) (by omega) (by omega), Kg_s a b]
  have e23 : T 23 0 = m + 1 := by
    rw [← hT]
    show (if 23 = 23 ∧ (0 : Int) = 0 then S 23 0 + 1 else S 23 0) = m + 1
    rw [if_pos ⟨rfl, rfl⟩, hm]
  have e36 : T 36 = fset (S 36) (30 + m) (lay S (S 12 c) + 1) := by
    rw [T_r 36 (by decide) (by decide) (by decide) (by decide) (by decide) (by decide) (by decide) (by decide) (by decide)]
    unfold Kg
    rw [sset_s, ez_r _ _ (by decide) (by decide), kps0_r (by decide)]
  have e55 : T 55 = fset (S 55) m 1 := by
    rw [← hT, lad4_r (by decide) (by decide) (by decide) (by decide), sset_s, cz_rr _ _ _ (by decide) (by decide), bly_r (by decide) (by decide), Kg_r (by decide) (by decide) (by decide) (by decide)]
  have e56 : T 56 = fset (S 56) (30 + m) 1 := by
    rw [← hT, lad4_r (by decide) (by decide) (by decide) (by decide), sset_n _ _ _ (by decide), cz_rr _ _ _ (by decide) (by decide)]
    unfold bly
    rw [sset_s, sset_n _ _ _ (by decide), Kg_r (by decide) (by decide) (by decide) (by decide)]
  have e57 : T 57 = fset (S 57) (30 + m) 1 := by
    rw [← hT, lad4_r (by decide) (by decide) (by decide) (by decide), sset_n _ _ _ (by decide), cz_rr _ _ _ (by decide) (by decide)]
    unfold bly
    rw [sset_n _ _ _ (by decide), sset_s, Kg_r (by decide) (by decide) (by decide) (by decide)]
  have e58 : T 58 = fset (S 58) 4 1 := by
    rw [← hT]
    unfold lad4
    rw [sset_n _ _ _ (by decide), sset_n _ _ _ (by decide), sset_s, sset_n _ _ _ (by decide), sset_n _ _ _ (by decide), cz_rr _ _ _ (by decide) (by decide), bly_r (by decide) (by decide), Kg_r (by decide) (by decide) (by decide) (by decide)]
  have f1 : ∀ {f : Int → Int} {q i : Int}, fset f q 1 i = 1 ↔ (f i = 1 ∨ i = q) := fun {f} {q} {i} => by
    unfold fset
    split
    · rename_i z; exact ⟨fun _ => Or.inr z, fun _ => rfl⟩
    · rename_i z; exact ⟨fun q => Or.inl q, fun q => q.resolve_right z⟩
  have hCK : ∀ k, isCK T k ↔ (isCK S k ∨ k = 20 + m) := fun k => by
    unfold isCK
    rw [e23, sb 11 rfl]
    omega
  have hlv : ∀ l, lvl T l ↔ (lvl S l ∨ l = 30 + m) := fun l => by
    unfold lvl
    rw [hCK, sb 3 rfl]
    constructor
    · rintro (z | ⟨z, z2 | z2⟩)
      · exact Or.inl (Or.inl z)
      · exact Or.inl (Or.inr ⟨z, z2⟩)
      · exact Or.inr (by omega)
    · rintro ((z | z) | z)
      · exact Or.inl z
      · exact Or.inr ⟨z.1, Or.inl z.2⟩
      · exact Or.inr ⟨by omega, Or.inr (by omega)⟩
  have hmm : ∀ g, memI T g = memI S g ∧ prcI T g = prcI S g := fun g => by
    have q := memN_k (sb 7 rfl) g (S 11 0).toNat (fun k hk => ⟨by rw [sb 20 rfl], by rw [row 14 (by decide) (by decide)]; exact if_neg (by omega), by rw [row 15 (by decide) (by decide)]; exact if_neg (by omega)⟩)
    unfold memI prcI
    rw [sb 11 rfl]
    exact q
  have hRf : ∀ {f : Int → Int} {a v : Int}, (∀ j, R32 (f j)) → R32 v → ∀ j, R32 (fset f a v j) := fun hf hv j => by
    unfold fset
    split
    · exact hv
    · exact hf j
  have hx := hE.2.2.2.2.2
  refine ⟨⟨by rw [sb 50 rfl]; exact L.1, by rw [sb 51 rfl]; exact L.2.1, by rw [sb 52 rfl, sb 3 rfl]; exact L.2.2.1, by rw [sb 53 rfl, sb 6 rfl]; exact L.2.2.2.1, by rw [sb 54 rfl, sb 11 rfl]; exact L.2.2.2.2.1, fun k => ?_, fun l => ?_, fun l => ?_, by rw [sb 59 rfl]; exact hE.o, by rw [sb 60 rfl]; exact hE.r, fun n hn => ?_, by rw [sb 43 rfl, sb 44 rfl, sb 53 rfl, sb 54 rfl]; exact fun j a b => hE.pt a b⟩, fun p a b => ?_, hE.2.2.1.c (sb 11 rfl) (sb 21 rfl) (sb 33 rfl) (sb 34 rfl), ⟨fun k a b => ?_, fun j hj => ?_⟩, hE.2.2.2.2.1.c (sb 6 rfl) (sb 32 rfl), fun k j hk => ?_⟩
  · rw [e55, f1, e23, L.2.2.2.2.2.1 k]
    omega
  · rw [e56, f1, hlv, L.2.2.2.2.2.2.1 l]
  · rw [e57, f1, hlv, L.2.2.2.2.2.2.2.1 l]
  · rw [e58, sb 51 rfl] at hn
    by_cases z : n = 4
    · omega
    · rw [show fset (S 58) 4 1 n = S 58 n from if_neg z] at hn
      exact hE.e hn
  · rw [sb 6 rfl] at b
    rw [sb 30 rfl, sb 31 rfl, (hmm p).1, (hmm p).2]
    exact hE.2.1 p a b
  · rw [sb 3 rfl] at b
    rw [e36, lay_congr (sb 4 rfl), show fset (S 36) (30 + m) (lay S (S 12 c) + 1) k = S 36 k from if_neg (by omega)]
    exact hE.2.2.2.1.1 k a b
  · rw [e36, row 12 (by decide) (by decide), lay_congr (sb 4 rfl)]
    rcases (hCK j).mp hj with z | z
    · have hj' : j ≠ 20 + m := fun e => by unfold isCK at z; omega
      rw [show fset (S 36) (30 + m) (lay S (S 12 c) + 1) (10 + j) = S 36 (10 + j) from if_neg (by omega), show fset (S 12) (20 + m) (S 12 c) j = S 12 j from if_neg hj']
      exact hE.2.2.2.1.2 j z
    · subst z
      rw [show fset (S 36) (30 + m) (lay S (S 12 c) + 1) (10 + (20 + m)) = lay S (S 12 c) + 1 from if_pos (by omega), show fset (S 12) (20 + m) (S 12 c) (20 + m) = S 12 c from if_pos rfl]
  · by_cases q36 : k = 36
    · subst q36; rw [e36]; exact hRf (fun j => hx 36 j (by omega)) (by unfold R32; omega) j
    by_cases q55 : k = 55
    · subst q55; rw [e55]; exact hRf (fun j => hx 55 j (by omega)) (by unfold R32; omega) j
    by_cases q56 : k = 56
    · subst q56; rw [e56]; exact hRf (fun j => hx 56 j (by omega)) (by unfold R32; omega) j
    by_cases q57 : k = 57
    · subst q57; rw [e57]; exact hRf (fun j => hx 57 j (by omega)) (by unfold R32; omega) j
    by_cases q58 : k = 58
    · subst q58; rw [e58]; exact hRf (fun j => hx 58 j (by omega)) (by unfold R32; omega) j
    by_cases q41 : k = 41
    · subst q41
      rw [← hT]
      unfold lad4
      rw [sset_n _ _ _ (by decide), sset_n _ _ _ (by decide), sset_n _ _ _ (by decide), sset_s, sset_n _ _ _ (by decide), cz_rr _ _ _ (by decide) (by decide), bly_r (by decide) (by decide), Kg_r (by decide) (by decide) (by decide) (by decide)]
      exact hRf (fun j => hx 41 j (by omega)) hN j
    by_cases q42 : k = 42
    · subst q42
      rw [← hT]
      unfold lad4
      rw [sset_n _ _ _ (by decide), sset_s, sset_n _ _ _ (by decide), sset_n _ _ _ (by decide), sset_n _ _ _ (by decide), cz_rr _ _ _ (by decide) (by decide), bly_r (by decide) (by decide), Kg_r (by decide) (by decide) (by decide) (by decide)]
      exact hRf (fun j => hx 42 j (by omega)) ⟨(iI _).le_toInt, (iI _).toInt_lt⟩ j
    rw [same k (by omega) (by omega) (by omega) (by omega) q36 q41 q42 q58 q55 q56 q57]
    exact hx k j hk
theorem t_h_save {g : xG} {K : hp} {ad : cA} {S : gS} {c : Int} (hI : Inv S) (hE : Ext S) (hc : R32 c) : cM g y_h_save k_h_save M_h_save K [.ref (ad 0 0), .int (iI c)] ad S (opC (cd_save S c) (vl_save S c) (st_save S c)) (opX [eIO, eIS] ad S (cd_save S c)) := by
  refine cM.of rfl (by decide) rfl rfl rfl (by simp [Value.category]) (Nat.le_of_ble_eq_true rfl) rfl ?_
  obtain ⟨hR, hI1, hI2, hI3, hI4, hI5, hI6, hI7⟩ := id hI
  unfold Inv1 at hI1
  have h0 := hE.h
  have hL1 := hE.l (n := 1) (by decide) (by decide)
  have hL2 := hE.l (n := 2) (by decide) (by decide)
  have hL3 := hE.l (n := 3) (by decide) (by decide)
  have hL4 := hE.l (n := 4) (by decide) (by decide)
  have hL5 := hE.l (n := 5) (by decide) (by decide)
  have hO := hE.o
  have hRm := hE.r
  refine c_aload_n d_h_save_0 rfl ?_
  refine c_iload_n d_h_save_1 rfl ?_
  refine c_callV (r := (RX6, TX6, 7)) d_h_save_2 q_h_save_194 s_h_pausedAt v_h_pausedAt (t_h_pausedAt hI hE hc (fun q => ⟨rfl, rfl, 0, rfl, (by unfold cd_save; (repeat' split) <;> omega)⟩) (fun a b q => ⟨rfl, rfl, 1, rfl, (by unfold cd_save; (repeat' split) <;> omega)⟩)) (fun _ z => ⟨_, z.at 0 (by decide) h0⟩) rfl rfl rfl rfl (Nat.le_of_ble_eq_true rfl) rfl rfl rfl (fun _ _ _ z => z) ?_
  rintro _ _ _ ⟨rfl, rfl, rfl, ⟨hc0, hc1⟩, hs0⟩
  refine c_astore_n d_h_save_5 (by decide) ?_
  refine c_aload_n d_h_save_6 rfl ?_
  refine cg_h_22_6 h0 d_h_save_7 rfl ?_
  refine c_lsize4 hL4 d_h_save_10 q_h_save_147 (Nat.le_of_ble_eq_true rfl) rfl ?_
  refine c_iconst d_h_save_13 ?_
  refine c_icmp_lt (tgt := 28) d_h_save_14 (by decide) (by first | assumption | exact hR _ _ (by decide) | (unfold R32; omega)) (by first | assumption | exact hR _ _ (by decide) | (unfold R32; omega)) (fun z14 => ?_) (fun z14 => ?_)
  · refine c_aload_n d_h_save_28 rfl ?_
    refine cg_h_22_6 h0 d_h_save_29 rfl ?_
    obtain ⟨hd55, hd54, hd6, hd7⟩ := dead23 hI hE (by omega)
    have hW := Wf_of hI hE
    have h51 : ∀ n, 1 ≤ n → n ≤ 5 → S 51 n = 1 := fun n a b => hE.l a b
    have h15 : ∀ i, S 58 i = 1 ∨ S 51 i = 1 → 1 ≤ i ∧ i ≤ 5 := fun i h => hE.e h
    have hWg := Wf_Kg (c := c) hW hd6 hI1.2.2.2.1
    have hk3 := hI3 c (Or.inl ⟨hc0, hc1⟩)
    refine c_goS (S' := Kg S (S 23 0) c) (fun h hc => cls_Kg hc hd55 hd54 hd6 hd7) ?_
    have hk54 : Kg S (S 23 0) c 54 c = 1 := hE.k hc0 hc1
    have hbl : blw (Kg S (S 23 0) c) (30 + S 23 0) = S 12 c := (if_neg (by omega)).trans (by rw [show 30 + S 23 0 - 10 = 20 + S 23 0 by omega, Kg_s (by decide) (by decide)]; exact if_pos rfl)
    have hbc : blw (Kg S (S 23 0) c) (10 + c) = S 12 c := (if_neg (by omega)).trans (by rw [show 10 + c - 10 = c by omega, Kg_s (by decide) (by decide)]; exact if_neg (by omega))
    have hil : S 56 (S 12 c) = 1 := hE.y (lvl.i hk3.1.1 hk3.1.2)
    have h36n : Kg S (S 23 0) c 36 (30 + S 23 0) = if blw (Kg S (S 23 0) c) (10 + c) = -1 then 1 else Kg S (S 23 0) c 36 (blw (Kg S (S 23 0) c) (10 + c)) + 1 := by
      have e1 : Kg S (S 23 0) c 36 (30 + S 23 0) = lay S (S 12 c) + 1 := sset_e _ _ _ _
      have e2 : Kg S (S 23 0) c 36 (S 12 c) = S 36 (S 12 c) := (sset_o _ _ _ _ (by omega)).trans (by rw [ez_r _ _ (by decide) (by decide), kps0_r (by decide)])
      rw [hbc, if_neg (by omega), e1, e2, hE.2.2.2.1.1 _ hk3.1.1 hk3.1.2]
    intro h hc
    refine nw_h_307 d_h_save_32 rfl rfl rfl (fun x hx => ?_)
    refine x_dup d_h_save_35 rfl ?_
    refine x_aload_n d_h_save_36 rfl ?_
    refine x_callI d_h_save_37 rfl q_h_save_309 s_k_init rfl (t_k_init (l := 30 + S 23 0) (c := c) hc hx hk54 hWg (fun m hm => h51 m (h15 m (Or.inl hm)).1 (h15 m (Or.inl hm)).2) hd6 hd7 (by omega) (by omega) (hbl.trans hbc.symm) h36n (by
      show sset (ez (kps0 S (20 + S 23 0) c) (30 + S 23 0) 32) 36 (30 + S 23 0) (lay S (S 12 c) + 1) 2 (30 + S 23 0) = 0
      rw [sset_n _ _ _ (by decide)]; exact if_pos ⟨rfl, rfl⟩) (fun f a b => ez_f _ _ a b)) rfl (by rfl) (Nat.le_of_ble_eq_true rfl) rfl rfl rfl (fun _ _ hx9 => hx9) ?_
    rintro _ _ ⟨rfl, q, y, h1, hcY, hx1, rfl⟩
    have hWy : Wf (cz (bly (Kg S (S 23 0) c) (30 + S 23 0)) (30 + S 23 0) (10 + c) 32) := Wf_c12 (Wf_bly hWg (by rw [hbl]; exact Or.inr hil)) (fun k a b => cz_rr _ _ _ a b)
    have h30 : (cz (bly (Kg S (S 23 0) c) (30 + S 23 0)) (30 + S 23 0) (10 + c) 32) 56 (30 + S 23 0) = 1 := by rw [cz_rr _ _ _ (by decide) (by decide)]; exact if_pos ⟨rfl, rfl⟩
    have yr : ∀ r, 13 ≤ r → r ≤ 18 → (cz (bly (Kg S (S 23 0) c) (30 + S 23 0)) (30 + S 23 0) (10 + c) 32) r (20 + S 23 0) = Kg S (S 23 0) c r c := fun r a b => by
      rw [cz_rr _ _ _ (by omega) (by omega), bly_r (by omega) (by omega), Kg_s (by omega) (by omega), show fset (S r) (20 + S 23 0) (S r c) (20 + S 23 0) = S r c from if_pos rfl, show fset (S r) (20 + S 23 0) (S r c) c = S r c from if_neg (by omega)]
    have hB := hcY.brn (k := 5) (i := S 23 0) (e := .inr (1, [.ref (aly ad (30 + S 23 0) q y 6 (30 + S 23 0)), .int (iI (Kg S (S 23 0) c 13 c)), .int (iI (Kg S (S 23 0) c 14 c)), .int (iI (Kg S (S 23 0) c 15 c)), .int (iI (Kg S (S 23 0) c 16 c)), .int (iI (Kg S (S 23 0) c 17 c)), .int (iI (Kg S (S 23 0) c 18 c))])) hx1 (by decide) (by decide) hd55 hI1.2.2.2.1 (by show S 23 0 < 5; omega) hWy (fun m hm => h51 m (h15 m (Or.inl hm)).1 (h15 m (Or.inl hm)).2) (by
      show (Sum.inr (1, [.ref (aly ad (30 + S 23 0) q y 6 (30 + S 23 0)), .int (iI ((cz (bly (Kg S (S 23 0) c) (30 + S 23 0)) (30 + S 23 0) (10 + c) 32) 13 (20 + S 23 0))), .int (iI ((cz (bly (Kg S (S 23 0) c) (30 + S 23 0)) (30 + S 23 0) (10 + c) 32) 14 (20 + S 23 0))), .int (iI ((cz (bly (Kg S (S 23 0) c) (30 + S 23 0)) (30 + S 23 0) (10 + c) 32) 15 (20 + S 23 0))), .int (iI ((cz (bly (Kg S (S 23 0) c) (30 + S 23 0)) (30 + S 23 0) (10 + c) 32) 16 (20 + S 23 0))), .int (iI ((cz (bly (Kg S (S 23 0) c) (30 + S 23 0)) (30 + S 23 0) (10 + c) 32) 17 (20 + S 23 0))), .int (iI ((cz (bly (Kg S (S 23 0) c) (30 + S 23 0)) (30 + S 23 0) (10 + c) 32) 18 (20 + S 23 0)))]) : va_E) = _
      rw [yr 13 (by decide) (by decide), yr 14 (by decide) (by decide), yr 15 (by decide) (by decide), yr 16 (by decide) (by decide), yr 17 (by decide) (by decide), yr 18 (by decide) (by decide)])
    refine cW_at hB ?_
    have ex : cup (aly ad (30 + S 23 0) q y) 5 (S 23 0) x 5 (S 23 0) = x := cup_s _ _ _ _
    show cW g M_h_save K _ _ _ _ (cup (aly ad (30 + S 23 0) q y) 5 (S 23 0) x) (sset (cz (bly (Kg S (S 23 0) c) (30 + S 23 0)) (30 + S 23 0) (10 + c) 32) (50 + 5) (S 23 0) 1) 40 _ [.ref x, .ref (ad 1 4)]
    rw [show (Value.ref x) = .ref (cup (aly ad (30 + S 23 0) q y) 5 (S 23 0) x 5 (S 23 0)) from congrArg Value.ref ex.symm]
    refine c_callV (r := (RJx4a65c, TJx4a65c, 3)) d_h_save_40 q_h_save_43 s_al_add_ngObject21 v_al_add_ngObject21 (t_al_add4_c (S := sset (cz (bly (Kg S (S 23 0) c) (30 + S 23 0)) (30 + S 23 0) (10 + c) 32) (50 + 5) (S 23 0) 1) (ad := cup (aly ad (30 + S 23 0) q y) 5 (S 23 0) x) (ke := 5) (ie := S 23 0) (Wf_55 hWy h30) h15 hL4 (by decide) (by decide) rfl rfl (if_pos ⟨rfl, rfl⟩) (by show S 23 0 < 33; omega)) (fun _ z => ⟨_, z.at 1 (by decide) hL4⟩) rfl rfl rfl rfl (Nat.le_of_ble_eq_true rfl) rfl rfl rfl (fun _ _ _ z => z) ?_
    rintro _ _ _ ⟨rfl, d9, N9, hN9, rfl, rfl⟩
    have e1 : lad4 (sset (cz (bly (Kg S (S 23 0) c) (30 + S 23 0)) (30 + S 23 0) (10 + c) 32) (50 + 5) (S 23 0) 1) N9 23 0 - 1 = S 23 0 := by
      show (if 23 = 23 ∧ (0 : Int) = 0 then S 23 0 + 1 else S 23 0) - 1 = S 23 0
      rw [if_pos ⟨rfl, rfl⟩]
      omega
    have h0' : lad4 (sset (cz (bly (Kg S (S 23 0) c) (30 + S 23 0)) (30 + S 23 0) (10 + c) 32) (50 + 5) (S 23 0) 1) N9 50 0 = 1 := h0
    have hL4' : lad4 (sset (cz (bly (Kg S (S 23 0) c) (30 + S 23 0)) (30 + S 23 0) (10 + c) 32) (50 + 5) (S 23 0) 1) N9 51 4 = 1 := hL4
    refine c_pop d_h_save_43 rfl ?_
    refine c_aload_n d_h_save_44 rfl ?_
    refine cg_h_22_6 h0' d_h_save_45 rfl ?_
    refine c_lsize4 hL4' d_h_save_48 q_h_save_147 (Nat.le_of_ble_eq_true rfl) rfl ?_
    refine c_iconst d_h_save_51 ?_
    refine c_isub d_h_save_52 ?_
    exact c_iret rfl d_h_save_53 ⟨(by unfold cd_save; (repeat' split) <;> omega), congrArg (fun z => some (Value.int (iI z))) e1, sv_agr rfl (by omega), sv_ext hI hE rfl (by omega) hc0 hc1 hN9⟩
  · exact fun h hc => thw_3 rfl sr_305 d_h_save_17 d_h_save_20 d_h_save_21 d_h_save_24 d_h_save_27 rfl (by decide) (by decide) (by decide) (by decide) ⟨ad, S, ⟨rfl, rfl, 1, rfl, (by unfold cd_save; (repeat' split) <;> omega)⟩, hc⟩
