theorem lay_push {S T : gS} (h2 : Inv2 S) {n p : Int} (hn : n = S 3 0) (h4 : T 4 = fset (S 4) n p) : ∀ k, -1 ≤ k → k < n → lay T k = lay S k := by
  have q : ∀ (m : Nat) (k : Int), -1 ≤ k → k < n → layN T m k = layN S m k := by
    intro m
    induction m with
    | zero => intros; rfl
    | succ m ih =>
      intro k a b
      unfold layN
      by_cases z : k = -1
      · rw [if_pos z, if_pos z]
      · have w := h2.1 k (by omega) (by omega)
        have e : T 4 k = S 4 k := by rw [h4]; exact if_neg (by omega)
        rw [if_neg z, if_neg z, e, ih _ w.1 (by omega)]
  exact fun k a b => q _ k a b
theorem lay_new {S T : gS} (h2 : Inv2 S) {n p : Int} (hn : n = S 3 0) (hn0 : 0 ≤ n) (h4 : T 4 = fset (S 4) n p) (hp0 : -1 ≤ p) (hp1 : p < n) : lay T n = lay S p + 1 := by
  have e : T 4 n = p := by rw [h4]; exact if_pos rfl
  have a : lay T n = 1 + layN T n.toNat p := by
    unfold lay
    rw [show (n + 1).toNat = n.toNat + 1 by omega]
    show (if n = -1 then 0 else 1 + layN T n.toNat (T 4 n)) = _
    rw [if_neg (by omega), e]
  have b : ∀ (m : Nat) (k : Int), -1 ≤ k → k < n → layN T m k = layN S m k := by
    intro m
    induction m with
    | zero => intros; rfl
    | succ m ih =>
      intro k a b
      unfold layN
      by_cases z : k = -1
      · rw [if_pos z, if_pos z]
      · have w := h2.1 k (by omega) (by omega)
        have e : T 4 k = S 4 k := by rw [h4]; exact if_neg (by omega)
        rw [if_neg z, if_neg z, e, ih _ w.1 (by omega)]
  rw [a, b _ _ hp0 hp1, layN_stab h2 n.toNat (p + 1).toNat p hp0 (by omega) (by omega) (by omega)]
  show 1 + lay S p = _
  omega
theorem dead3 {S : gS} (hI : Inv S) (hE : Ext S) (h : S 3 0 < 10) : S 52 (S 3 0) ≠ 1 ∧ S 56 (S 3 0) ≠ 1 ∧ S 57 (S 3 0) ≠ 1 := by
  have h1 := hI.2.1
  unfold Inv1 at h1
  have L := hE.1
  have hv : ¬ lvl S (S 3 0) := fun z => by unfold lvl at z; omega
  exact ⟨fun z => by have := (L.2.2.1 _).mp z; omega, fun z => hv ((L.2.2.2.2.2.2.1 _).mp z), fun z => hv ((L.2.2.2.2.2.2.2.1 _).mp z)⟩
theorem cls.gez {g : xG} {K : hp} {ad : cA} {S : gS} {h : hp} (hc : cls g K ad S h) {l : Int} (h6 : S 56 l ≠ 1) (h7 : S 57 l ≠ 1) : cls g K ad (ez S l 32) h := hc.gst (fun a j hd => by
  unfold ez
  rw [if_neg (fun z => by
    obtain ⟨rfl, rfl⟩ := z
    exact hd.elim (by decide) (fun q => h6 q)), if_neg (fun z => by
    obtain ⟨rfl, z1, z2⟩ := z
    refine hd.elim (by decide) (fun q => h7 ?_)
    have q' : S 57 (j / 32) = 1 := q
    rw [show j / 32 = l by omega] at q'
    exact q')])
theorem ez_f (S : gS) (l : Int) {f : Int} (a : 0 ≤ f) (b : f < 32) : ez S l 32 1 (32 * l + f) = 0 := by
  unfold ez
  rw [if_neg (fun w => absurd w.1 (by decide)), if_pos ⟨rfl, by omega, by omega⟩]
theorem ez_r (S : gS) (l : Int) {k : Nat} (h1 : k ≠ 1) (h2 : k ≠ 2) : ez S l 32 k = S k := by
  funext j
  unfold ez
  rw [if_neg (fun z => h2 z.1), if_neg (fun z => h1 z.1)]
theorem Ext_mkI {S T : gS} (hI : Inv S) (hE : Ext S) {n p : Int} (hn : n = S 3 0) (hn1 : n < 10) (hp0 : -1 ≤ p) (hp1 : p < n) (e3 : T 3 0 = n + 1) (e4 : T 4 = fset (S 4) n p) (e36 : T 36 = fset (S 36) n (lay S p + 1)) (e52 : T 52 = fset (S 52) n 1) (e56 : T 56 = fset (S 56) n 1) (e57 : T 57 = fset (S 57) n 1) (e58 : T 58 = fset (S 58) 1 1) (h : ∀ k, (k == 6 || k == 7 || k == 11 || k == 12 || k == 14 || k == 15 || k == 20 || k == 21 || k == 23 || k == 30 || k == 31 || k == 32 || k == 33 || k == 34 || k == 43 || k == 44 || k == 50 || k == 51 || k == 53 || k == 54 || k == 55 || k == 59 || k == 60) = true → T k = S k) (hR : ExR T) : Ext T := by
  obtain ⟨hr, h1, h2, h3, -⟩ := id hI
  unfold Inv1 at h1
  have L := hE.1
  have f1 : ∀ {f : Int → Int} {i : Int}, fset f n 1 i = 1 ↔ (f i = 1 ∨ i = n) := fun {f} {i} => by
    unfold fset
    split
    · rename_i z; exact ⟨fun _ => Or.inr z, fun _ => rfl⟩
    · rename_i z; exact ⟨fun q => Or.inl q, fun q => q.resolve_right z⟩
  have hlv : ∀ l, lvl T l ↔ (lvl S l ∨ l = n) := fun l => by
    unfold lvl
    rw [isCK.eq (h 11 rfl) (h 23 rfl), e3]
    constructor
    · rintro (z | z)
      · by_cases w : l = n
        · exact Or.inr w
        · exact Or.inl (Or.inl (by omega))
      · exact Or.inl (Or.inr z)
    · rintro ((z | z) | z)
      · exact Or.inl (by omega)
      · exact Or.inr z
      · exact Or.inl (by omega)
  refine ⟨⟨by rw [h 50 rfl]; exact L.1, by rw [h 51 rfl]; exact L.2.1, fun i => ?_, by rw [h 53 rfl, h 6 rfl]; exact L.2.2.2.1, by rw [h 54 rfl, h 11 rfl]; exact L.2.2.2.2.1, by rw [h 55 rfl, h 23 rfl]; exact L.2.2.2.2.2.1, fun l => ?_, fun l => ?_, by rw [h 59 rfl]; exact hE.o, by rw [h 60 rfl]; exact hE.r, fun m hm => ?_, by rw [h 43 rfl, h 44 rfl, h 53 rfl, h 54 rfl]; exact fun j a b => hE.pt a b⟩, hE.2.1.c (h 6 rfl) (h 7 rfl) (h 11 rfl) (h 14 rfl) (h 15 rfl) (h 20 rfl) (h 30 rfl) (h 31 rfl), hE.2.2.1.c (h 11 rfl) (h 21 rfl) (h 33 rfl) (h 34 rfl), ⟨fun i a b => ?_, fun j hj => ?_⟩, hE.2.2.2.2.1.c (h 6 rfl) (h 32 rfl), hR⟩
  · rw [e52, f1, e3, L.2.2.1 i]
    omega
  · rw [e56, f1, hlv, L.2.2.2.2.2.2.1 l]
  · rw [e57, f1, hlv, L.2.2.2.2.2.2.2.1 l]
  · rw [e58, h 51 rfl] at hm
    by_cases z : m = 1
    · omega
    · rw [show fset (S 58) 1 1 m = S 58 m from if_neg z] at hm
      exact hE.e hm
  · rw [e3] at b
    rw [e36]
    by_cases z : i = n
    · subst z
      rw [show fset (S 36) i (lay S p + 1) i = lay S p + 1 from if_pos rfl, lay_new h2 hn (by omega) e4 hp0 hp1]
    · rw [show fset (S 36) n (lay S p + 1) i = S 36 i from if_neg z, lay_push h2 hn e4 i (by omega) (by omega)]
      exact hE.2.2.2.1.1 i a (by omega)
  · rw [isCK.eq (h 11 rfl) (h 23 rfl)] at hj
    have q := (h3 j hj).1
    have hj0 : 0 ≤ j := by unfold isCK at hj; omega
    rw [e36, h 12 rfl, lay_push h2 hn e4 _ (by omega) (by omega), show fset (S 36) n (lay S p + 1) (10 + j) = S 36 (10 + j) from if_neg (by omega)]
    exact hE.2.2.2.1.2 j hj
-- the grid of a new image ahead of its birth
def nIg (S : gS) (n p b : Int) : gS := sset (ez (sset (sset S 4 n p) 5 n b) n 32) 36 n (lay S p + 1)
theorem nIg_r {S : gS} {n p b : Int} {k : Nat} (h1 : k ≠ 1) (h2 : k ≠ 2) (h4 : k ≠ 4) (h5 : k ≠ 5) (h36 : k ≠ 36) : nIg S n p b k = S k := by
  unfold nIg
  rw [sset_n _ _ _ h36, ez_r _ _ h1 h2, sset_n _ _ _ h5, sset_n _ _ _ h4]
theorem cls_nIg {g : xG} {K : hp} {ad : cA} {S : gS} {h : hp} (hc : cls g K ad S h) {n p b : Int} (h2 : S 52 n ≠ 1) (h6 : S 56 n ≠ 1) (h7 : S 57 n ≠ 1) : cls g K ad (sset (ez (sset (sset S 4 n p) 5 n b) n 32) 36 n (lay S p + 1)) h :=
  (((hc.gs1 (r := 4) p (fun z => z.elim (by decide) (fun q => h6 q.2))).gs1 (r := 5) b (fun z => z.elim (by decide) (fun q => h2 q))).gez h6 h7).gs1 (r := 36) _ (fun z => z.elim (by decide) (fun q => h6 q))
theorem Wf_nIg {S : gS} (hW : Wf S) {n p b : Int} (hn0 : 0 ≤ n) (hn1 : n < 10) (h6 : S 56 n ≠ 1) : Wf (nIg S n p b) := by
  refine ⟨hW.1, hW.2.1, hW.2.2.1, fun l hl => ⟨(hW.2.2.2.1 l hl).1, ?_⟩, hW.2.2.2.2.1, fun m j x y z => ?_, hW.2.2.2.2.2.2⟩
  · have hl' : S 56 l = 1 := hl
    have e : blw (nIg S n p b) l = blw S l := by
      unfold blw
      by_cases q : l < 10
      · rw [if_pos q, if_pos q]
        show (if 4 = 4 ∧ l = n then p else S 4 l) = S 4 l
        rw [if_neg (fun w => h6 (by rw [← w.2]; exact hl'))]
      · rw [if_neg q, if_neg q]
        rfl
    rw [e]
    exact (hW.2.2.2.1 l hl').2
  · have hb := elK_b S m j
    have q := hW.2.2.2.2.2.1 m j x y z
    show nIg S n p b (50 + elK S m j) (elI S m j) = 1
    rw [nIg_r (by omega) (by omega) (by omega) (by omega) (by omega)]
    exact q
theorem t_h_baseLayer {g : xG} {K : hp} {ad : cA} {S : gS} {QX : qKE} {a : Int} (hI : Inv S) (hE : Ext S) (ha0 : 0 ≤ a) (ha1 : a < S 3 0) (hX : ¬ (S 5 a = 1 ∧ lay S a < 8) → QX eIS ad S) : cM g y_h_baseLayer k_h_baseLayer M_h_baseLayer K [.ref (ad 2 a)] ad S (fun v9 ad9 S9 => v9 = some (.ref (ad 6 a)) ∧ ad = ad9 ∧ S = S9 ∧ S 5 a = 1 ∧ lay S a < 8) QX := by
  refine cM.of rfl (by decide) rfl rfl rfl (by simp [Value.category]) (Nat.le_of_ble_eq_true rfl) rfl ?_
  obtain ⟨hR, hI1, hI2, hI3, hI4, hI5, hI6, hI7⟩ := id hI
  unfold Inv1 at hI1
  have h0 := hE.h
  have hL1 := hE.l (n := 1) (by decide) (by decide)
  have hL2 := hE.l (n := 2) (by decide) (by decide)
  have hL3 := hE.l (n := 3) (by decide) (by decide)
  have hL4 := hE.l (n := 4) (by decide) (by decide)
  have hL5 := hE.l (n := 5) (by decide) (by decide)
  have hO := hE.o
  have hRm := hE.r
  have h36 := hE.2.2.2.1.1 a ha0 ha1
  have h5 := hI6.2.2.1 a
  have hla := lay_le hI2 (k := a) (by omega) ha1
  refine c_aload_n d_h_baseLayer_0 rfl ?_
  refine cg_h_109_4 (hE.i ha0 ha1) d_h_baseLayer_1 rfl ?_
  refine c_if_eq (tgt := 19) d_h_baseLayer_4 (by decide) (by first | assumption | exact hR _ _ (by decide) | (unfold R32; omega)) (fun z4 => ?_) (fun z4 => ?_)
  · exact fun h hc => thw_3 rfl sr_361 d_h_baseLayer_19 d_h_baseLayer_22 d_h_baseLayer_23 d_h_baseLayer_26 d_h_baseLayer_29 rfl (by decide) (by decide) (by decide) (by decide) ⟨ad, S, hX (by omega), hc⟩
  · refine c_aload_n d_h_baseLayer_7 rfl ?_
    refine cg_h_79_4 (hE.i ha0 ha1) d_h_baseLayer_8 rfl ?_
    refine cg_h_113_5 (hE.y (lvl.i ha0 ha1)) d_h_baseLayer_11 rfl ?_
    refine c_bipush d_h_baseLayer_14 (by decide) ?_
    refine c_icmp_lt (tgt := 30) d_h_baseLayer_16 (by decide) (by first | assumption | exact hR _ _ (by decide) | (unfold R32; omega)) (by first | assumption | exact hR _ _ (by decide) | (unfold R32; omega)) (fun z16 => ?_) (fun z16 => ?_)
    · refine c_aload_n d_h_baseLayer_30 rfl ?_
      refine cg_h_79_4 (hE.i ha0 ha1) d_h_baseLayer_31 rfl ?_
      exact c_aret rfl (Or.inl ⟨_, rfl⟩) (Or.inr ⟨_, rfl⟩) d_h_baseLayer_34 (⟨rfl, rfl, rfl, by omega, by omega⟩)
    · exact fun h hc => thw_3 rfl sr_361 d_h_baseLayer_19 d_h_baseLayer_22 d_h_baseLayer_23 d_h_baseLayer_26 d_h_baseLayer_29 rfl (by decide) (by decide) (by decide) (by decide) ⟨ad, S, hX (by omega), hc⟩
theorem mk_agr {S : gS} {n p b N' : Int} (hn : n = S 3 0) : agr (lad1 (sset (bly (nIg S n p b) n) 52 n 1) N') (sset (ez (sset (sset S 4 n p) 5 n b) n 32) 3 0 (n + 1)) := by
  intro k hk
  by_cases h3 : k = 3
  · subst h3
    funext j
    show (if 3 = 3 ∧ j = 0 then S 3 0 + 1 else S 3 j) = (if 3 = 3 ∧ j = 0 then n + 1 else S 3 j)
    rw [hn]
  · rw [lad1_r (by omega) (by omega) (by omega) h3, sset_n _ _ _ (by omega), bly_r (by omega) (by omega), sset_n _ _ _ h3]
    unfold nIg
    rw [sset_n _ _ _ (by omega)]
theorem mk_ext {S T : gS} {n p N' : Int} (hI : Inv S) (hE : Ext S) (hn : n = S 3 0) (hn1 : n < 10) (hp0 : -1 ≤ p) (hp1 : p < n) (hN : R32 N') (hl8 : lay S p ≤ 8) (e4 : T 4 = fset (S 4) n p) (e36 : T 36 = fset (S 36) n (lay S p + 1)) (h : ∀ k, k ≠ 1 → k ≠ 2 → k ≠ 4 → k ≠ 5 → k ≠ 36 → T k = S k) : Ext (lad1 (sset (bly T n) 52 n 1) N') := by
  have hln := lay_nn S p
  refine Ext_mkI hI hE hn hn1 hp0 hp1 ?_ ?_ ?_ ?_ ?_ ?_ ?_ (fun k hk => ?_) (fun k j hk => ?_)
  · show (if 3 = 3 ∧ (0 : Int) = 0 then T 3 0 + 1 else T 3 0) = n + 1
    rw [if_pos ⟨rfl, rfl⟩, h 3 (by decide) (by decide) (by decide) (by decide) (by decide), hn]
  · rw [lad1_r (by decide) (by decide) (by decide) (by decide), sset_n _ _ _ (by decide), bly_r (by decide) (by decide), e4]
  · rw [lad1_r (by decide) (by decide) (by decide) (by decide), sset_n _ _ _ (by decide), bly_r (by decide) (by decide), e36]
  · rw [lad1_r (by decide) (by decide) (by decide) (by decide), sset_s, bly_r (by decide) (by decide), h 52 (by decide) (by decide) (by decide) (by decide) (by decide)]
  · rw [lad1_r (by decide) (by decide) (by decide) (by decide), sset_n _ _ _ (by decide)]
    unfold bly
    rw [sset_s, sset_n _ _ _ (by decide), h 56 (by decide) (by decide) (by decide) (by decide) (by decide)]
  · rw [lad1_r (by decide) (by decide) (by decide) (by decide), sset_n _ _ _ (by decide)]
    unfold bly
    rw [sset_n _ _ _ (by decide), sset_s, h 57 (by decide) (by decide) (by decide) (by decide) (by decide)]
  · unfold lad1
    rw [sset_n _ _ _ (by decide), sset_n _ _ _ (by decide), sset_s, sset_n _ _ _ (by decide), sset_n _ _ _ (by decide), bly_r (by decide) (by decide), h 58 (by decide) (by decide) (by decide) (by decide) (by decide)]
  · simp only [Bool.or_eq_true, beq_iff_eq] at hk
    rw [lad1_r (by omega) (by omega) (by omega) (by omega), sset_n _ _ _ (by omega), bly_r (by omega) (by omega), h k (by omega) (by omega) (by omega) (by omega) (by omega)]
  · have hT : ExR T := fun k j hk => by
      by_cases z : k = 36
      · subst z
        rw [e36]
        unfold fset
        split
        · unfold R32; omega
        · exact hE.2.2.2.2.2 36 j (by omega)
      · rw [h k (by omega) (by omega) (by omega) (by omega) z]
        exact hE.2.2.2.2.2 k j hk
    unfold lad1 bly
    exact (((((((hT.set (fun _ => by unfold R32; omega)).set (fun _ => by unfold R32; omega)).set (fun _ => by unfold R32; omega)).set (fun _ => hN)).set (fun _ => by unfold R32; omega)).set (fun _ => ⟨(iI _).le_toInt, (iI _).toInt_lt⟩)).set (fun q => absurd q (by decide))) k j hk
theorem x_aload_nR9 {g : xG} {M : xMeth} {Q : qP} {QX : qE} {rc rs : Nat} {h : hp} {pc : Nat} {ls : List (Option Value)} {st : List Value} {ad : cA} {n : Fin 4} {k : Nat} {i : Int} (d : decode M.2.1 pc = .ok (.aload_n n, 1)) (hx : ls[(n : Nat)]? = some (some (rfo ad k i))) (kk : xW g M Q QX rc rs h (pc + 1) ls (rfo ad k i :: st)) : xW g M Q QX rc rs h pc ls st := by
  by_cases h : i = -1
  · subst h; exact x_aload_nN d hx kk
  · rw [rfo_ref h] at hx kk; exact x_aload_n d hx kk
theorem T_h_newImage {g : xG} {K : hp} {ad : cA} {S : gS} {p : Int} (hI : Inv S) (hE : Ext S) (hp : p = -1 ∨ (0 ≤ p ∧ p < S 3 0 ∧ S 5 p = 1 ∧ lay S p < 8)) : cW g M_h_newImage K (opC (cd_newImage S p) (vl_newImage S p) (st_newImage S p)) (opX [eIO, eIS] ad S (cd_newImage S p)) 5 85 ad S 17 [some (.ref (ad 0 0)), some (.int (iI p)), none] [rfo ad 6 p] := by
  obtain ⟨hR, hI1, hI2, hI3, hI4, hI5, hI6, hI7⟩ := id hI
  unfold Inv1 at hI1
  have h0 := hE.h
  have hL1 := hE.l (n := 1) (by decide) (by decide)
  have hL2 := hE.l (n := 2) (by decide) (by decide)
  have hL3 := hE.l (n := 3) (by decide) (by decide)
  have hL4 := hE.l (n := 4) (by decide) (by decide)
  have hL5 := hE.l (n := 5) (by decide) (by decide)
  have hO := hE.o
  have hRm := hE.r
  have hlm : p = -1 → lay S p = 0 := fun e => by rw [e]; exact lay_m1 S
  refine c_astore_nR d_h_newImage_17 (by decide) ?_
  refine c_aload_n d_h_newImage_18 rfl ?_
  refine c_callV (r := (RX6, TX6, 7)) d_h_newImage_19 q_h_newImage_55 s_h_requireImageSlot v_h_requireImageSlot (t_h_requireImageSlot hI hE (fun q => ⟨rfl, rfl, 1, rfl, (by unfold cd_newImage; (repeat' split) <;> omega)⟩)) (fun _ z => ⟨_, z.at 0 (by decide) h0⟩) rfl rfl rfl rfl (Nat.le_of_ble_eq_true rfl) rfl rfl rfl (fun _ _ _ z => z) ?_
  rintro _ _ _ ⟨rfl, rfl, rfl, hs9⟩
  obtain ⟨hd2, hd6, hd7⟩ := dead3 hI hE hs9
  refine c_aload_n d_h_newImage_22 rfl ?_
  have hW := Wf_of hI hE
  have h51 : ∀ n, 1 ≤ n → n ≤ 5 → S 51 n = 1 := fun n a b => hE.l a b
  have h15 : ∀ i, S 58 i = 1 ∨ S 51 i = 1 → 1 ≤ i ∧ i ≤ 5 := fun i h => hE.e h
  refine c_goS (S' := nIg S (S 3 0) p 0) (fun h hc => cls_nIg hc hd2 hd6 hd7) ?_
  intro h hc
  have hWg := Wf_nIg (p := p) (b := 0) hW hI1.1.1 hs9 hd6
  have hbl : blw (nIg S (S 3 0) p 0) (S 3 0) = p := (if_pos hs9).trans (if_pos ⟨rfl, rfl⟩)
  have h36p : p ≠ -1 → nIg S (S 3 0) p 0 36 p = lay S p := fun z => (if_neg (fun w => by omega)).trans (hE.2.2.2.1.1 p (by omega) (by omega))
  have h36n : nIg S (S 3 0) p 0 36 (S 3 0) = if p = -1 then 1 else nIg S (S 3 0) p 0 36 p + 1 := by
    rw [show nIg S (S 3 0) p 0 36 (S 3 0) = lay S p + 1 from if_pos ⟨rfl, rfl⟩]
    by_cases z : p = -1
    · rw [if_pos z, hlm z]; rfl
    · rw [if_neg z, h36p z]
  have hpl : p ≠ -1 → nIg S (S 3 0) p 0 56 p = 1 := fun z => hE.y (lvl.i (by omega) (by omega))
  refine nw_h_58 d_h_newImage_23 rfl rfl rfl (fun x hx => ?_)
  refine x_dup d_h_newImage_26 rfl ?_
  refine x_aload_nR9 (ad := ad) (k := 6) (i := p) d_h_newImage_27 rfl ?_
  refine x_callI d_h_newImage_28 rfl q_h_newImage_60 s_l_init rfl (t_l_initR (S := nIg S (S 3 0) p 0) (b := p) (hset_s _ _ _) (by
    by_cases z : p = -1
    · exact Or.inl z
    · exact Or.inr ⟨(hset_n _ _ (hc.ne (k := 6) (by decide) (hpl z) hx)).trans (hc.at 6 (by decide) (hpl z)), hc.ne (k := 6) (by decide) (hpl z) hx⟩)) rfl (by rfl) (Nat.le_of_ble_eq_true rfl) rfl rfl rfl (fun _ _ hx9 => hx9) ?_
  rintro _ _ ⟨rfl, q, hq, rfl⟩
  have hq2 := hset_none hq
  rw [hset_sw hq2.1]
  have hL := cls_mkl hc hWg (fun m hm => h51 m (h15 m (Or.inl hm)).1 (h15 m (Or.inl hm)).2) (l := S 3 0) hd6 hd7 hI1.1.1 (by omega) hq2.2 hx hq2.1 (by
    rw [hbl]
    by_cases z : p = -1
    · exact Or.inl z
    · exact Or.inr (hpl z)) h36n (by show (if 2 = 2 ∧ S 3 0 = S 3 0 then (0 : Int) else _) = 0; rw [if_pos ⟨rfl, rfl⟩]) (fun f a b => ez_f _ _ a b)
  rw [hbl] at hL
  refine cW_at hL ?_
  have ex : aly ad (S 3 0) q x 6 (S 3 0) = x := cup_s _ _ _ _
  show cW g M_h_newImage K _ _ _ _ (aly ad (S 3 0) q x) (bly (nIg S (S 3 0) p 0) (S 3 0)) 31 [some (.ref (ad 0 0)), some (.int (iI p)), some (rfo ad 6 p)] [.ref x, .ref (ad 0 0)]
  rw [show (Value.ref x) = .ref (aly ad (S 3 0) q x 6 (S 3 0)) from congrArg Value.ref ex.symm]
  refine c_iconst d_h_newImage_31 ?_
  refine c_callV (r := (RX6, TX6, 7)) d_h_newImage_32 q_h_newImage_63 s_h_addImage v_h_addImage (t_h_addImage (S := bly (nIg S (S 3 0) p 0) (S 3 0)) (ad := aly ad (S 3 0) q x) (n := S 3 0) (Wf_bly hWg (by
    rw [hbl]
    by_cases z : p = -1
    · exact Or.inl z
    · exact Or.inr (hpl z))) h15 h51 h0 rfl hI1.1.1 hs9 hd2 (if_pos ⟨rfl, rfl⟩) (by show (if 5 = 5 ∧ S 3 0 = S 3 0 then (0 : Int) else _) = 0; rw [if_pos ⟨rfl, rfl⟩]) (Or.inl rfl)) (fun _ z => ⟨_, z.at 0 (by decide) h0⟩) rfl rfl rfl rfl (Nat.le_of_ble_eq_true rfl) rfl rfl rfl (fun E a s z => by exact z) ?_
  rintro _ _ _ ⟨rfl, N', hN9, rfl⟩
  exact c_iret rfl d_h_newImage_35 ⟨(by unfold cd_newImage; (repeat' split) <;> omega), rfl, mk_agr rfl, mk_ext (p := p) hI hE rfl hs9 (by omega) (by omega) hN9 (by omega) (by unfold nIg; rw [sset_n _ _ _ (by decide), ez_r _ _ (by decide) (by decide), sset_n _ _ _ (by decide), sset_s]) (by unfold nIg; rw [sset_s, ez_r _ _ (by decide) (by decide), sset_n _ _ _ (by decide), sset_n _ _ _ (by decide)]) (fun k a b d e f => nIg_r a b d e f)⟩
theorem t_h_newImage {g : xG} {K : hp} {ad : cA} {S : gS} {p : Int} (hI : Inv S) (hE : Ext S) (hp : R32 p) : cM g y_h_newImage k_h_newImage M_h_newImage K [.ref (ad 0 0), .int (iI p)] ad S (opC (cd_newImage S p) (vl_newImage S p) (st_newImage S p)) (opX [eIO, eIS] ad S (cd_newImage S p)) := by
  refine cM.of rfl (by decide) rfl rfl rfl (by simp [Value.category]) (Nat.le_of_ble_eq_true rfl) rfl ?_
  obtain ⟨hR, hI1, hI2, hI3, hI4, hI5, hI6, hI7⟩ := id hI
  unfold Inv1 at hI1
  have h0 := hE.h
  have hL1 := hE.l (n := 1) (by decide) (by decide)
  have hL2 := hE.l (n := 2) (by decide) (by decide)
  have hL3 := hE.l (n := 3) (by decide) (by decide)
  have hL4 := hE.l (n := 4) (by decide) (by decide)
  have hL5 := hE.l (n := 5) (by decide) (by decide)
  have hO := hE.o
  have hRm := hE.r
  refine c_iload_n d_h_newImage_0 rfl ?_
  refine c_iconst d_h_newImage_1 ?_
  refine c_icmp_ne (tgt := 9) d_h_newImage_2 (by decide) (by first | assumption | exact hR _ _ (by decide) | (unfold R32; omega)) (by first | assumption | exact hR _ _ (by decide) | (unfold R32; omega)) (fun z2 => ?_) (fun z2 => ?_)
  · refine c_aload_n d_h_newImage_9 rfl ?_
    refine c_iload_n d_h_newImage_10 rfl ?_
    refine c_callV (r := (RX6, TX6, 7)) d_h_newImage_11 q_h_newImage_47 s_h_imageAt v_h_imageAt (t_h_imageAt hI hE hp (fun q => ⟨rfl, rfl, 0, rfl, (by unfold cd_newImage; (repeat' split) <;> omega)⟩)) (fun _ z => ⟨_, z.at 0 (by decide) h0⟩) rfl rfl rfl rfl (Nat.le_of_ble_eq_true rfl) rfl rfl rfl (fun _ _ _ z => z) ?_
    rintro _ _ _ ⟨rfl, rfl, rfl, hp0, hp1⟩
    refine c_callS d_h_newImage_14 q_h_newImage_51 s_h_baseLayer (t_h_baseLayer hI hE hp0 hp1 (fun q => ⟨rfl, rfl, 1, rfl, (by have hb5 := hI6.2.2.1 p; unfold cd_newImage; (repeat' split) <;> omega)⟩)) rfl rfl (Nat.le_of_ble_eq_true rfl) rfl rfl rfl (fun _ _ _ z => z) ?_
    rintro _ _ _ ⟨rfl, rfl, rfl, h5p, hlp⟩
    first
    | (have e := T_h_newImage (g := g) (K := K) (ad := ad) (p := p) hI hE (Or.inr ⟨hp0, hp1, h5p, hlp⟩)
       rw [rfo_ref (by omega)] at e
       exact c_mono e (by decide) (by decide))
    | (have e := T_h_newImage (g := g) (K := K) (ad := ad) (p := p) hI hE (Or.inl (by omega))
       rw [show rfo ad 6 p = .null from by rw [show p = -1 by omega]; rfl] at e
       exact c_mono e (by decide) (by decide))
  · refine c_null d_h_newImage_5 ?_
    refine c_goto (tgt := 17) d_h_newImage_6 (by decide) ?_
    first
    | (have e := T_h_newImage (g := g) (K := K) (ad := ad) (p := p) hI hE (Or.inr ⟨hp0, hp1, h5p, hlp⟩)
       rw [rfo_ref (by omega)] at e
       exact c_mono e (by decide) (by decide))
    | (have e := T_h_newImage (g := g) (K := K) (ad := ad) (p := p) hI hE (Or.inl (by omega))
       rw [show rfo ad 6 p = .null from by rw [show p = -1 by omega]; rfl] at e
       exact c_mono e (by decide) (by decide))
