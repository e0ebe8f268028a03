theorem Wf_of {S : gS} (hI : Inv S) (hE : Ext S) : Wf S := by
  obtain ⟨hR, h1, h2, h3, h4, h5, h6, h7⟩ := id hI
  have L := hE.1
  refine ⟨fun i hi => ?_, fun c hc => ?_, fun k hk => ?_, fun l hl => ?_, fun p hp => ?_, fun n j hn j0 j1 => ?_, fun j j0 j1 => ?_⟩
  · have := (L.2.2.1 i).mp hi
    exact hE.y (lvl.i this.1 this.2)
  · have q := (L.2.2.2.2.1 c).mp hc
    have := (h4 c q.1 q.2).2.1
    exact ⟨hE.y (lvl.k q.1 q.2), hE.p this.1 this.2⟩
  · have q := (L.2.2.2.2.2.1 k).mp hk
    exact hE.y (lvl.s q.1 q.2)
  · have q := (L.2.2.2.2.2.2.1 l).mp hl
    exact ⟨hE.f q, (q.dn hI).imp_right (fun z => hE.y z.2.2)⟩
  · have q := (L.2.2.2.1 p).mp hp
    by_cases z : S 7 p = -1
    · exact Or.inl z
    · have := h2.pa h1 p q.1 q.2
      exact Or.inr (hE.p (by omega) (by omega))
  · have hb := hE.e (Or.inr hn)
    have : n = 1 ∨ n = 2 ∨ n = 3 ∨ n = 4 ∨ n = 5 := by omega
    rcases this with e | e | e | e | e
    · subst e; exact hE.i j0 j1
    · subst e; exact hE.p j0 j1
    · subst e; exact hE.k j0 j1
    · subst e; exact hE.s j0 j1
    · subst e
      have q := hE.pt j0 j1
      show S (50 + (if S 44 j < 8 then 3 else 4)) (if S 44 j < 8 then S 44 j else S 44 j - 8) = 1
      rcases q with ⟨a, b⟩ | ⟨a, b⟩
      · rw [if_pos a, if_pos a]; exact b
      · rw [if_neg (by omega), if_neg (by omega)]; exact b
  · have q := h6.2.2.2 j j0 j1
    by_cases z : S 24 j = -1
    · exact Or.inl z
    · exact Or.inr (hE.k (by omega) q.2)
/-- a layer and its files are born -/
def bly (S : gS) (l : Int) : gS := sset (sset S 57 l 1) 56 l 1
def aly (ad : cA) (l : Int) (q x : Nat) : cA := cup (cup ad 7 l q) 6 l x
theorem bly_r {S : gS} {l : Int} {k : Nat} (h7 : k ≠ 57) (h6 : k ≠ 56) : bly S l k = S k := by
  unfold bly
  rw [sset_n _ _ _ h6, sset_n _ _ _ h7]
theorem Wf_57 {S : gS} (hW : Wf S) (l : Int) : Wf (sset S 57 l 1) := by
  refine ⟨hW.1, hW.2.1, hW.2.2.1, fun i hi => ⟨?_, (hW.2.2.2.1 i hi).2⟩, hW.2.2.2.2.1, fun n j a b c => ?_, hW.2.2.2.2.2.2⟩
  · show (if 57 = 57 ∧ i = l then (1 : Int) else S 57 i) = 1
    split
    · rfl
    · exact (hW.2.2.2.1 i hi).1
  · have hb := elK_b S n j
    show sset S 57 l 1 (50 + elK S n j) (elI S n j) = 1
    rw [sset_n _ _ _ (by omega)]
    exact hW.2.2.2.2.2.1 n j a b c
theorem Wf_bly {S : gS} (hW : Wf S) {l : Int} (hb : blw S l = -1 ∨ S 56 (blw S l) = 1) : Wf (bly S l) := by
  have up : ∀ i, S 56 i = 1 → bly S l 56 i = 1 := fun i hi => by
    show (if 56 = 56 ∧ i = l then (1 : Int) else S 56 i) = 1
    split
    · rfl
    · exact hi
  have up7 : ∀ i, S 57 i = 1 → bly S l 57 i = 1 := fun i hi => by
    show (if 57 = 57 ∧ i = l then (1 : Int) else S 57 i) = 1
    split
    · rfl
    · exact hi
  refine ⟨fun i hi => up i (hW.1 i hi), fun c hc => ⟨up _ (hW.2.1 c hc).1, (hW.2.1 c hc).2⟩, fun k hk => up _ (hW.2.2.1 k hk), fun i hi => ?_, hW.2.2.2.2.1, fun n j a b c => ?_, hW.2.2.2.2.2.2⟩
  · have hi' : (if 56 = 56 ∧ i = l then (1 : Int) else S 56 i) = 1 := hi
    by_cases z : i = l
    · subst z
      exact ⟨if_pos ⟨rfl, rfl⟩, hb.imp_right (up _)⟩
    · rw [if_neg (fun w => z w.2)] at hi'
      have q := hW.2.2.2.1 i hi'
      exact ⟨up7 _ q.1, q.2.imp_right (up _)⟩
  · have hb := elK_b S n j
    show bly S l (50 + elK S n j) (elI S n j) = 1
    rw [bly_r (by omega) (by omega)]
    exact hW.2.2.2.2.2.1 n j a b c
theorem cls_mkl {g : xG} {K : hp} {ad : cA} {S : gS} {h : hp} {l ht : Int} {q x : Nat} (hc : cls g K ad S h) (hW : Wf S) (h58 : ∀ n, S 58 n = 1 → S 51 n = 1) (h6 : S 56 l ≠ 1) (h7 : S 57 l ≠ 1) (hl0 : 0 ≤ l) (hl1 : l < 35) (hq : h q = none) (hx : h x = none) (hqx : q ≠ x) (hb : blw S l = -1 ∨ S 56 (blw S l) = 1) (h36 : S 36 l = ht) (h2 : S 2 l = 0) (hf : ∀ f, 0 ≤ f → f < 32 → S 1 (32 * l + f) = 0) : cls g K (aly ad l q x) (bly S l) (hset (hset h q (iarr g 32 (fun _ => 0))) x (.inr (5, [rfo ad 6 (blw S l), .int (iI ht), .ref q, .int (iI 0)]))) := by
  have e7 : iarr g 32 (fun _ => 0) = cel g (cup ad 7 l q) (sset S (50 + 7) l 1) 7 l := by
    have : flF (sset S (50 + 7) l 1) l = fun _ => 0 := by
      funext f
      show (if 0 ≤ f ∧ f < 32 then S 1 (32 * l + f) else 0) = 0
      split
      · rename_i z; exact hf f z.1 z.2
      · rfl
    show _ = iarr g 32 (flF (sset S (50 + 7) l 1) l)
    rw [this]
  have h1 := hc.brn hq (k := 7) (by decide) (by decide) h7 hl0 hl1 hW h58 e7.symm
  have hx' : hset h q (iarr g 32 (fun _ => 0)) x = none := (hset_n _ _ (fun e => hqx e.symm)).trans hx
  refine h1.brn (k := 6) hx' (by decide) (by decide) h6 hl0 hl1 (Wf_57 hW l) h58 ?_
  have hbl : blw S l ≠ l ∨ blw S l = -1 := by
    rcases hb with e | e
    · exact Or.inr e
    · exact Or.inl (fun z => h6 (by rw [← z]; exact e))
  show (Sum.inr (5, [rfo (cup (cup ad 7 l q) 6 l x) 6 (blw S l), .int (iI (S 36 l)), .ref (cup (cup ad 7 l q) 6 l x 7 l), .int (iI (S 2 l))]) : va_E) = _
  rw [rfo_cup _ x (by omega : blw S l = -1 ∨ ¬ (6 = 6 ∧ blw S l = l)), rfo_cup _ q (Or.inr (fun z => absurd z.1 (by decide))), cup_n _ x (fun z => absurd z.1 (by decide)), cup_s, h36, h2]
theorem hset_sw {h : hp} {x q : Nat} {d A O : va_E} (hqx : q ≠ x) : hset (hset (hset h x d) q A) x O = hset (hset h q A) x O := by
  funext a
  unfold hset
  by_cases e : a = x
  · rw [if_pos e, if_pos e]
  · by_cases e2 : a = q
    · simp only [if_neg e, if_pos e2]
    · simp only [if_neg e, if_neg e2]
theorem hset_none {h : hp} {x q : Nat} {d : va_E} (hq : hset h x d q = none) : q ≠ x ∧ h q = none := by
  unfold hset at hq
  split at hq
  · cases hq
  · rename_i e; exact ⟨e, hq⟩
theorem t_l_initR {g : xG} {h : hp} {QX : qE} {ad : cA} {S : gS} {x : Nat} {b : Int} (hx : h x = some (.inr (5, [.null, .int (iI 0), .null, .int (iI 0)]))) (hb : b = -1 ∨ (h (ad 6 b) = some (.inr (5, fl6 S ad b)) ∧ ad 6 b ≠ x)) : xM g y_l_init k_l_init M_l_init [.ref x, rfo ad 6 b] h (fun v h9 => v = none ∧ ∃ q, h q = none ∧ h9 = hset (hset h q (iarr g 32 (fun _ => 0))) x (.inr (5, [rfo ad 6 b, .int (iI (if b = -1 then 1 else S 36 b + 1)), .ref q, .int (iI 0)]))) QX := by
  by_cases z : b = -1
  · subst z
    exact t_l_initN hx
  · have w := hb.resolve_left z
    rw [rfo_ref z, if_neg z]
    exact t_l_init hx w.1 w.2
theorem cW_at {g : xG} {M : xMeth} {K : hp} {Q : qK} {QX : qKE} {rc rs : Nat} {ad : cA} {S : gS} {pc : Nat} {ls : List (Option Value)} {st : List Value} {h : hp} (hc : cls g K ad S h) (kk : cW g M K Q QX rc rs ad S pc ls st) : xW g M (cQ g K Q) (cE g K QX) rc rs h pc ls st := kk h hc
theorem cls.ne {g : xG} {K : hp} {ad : cA} {S : gS} {h : hp} (hc : cls g K ad S h) {k : Nat} {i : Int} {x : Nat} (hk : k ≤ 10) (hl : S (50 + k) i = 1) (hx : h x = none) : ad k i ≠ x := fun e => by
  have := (hc.1 k i hk hl).1
  rw [e, hx] at this
  cases this
/-- the files of a layer copied to another one -/
def cpf (S : gS) (t f : Int) : gS := fun a j => if a = 1 ∧ 32 * t ≤ j ∧ j < 32 * t + 32 then S 1 (j - 32 * t + 32 * f) else S a j
theorem cpf_r (S : gS) (t f : Int) {k : Nat} (h : k ≠ 1) : cpf S t f k = S k := by
  funext j
  exact if_neg (fun z => h z.1)
theorem cls.wcpf {g : xG} {K : hp} {ad : cA} {S : gS} {h : hp} {t f : Int} (hc : cls g K ad S h) (hl : S 57 t = 1) : cls g K ad (cpf S t f) (hset h (ad 7 t) (iarr g 32 (fun j => if j < 32 then flF S f j else flF S t j))) := by
  refine hc.put (k := 7) (by decide) hl (fun q hq _ => cpf_r S t f (by omega)) (fun n => rfl) ?_ (fun k' i' hk' _ hne _ _ => ?_)
  · have e : flF (cpf S t f) t = fun j => if j < 32 then flF S f j else flF S t j := by
      funext j
      show (if 0 ≤ j ∧ j < 32 then (if 1 = 1 ∧ 32 * t ≤ 32 * t + j ∧ 32 * t + j < 32 * t + 32 then S 1 (32 * t + j - 32 * t + 32 * f) else S 1 (32 * t + j)) else 0) = (if j < 32 then (if 0 ≤ j ∧ j < 32 then S 1 (32 * f + j) else 0) else (if 0 ≤ j ∧ j < 32 then S 1 (32 * t + j) else 0))
      by_cases q : 0 ≤ j ∧ j < 32
      · rw [if_pos q, if_pos q.2, if_pos q, if_pos ⟨rfl, by omega, by omega⟩, show 32 * t + j - 32 * t + 32 * f = 32 * f + j by omega]
      · rw [if_neg q, if_neg q, if_neg q]
        split <;> rfl
    show iarr g 32 (flF (cpf S t f) t) = _
    rw [e]
  · rcases k11 hk' with rfl | rfl | rfl | rfl | rfl | rfl | rfl | rfl | rfl | rfl | rfl
    all_goals first | rfl | skip
    have hn : i' ≠ t := fun e9 => hne ⟨rfl, e9⟩
    have e : flF (cpf S t f) i' = flF S i' := by
      funext j
      show (if 0 ≤ j ∧ j < 32 then (if 1 = 1 ∧ 32 * t ≤ 32 * i' + j ∧ 32 * i' + j < 32 * t + 32 then S 1 (32 * i' + j - 32 * t + 32 * f) else S 1 (32 * i' + j)) else 0) = (if 0 ≤ j ∧ j < 32 then S 1 (32 * i' + j) else 0)
      by_cases q : 0 ≤ j ∧ j < 32
      · rw [if_pos q, if_pos q, if_neg (fun z => hn (by omega))]
      · rw [if_neg q, if_neg q]
    simp only [cel, e]
theorem c_fcopy {g : xG} {M : xMeth} {K : hp} {Q : qK} {QX : qKE} {rc rs : Nat} {ad : cA} {S : gS} {pc : Nat} {ls : List (Option Value)} {st : List Value} {t f : Int} (hl : S 57 t = 1) (hf : S 57 f = 1) (d : decode M.2.1 pc = .ok (.invokestatic 26, 3)) (hM : M.1 = "ContainerHost$Layer") (hfr : 1 ≤ M.2.2.2.2.2.2.frames) (hlo : 50 ≤ M.2.2.2.2.2.2.locals) (hst : (st.map fun v => v.category).sum ≤ 8) (kk : cW g M K Q QX rc rs ad (cpf S t f) (pc + 3) ls st) : cW g M K Q QX rc rs ad S pc ls (.int (iI 32) :: .int (iI 0) :: .ref (ad 7 t) :: .int (iI 0) :: .ref (ad 7 f) :: st) :=
  fun h hc => x_copyI (n0 := 32) (n1 := 32) (f := flF S f) (f1 := flF S t) (n := 32) d (by rw [hM]; exact wAc4) wAc1 wAc2 wAc3 (hc.at 7 (by decide) hf) (hc.at 7 (by decide) hl) (by decide) (by decide) (by decide) (by decide) hfr hlo hst (kk _ (hc.wcpf hl))
theorem cpf_cz (S : gS) (t f : Int) : sset (cpf S t f) 2 t (S 2 f) = cz S t f 32 := by
  funext a j
  show (if a = 2 ∧ j = t then S 2 f else if a = 1 ∧ 32 * t ≤ j ∧ j < 32 * t + 32 then S 1 (j - 32 * t + 32 * f) else S a j) = _
  rfl
theorem t_l_copied {g : xG} {K : hp} {ad : cA} {S : gS} {QX : qKE} {l s : Int} (hW : Wf S) (h58 : ∀ n, S 58 n = 1 → S 51 n = 1) (hs6 : S 56 s = 1) (h6 : S 56 l ≠ 1) (h7 : S 57 l ≠ 1) (hl0 : 0 ≤ l) (hl1 : l < 35) (hb : blw S l = blw S s) (h36 : S 36 l = if blw S s = -1 then 1 else S 36 (blw S s) + 1) (h2 : S 2 l = 0) (hf : ∀ f, 0 ≤ f → f < 32 → S 1 (32 * l + f) = 0) : cM g y_l_copied k_l_copied M_l_copied K [.ref (ad 6 s)] ad S (fun v9 ad9 S9 => v9 = some (.ref (ad9 6 l)) ∧ (∃ q x, ad9 = aly ad l q x) ∧ S9 = cz (bly S l) l s 32) QX := by
  refine cM.of rfl (by decide) rfl rfl rfl (by simp [Value.category]) (Nat.le_of_ble_eq_true rfl) rfl ?_
  intro h hc
  have hws := hW.2.2.2.1 s hs6
  have hsl : s ≠ l := fun e => h6 (by rw [← e]; exact hs6)
  refine nw_l_10 d_l_copied_0 rfl rfl rfl (fun x hx => ?_)
  refine x_dup d_l_copied_3 rfl ?_
  refine x_aload_n d_l_copied_4 rfl ?_
  refine fg_l_15_5 d_l_copied_5 rfl ((hset_n _ _ (hc.ne (k := 6) (by decide) hs6 hx)).trans (hc.at 6 (by decide) hs6)) rfl ?_
  refine x_callI d_l_copied_8 rfl q_l_copied_23 s_l_init rfl (t_l_initR (S := S) (hset_s _ _ _) (hws.2.imp_right (fun z => ⟨(hset_n _ _ (hc.ne (k := 6) (by decide) z hx)).trans (hc.at 6 (by decide) z), hc.ne (k := 6) (by decide) z hx⟩))) rfl (by rfl) (Nat.le_of_ble_eq_true rfl) rfl rfl rfl (fun _ _ hx9 => hx9) ?_
  rintro _ _ ⟨rfl, q, hq, rfl⟩
  have hq2 := hset_none hq
  rw [hset_sw hq2.1]
  have hL := cls_mkl hc hW h58 h6 h7 hl0 hl1 hq2.2 hx hq2.1 (by rw [hb]; exact hws.2) h36 h2 hf
  rw [hb] at hL
  refine cW_at hL ?_
  have ex : aly ad l q x 6 l = x := cup_s _ _ _ _
  have es : aly ad l q x 6 s = ad 6 s := (cup_n _ _ (fun z => hsl z.2)).trans (cup_n _ _ (fun z => absurd z.1 (by decide)))
  have h6l : bly S l 56 l = 1 := if_pos ⟨rfl, rfl⟩
  have h7l : bly S l 57 l = 1 := if_pos ⟨rfl, rfl⟩
  have h6s : bly S l 56 s = 1 := (if_neg (fun z => hsl z.2)).trans hs6
  have h7s : bly S l 57 s = 1 := (if_neg (fun z => hsl z.2)).trans hws.1
  show cW g M_l_copied K _ QX _ _ (aly ad l q x) (bly S l) 11 [some (.ref (ad 6 s)), none] [.ref x]
  rw [show (Value.ref x) = .ref (aly ad l q x 6 l) from congrArg Value.ref ex.symm, show (Value.ref (ad 6 s)) = .ref (aly ad l q x 6 s) from congrArg Value.ref es.symm]
  refine c_astore_n d_l_copied_11 (by decide) ?_
  refine c_aload_n d_l_copied_12 rfl ?_
  refine cg_l_9_5 h6s d_l_copied_13 rfl ?_
  refine c_iconst d_l_copied_16 ?_
  refine c_aload_n d_l_copied_17 rfl ?_
  refine cg_l_9_5 h6l d_l_copied_18 rfl ?_
  refine c_iconst d_l_copied_21 ?_
  refine c_bipush d_l_copied_22 (by decide) ?_
  refine c_fcopy h7l h7s d_l_copied_24 rfl (by decide) (by decide) (Nat.le_of_ble_eq_true rfl) ?_
  refine c_aload_n d_l_copied_27 rfl ?_
  refine c_aload_n d_l_copied_28 rfl ?_
  refine cg_l_32_5 h6s d_l_copied_29 rfl ?_
  refine cp_l_32_5 h6l d_l_copied_32 rfl ?_
  refine c_aload_n d_l_copied_35 rfl ?_
  exact c_aret rfl (Or.inl ⟨_, rfl⟩) (Or.inr ⟨_, rfl⟩) d_l_copied_36 (⟨rfl, ⟨q, x, rfl⟩, cpf_cz _ _ _⟩)
theorem Wf_52 {S : gS} (hW : Wf S) {i : Int} (h : S 56 i = 1) : Wf (sset S 52 i 1) := by
  refine ⟨fun j hj => ?_, hW.2.1, hW.2.2.1, hW.2.2.2.1, hW.2.2.2.2.1, fun n j a b c => ?_, hW.2.2.2.2.2.2⟩
  · have hj' : (if 52 = 52 ∧ j = i then (1 : Int) else S 52 j) = 1 := hj
    split at hj'
    · rename_i z; rw [z.2]; exact h
    · exact hW.1 j hj'
  · have q := hW.2.2.2.2.2.1 n j a b c
    show sset S 52 i 1 (50 + elK S n j) (elI S n j) = 1
    unfold sset
    split
    · rfl
    · exact q
theorem Wf_54 {S : gS} (hW : Wf S) {i : Int} (h : S 56 (10 + i) = 1) (h2 : S 53 (S 20 i) = 1) : Wf (sset S 54 i 1) := by
  refine ⟨hW.1, fun j hj => ?_, hW.2.2.1, hW.2.2.2.1, hW.2.2.2.2.1, fun n j a b c => ?_, fun j a b => ?_⟩
  · have hj' : (if 54 = 54 ∧ j = i then (1 : Int) else S 54 j) = 1 := hj
    split at hj'
    · rename_i z; rw [z.2]; exact ⟨h, h2⟩
    · exact hW.2.1 j hj'
  · have q := hW.2.2.2.2.2.1 n j a b c
    show sset S 54 i 1 (50 + elK S n j) (elI S n j) = 1
    unfold sset
    split
    · rfl
    · exact q
  · have q := hW.2.2.2.2.2.2 j a b
    refine q.imp_right (fun z => ?_)
    show (if 54 = 54 ∧ S 24 j = i then (1 : Int) else S 54 (S 24 j)) = 1
    by_cases z2 : S 24 j = i
    · exact if_pos ⟨rfl, z2⟩
    · exact (if_neg (fun w => z2 w.2)).trans z
theorem Wf_53 {S : gS} (hW : Wf S) {i : Int} (h : S 7 i = -1 ∨ S 53 (S 7 i) = 1) : Wf (sset S 53 i 1) := by
  have up : ∀ p, S 53 p = 1 → sset S 53 i 1 53 p = 1 := fun p hp => by
    show (if 53 = 53 ∧ p = i then (1 : Int) else S 53 p) = 1
    split
    · rfl
    · exact hp
  refine ⟨hW.1, fun c hc => ⟨(hW.2.1 c hc).1, up _ (hW.2.1 c hc).2⟩, hW.2.2.1, hW.2.2.2.1, fun p hp => ?_, fun n j a b c => ?_, hW.2.2.2.2.2.2⟩
  · have hp' : (if 53 = 53 ∧ p = i then (1 : Int) else S 53 p) = 1 := hp
    split at hp'
    · rename_i z; rw [z.2]; exact h.imp_right (up _)
    · exact (hW.2.2.2.2.1 p hp').imp_right (up _)
  · have q := hW.2.2.2.2.2.1 n j a b c
    show sset S 53 i 1 (50 + elK S n j) (elI S n j) = 1
    unfold sset
    split
    · rfl
    · exact q
theorem Wf_55 {S : gS} (hW : Wf S) {i : Int} (h : S 56 (30 + i) = 1) : Wf (sset S 55 i 1) := by
  refine ⟨hW.1, hW.2.1, fun j hj => ?_, hW.2.2.2.1, hW.2.2.2.2.1, fun n j a b c => ?_, hW.2.2.2.2.2.2⟩
  · have hj' : (if 55 = 55 ∧ j = i then (1 : Int) else S 55 j) = 1 := hj
    split at hj'
    · rename_i z; rw [z.2]; exact h
    · exact hW.2.2.1 j hj'
  · have q := hW.2.2.2.2.2.1 n j a b c
    show sset S 55 i 1 (50 + elK S n j) (elI S n j) = 1
    unfold sset
    split
    · rfl
    · exact q
theorem t_h_addImage {g : xG} {K : hp} {ad : cA} {S : gS} {QX : qKE} {n b : Int} (hW : Wf S) (h15 : ∀ i, S 58 i = 1 ∨ S 51 i = 1 → 1 ≤ i ∧ i ≤ 5) (h51 : ∀ n, 1 ≤ n → n ≤ 5 → S 51 n = 1) (h0 : S 50 0 = 1) (hn : n = S 3 0) (hn0 : 0 ≤ n) (hn1 : n < 10) (h52 : S 52 n ≠ 1) (h56 : S 56 n = 1) (h5 : S 5 n = b) (hb : b = 0 ∨ b = 1) : cM g y_h_addImage k_h_addImage M_h_addImage K [.ref (ad 0 0), .ref (ad 6 n), .int (iI b)] ad S (fun v9 ad9 S9 => v9 = some (.int (iI n)) ∧ ∃ N', R32 N' ∧ S9 = lad1 (sset S 52 n 1) N') QX := by
  refine cM.of rfl (by decide) rfl rfl rfl (by simp [Value.category]) (Nat.le_of_ble_eq_true rfl) rfl ?_
  have hL1 := h51 1 (by decide) (by decide)
  have h58 : ∀ m, S 58 m = 1 → S 51 m = 1 := fun m hm => h51 m (h15 m (Or.inl hm)).1 (h15 m (Or.inl hm)).2
  refine c_aload_n d_h_addImage_0 rfl ?_
  refine cg_h_12_6 h0 d_h_addImage_1 rfl ?_
  intro h hc
  refine nw_h_80 d_h_addImage_4 rfl rfl rfl (fun x hx => ?_)
  refine x_dup d_h_addImage_7 rfl ?_
  refine x_aload_n d_h_addImage_8 rfl ?_
  refine x_iload_n d_h_addImage_9 rfl ?_
  refine x_callI d_h_addImage_10 rfl q_h_addImage_363 s_i_init rfl (t_i_init hb (hset_s _ _ _)) rfl (by rfl) (Nat.le_of_ble_eq_true rfl) rfl rfl rfl (fun _ _ hx9 => hx9) ?_
  rintro _ _ ⟨rfl, rfl⟩
  rw [hset_hset]
  have hB := hc.brn (k := 2) (i := n) (e := .inr (4, [.ref (ad 6 n), .int (iI b)])) hx (by decide) (by decide) h52 hn0 hn1 hW h58 (by rw [← h5]; rfl)
  refine cW_at hB ?_
  have ex : cup ad 2 n x 2 n = x := cup_s _ _ _ _
  show cW g M_h_addImage K _ QX _ _ (cup ad 2 n x) (sset S (50 + 2) n 1) 13 [some (.ref (ad 0 0)), some (.ref (ad 6 n)), some (.int (iI b))] [.ref x, .ref (ad 1 1)]
  rw [show (Value.ref x) = .ref (cup ad 2 n x 2 n) from congrArg Value.ref ex.symm]
  refine c_callV (r := (RJx4a65c, TJx4a65c, 3)) d_h_addImage_13 q_h_addImage_43 s_al_add_ngObject21 v_al_add_ngObject21 (t_al_add1_c (S := sset S (50 + 2) n 1) (ad := cup ad 2 n x) (ke := 2) (ie := n) (Wf_52 hW h56) h15 hL1 (by decide) (by decide) rfl (by show S 3 0 = n; omega) (if_pos ⟨rfl, rfl⟩) (by show S 3 0 < 33; omega)) (fun _ z => ⟨_, z.at 1 (by decide) hL1⟩) rfl rfl rfl rfl (Nat.le_of_ble_eq_true rfl) rfl rfl rfl (fun _ _ _ z => z) ?_
  rintro _ _ _ ⟨rfl, d9, N9, hR9, rfl, rfl⟩
  have e1 : lad1 (sset S (50 + 2) n 1) N9 3 0 - 1 = n := by
    show (if 3 = 3 ∧ (0 : Int) = 0 then S 3 0 + 1 else S 3 0) - 1 = n
    rw [if_pos ⟨rfl, rfl⟩]
    omega
  have h0' : lad1 (sset S (50 + 2) n 1) N9 50 0 = 1 := h0
  have hL1' : lad1 (sset S (50 + 2) n 1) N9 51 1 = 1 := hL1
  refine c_pop d_h_addImage_16 rfl ?_
  refine c_aload_n d_h_addImage_17 rfl ?_
  refine cg_h_12_6 h0' d_h_addImage_18 rfl ?_
  refine c_lsize1 hL1' d_h_addImage_21 q_h_addImage_147 (Nat.le_of_ble_eq_true rfl) rfl ?_
  refine c_iconst d_h_addImage_24 ?_
  refine c_isub d_h_addImage_25 ?_
  exact c_iret rfl d_h_addImage_26 ⟨congrArg (fun z => some (Value.int (iI z))) e1, N9, hR9, rfl⟩
theorem t_h_addContainer {g : xG} {K : hp} {ad : cA} {S : gS} {QX : qKE} {n w s : Int} (hW : Wf S) (h15 : ∀ i, S 58 i = 1 ∨ S 51 i = 1 → 1 ≤ i ∧ i ≤ 5) (h51 : ∀ n, 1 ≤ n → n ≤ 5 → S 51 n = 1) (h0 : S 50 0 = 1) (hn : n = S 11 0) (hn0 : 0 ≤ n) (hn1 : n < 20) (h54 : S 54 n ≠ 1) (h56 : S 56 (10 + n) = 1) (h53 : S 53 w = 1) (h20 : S 20 n = w) (h13 : S 13 n = s) (hz : S 19 n = 0 ∧ S 14 n = 0 ∧ S 15 n = 0 ∧ S 22 n = 0 ∧ S 16 n = 0 ∧ S 17 n = 0 ∧ S 18 n = 0 ∧ S 33 n = -1 ∧ S 34 n = -1) : cM g y_h_addContainer k_h_addContainer M_h_addContainer K [.ref (ad 0 0), .ref (ad 3 w), .ref (ad 6 (10 + n)), .int (iI s)] ad S (fun v9 ad9 S9 => v9 = some (.ref (ad9 4 n)) ∧ (∃ q d', ad9 = cup (cup ad 4 n q) 8 3 d') ∧ ∃ N', R32 N' ∧ S9 = lad3 (sset S 54 n 1) N') QX := by
  refine cM.of rfl (by decide) rfl rfl rfl (by simp [Value.category]) (Nat.le_of_ble_eq_true rfl) rfl ?_
  have hL3 := h51 3 (by decide) (by decide)
  have h58 : ∀ m, S 58 m = 1 → S 51 m = 1 := fun m hm => h51 m (h15 m (Or.inl hm)).1 (h15 m (Or.inl hm)).2
  intro h hc
  refine nw_h_25 d_h_addContainer_0 rfl rfl rfl (fun x hx => ?_)
  have H : ∀ {k : Nat} {i : Int}, k ≤ 10 → S (50 + k) i = 1 → hset h x (.inr (2, zfX1)) (ad k i) = some (cel g ad S k i) := fun hk hl => (hset_n _ _ (hc.ne hk hl hx)).trans (hc.at _ hk hl)
  refine x_dup d_h_addContainer_3 rfl ?_
  refine x_aload_n d_h_addContainer_4 rfl ?_
  refine fg_h_19_6 d_h_addContainer_5 rfl (H (k := 0) (by decide) h0) rfl ?_
  refine x_callV (r := (RJx4a65c, TJx4a65c, 3)) (As := []) d_h_addContainer_8 q_h_addContainer_147 s_al_size v_al_size (t_al_size (QX := cE g K QX) (H (k := 1) (i := 3) (by decide) hL3)) (H (k := 1) (i := 3) (by decide) hL3) rfl rfl rfl rfl (Nat.le_of_ble_eq_true rfl) rfl rfl rfl (fun _ _ z => z) ?_
  rintro _ _ ⟨rfl, rfl⟩
  refine x_aload_n d_h_addContainer_11 rfl ?_
  refine x_aload_n d_h_addContainer_12 rfl ?_
  refine x_iload_n d_h_addContainer_13 rfl ?_
  refine x_callI d_h_addContainer_14 rfl q_h_addContainer_368 s_c_init rfl (t_c_init (n := cnt S 3) (hset_s _ _ _)) rfl (by rfl) (Nat.le_of_ble_eq_true rfl) rfl rfl rfl (fun _ _ hx9 => hx9) ?_
  rintro _ _ ⟨rfl, rfl⟩
  rw [hset_hset]
  have hcn : cnt S 3 = n := hn.symm
  rw [hcn]
  have hB := hc.brn (k := 4) (i := n) (e := .inr (2, [.int (iI s), .int (iI n), .ref (ad 3 w), .ref (ad 6 (10 + n)), .int (iI 0), .int (iI 0), .int (iI 0), .int (iI 0), .int (iI 0), .int (iI 0), .int (iI 0), .int (iI (-1)), .int (iI (-1))])) hx (by decide) (by decide) h54 hn0 hn1 hW h58 (by
    show (Sum.inr (2, [.int (iI (S 13 n)), .int (iI n), .ref (ad 3 (S 20 n)), .ref (ad 6 (10 + n)), .int (iI (S 19 n)), .int (iI (S 14 n)), .int (iI (S 15 n)), .int (iI (S 22 n)), .int (iI (S 16 n)), .int (iI (S 17 n)), .int (iI (S 18 n)), .int (iI (S 33 n)), .int (iI (S 34 n))]) : va_E) = _
    rw [h13, h20, hz.1, hz.2.1, hz.2.2.1, hz.2.2.2.1, hz.2.2.2.2.1, hz.2.2.2.2.2.1, hz.2.2.2.2.2.2.1, hz.2.2.2.2.2.2.2.1, hz.2.2.2.2.2.2.2.2])
  refine cW_at hB ?_
  have ex : cup ad 4 n x 4 n = x := cup_s _ _ _ _
  show cW g M_h_addContainer K _ QX _ _ (cup ad 4 n x) (sset S (50 + 4) n 1) 17 [some (.ref (ad 0 0)), some (.ref (ad 3 w)), some (.ref (ad 6 (10 + n))), some (.int (iI s)), none] [.ref x]
  rw [show (Value.ref x) = .ref (cup ad 4 n x 4 n) from congrArg Value.ref ex.symm]
  have h0' : sset S (50 + 4) n 1 50 0 = 1 := h0
  have hL3' : sset S (50 + 4) n 1 51 3 = 1 := hL3
  refine c_astore d_h_addContainer_17 (by decide) ?_
  refine c_aload_n d_h_addContainer_19 rfl ?_
  refine cg_h_19_6 h0' d_h_addContainer_20 rfl ?_
  refine c_aload d_h_addContainer_23 rfl ?_
  refine c_callV (r := (RJx4a65c, TJx4a65c, 3)) d_h_addContainer_25 q_h_addContainer_43 s_al_add_ngObject21 v_al_add_ngObject21 (t_al_add3_c (S := sset S (50 + 4) n 1) (ad := cup ad 4 n x) (ke := 4) (ie := n) (Wf_54 hW h56 (by rw [h20]; exact h53)) h15 hL3 (by decide) (by decide) rfl (by show S 11 0 = n; omega) (if_pos ⟨rfl, rfl⟩) (by show S 11 0 < 33; omega)) (fun _ z => ⟨_, z.at 1 (by decide) hL3'⟩) rfl rfl rfl rfl (Nat.le_of_ble_eq_true rfl) rfl rfl rfl (fun _ _ _ z => z) ?_
  rintro _ _ _ ⟨rfl, d9, N9, hR9, rfl, rfl⟩
  refine c_pop d_h_addContainer_28 rfl ?_
  refine c_aload d_h_addContainer_29 rfl ?_
  exact c_aret rfl (Or.inl ⟨_, rfl⟩) (Or.inr ⟨_, rfl⟩) d_h_addContainer_31 ⟨rfl, ⟨x, d9, rfl⟩, N9, hR9, rfl⟩
