theorem wOI0 : Cond.methodLink "ContainerHostModel" 1 Lib.objectInit ∈ lw_tbl := mt (i := 972) (by decide +kernel)
theorem wOI1 : Cond.instanceMethod Lib.objectInit ∈ lw_tbl := mt (i := 31) (by decide +kernel)
theorem wOI2 : Cond.code Lib.objectInit ⟨#[0xb1]⟩ 1 none ∈ lw_tbl := mt (i := 32) (by decide +kernel)
theorem misA_lt {k : Nat} (h : misA k = true) : k < 28 := by
  rcases (by omega : k < 28 ∨ 28 ≤ k) with z | z
  · exact z
  · unfold misA at h
    rw [decide_eq_false (by omega)] at h; cases h
/-! the reference's constructor -/
def adF (fs : List Value) (k : Nat) : Nat := match fs[k]? with
  | some (.ref q) => q
  | _ => 0
theorem adF_n (fs : List Value) {i k : Nat} (v : Value) (h : i ≠ k) : adF (fs.set k v) i = adF fs i := by
  unfold adF
  rw [List.getElem?_set_ne (Ne.symm h)]
theorem adF_s (fs : List Value) {k : Nat} (q : Nat) (h : k < fs.length) : adF (fs.set k (.ref q)) k = q := by
  unfold adF
  rw [List.getElem?_set_self h]
def mpt (g : xG) (x : Nat) (h0 : hp) (fs : List Value) (n : Nat) (h : hp) : Prop := h x = some (.inr (7, fs)) ∧ (∀ k, k < n → misA k = true → h (adF fs k) = some (marr g k (fun _ => 0)) ∧ adF fs k ≠ x ∧ h0 (adF fs k) = none) ∧ (∀ i j, i < n → j < n → misA i = true → misA j = true → adF fs i = adF fs j → i = j) ∧ ∀ a, a ≠ x → h0 a ≠ none → h a = h0 a
def nW (g : xG) (x : Nat) (h0 : hp) (Q : qP) (QX : qE) (rc rs : Nat) (fs : List Value) (n pc : Nat) (ls : List (Option Value)) (st : List Value) : Prop := ∀ h, mpt g x h0 fs n h → xW g M_m_init Q QX rc rs h pc ls st
theorem n_arr {g : xG} {x : Nat} {h0 : hp} {Q : qP} {QX : qE} {rc rs rc' rs' n pc t N k index : Nat} {fs : List Value} {ls : List (Option Value)} {at0 : ArrayType} {ty : FieldType} (d1 : decode c_m_init pc = .ok (.newarray at0, 2)) (d2 : decode c_m_init (pc + 2) = .ok (.putfield index, 3)) (ht : (gT g)[t]? = some (g.2.2.2.2 t, ty)) (hty : newarray.typeOf at0 = ty) (hobj : ∀ C, ty ≠ .object C) (hw : Cond.arrayClass ty ∈ lw_tbl) (hma : marr g k (fun _ => 0) = .inl (g.2.2.2.2 t, N, .inl (fun _ => iI 0))) (h0a : ∀ cA : ClassId, vp_cell cA (N, .inl (fun _ => iI 0)) = arrV cA N (fun _ => defaultValue ty)) (hb : N * componentBytes ty ≤ 536870912) (hb2 : N < 2147483648) (hl : Cond.fieldLink "ContainerHostModel" index "ContainerHostModel" (TX7 k).2.1 (TX7 k).2.2.1 ∈ lw_tbl) (hd : (TX7 k).1 = "ContainerHostModel") (hfin : (TX7 k).2.2.2 = true) (hnar : ∀ q, narrow (tyX7 k) (.ref q) = .ref q) (hfit : ∀ q, fits (tyX7 k) (.ref q) = true) (hk : k < 28) (hlen : fs.length = 28) (hnk : n ≤ k) (hmid : ∀ i, n ≤ i → i < k → misA i = false) (hmk : misA k = true) (e1 : rc = rc' + 1) (e2 : rs = rs' + N) (kk : ∀ q, nW g x h0 Q QX rc' rs' (fs.set k (.ref q)) (k + 1) (pc + 5) ls []) : nW g x h0 Q QX rc rs fs n pc ls [.int (iI (N : Int)), .ref x] := by
  intro h hp
  refine x_newarr ht hty hobj hw h0a rfl hb hb2 e1 e2 d1 (fun q hq => ?_)
  obtain ⟨p1, p2, p3, p4⟩ := hp
  have hqx : q ≠ x := fun e => by rw [e, p1] at hq; cases hq
  have hq0 : h0 q = none := by
    cases e : h0 q with
    | none => rfl
    | some v =>
      have := p4 q hqx (by rw [e]; exact fun z => by cases z)
      rw [hq, e] at this; cases this
  refine x_putF (ci := 7) (ref := "ContainerHostModel") d2 in7 tyX7_ok nmX7 rfl hk hl (Or.inl hd.symm) hfin rfl hd (hnar q) (hfit q) ((hset_n h _ (Ne.symm hqx)).trans p1) (by omega) ?_
  have hq1 : ∀ i, i < n → misA i = true → q ≠ adF fs i := fun i hi hm e => by
    have := (p2 i hi hm).1
    rw [← e, hq] at this; cases this
  refine kk q _ ⟨hset_s _ _ _, fun i hi hm => ?_, fun i j hi hj hmi hmj hij => ?_, fun a ha h0a => ?_⟩
  · by_cases e : i = k
    · subst e
      rw [adF_s fs q (by omega)]
      exact ⟨by rw [hset_n _ _ hqx, hset_s, hma], hqx, hq0⟩
    · have hin : i < n := by
        rcases (by omega : i < n ∨ n ≤ i) with z | z
        · exact z
        · rw [hmid i z (by omega)] at hm; cases hm
      have h2 := p2 i hin hm
      rw [adF_n fs _ e]
      exact ⟨by rw [hset_n _ _ h2.2.1, hset_n _ _ (Ne.symm (hq1 i hin hm))]; exact h2.1, h2.2⟩
  · have hin : ∀ i, i < k + 1 → i ≠ k → misA i = true → i < n := fun i hi e hm => by
      rcases (by omega : i < n ∨ n ≤ i) with z | z
      · exact z
      · rw [hmid i z (by omega)] at hm; cases hm
    by_cases e : i = k
    · subst e
      by_cases e2 : j = i
      · exact e2.symm
      · rw [adF_s fs q (by omega), adF_n fs _ e2] at hij
        exact absurd hij (hq1 j (hin j hj e2 hmj) hmj)
    · by_cases e2 : j = k
      · subst e2
        rw [adF_s fs q (by omega), adF_n fs _ e] at hij
        exact absurd hij.symm (hq1 i (hin i hi e hmi) hmi)
      · rw [adF_n fs _ e, adF_n fs _ e2] at hij
        exact p3 i j (hin i hi e hmi) (hin j hj e2 hmj) hmi hmj hij
  · rw [hset_n _ _ ha, hset_n _ _ (fun e => by rw [e, hq0] at h0a; exact h0a rfl)]
    exact p4 a ha h0a
theorem wI : Cond.arrayClass FieldType.int ∈ lw_tbl := mt (i := 105) (by decide +kernel)
theorem wZ : Cond.arrayClass FieldType.boolean ∈ lw_tbl := mt (i := 1058) (by decide +kernel)
def S00 : gS := fun k j => if k = 6 ∧ j = 0 then 1 else 0
def S01 : gS := sset (sset (sset S00 7 0 (-1)) 8 0 10000) 9 0 100
def S0n (n : Int) : gS := fun k j => if k = 24 ∧ 0 ≤ j ∧ j < n then -1 else S01 k j
def S0 : gS := S0n 32
def nV (g : xG) (x : Nat) (ad : Nat → Nat) (hm : hp) (Q : qP) (QX : qE) (rc rs : Nat) (S : gS) (pc : Nat) (ls : List (Option Value)) (st : List Value) : Prop := ∀ h, mdl g x ad 0 S h → mfr x ad hm h → xW g M_m_init Q QX rc rs h pc ls st
theorem n_st {g : xG} {x : Nat} {ad : Nat → Nat} {hm : hp} {Q : qP} {QX : qE} {rc rs pc pc2 k index : Nat} {S : gS} {ls : List (Option Value)} {i v : Int} (N : Nat) (d0 : decode c_m_init pc = .ok (.aload_n 0, 1)) (d1 : decode c_m_init (pc + 1) = .ok (.getfield index, 3)) (d2 : decode c_m_init pc2 = .ok (.iastore, 1)) (hls : ls[0]? = some (some (.ref x))) (hl : Cond.fieldLink "ContainerHostModel" index "ContainerHostModel" (TX7 k).2.1 (TX7 k).2.2.1 ∈ lw_tbl) (hd : (TX7 k).1 = "ContainerHostModel") (hv : ∀ tt S ad, (mobj tt S ad)[k]? = some (.ref (ad k))) (hk : misA k = true) (h5 : k ≠ 5) (hN : mlen k = N) (h0 : 0 ≤ i) (h1 : i < N) (push : ∀ h, xW g M_m_init Q QX rc rs h pc2 ls [.int (iI v), .int (iI i), .ref (ad k)] → xW g M_m_init Q QX rc rs h (pc + 4) ls [.ref (ad k)]) (kk : nV g x ad hm Q QX rc rs (sset S k i v) (pc2 + 1) ls []) : nV g x ad hm Q QX rc rs S pc ls [] := by
  intro h hmm hf
  refine x_aload_n d0 hls ?_
  refine x_get (ci := 7) (ref := "ContainerHostModel") d1 in7 rfl (misA_lt hk) hl (Or.inl hd.symm) hmm.1 (hv _ _ _) ?_
  refine push h ?_
  refine x_iast (n := mlen k) (f := S k) d2 (by rw [hmm.2.1 k hk]; unfold marr; rw [if_neg h5]) (mlen_lt k) h0 (by rw [hN]; exact h1) ?_
  have h2 := hmm.set hk i v
  have e : marr g k (fset (S k) i v) = iarr g (mlen k) (fset (S k) i v) := by unfold marr; rw [if_neg h5]
  rw [e] at h2
  exact kk _ h2 (hf.set hk _)
theorem S0n_s (n : Nat) : sset (S0n n) 24 n (-1) = S0n ((n + 1 : Nat) : Int) := by
  funext k j; unfold sset S0n
  by_cases e : j = n
  · subst e
    (repeat' split) <;> first | rfl | omega
  · (repeat' split) <;> first | rfl | omega
theorem S0n_0 : S0n 0 = S01 := by
  funext k j; unfold S0n; rw [if_neg (by omega)]
theorem L_m_init {g : xG} {x : Nat} {ad : Nat → Nat} {hm : hp} {Q : qP} {QX : qE} {rc rs : Nat} (hq : ∀ h', mdl g x ad 0 S0 h' → mfr x ad hm h' → Q none h') : ∀ (f9 n : Nat), n ≤ 32 → 32 < n + f9 → nV g x ad hm Q QX rc rs (S0n n) 220 [some (.ref x), some (.int (iI (n : Int)))] [] := by
  intro f9
  induction f9 with
  | zero => intros; omega
  | succ f9 ih =>
    intro n h1 h2 h hmm hf
    refine x_iload_n d_m_init_220 rfl ?_
    refine x_bipush d_m_init_221 (by decide) ?_
    refine x_icmp_ge (tgt := 239) d_m_init_223 (by decide) (by unfold R32; omega) (by unfold R32; omega) (fun z => ?_) (fun z => ?_)
    · refine x_vret rfl d_m_init_239 (hq h ?_ hf)
      have : n = 32 := by omega
      subst this
      exact hmm
    · refine (?_ : nV g x ad hm Q QX rc rs (S0n n) 226 [some (.ref x), some (.int (iI (n : Int)))] []) h hmm hf
      refine n_st (k := 24) (i := n) (v := -1) (pc2 := 232) 32 d_m_init_226 d_m_init_227 d_m_init_232 rfl w997 rfl (fun _ _ _ => rfl) rfl (by decide) rfl (by omega) (by omega) (fun h9 k9 => ?_) ?_
      · refine x_iload_n d_m_init_230 rfl ?_
        refine x_iconst d_m_init_231 ?_
        exact k9
      · intro h hmm hf
        refine x_iinc d_m_init_233 rfl (by decide) ?_
        refine x_goto (tgt := 220) d_m_init_236 (by decide) ?_
        rw [S0n_s] at hmm
        exact ih (n + 1) (by omega) (by omega) h hmm hf

theorem n_grp {g : xG} {x : Nat} {h0 : hp} {Q : qP} {QX : qE} {rc rs n pc : Nat} {fs : List Value} {ls : List (Option Value)} (d0 : decode c_m_init pc = .ok (.aload_n 0, 1)) (d1 : decode c_m_init (pc + 1) = .ok (.iconst 1, 1)) (d2 : decode c_m_init (pc + 2) = .ok (.putfield 23, 3)) (hls : ls[0]? = some (some (.ref x))) (hn : n ≤ 6) (hl : Cond.fieldLink "ContainerHostModel" 23 "ContainerHostModel" (TX7 6).2.1 (TX7 6).2.2.1 ∈ lw_tbl) (hlen : fs.length = 28) (kk : nW g x h0 Q QX rc rs (fs.set 6 (.int (iI 1))) n (pc + 5) ls []) : nW g x h0 Q QX rc rs fs n pc ls [] := by
  intro h hp
  obtain ⟨p1, p2, p3, p4⟩ := hp
  refine x_aload_n d0 hls ?_
  refine x_iconst d1 ?_
  refine x_put (ci := 7) (ref := "ContainerHostModel") d2 in7 tyX7_ok nmX7 rfl (by decide) hl (Or.inl rfl) rfl rfl rfl p1 (by omega) ?_
  refine kk _ ⟨hset_s _ _ _, fun i hi hm => ?_, fun i j hi hj hmi hmj hij => ?_, fun a ha h0a => (hset_n _ _ ha).trans (p4 a ha h0a)⟩
  · rw [adF_n fs _ (by omega)]
    have h2 := p2 i hi hm
    exact ⟨by rw [hset_n _ _ h2.2.1]; exact h2.1, h2.2⟩
  · rw [adF_n fs _ (by omega), adF_n fs _ (by omega)] at hij
    exact p3 i j hi hj hmi hmj hij
theorem n_mid {a b i : Nat} (h1 : a ≤ i) (h2 : i < b) (h : ∀ j, j < 28 → a ≤ j → j < b → misA j = false) : misA i = false := by
  rcases (by omega : i < 28 ∨ 28 ≤ i) with z | z
  · exact h i z h1 h2
  · unfold misA
    rw [decide_eq_false (by omega)]; rfl
def zF7 : List Value := [.int (iI 0), .null, .null, .int (iI 0), .null, .null, .int (iI 0), .null, .null, .null, .null, .int (iI 0), .null, .null, .null, .null, .null, .null, .null, .null, .null, .null, .null, .int (iI 0), .null, .null, .null, .null]
def qInit (g : xG) (x : Nat) (h0 : hp) : qP := fun v h' => v = none ∧ ∃ ad, mdl g x ad 0 S0 h' ∧ (∀ k, misA k = true → h0 (ad k) = none ∧ ad k ≠ x) ∧ ∀ a, a ≠ x → h0 a ≠ none → h' a = h0 a
theorem t_m_init {g : xG} {x : Nat} {h0 : hp} {QX : qE} (hx : h0 x = some (.inr (7, zF7))) : xM g y_m_init k_m_init M_m_init [.ref x] h0 (qInit g x h0) QX := by
  refine xM.of rfl (by decide) rfl rfl rfl (by simp [Value.category]) (Nat.le_of_ble_eq_true rfl) rfl ?_
  refine x_aload_n d_m_init_0 rfl ?_
  refine x_objInit d_m_init_1 wOI0 wOI1 wOI2 (by decide) (by decide) (Nat.le_of_ble_eq_true rfl) ?_
  generalize hQQ : qInit g x h0 = Q
  refine (?_ : nW g x h0 Q QX 23 2000 zF7 0 4 [some (.ref x), none] []) h0 ⟨hx, fun _ h => absurd h (Nat.not_lt_zero _), fun _ _ h => absurd h (Nat.not_lt_zero _), fun _ _ _ => rfl⟩
  intro h hp
  refine x_aload_n d_m_init_4 rfl ?_
  refine x_sipush d_m_init_5 (by decide) ?_
  refine (?_ : nW g x h0 Q QX 23 2000 [.int (iI 0), .null, .null, .int (iI 0), .null, .null, .int (iI 0), .null, .null, .null, .null, .int (iI 0), .null, .null, .null, .null, .null, .null, .null, .null, .null, .null, .null, .int (iI 0), .null, .null, .null, .null] 0 8 [some (.ref x), none] [.int (iI 1120), .ref x]) h hp
  refine n_arr (k := 1) (N := 1120) (t := 0) (rc' := 22) (rs' := 880) d_m_init_8 d_m_init_10 rfl rfl (fun _ z => by cases z) wI rfl (fun _ => rfl) (by decide) (by decide) w974 rfl rfl (fun _ => rfl) (fun _ => rfl) (by decide) rfl (by decide) (fun i h1 h2 => n_mid h1 h2 (by decide)) rfl rfl rfl (fun q1 => ?_)
  refine (?_ : nW g x h0 Q QX 22 880 [.int (iI 0), .ref q1, .null, .int (iI 0), .null, .null, .int (iI 0), .null, .null, .null, .null, .int (iI 0), .null, .null, .null, .null, .null, .null, .null, .null, .null, .null, .null, .int (iI 0), .null, .null, .null, .null] 2 13 [some (.ref x), none] [])
  intro h hp
  refine x_aload_n d_m_init_13 rfl ?_
  refine x_bipush d_m_init_14 (by decide) ?_
  refine (?_ : nW g x h0 Q QX 22 880 [.int (iI 0), .ref q1, .null, .int (iI 0), .null, .null, .int (iI 0), .null, .null, .null, .null, .int (iI 0), .null, .null, .null, .null, .null, .null, .null, .null, .null, .null, .null, .int (iI 0), .null, .null, .null, .null] 2 16 [some (.ref x), none] [.int (iI 35), .ref x]) h hp
  refine n_arr (k := 2) (N := 35) (t := 0) (rc' := 21) (rs' := 845) d_m_init_16 d_m_init_18 rfl rfl (fun _ z => by cases z) wI rfl (fun _ => rfl) (by decide) (by decide) w975 rfl rfl (fun _ => rfl) (fun _ => rfl) (by decide) rfl (by decide) (fun i h1 h2 => n_mid h1 h2 (by decide)) rfl rfl rfl (fun q2 => ?_)
  refine (?_ : nW g x h0 Q QX 21 845 [.int (iI 0), .ref q1, .ref q2, .int (iI 0), .null, .null, .int (iI 0), .null, .null, .null, .null, .int (iI 0), .null, .null, .null, .null, .null, .null, .null, .null, .null, .null, .null, .int (iI 0), .null, .null, .null, .null] 3 21 [some (.ref x), none] [])
  intro h hp
  refine x_aload_n d_m_init_21 rfl ?_
  refine x_bipush d_m_init_22 (by decide) ?_
  refine (?_ : nW g x h0 Q QX 21 845 [.int (iI 0), .ref q1, .ref q2, .int (iI 0), .null, .null, .int (iI 0), .null, .null, .null, .null, .int (iI 0), .null, .null, .null, .null, .null, .null, .null, .null, .null, .null, .null, .int (iI 0), .null, .null, .null, .null] 3 24 [some (.ref x), none] [.int (iI 10), .ref x]) h hp
  refine n_arr (k := 4) (N := 10) (t := 0) (rc' := 20) (rs' := 835) d_m_init_24 d_m_init_26 rfl rfl (fun _ z => by cases z) wI rfl (fun _ => rfl) (by decide) (by decide) w977 rfl rfl (fun _ => rfl) (fun _ => rfl) (by decide) rfl (by decide) (fun i h1 h2 => n_mid h1 h2 (by decide)) rfl rfl rfl (fun q4 => ?_)
  refine (?_ : nW g x h0 Q QX 20 835 [.int (iI 0), .ref q1, .ref q2, .int (iI 0), .ref q4, .null, .int (iI 0), .null, .null, .null, .null, .int (iI 0), .null, .null, .null, .null, .null, .null, .null, .null, .null, .null, .null, .int (iI 0), .null, .null, .null, .null] 5 29 [some (.ref x), none] [])
  intro h hp
  refine x_aload_n d_m_init_29 rfl ?_
  refine x_bipush d_m_init_30 (by decide) ?_
  refine (?_ : nW g x h0 Q QX 20 835 [.int (iI 0), .ref q1, .ref q2, .int (iI 0), .ref q4, .null, .int (iI 0), .null, .null, .null, .null, .int (iI 0), .null, .null, .null, .null, .null, .null, .null, .null, .null, .null, .null, .int (iI 0), .null, .null, .null, .null] 5 32 [some (.ref x), none] [.int (iI 10), .ref x]) h hp
  refine n_arr (k := 5) (N := 10) (t := 1) (rc' := 19) (rs' := 825) d_m_init_32 d_m_init_34 rfl rfl (fun _ z => by cases z) wZ rfl (fun _ => rfl) (by decide) (by decide) w978 rfl rfl (fun _ => rfl) (fun _ => rfl) (by decide) rfl (by decide) (fun i h1 h2 => n_mid h1 h2 (by decide)) rfl rfl rfl (fun q5 => ?_)
  refine (?_ : nW g x h0 Q QX 19 825 [.int (iI 0), .ref q1, .ref q2, .int (iI 0), .ref q4, .ref q5, .int (iI 0), .null, .null, .null, .null, .int (iI 0), .null, .null, .null, .null, .null, .null, .null, .null, .null, .null, .null, .int (iI 0), .null, .null, .null, .null] 6 37 [some (.ref x), none] [])
  refine (n_grp (pc := 37) d_m_init_37 d_m_init_38 d_m_init_39 rfl (by decide) w979 rfl ?_)
  refine (?_ : nW g x h0 Q QX 19 825 [.int (iI 0), .ref q1, .ref q2, .int (iI 0), .ref q4, .ref q5, .int (iI 1), .null, .null, .null, .null, .int (iI 0), .null, .null, .null, .null, .null, .null, .null, .null, .null, .null, .null, .int (iI 0), .null, .null, .null, .null] 6 42 [some (.ref x), none] [])
  intro h hp
  refine x_aload_n d_m_init_42 rfl ?_
  refine x_bipush d_m_init_43 (by decide) ?_
  refine (?_ : nW g x h0 Q QX 19 825 [.int (iI 0), .ref q1, .ref q2, .int (iI 0), .ref q4, .ref q5, .int (iI 1), .null, .null, .null, .null, .int (iI 0), .null, .null, .null, .null, .null, .null, .null, .null, .null, .null, .null, .int (iI 0), .null, .null, .null, .null] 6 45 [some (.ref x), none] [.int (iI 8), .ref x]) h hp
  refine n_arr (k := 7) (N := 8) (t := 0) (rc' := 18) (rs' := 817) d_m_init_45 d_m_init_47 rfl rfl (fun _ z => by cases z) wI rfl (fun _ => rfl) (by decide) (by decide) w980 rfl rfl (fun _ => rfl) (fun _ => rfl) (by decide) rfl (by decide) (fun i h1 h2 => n_mid h1 h2 (by decide)) rfl rfl rfl (fun q7 => ?_)
  refine (?_ : nW g x h0 Q QX 18 817 [.int (iI 0), .ref q1, .ref q2, .int (iI 0), .ref q4, .ref q5, .int (iI 1), .ref q7, .null, .null, .null, .int (iI 0), .null, .null, .null, .null, .null, .null, .null, .null, .null, .null, .null, .int (iI 0), .null, .null, .null, .null] 8 50 [some (.ref x), none] [])
  intro h hp
  refine x_aload_n d_m_init_50 rfl ?_
  refine x_bipush d_m_init_51 (by decide) ?_
  refine (?_ : nW g x h0 Q QX 18 817 [.int (iI 0), .ref q1, .ref q2, .int (iI 0), .ref q4, .ref q5, .int (iI 1), .ref q7, .null, .null, .null, .int (iI 0), .null, .null, .null, .null, .null, .null, .null, .null, .null, .null, .null, .int (iI 0), .null, .null, .null, .null] 8 53 [some (.ref x), none] [.int (iI 8), .ref x]) h hp
  refine n_arr (k := 8) (N := 8) (t := 0) (rc' := 17) (rs' := 809) d_m_init_53 d_m_init_55 rfl rfl (fun _ z => by cases z) wI rfl (fun _ => rfl) (by decide) (by decide) w981 rfl rfl (fun _ => rfl) (fun _ => rfl) (by decide) rfl (by decide) (fun i h1 h2 => n_mid h1 h2 (by decide)) rfl rfl rfl (fun q8 => ?_)
  refine (?_ : nW g x h0 Q QX 17 809 [.int (iI 0), .ref q1, .ref q2, .int (iI 0), .ref q4, .ref q5, .int (iI 1), .ref q7, .ref q8, .null, .null, .int (iI 0), .null, .null, .null, .null, .null, .null, .null, .null, .null, .null, .null, .int (iI 0), .null, .null, .null, .null] 9 58 [some (.ref x), none] [])
  intro h hp
  refine x_aload_n d_m_init_58 rfl ?_
  refine x_bipush d_m_init_59 (by decide) ?_
  refine (?_ : nW g x h0 Q QX 17 809 [.int (iI 0), .ref q1, .ref q2, .int (iI 0), .ref q4, .ref q5, .int (iI 1), .ref q7, .ref q8, .null, .null, .int (iI 0), .null, .null, .null, .null, .null, .null, .null, .null, .null, .null, .null, .int (iI 0), .null, .null, .null, .null] 9 61 [some (.ref x), none] [.int (iI 8), .ref x]) h hp
  refine n_arr (k := 9) (N := 8) (t := 0) (rc' := 16) (rs' := 801) d_m_init_61 d_m_init_63 rfl rfl (fun _ z => by cases z) wI rfl (fun _ => rfl) (by decide) (by decide) w982 rfl rfl (fun _ => rfl) (fun _ => rfl) (by decide) rfl (by decide) (fun i h1 h2 => n_mid h1 h2 (by decide)) rfl rfl rfl (fun q9 => ?_)
  refine (?_ : nW g x h0 Q QX 16 801 [.int (iI 0), .ref q1, .ref q2, .int (iI 0), .ref q4, .ref q5, .int (iI 1), .ref q7, .ref q8, .ref q9, .null, .int (iI 0), .null, .null, .null, .null, .null, .null, .null, .null, .null, .null, .null, .int (iI 0), .null, .null, .null, .null] 10 66 [some (.ref x), none] [])
  intro h hp
  refine x_aload_n d_m_init_66 rfl ?_
  refine x_bipush d_m_init_67 (by decide) ?_
  refine (?_ : nW g x h0 Q QX 16 801 [.int (iI 0), .ref q1, .ref q2, .int (iI 0), .ref q4, .ref q5, .int (iI 1), .ref q7, .ref q8, .ref q9, .null, .int (iI 0), .null, .null, .null, .null, .null, .null, .null, .null, .null, .null, .null, .int (iI 0), .null, .null, .null, .null] 10 69 [some (.ref x), none] [.int (iI 8), .ref x]) h hp
  refine n_arr (k := 10) (N := 8) (t := 0) (rc' := 15) (rs' := 793) d_m_init_69 d_m_init_71 rfl rfl (fun _ z => by cases z) wI rfl (fun _ => rfl) (by decide) (by decide) w983 rfl rfl (fun _ => rfl) (fun _ => rfl) (by decide) rfl (by decide) (fun i h1 h2 => n_mid h1 h2 (by decide)) rfl rfl rfl (fun q10 => ?_)
  refine (?_ : nW g x h0 Q QX 15 793 [.int (iI 0), .ref q1, .ref q2, .int (iI 0), .ref q4, .ref q5, .int (iI 1), .ref q7, .ref q8, .ref q9, .ref q10, .int (iI 0), .null, .null, .null, .null, .null, .null, .null, .null, .null, .null, .null, .int (iI 0), .null, .null, .null, .null] 11 74 [some (.ref x), none] [])
  intro h hp
  refine x_aload_n d_m_init_74 rfl ?_
  refine x_bipush d_m_init_75 (by decide) ?_
  refine (?_ : nW g x h0 Q QX 15 793 [.int (iI 0), .ref q1, .ref q2, .int (iI 0), .ref q4, .ref q5, .int (iI 1), .ref q7, .ref q8, .ref q9, .ref q10, .int (iI 0), .null, .null, .null, .null, .null, .null, .null, .null, .null, .null, .null, .int (iI 0), .null, .null, .null, .null] 11 77 [some (.ref x), none] [.int (iI 25), .ref x]) h hp
  refine n_arr (k := 12) (N := 25) (t := 0) (rc' := 14) (rs' := 768) d_m_init_77 d_m_init_79 rfl rfl (fun _ z => by cases z) wI rfl (fun _ => rfl) (by decide) (by decide) w985 rfl rfl (fun _ => rfl) (fun _ => rfl) (by decide) rfl (by decide) (fun i h1 h2 => n_mid h1 h2 (by decide)) rfl rfl rfl (fun q12 => ?_)
  refine (?_ : nW g x h0 Q QX 14 768 [.int (iI 0), .ref q1, .ref q2, .int (iI 0), .ref q4, .ref q5, .int (iI 1), .ref q7, .ref q8, .ref q9, .ref q10, .int (iI 0), .ref q12, .null, .null, .null, .null, .null, .null, .null, .null, .null, .null, .int (iI 0), .null, .null, .null, .null] 13 82 [some (.ref x), none] [])
  intro h hp
  refine x_aload_n d_m_init_82 rfl ?_
  refine x_bipush d_m_init_83 (by decide) ?_
  refine (?_ : nW g x h0 Q QX 14 768 [.int (iI 0), .ref q1, .ref q2, .int (iI 0), .ref q4, .ref q5, .int (iI 1), .ref q7, .ref q8, .ref q9, .ref q10, .int (iI 0), .ref q12, .null, .null, .null, .null, .null, .null, .null, .null, .null, .null, .int (iI 0), .null, .null, .null, .null] 13 85 [some (.ref x), none] [.int (iI 25), .ref x]) h hp
  refine n_arr (k := 13) (N := 25) (t := 0) (rc' := 13) (rs' := 743) d_m_init_85 d_m_init_87 rfl rfl (fun _ z => by cases z) wI rfl (fun _ => rfl) (by decide) (by decide) w986 rfl rfl (fun _ => rfl) (fun _ => rfl) (by decide) rfl (by decide) (fun i h1 h2 => n_mid h1 h2 (by decide)) rfl rfl rfl (fun q13 => ?_)
  refine (?_ : nW g x h0 Q QX 13 743 [.int (iI 0), .ref q1, .ref q2, .int (iI 0), .ref q4, .ref q5, .int (iI 1), .ref q7, .ref q8, .ref q9, .ref q10, .int (iI 0), .ref q12, .ref q13, .null, .null, .null, .null, .null, .null, .null, .null, .null, .int (iI 0), .null, .null, .null, .null] 14 90 [some (.ref x), none] [])
  intro h hp
  refine x_aload_n d_m_init_90 rfl ?_
  refine x_bipush d_m_init_91 (by decide) ?_
  refine (?_ : nW g x h0 Q QX 13 743 [.int (iI 0), .ref q1, .ref q2, .int (iI 0), .ref q4, .ref q5, .int (iI 1), .ref q7, .ref q8, .ref q9, .ref q10, .int (iI 0), .ref q12, .ref q13, .null, .null, .null, .null, .null, .null, .null, .null, .null, .int (iI 0), .null, .null, .null, .null] 14 93 [some (.ref x), none] [.int (iI 25), .ref x]) h hp
  refine n_arr (k := 14) (N := 25) (t := 0) (rc' := 12) (rs' := 718) d_m_init_93 d_m_init_95 rfl rfl (fun _ z => by cases z) wI rfl (fun _ => rfl) (by decide) (by decide) w987 rfl rfl (fun _ => rfl) (fun _ => rfl) (by decide) rfl (by decide) (fun i h1 h2 => n_mid h1 h2 (by decide)) rfl rfl rfl (fun q14 => ?_)
  refine (?_ : nW g x h0 Q QX 12 718 [.int (iI 0), .ref q1, .ref q2, .int (iI 0), .ref q4, .ref q5, .int (iI 1), .ref q7, .ref q8, .ref q9, .ref q10, .int (iI 0), .ref q12, .ref q13, .ref q14, .null, .null, .null, .null, .null, .null, .null, .null, .int (iI 0), .null, .null, .null, .null] 15 98 [some (.ref x), none] [])
  intro h hp
  refine x_aload_n d_m_init_98 rfl ?_
  refine x_bipush d_m_init_99 (by decide) ?_
  refine (?_ : nW g x h0 Q QX 12 718 [.int (iI 0), .ref q1, .ref q2, .int (iI 0), .ref q4, .ref q5, .int (iI 1), .ref q7, .ref q8, .ref q9, .ref q10, .int (iI 0), .ref q12, .ref q13, .ref q14, .null, .null, .null, .null, .null, .null, .null, .null, .int (iI 0), .null, .null, .null, .null] 15 101 [some (.ref x), none] [.int (iI 25), .ref x]) h hp
  refine n_arr (k := 15) (N := 25) (t := 0) (rc' := 11) (rs' := 693) d_m_init_101 d_m_init_103 rfl rfl (fun _ z => by cases z) wI rfl (fun _ => rfl) (by decide) (by decide) w988 rfl rfl (fun _ => rfl) (fun _ => rfl) (by decide) rfl (by decide) (fun i h1 h2 => n_mid h1 h2 (by decide)) rfl rfl rfl (fun q15 => ?_)
  refine (?_ : nW g x h0 Q QX 11 693 [.int (iI 0), .ref q1, .ref q2, .int (iI 0), .ref q4, .ref q5, .int (iI 1), .ref q7, .ref q8, .ref q9, .ref q10, .int (iI 0), .ref q12, .ref q13, .ref q14, .ref q15, .null, .null, .null, .null, .null, .null, .null, .int (iI 0), .null, .null, .null, .null] 16 106 [some (.ref x), none] [])
  intro h hp
  refine x_aload_n d_m_init_106 rfl ?_
  refine x_bipush d_m_init_107 (by decide) ?_
  refine (?_ : nW g x h0 Q QX 11 693 [.int (iI 0), .ref q1, .ref q2, .int (iI 0), .ref q4, .ref q5, .int (iI 1), .ref q7, .ref q8, .ref q9, .ref q10, .int (iI 0), .ref q12, .ref q13, .ref q14, .ref q15, .null, .null, .null, .null, .null, .null, .null, .int (iI 0), .null, .null, .null, .null] 16 109 [some (.ref x), none] [.int (iI 25), .ref x]) h hp
  refine n_arr (k := 16) (N := 25) (t := 0) (rc' := 10) (rs' := 668) d_m_init_109 d_m_init_111 rfl rfl (fun _ z => by cases z) wI rfl (fun _ => rfl) (by decide) (by decide) w989 rfl rfl (fun _ => rfl) (fun _ => rfl) (by decide) rfl (by decide) (fun i h1 h2 => n_mid h1 h2 (by decide)) rfl rfl rfl (fun q16 => ?_)
  refine (?_ : nW g x h0 Q QX 10 668 [.int (iI 0), .ref q1, .ref q2, .int (iI 0), .ref q4, .ref q5, .int (iI 1), .ref q7, .ref q8, .ref q9, .ref q10, .int (iI 0), .ref q12, .ref q13, .ref q14, .ref q15, .ref q16, .null, .null, .null, .null, .null, .null, .int (iI 0), .null, .null, .null, .null] 17 114 [some (.ref x), none] [])
  intro h hp
  refine x_aload_n d_m_init_114 rfl ?_
  refine x_bipush d_m_init_115 (by decide) ?_
  refine (?_ : nW g x h0 Q QX 10 668 [.int (iI 0), .ref q1, .ref q2, .int (iI 0), .ref q4, .ref q5, .int (iI 1), .ref q7, .ref q8, .ref q9, .ref q10, .int (iI 0), .ref q12, .ref q13, .ref q14, .ref q15, .ref q16, .null, .null, .null, .null, .null, .null, .int (iI 0), .null, .null, .null, .null] 17 117 [some (.ref x), none] [.int (iI 25), .ref x]) h hp
  refine n_arr (k := 17) (N := 25) (t := 0) (rc' := 9) (rs' := 643) d_m_init_117 d_m_init_119 rfl rfl (fun _ z => by cases z) wI rfl (fun _ => rfl) (by decide) (by decide) w990 rfl rfl (fun _ => rfl) (fun _ => rfl) (by decide) rfl (by decide) (fun i h1 h2 => n_mid h1 h2 (by decide)) rfl rfl rfl (fun q17 => ?_)
  refine (?_ : nW g x h0 Q QX 9 643 [.int (iI 0), .ref q1, .ref q2, .int (iI 0), .ref q4, .ref q5, .int (iI 1), .ref q7, .ref q8, .ref q9, .ref q10, .int (iI 0), .ref q12, .ref q13, .ref q14, .ref q15, .ref q16, .ref q17, .null, .null, .null, .null, .null, .int (iI 0), .null, .null, .null, .null] 18 122 [some (.ref x), none] [])
  intro h hp
  refine x_aload_n d_m_init_122 rfl ?_
  refine x_bipush d_m_init_123 (by decide) ?_
  refine (?_ : nW g x h0 Q QX 9 643 [.int (iI 0), .ref q1, .ref q2, .int (iI 0), .ref q4, .ref q5, .int (iI 1), .ref q7, .ref q8, .ref q9, .ref q10, .int (iI 0), .ref q12, .ref q13, .ref q14, .ref q15, .ref q16, .ref q17, .null, .null, .null, .null, .null, .int (iI 0), .null, .null, .null, .null] 18 125 [some (.ref x), none] [.int (iI 25), .ref x]) h hp
  refine n_arr (k := 18) (N := 25) (t := 0) (rc' := 8) (rs' := 618) d_m_init_125 d_m_init_127 rfl rfl (fun _ z => by cases z) wI rfl (fun _ => rfl) (by decide) (by decide) w991 rfl rfl (fun _ => rfl) (fun _ => rfl) (by decide) rfl (by decide) (fun i h1 h2 => n_mid h1 h2 (by decide)) rfl rfl rfl (fun q18 => ?_)
  refine (?_ : nW g x h0 Q QX 8 618 [.int (iI 0), .ref q1, .ref q2, .int (iI 0), .ref q4, .ref q5, .int (iI 1), .ref q7, .ref q8, .ref q9, .ref q10, .int (iI 0), .ref q12, .ref q13, .ref q14, .ref q15, .ref q16, .ref q17, .ref q18, .null, .null, .null, .null, .int (iI 0), .null, .null, .null, .null] 19 130 [some (.ref x), none] [])
  intro h hp
  refine x_aload_n d_m_init_130 rfl ?_
  refine x_bipush d_m_init_131 (by decide) ?_
  refine (?_ : nW g x h0 Q QX 8 618 [.int (iI 0), .ref q1, .ref q2, .int (iI 0), .ref q4, .ref q5, .int (iI 1), .ref q7, .ref q8, .ref q9, .ref q10, .int (iI 0), .ref q12, .ref q13, .ref q14, .ref q15, .ref q16, .ref q17, .ref q18, .null, .null, .null, .null, .int (iI 0), .null, .null, .null, .null] 19 133 [some (.ref x), none] [.int (iI 20), .ref x]) h hp
  refine n_arr (k := 19) (N := 20) (t := 0) (rc' := 7) (rs' := 598) d_m_init_133 d_m_init_135 rfl rfl (fun _ z => by cases z) wI rfl (fun _ => rfl) (by decide) (by decide) w992 rfl rfl (fun _ => rfl) (fun _ => rfl) (by decide) rfl (by decide) (fun i h1 h2 => n_mid h1 h2 (by decide)) rfl rfl rfl (fun q19 => ?_)
  refine (?_ : nW g x h0 Q QX 7 598 [.int (iI 0), .ref q1, .ref q2, .int (iI 0), .ref q4, .ref q5, .int (iI 1), .ref q7, .ref q8, .ref q9, .ref q10, .int (iI 0), .ref q12, .ref q13, .ref q14, .ref q15, .ref q16, .ref q17, .ref q18, .ref q19, .null, .null, .null, .int (iI 0), .null, .null, .null, .null] 20 138 [some (.ref x), none] [])
  intro h hp
  refine x_aload_n d_m_init_138 rfl ?_
  refine x_bipush d_m_init_139 (by decide) ?_
  refine (?_ : nW g x h0 Q QX 7 598 [.int (iI 0), .ref q1, .ref q2, .int (iI 0), .ref q4, .ref q5, .int (iI 1), .ref q7, .ref q8, .ref q9, .ref q10, .int (iI 0), .ref q12, .ref q13, .ref q14, .ref q15, .ref q16, .ref q17, .ref q18, .ref q19, .null, .null, .null, .int (iI 0), .null, .null, .null, .null] 20 141 [some (.ref x), none] [.int (iI 20), .ref x]) h hp
  refine n_arr (k := 20) (N := 20) (t := 0) (rc' := 6) (rs' := 578) d_m_init_141 d_m_init_143 rfl rfl (fun _ z => by cases z) wI rfl (fun _ => rfl) (by decide) (by decide) w993 rfl rfl (fun _ => rfl) (fun _ => rfl) (by decide) rfl (by decide) (fun i h1 h2 => n_mid h1 h2 (by decide)) rfl rfl rfl (fun q20 => ?_)
  refine (?_ : nW g x h0 Q QX 6 578 [.int (iI 0), .ref q1, .ref q2, .int (iI 0), .ref q4, .ref q5, .int (iI 1), .ref q7, .ref q8, .ref q9, .ref q10, .int (iI 0), .ref q12, .ref q13, .ref q14, .ref q15, .ref q16, .ref q17, .ref q18, .ref q19, .ref q20, .null, .null, .int (iI 0), .null, .null, .null, .null] 21 146 [some (.ref x), none] [])
  intro h hp
  refine x_aload_n d_m_init_146 rfl ?_
  refine x_bipush d_m_init_147 (by decide) ?_
  refine (?_ : nW g x h0 Q QX 6 578 [.int (iI 0), .ref q1, .ref q2, .int (iI 0), .ref q4, .ref q5, .int (iI 1), .ref q7, .ref q8, .ref q9, .ref q10, .int (iI 0), .ref q12, .ref q13, .ref q14, .ref q15, .ref q16, .ref q17, .ref q18, .ref q19, .ref q20, .null, .null, .int (iI 0), .null, .null, .null, .null] 21 149 [some (.ref x), none] [.int (iI 20), .ref x]) h hp
  refine n_arr (k := 21) (N := 20) (t := 0) (rc' := 5) (rs' := 558) d_m_init_149 d_m_init_151 rfl rfl (fun _ z => by cases z) wI rfl (fun _ => rfl) (by decide) (by decide) w994 rfl rfl (fun _ => rfl) (fun _ => rfl) (by decide) rfl (by decide) (fun i h1 h2 => n_mid h1 h2 (by decide)) rfl rfl rfl (fun q21 => ?_)
  refine (?_ : nW g x h0 Q QX 5 558 [.int (iI 0), .ref q1, .ref q2, .int (iI 0), .ref q4, .ref q5, .int (iI 1), .ref q7, .ref q8, .ref q9, .ref q10, .int (iI 0), .ref q12, .ref q13, .ref q14, .ref q15, .ref q16, .ref q17, .ref q18, .ref q19, .ref q20, .ref q21, .null, .int (iI 0), .null, .null, .null, .null] 22 154 [some (.ref x), none] [])
  intro h hp
  refine x_aload_n d_m_init_154 rfl ?_
  refine x_bipush d_m_init_155 (by decide) ?_
  refine (?_ : nW g x h0 Q QX 5 558 [.int (iI 0), .ref q1, .ref q2, .int (iI 0), .ref q4, .ref q5, .int (iI 1), .ref q7, .ref q8, .ref q9, .ref q10, .int (iI 0), .ref q12, .ref q13, .ref q14, .ref q15, .ref q16, .ref q17, .ref q18, .ref q19, .ref q20, .ref q21, .null, .int (iI 0), .null, .null, .null, .null] 22 157 [some (.ref x), none] [.int (iI 20), .ref x]) h hp
  refine n_arr (k := 22) (N := 20) (t := 0) (rc' := 4) (rs' := 538) d_m_init_157 d_m_init_159 rfl rfl (fun _ z => by cases z) wI rfl (fun _ => rfl) (by decide) (by decide) w995 rfl rfl (fun _ => rfl) (fun _ => rfl) (by decide) rfl (by decide) (fun i h1 h2 => n_mid h1 h2 (by decide)) rfl rfl rfl (fun q22 => ?_)
  refine (?_ : nW g x h0 Q QX 4 538 [.int (iI 0), .ref q1, .ref q2, .int (iI 0), .ref q4, .ref q5, .int (iI 1), .ref q7, .ref q8, .ref q9, .ref q10, .int (iI 0), .ref q12, .ref q13, .ref q14, .ref q15, .ref q16, .ref q17, .ref q18, .ref q19, .ref q20, .ref q21, .ref q22, .int (iI 0), .null, .null, .null, .null] 23 162 [some (.ref x), none] [])
  intro h hp
  refine x_aload_n d_m_init_162 rfl ?_
  refine x_bipush d_m_init_163 (by decide) ?_
  refine (?_ : nW g x h0 Q QX 4 538 [.int (iI 0), .ref q1, .ref q2, .int (iI 0), .ref q4, .ref q5, .int (iI 1), .ref q7, .ref q8, .ref q9, .ref q10, .int (iI 0), .ref q12, .ref q13, .ref q14, .ref q15, .ref q16, .ref q17, .ref q18, .ref q19, .ref q20, .ref q21, .ref q22, .int (iI 0), .null, .null, .null, .null] 23 165 [some (.ref x), none] [.int (iI 32), .ref x]) h hp
  refine n_arr (k := 24) (N := 32) (t := 0) (rc' := 3) (rs' := 506) d_m_init_165 d_m_init_167 rfl rfl (fun _ z => by cases z) wI rfl (fun _ => rfl) (by decide) (by decide) w997 rfl rfl (fun _ => rfl) (fun _ => rfl) (by decide) rfl (by decide) (fun i h1 h2 => n_mid h1 h2 (by decide)) rfl rfl rfl (fun q24 => ?_)
  refine (?_ : nW g x h0 Q QX 3 506 [.int (iI 0), .ref q1, .ref q2, .int (iI 0), .ref q4, .ref q5, .int (iI 1), .ref q7, .ref q8, .ref q9, .ref q10, .int (iI 0), .ref q12, .ref q13, .ref q14, .ref q15, .ref q16, .ref q17, .ref q18, .ref q19, .ref q20, .ref q21, .ref q22, .int (iI 0), .ref q24, .null, .null, .null] 25 170 [some (.ref x), none] [])
  intro h hp
  refine x_aload_n d_m_init_170 rfl ?_
  refine x_bipush d_m_init_171 (by decide) ?_
  refine (?_ : nW g x h0 Q QX 3 506 [.int (iI 0), .ref q1, .ref q2, .int (iI 0), .ref q4, .ref q5, .int (iI 1), .ref q7, .ref q8, .ref q9, .ref q10, .int (iI 0), .ref q12, .ref q13, .ref q14, .ref q15, .ref q16, .ref q17, .ref q18, .ref q19, .ref q20, .ref q21, .ref q22, .int (iI 0), .ref q24, .null, .null, .null] 25 173 [some (.ref x), none] [.int (iI 32), .ref x]) h hp
  refine n_arr (k := 25) (N := 32) (t := 0) (rc' := 2) (rs' := 474) d_m_init_173 d_m_init_175 rfl rfl (fun _ z => by cases z) wI rfl (fun _ => rfl) (by decide) (by decide) w998 rfl rfl (fun _ => rfl) (fun _ => rfl) (by decide) rfl (by decide) (fun i h1 h2 => n_mid h1 h2 (by decide)) rfl rfl rfl (fun q25 => ?_)
  refine (?_ : nW g x h0 Q QX 2 474 [.int (iI 0), .ref q1, .ref q2, .int (iI 0), .ref q4, .ref q5, .int (iI 1), .ref q7, .ref q8, .ref q9, .ref q10, .int (iI 0), .ref q12, .ref q13, .ref q14, .ref q15, .ref q16, .ref q17, .ref q18, .ref q19, .ref q20, .ref q21, .ref q22, .int (iI 0), .ref q24, .ref q25, .null, .null] 26 178 [some (.ref x), none] [])
  intro h hp
  refine x_aload_n d_m_init_178 rfl ?_
  refine x_bipush d_m_init_179 (by decide) ?_
  refine (?_ : nW g x h0 Q QX 2 474 [.int (iI 0), .ref q1, .ref q2, .int (iI 0), .ref q4, .ref q5, .int (iI 1), .ref q7, .ref q8, .ref q9, .ref q10, .int (iI 0), .ref q12, .ref q13, .ref q14, .ref q15, .ref q16, .ref q17, .ref q18, .ref q19, .ref q20, .ref q21, .ref q22, .int (iI 0), .ref q24, .ref q25, .null, .null] 26 181 [some (.ref x), none] [.int (iI 8), .ref x]) h hp
  refine n_arr (k := 26) (N := 8) (t := 0) (rc' := 1) (rs' := 466) d_m_init_181 d_m_init_183 rfl rfl (fun _ z => by cases z) wI rfl (fun _ => rfl) (by decide) (by decide) w999 rfl rfl (fun _ => rfl) (fun _ => rfl) (by decide) rfl (by decide) (fun i h1 h2 => n_mid h1 h2 (by decide)) rfl rfl rfl (fun q26 => ?_)
  refine (?_ : nW g x h0 Q QX 1 466 [.int (iI 0), .ref q1, .ref q2, .int (iI 0), .ref q4, .ref q5, .int (iI 1), .ref q7, .ref q8, .ref q9, .ref q10, .int (iI 0), .ref q12, .ref q13, .ref q14, .ref q15, .ref q16, .ref q17, .ref q18, .ref q19, .ref q20, .ref q21, .ref q22, .int (iI 0), .ref q24, .ref q25, .ref q26, .null] 27 186 [some (.ref x), none] [])
  intro h hp
  refine x_aload_n d_m_init_186 rfl ?_
  refine x_bipush d_m_init_187 (by decide) ?_
  refine (?_ : nW g x h0 Q QX 1 466 [.int (iI 0), .ref q1, .ref q2, .int (iI 0), .ref q4, .ref q5, .int (iI 1), .ref q7, .ref q8, .ref q9, .ref q10, .int (iI 0), .ref q12, .ref q13, .ref q14, .ref q15, .ref q16, .ref q17, .ref q18, .ref q19, .ref q20, .ref q21, .ref q22, .int (iI 0), .ref q24, .ref q25, .ref q26, .null] 27 189 [some (.ref x), none] [.int (iI 28), .ref x]) h hp
  refine n_arr (k := 27) (N := 28) (t := 0) (rc' := 0) (rs' := 438) d_m_init_189 d_m_init_191 rfl rfl (fun _ z => by cases z) wI rfl (fun _ => rfl) (by decide) (by decide) w1000 rfl rfl (fun _ => rfl) (fun _ => rfl) (by decide) rfl (by decide) (fun i h1 h2 => n_mid h1 h2 (by decide)) rfl rfl rfl (fun q27 => ?_)
  refine (?_ : nW g x h0 Q QX 0 438 [.int (iI 0), .ref q1, .ref q2, .int (iI 0), .ref q4, .ref q5, .int (iI 1), .ref q7, .ref q8, .ref q9, .ref q10, .int (iI 0), .ref q12, .ref q13, .ref q14, .ref q15, .ref q16, .ref q17, .ref q18, .ref q19, .ref q20, .ref q21, .ref q22, .int (iI 0), .ref q24, .ref q25, .ref q26, .ref q27] 28 194 [some (.ref x), none] [])
  intro h hp
  obtain ⟨p1, p2, p3, p4⟩ := hp
  have hA : ∀ k, misA k = true → k < 28 := fun k hk => misA_lt hk
  refine (?_ : nV g x (adF [.int (iI 0), .ref q1, .ref q2, .int (iI 0), .ref q4, .ref q5, .int (iI 1), .ref q7, .ref q8, .ref q9, .ref q10, .int (iI 0), .ref q12, .ref q13, .ref q14, .ref q15, .ref q16, .ref q17, .ref q18, .ref q19, .ref q20, .ref q21, .ref q22, .int (iI 0), .ref q24, .ref q25, .ref q26, .ref q27]) h Q QX 0 438 S00 194 [some (.ref x), none] []) h ⟨p1, fun k hk => ?_, fun i j hi hj => p3 i j (hA i hi) (hA j hj) hi hj⟩ (fun _ _ _ => rfl)
  · refine n_st (k := 7) (i := 0) (v := -1) (pc2 := 200) 8 d_m_init_194 d_m_init_195 d_m_init_200 rfl w980 rfl (fun _ _ _ => rfl) rfl (by decide) rfl (by decide) (by decide) (fun h9 k9 => x_iconst d_m_init_198 (x_iconst d_m_init_199 k9)) ?_
    refine n_st (k := 8) (i := 0) (v := 10000) (pc2 := 209) 8 d_m_init_201 d_m_init_202 d_m_init_209 rfl w981 rfl (fun _ _ _ => rfl) rfl (by decide) rfl (by decide) (by decide) (fun h9 k9 => x_iconst d_m_init_205 (x_sipush d_m_init_206 (by decide) k9)) ?_
    refine n_st (k := 9) (i := 0) (v := 100) (pc2 := 217) 8 d_m_init_210 d_m_init_211 d_m_init_217 rfl w982 rfl (fun _ _ _ => rfl) rfl (by decide) rfl (by decide) (by decide) (fun h9 k9 => x_iconst d_m_init_214 (x_bipush d_m_init_215 (by decide) k9)) ?_
    intro h1 hm1 hf1
    refine x_iconst d_m_init_218 ?_
    refine x_istore_n d_m_init_219 (by decide) ?_
    rw [show sset (sset (sset S00 7 0 (-1)) 8 0 10000) 9 0 100 = S0n ((0 : Nat) : Int) from S0n_0.symm] at hm1
    refine L_m_init (hm := h) ?_ 33 0 (by decide) (by decide) h1 hm1 hf1
    intro h' hm' hf'
    rw [← hQQ]
    refine ⟨rfl, _, hm', fun k hk => ⟨(p2 k (hA k hk) hk).2.2, (p2 k (hA k hk) hk).2.1⟩, fun a ha ha0 => ?_⟩
    rw [hf' a ha (fun k hk e => ha0 (by rw [e]; exact (p2 k (hA k hk) hk).2.2))]
    exact p4 a ha ha0
  · rw [(p2 k (hA k hk) hk).1]
    rw [show S00 k = fun _ => 0 from by funext j; unfold S00; rw [if_neg (fun e => by rw [e.1] at hk; cases hk)]]
