/-- the host's address laid down in g -/
def gp (g : xG) (x : Nat) : xG := (g.1, g.2.1, g.2.2.1, g.2.2.2.1, fun k => if k = 5 then x else g.2.2.2.2 k)
theorem xW_gp {g : xG} {x : Nat} {M : xMeth} {Q : qP} {QX : qE} {rc rs : Nat} {h : hp} {pc : Nat} {ls : List (Option Value)} {st : List Value} (k : xW (gp g x) M Q QX rc rs h pc ls st) : xW g M Q QX rc rs h pc ls st := k
abbrev zfX6 : List Value := [.null, .null, .null, .null, .null, .null, .null]
theorem LInv_start {g : xG} {mo out : Nat} {adm : Nat → Nat} {h1 h3 : hp} {ad : cA} {S : gS} (hc : cls g (fun _ => none) ad S h1) (ha : agr S S0) (hE : Ext S) (hmo : h1 mo = none) (hm : mdl g mo adm 0 S0 h3) (hfr : ∀ k, misA k = true → hset h1 mo (.inr (7, zF7)) (adm k) = none ∧ adm k ≠ mo) (hk : ∀ a, a ≠ mo → hset h1 mo (.inr (7, zF7)) a ≠ none → h3 a = hset h1 mo (.inr (7, zF7)) a) (hout : h3 out = none) (o : Nat → Int64) : LInv g mo out adm (hset h3 out (larr g 1 o)) := by
  have k1 : ∀ a, h1 a ≠ none → h3 a = h1 a := fun a hn => by
    have z : a ≠ mo := fun e => hn (by rw [e]; exact hmo)
    have := hk a z (by rw [hset_n _ _ z]; exact hn)
    rw [hset_n _ _ z] at this
    exact this
  have o1 : ∀ a x, h3 a = some x → a ≠ out := fun a x hx z => by rw [z, hout] at hx; cases hx
  refine ⟨ad, S, fun a => if h1 a = none ∧ a ≠ out then h3 a else none, o, 0, ⟨fun k i hk9 hl => ?_, hc.2.1, fun a x hx => ?_, hc.2.2.2⟩, ?_, if_neg (fun z => z.2 rfl), IV_S0 ha hE, hE⟩
  · have q := hc.1 k i hk9 hl
    have hn : h1 (ad k i) ≠ none := by rw [q.1]; exact fun z => by cases z
    have e3 := k1 _ hn
    have hno : ad k i ≠ out := o1 _ _ (e3.trans q.1)
    rw [hset_n _ _ hno, hset_n _ _ hno, e3]
    exact ⟨q.1, if_neg (fun z => hn z.1), q.2.2⟩
  · by_cases z : a = out
    · subst z
      rw [hset_s] at hx ⊢
      exact hx
    · rw [hset_n _ _ z] at hx ⊢
      by_cases y : h1 a = none ∧ a ≠ out
      · have e9 : (if h1 a = none ∧ a ≠ out then h3 a else none) = h3 a := if_pos y
        rw [← e9]; exact hx
      · have e9 : (if h1 a = none ∧ a ≠ out then h3 a else none) = none := if_neg y
        rw [show (if h1 a = none ∧ a ≠ out then h3 a else none) = none from e9] at hx
        cases hx
  · refine mdl_agr (T := S0) ⟨?_, fun k hk9 => ?_, hm.2.2⟩ ha
    · rw [← hm.1]
      exact if_pos ⟨hmo, o1 _ _ hm.1⟩
    · have h2 := hfr k hk9
      have h1n : h1 (adm k) = none := by
        have := h2.1
        rw [hset_n _ _ h2.2] at this
        exact this
      rw [← hm.2.1 k hk9]
      exact if_pos ⟨h1n, o1 _ _ (hm.2.1 k hk9)⟩
theorem S_law {g : xG} {b L d : Nat} {xs : Nat → Int32} {nm : String} {hh : List (Nat × Nat × Nat × Nat)} (hD : isD g d) (hMi : ∃ mi, va_Mi "[Ljava/lang/Object;" mi g.2.1) (hN : ncOk g) (hXs : va_X b L xs g.2.1 g.2.1.heap) (hb : b < g.2.1.heap.size) (hL : L ≤ 2560) : xW g (M_law nm hh) lawQ mN 601024 7293034 (fun _ => none) 0 [some (.ref b), none, none, none, none, none, none] [] := by
  refine x_new (ci := 6) (rc' := 601023) (rs' := 7293027) (fs := zfX6) d_law_0 inTX6 tyX6_ok rfl w25 w26 w1 (AllLt.mk (P := fun j => defaultValue (tyX6 j) = vp_V zfX6 j) (N := 7) ⟨⟨⟨⟨⟨⟨⟨trivial, rfl⟩, rfl⟩, rfl⟩, rfl⟩, rfl⟩, rfl⟩, rfl⟩) rfl rfl (fun x hx => ?_)
  refine xW_gp (x := x) ?_
  refine x_dup d_law_3 rfl ?_
  refine x_callIC (rc' := 601014) (rs' := 7292892) d_law_4 rfl (q_law_143 nm hh) s_h_init rfl (t_h_init (g := gp g x) (K := fun _ => none) (d := d) hD hMi rfl (hset_s _ _ _) rfl (fun _ _ z => by cases z)) rfl (by rfl) (Nat.le_of_ble_eq_true rfl) rfl rfl ?_
  rintro _ h1 ⟨rfl, ad, S, hx0, hc, hag, hE⟩
  refine x_astore_n d_law_7 (Nat.le_of_ble_eq_true rfl) ?_
  refine x_new (ci := 7) (rc' := 601013) (rs' := 7292864) (fs := zF7) d_law_8 in7 tyX7_ok rfl w967 w968 w11 (AllLt.mk (P := fun j => defaultValue (tyX7 j) = vp_V zF7 j) (N := 28) ⟨⟨⟨⟨⟨⟨⟨⟨⟨⟨⟨⟨⟨⟨⟨⟨⟨⟨⟨⟨⟨⟨⟨⟨⟨⟨⟨⟨trivial, rfl⟩, rfl⟩, rfl⟩, rfl⟩, rfl⟩, rfl⟩, rfl⟩, rfl⟩, rfl⟩, rfl⟩, rfl⟩, rfl⟩, rfl⟩, rfl⟩, rfl⟩, rfl⟩, rfl⟩, rfl⟩, rfl⟩, rfl⟩, rfl⟩, rfl⟩, rfl⟩, rfl⟩, rfl⟩, rfl⟩, rfl⟩, rfl⟩) rfl rfl (fun mo hmo => ?_)
  refine x_dup d_law_11 rfl ?_
  refine x_callIC (rc' := 600990) (rs' := 7290864) d_law_12 rfl (q_law_146 nm hh) s_m_init rfl (t_m_init (hset_s _ _ _)) rfl (by rfl) (Nat.le_of_ble_eq_true rfl) rfl rfl ?_
  rintro _ h3 ⟨rfl, adm, hm, hfr, hkp⟩
  refine x_astore_n d_law_15 (Nat.le_of_ble_eq_true rfl) ?_
  refine x_iconst d_law_16 ?_
  refine x_newarr (at0 := .long) (ty := .long) (t := 2) (N' := 1) (rc' := 600989) (rs' := 7290863) (a0 := (1, .inr (.inl (fun _ => 0)))) rfl rfl (fun _ z => by cases z) w1364 (fun _ => rfl) rfl (by decide) (by decide) rfl rfl d_law_17 (fun out hout => ?_)
  refine x_astore_n d_law_19 (Nat.le_of_ble_eq_true rfl) ?_
  refine x_iconst d_law_20 ?_
  refine x_istore d_law_21 (Nat.le_of_ble_eq_true rfl) ?_
  have hI9 : LInv (gp g x) mo out adm (hset h3 out (larr (gp g x) 1 (fun _ => 0))) := LInv_start hc hag hE hmo hm hfr hkp hout _
  have e := L_law (g := gp g x) (x := x) (nm := nm) (hh := hh) hN hXs hb hL rfl 512 0 _ none none hI9 (by omega) (by omega)
  rw [show 5 * ((0 : Nat) : Int) = 0 from rfl] at e
  exact e.mono (by omega) (by omega)
