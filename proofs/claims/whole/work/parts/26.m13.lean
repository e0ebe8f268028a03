theorem si2_0 {S : gS} (hI : Inv S) {w : Int} (hw : 0 ≤ w) (ha : shA S w 28 = 0) : ∀ n : Nat, n ≤ 28 → si2 S w n = 0 := by
  intro n
  induction n with
  | zero => intro _; rfl
  | succ n ih =>
    intro hn
    unfold si2
    rw [ih (by omega), if_neg (by have := shA_0 hI hw ha (p := n) (by omega) (by omega); omega)]
    rfl
theorem cn2_b (S : gS) (w : Int) : ∀ n : Nat, cn2 S w n ≤ n := by
  intro n
  induction n with
  | zero => unfold cn2; omega
  | succ n ih => unfold cn2; split <;> omega
theorem s2_g {S : gS} (hI : Inv S) {w : Int} (hw : 0 ≤ w) (hw8 : w < 8) (n : Int) : s2 S w n 26 w = S 26 w := by
  have h := isp_self hI hw hw8
  unfold s2
  rw [if_neg (by omega), if_neg (by omega), if_neg (by omega)]
theorem L_m_sharesOut3 {g : xG} {x0 : Nat} {ad : Nat → Nat} {h0 : hp} {tt : Int} {Qv : qS} {T : gS} {r : Int → Int} {o1 o2 o3 o4 : Option Value} (hr : T 27 = r) (hr2 : ∀ p, R32 (r p)) (hk : mW g M_m_sharesOut x0 ad h0 Qv tt T 208 [some (.ref x0), o1, o2, o3, o4, some (.int (iI (bstN r 27))), some (.int (iI (28)))] []) : ∀ (f9 j : Nat), j ≤ 27 → 27 < j + f9 → mW g M_m_sharesOut x0 ad h0 Qv tt T 169 [some (.ref x0), o1, o2, o3, o4, some (.int (iI (bstN r j))), some (.int (iI ((j : Int) + 1)))] [] := by
  intro f9
  induction f9 with
  | zero => intros; omega
  | succ f9 ih =>
    intro j h1 h2
    refine m_iload d_m_sharesOut_169 rfl ?_
    refine m_bipush d_m_sharesOut_171 (by decide) ?_
    refine m_icmp_ge (tgt := 208) d_m_sharesOut_173 (by decide) (by first | exact hr2 _ | (unfold R32; omega)) (by first | exact hr2 _ | (unfold R32; omega)) (fun z173 => ?_) (fun z173 => ?_)
    · rw [show j = 27 by omega]; exact hk
    · have hb := bstN_b r j
      have hj : j < 27 := by omega
      have hs : bstN r (j + 1) = if r (bstN r j) < r ((j : Int) + 1) then (j : Int) + 1 else bstN r j := rfl
      refine m_aload_n d_m_sharesOut_176 rfl ?_
      refine mg_81 d_m_sharesOut_177 rfl ?_
      refine m_iload d_m_sharesOut_180 rfl ?_
      refine m_aldv 28 rfl (by decide) rfl (r ((j : Int) + 1)) (by rw [hr]) d_m_sharesOut_182 (by omega) (by omega) ?_
      refine m_aload_n d_m_sharesOut_183 rfl ?_
      refine mg_81 d_m_sharesOut_184 rfl ?_
      refine m_iload d_m_sharesOut_187 rfl ?_
      refine m_aldv 28 rfl (by decide) rfl (r (bstN r j)) (by rw [hr]) d_m_sharesOut_189 (by omega) (by omega) ?_
      refine m_icmp_le (tgt := 198) d_m_sharesOut_190 (by decide) (by first | exact hr2 _ | (unfold R32; omega)) (by first | exact hr2 _ | (unfold R32; omega)) (fun z190 => ?_) (fun z190 => ?_)
      · refine m_iload d_m_sharesOut_198 rfl ?_
        refine m_istore d_m_sharesOut_200 (by decide) ?_
        refine m_iinc d_m_sharesOut_202 rfl (by decide) ?_
        refine m_goto (tgt := 169) d_m_sharesOut_205 (by decide) ?_
        first
          | (rw [if_pos (by omega)] at hs; have := ih (j + 1) (by omega) (by omega); rw [hs, show ((j + 1 : Nat) : Int) = (j : Int) + 1 by omega] at this; exact this)
          | (rw [if_neg (by omega)] at hs; have := ih (j + 1) (by omega) (by omega); rw [hs, show ((j + 1 : Nat) : Int) = (j : Int) + 1 by omega] at this; exact this)
      · refine m_iload d_m_sharesOut_193 rfl ?_
        refine m_goto (tgt := 200) d_m_sharesOut_195 (by decide) ?_
        refine m_istore d_m_sharesOut_200 (by decide) ?_
        refine m_iinc d_m_sharesOut_202 rfl (by decide) ?_
        refine m_goto (tgt := 169) d_m_sharesOut_205 (by decide) ?_
        first
          | (rw [if_pos (by omega)] at hs; have := ih (j + 1) (by omega) (by omega); rw [hs, show ((j + 1 : Nat) : Int) = (j : Int) + 1 by omega] at this; exact this)
          | (rw [if_neg (by omega)] at hs; have := ih (j + 1) (by omega) (by omega); rw [hs, show ((j + 1 : Nat) : Int) = (j : Int) + 1 by omega] at this; exact this)
theorem L_m_sharesOut4 {g : xG} {x0 : Nat} {ad : Nat → Nat} {h0 : hp} {tt : Int} {S : gS} {w : Int} {o2 : Option Value} (hI : Inv S) (hB : tB S) (hw : 0 ≤ w) (hw8 : w < 8) : ∀ (f9 m : Nat) (o5 o6 : Option Value), (m : Int) ≤ lef S w → lef S w < m + f9 → mW g M_m_sharesOut x0 ad h0 (fun v t9 S9 => v = some (.int (iI (gso S w))) ∧ tt = t9 ∧ sox S w = S9) tt (s4 (s2 S w 28) m) 159 [some (.ref x0), some (.int (iI w)), o2, some (.int (iI (lef S w - m))), some (.int (iI (gi2 S w 28 + gxN (s2 S w 28 27) m))), o5, o6] [] := by
  intro f9
  induction f9 with
  | zero => intros; omega
  | succ f9 ih =>
    intro m o5 o6 h1 h2
    have hl := lef_b hI hw (hB w hw hw8).1
    have hcn := cn2_b S w 28
    have hR2 := s2_R hI hB hw hw8 (n := 28) (by omega)
    have hr2 : ∀ p, R32 (rN (s2 S w 28 27) m p) := fun p => by
      rcases rN_le (s2 S w 28 27) m p with q | q
      · rw [q]; exact hR2 27 p (by decide)
      · rw [q]; unfold R32; omega
    refine m_iload_n d_m_sharesOut_159 rfl ?_
    refine m_if_le (tgt := 246) d_m_sharesOut_160 (by decide) (by unfold R32; omega) (fun z160 => ?_) (fun z160 => ?_)
    · refine m_iload d_m_sharesOut_246 rfl ?_
      exact m_iret rfl d_m_sharesOut_248 (⟨congrArg (fun z => some (Value.int (iI z))) (by unfold gso; rw [show (lef S w).toNat = m by omega]), rfl, by unfold sox; rw [show (lef S w).toNat = m by omega]⟩)
    · refine m_iconst d_m_sharesOut_163 ?_
      refine m_istore d_m_sharesOut_164 (by decide) ?_
      refine m_iconst d_m_sharesOut_166 ?_
      refine m_istore d_m_sharesOut_167 (by decide) ?_
      have hb := bstN_b (rN (s2 S w 28 27) m) 27
      refine L_m_sharesOut3 (r := rN (s2 S w 28 27) m) (s4_27 _ m) hr2 ?_ 28 0 (by omega) (by omega)
      refine m_aload_n d_m_sharesOut_208 rfl ?_
      refine mg_81 d_m_sharesOut_209 rfl ?_
      refine m_iload d_m_sharesOut_212 rfl ?_
      refine m_iconst d_m_sharesOut_214 ?_
      refine m_ast 28 rfl (by decide) rfl d_m_sharesOut_215 (by omega) (by omega) ?_
      refine m_aload_n d_m_sharesOut_216 rfl ?_
      refine m_iload d_m_sharesOut_217 rfl ?_
      refine m_iconst d_m_sharesOut_219 ?_
      refine m_callV d_m_sharesOut_220 q_m_sharesOut_167 s_m_gives v_m_gives rfl (t_m_gives (p := bstN (rN (s2 S w 28 27) m) 27) (by omega) (by omega)) rfl rfl (Nat.le_of_ble_eq_true rfl) rfl rfl rfl ?_
      rintro _ _ _ ⟨rfl, rfl, rfl⟩
      refine m_iload d_m_sharesOut_223 rfl ?_
      refine m_iload d_m_sharesOut_225 rfl ?_
      refine m_bipush d_m_sharesOut_227 (by decide) ?_
      refine m_icmp_ge (tgt := 236) d_m_sharesOut_229 (by decide) (by first | assumption | exact hR _ _ (by decide) | (unfold R32; omega)) (by first | assumption | exact hR _ _ (by decide) | (unfold R32; omega)) (fun z229 => ?_) (fun z229 => ?_)
      · refine m_iconst d_m_sharesOut_236 ?_
        refine m_iadd d_m_sharesOut_237 ?_
        refine m_istore d_m_sharesOut_238 (by decide) ?_
        refine m_iinc d_m_sharesOut_240 rfl (by decide) ?_
        refine m_goto (tgt := 159) d_m_sharesOut_243 (by decide) ?_
        have hs := s4_s (s2 S w 28) m
        have hx : gxN (s2 S w 28 27) (m + 1) = gxN (s2 S w 28 27) m + (if bstN (rN (s2 S w 28 27) m) 27 < 8 then 0 else 1) := rfl
        have := ih (m + 1) (some (.int (iI (bstN (rN (s2 S w 28 27) m) 27)))) (some (.int (iI 28))) (by omega) (by omega)
        first
          | (rw [if_pos (by omega)] at hx; rw [← hs, hx, show gi2 S w 28 + (gxN (s2 S w 28 27) m + 0) = gi2 S w 28 + gxN (s2 S w 28 27) m + 0 by omega, show lef S w - ((m + 1 : Nat) : Int) = lef S w - m + -1 by omega] at this; exact this)
          | (rw [if_neg (by omega)] at hx; rw [← hs, hx, show gi2 S w 28 + (gxN (s2 S w 28 27) m + 1) = gi2 S w 28 + gxN (s2 S w 28 27) m + 1 by omega, show lef S w - ((m + 1 : Nat) : Int) = lef S w - m + -1 by omega] at this; exact this)
      · refine m_iconst d_m_sharesOut_232 ?_
        refine m_goto (tgt := 237) d_m_sharesOut_233 (by decide) ?_
        refine m_iadd d_m_sharesOut_237 ?_
        refine m_istore d_m_sharesOut_238 (by decide) ?_
        refine m_iinc d_m_sharesOut_240 rfl (by decide) ?_
        refine m_goto (tgt := 159) d_m_sharesOut_243 (by decide) ?_
        have hs := s4_s (s2 S w 28) m
        have hx : gxN (s2 S w 28 27) (m + 1) = gxN (s2 S w 28 27) m + (if bstN (rN (s2 S w 28 27) m) 27 < 8 then 0 else 1) := rfl
        have := ih (m + 1) (some (.int (iI (bstN (rN (s2 S w 28 27) m) 27)))) (some (.int (iI 28))) (by omega) (by omega)
        first
          | (rw [if_pos (by omega)] at hx; rw [← hs, hx, show gi2 S w 28 + (gxN (s2 S w 28 27) m + 0) = gi2 S w 28 + gxN (s2 S w 28 27) m + 0 by omega, show lef S w - ((m + 1 : Nat) : Int) = lef S w - m + -1 by omega] at this; exact this)
          | (rw [if_neg (by omega)] at hx; rw [← hs, hx, show gi2 S w 28 + (gxN (s2 S w 28 27) m + 1) = gi2 S w 28 + gxN (s2 S w 28 27) m + 1 by omega, show lef S w - ((m + 1 : Nat) : Int) = lef S w - m + -1 by omega] at this; exact this)
theorem L_m_sharesOut2 {g : xG} {x0 : Nat} {ad : Nat → Nat} {h0 : hp} {tt : Int} {S : gS} {w l0 : Int} (hI : Inv S) (hB : tB S) (hw : 0 ≤ w) (hw8 : w < 8) (hl0 : l0 - si2 S w 28 = lef S w) : ∀ (f9 n : Nat) (o6 : Option Value), n ≤ 28 → 28 < n + f9 → mW g M_m_sharesOut x0 ad h0 (fun v t9 S9 => v = some (.int (iI (gso S w))) ∧ tt = t9 ∧ sox S w = S9) tt (s2 S w n) 58 [some (.ref x0), some (.int (iI w)), some (.int (iI (shA S w 28))), some (.int (iI (l0 - si2 S w n))), some (.int (iI (gi2 S w n))), some (.int (iI (n : Int))), o6] [] := by
  intro f9
  induction f9 with
  | zero => intros; omega
  | succ f9 ih =>
    intro n o6 h1 h2
    have hl := lef_b hI hw (hB w hw hw8).1
    refine m_iload d_m_sharesOut_58 rfl ?_
    refine m_bipush d_m_sharesOut_60 (by decide) ?_
    refine m_icmp_ge (tgt := 159) d_m_sharesOut_62 (by decide) (by first | assumption | (unfold R32; omega)) (by first | assumption | (unfold R32; omega)) (fun z62 => ?_) (fun z62 => ?_)
    · have hn : n = 28 := by omega
      subst hn
      have := L_m_sharesOut4 (g := g) (x0 := x0) (ad := ad) (h0 := h0) (tt := tt) (o2 := some (.int (iI (shA S w 28)))) hI hB hw hw8 ((lef S w).toNat + 1) 0 (some (.int (iI ((28 : Nat) : Int)))) o6 (by omega) (by omega)
      rw [s4_0] at this
      rw [hl0, show lef S w = lef S w - ((0 : Nat) : Int) by omega, show gi2 S w 28 = gi2 S w 28 + gxN (s2 S w 28 27) 0 by unfold gxN; omega]
      exact this
    · have hsE := s2_eq S w n
      have hR2 := s2_R hI hB hw hw8 (n := n) (by omega)
      have hsE1 : sEq S (sset (s2 S w n) 27 n (-1)) := hsE.set (Or.inr (Or.inr rfl)) _ _
      have hIT : Inv (sset (s2 S w n) 27 n (-1)) := Inv_sEq hI (hR2.set (fun _ => by unfold R32; omega)) hsE1
      have hsp : isp (sset (s2 S w n) 27 n (-1)) n w = isp S n w := hsE1.isp _ _
      have hsh : shp (sset (s2 S w n) 27 n (-1)) n = shp S n := hsE1.shp _
      have h01 := isp_01 S n w
      have hgs : sset (s2 S w n) 27 n (-1) 26 w = S 26 w := by rw [sset_n _ _ _ (by decide)]; exact s2_g hI hw hw8 n
      have e1 : si2 S w (n + 1) = si2 S w n + (if isp S n w = 1 then its1 S w n else 0) := rfl
      have e2 : gi2 S w (n + 1) = gi2 S w n + (if isp S n w = 1 ∧ 8 ≤ (n : Int) then its1 S w n else 0) := rfl
      refine m_aload_n d_m_sharesOut_65 rfl ?_
      refine mg_81 d_m_sharesOut_66 rfl ?_
      refine m_iload d_m_sharesOut_69 rfl ?_
      refine m_iconst d_m_sharesOut_71 ?_
      refine m_ast 28 rfl (by decide) rfl d_m_sharesOut_72 (by omega) (by omega) ?_
      refine m_aload_n d_m_sharesOut_73 rfl ?_
      refine m_iload d_m_sharesOut_74 rfl ?_
      refine m_iload_n d_m_sharesOut_76 rfl ?_
      refine m_callV d_m_sharesOut_77 q_m_sharesOut_161 s_m_isPart v_m_isPart rfl (t_m_isPart (r := isp S n w) hIT (by omega) (by omega) hw hw8 hsp) rfl rfl (Nat.le_of_ble_eq_true rfl) rfl rfl rfl ?_
      rintro _ _ _ ⟨rfl, rfl, rfl⟩
      refine m_if_eq (tgt := 153) d_m_sharesOut_80 (by decide) (by first | assumption | (unfold R32; omega)) (fun z80 => ?_) (fun z80 => ?_)
      · refine m_iinc d_m_sharesOut_153 rfl (by decide) ?_
        refine m_goto (tgt := 58) d_m_sharesOut_156 (by decide) ?_
        have hcast : ((n + 1 : Nat) : Int) = (n : Int) + 1 := by omega
        first
          | (have hs := s2_b S (g := w) (n := n) (by omega) (by omega); rw [if_neg (by omega), Int.add_zero] at e1 e2; have := ih (n + 1) o6 (by omega) (by omega); rw [hcast, e1, e2, ← hs] at this; exact this)
          | (have hs := s2_a S (g := w) (n := n) (by omega) h1p; rw [if_pos (by omega)] at e1; first | (rw [if_pos (by omega)] at e2; have := ih (n + 1) (some (.int (iI (its1 S w n)))) (by omega) (by omega); rw [hcast, e1, e2, ← hs, show l0 - (si2 S w n + its1 S w n) = l0 - si2 S w n - its1 S w n by omega] at this; exact this) | (rw [if_neg (by omega)] at e2; have := ih (n + 1) (some (.int (iI (its1 S w n)))) (by omega) (by omega); rw [hcast, e1, e2, ← hs, show l0 - (si2 S w n + its1 S w n) = l0 - si2 S w n - its1 S w n by omega] at this; exact this))
      · have h1p : isp S n w = 1 := by omega
        have hpo := shA_pos hI hw (p := n) (by omega) (by omega) h1p
        have hab := shA_b hI hw 28
        have hsb := shp_b hI (p := n) (by omega) hw h1p
        have hub := hB w hw hw8
        have hm0 : 0 ≤ S 26 w * shp S n := Int.mul_nonneg hub.1 (by omega)
        have hm1 : S 26 w * shp S n ≤ 10000 * 100 := Int.mul_le_mul hub.2 hsb.2 (by omega) (by omega)
        have hmR : R32 (S 26 w * shp S n) := by unfold R32; omega
        have hAR : R32 (shA S w 28) := by unfold R32; omega
        refine m_aload_n d_m_sharesOut_83 rfl ?_
        refine mg_78 d_m_sharesOut_84 rfl ?_
        refine m_iload_n d_m_sharesOut_87 rfl ?_
        refine m_aldv 8 rfl (by decide) rfl (S 26 w) hgs d_m_sharesOut_88 hw hw8 ?_
        refine m_aload_n d_m_sharesOut_89 rfl ?_
        refine m_iload d_m_sharesOut_90 rfl ?_
        refine m_callV d_m_sharesOut_92 q_m_sharesOut_164 s_m_sharesOfPart v_m_sharesOfPart rfl (t_m_sharesOfPart (r := shp S n) (by omega) (by omega) hsh) rfl rfl (Nat.le_of_ble_eq_true rfl) rfl rfl rfl ?_
        rintro _ _ _ ⟨rfl, rfl, rfl⟩
        refine m_imul d_m_sharesOut_95 ?_
        refine m_iload_n d_m_sharesOut_96 rfl ?_
        refine m_idivI d_m_sharesOut_97 hm0 hmR (by omega) hAR ?_
        refine m_istore d_m_sharesOut_98 (by decide) ?_
        refine m_aload_n d_m_sharesOut_100 rfl ?_
        refine mg_81 d_m_sharesOut_101 rfl ?_
        refine m_iload d_m_sharesOut_104 rfl ?_
        refine m_aload_n d_m_sharesOut_106 rfl ?_
        refine mg_78 d_m_sharesOut_107 rfl ?_
        refine m_iload_n d_m_sharesOut_110 rfl ?_
        refine m_aldv 8 rfl (by decide) rfl (S 26 w) hgs d_m_sharesOut_111 hw hw8 ?_
        refine m_aload_n d_m_sharesOut_112 rfl ?_
        refine m_iload d_m_sharesOut_113 rfl ?_
        refine m_callV d_m_sharesOut_115 q_m_sharesOut_164 s_m_sharesOfPart v_m_sharesOfPart rfl (t_m_sharesOfPart (r := shp S n) (by omega) (by omega) hsh) rfl rfl (Nat.le_of_ble_eq_true rfl) rfl rfl rfl ?_
        rintro _ _ _ ⟨rfl, rfl, rfl⟩
        refine m_imul d_m_sharesOut_118 ?_
        refine m_iload_n d_m_sharesOut_119 rfl ?_
        refine m_iremI d_m_sharesOut_120 hm0 hmR (by omega) hAR ?_
        refine m_ast 28 rfl (by decide) rfl d_m_sharesOut_121 (by omega) (by omega) ?_
        refine m_aload_n d_m_sharesOut_122 rfl ?_
        refine m_iload d_m_sharesOut_123 rfl ?_
        refine m_iload d_m_sharesOut_125 rfl ?_
        refine m_callV d_m_sharesOut_127 q_m_sharesOut_167 s_m_gives v_m_gives rfl (t_m_gives (p := n) (by omega) (by omega)) rfl rfl (Nat.le_of_ble_eq_true rfl) rfl rfl rfl ?_
        rintro _ _ _ ⟨rfl, rfl, rfl⟩
        refine m_iload d_m_sharesOut_130 rfl ?_
        refine m_iload d_m_sharesOut_132 rfl ?_
        refine m_bipush d_m_sharesOut_134 (by decide) ?_
        refine m_icmp_ge (tgt := 143) d_m_sharesOut_136 (by decide) (by first | assumption | (unfold R32; omega)) (by first | assumption | (unfold R32; omega)) (fun z136 => ?_) (fun z136 => ?_)
        · refine m_iload d_m_sharesOut_143 rfl ?_
          refine m_iadd d_m_sharesOut_145 ?_
          refine m_istore d_m_sharesOut_146 (by decide) ?_
          refine m_iload_n d_m_sharesOut_148 rfl ?_
          refine m_iload d_m_sharesOut_149 rfl ?_
          refine m_isub d_m_sharesOut_151 ?_
          refine m_istore_n d_m_sharesOut_152 (by decide) ?_
          refine m_iinc d_m_sharesOut_153 rfl (by decide) ?_
          refine m_goto (tgt := 58) d_m_sharesOut_156 (by decide) ?_
          have hcast : ((n + 1 : Nat) : Int) = (n : Int) + 1 := by omega
          first
            | (have hs := s2_b S (g := w) (n := n) (by omega) (by omega); rw [if_neg (by omega), Int.add_zero] at e1 e2; have := ih (n + 1) o6 (by omega) (by omega); rw [hcast, e1, e2, ← hs] at this; exact this)
            | (have hs := s2_a S (g := w) (n := n) (by omega) h1p; rw [if_pos (by omega)] at e1; first | (rw [if_pos (by omega)] at e2; have := ih (n + 1) (some (.int (iI (its1 S w n)))) (by omega) (by omega); rw [hcast, e1, e2, ← hs, show l0 - (si2 S w n + its1 S w n) = l0 - si2 S w n - its1 S w n by omega] at this; exact this) | (rw [if_neg (by omega)] at e2; have := ih (n + 1) (some (.int (iI (its1 S w n)))) (by omega) (by omega); rw [hcast, e1, e2, ← hs, show l0 - (si2 S w n + its1 S w n) = l0 - si2 S w n - its1 S w n by omega] at this; exact this))
        · refine m_iconst d_m_sharesOut_139 ?_
          refine m_goto (tgt := 145) d_m_sharesOut_140 (by decide) ?_
          refine m_iadd d_m_sharesOut_145 ?_
          refine m_istore d_m_sharesOut_146 (by decide) ?_
          refine m_iload_n d_m_sharesOut_148 rfl ?_
          refine m_iload d_m_sharesOut_149 rfl ?_
          refine m_isub d_m_sharesOut_151 ?_
          refine m_istore_n d_m_sharesOut_152 (by decide) ?_
          refine m_iinc d_m_sharesOut_153 rfl (by decide) ?_
          refine m_goto (tgt := 58) d_m_sharesOut_156 (by decide) ?_
          have hcast : ((n + 1 : Nat) : Int) = (n : Int) + 1 := by omega
          first
            | (have hs := s2_b S (g := w) (n := n) (by omega) (by omega); rw [if_neg (by omega), Int.add_zero] at e1 e2; have := ih (n + 1) o6 (by omega) (by omega); rw [hcast, e1, e2, ← hs] at this; exact this)
            | (have hs := s2_a S (g := w) (n := n) (by omega) h1p; rw [if_pos (by omega)] at e1; first | (rw [if_pos (by omega)] at e2; have := ih (n + 1) (some (.int (iI (its1 S w n)))) (by omega) (by omega); rw [hcast, e1, e2, ← hs, show l0 - (si2 S w n + its1 S w n) = l0 - si2 S w n - its1 S w n by omega] at this; exact this) | (rw [if_neg (by omega)] at e2; have := ih (n + 1) (some (.int (iI (its1 S w n)))) (by omega) (by omega); rw [hcast, e1, e2, ← hs, show l0 - (si2 S w n + its1 S w n) = l0 - si2 S w n - its1 S w n by omega] at this; exact this))
theorem L_m_sharesOut1 {g : xG} {x0 : Nat} {ad : Nat → Nat} {h0 : hp} {tt : Int} {S : gS} {w : Int} (hI : Inv S) (hB : tB S) (hw : 0 ≤ w) (hw8 : w < 8) : ∀ (f9 n : Nat), n ≤ 28 → 28 < n + f9 → mW g M_m_sharesOut x0 ad h0 (fun v t9 S9 => v = some (.int (iI (gso S w))) ∧ tt = t9 ∧ sox S w = S9) tt S 4 [some (.ref x0), some (.int (iI w)), some (.int (iI (shA S w n))), some (.int (iI (n : Int))), none, none, none] [] := by
  intro f9
  induction f9 with
  | zero => intros; omega
  | succ f9 ih =>
    intro n h1 h2
    refine m_iload_n d_m_sharesOut_4 rfl ?_
    refine m_bipush d_m_sharesOut_5 (by decide) ?_
    refine m_icmp_ge (tgt := 37) d_m_sharesOut_7 (by decide) (by first | assumption | (unfold R32; omega)) (by first | assumption | (unfold R32; omega)) (fun z7 => ?_) (fun z7 => ?_)
    · have hn : n = 28 := by omega
      subst hn
      have hab := shA_b hI hw 28
      refine m_iload_n d_m_sharesOut_37 rfl ?_
      refine m_if_ne (tgt := 45) d_m_sharesOut_38 (by decide) (by first | assumption | (unfold R32; omega)) (fun z38 => ?_) (fun z38 => ?_)
      · refine m_aload_n d_m_sharesOut_45 rfl ?_
        refine mg_78 d_m_sharesOut_46 rfl ?_
        refine m_iload_n d_m_sharesOut_49 rfl ?_
        refine m_ald 8 rfl (by decide) rfl d_m_sharesOut_50 (by omega) (by omega) ?_
        refine m_istore_n d_m_sharesOut_51 (by decide) ?_
        refine m_iconst d_m_sharesOut_52 ?_
        refine m_istore d_m_sharesOut_53 (by decide) ?_
        refine m_iconst d_m_sharesOut_55 ?_
        refine m_istore d_m_sharesOut_56 (by decide) ?_
        have hs0 : s2 S w ((0 : Nat) : Int) = S := s2_0 S w
        first
          | (have := L_m_sharesOut2 (g := g) (x0 := x0) (ad := ad) (h0 := h0) (tt := tt) (l0 := 0) hI hB hw hw8 (by rw [si2_0 hI hw (by omega) 28 (by omega)]; unfold lef; rw [if_pos (by omega)]; rfl) 29 0 none (by omega) (by omega); rw [hs0] at this; exact this)
          | (have := L_m_sharesOut2 (g := g) (x0 := x0) (ad := ad) (h0 := h0) (tt := tt) (l0 := S 26 w) hI hB hw hw8 (by unfold lef; rw [if_neg (by omega)]) 29 0 none (by omega) (by omega); rw [hs0, show S 26 w - si2 S w 0 = S 26 w from Int.sub_zero _] at this; exact this)
      · refine m_iconst d_m_sharesOut_41 ?_
        refine m_goto (tgt := 51) d_m_sharesOut_42 (by decide) ?_
        refine m_istore_n d_m_sharesOut_51 (by decide) ?_
        refine m_iconst d_m_sharesOut_52 ?_
        refine m_istore d_m_sharesOut_53 (by decide) ?_
        refine m_iconst d_m_sharesOut_55 ?_
        refine m_istore d_m_sharesOut_56 (by decide) ?_
        have hs0 : s2 S w ((0 : Nat) : Int) = S := s2_0 S w
        first
          | (have := L_m_sharesOut2 (g := g) (x0 := x0) (ad := ad) (h0 := h0) (tt := tt) (l0 := 0) hI hB hw hw8 (by rw [si2_0 hI hw (by omega) 28 (by omega)]; unfold lef; rw [if_pos (by omega)]; rfl) 29 0 none (by omega) (by omega); rw [hs0] at this; exact this)
          | (have := L_m_sharesOut2 (g := g) (x0 := x0) (ad := ad) (h0 := h0) (tt := tt) (l0 := S 26 w) hI hB hw hw8 (by unfold lef; rw [if_neg (by omega)]) 29 0 none (by omega) (by omega); rw [hs0, show S 26 w - si2 S w 0 = S 26 w from Int.sub_zero _] at this; exact this)
    · have h01 := isp_01 S n w
      have e1 : shA S w (n + 1) = shA S w n + (if isp S n w = 1 then shp S n else 0) := rfl
      refine m_iload_n d_m_sharesOut_10 rfl ?_
      refine m_aload_n d_m_sharesOut_11 rfl ?_
      refine m_iload_n d_m_sharesOut_12 rfl ?_
      refine m_iload_n d_m_sharesOut_13 rfl ?_
      refine m_callV d_m_sharesOut_14 q_m_sharesOut_161 s_m_isPart v_m_isPart rfl (t_m_isPart (r := isp S n w) hI (by omega) (by omega) hw hw8 rfl) rfl rfl (Nat.le_of_ble_eq_true rfl) rfl rfl rfl ?_
      rintro _ _ _ ⟨rfl, rfl, rfl⟩
      refine m_if_eq (tgt := 28) d_m_sharesOut_17 (by decide) (by first | assumption | (unfold R32; omega)) (fun z17 => ?_) (fun z17 => ?_)
      · refine m_iconst d_m_sharesOut_28 ?_
        refine m_iadd d_m_sharesOut_29 ?_
        refine m_istore_n d_m_sharesOut_30 (by decide) ?_
        refine m_iinc d_m_sharesOut_31 rfl (by decide) ?_
        refine m_goto (tgt := 4) d_m_sharesOut_34 (by decide) ?_
        first
          | (rw [if_pos (by omega)] at e1; have := ih (n + 1) (by omega) (by omega); rw [e1, show ((n + 1 : Nat) : Int) = (n : Int) + 1 by omega] at this; exact this)
          | (rw [if_neg (by omega)] at e1; have := ih (n + 1) (by omega) (by omega); rw [e1, show ((n + 1 : Nat) : Int) = (n : Int) + 1 by omega] at this; exact this)
      · refine m_aload_n d_m_sharesOut_20 rfl ?_
        refine m_iload_n d_m_sharesOut_21 rfl ?_
        refine m_callV d_m_sharesOut_22 q_m_sharesOut_164 s_m_sharesOfPart v_m_sharesOfPart rfl (t_m_sharesOfPart (r := shp S n) (by omega) (by omega) rfl) rfl rfl (Nat.le_of_ble_eq_true rfl) rfl rfl rfl ?_
        rintro _ _ _ ⟨rfl, rfl, rfl⟩
        refine m_goto (tgt := 29) d_m_sharesOut_25 (by decide) ?_
        refine m_iadd d_m_sharesOut_29 ?_
        refine m_istore_n d_m_sharesOut_30 (by decide) ?_
        refine m_iinc d_m_sharesOut_31 rfl (by decide) ?_
        refine m_goto (tgt := 4) d_m_sharesOut_34 (by decide) ?_
        first
          | (rw [if_pos (by omega)] at e1; have := ih (n + 1) (by omega) (by omega); rw [e1, show ((n + 1 : Nat) : Int) = (n : Int) + 1 by omega] at this; exact this)
          | (rw [if_neg (by omega)] at e1; have := ih (n + 1) (by omega) (by omega); rw [e1, show ((n + 1 : Nat) : Int) = (n : Int) + 1 by omega] at this; exact this)
theorem t_m_sharesOut {g : xG} {x0 : Nat} {ad : Nat → Nat} {tt : Int} {S : gS} {w : Int} (hI : Inv S) (hB : tB S) (hw : 0 ≤ w) (hw8 : w < 8) : mM g y_m_sharesOut k_m_sharesOut M_m_sharesOut x0 ad [.int (iI w)] tt S (fun v t9 S9 => v = some (.int (iI (gso S w))) ∧ tt = t9 ∧ sox S w = S9) := by
  refine mM.of rfl (by decide) rfl rfl rfl (by simp [Value.category]) (Nat.le_of_ble_eq_true rfl) rfl (fun h0 => ?_)
  refine m_iconst d_m_sharesOut_0 ?_
  refine m_istore_n d_m_sharesOut_1 (by decide) ?_
  refine m_iconst d_m_sharesOut_2 ?_
  refine m_istore_n d_m_sharesOut_3 (by decide) ?_
  exact L_m_sharesOut1 hI hB hw hw8 29 0 (by omega) (by omega)
