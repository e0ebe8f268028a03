def bg9 (S : gS) (n i w s : Int) : gS := sset (sset (sset (sset (sset (sset (sset (sset (sset (sset (sset (sset (sset S 12 n i) 13 n s) 14 n 0) 15 n 0) 16 n 0) 17 n 0) 18 n 0) 19 n 0) 20 n w) 21 n (-1)) 22 n 0) 33 n (-1)) 34 n (-1)
def Cg (S : gS) (n i w s : Int) : gS := sset (ez (bg9 S n i w s) (10 + n) 32) 36 (10 + n) (lay S i + 1)
theorem bg9_r {S : gS} {n i w s : Int} {k : Nat} (h : k < 12 ∨ 22 < k) (h33 : k ≠ 33) (h34 : k ≠ 34) : bg9 S n i w s k = S k := by
  unfold bg9
  rw [sset_n _ _ _ h34, sset_n _ _ _ h33, sset_n _ _ _ (by omega), sset_n _ _ _ (by omega), sset_n _ _ _ (by omega), sset_n _ _ _ (by omega), sset_n _ _ _ (by omega), sset_n _ _ _ (by omega), sset_n _ _ _ (by omega), sset_n _ _ _ (by omega), sset_n _ _ _ (by omega), sset_n _ _ _ (by omega), sset_n _ _ _ (by omega)]
theorem Cg_r {S : gS} {n i w s : Int} {k : Nat} (h : (3 ≤ k ∧ k < 12) ∨ 22 < k ∨ k = 0) (h33 : k ≠ 33) (h34 : k ≠ 34) (h36 : k ≠ 36) : Cg S n i w s k = S k := by
  unfold Cg
  rw [sset_n _ _ _ h36, ez_r _ _ (by omega) (by omega), bg9_r (by omega) h33 h34]
theorem dead11 {S : gS} (hI : Inv S) (hE : Ext S) (h : S 11 0 < 20) : S 54 (S 11 0) ≠ 1 ∧ S 55 (S 11 0 - 20) ≠ 1 ∧ S 56 (10 + S 11 0) ≠ 1 ∧ S 57 (10 + S 11 0) ≠ 1 := by
  have h1 := hI.2.1
  unfold Inv1 at h1
  have L := hE.1
  have hv : ¬ lvl S (10 + S 11 0) := fun z => by unfold lvl isCK at z; omega
  exact ⟨fun z => by have := (L.2.2.2.2.1 _).mp z; omega, fun z => by have := (L.2.2.2.2.2.1 _).mp z; omega, fun z => hv ((L.2.2.2.2.2.2.1 _).mp z), fun z => hv ((L.2.2.2.2.2.2.2.1 _).mp z)⟩
theorem cls_Cg {g : xG} {K : hp} {ad : cA} {S : gS} {h : hp} (hc : cls g K ad S h) {n i w s : Int} (h54 : S 54 n ≠ 1) (h55 : S 55 (n - 20) ≠ 1) (h6 : S 56 (10 + n) ≠ 1) (h7 : S 57 (10 + n) ≠ 1) : cls g K ad (Cg S n i w s) h := by
  have a : cls g K ad (bg9 S n i w s) h := (((((((((((((hc.gs1 (r := 12) i (fun z => z.elim (by decide) (fun q => h6 (by rw [show 10 + n = n + 10 by omega]; exact q)))).gs1 (r := 13) s (fun z => z.elim (by decide) (fun q => q.elim h54 h55))).gs1 (r := 14) 0 (fun z => z.elim (by decide) (fun q => q.elim h54 h55))).gs1 (r := 15) 0 (fun z => z.elim (by decide) (fun q => q.elim h54 h55))).gs1 (r := 16) 0 (fun z => z.elim (by decide) (fun q => q.elim h54 h55))).gs1 (r := 17) 0 (fun z => z.elim (by decide) (fun q => q.elim h54 h55))).gs1 (r := 18) 0 (fun z => z.elim (by decide) (fun q => q.elim h54 h55))).gs1 (r := 19) 0 (fun z => z.elim (by decide) (fun q => h54 q))).gs1 (r := 20) w (fun z => z.elim (by decide) (fun q => h54 q))).gs1 (r := 21) (-1) (fun z => z.elim (by decide) (fun q => q))).gs1 (r := 22) 0 (fun z => z.elim (by decide) (fun q => h54 q))).gs1 (r := 33) (-1) (fun z => z.elim (by decide) (fun q => h54 q))).gs1 (r := 34) (-1) (fun z => z.elim (by decide) (fun q => h54 q)))
  exact (cls.gez a (l := 10 + n) h6 h7).gs1 (r := 36) _ (fun z => z.elim (by decide) (fun q => h6 q))
theorem Wf_Cg {S : gS} (hW : Wf S) {n i w s : Int} (h54 : S 54 n ≠ 1) (h6 : S 56 (10 + n) ≠ 1) (h0 : 0 ≤ n) : Wf (Cg S n i w s) := by
  refine ⟨hW.1, fun c hc => ?_, hW.2.2.1, fun l hl => ⟨(hW.2.2.2.1 l hl).1, ?_⟩, hW.2.2.2.2.1, fun m j x y z => ?_, hW.2.2.2.2.2.2⟩
  · have hc' : S 54 c = 1 := hc
    have e : Cg S n i w s 20 c = S 20 c := if_neg (fun q => h54 (by rw [← q.2]; exact hc'))
    rw [e]
    exact hW.2.1 c hc'
  · have hl' : S 56 l = 1 := hl
    have e : blw (Cg S n i w s) l = blw S l := by
      unfold blw
      by_cases q : l < 10
      · rw [if_pos q, if_pos q]
        rfl
      · rw [if_neg q, if_neg q]
        show (if 12 = 12 ∧ l - 10 = n then i else S 12 (l - 10)) = S 12 (l - 10)
        rw [if_neg (fun q2 => h6 (by rw [show 10 + n = l by omega]; exact hl'))]
    rw [e]
    exact (hW.2.2.2.1 l hl').2
  · have hb := elK_b S m j
    have q := hW.2.2.2.2.2.1 m j x y z
    show Cg S n i w s (50 + elK S m j) (elI S m j) = 1
    rw [Cg_r (by omega) (by omega) (by omega) (by omega)]
    exact q
theorem memN_k {S T : gS} (h7 : T 7 = S 7) (g : Int) : ∀ n : Nat, (∀ k : Nat, k < n → T 20 k = S 20 k ∧ T 14 k = S 14 k ∧ T 15 k = S 15 k) → memN T g n = memN S g n ∧ prcN T g n = prcN S g n := by
  intro n
  induction n with
  | zero => intro _; exact ⟨rfl, rfl⟩
  | succ n ih =>
    intro h
    have q := ih (fun k hk => h k (by omega))
    have w := h n (by omega)
    unfold memN prcN
    rw [q.1, q.2, w.1, w.2.1, w.2.2, bel_congr h7]
    exact ⟨rfl, rfl⟩
theorem mem_cont {S T : gS} {n w m pr : Int} (hn : n = S 11 0) (hn0 : 0 ≤ n) (h7 : T 7 = S 7) (e11 : T 11 0 = n + 1) (e20 : T 20 = fset (S 20) n w) (e14 : T 14 = fset (S 14) n m) (e15 : T 15 = fset (S 15) n pr) (g : Int) : memI T g = memI S g + (if bel S w g = 1 then m else 0) ∧ prcI T g = prcI S g + (if bel S w g = 1 then pr else 0) := by
  have q := memN_k h7 g n.toNat (fun k hk => by
    rw [e20, e14, e15]
    exact ⟨if_neg (by omega), if_neg (by omega), if_neg (by omega)⟩)
  unfold memI prcI
  rw [e11, ← hn, show (n + 1).toNat = n.toNat + 1 by omega]
  have hc : ((n.toNat : Nat) : Int) = n := by omega
  show memN T g n.toNat + (if bel T (T 20 (n.toNat : Nat)) g = 1 then T 14 (n.toNat : Nat) else 0) = _ ∧ prcN T g n.toNat + (if bel T (T 20 (n.toNat : Nat)) g = 1 then T 15 (n.toNat : Nat) else 0) = _
  rw [hc, q.1, q.2, bel_congr h7, e20, e14, e15, show fset (S 20) n w n = w from if_pos rfl, show fset (S 14) n m n = m from if_pos rfl, show fset (S 15) n pr n = pr from if_pos rfl]
  exact ⟨rfl, rfl⟩
theorem Ext_mkC {S T : gS} (hI : Inv S) (hE : Ext S) {n i w m pr : Int} (hn : n = S 11 0) (hn1 : n < 20) (hi0 : 0 ≤ i) (hi1 : i < S 3 0) (hw0 : 0 ≤ w) (hw1 : w < S 6 0) (e11 : T 11 0 = n + 1) (e12 : T 12 = fset (S 12) n i) (e14 : T 14 = fset (S 14) n m) (e15 : T 15 = fset (S 15) n pr) (e20 : T 20 = fset (S 20) n w) (e21 : T 21 = fset (S 21) n (-1)) (e33 : T 33 = fset (S 33) n (-1)) (e34 : T 34 = fset (S 34) n (-1)) (e36 : T 36 = fset (S 36) (10 + n) (lay S i + 1)) (e54 : T 54 = fset (S 54) n 1) (e56 : T 56 = fset (S 56) (10 + n) 1) (e57 : T 57 = fset (S 57) (10 + n) 1) (e58 : T 58 = fset (S 58) 3 1)
    (e30 : ∀ p, 0 ≤ p → p < S 6 0 → T 30 p = S 30 p + (if bel S w p = 1 then m else 0)) (e31 : ∀ p, 0 ≤ p → p < S 6 0 → T 31 p = S 31 p + (if bel S w p = 1 then pr else 0)) (h : ∀ k, (k == 3 || k == 4 || k == 6 || k == 7 || k == 23 || k == 32 || k == 43 || k == 44 || k == 50 || k == 51 || k == 52 || k == 53 || k == 55 || k == 59 || k == 60) = true → T k = S k) (hR : ExR T) : Ext T := by
  obtain ⟨hr, h1, h2, h3, -⟩ := id hI
  unfold Inv1 at h1
  have L := hE.1
  have f1 : ∀ {f : Int → Int} {q i : Int}, fset f q 1 i = 1 ↔ (f i = 1 ∨ i = q) := fun {f} {q} {i} => by
    unfold fset
    split
    · rename_i z; exact ⟨fun _ => Or.inr z, fun _ => rfl⟩
    · rename_i z; exact ⟨fun q => Or.inl q, fun q => q.resolve_right z⟩
  have hCK : ∀ k, isCK T k ↔ (isCK S k ∨ k = n) := fun k => by
    unfold isCK
    rw [e11, h 23 rfl]
    omega
  have hlv : ∀ l, lvl T l ↔ (lvl S l ∨ l = 10 + n) := fun l => by
    unfold lvl
    rw [hCK, h 3 rfl]
    constructor
    · rintro (z | ⟨z, z2 | z2⟩)
      · exact Or.inl (Or.inl z)
      · exact Or.inl (Or.inr ⟨z, z2⟩)
      · exact Or.inr (by omega)
    · rintro ((z | z) | z)
      · exact Or.inl z
      · exact Or.inr ⟨z.1, Or.inl z.2⟩
      · exact Or.inr ⟨by omega, Or.inr (by omega)⟩
  have hm := fun g => mem_cont hn (by omega) (h 7 rfl) e11 e20 e14 e15 g
  refine ⟨⟨by rw [h 50 rfl]; exact L.1, by rw [h 51 rfl]; exact L.2.1, by rw [h 52 rfl, h 3 rfl]; exact L.2.2.1, by rw [h 53 rfl, h 6 rfl]; exact L.2.2.2.1, fun c => ?_, by rw [h 55 rfl, h 23 rfl]; exact L.2.2.2.2.2.1, fun l => ?_, fun l => ?_, by rw [h 59 rfl]; exact hE.o, by rw [h 60 rfl]; exact hE.r, fun m hm => ?_, fun j a b => ?_⟩, fun p a b => ?_, fun c a b => ?_, ⟨fun k a b => ?_, fun j hj => ?_⟩, hE.2.2.2.2.1.c (h 6 rfl) (h 32 rfl), hR⟩
  · rw [e54, f1, e11, L.2.2.2.2.1 c]
    omega
  · rw [e56, f1, hlv, L.2.2.2.2.2.2.1 l]
  · rw [e57, f1, hlv, L.2.2.2.2.2.2.2.1 l]
  · rw [e58, h 51 rfl] at hm
    by_cases z : m = 3
    · omega
    · rw [show fset (S 58) 3 1 m = S 58 m from if_neg z] at hm
      exact hE.e hm
  · rw [h 43 rfl] at b
    have q := hE.pt a b
    rw [h 44 rfl, h 53 rfl, e54, f1]
    exact q.imp_right (fun z => ⟨z.1, Or.inl z.2⟩)
  · rw [h 6 rfl] at b
    have q := hE.2.1 p a b
    rw [e30 p a b, e31 p a b, (hm p).1, (hm p).2, q.1, q.2]
    exact ⟨rfl, rfl⟩
  · rw [e11] at b
    rw [e21, e33, e34]
    by_cases z : c = n
    · exact Or.inl ⟨if_pos z, if_pos z, if_pos z⟩
    · rw [show fset (S 21) n (-1) c = S 21 c from if_neg z, show fset (S 33) n (-1) c = S 33 c from if_neg z, show fset (S 34) n (-1) c = S 34 c from if_neg z]
      exact hE.2.2.1 c a (by omega)
  · rw [h 3 rfl] at b
    rw [e36, lay_congr (h 4 rfl), show fset (S 36) (10 + n) (lay S i + 1) k = S 36 k from if_neg (by omega)]
    exact hE.2.2.2.1.1 k a b
  · rw [e36, e12, lay_congr (h 4 rfl)]
    rcases (hCK j).mp hj with z | z
    · have hj' : j ≠ n := fun e => by unfold isCK at z; omega
      rw [show fset (S 36) (10 + n) (lay S i + 1) (10 + j) = S 36 (10 + j) from if_neg (by omega), show fset (S 12) n i j = S 12 j from if_neg hj']
      exact hE.2.2.2.1.2 j z
    · subst z
      rw [show fset (S 36) (10 + j) (lay S i + 1) (10 + j) = lay S i + 1 from if_pos rfl, show fset (S 12) j i j = i from if_pos rfl]
/-- the new container as it stands ahead of its charge: Y is its grid with the layer -/
theorem fin_rows {S Y : gS} {n i w s m pr pe ef po N' : Int} (hI : Inv S) (hE : Ext S) (hn : n = S 11 0) (hn1 : n < 20) (hi0 : 0 ≤ i) (hi1 : i < S 3 0) (hw0 : 0 ≤ w) (hw1 : w < S 6 0) (hm0 : 0 ≤ m) (hm1 : m ≤ 10000) (hp0 : 0 ≤ pr) (hp1 : pr ≤ 100) (hN : R32 N') (hY : ∀ k, k ≠ 1 → k ≠ 2 → Y k = bly (Cg S n i w s) (10 + n) k) : Ext (chg (sset (sset (sset (lad3 (sset Y 54 n 1) N') 16 n pe) 17 n ef) 18 n po) n m pr) ∧ (∀ k, k ≠ 1 → k ≠ 2 → k < 28 → chg (sset (sset (sset (lad3 (sset Y 54 n 1) N') 16 n pe) 17 n ef) 18 n po) n m pr k = sset (sset (sset (sset (sset (sset (sset (sset (sset (sset (sset (sset S 12 n i) 13 n s) 14 n m) 15 n pr) 16 n pe) 17 n ef) 18 n po) 19 n 0) 20 n w) 21 n (-1)) 22 n 0) 11 0 (n + 1) k) ∧ ∀ k, k = 1 ∨ k = 2 → chg (sset (sset (sset (lad3 (sset Y 54 n 1) N') 16 n pe) 17 n ef) 18 n po) n m pr k = Y k := by
  obtain ⟨hr, h1, h2, h3, h4, -⟩ := id hI
  unfold Inv1 at h1
  have hln := lay_nn S i
  have hlb := lay_le h2 (k := i) (by omega) hi1
  generalize hT : chg (sset (sset (sset (lad3 (sset Y 54 n 1) N') 16 n pe) 17 n ef) 18 n po) n m pr = T
  generalize hPg : sset (sset (sset (lad3 (sset Y 54 n 1) N') 16 n pe) 17 n ef) 18 n po = P9 at hT
  -- the rows of what stands ahead of the charge
  have P_r : ∀ k, k ≠ 16 → k ≠ 17 → k ≠ 18 → k ≠ 11 → k ≠ 41 → k ≠ 42 → k ≠ 58 → k ≠ 54 → P9 k = Y k := fun k a b c d e f g i => by
    rw [← hPg, sset_n _ _ _ c, sset_n _ _ _ b, sset_n _ _ _ a, lad3_r e g f d, sset_n _ _ _ i]
  have Y_r : ∀ k, k ≠ 1 → k ≠ 2 → k ≠ 56 → k ≠ 57 → Y k = Cg S n i w s k := fun k a b c d => by rw [hY k a b, bly_r d c]
  have bgs : ∀ k v, (k = 12 ∧ v = i) ∨ (k = 13 ∧ v = s) ∨ ((k = 14 ∨ k = 15 ∨ k = 19 ∨ k = 22) ∧ v = 0) ∨ (k = 20 ∧ v = w) ∨ ((k = 21 ∨ k = 33 ∨ k = 34) ∧ v = -1) → P9 k = fset (S k) n v := fun k v hk => by
    have a : k ≠ 16 ∧ k ≠ 17 ∧ k ≠ 18 ∧ k ≠ 11 ∧ k ≠ 41 ∧ k ≠ 42 ∧ k ≠ 58 ∧ k ≠ 54 ∧ k ≠ 1 ∧ k ≠ 2 ∧ k ≠ 56 ∧ k ≠ 57 ∧ k ≠ 36 := by omega
    rw [P_r k a.1 a.2.1 a.2.2.1 a.2.2.2.1 a.2.2.2.2.1 a.2.2.2.2.2.1 a.2.2.2.2.2.2.1 a.2.2.2.2.2.2.2.1, Y_r k a.2.2.2.2.2.2.2.2.1 a.2.2.2.2.2.2.2.2.2.1 a.2.2.2.2.2.2.2.2.2.2.1 a.2.2.2.2.2.2.2.2.2.2.2.1]
    unfold Cg
    rw [sset_n _ _ _ a.2.2.2.2.2.2.2.2.2.2.2.2, ez_r _ _ a.2.2.2.2.2.2.2.2.1 a.2.2.2.2.2.2.2.2.2.1]
    rcases hk with ⟨rfl, rfl⟩ | ⟨rfl, rfl⟩ | ⟨rfl | rfl | rfl | rfl, rfl⟩ | ⟨rfl, rfl⟩ | ⟨rfl | rfl | rfl, rfl⟩
    all_goals
      unfold bg9
      simp only [sset_n, sset_s, ne_eq, Nat.reduceEqDiff, not_false_eq_true]
  have T_r : ∀ k, k ≠ 14 → k ≠ 15 → k ≠ 30 → k ≠ 31 → T k = P9 k := fun k a b c d => by rw [← hT]; exact chg_r a b c d
  have p14 : P9 14 n = 0 := by rw [bgs 14 0 (by omega)]; exact if_pos rfl
  have p15 : P9 15 n = 0 := by rw [bgs 15 0 (by omega)]; exact if_pos rfl
  have p20 : P9 20 n = w := by rw [bgs 20 w (by omega)]; exact if_pos rfl
  have e14 : T 14 = fset (S 14) n m := by
    rw [← hT, chg_agr P9 n m pr 14 (by decide), sset_n _ _ _ (by decide), sset_s, p14, bgs 14 0 (by omega), Int.zero_add]
    funext j
    unfold fset
    by_cases z : j = n
    · rw [if_pos z, if_pos z]
    · rw [if_neg z, if_neg z, if_neg z]
  have e15 : T 15 = fset (S 15) n pr := by
    rw [← hT, chg_agr P9 n m pr 15 (by decide), sset_s, p15, sset_n _ _ _ (by decide), bgs 15 0 (by omega), Int.zero_add]
    funext j
    unfold fset
    by_cases z : j = n
    · rw [if_pos z, if_pos z]
    · rw [if_neg z, if_neg z, if_neg z]
  have same : ∀ k, k ≠ 1 → k ≠ 2 → (k < 11 ∨ 22 < k) → k ≠ 33 → k ≠ 34 → k ≠ 36 → k ≠ 41 → k ≠ 42 → k ≠ 58 → k ≠ 54 → k ≠ 56 → k ≠ 57 → P9 k = S k := fun k a b c d e f g h i j l m => by
    rw [P_r k (by omega) (by omega) (by omega) (by omega) g h i j, Y_r k a b l m, Cg_r (by omega) d e f]
  have e7 : P9 7 = S 7 := same 7 (by decide) (by decide) (by decide) (by decide) (by decide) (by decide) (by decide) (by decide) (by decide) (by decide) (by decide) (by decide)
  have eb : ∀ p, bel (sset (sset P9 14 n (P9 14 n + m)) 15 n (P9 15 n + pr)) w p = bel S w p := fun p => bel_congr (by rw [sset_n _ _ _ (by decide), sset_n _ _ _ (by decide), e7]) _ _
  have e30 : ∀ p, 0 ≤ p → T 30 p = S 30 p + (if bel S w p = 1 then m else 0) := fun p a => by
    have q : P9 30 p = S 30 p := congrFun (same 30 (by decide) (by decide) (by decide) (by decide) (by decide) (by decide) (by decide) (by decide) (by decide) (by decide) (by decide) (by decide)) p
    rw [← hT]
    unfold chg chS
    rw [p20, eb]
    show (if 30 = 30 ∧ 0 ≤ p ∧ bel S w p = 1 then P9 30 p + m else if 30 = 31 ∧ 0 ≤ p ∧ bel S w p = 1 then P9 31 p + pr else P9 30 p) = _
    rw [q]
    by_cases z : bel S w p = 1
    · rw [if_pos ⟨rfl, a, z⟩, if_pos z]
    · rw [if_neg (fun y => z y.2.2), if_neg (fun y => z y.2.2), if_neg z]; omega
  have e31 : ∀ p, 0 ≤ p → T 31 p = S 31 p + (if bel S w p = 1 then pr else 0) := fun p a => by
    have q : P9 31 p = S 31 p := congrFun (same 31 (by decide) (by decide) (by decide) (by decide) (by decide) (by decide) (by decide) (by decide) (by decide) (by decide) (by decide) (by decide)) p
    rw [← hT]
    unfold chg chS
    rw [p20, eb]
    show (if 31 = 31 ∧ 0 ≤ p ∧ bel S w p = 1 then P9 31 p + pr else P9 31 p) = _
    rw [q]
    by_cases z : bel S w p = 1
    · rw [if_pos ⟨rfl, a, z⟩, if_pos z]
    · rw [if_neg (fun y => z y.2.2), if_neg z]; omega
  have p11 : P9 11 = fset (S 11) 0 (n + 1) := by
    have q : sset Y 54 n 1 11 = S 11 := by rw [sset_n _ _ _ (by decide), Y_r 11 (by decide) (by decide) (by decide) (by decide), Cg_r (by decide) (by decide) (by decide) (by decide)]
    rw [← hPg, sset_n _ _ _ (by decide), sset_n _ _ _ (by decide), sset_n _ _ _ (by decide)]
    unfold lad3
    rw [sset_s, sset_n _ _ _ (by decide), sset_n _ _ _ (by decide), sset_n _ _ _ (by decide), q, hn]
  have p54 : P9 54 = fset (S 54) n 1 := by
    rw [← hPg, sset_n _ _ _ (by decide), sset_n _ _ _ (by decide), sset_n _ _ _ (by decide), lad3_r (by decide) (by decide) (by decide) (by decide), sset_s, Y_r 54 (by decide) (by decide) (by decide) (by decide), Cg_r (by decide) (by decide) (by decide) (by decide)]
  have p56 : P9 56 = fset (S 56) (10 + n) 1 := by
    rw [P_r 56 (by decide) (by decide) (by decide) (by decide) (by decide) (by decide) (by decide) (by decide), hY 56 (by decide) (by decide)]
    unfold bly
    rw [sset_s, sset_n _ _ _ (by decide), Cg_r (by decide) (by decide) (by decide) (by decide)]
  have p57 : P9 57 = fset (S 57) (10 + n) 1 := by
    rw [P_r 57 (by decide) (by decide) (by decide) (by decide) (by decide) (by decide) (by decide) (by decide), hY 57 (by decide) (by decide)]
    unfold bly
    rw [sset_n _ _ _ (by decide), sset_s, Cg_r (by decide) (by decide) (by decide) (by decide)]
  have p58 : P9 58 = fset (S 58) 3 1 := by
    rw [← hPg, sset_n _ _ _ (by decide), sset_n _ _ _ (by decide), sset_n _ _ _ (by decide)]
    unfold lad3
    rw [sset_n _ _ _ (by decide), sset_n _ _ _ (by decide), sset_s, sset_n _ _ _ (by decide), sset_n _ _ _ (by decide), Y_r 58 (by decide) (by decide) (by decide) (by decide), Cg_r (by decide) (by decide) (by decide) (by decide)]
  have p36 : P9 36 = fset (S 36) (10 + n) (lay S i + 1) := by
    rw [P_r 36 (by decide) (by decide) (by decide) (by decide) (by decide) (by decide) (by decide) (by decide), Y_r 36 (by decide) (by decide) (by decide) (by decide)]
    unfold Cg
    rw [sset_s, ez_r _ _ (by decide) (by decide), bg9_r (by decide) (by decide) (by decide)]
  have hRf : ∀ {f : Int → Int} {a v : Int}, (∀ j, R32 (f j)) → R32 v → ∀ j, R32 (fset f a v j) := fun hf hv j => by
    unfold fset
    split
    · exact hv
    · exact hf j
  refine ⟨Ext_mkC hI hE hn hn1 hi0 hi1 hw0 hw1 ?_ ?_ e14 e15 ?_ ?_ ?_ ?_ ?_ ?_ ?_ ?_ ?_ (fun p a _ => e30 p a) (fun p a _ => e31 p a) (fun k hk => ?_) (fun k j hk => ?_), fun k k1 k2 hk => ?_, fun k hk => ?_⟩
  · rw [T_r 11 (by decide) (by decide) (by decide) (by decide), p11]; exact if_pos rfl
  · rw [T_r 12 (by decide) (by decide) (by decide) (by decide)]; exact bgs 12 i (by omega)
  · rw [T_r 20 (by decide) (by decide) (by decide) (by decide)]; exact bgs 20 w (by omega)
  · rw [T_r 21 (by decide) (by decide) (by decide) (by decide)]; exact bgs 21 (-1) (by omega)
  · rw [T_r 33 (by decide) (by decide) (by decide) (by decide)]; exact bgs 33 (-1) (by omega)
  · rw [T_r 34 (by decide) (by decide) (by decide) (by decide)]; exact bgs 34 (-1) (by omega)
  · rw [T_r 36 (by decide) (by decide) (by decide) (by decide)]; exact p36
  · rw [T_r 54 (by decide) (by decide) (by decide) (by decide)]; exact p54
  · rw [T_r 56 (by decide) (by decide) (by decide) (by decide)]; exact p56
  · rw [T_r 57 (by decide) (by decide) (by decide) (by decide)]; exact p57
  · rw [T_r 58 (by decide) (by decide) (by decide) (by decide)]; exact p58
  · simp only [Bool.or_eq_true, beq_iff_eq] at hk
    rw [T_r k (by omega) (by omega) (by omega) (by omega)]
    exact same k (by omega) (by omega) (by omega) (by omega) (by omega) (by omega) (by omega) (by omega) (by omega) (by omega) (by omega) (by omega)
  · have hx := hE.2.2.2.2.2
    by_cases q30 : k = 30
    · subst q30
      by_cases z : 0 ≤ j ∧ bel S w j = 1
      · have hle := bel_le h2 hI.2.1 z.1 (w + 1).toNat w (by omega) (by omega) hw1 z.2
        have b1 := memI_b hI j
        rw [e30 j z.1, if_pos z.2, (hE.2.1 j z.1 (by omega)).1]
        unfold R32; omega
      · have : T 30 j = S 30 j := by
          by_cases z0 : 0 ≤ j
          · rw [e30 j z0, if_neg (fun y => z ⟨z0, y⟩)]; omega
          · rw [← hT]
            unfold chg chS
            rw [if_neg (fun y => z0 y.2.1), if_neg (fun y => z0 y.2.1), sset_n _ _ _ (by decide), sset_n _ _ _ (by decide)]
            exact congrFun (same 30 (by decide) (by decide) (by decide) (by decide) (by decide) (by decide) (by decide) (by decide) (by decide) (by decide) (by decide) (by decide)) j
        rw [this]; exact hx 30 j (by omega)
    by_cases q31 : k = 31
    · subst q31
      by_cases z : 0 ≤ j ∧ bel S w j = 1
      · have hle := bel_le h2 hI.2.1 z.1 (w + 1).toNat w (by omega) (by omega) hw1 z.2
        have b1 := prcI_b hI j
        rw [e31 j z.1, if_pos z.2, (hE.2.1 j z.1 (by omega)).2]
        unfold R32; omega
      · have : T 31 j = S 31 j := by
          by_cases z0 : 0 ≤ j
          · rw [e31 j z0, if_neg (fun y => z ⟨z0, y⟩)]; omega
          · rw [← hT]
            unfold chg chS
            rw [if_neg (fun y => z0 y.2.1), if_neg (fun y => z0 y.2.1), sset_n _ _ _ (by decide), sset_n _ _ _ (by decide)]
            exact congrFun (same 31 (by decide) (by decide) (by decide) (by decide) (by decide) (by decide) (by decide) (by decide) (by decide) (by decide) (by decide) (by decide)) j
        rw [this]; exact hx 31 j (by omega)
    rw [T_r k (by omega) (by omega) q30 q31]
    by_cases q33 : k = 33
    · subst q33; rw [bgs 33 (-1) (by omega)]; exact hRf (fun j => hx 33 j (by omega)) (by unfold R32; omega) j
    by_cases q34 : k = 34
    · subst q34; rw [bgs 34 (-1) (by omega)]; exact hRf (fun j => hx 34 j (by omega)) (by unfold R32; omega) j
    by_cases q36 : k = 36
    · subst q36; rw [p36]; exact hRf (fun j => hx 36 j (by omega)) (by unfold R32; omega) j
    by_cases q54 : k = 54
    · subst q54; rw [p54]; exact hRf (fun j => hx 54 j (by omega)) (by unfold R32; omega) j
    by_cases q56 : k = 56
    · subst q56; rw [p56]; exact hRf (fun j => hx 56 j (by omega)) (by unfold R32; omega) j
    by_cases q57 : k = 57
    · subst q57; rw [p57]; exact hRf (fun j => hx 57 j (by omega)) (by unfold R32; omega) j
    by_cases q58 : k = 58
    · subst q58; rw [p58]; exact hRf (fun j => hx 58 j (by omega)) (by unfold R32; omega) j
    by_cases q41 : k = 41
    · subst q41
      rw [← hPg, sset_n _ _ _ (by decide), sset_n _ _ _ (by decide), sset_n _ _ _ (by decide)]
      unfold lad3
      rw [sset_n _ _ _ (by decide), sset_n _ _ _ (by decide), sset_n _ _ _ (by decide), sset_s, sset_n _ _ _ (by decide), Y_r 41 (by decide) (by decide) (by decide) (by decide), Cg_r (by decide) (by decide) (by decide) (by decide)]
      exact hRf (fun j => hx 41 j (by omega)) hN j
    by_cases q42 : k = 42
    · subst q42
      rw [← hPg, sset_n _ _ _ (by decide), sset_n _ _ _ (by decide), sset_n _ _ _ (by decide)]
      unfold lad3
      rw [sset_n _ _ _ (by decide), sset_s, sset_n _ _ _ (by decide), sset_n _ _ _ (by decide), sset_n _ _ _ (by decide), Y_r 42 (by decide) (by decide) (by decide) (by decide), Cg_r (by decide) (by decide) (by decide) (by decide)]
      exact hRf (fun j => hx 42 j (by omega)) ⟨(iI _).le_toInt, (iI _).toInt_lt⟩ j
    rw [same k (by omega) (by omega) (by omega) q33 q34 q36 q41 q42 q58 q54 q56 q57]
    exact hx k j hk
  · by_cases c14 : k = 14
    · subst c14
      rw [e14]
      simp only [sset_n, sset_s, ne_eq, Nat.reduceEqDiff, not_false_eq_true]
    by_cases c15 : k = 15
    · subst c15
      rw [e15]
      simp only [sset_n, sset_s, ne_eq, Nat.reduceEqDiff, not_false_eq_true]
    rw [T_r k c14 c15 (by omega) (by omega)]
    by_cases cs : k < 11 ∨ 22 < k
    · rw [same k k1 k2 cs (by omega) (by omega) (by omega) (by omega) (by omega) (by omega) (by omega) (by omega) (by omega), sset_n _ _ _ (by omega), sset_n _ _ _ (by omega), sset_n _ _ _ (by omega), sset_n _ _ _ (by omega), sset_n _ _ _ (by omega), sset_n _ _ _ (by omega), sset_n _ _ _ (by omega), sset_n _ _ _ (by omega), sset_n _ _ _ (by omega), sset_n _ _ _ (by omega), sset_n _ _ _ (by omega), sset_n _ _ _ (by omega)]
    have hk9 : k = 11 ∨ k = 12 ∨ k = 13 ∨ k = 16 ∨ k = 17 ∨ k = 18 ∨ k = 19 ∨ k = 20 ∨ k = 21 ∨ k = 22 := by omega
    have cgz : ∀ q, q = 16 ∨ q = 17 ∨ q = 18 → lad3 (sset Y 54 n 1) N' q = fset (S q) n 0 := fun q hq => by
      rw [lad3_r (by omega) (by omega) (by omega) (by omega), sset_n _ _ _ (by omega), Y_r q (by omega) (by omega) (by omega) (by omega)]
      unfold Cg
      rw [sset_n _ _ _ (by omega), ez_r _ _ (by omega) (by omega)]
      rcases hq with rfl | rfl | rfl
      all_goals
        unfold bg9
        simp only [sset_n, sset_s, ne_eq, Nat.reduceEqDiff, not_false_eq_true]
    have ff : ∀ (f : Int → Int) (v : Int), fset (fset f n 0) n v = fset f n v := fun f v => by
      funext j
      unfold fset
      by_cases z : j = n
      · rw [if_pos z, if_pos z]
      · rw [if_neg z, if_neg z, if_neg z]
    rcases hk9 with rfl | rfl | rfl | rfl | rfl | rfl | rfl | rfl | rfl | rfl
    · rw [p11]; simp only [sset_n, sset_s, ne_eq, Nat.reduceEqDiff, not_false_eq_true]
    · rw [bgs 12 i (by omega)]; simp only [sset_n, sset_s, ne_eq, Nat.reduceEqDiff, not_false_eq_true]
    · rw [bgs 13 s (by omega)]; simp only [sset_n, sset_s, ne_eq, Nat.reduceEqDiff, not_false_eq_true]
    · rw [← hPg]; simp only [sset_n, sset_s, ne_eq, Nat.reduceEqDiff, not_false_eq_true, cgz 16 (by omega), ff]
    · rw [← hPg]; simp only [sset_n, sset_s, ne_eq, Nat.reduceEqDiff, not_false_eq_true, cgz 17 (by omega), ff]
    · rw [← hPg]; simp only [sset_n, sset_s, ne_eq, Nat.reduceEqDiff, not_false_eq_true, cgz 18 (by omega), ff]
    · rw [bgs 19 0 (by omega)]; simp only [sset_n, sset_s, ne_eq, Nat.reduceEqDiff, not_false_eq_true]
    · rw [bgs 20 w (by omega)]; simp only [sset_n, sset_s, ne_eq, Nat.reduceEqDiff, not_false_eq_true]
    · rw [bgs 21 (-1) (by omega)]; simp only [sset_n, sset_s, ne_eq, Nat.reduceEqDiff, not_false_eq_true]
    · rw [bgs 22 0 (by omega)]; simp only [sset_n, sset_s, ne_eq, Nat.reduceEqDiff, not_false_eq_true]
  · rw [T_r k (by omega) (by omega) (by omega) (by omega)]
    exact P_r k (by omega) (by omega) (by omega) (by omega) (by omega) (by omega) (by omega) (by omega)
