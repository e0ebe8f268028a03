/-! what holds of the class's own rows between calls -/
def lvl (S : gS) (l : Int) : Prop := (0 ≤ l ∧ l < S 3 0) ∨ (10 ≤ l ∧ isCK S (l - 10))
def ExL (S : gS) : Prop := S 50 0 = 1 ∧ (∀ n, 1 ≤ n → n ≤ 5 → S 51 n = 1) ∧ (∀ i, S 52 i = 1 ↔ (0 ≤ i ∧ i < S 3 0)) ∧ (∀ p, S 53 p = 1 ↔ (0 ≤ p ∧ p < S 6 0)) ∧ (∀ c, S 54 c = 1 ↔ (0 ≤ c ∧ c < S 11 0)) ∧ (∀ k, S 55 k = 1 ↔ (0 ≤ k ∧ k < S 23 0)) ∧ (∀ l, S 56 l = 1 ↔ lvl S l) ∧ (∀ l, S 57 l = 1 ↔ lvl S l) ∧ S 59 0 = 1 ∧ S 60 0 = 1 ∧ (∀ n, S 58 n = 1 ∨ S 51 n = 1 → 1 ≤ n ∧ n ≤ 5) ∧ ∀ j, 0 ≤ j → j < S 43 0 → (S 44 j < 8 ∧ S 53 (S 44 j) = 1) ∨ (8 ≤ S 44 j ∧ S 54 (S 44 j - 8) = 1)
def ExM (S : gS) : Prop := ∀ p, 0 ≤ p → p < S 6 0 → S 30 p = memI S p ∧ S 31 p = prcI S p
def ExB (S : gS) : Prop := ∀ c, 0 ≤ c → c < S 11 0 → (S 21 c = -1 ∧ S 33 c = -1 ∧ S 34 c = -1) ∨ (0 ≤ S 33 c ∧ S 33 c ≤ 3 ∧ 1 ≤ S 34 c ∧ S 34 c ≤ 6 ∧ S 21 c = 10 * S 33 c + S 34 c)
def ExH (S : gS) : Prop := (∀ i, 0 ≤ i → i < S 3 0 → S 36 i = lay S i) ∧ ∀ j, isCK S j → S 36 (10 + j) = lay S (S 12 j) + 1
def ExG (S : gS) : Prop := ∀ p, 0 ≤ p → p < S 6 0 → S 32 p = 0
def ExR (S : gS) : Prop := ∀ k j, 28 ≤ k → R32 (S k j)
def Ext (S : gS) : Prop := ExL S ∧ ExM S ∧ ExB S ∧ ExH S ∧ ExG S ∧ ExR S
def exR : List Nat := [3, 4, 6, 7, 11, 12, 14, 15, 20, 21, 23, 30, 31, 32, 33, 34, 36, 43, 44, 45, 46, 47, 48, 49, 50, 51, 52, 53, 54, 55, 56, 57, 58, 59, 60]
theorem isCK.eq {S S' : gS} (h11 : S' 11 = S 11) (h23 : S' 23 = S 23) (k : Int) : isCK S' k ↔ isCK S k := by
  unfold isCK
  rw [h11, h23]
theorem lvl.eq {S S' : gS} (h3 : S' 3 = S 3) (h11 : S' 11 = S 11) (h23 : S' 23 = S 23) (l : Int) : lvl S' l ↔ lvl S l := by
  unfold lvl
  rw [h3, isCK.eq h11 h23]
theorem ExL.c {S S' : gS} (h3 : S' 3 = S 3) (h6 : S' 6 = S 6) (h11 : S' 11 = S 11) (h23 : S' 23 = S 23) (hL : ∀ q, 43 ≤ q → q ≤ 60 → S' q = S q) (h : ExL S) : ExL S' := by
  unfold ExL
  rw [hL 50 (by omega) (by omega), hL 51 (by omega) (by omega), hL 52 (by omega) (by omega), hL 53 (by omega) (by omega), hL 54 (by omega) (by omega), hL 55 (by omega) (by omega), hL 56 (by omega) (by omega), hL 57 (by omega) (by omega), hL 58 (by omega) (by omega), hL 59 (by omega) (by omega), hL 60 (by omega) (by omega), hL 43 (by omega) (by omega), hL 44 (by omega) (by omega), h3, h6, h11, h23]
  refine ⟨h.1, h.2.1, h.2.2.1, h.2.2.2.1, h.2.2.2.2.1, h.2.2.2.2.2.1, fun l => (h.2.2.2.2.2.2.1 l).trans (lvl.eq h3 h11 h23 l).symm, fun l => (h.2.2.2.2.2.2.2.1 l).trans (lvl.eq h3 h11 h23 l).symm, h.2.2.2.2.2.2.2.2⟩
theorem ExM.c {S S' : gS} (h6 : S' 6 = S 6) (h7 : S' 7 = S 7) (h11 : S' 11 = S 11) (h14 : S' 14 = S 14) (h15 : S' 15 = S 15) (h20 : S' 20 = S 20) (h30 : S' 30 = S 30) (h31 : S' 31 = S 31) (h : ExM S) : ExM S' := by
  intro p h0 h1
  rw [h6] at h1
  rw [h30, h31, memI_eq h7 h11 h14 h20, prcI_eq h7 h11 h15 h20]
  exact h p h0 h1
theorem ExB.c {S S' : gS} (h11 : S' 11 = S 11) (h21 : S' 21 = S 21) (h33 : S' 33 = S 33) (h34 : S' 34 = S 34) (h : ExB S) : ExB S' := by
  intro c h0 h1
  rw [h11] at h1
  rw [h21, h33, h34]
  exact h c h0 h1
theorem ExH.c {S S' : gS} (h3 : S' 3 = S 3) (h4 : S' 4 = S 4) (h11 : S' 11 = S 11) (h12 : S' 12 = S 12) (h23 : S' 23 = S 23) (h36 : S' 36 = S 36) (h : ExH S) : ExH S' := by
  refine ⟨fun i h0 h1 => ?_, fun j hj => ?_⟩
  · rw [h3] at h1
    rw [h36, lay_congr h4]
    exact h.1 i h0 h1
  · rw [isCK.eq h11 h23] at hj
    rw [h36, lay_congr h4, h12]
    exact h.2 j hj
theorem ExG.c {S S' : gS} (h6 : S' 6 = S 6) (h32 : S' 32 = S 32) (h : ExG S) : ExG S' := by
  intro p h0 h1
  rw [h6] at h1
  rw [h32]
  exact h p h0 h1
theorem ExR.set {S : gS} (h : ExR S) {r : Nat} {i v : Int} (hv : 28 ≤ r → R32 v) : ExR (sset S r i v) := by
  intro k j hk
  unfold sset
  split
  · rename_i q
    exact hv (by omega)
  · exact h k j hk
theorem Ext.c {S S' : gS} (hE : Ext S) (h : ∀ k, k ∈ exR → S' k = S k) (hR : ExR S') : Ext S' := by
  have q : ∀ k, exR.contains k = true → S' k = S k := fun k hk => h k (by simpa using hk)
  exact ⟨hE.1.c (q 3 rfl) (q 6 rfl) (q 11 rfl) (q 23 rfl) (fun k h1 h2 => q k (by
    have : k = 43 ∨ k = 44 ∨ k = 45 ∨ k = 46 ∨ k = 47 ∨ k = 48 ∨ k = 49 ∨ k = 50 ∨ k = 51 ∨ k = 52 ∨ k = 53 ∨ k = 54 ∨ k = 55 ∨ k = 56 ∨ k = 57 ∨ k = 58 ∨ k = 59 ∨ k = 60 := by omega
    rcases this with e | e | e | e | e | e | e | e | e | e | e | e | e | e | e | e | e | e <;> (subst e; rfl))), hE.2.1.c (q 6 rfl) (q 7 rfl) (q 11 rfl) (q 14 rfl) (q 15 rfl) (q 20 rfl) (q 30 rfl) (q 31 rfl), hE.2.2.1.c (q 11 rfl) (q 21 rfl) (q 33 rfl) (q 34 rfl), hE.2.2.2.1.c (q 3 rfl) (q 4 rfl) (q 11 rfl) (q 12 rfl) (q 23 rfl) (q 36 rfl), hE.2.2.2.2.1.c (q 6 rfl) (q 32 rfl), hR⟩
theorem Ext.set {S : gS} (hE : Ext S) {r : Nat} (hr : exR.contains r = false) {i v : Int} (hv : 28 ≤ r → R32 v) : Ext (sset S r i v) :=
  hE.c (fun k hk => sset_n S i v (fun e => by rw [e] at hk; have : exR.contains r = true := by simpa using hk
                                              rw [hr] at this; cases this)) (hE.2.2.2.2.2.set hv)
section EX
variable {S : gS}
theorem Ext.h (hE : Ext S) : S 50 0 = 1 := hE.1.1
theorem Ext.l (hE : Ext S) {n : Int} (h0 : 1 ≤ n) (h1 : n ≤ 5) : S 51 n = 1 := hE.1.2.1 n h0 h1
theorem Ext.i (hE : Ext S) {i : Int} (h0 : 0 ≤ i) (h1 : i < S 3 0) : S 52 i = 1 := (hE.1.2.2.1 i).mpr ⟨h0, h1⟩
theorem Ext.p (hE : Ext S) {i : Int} (h0 : 0 ≤ i) (h1 : i < S 6 0) : S 53 i = 1 := (hE.1.2.2.2.1 i).mpr ⟨h0, h1⟩
theorem Ext.k (hE : Ext S) {i : Int} (h0 : 0 ≤ i) (h1 : i < S 11 0) : S 54 i = 1 := (hE.1.2.2.2.2.1 i).mpr ⟨h0, h1⟩
theorem Ext.s (hE : Ext S) {i : Int} (h0 : 0 ≤ i) (h1 : i < S 23 0) : S 55 i = 1 := (hE.1.2.2.2.2.2.1 i).mpr ⟨h0, h1⟩
theorem Ext.y (hE : Ext S) {i : Int} (h : lvl S i) : S 56 i = 1 := (hE.1.2.2.2.2.2.2.1 i).mpr h
theorem Ext.f (hE : Ext S) {i : Int} (h : lvl S i) : S 57 i = 1 := (hE.1.2.2.2.2.2.2.2.1 i).mpr h
theorem Ext.o (hE : Ext S) : S 59 0 = 1 := hE.1.2.2.2.2.2.2.2.2.1
theorem Ext.r (hE : Ext S) : S 60 0 = 1 := hE.1.2.2.2.2.2.2.2.2.2.1
theorem Ext.e (hE : Ext S) {n : Int} (h : S 58 n = 1 ∨ S 51 n = 1) : 1 ≤ n ∧ n ≤ 5 := hE.1.2.2.2.2.2.2.2.2.2.2.1 n h
theorem Ext.pt (hE : Ext S) {j : Int} (h0 : 0 ≤ j) (h1 : j < S 43 0) : (S 44 j < 8 ∧ S 53 (S 44 j) = 1) ∨ (8 ≤ S 44 j ∧ S 54 (S 44 j - 8) = 1) := hE.1.2.2.2.2.2.2.2.2.2.2.2 j h0 h1
theorem lvl.i {i : Int} (h0 : 0 ≤ i) (h1 : i < S 3 0) : lvl S i := Or.inl ⟨h0, h1⟩
theorem lvl.k {i : Int} (h0 : 0 ≤ i) (h1 : i < S 11 0) : lvl S (10 + i) := Or.inr ⟨by omega, Or.inl ⟨by omega, by omega⟩⟩
theorem lvl.s {i : Int} (h0 : 0 ≤ i) (h1 : i < S 23 0) : lvl S (30 + i) := Or.inr ⟨by omega, Or.inr ⟨by omega, by omega⟩⟩
-- the layer below a layer
theorem lvl.dn (hI : Inv S) {l : Int} (h : lvl S l) : blw S l = -1 ∨ (0 ≤ blw S l ∧ blw S l < S 3 0 ∧ lvl S (blw S l)) := by
  obtain ⟨hR, h1, h2, h3, -⟩ := hI
  rcases h with ⟨a, b⟩ | ⟨a, b⟩
  · have q := h2.1 l a b
    have hb : blw S l = S 4 l := if_pos (by have := h1.1; omega)
    rw [hb]
    by_cases z : S 4 l = -1
    · exact Or.inl z
    · exact Or.inr ⟨by omega, by omega, lvl.i (by omega) (by omega)⟩
  · have q := (h3 _ b).1
    have hb : blw S l = S 12 (l - 10) := if_neg (by omega)
    rw [hb]
    exact Or.inr ⟨q.1, q.2, lvl.i q.1 q.2⟩
end EX
def opC (cd vl : Int) (st : gS) : qK := fun v _ S9 => cd = 0 ∧ v = some (.int (iI vl)) ∧ (∀ k, k < 28 → S9 k = st k) ∧ Ext S9
def opCV (cd : Int) (st : gS) : qK := fun v _ S9 => cd = 0 ∧ v = none ∧ (∀ k, k < 28 → S9 k = st k) ∧ Ext S9
def opX (es : List String) (ad : cA) (S : gS) (cd : Int) : qKE := fun E ad9 S9 => ad = ad9 ∧ S = S9 ∧ ∃ k : Nat, es[k]? = some E ∧ cd = (k : Int) + 1
abbrev eIO : String := "java/lang/IndexOutOfBoundsException"
abbrev eIA : String := "java/lang/IllegalArgumentException"
abbrev eIS : String := "java/lang/IllegalStateException"
theorem opX.at {g : xG} {K : hp} {es : List String} {ad : cA} {S : gS} {cd : Int} {E : String} {h : hp} (hc : cls g K ad S h) (k : Nat) (h1 : es[k]? = some E) (h2 : cd = (k : Int) + 1) : cE g K (opX es ad S cd) E h := ⟨ad, S, ⟨rfl, rfl, k, h1, h2⟩, hc⟩
theorem opC.good {cd vl e : Int} {st S9 : gS} {ad9 : cA} (h0 : cd = 0) (h1 : e = vl) (h2 : S9 = st) (hE : Ext S9) : opC cd vl st (some (.int (iI e))) ad9 S9 := ⟨h0, by rw [h1], fun k _ => by rw [h2], hE⟩
theorem opCV.good {cd : Int} {st S9 : gS} {ad9 : cA} (h0 : cd = 0) (h2 : S9 = st) (hE : Ext S9) : opCV cd st none ad9 S9 := ⟨h0, rfl, fun k _ => by rw [h2], hE⟩

/-- a reader's end: nothing has changed -/
def opR (ad : cA) (S : gS) (cd vl : Int) : qK := fun v ad9 S9 => cd = 0 ∧ v = some (.int (iI vl)) ∧ ad = ad9 ∧ S = S9
theorem opR.good {ad : cA} {S S1 : gS} {cd vl e : Int} (h : cd = 0) (hv : e = vl) (_ : S1 = S) (_ : Ext S) : opR ad S cd vl (some (.int (iI e))) ad S := ⟨h, by rw [hv], rfl, rfl⟩
