/-! ints that are images of integers: division, shifts, bits -/
theorem nI_iI (n : Nat) : nI n = iI (n : Int) := Int32.ofInt_eq_ofNat.symm
theorem iI_nat {z : Int} (h : 0 ≤ z) : iI z = nI z.toNat := by rw [nI_iI, Int.toNat_of_nonneg h]
def bit (a k : Int) : Int := a / 2 ^ k.toNat % 2
theorem bit_01 (a k : Int) : bit a k = 0 ∨ bit a k = 1 := by unfold bit; omega
theorem bit_lt {a k : Int} (ha : 0 ≤ a) (h : a < 2 ^ k.toNat) : bit a k = 0 := by
  unfold bit
  rw [Int.ediv_eq_zero_of_lt ha h]
  rfl
theorem and_1 {a : Int} (ha : 0 ≤ a) : iI a &&& iI 1 = iI (a % 2) := by
  rw [iI_nat ha, show iI 1 = nI 1 from rfl, iI_nat (by omega : (0 : Int) ≤ a % 2)]
  have e : nI a.toNat &&& nI 1 = nI (a.toNat &&& 1) := by
    apply Int32.toBitVec.inj
    show BitVec.ofNat 32 _ &&& BitVec.ofNat 32 _ = BitVec.ofNat 32 _
    rw [BitVec.ofNat_and]
  rw [e, Nat.and_one_is_mod]
  congr 1
  omega
theorem shr_k {a k : Int} (ha : 0 ≤ a) (h2 : a < 2147483648) (hk : 0 ≤ k) (hk2 : k < 32) : iI a >>> (iI k &&& 31) = iI (a / 2 ^ k.toNat) := by
  have hq : 0 ≤ a / 2 ^ k.toNat := Int.ediv_nonneg ha (by exact Int.le_of_lt (Int.pow_pos (by omega)))
  rw [iI_nat ha, iI_nat hk, iI_nat hq]
  have hs : (((nI k.toNat) &&& 31).toBitVec.smod 32).toNat = k.toNat := by
    have : ∀ n, n < 32 → ((nI n &&& 31).toBitVec.smod 32).toNat = n := by decide
    exact this _ (by omega)
  rw [pk_shrN (n := a.toNat) (by omega) _ k.toNat hs]
  congr 1
  have : a = (a.toNat : Int) := (Int.toNat_of_nonneg ha).symm
  conv => rhs; rw [this]
  rw [show ((2 : Int) ^ k.toNat) = ((2 ^ k.toNat : Nat) : Int) from by simp, ← Int.natCast_ediv, Int.toNat_natCast]
theorem shl_1 {k : Int} (hk : 0 ≤ k) (hk2 : k < 31) : iI 1 <<< (iI k &&& 31) = iI (2 ^ k.toNat) := by
  have : ∀ n, n < 31 → iI 1 <<< (iI ((n : Nat) : Int) &&& 31) = iI (2 ^ n) := by decide
  have h := this k.toNat (by omega)
  rw [Int.toNat_of_nonneg hk] at h
  exact h
theorem not_x (a : Int) : iI a ^^^ iI (-1) = iI (-1 - a) := by
  apply Int32.toBitVec.inj
  show (iI a).toBitVec ^^^ BitVec.ofInt 32 (-1) = (iI (-1 - a)).toBitVec
  have h1 : BitVec.ofInt 32 (-1) = BitVec.allOnes 32 := by decide
  rw [h1, BitVec.xor_allOnes]
  show ~~~ (BitVec.ofInt 32 a) = BitVec.ofInt 32 (-1 - a)
  rw [← BitVec.allOnes_sub_eq_not]
  show BitVec.allOnes 32 - (Int32.ofInt a).toBitVec = (Int32.ofInt (-1 - a)).toBitVec
  rw [Int32.ofInt_sub, ← h1]
  rfl
-- a bit of a number that isn't negative: set, cleared, asked for
theorem bvSplit (x b : BitVec 32) : (x &&& ~~~ b) + (x &&& b) = x := by
  rw [BitVec.add_eq_or_of_and_eq_zero]
  · ext i hi
    simp only [BitVec.getElem_or, BitVec.getElem_and, BitVec.getElem_not]
    cases x[i] <;> cases b[i] <;> rfl
  · ext i hi
    simp only [BitVec.getElem_and, BitVec.getElem_not, BitVec.getElem_zero]
    cases x[i] <;> cases b[i] <;> rfl
theorem bvOr (x b : BitVec 32) : x ||| b = (x &&& ~~~ b) + b := by
  rw [BitVec.add_eq_or_of_and_eq_zero]
  · ext i hi
    simp only [BitVec.getElem_or, BitVec.getElem_and, BitVec.getElem_not]
    cases x[i] <;> cases b[i] <;> rfl
  · ext i hi
    simp only [BitVec.getElem_and, BitVec.getElem_not, BitVec.getElem_zero]
    cases x[i] <;> cases b[i] <;> rfl
theorem andP (n k : Nat) : n &&& 2 ^ k = (if n / 2 ^ k % 2 = 1 then 2 ^ k else 0) := by
  apply Nat.eq_of_testBit_eq
  intro i
  have hb : n.testBit k = decide (n / 2 ^ k % 2 = 1) := Nat.testBit_eq_decide_div_mod_eq
  rw [Nat.testBit_and, Nat.testBit_two_pow]
  by_cases hi : k = i
  · subst hi
    rw [hb]
    by_cases hq : n / 2 ^ k % 2 = 1
    · rw [if_pos hq, Nat.testBit_two_pow]; simp [hq]
    · rw [if_neg hq]; simp [hq]
  · split
    · rw [Nat.testBit_two_pow]; simp [hi]
    · simp [hi]
theorem and_k {a k : Int} (ha : 0 ≤ a) : iI a &&& iI (2 ^ k.toNat) = iI (bit a k * 2 ^ k.toNat) := by
  have hq : 0 ≤ a / 2 ^ k.toNat := Int.ediv_nonneg ha (by exact Int.le_of_lt (Int.pow_pos (by omega)))
  have e2 : ((2 : Int) ^ k.toNat) = ((2 ^ k.toNat : Nat) : Int) := by simp
  have ea : a = (a.toNat : Int) := (Int.toNat_of_nonneg ha).symm
  unfold bit
  rw [e2, ← nI_iI, iI_nat ha]
  have e : nI a.toNat &&& nI (2 ^ k.toNat) = nI (a.toNat &&& 2 ^ k.toNat) := by
    apply Int32.toBitVec.inj
    show BitVec.ofNat 32 _ &&& BitVec.ofNat 32 _ = BitVec.ofNat 32 _
    rw [BitVec.ofNat_and]
  rw [e, andP, nI_iI]
  congr 1
  have e3 : a / ((2 ^ k.toNat : Nat) : Int) % 2 = ((a.toNat / 2 ^ k.toNat % 2 : Nat) : Int) := by
    conv => lhs; rw [ea]
    simp
  rw [e3]
  have h2 : a.toNat / 2 ^ k.toNat % 2 < 2 := Nat.mod_lt _ (by omega)
  rcases (by omega : a.toNat / 2 ^ k.toNat % 2 = 0 ∨ a.toNat / 2 ^ k.toNat % 2 = 1) with q | q
  · rw [q]; simp
  · rw [q]; simp
def bset (a k : Int) : Int := a - bit a k * 2 ^ k.toNat + 2 ^ k.toNat
def bclr (a k : Int) : Int := a - bit a k * 2 ^ k.toNat
theorem clr_k {a k : Int} (ha : 0 ≤ a) : iI a &&& iI (-1 - 2 ^ k.toNat) = iI (bclr a k) := by
  have h1 : iI (-1 - 2 ^ k.toNat) = ~~~ iI (2 ^ k.toNat) := by
    rw [← not_x]
    apply Int32.toBitVec.inj
    show _ ^^^ BitVec.ofInt 32 (-1) = ~~~ _
    rw [show BitVec.ofInt 32 (-1) = BitVec.allOnes 32 from by decide, BitVec.xor_allOnes]
  have h2 := bvSplit (iI a).toBitVec (iI (2 ^ k.toNat)).toBitVec
  have h3 : iI a &&& ~~~ iI (2 ^ k.toNat) = iI a - (iI a &&& iI (2 ^ k.toNat)) := by
    apply Int32.toBitVec.inj
    show (iI a).toBitVec &&& ~~~ (iI (2 ^ k.toNat)).toBitVec = (iI a).toBitVec - ((iI a).toBitVec &&& (iI (2 ^ k.toNat)).toBitVec)
    exact (BitVec.eq_sub_iff_add_eq).mpr h2
  rw [h1, h3, and_k ha]
  exact (Int32.ofInt_sub _ _).symm
theorem set_k {a k : Int} (ha : 0 ≤ a) : iI a ||| iI (2 ^ k.toNat) = iI (bset a k) := by
  have h2 := bvOr (iI a).toBitVec (iI (2 ^ k.toNat)).toBitVec
  have h1 : iI (-1 - 2 ^ k.toNat) = ~~~ iI (2 ^ k.toNat) := by
    rw [← not_x]
    apply Int32.toBitVec.inj
    show _ ^^^ BitVec.ofInt 32 (-1) = ~~~ _
    rw [show BitVec.ofInt 32 (-1) = BitVec.allOnes 32 from by decide, BitVec.xor_allOnes]
  have h3 : iI a ||| iI (2 ^ k.toNat) = (iI a &&& iI (-1 - 2 ^ k.toNat)) + iI (2 ^ k.toNat) := by
    rw [h1]
    exact Int32.toBitVec.inj h2
  rw [h3, clr_k ha]
  exact (Int32.ofInt_add _ _).symm
theorem div_k {a b : Int} (ha : 0 ≤ a) (h2 : R32 a) (hb : 0 < b) (hb2 : R32 b) : iI a / iI b = iI (a / b) := by
  have h := Int32.ofInt_tdiv (a := a) (b := b) h2.1 (by have := h2.2; show a ≤ 2147483647; omega) hb2.1 (by have := hb2.2; show b ≤ 2147483647; omega)
  rw [Int.tdiv_eq_ediv_of_nonneg ha] at h
  exact h.symm
theorem rem_k {a b : Int} (ha : 0 ≤ a) (h2 : R32 a) (hb : 0 < b) (hb2 : R32 b) : iI a - iI a / iI b * iI b = iI (a % b) := by
  rw [div_k ha h2 hb hb2]
  show Int32.ofInt a - Int32.ofInt (a / b) * Int32.ofInt b = Int32.ofInt (a % b)
  rw [← Int32.ofInt_mul, ← Int32.ofInt_sub]
  congr 1
  have := Int.emod_add_mul_ediv a b
  rw [Int.mul_comm] at this
  omega
theorem iI_ne0 {b : Int} (hb : 0 < b) (hb2 : R32 b) : ¬ iI b = 0 := fun e => by have := iI_inj hb2 R32_0 e; omega
section XI
variable {g : xG} {M : xMeth} {Q : qP} {QX : qE} {rc rs : Nat} {h : hp} {pc : Nat} {ls : List (Option Value)} {st : List Value}
theorem x_idivI {a b : Int} (d : decode M.2.1 pc = .ok (.idiv, 1)) (ha : 0 ≤ a) (ha2 : R32 a) (hb : 0 < b) (hb2 : R32 b) (k : xW g M Q QX rc rs h (pc + 1) ls (.int (iI (a / b)) :: st)) : xW g M Q QX rc rs h pc ls (.int (iI b) :: .int (iI a) :: st) := x_idiv d (iI_ne0 hb hb2) (div_k ha ha2 hb hb2) k
theorem x_iremI {a b : Int} (d : decode M.2.1 pc = .ok (.irem, 1)) (ha : 0 ≤ a) (ha2 : R32 a) (hb : 0 < b) (hb2 : R32 b) (k : xW g M Q QX rc rs h (pc + 1) ls (.int (iI (a % b)) :: st)) : xW g M Q QX rc rs h pc ls (.int (iI b) :: .int (iI a) :: st) := x_irem d (iI_ne0 hb hb2) (rem_k ha ha2 hb hb2) k
theorem x_ishrI {a b : Int} (d : decode M.2.1 pc = .ok (.ishr, 1)) (ha : 0 ≤ a) (ha2 : a < 2147483648) (hb : 0 ≤ b) (hb2 : b < 32) (k : xW g M Q QX rc rs h (pc + 1) ls (.int (iI (a / 2 ^ b.toNat)) :: st)) : xW g M Q QX rc rs h pc ls (.int (iI b) :: .int (iI a) :: st) := x_ishr d (shr_k ha ha2 hb hb2) k
theorem x_ishl1 {b : Int} (d : decode M.2.1 pc = .ok (.ishl, 1)) (hb : 0 ≤ b) (hb2 : b < 31) (k : xW g M Q QX rc rs h (pc + 1) ls (.int (iI (2 ^ b.toNat)) :: st)) : xW g M Q QX rc rs h pc ls (.int (iI b) :: .int (iI 1) :: st) := x_ishl d (shl_1 hb hb2) k
theorem x_iand1 {a : Int} (d : decode M.2.1 pc = .ok (.iand, 1)) (ha : 0 ≤ a) (k : xW g M Q QX rc rs h (pc + 1) ls (.int (iI (a % 2)) :: st)) : xW g M Q QX rc rs h pc ls (.int (iI 1) :: .int (iI a) :: st) := x_iand d (and_1 ha) k
theorem x_inot {a : Int} (d : decode M.2.1 pc = .ok (.ixor, 1)) (k : xW g M Q QX rc rs h (pc + 1) ls (.int (iI (-1 - a)) :: st)) : xW g M Q QX rc rs h pc ls (.int (iI (-1)) :: .int (iI a) :: st) := x_ixor d (not_x a) k
theorem x_iandk {a b : Int} (d : decode M.2.1 pc = .ok (.iand, 1)) (ha : 0 ≤ a) (k : xW g M Q QX rc rs h (pc + 1) ls (.int (iI (bit a b * 2 ^ b.toNat)) :: st)) : xW g M Q QX rc rs h pc ls (.int (iI (2 ^ b.toNat)) :: .int (iI a) :: st) := x_iand d (and_k ha) k
theorem x_iandc {a b : Int} (d : decode M.2.1 pc = .ok (.iand, 1)) (ha : 0 ≤ a) (k : xW g M Q QX rc rs h (pc + 1) ls (.int (iI (bclr a b)) :: st)) : xW g M Q QX rc rs h pc ls (.int (iI (-1 - 2 ^ b.toNat)) :: .int (iI a) :: st) := x_iand d (clr_k ha) k
theorem x_iork {a b : Int} (d : decode M.2.1 pc = .ok (.ior, 1)) (ha : 0 ≤ a) (k : xW g M Q QX rc rs h (pc + 1) ls (.int (iI (bset a b)) :: st)) : xW g M Q QX rc rs h pc ls (.int (iI (2 ^ b.toNat)) :: .int (iI a) :: st) := x_ior d (set_k ha) k
end XI
