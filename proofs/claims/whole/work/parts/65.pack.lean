-- packed longs: a court in one number
def nL (n : Nat) : Int64 := Int64.ofNat n
theorem nL_bv (n : Nat) : (nL n).toBitVec = BitVec.ofNat 64 n := rfl
theorem nI_L {n : Nat} (h : n < 2 ^ 31) : (nI n).toInt64 = nL n := by
  apply Int64.toInt_inj.mp
  rw [Int32.toInt_toInt64, nI_toInt h]
  unfold nL
  rw [Int64.toInt_ofNat_of_lt (by omega)]
theorem nL_I {n : Nat} (h : n < 2 ^ 31) : (nL n).toInt32 = nI n := by
  rw [← nI_L h, Int32.toInt32_toInt64]
theorem shl_or {k : Nat} (hk : k ≤ 8) {s : Int64} (hs : s.toBitVec.smod 64 = BitVec.ofNat 64 k) {X g : Nat} (hX : X < 2 ^ 40) (hg : g < 2 ^ k) : (nL X <<< s) ||| nL g = nL (X * 2 ^ k + g) := by
  apply Int64.toBitVec_inj.mp
  rw [Int64.toBitVec_or, Int64.toBitVec_shiftLeft, nL_bv, nL_bv, nL_bv, hs]
  apply BitVec.eq_of_toNat_eq
  have hk2 : 2 ^ k ≤ 256 := by
    have : ∀ k, k ≤ 8 → 2 ^ k ≤ 256 := by decide
    exact this k hk
  have hm : X * 2 ^ k ≤ X * 256 := Nat.mul_le_mul_left _ hk2
  rw [BitVec.toNat_or, BitVec.shiftLeft_eq', BitVec.toNat_shiftLeft, BitVec.toNat_ofNat, BitVec.toNat_ofNat, BitVec.toNat_ofNat, BitVec.toNat_ofNat, Nat.mod_eq_of_lt (a := k) (by omega), Nat.mod_eq_of_lt (a := X) (by omega), Nat.mod_eq_of_lt (a := g) (by omega), Nat.mod_eq_of_lt (a := X * 2 ^ k + g) (by omega), Nat.shiftLeft_eq, Nat.mod_eq_of_lt (by omega), ← Nat.shiftLeft_eq, Nat.shiftLeft_add_eq_or_of_lt hg]
theorem shrL {k : Nat} (hk : k ≤ 8) {s : Int64} (hs : s.toBitVec.smod 64 = BitVec.ofNat 64 k) {Y : Nat} (hY : Y < 2 ^ 60) : nL Y >>> s = nL (Y / 2 ^ k) := by
  apply Int64.toBitVec_inj.mp
  rw [Int64.toBitVec_shiftRight, nL_bv, nL_bv, hs]
  have hmsb : (BitVec.ofNat 64 Y).msb = false := by
    rw [BitVec.msb_eq_false_iff_two_mul_lt, BitVec.toNat_ofNat, Nat.mod_eq_of_lt (by omega)]
    omega
  apply BitVec.eq_of_toNat_eq
  have hd : Y / 2 ^ k ≤ Y := Nat.div_le_self _ _
  rw [BitVec.sshiftRight_eq', BitVec.toNat_sshiftRight_of_msb_false hmsb, BitVec.toNat_ofNat, BitVec.toNat_ofNat, BitVec.toNat_ofNat, Nat.mod_eq_of_lt (a := k) (by omega), Nat.mod_eq_of_lt (a := Y) (by omega), Nat.mod_eq_of_lt (a := Y / 2 ^ k) (by omega), Nat.shiftRight_eq_div_pow]
theorem andL {k : Nat} (hk : k ≤ 8) {Y : Nat} (hY : Y < 2 ^ 60) : nL Y &&& nL (2 ^ k - 1) = nL (Y % 2 ^ k) := by
  apply Int64.toBitVec_inj.mp
  rw [Int64.toBitVec_and, nL_bv, nL_bv, nL_bv]
  apply BitVec.eq_of_toNat_eq
  have hk2 : 2 ^ k ≤ 256 := by
    have : ∀ k, k ≤ 8 → 2 ^ k ≤ 256 := by decide
    exact this k hk
  have hd : Y % 2 ^ k ≤ Y := Nat.mod_le _ _
  rw [BitVec.toNat_and, BitVec.toNat_ofNat, BitVec.toNat_ofNat, BitVec.toNat_ofNat, Nat.mod_eq_of_lt (a := Y) (by omega), Nat.mod_eq_of_lt (a := 2 ^ k - 1) (by omega), Nat.mod_eq_of_lt (a := Y % 2 ^ k) (by omega), Nat.and_two_pow_sub_one_eq_mod]
