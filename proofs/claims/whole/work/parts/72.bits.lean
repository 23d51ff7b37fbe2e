/-! bits -/
def bt (x : Int64) (n : Nat) : Bool := x.toBitVec.getLsbD n
theorem bt_one : ∀ a, a < 40 → ∀ n, n < 64 → bt ((1 : Int64) <<< ((nI a).toInt64 &&& 63)) n = decide (n = a) := by decide +kernel
theorem bt_or (x y : Int64) (n : Nat) : bt (x ||| y) n = (bt x n || bt y n) := by
  unfold bt
  rw [Int64.toBitVec_or, BitVec.getLsbD_or]
theorem bt_and (x y : Int64) (n : Nat) : bt (x &&& y) n = (bt x n && bt y n) := by
  unfold bt
  rw [Int64.toBitVec_and, BitVec.getLsbD_and]
theorem bt_xor (x y : Int64) (n : Nat) : bt (x ^^^ y) n = (bt x n ^^ bt y n) := by
  unfold bt
  rw [Int64.toBitVec_xor, BitVec.getLsbD_xor]
theorem bt_set {x : Int64} {a n : Nat} (ha : a < 40) (hn : n < 64) : bt (x ||| (1 <<< ((nI a).toInt64 &&& 63))) n = (bt x n || decide (n = a)) := by
  rw [bt_or, bt_one a ha n hn]
theorem bt_0 (n : Nat) : bt 0 n = false := by
  unfold bt
  show (0 : BitVec 64).getLsbD n = false
  exact BitVec.getLsbD_zero
theorem sh_k : ∀ k, k < 5 → ((8 * nI k).toInt64 &&& 63).toBitVec.smod 64 = BitVec.ofNat 64 (8 * k) := by decide +kernel
theorem bt_shr {x : Int64} {k n : Nat} (hk : k < 5) (hn : n < 8) : bt (x >>> ((8 * nI k).toInt64 &&& 63)) n = bt x (8 * k + n) := by
  unfold bt
  rw [Int64.toBitVec_shiftRight]
  show (x.toBitVec.sshiftRight' (((8 * nI k).toInt64 &&& 63).toBitVec.smod 64)).getLsbD n = _
  rw [sh_k k hk]
  show (x.toBitVec.sshiftRight (BitVec.ofNat 64 (8 * k)).toNat).getLsbD n = _
  rw [BitVec.getLsbD_sshiftRight]
  have e : (BitVec.ofNat 64 (8 * k)).toNat = 8 * k := by
    rw [BitVec.toNat_ofNat]; exact Nat.mod_eq_of_lt (by omega)
  rw [e, if_pos (by omega)]
  simp
  omega
theorem bt_255 : ∀ n, n < 64 → bt 255 n = decide (n < 8) := by decide +kernel
theorem bt_m1 : ∀ n, n < 64 → bt (-1) n = true := by decide +kernel
theorem bt_byte {b n : Nat} (hb : b < 256) (hn : n < 64) : bt (nI b).toInt64 n = b.testBit n := by
  have h1 : (nI b).toInt64.toBitVec = BitVec.ofNat 64 b := by
    rw [nI_l (by omega)]; rfl
  unfold bt
  rw [h1, BitVec.getLsbD_ofNat]
  simp [hn]
theorem hintR : ∀ b, b < 256 → ∀ j, j < 8 → ((((nI b) >>> ((nI j) &&& 31)) &&& 1) = 1 ↔ b.testBit j = true) := by decide +kernel
theorem togR : ∀ b, b < 256 → ∀ j, j < 8 → (nI b ^^^ ((1 : Int32) <<< ((nI j) &&& 31))) = nI (b ^^^ 2 ^ j) := by decide +kernel
/-- the byte that the class makes of a byte of the map -/
theorem updB (b : Nat) (x y : Int64) {k : Nat} (hb : b < 256) (hk : k < 5) : ∃ c, c < 256 ∧ ((((nI b).toInt64 ||| ((x >>> ((8 * nI k).toInt64 &&& 63)) &&& 255)) &&& (((y >>> ((8 * nI k).toInt64 &&& 63)) &&& 255) ^^^ (-1))).toInt32) = nI c ∧ ∀ j, j < 8 → c.testBit j = ((b.testBit j || bt x (8 * k + j)) && !bt y (8 * k + j)) := by
  have hbit : ∀ n, n < 64 → bt (((nI b).toInt64 ||| ((x >>> ((8 * nI k).toInt64 &&& 63)) &&& 255)) &&& (((y >>> ((8 * nI k).toInt64 &&& 63)) &&& 255) ^^^ (-1))) n = if n < 8 then ((b.testBit n || bt x (8 * k + n)) && !bt y (8 * k + n)) else false := by
    intro n hn
    rw [bt_and, bt_or, bt_xor, bt_and, bt_and, bt_255 n hn, bt_m1 n hn, bt_byte hb hn]
    by_cases h8 : n < 8
    · rw [if_pos h8, bt_shr hk h8, bt_shr hk h8]; simp [h8]
    · rw [if_neg h8]
      have : b.testBit n = false := Nat.testBit_lt_two_pow (Nat.lt_of_lt_of_le hb (show 2 ^ 8 ≤ 2 ^ n from Nat.pow_le_pow_right (by decide) (by omega)))
      rw [this]; simp [h8]
  generalize (((nI b).toInt64 ||| ((x >>> ((8 * nI k).toInt64 &&& 63)) &&& 255)) &&& (((y >>> ((8 * nI k).toInt64 &&& 63)) &&& 255) ^^^ (-1))) = z at hbit
  have e1 : ∀ n, n < 32 → z.toInt32.toBitVec.toNat.testBit n = bt z n := by
    intro n hn
    show z.toInt32.toBitVec.getLsbD n = z.toBitVec.getLsbD n
    show (z.toBitVec.signExtend 32).getLsbD n = z.toBitVec.getLsbD n
    rw [BitVec.getLsbD_signExtend]
    simp [hn]
    intro h; omega
  refine ⟨z.toInt32.toBitVec.toNat, ?_, ?_, ?_⟩
  · apply Nat.lt_pow_two_of_testBit (n := 8)
    intro i hi
    by_cases h : i < 32
    · rw [e1 i h, hbit i (by omega), if_neg (by omega)]
    · exact Nat.testBit_lt_two_pow (Nat.lt_of_lt_of_le z.toInt32.toBitVec.isLt (Nat.pow_le_pow_right (by decide) (by omega)))
  · apply Int32.toBitVec_inj.mp
    apply BitVec.eq_of_toNat_eq
    rw [pk_tn z.toInt32.toBitVec.isLt]
  · intro j hj
    rw [e1 j (by omega), hbit j (by omega), if_pos hj]
