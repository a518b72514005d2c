/-! ===== sums of bits, as whole numbers ===== -/
theorem jb_bv {a : Int} (h0 : 0 ≤ a) (h1 : a ≤ 2147483647) : (Int32.ofInt a).toBitVec.toNat = a.toNat := by
  rw [Int32.toBitVec_ofInt, BitVec.toNat_ofInt]
  omega
theorem jb_and {a b : Int} (a0 : 0 ≤ a) (a1 : a ≤ 2147483647) (b0 : 0 ≤ b) (b1 : b ≤ 2147483647) : jw_and a b = ((a.toNat &&& b.toNat : Nat) : Int) := by
  unfold jw_and
  show ((Int32.ofInt a).toBitVec &&& (Int32.ofInt b).toBitVec).toInt = _
  have e : ((Int32.ofInt a).toBitVec &&& (Int32.ofInt b).toBitVec).toNat = a.toNat &&& b.toNat := by
    rw [BitVec.toNat_and, jb_bv a0 a1, jb_bv b0 b1]
  have h : a.toNat &&& b.toNat ≤ a.toNat := Nat.and_le_left
  rw [BitVec.toInt_eq_toNat_of_lt (by rw [e]; omega), e]
theorem jb_or {a b : Int} (a0 : 0 ≤ a) (a1 : a ≤ 2147483647) (b0 : 0 ≤ b) (b1 : b ≤ 2147483647) : jw_or a b = ((a.toNat ||| b.toNat : Nat) : Int) := by
  unfold jw_or
  show ((Int32.ofInt a).toBitVec ||| (Int32.ofInt b).toBitVec).toInt = _
  have e : ((Int32.ofInt a).toBitVec ||| (Int32.ofInt b).toBitVec).toNat = a.toNat ||| b.toNat := by
    rw [BitVec.toNat_or, jb_bv a0 a1, jb_bv b0 b1]
  have h : a.toNat ||| b.toNat < 2 ^ 31 := Nat.or_lt_two_pow (by omega) (by omega)
  rw [BitVec.toInt_eq_toNat_of_lt (by rw [e]; omega), e]
/-- without the bits of another one -/
theorem jb_less {a b : Int} (a0 : 0 ≤ a) (a1 : a ≤ 2147483647) (b0 : 0 ≤ b) (b1 : b ≤ 2147483647) : ∃ s : Nat, jw_and a (jw_xor b (-1)) = (s : Int) ∧ s ≤ a.toNat ∧ ∀ i, s.testBit i = (a.toNat.testBit i && !b.toNat.testBit i) := by
  have e1 : Int32.ofInt (jw_xor b (-1)) = Int32.ofInt b ^^^ Int32.ofInt (-1) := Int32.ofInt_toInt _
  have e2 : (Int32.ofInt (-1)).toBitVec.toNat = 2 ^ 32 - 1 := by decide
  have e3 : ((Int32.ofInt a).toBitVec &&& ((Int32.ofInt b).toBitVec ^^^ (Int32.ofInt (-1)).toBitVec)).toNat = a.toNat &&& (b.toNat ^^^ (2 ^ 32 - 1)) := by
    rw [BitVec.toNat_and, BitVec.toNat_xor, jb_bv a0 a1, jb_bv b0 b1, e2]
  have h : a.toNat &&& (b.toNat ^^^ (2 ^ 32 - 1)) ≤ a.toNat := Nat.and_le_left
  refine ⟨a.toNat &&& (b.toNat ^^^ (2 ^ 32 - 1)), ?_, h, fun i => ?_⟩
  · unfold jw_and
    rw [e1]
    show ((Int32.ofInt a).toBitVec &&& ((Int32.ofInt b).toBitVec ^^^ (Int32.ofInt (-1)).toBitVec)).toInt = _
    rw [BitVec.toInt_eq_toNat_of_lt (by rw [e3]; omega), e3]
  · rw [Nat.testBit_and, Nat.testBit_xor, Nat.testBit_two_pow_sub_one]
    by_cases hi : i < 32
    · simp only [hi, decide_true, Bool.xor_true]
    · have hb : a.toNat < 2 ^ i := Nat.lt_of_lt_of_le (show a.toNat < 2 ^ 32 by omega) (Nat.pow_le_pow_right (by decide) (by omega))
      rw [Nat.testBit_lt_two_pow hb]
      rfl
theorem jb_sh : ∀ n : Fin 32, ((Int32.ofInt (n.val : Int) &&& 31).toBitVec.smod 32).toNat = n.val := by decide +kernel
theorem jb_shr {a b : Int} (ha : jw_rg a) (b0 : 0 ≤ b) (b1 : b < 32) : jw_shr a b = a / ((2 ^ b.toNat : Nat) : Int) := by
  obtain ⟨n, rfl⟩ := Int.eq_ofNat_of_zero_le b0
  unfold jw_shr
  show (BitVec.sshiftRight' (Int32.ofInt a).toBitVec ((Int32.ofInt (n : Int) &&& 31).toBitVec.smod 32)).toInt = _
  rw [BitVec.sshiftRight_eq', jb_sh ⟨n, by omega⟩, BitVec.toInt_sshiftRight, Int.shiftRight_eq_div_pow]
  have e : (Int32.ofInt a).toBitVec.toInt = a := jw_n_id ha
  rw [e]
  rfl
theorem jb_shl1 {b : Int} (b0 : 0 ≤ b) (b1 : b < 31) : jw_shl 1 b = ((2 ^ b.toNat : Nat) : Int) := by
  obtain ⟨n, rfl⟩ := Int.eq_ofNat_of_zero_le b0
  have key : ∀ n : Fin 31, jw_shl 1 ((n.val : Nat) : Int) = ((2 ^ n.val : Nat) : Int) := by decide +kernel
  exact key ⟨n, by omega⟩
theorem jb_and1 {a : Int} (ha : jw_rg a) : jw_and a 1 = a % 2 := by
  unfold jw_and
  show ((Int32.ofInt a).toBitVec &&& (Int32.ofInt 1).toBitVec).toInt = _
  have e : ((Int32.ofInt a).toBitVec &&& (Int32.ofInt 1).toBitVec).toNat = (a % 2).toNat := by
    have e1 : (Int32.ofInt 1).toBitVec.toNat = 1 := by decide
    rw [BitVec.toNat_and, e1, Nat.and_one_is_mod, Int32.toBitVec_ofInt, BitVec.toNat_ofInt]
    omega
  rw [BitVec.toInt_eq_toNat_of_lt (by rw [e]; omega), e]
  omega
/-- a set of numbers, told by bits -/
abbrev jb_in (s : Int) (k : Nat) : Prop := s.toNat.testBit k = true
theorem jb_has {s k : Int} (h0 : 0 ≤ s) (h1 : s ≤ 2147483647) (k0 : 0 ≤ k) (k1 : k < 31) : jw_and (jw_shr s k) 1 = if jb_in s k.toNat then 1 else 0 := by
  rw [jb_shr ⟨by omega, h1⟩ k0 (by omega)]
  have hp : (0 : Int) < ((2 ^ k.toNat : Nat) : Int) := by
    have := Nat.two_pow_pos k.toNat
    omega
  have e0 : 0 ≤ s / ((2 ^ k.toNat : Nat) : Int) := Int.ediv_nonneg h0 (by omega)
  have e1 : s / ((2 ^ k.toNat : Nat) : Int) ≤ s := Int.ediv_le_self _ h0
  rw [jb_and1 ⟨by omega, by omega⟩]
  unfold jb_in
  obtain ⟨m, rfl⟩ := Int.eq_ofNat_of_zero_le h0
  rw [Int.toNat_natCast, Nat.testBit_eq_decide_div_mod_eq]
  have e2 : ((m : Int) / ((2 ^ k.toNat : Nat) : Int)) % 2 = ((m / 2 ^ k.toNat % 2 : Nat) : Int) := by
    rw [← Int.natCast_ediv]
    omega
  rw [e2]
  by_cases h : m / 2 ^ k.toNat % 2 = 1
  · rw [if_pos (by rw [h]; rfl), h]
    rfl
  · rw [if_neg (by simp only [decide_eq_true_eq]; exact h)]
    omega
