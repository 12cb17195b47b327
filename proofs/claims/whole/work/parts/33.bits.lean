/-! Bits of small numbers; the stack of truths as one int. -/
theorem z_and (a b : Nat) : nI a &&& nI b = nI (a &&& b) := by
  apply Int32.toBitVec_inj.1
  show BitVec.ofNat 32 a &&& BitVec.ofNat 32 b = BitVec.ofNat 32 (a &&& b)
  exact BitVec.ofNat_and.symm
theorem z_or (a b : Nat) : nI a ||| nI b = nI (a ||| b) := by
  apply Int32.toBitVec_inj.1
  show BitVec.ofNat 32 a ||| BitVec.ofNat 32 b = BitVec.ofNat 32 (a ||| b)
  exact BitVec.ofNat_or.symm
theorem z_xor (a b : Nat) : nI a ^^^ nI b = nI (a ^^^ b) := by
  apply Int32.toBitVec_inj.1
  show BitVec.ofNat 32 a ^^^ BitVec.ofNat 32 b = BitVec.ofNat 32 (a ^^^ b)
  exact BitVec.ofNat_xor.symm
theorem z_shr {n k : Nat} (hn : n < 2 ^ 31) (hk : k < 32) : nI n >>> (nI k &&& 31) = nI (n / 2 ^ k) := by
  have e : ∀ k, k < 32 → ((nI k &&& 31).toBitVec.smod 32).toNat = k := by decide +kernel
  have h2 : n / 2 ^ k ≤ n := Nat.div_le_self _ _
  apply Int32.toInt_inj.1
  rw [nI_toInt (by omega)]
  show (BitVec.sshiftRight (nI n).toBitVec (((nI k &&& 31).toBitVec.smod 32).toNat)).toInt = _
  rw [e k hk, BitVec.toInt_sshiftRight]
  have : (nI n).toBitVec.toInt = n := nI_toInt hn
  rw [this, Int.shiftRight_eq_div_pow]
  norm_cast
theorem z_shl {n k : Nat} (hk : k < 32) : nI n <<< (nI k &&& 31) = nI (n * 2 ^ k) := by
  have e : ∀ k, k < 32 → ((nI k &&& 31).toBitVec.smod 32).toNat = k := by decide +kernel
  apply Int32.toBitVec_inj.1
  show (nI n).toBitVec <<< (((nI k &&& 31).toBitVec.smod 32).toNat) = BitVec.ofNat 32 (n * 2 ^ k)
  rw [e k hk]
  apply BitVec.eq_of_toNat_eq
  show ((BitVec.ofNat 32 n) <<< k).toNat = _
  simp [Nat.shiftLeft_eq]
theorem z_m2 : (-2 : Int32) = nI 4294967294 := by decide
theorem n_both {n : Nat} (h : n < 2 ^ 31) : (n / 2 &&& (n ||| 4294967294)) = if n % 2 = 1 then n / 2 else 2 * (n / 4) := by
  have hb : ∀ i, i < 31 → Nat.testBit 4294967294 (i + 1) = true := by decide
  apply Nat.eq_of_testBit_eq
  intro i
  cases i with
  | zero =>
    rw [Nat.testBit_and, Nat.testBit_or]
    by_cases h1 : n % 2 = 1
    · simp [h1, Nat.testBit_zero]
    · simp [h1, Nat.testBit_zero]
  | succ i =>
    have e1 : (if n % 2 = 1 then n / 2 else 2 * (n / 4)).testBit (i + 1) = (n / 2).testBit (i + 1) := by
      split
      · rfl
      · rw [Nat.testBit_succ, Nat.testBit_succ]; congr 1; omega
    rw [e1, Nat.testBit_and, Nat.testBit_or]
    by_cases h2 : i < 31
    · rw [hb i h2, Bool.or_true, Bool.and_true]
    · rw [Nat.testBit_lt_two_pow (x := n / 2) (i := i + 1)]
      · rfl
      · exact Nat.lt_of_lt_of_le (by omega) (Nat.pow_le_pow_right (by decide) (show 31 ≤ i + 1 by omega))
theorem n_1 (n : Nat) : n &&& 1 = n % 2 := Nat.and_one_is_mod n
theorem n_or1 (n b : Nat) (hb : b ≤ 1) : 2 * n ||| b = 2 * n + b := by
  have : b = 0 ∨ b = 1 := by omega
  rcases this with rfl | rfl
  · simp
  · apply Nat.eq_of_testBit_eq; intro i; cases i with
    | zero => rw [Nat.testBit_or]; simp [Nat.testBit_zero]; try omega
    | succ i => rw [Nat.testBit_or]; simp [Nat.testBit_succ]; try (congr 1; omega)
theorem n_either {n : Nat} : (n / 2 ||| n &&& 1) = if n % 2 = 1 then 2 * (n / 4) + 1 else n / 2 := by
  rw [n_1]
  split
  · rename_i h; rw [h]
    apply Nat.eq_of_testBit_eq; intro i; cases i with
    | zero => rw [Nat.testBit_or]; simp [Nat.testBit_zero]; try omega
    | succ i => rw [Nat.testBit_or]; simp [Nat.testBit_succ]; try (congr 1; omega)
  · rename_i h; rw [show n % 2 = 0 by omega]; simp
theorem n_not (n : Nat) : n ^^^ 1 = 2 * (n / 2) + (1 - n % 2) := by
  apply Nat.eq_of_testBit_eq; intro i; cases i with
    | zero =>
      rw [Nat.testBit_xor]
      rcases Nat.mod_two_eq_zero_or_one n with h | h <;> simp [Nat.testBit_zero, h]
    | succ i => rw [Nat.testBit_xor]; simp [Nat.testBit_succ]; try (congr 1; omega)
def enc : List Bool → Nat
  | [] => 0
  | b :: r => 2 * enc r + b.toNat
theorem enc_lt (l : List Bool) : enc l < 2 ^ l.length := by
  induction l with
  | nil => decide
  | cons b r ih => cases b <;> simp [enc, Nat.pow_succ] <;> omega

theorem enc_not (b : Bool) (r : List Bool) : enc (b :: r) ^^^ 1 = enc ((!b) :: r) := by
  rw [n_not]; cases b <;> simp [enc] <;> omega
theorem enc_both (b a : Bool) (r : List Bool) (h : enc (b :: a :: r) < 2 ^ 31) : (enc (b :: a :: r) / 2 &&& (enc (b :: a :: r) ||| 4294967294)) = enc ((a && b) :: r) := by
  rw [n_both h]; cases b <;> cases a <;> simp [enc] <;> omega
theorem enc_either (b a : Bool) (r : List Bool) : (enc (b :: a :: r) / 2 ||| enc (b :: a :: r) &&& 1) = enc ((a || b) :: r) := by
  rw [n_either]; cases b <;> cases a <;> simp [enc] <;> omega
theorem enc_push (b : Bool) (r : List Bool) : (enc r * 2 ^ 1 ||| b.toNat) = enc (b :: r) := by
  rw [show enc r * 2 ^ 1 = 2 * enc r by omega, n_or1 _ _ (by cases b <;> decide)]; rfl
theorem enc_top (b : Bool) (r : List Bool) : enc (b :: r) &&& 1 = b.toNat := by
  rw [n_1]; cases b <;> simp [enc] <;> omega
theorem enc_push0 (r : List Bool) : (enc r * 2 ^ 1 ||| 0) = enc (false :: r) := enc_push false r
theorem enc_push1 (r : List Bool) : (enc r * 2 ^ 1 ||| 1) = enc (true :: r) := enc_push true r
theorem z_bool (b : Bool) : zb (b = true) = nI b.toNat := by cases b <;> rfl
