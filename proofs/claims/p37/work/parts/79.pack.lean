/-! THE LAW'S NOTES: how a leg is packed -/
def gP (γ : Nat → Nat → Nat) (k : Nat) : Nat := γ 0 k + 16 * γ 1 k + 1024 * γ 2 k + 8192 * γ 3 k + 16384 * γ 4 k
section PK
theorem nI_bv {n : Nat} : (nI n).toBitVec = BitVec.ofNat 32 n := rfl
theorem nI_or {a b : Nat} : nI a ||| nI b = nI (a ||| b) := by
  apply Int32.toBitVec_inj.mp
  rw [Int32.toBitVec_or, nI_bv, nI_bv, nI_bv]
  apply BitVec.eq_of_toNat_eq
  rw [BitVec.toNat_or, BitVec.toNat_ofNat, BitVec.toNat_ofNat, BitVec.toNat_ofNat, Nat.or_mod_two_pow]
theorem nI_and {a b : Nat} : nI a &&& nI b = nI (a &&& b) := by
  apply Int32.toBitVec_inj.mp
  rw [Int32.toBitVec_and, nI_bv, nI_bv, nI_bv]
  apply BitVec.eq_of_toNat_eq
  rw [BitVec.toNat_and, BitVec.toNat_ofNat, BitVec.toNat_ofNat, BitVec.toNat_ofNat, Nat.and_mod_two_pow]
theorem nI_shl {a s : Nat} {x : Int32} (hs : s < 32) (hx : (x.toBitVec.smod 32#32).toNat = s) : nI a <<< x = nI (a * 2 ^ s) := by
  apply Int32.toBitVec_inj.mp
  rw [Int32.toBitVec_shiftLeft, nI_bv, nI_bv]
  apply BitVec.eq_of_toNat_eq
  show (BitVec.ofNat 32 a <<< (x.toBitVec.smod 32#32)).toNat = _
  rw [BitVec.shiftLeft_eq', BitVec.toNat_shiftLeft, hx, BitVec.toNat_ofNat, BitVec.toNat_ofNat, Nat.shiftLeft_eq, Nat.mod_mul_mod]
theorem nI_shr {a s : Nat} {x : Int32} (ha : a < 2 ^ 31) (hx : (x.toBitVec.smod 32#32).toNat = s) : nI a >>> x = nI (a / 2 ^ s) := by
  apply Int32.toBitVec_inj.mp
  rw [Int32.toBitVec_shiftRight, nI_bv, nI_bv]
  apply BitVec.eq_of_toNat_eq
  show ((BitVec.ofNat 32 a).sshiftRight' (x.toBitVec.smod 32#32)).toNat = _
  have hm : (BitVec.ofNat 32 a).msb = false := by
    rw [BitVec.msb_eq_false_iff_two_mul_lt, BitVec.toNat_ofNat]
    omega
  rw [BitVec.sshiftRight', BitVec.sshiftRight_eq_of_msb_false hm, BitVec.toNat_ushiftRight, hx, BitVec.toNat_ofNat, BitVec.toNat_ofNat, Nat.shiftRight_eq_div_pow]
  have : a / 2 ^ s ≤ a := Nat.div_le_self _ _
  rw [Nat.mod_eq_of_lt (by omega), Nat.mod_eq_of_lt (by omega)]
theorem part_eq {σ : GS} {n s b m : Nat} {x y : Int32} (hn : n < 2 ^ 31) (hx : ((x &&& 31).toBitVec.smod 32#32).toNat = s) (hy : ((1 <<< ((y : Int32) &&& 31) : Int32) - 1) = nI m) (hm : m = 2 ^ b - 1) : fl_part σ (nI n) x y = some (nI (n / 2 ^ s % 2 ^ b)) := by
  unfold fl_part
  rw [hy, nI_shr hn hx, nI_and, hm, Nat.and_two_pow_sub_one_eq_mod]
variable {γ : Nat → Nat → Nat} {k : Nat} {σ : GS}
theorem gP_lt (h0 : γ 0 k < 10) (h1 : γ 1 k < 40) (h2 : γ 2 k < 8) (h3 : γ 3 k < 2) (h4 : γ 4 k ≤ 50000) : gP γ k < 2 ^ 31 := by
  unfold gP
  omega
theorem pt_phone (h0 : γ 0 k < 10) (h1 : γ 1 k < 40) (h2 : γ 2 k < 8) (h3 : γ 3 k < 2) (h4 : γ 4 k ≤ 50000) : fl_part σ (nI (gP γ k)) 0 4 = some (nI (γ 0 k)) := by
  rw [part_eq (s := 0) (b := 4) (m := 15) (gP_lt h0 h1 h2 h3 h4) (by decide) (by decide) (by decide)]
  congr 2
  unfold gP
  omega
theorem pt_call (h0 : γ 0 k < 10) (h1 : γ 1 k < 40) (h2 : γ 2 k < 8) (h3 : γ 3 k < 2) (h4 : γ 4 k ≤ 50000) : fl_part σ (nI (gP γ k)) 4 6 = some (nI (γ 1 k)) := by
  rw [part_eq (s := 4) (b := 6) (m := 63) (gP_lt h0 h1 h2 h3 h4) (by decide) (by decide) (by decide)]
  congr 2
  unfold gP
  omega
theorem pt_cell (h0 : γ 0 k < 10) (h1 : γ 1 k < 40) (h2 : γ 2 k < 8) (h3 : γ 3 k < 2) (h4 : γ 4 k ≤ 50000) : fl_part σ (nI (gP γ k)) 10 3 = some (nI (γ 2 k)) := by
  rw [part_eq (s := 10) (b := 3) (m := 7) (gP_lt h0 h1 h2 h3 h4) (by decide) (by decide) (by decide)]
  congr 2
  unfold gP
  omega
theorem pt_noted (h0 : γ 0 k < 10) (h1 : γ 1 k < 40) (h2 : γ 2 k < 8) (h3 : γ 3 k < 2) (h4 : γ 4 k ≤ 50000) : fl_part σ (nI (gP γ k)) 13 1 = some (nI (γ 3 k)) := by
  rw [part_eq (s := 13) (b := 1) (m := 1) (gP_lt h0 h1 h2 h3 h4) (by decide) (by decide) (by decide)]
  congr 2
  unfold gP
  omega
theorem pt_since (h0 : γ 0 k < 10) (h1 : γ 1 k < 40) (h2 : γ 2 k < 8) (h3 : γ 3 k < 2) (h4 : γ 4 k ≤ 50000) : nI (gP γ k) >>> ((14 : Int32) &&& 31) = nI (γ 4 k) := by
  rw [nI_shr (s := 14) (gP_lt h0 h1 h2 h3 h4) (by decide)]
  congr 1
  unfold gP
  omega
theorem or_add {a b i : Nat} (h : b < 2 ^ i) : b ||| a * 2 ^ i = b + a * 2 ^ i := by
  rw [Nat.or_comm, Nat.mul_comm, ← Nat.two_pow_add_eq_or_of_lt h, Nat.add_comm]
theorem pk_join {p c x s : Nat} (hp : p < 16) (hc : c < 64) (hx : x < 8) : nI p ||| (nI c <<< ((4 : Int32) &&& 31)) ||| (nI x <<< ((10 : Int32) &&& 31)) ||| (nI s <<< ((14 : Int32) &&& 31)) = nI (p + 16 * c + 1024 * x + 16384 * s) := by
  rw [nI_shl (s := 4) (by decide) (by decide), nI_shl (s := 10) (by decide) (by decide), nI_shl (s := 14) (by decide) (by decide), nI_or, nI_or, nI_or]
  have a1 : p ||| c * 2 ^ 4 = p + c * 2 ^ 4 := or_add (by omega)
  have a2 : (p + c * 2 ^ 4) ||| x * 2 ^ 10 = (p + c * 2 ^ 4) + x * 2 ^ 10 := or_add (by omega)
  have a3 : (p + c * 2 ^ 4 + x * 2 ^ 10) ||| s * 2 ^ 14 = (p + c * 2 ^ 4 + x * 2 ^ 10) + s * 2 ^ 14 := or_add (by omega)
  rw [a1, a2, a3]
  congr 1
  omega
theorem pk_note {n : Nat} (h : n / 8192 % 2 = 0) (hn : n < 2 ^ 31) : nI n ||| 8192 = nI (n + 8192) := by
  rw [show (8192 : Int32) = nI 8192 by decide, nI_or]
  congr 1
  have e1 : n = 2 ^ 14 * (n / 16384) + n % 8192 := by omega
  have e2 : n ||| 8192 = 2 ^ 14 * (n / 16384) + (n % 8192 + 1 * 2 ^ 13) := by
    rw [← or_add (a := 1) (b := n % 8192) (i := 13) (by omega), Nat.two_pow_add_eq_or_of_lt (by
      have : n % 8192 ||| 1 * 2 ^ 13 = n % 8192 + 1 * 2 ^ 13 := or_add (by omega)
      omega), ← Nat.or_assoc, ← Nat.two_pow_add_eq_or_of_lt (by omega), ← e1]
  rw [show (2 : Nat) ^ 14 = 16384 by decide, show 1 * 2 ^ 13 = 8192 by decide] at e2
  rw [e2]
  clear e2 e1
  omega
theorem pk_cell {n x : Nat} (hx : x < 8) (hn : n < 2 ^ 31) : (nI n &&& (-7169)) ||| (nI x <<< ((10 : Int32) &&& 31)) = nI (n - 1024 * (n / 1024 % 8) + 1024 * x) := by
  rw [nI_shl (s := 10) (by decide) (by decide), show (-7169 : Int32) = nI (2 ^ 32 - 7169) by decide, nI_and, nI_or]
  congr 1
  have d1 : n = 2 ^ 13 * (n / 8192) + (n / 1024 % 8 * 2 ^ 10 + n % 1024) := by omega
  have m1 : (2 ^ 32 - 7169 : Nat) = 2 ^ 13 * 524287 + 1023 := by decide
  have key : n &&& (2 ^ 32 - 7169) = 2 ^ 13 * (n / 8192) + n % 1024 := by
    apply Nat.eq_of_testBit_eq
    intro i
    have t1 : (2 ^ 32 - 7169 : Nat).testBit i = (2 ^ 13 * 524287 + 1023).testBit i := by rw [← m1]
    rw [Nat.testBit_and, t1, Nat.testBit_two_pow_mul_add _ (by decide), Nat.testBit_two_pow_mul_add _ (show n % 1024 < 2 ^ 13 by omega)]
    by_cases hi : i < 13
    · rw [if_pos hi, if_pos hi, show (1023 : Nat) = 2 ^ 10 - 1 by decide, Nat.testBit_two_pow_sub_one, show n % 1024 = n % 2 ^ 10 by rfl, Nat.testBit_mod_two_pow]
      exact Bool.and_comm _ _
    · rw [if_neg hi, if_neg hi, show (524287 : Nat) = 2 ^ 19 - 1 by decide, Nat.testBit_two_pow_sub_one, show n / 8192 = n / 2 ^ 13 by rfl, Nat.testBit_div_two_pow, show i - 13 + 13 = i by omega]
      by_cases h2 : i - 13 < 19
      · rw [decide_eq_true h2, Bool.and_true]
      · have : n.testBit i = false := Nat.testBit_lt_two_pow (Nat.lt_of_lt_of_le hn (Nat.pow_le_pow_right (by decide) (by omega)))
        rw [decide_eq_false h2, Bool.and_false, this]
  rw [key]
  have e3 : 2 ^ 13 * (n / 8192) + n % 1024 ||| x * 2 ^ 10 = 2 ^ 13 * (n / 8192) + (n % 1024 + x * 2 ^ 10) := by
    have o1 : n % 1024 ||| x * 2 ^ 10 = n % 1024 + x * 2 ^ 10 := or_add (by omega)
    rw [← o1, Nat.two_pow_add_eq_or_of_lt (show n % 1024 < 2 ^ 13 by omega), Nat.two_pow_add_eq_or_of_lt (by omega), Nat.or_assoc]
  omega
/-- phones, as bits -/
theorem bt_get : ∀ m, m < 1024 → ∀ p, p < 10 → ((Int64.ofNat m >>> ((nI p).toInt64 &&& 63)) &&& 1) = (if m.testBit p then 1 else 0) := by decide +kernel
theorem bt_set : ∀ m, m < 1024 → ∀ p, p < 10 → (Int64.ofNat m ||| (1 <<< ((nI p).toInt64 &&& 63))) = Int64.ofNat (m ||| 2 ^ p) ∧ (m ||| 2 ^ p) < 1024 := by decide +kernel
end PK
