/-! a byte laid into a long -/
theorem uN_lN {n : Nat} (h : n < 18446744073709551616) : uN (lN n) = n := by
  show (BitVec.ofNat 64 n).toNat = n
  rw [BitVec.toNat_ofNat]
  exact Nat.mod_eq_of_lt h
theorem uN_shb {b sh : Int32} {k s : Nat} (hb : b.toInt = (k : Int)) (hk : k < 256) (hs : sh.toInt = (s : Int)) (hs2 : s ≤ 56) : uN (b.toInt64 <<< (sh.toInt64 &&& 63)) = k * 2 ^ s := by
  rw [ia_nI hb, ia_nI hs, nI_l (by omega), wb_shl k (by omega)]
  have h1 : 2 ^ s ≤ 2 ^ 56 := Nat.pow_le_pow_right (by omega) hs2
  have h2 : k * 2 ^ s ≤ 255 * 2 ^ 56 := Nat.mul_le_mul (by omega) h1
  exact uN_lN (by omega)
theorem by_or {x y z : Int64} {k r : Nat} (e : z = x ||| y) (hr : r < 8) (hk : k < 256) (hy : uN y = k * 2 ^ (56 - 8 * r)) (hx : by_L x r = 0) : ∀ j, j < 8 → by_L z j = if j = r then k else by_L x j := by
  intro j hj
  have hz : uN z = uN x ||| uN y := by rw [e]; exact UInt64.toNat_or _ _
  have tb : ∀ i, i < 8 → Nat.testBit (by_L z j) i = (Nat.testBit (uN x) (56 - 8 * j + i) || (decide (56 - 8 * r ≤ 56 - 8 * j + i) && Nat.testBit k (56 - 8 * j + i - (56 - 8 * r)))) := by
    intro i hi
    unfold by_L
    rw [show (256 : Nat) = 2 ^ 8 from rfl, Nat.testBit_mod_two_pow, decide_eq_true hi, Bool.true_and, Nat.testBit_div_two_pow, hz, hy, Nat.testBit_or, Nat.testBit_mul_two_pow, Nat.add_comm i]
  have big : ∀ i, 8 ≤ i → Nat.testBit k i = false := fun i hi => Nat.testBit_lt_two_pow (Nat.lt_of_lt_of_le (show k < 2 ^ 8 from hk) (Nat.pow_le_pow_right (by omega) hi))
  have tx : ∀ q i, i < 8 → Nat.testBit (by_L x q) i = Nat.testBit (uN x) (56 - 8 * q + i) := by
    intro q i hi
    unfold by_L
    rw [show (256 : Nat) = 2 ^ 8 from rfl, Nat.testBit_mod_two_pow, decide_eq_true hi, Bool.true_and, Nat.testBit_div_two_pow, Nat.add_comm i]
  have high : ∀ (v : Int64) q i, 8 ≤ i → Nat.testBit (by_L v q) i = false := fun v q i hi => Nat.testBit_lt_two_pow (Nat.lt_of_lt_of_le (show by_L v q < 2 ^ 8 from by_L_lt v q) (Nat.pow_le_pow_right (by omega) hi))
  apply Nat.eq_of_testBit_eq
  intro i
  by_cases hi : i < 8
  · rw [tb i hi]
    by_cases hjr : j = r
    · subst hjr
      rw [if_pos rfl, ← tx j i hi, hx, Nat.zero_testBit, Bool.false_or, decide_eq_true (by omega), Bool.true_and, show 56 - 8 * j + i - (56 - 8 * j) = i by omega]
    · rw [if_neg hjr, tx j i hi]
      by_cases h1 : 56 - 8 * r ≤ 56 - 8 * j + i
      · rw [big (56 - 8 * j + i - (56 - 8 * r)) (by omega), Bool.and_false, Bool.or_false]
      · rw [decide_eq_false h1, Bool.false_and, Bool.or_false]
  · rw [high z j i (by omega)]
    by_cases hjr : j = r
    · rw [if_pos hjr, big i (by omega)]
    · rw [if_neg hjr, high x j i (by omega)]
