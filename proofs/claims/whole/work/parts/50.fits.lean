/-! whether the last number of a row of numbers is a long -/
theorem fit_nat {W st : Nat} (hst : 1 ≤ st) : 2 * (W / 2 / st) * st ≤ W ∧ W - 2 * (W / 2 / st) * st < 2 * st ∧ W / st = 2 * (W / 2 / st) + (if st ≤ W - 2 * (W / 2 / st) * st then 1 else 0) := by
  have h1 := Nat.div_add_mod (W / 2) st
  have h2 := Nat.mod_lt (W / 2) (show 0 < st by omega)
  generalize hh : W / 2 / st = h at *
  generalize W / 2 % st = r at *
  have h3 : 2 * h * st = 2 * (st * h) := by rw [Nat.mul_assoc, Nat.mul_comm h st]
  have h4 : W = 2 * (st * h) + (2 * r + W % 2) := by omega
  have h5 : W - 2 * h * st = 2 * r + W % 2 := by omega
  refine ⟨by omega, by omega, ?_⟩
  rw [h5]
  by_cases hc : st ≤ 2 * r + W % 2
  · rw [if_pos hc]
    have h6 : W = st * (2 * h + 1) + (2 * r + W % 2 - st) := by
      have : st * (2 * h + 1) = 2 * (st * h) + st := by rw [Nat.mul_add, Nat.mul_one, ← Nat.mul_assoc, Nat.mul_comm st 2, Nat.mul_assoc]
      omega
    have h7 : W / st = (st * (2 * h + 1) + (2 * r + W % 2 - st)) / st := congrArg (· / st) h6
    rw [h7, bc_dv (by omega)]
  · rw [if_neg hc]
    have h6 : W = st * (2 * h) + (2 * r + W % 2) := by
      have : st * (2 * h) = 2 * (st * h) := by rw [← Nat.mul_assoc, Nat.mul_comm st 2, Nat.mul_assoc]
      omega
    have h7 : W / st = (st * (2 * h) + (2 * r + W % 2)) / st := congrArg (· / st) h6
    rw [h7, bc_dv (by omega), Nat.add_zero]
theorem uN_mod (x : Int64) : (uN x : Int) = x.toInt % 18446744073709551616 := by
  have h1 := uN_int x
  have h2 := uN_lt x
  by_cases hc : 2 * uN x < 18446744073709551616
  · rw [if_pos hc] at h1; omega
  · rw [if_neg hc] at h1; omega
theorem uN_subm (x y : Int64) : (uN (x - y) : Int) = (x.toInt - y.toInt) % 18446744073709551616 := by
  have h1 : (x - y).toInt = (x.toInt - y.toInt).bmod (2 ^ 64) := Int64.toInt_sub x y
  rw [uN_mod, h1, Int.bmod_def]
  omega
theorem uN_pos {x : Int64} (h : 0 ≤ x.toInt) : (uN x : Int) = x.toInt := by
  have h1 := uN_int x
  have h2 := uN_lt x
  by_cases hc : 2 * uN x < 18446744073709551616
  · rw [if_pos hc] at h1; omega
  · rw [if_neg hc] at h1; omega
theorem uN_neg {x : Int64} : x.toInt < 0 ↔ 9223372036854775808 ≤ uN x := by
  have h1 := uN_int x
  have h2 := uN_lt x
  by_cases hc : 2 * uN x < 18446744073709551616
  · rw [if_pos hc] at h1; omega
  · rw [if_neg hc] at h1; omega
theorem il_lt {x y : Int64} : x < y ↔ x.toInt < y.toInt := Int64.lt_iff_toInt_lt
theorem il_le {x y : Int64} : x ≤ y ↔ x.toInt ≤ y.toInt := Int64.le_iff_toInt_le
theorem il_rng (x : Int64) : -9223372036854775808 ≤ x.toInt ∧ x.toInt < 9223372036854775808 := by
  have h1 := uN_int x
  have h2 := uN_lt x
  by_cases hc : 2 * uN x < 18446744073709551616
  · rw [if_pos hc] at h1; omega
  · rw [if_neg hc] at h1; omega
/-- how far it is from a number up to the greatest -/
def ft_w (x : Int64) : Nat := (9223372036854775807 - x.toInt).toNat
def ft_ok (x st : Int64) (n : Int) : Prop := n - 1 ≤ ((ft_w x / uN st : Nat) : Int)
/-- how many places there are after i insertions, from nv on -/
def gw (nv : Nat) : Nat → Nat
  | 0 => nv
  | i + 1 => if i = gw nv i then 2 * gw nv i else gw nv i
theorem gw_le (nv : Nat) : ∀ a b, a ≤ b → gw nv a ≤ gw nv b := by
  intro a b
  induction b with
  | zero => intro h; rw [show a = 0 by omega]; exact Nat.le_refl _
  | succ b ih =>
    intro h
    by_cases h1 : a = b + 1
    · rw [h1]; exact Nat.le_refl _
    · have h2 := ih (by omega)
      rw [gw]
      split <;> omega
theorem gw_ge (nv : Nat) (i : Nat) : nv ≤ gw nv i := gw_le nv 0 i (Nat.zero_le _)
theorem gw_in {nv : Nat} (h : 1 ≤ nv) : ∀ i, i ≤ gw nv i := by
  intro i
  induction i with
  | zero => exact Nat.zero_le _
  | succ i ih =>
    have h1 := gw_ge nv i
    have h2 : gw nv (i + 1) = if i = gw nv i then 2 * gw nv i else gw nv i := rfl
    rw [h2]
    by_cases h3 : i = gw nv i
    · rw [if_pos h3]; omega
    · rw [if_neg h3]; omega
theorem gw_up {nv : Nat} : ∀ i, gw nv i ≤ nv ∨ gw nv i ≤ 2 * i := by
  intro i
  induction i with
  | zero => exact Or.inl (Nat.le_refl _)
  | succ i ih =>
    have h2 : gw nv (i + 1) = if i = gw nv i then 2 * gw nv i else gw nv i := rfl
    rw [h2]
    by_cases h3 : i = gw nv i
    · rw [if_pos h3]; omega
    · rw [if_neg h3]; omega
