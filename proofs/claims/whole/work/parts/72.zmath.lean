def cz_s (E : Nat → Nat) : Nat → Nat
  | 0 => 0
  | j + 1 => cz_s E j + E j * bcell j
theorem cz_4 (E : Nat → Nat) : cz_s E 4 = E 0 * 9 + E 1 * 24 + E 2 * 116 + E 3 * 260 := by
  have h : cz_s E 4 = 0 + E 0 * bcell 0 + E 1 * bcell 1 + E 2 * bcell 2 + E 3 * bcell 3 := rfl
  rw [h, show bcell 0 = 9 from rfl, show bcell 1 = 24 from rfl, show bcell 2 = 116 from rfl, show bcell 3 = 260 from rfl, Nat.zero_add]
theorem bcell_le (s : Nat) : bcell s ≤ 260 := by
  unfold bcell
  split
  · omega
  · split
    · omega
    · split <;> omega
theorem cz_le {p : Nat → Bool} : ∀ n, cb_num p n ≤ n := by
  intro n
  induction n with
  | zero => exact Nat.le_refl _
  | succ n ih => rw [cb_num]; split <;> omega
