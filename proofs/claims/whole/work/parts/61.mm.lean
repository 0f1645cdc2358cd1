theorem ml_pre : ∀ (m m2 : Nat) (f g : Nat → Nat), rw_pre (ml f m) (ml g m2) ↔ m ≤ m2 ∧ ∀ k, k < m → f k = g k := by
  intro m
  induction m with
  | zero => intro m2 f g; exact ⟨fun _ => ⟨by omega, fun k hk => by omega⟩, fun _ => trivial⟩
  | succ m ih =>
    intro m2 f g
    cases m2 with
    | zero => exact ⟨fun h => h.elim, fun h => by have := h.1; omega⟩
    | succ m2 =>
      rw [ml, ml]
      constructor
      · intro h
        have h1 := (ih m2 _ _).mp h.2
        refine ⟨by omega, fun k hk => ?_⟩
        cases k with
        | zero => exact h.1
        | succ k => exact h1.2 k (by omega)
      · intro h
        exact ⟨h.2 0 (by omega), (ih m2 _ _).mpr ⟨by omega, fun k hk => h.2 (k + 1) (by omega)⟩⟩
theorem pre_sh {a b : Nat → Int64} {L M : List Nat} (hL : L.length ≤ 24) (ha : ∀ d, d < 56 → by_w a d = rw_b L d) (hb : ∀ d, d < 56 → by_w b d = rw_b M d) : rw_pre L M ↔ rw_n L ≤ sh_w 7 b a := by
  have nL := rw_n_le L
  rw [rw_pre_bytes]
  constructor
  · intro h
    rcases Nat.lt_or_ge (sh_w 7 b a) (rw_n L) with h1 | h1
    · exfalso
      have h2 := sh_w_ne (n := 7) (a := b) (b := a) (by omega)
      rw [ha _ (by omega), hb _ (by omega)] at h2
      exact h2 (h _ h1).symm
    · exact h1
  · intro h d hd
    have h2 := sh_w_eq 7 b a d (by omega)
    rw [ha _ (by omega), hb _ (by omega)] at h2
    exact h2.symm
theorem ob_one {w n q q2 : Nat} {Rw : Nat → Nat → Int64} {kf : Nat → Int64} (h : ob_isb w n Rw kf q) (h2 : ob_isb w n Rw kf q2) : q = q2 := by
  rcases Nat.lt_trichotomy q q2 with h1 | h1 | h1
  · exact absurd (h2.2.1 q h1) (h.2.2 q (Nat.le_refl _) (by have := h2.1; omega))
  · exact h1
  · exact absurd (h.2.1 q2 h1) (h2.2.2 q2 (Nat.le_refl _) (by have := h.1; omega))
