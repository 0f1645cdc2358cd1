/-! what the walks of keys and tables need of numbers -/
theorem ia_pw {x y : Int32} {w : Nat} (hx : 0 ≤ x.toInt) (hy : y.toInt = (w : Int)) : x.toInt * y.toInt = ((x.toInt.toNat * w : Nat) : Int) := by
  rw [hy, Int.natCast_mul, Int.toNat_of_nonneg hx]
theorem ia_max {x y z : Int32} (e : z = if x < y then y else x) : z.toInt = if x.toInt < y.toInt then y.toInt else x.toInt := by
  rw [e]
  by_cases h : x < y
  · rw [if_pos h, if_pos (ic_lt.mp h)]
  · rw [if_neg h, if_neg (fun h2 => h (ic_lt.mpr h2))]
theorem ia_min {x y z : Int32} (e : z = if y < x then y else x) : z.toInt = if y.toInt < x.toInt then y.toInt else x.toInt := by
  rw [e]
  by_cases h : y < x
  · rw [if_pos h, if_pos (ic_lt.mp h)]
  · rw [if_neg h, if_neg (fun h2 => h (ic_lt.mpr h2))]
theorem ia_nI {x : Int32} {k : Nat} (h : x.toInt = (k : Int)) : x = nI k := ic_eq.mpr (by rw [h, nI_toInt (by have := ia_rng x; omega)])
theorem uN_sh (x : Int64) {sh : Int32} {k : Nat} (h : sh.toInt = (k : Int)) (hk : k < 64) : uN (x.toUInt64 >>> (sh.toInt64.toUInt64 &&& Int64.toUInt64 63)).toInt64 = uN x / 2 ^ k := by
  rw [ia_nI h]; exact uN_sk x hk
theorem uN_low {y : Int64} {z : Int32} (e : z = y.toInt32) : z.toInt % 256 = ((uN y % 256 : Nat) : Int) := by
  have h1 := uN_int y
  have h2 : z.toInt = y.toInt.bmod (2 ^ 32) := by rw [e]; exact Int64.toInt_toInt32 y
  rw [Int.bmod_def] at h2
  have h3 := uN_lt y
  by_cases hc : 2 * uN y < 18446744073709551616
  · rw [if_pos hc] at h1; omega
  · rw [if_neg hc] at h1; omega
theorem uN_0 : uN 0 = 0 := rfl
theorem uN_eq0 {x : Int64} : x = 0 ↔ uN x = 0 := ⟨fun h => by rw [h]; rfl, fun h => uN_inj (h.trans rfl)⟩
theorem uN_ltx (x y : Int64) : (x ^^^ (-9223372036854775808)) < (y ^^^ (-9223372036854775808)) ↔ uN x < uN y := by
  have hx := uN_lt x
  have hy := uN_lt y
  rw [Int64.lt_iff_toInt_lt, uN_int, uN_int, uN_xor, uN_xor]
  omega
def zb_ok (x : Int64) (z : Nat) : Prop := z ≤ 7 ∧ (∀ k, k < z → uN x / 2 ^ (56 - 8 * k) = 0) ∧ (z < 7 → uN x / 2 ^ (56 - 8 * z) ≠ 0)
theorem zb_P {a b D : Int64} {z : Nat} (e : D = a ^^^ b) (hne : ¬ D = 0) (h : zb_ok D z) : by_P a z = by_P b z ∧ by_P a (z + 1) ≠ by_P b (z + 1) := by
  obtain ⟨h1, h2, h3⟩ := h
  subst e
  constructor
  · cases z with
    | zero => rw [by_P_0, by_P_0]
    | succ z =>
      have := by_P_xor.mp (h2 z (by omega))
      unfold by_P
      rw [show 64 - 8 * (z + 1) = 56 - 8 * z by omega]
      exact this
  · intro h4
    unfold by_P at h4
    rw [show 64 - 8 * (z + 1) = 56 - 8 * z by omega] at h4
    have h5 := by_P_xor.mpr h4
    rcases Nat.lt_or_ge z 7 with h6 | h6
    · exact h3 h6 h5
    · rw [show 56 - 8 * z = 0 by omega, Nat.pow_zero, Nat.div_one] at h5
      exact hne (uN_eq0.mpr h5)
/-- row k of a table of codes -/
def kr (fc : Nat → Int64) (w k : Nat) : Nat → Int64 := fun j => fc (k * w + j)
/-- n rows in their order; q of them are below the key -/
def tb_srt (w n : Nat) (fc : Nat → Int64) : Prop := ∀ a b, a < b → b < n → kw_lt w (kr fc w a) (kr fc w b)
def tb_isb (w n : Nat) (fc kf : Nat → Int64) (q : Nat) : Prop := q ≤ n ∧ (∀ k, k < q → kw_lt w (kr fc w k) kf) ∧ ∀ k, q ≤ k → k < n → ¬ kw_lt w (kr fc w k) kf
theorem tb_isb_one {w n : Nat} {fc kf : Nat → Int64} {q q2 : Nat} (h : tb_isb w n fc kf q) (h2 : tb_isb w n fc kf q2) : q = q2 := by
  rcases Nat.lt_trichotomy q q2 with h3 | h3 | h3
  · exact absurd (h2.2.1 q h3) (h.2.2 q (Nat.le_refl _) (by have := h2.1; omega))
  · exact h3
  · exact absurd (h.2.1 q2 h3) (h2.2.2 q2 (Nat.le_refl _) (by have := h.1; omega))
theorem tb_up {w n : Nat} {fc kf : Nat → Int64} {md k : Nat} (hs : tb_srt w n fc) (hm : md < n) (h : kw_lt w (kr fc w md) kf) (hk : k ≤ md) : kw_lt w (kr fc w k) kf := by
  by_cases h1 : k = md
  · rw [h1]; exact h
  · exact kw_trans (hs k md (by omega) hm) h
theorem tb_dn {w n : Nat} {fc kf : Nat → Int64} {md k : Nat} (hs : tb_srt w n fc) (hk : k < n) (h : ¬ kw_lt w (kr fc w md) kf) (hm : md ≤ k) : ¬ kw_lt w (kr fc w k) kf := by
  by_cases h1 : k = md
  · rw [h1]; exact h
  · exact fun h2 => h (kw_trans (hs md k (by omega) hk) h2)
/-! a row's letters out of its bytes -/
theorem rw_take : ∀ (L : List Nat) (k : Nat), k < L.length → rw_b L (rw_n (L.take k)) = L.getD k 0 ∧ rw_n (L.take (k + 1)) = rw_n (L.take k) + (if L.getD k 0 = 0 then 2 else 1) ∧ rw_n (L.take (k + 1)) ≤ rw_n L := by
  intro L
  induction L with
  | nil => intro k hk; exact absurd hk (Nat.not_lt_zero _)
  | cons c L ih =>
    intro k hk
    cases k with
    | zero =>
      show rw_b (c :: L) 0 = c ∧ (if c = 0 then 2 else 1) + 0 = 0 + (if c = 0 then 2 else 1) ∧ (if c = 0 then 2 else 1) + 0 ≤ (if c = 0 then 2 else 1) + rw_n L
      refine ⟨?_, by omega, by omega⟩
      by_cases h : c = 0
      · rw [h, rw_b_0, if_pos rfl]
      · rw [rw_b_c h, if_pos rfl]
    | succ k =>
      obtain ⟨h1, h2, h3⟩ := ih k (by rw [List.length_cons] at hk; omega)
      show rw_b (c :: L) ((if c = 0 then 2 else 1) + rw_n (L.take k)) = L.getD k 0 ∧ (if c = 0 then 2 else 1) + rw_n (L.take (k + 1)) = (if c = 0 then 2 else 1) + rw_n (L.take k) + (if L.getD k 0 = 0 then 2 else 1) ∧ (if c = 0 then 2 else 1) + rw_n (L.take (k + 1)) ≤ (if c = 0 then 2 else 1) + rw_n L
      refine ⟨?_, by rw [h2]; omega, by omega⟩
      by_cases h : c = 0
      · rw [h, rw_b_0, if_pos rfl, if_neg (by omega), if_neg (by omega), show 2 + rw_n (L.take k) - 2 = rw_n (L.take k) by omega]; exact h1
      · rw [rw_b_c h, if_neg h, if_neg (by omega), show 1 + rw_n (L.take k) - 1 = rw_n (L.take k) by omega]; exact h1
theorem rw_num (L : List Nat) : ∀ n, rw_n L ≤ n → cb_num (fun d => decide (rw_b L d ≠ 0)) n = L.length := by
  have far : ∀ (f : Nat → Bool) (a m : Nat), (∀ d, a ≤ d → f d = false) → cb_num f (a + m) = cb_num f a := by
    intro f a m h
    induction m with
    | zero => rfl
    | succ m ih => rw [show a + (m + 1) = a + m + 1 by omega, cb_num, ih, h (a + m) (by omega), if_neg (by decide), Nat.add_zero]
  have shift : ∀ (f g : Nat → Bool) (a m : Nat), (∀ d, g d = f (a + d)) → cb_num f (a + m) = cb_num f a + cb_num g m := by
    intro f g a m h
    induction m with
    | zero => rfl
    | succ m ih => rw [show a + (m + 1) = a + m + 1 by omega, cb_num, cb_num, ih, h m, Nat.add_assoc]
  have main : ∀ L : List Nat, cb_num (fun d => decide (rw_b L d ≠ 0)) (rw_n L) = L.length := by
    intro L
    induction L with
    | nil => rfl
    | cons c L ih =>
      by_cases h : c = 0
      · subst h
        rw [rw_n_0, shift _ (fun d => decide (rw_b L d ≠ 0)) 2 (rw_n L) (fun d => by
          show _ = decide (rw_b (0 :: L) (2 + d) ≠ 0)
          rw [rw_b_0, if_neg (by omega), if_neg (by omega), show 2 + d - 2 = d by omega]), ih, List.length_cons]
        have : cb_num (fun d => decide (rw_b (0 :: L) d ≠ 0)) 2 = 1 := by
          show 0 + (if decide (rw_b (0 :: L) 0 ≠ 0) = true then 1 else 0) + (if decide (rw_b (0 :: L) 1 ≠ 0) = true then 1 else 0) = 1
          rw [rw_b_0, rw_b_0, if_pos rfl, if_neg (show ¬ 1 = 0 by omega), if_pos rfl]
          decide
        omega
      · rw [rw_n_c h, shift _ (fun d => decide (rw_b L d ≠ 0)) 1 (rw_n L) (fun d => by
          show _ = decide (rw_b (c :: L) (1 + d) ≠ 0)
          rw [rw_b_c h, if_neg (by omega), show 1 + d - 1 = d by omega]), ih, List.length_cons]
        have : cb_num (fun d => decide (rw_b (c :: L) d ≠ 0)) 1 = 1 := by
          show 0 + (if decide (rw_b (c :: L) 0 ≠ 0) = true then 1 else 0) = 1
          rw [rw_b_c h, if_pos rfl, if_pos (by simpa using h)]
        omega
  intro n hn
  rw [show n = rw_n L + (n - rw_n L) by omega, far _ _ _ (fun d hd => by rw [rw_b_far L d hd]; rfl), main]
/-- the last byte that isn't 0 -/
theorem rw_end {L : List Nat} {kf : Nat → Int64} {z N : Nat} (h : ∀ d, d < N → by_w kf d = rw_b L d) (hN : rw_n L ≤ N) (hz : z ≤ N) (h1 : ∀ d, z ≤ d → d < N → by_w kf d = 0) (h2 : 0 < z → by_w kf (z - 1) ≠ 0) : z = rw_n L := by
  rcases Nat.lt_trichotomy z (rw_n L) with h3 | h3 | h3
  · exfalso
    have hL : L ≠ [] := fun e => by rw [e, rw_n] at h3; omega
    have := rw_b_last L hL
    rw [← h _ (by omega)] at this
    exact this (h1 _ (by omega) (by omega))
  · exact h3
  · exfalso
    have := h2 (by omega)
    rw [h _ (by omega), rw_b_far L _ (by omega)] at this
    exact this rfl
