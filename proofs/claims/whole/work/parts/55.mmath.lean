/-! the reference's keys: numbers, pairs, letters; their words -/
def ml (f : Nat → Nat) : Nat → List Nat
  | 0 => []
  | m + 1 => f 0 :: ml (fun k => f (k + 1)) m
theorem ml_len : ∀ (m : Nat) (f : Nat → Nat), (ml f m).length = m := by
  intro m
  induction m with
  | zero => intro f; rfl
  | succ m ih => intro f; rw [ml, List.length_cons, ih]
theorem ml_add : ∀ (m : Nat) (f : Nat → Nat), ml f (m + 1) = ml f m ++ [f m] := by
  intro m
  induction m with
  | zero => intro f; rfl
  | succ m ih => intro f; rw [ml, ih, ml, List.cons_append]
theorem ml_congr : ∀ (m : Nat) (f g : Nat → Nat), (∀ k, k < m → f k = g k) → ml f m = ml g m := by
  intro m
  induction m with
  | zero => intro f g _; rfl
  | succ m ih => intro f g h; rw [ml, ml, h 0 (by omega), ih _ (fun k => g (k + 1)) (fun k hk => h (k + 1) (by omega))]
theorem ml_get : ∀ (m : Nat) (f : Nat → Nat) (k : Nat), k < m → (ml f m).getD k 0 = f k := by
  intro m
  induction m with
  | zero => intro f k hk; omega
  | succ m ih =>
    intro f k hk
    rw [ml]
    cases k with
    | zero => rfl
    | succ k => exact ih (fun k => f (k + 1)) k (by omega)
theorem ml_lt1 : ∀ (k m m2 : Nat) (f g : Nat → Nat), (∀ j, j < k → f j = g j) → k < m → k < m2 → f k < g k → rw_lt (ml f m) (ml g m2) := by
  intro k
  induction k with
  | zero =>
    intro m m2 f g _ h1 h2 h3
    cases m with
    | zero => omega
    | succ m => cases m2 with
      | zero => omega
      | succ m2 => exact Or.inl h3
  | succ k ih =>
    intro m m2 f g h h1 h2 h3
    cases m with
    | zero => omega
    | succ m => cases m2 with
      | zero => omega
      | succ m2 => exact Or.inr ⟨h 0 (by omega), ih m m2 _ (fun k => g (k + 1)) (fun j hj => h (j + 1) (by omega)) (by omega) (by omega) h3⟩
theorem ml_lt2 : ∀ (m m2 : Nat) (f g : Nat → Nat), (∀ j, j < m → f j = g j) → m < m2 → rw_lt (ml f m) (ml g m2) := by
  intro m
  induction m with
  | zero =>
    intro m2 f g _ h
    cases m2 with
    | zero => omega
    | succ m2 => trivial
  | succ m ih =>
    intro m2 f g h h2
    cases m2 with
    | zero => omega
    | succ m2 => exact Or.inr ⟨h 0 (by omega), ih m2 _ (fun k => g (k + 1)) (fun j hj => h (j + 1) (by omega)) (by omega)⟩
/-- the letters of key x -/
def mk_let (p3 p4 : Nat → Int32) (x : Nat) : List Nat := ml (fun k => (p3 (24 * x + k)).toInt.toNat) (p4 x).toInt.toNat
/-- w are the words of key x -/
def KR (sg : Int) (p1 p2 : Nat → Int64) (p3 p4 : Nat → Int32) (x : Nat) (w : Nat → Int64) : Prop :=
  (sg = 0 ∧ w 0 = p1 x ^^^ (-9223372036854775808)) ∨ (sg = 1 ∧ w 0 = p1 x ^^^ (-9223372036854775808) ∧ w 1 = p2 x ^^^ (-9223372036854775808)) ∨
  (sg = 2 ∧ (∀ d, d < 56 → by_w w d = rw_b (mk_let p3 p4 x) d) ∧ 0 ≤ (p4 x).toInt ∧ (p4 x).toInt ≤ 24 ∧ ∀ k, k < (p4 x).toInt.toNat → 0 ≤ (p3 (24 * x + k)).toInt ∧ (p3 (24 * x + k)).toInt ≤ 255)
theorem kr_rows {u v : Nat → Int64} {L M : List Nat} (hL : L.length ≤ 24) (hM : M.length ≤ 24) (hu : ∀ d, d < 56 → by_w u d = rw_b L d) (hv : ∀ d, d < 56 → by_w v d = rw_b M d) : (kw_lt 7 u v ↔ rw_lt L M) ∧ (kw_eq 7 u v ↔ L = M) := by
  have nL := rw_n_le L
  have nM := rw_n_le M
  have lt : ∀ (a b : Nat → Int64) (A B : List Nat), A.length ≤ 24 → B.length ≤ 24 → (∀ d, d < 56 → by_w a d = rw_b A d) → (∀ d, d < 56 → by_w b d = rw_b B d) → rw_lt A B → kw_lt 7 a b := fun a b A B hA hB ha hb h => by
    have n1 := rw_n_le A
    obtain ⟨d, h1, h2, h3, h4⟩ := rw_first A B h
    exact kw_lt_byte (d := d) (by omega) (fun i hi => by rw [ha i (by omega), hb i (by omega)]; exact h3 i hi) (by rw [ha d (by omega), hb d (by omega)]; exact h4)
  have eq : L = M → kw_eq 7 u v := fun h => kw_bytes.mpr fun d hd => by rw [hu d (by omega), hv d (by omega), h]
  rcases rw_tri L M with h | h | h
  · have h1 := lt u v L M hL hM hu hv h
    exact ⟨⟨fun _ => h, fun _ => h1⟩, ⟨fun h2 => absurd h1 (kw_irr h2), fun h2 => absurd h1 (kw_irr (eq h2))⟩⟩
  · have h1 := eq h
    refine ⟨⟨fun h2 => absurd h2 (kw_irr h1), fun h2 => ?_⟩, ⟨fun _ => h, fun _ => h1⟩⟩
    have := lt u v L M hL hM hu hv h2
    exact absurd this (kw_irr h1)
  · have h1 := lt v u M L hM hL hv hu h
    refine ⟨⟨fun h2 => (kw_asym h1 h2).elim, fun h2 => (kw_asym h1 (lt u v L M hL hM hu hv h2)).elim⟩, ⟨fun h2 => absurd h1 (kw_irr (kw_eq_symm h2)), fun h2 => absurd h1 (kw_irr (kw_eq_symm (eq h2)))⟩⟩
theorem xorH {x y : Int64} : x ^^^ (-9223372036854775808) = y ^^^ (-9223372036854775808) ↔ x = y := by
  constructor
  · intro h
    have h1 := congrArg uN h
    rw [uN_xor, uN_xor] at h1
    have hx := uN_lt x
    have hy := uN_lt y
    exact uN_inj (by omega)
  · intro h; rw [h]
theorem xorL {x y : Int64} : uN (x ^^^ (-9223372036854775808)) < uN (y ^^^ (-9223372036854775808)) ↔ x.toInt < y.toInt := by
  have hx := uN_lt x
  have hy := uN_lt y
  rw [uN_xor, uN_xor, uN_int, uN_int]
  omega
theorem kr_num {u v : Nat → Int64} {a b : Int64} (hu : u 0 = a ^^^ (-9223372036854775808)) (hv : v 0 = b ^^^ (-9223372036854775808)) : (kw_lt 1 u v ↔ a.toInt < b.toInt) ∧ (kw_eq 1 u v ↔ a = b) := by
  constructor
  · constructor
    · intro ⟨i, h1, h2, h3⟩
      rw [show i = 0 by omega, hu, hv] at h3
      exact xorL.mp h3
    · intro h
      exact ⟨0, by omega, fun j hj => by omega, by rw [hu, hv]; exact xorL.mpr h⟩
  · constructor
    · intro h
      have := h 0 (by omega)
      rw [hu, hv] at this
      exact xorH.mp this
    · intro h j hj
      rw [show j = 0 by omega, hu, hv, h]
theorem kr_pair {u v : Nat → Int64} {a b a2 b2 : Int64} (hu : u 0 = a ^^^ (-9223372036854775808)) (hv : v 0 = b ^^^ (-9223372036854775808)) (hu2 : u 1 = a2 ^^^ (-9223372036854775808)) (hv2 : v 1 = b2 ^^^ (-9223372036854775808)) : (kw_lt 2 u v ↔ a.toInt < b.toInt ∨ (a = b ∧ a2.toInt < b2.toInt)) ∧ (kw_eq 2 u v ↔ a = b ∧ a2 = b2) := by
  constructor
  · constructor
    · intro ⟨i, h1, h2, h3⟩
      rcases (show i = 0 ∨ i = 1 by omega) with rfl | rfl
      · rw [hu, hv] at h3
        exact Or.inl (xorL.mp h3)
      · have h4 := h2 0 (by omega)
        rw [hu, hv] at h4
        rw [hu2, hv2] at h3
        exact Or.inr ⟨xorH.mp h4, xorL.mp h3⟩
    · rintro (h | ⟨h, h2⟩)
      · exact ⟨0, by omega, fun j hj => by omega, by rw [hu, hv]; exact xorL.mpr h⟩
      · exact ⟨1, by omega, fun j hj => by rw [show j = 0 by omega, hu, hv, h], by rw [hu2, hv2]; exact xorL.mpr h2⟩
  · constructor
    · intro h
      have h1 := h 0 (by omega)
      have h2 := h 1 (by omega)
      rw [hu, hv] at h1
      rw [hu2, hv2] at h2
      exact ⟨xorH.mp h1, xorH.mp h2⟩
    · intro ⟨h, h2⟩ j hj
      rcases (show j = 0 ∨ j = 1 by omega) with rfl | rfl
      · rw [hu, hv, h]
      · rw [hu2, hv2, h2]
/-- n rows by any numbering; q of them are below the key -/
def ob_isb (w n : Nat) (Rw : Nat → Nat → Int64) (kf : Nat → Int64) (q : Nat) : Prop := q ≤ n ∧ (∀ k, k < q → kw_lt w (Rw k) kf) ∧ ∀ k, q ≤ k → k < n → ¬ kw_lt w (Rw k) kf
def ob_srt (w n : Nat) (Rw : Nat → Nat → Int64) : Prop := ∀ a b, a < b → b < n → kw_lt w (Rw a) (Rw b)
theorem ob_up {w n md k : Nat} {Rw : Nat → Nat → Int64} {kf : Nat → Int64} (hs : ob_srt w n Rw) (hm : md < n) (h : kw_lt w (Rw md) kf) (hk : k ≤ md) : kw_lt w (Rw k) kf := by
  by_cases h1 : k = md
  · rw [h1]; exact h
  · exact kw_trans (hs k md (by omega) hm) h
theorem ob_dn {w n md k : Nat} {Rw : Nat → Nat → Int64} {kf : Nat → Int64} (hs : ob_srt w n Rw) (hk : k < n) (h : ¬ kw_lt w (Rw md) kf) (hm : md ≤ k) : ¬ kw_lt w (Rw k) kf := by
  by_cases h1 : k = md
  · rw [h1]; exact h
  · exact fun h2 => h (kw_trans (hs md k (by omega) hk) h2)
