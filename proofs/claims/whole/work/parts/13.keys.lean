/-! bytes of longs and of rows of longs; their order -/
def by_L (x : Int64) (j : Nat) : Nat := uN x / 2 ^ (56 - 8 * j) % 256
def by_w (w : Nat → Int64) (d : Nat) : Nat := by_L (w (d / 8)) (d % 8)
theorem by_L_lt (x : Int64) (j : Nat) : by_L x j < 256 := Nat.mod_lt _ (by omega)
/-- what stands ahead of byte j -/
def by_P (x : Int64) (j : Nat) : Nat := uN x / 2 ^ (64 - 8 * j)
theorem by_P_0 (x : Int64) : by_P x 0 = 0 := Nat.div_eq_of_lt (uN_lt x)
theorem by_P_8 (x : Int64) : by_P x 8 = uN x := by unfold by_P; rw [show 64 - 8 * 8 = 0 by omega, Nat.pow_zero, Nat.div_one]
theorem by_P_s (x : Int64) {j : Nat} (h : j < 8) : by_P x (j + 1) = 256 * by_P x j + by_L x j := by
  unfold by_P by_L
  have e : 2 ^ (64 - 8 * j) = 2 ^ (56 - 8 * j) * 256 := by
    rw [show 64 - 8 * j = (56 - 8 * j) + 8 by omega, Nat.pow_add]
  rw [e, ← Nat.div_div_eq_div_mul, show 64 - 8 * (j + 1) = 56 - 8 * j by omega]
  omega
theorem by_P_eq {x y : Int64} : ∀ (j : Nat), j ≤ 8 → ((∀ i, i < j → by_L x i = by_L y i) ↔ by_P x j = by_P y j) := by
  intro j
  induction j with
  | zero => intro _; exact ⟨fun _ => by rw [by_P_0, by_P_0], fun _ i h => by omega⟩
  | succ j ih =>
    intro hj
    have h1 := ih (by omega)
    have ex := by_P_s x (show j < 8 by omega)
    have ey := by_P_s y (show j < 8 by omega)
    have lx := by_L_lt x j
    have ly := by_L_lt y j
    constructor
    · intro h
      have h2 := h1.mp (fun i hi => h i (by omega))
      have h3 := h j (by omega)
      omega
    · intro h i hi
      have h2 : by_P x j = by_P y j := by omega
      by_cases h3 : i = j
      · subst h3; omega
      · exact h1.mpr h2 i (by omega)
theorem by_L_inj {x y : Int64} (h : ∀ i, i < 8 → by_L x i = by_L y i) : x = y := by
  have h1 := (by_P_eq 8 (Nat.le_refl _)).mp h
  rw [by_P_8, by_P_8] at h1
  exact uN_inj h1
theorem by_P_lt {x y : Int64} {j : Nat} (hj : j < 8) (he : ∀ i, i < j → by_L x i = by_L y i) (hlt : by_L x j < by_L y j) : uN x < uN y := by
  have h0 := (by_P_eq j (by omega)).mp he
  have key : ∀ n, j + 1 + n ≤ 8 → by_P x (j + 1 + n) < by_P y (j + 1 + n) := by
    intro n
    induction n with
    | zero => intro _; show by_P x (j + 1) < by_P y (j + 1); rw [by_P_s x hj, by_P_s y hj]; omega
    | succ n ih =>
      intro h
      have h1 := ih (by omega)
      have h2 := by_P_s x (show j + 1 + n < 8 by omega)
      have h3 := by_P_s y (show j + 1 + n < 8 by omega)
      have h4 := by_L_lt x (j + 1 + n)
      have h5 := by_L_lt y (j + 1 + n)
      rw [show j + 1 + (n + 1) = j + 1 + n + 1 by omega, h2, h3]
      omega
  have h1 := key (7 - j) (by omega)
  rw [show j + 1 + (7 - j) = 8 by omega, by_P_8, by_P_8] at h1
  exact h1
/-! rows of n longs -/
def kw_eq (n : Nat) (a b : Nat → Int64) : Prop := ∀ j, j < n → a j = b j
def kw_lt (n : Nat) (a b : Nat → Int64) : Prop := ∃ i, i < n ∧ (∀ j, j < i → a j = b j) ∧ uN (a i) < uN (b i)
theorem kw_irr {n : Nat} {a b : Nat → Int64} (h : kw_eq n a b) : ¬ kw_lt n a b := fun ⟨i, h1, _, h3⟩ => by rw [h i h1] at h3; omega
theorem kw_trans {n : Nat} {a b c : Nat → Int64} (h1 : kw_lt n a b) (h2 : kw_lt n b c) : kw_lt n a c := by
  obtain ⟨i, a1, a2, a3⟩ := h1
  obtain ⟨j, b1, b2, b3⟩ := h2
  rcases Nat.lt_trichotomy i j with h | h | h
  · exact ⟨i, a1, fun q hq => by rw [a2 q hq, b2 q (by omega)], by rw [← b2 i h]; exact a3⟩
  · subst h; exact ⟨i, a1, fun q hq => by rw [a2 q hq, b2 q hq], by omega⟩
  · exact ⟨j, b1, fun q hq => by rw [a2 q (by omega), b2 q hq], by rw [a2 j h]; exact b3⟩
theorem kw_asym {n : Nat} {a b : Nat → Int64} (h1 : kw_lt n a b) (h2 : kw_lt n b a) : False := kw_irr (fun _ _ => rfl) (kw_trans h1 h2)
theorem kw_tri (n : Nat) (a b : Nat → Int64) : kw_lt n a b ∨ kw_eq n a b ∨ kw_lt n b a := by
  induction n with
  | zero => exact Or.inr (Or.inl fun j h => by omega)
  | succ n ih =>
    rcases ih with ⟨i, h1, h2, h3⟩ | h | ⟨i, h1, h2, h3⟩
    · exact Or.inl ⟨i, by omega, h2, h3⟩
    · rcases Nat.lt_trichotomy (uN (a n)) (uN (b n)) with h4 | h4 | h4
      · exact Or.inl ⟨n, by omega, h, h4⟩
      · refine Or.inr (Or.inl fun j hj => ?_)
        by_cases h5 : j = n
        · subst h5; exact uN_inj h4
        · exact h j (by omega)
      · exact Or.inr (Or.inr ⟨n, by omega, fun j hj => (h j hj).symm, h4⟩)
    · exact Or.inr (Or.inr ⟨i, by omega, h2, h3⟩)
theorem kw_lt_congr {n : Nat} {a b a2 b2 : Nat → Int64} (ha : kw_eq n a a2) (hb : kw_eq n b b2) (h : kw_lt n a b) : kw_lt n a2 b2 := by
  obtain ⟨i, h1, h2, h3⟩ := h
  exact ⟨i, h1, fun j hj => by rw [← ha j (by omega), ← hb j (by omega)]; exact h2 j hj, by rw [← ha i h1, ← hb i h1]; exact h3⟩
theorem kw_eq_trans {n : Nat} {a b c : Nat → Int64} (h1 : kw_eq n a b) (h2 : kw_eq n b c) : kw_eq n a c := fun j hj => (h1 j hj).trans (h2 j hj)
theorem kw_eq_symm {n : Nat} {a b : Nat → Int64} (h1 : kw_eq n a b) : kw_eq n b a := fun j hj => (h1 j hj).symm
theorem by_w_lt (w : Nat → Int64) (d : Nat) : by_w w d < 256 := by_L_lt _ _
theorem kw_bytes {n : Nat} {a b : Nat → Int64} : kw_eq n a b ↔ ∀ d, d < 8 * n → by_w a d = by_w b d := by
  constructor
  · intro h d hd; unfold by_w; rw [h (d / 8) (by omega)]
  · intro h j hj
    refine by_L_inj (fun i hi => ?_)
    have := h (8 * j + i) (by omega)
    unfold by_w at this
    rw [show (8 * j + i) / 8 = j by omega, show (8 * j + i) % 8 = i by omega] at this
    exact this
/-- the first byte in which they differ decides -/
theorem kw_lt_byte {n d : Nat} {a b : Nat → Int64} (hd : d < 8 * n) (he : ∀ i, i < d → by_w a i = by_w b i) (hlt : by_w a d < by_w b d) : kw_lt n a b := by
  refine ⟨d / 8, by omega, fun j hj => ?_, ?_⟩
  · refine by_L_inj (fun i hi => ?_)
    have := he (8 * j + i) (by omega)
    unfold by_w at this
    rw [show (8 * j + i) / 8 = j by omega, show (8 * j + i) % 8 = i by omega] at this
    exact this
  · refine by_P_lt (j := d % 8) (by omega) (fun i hi => ?_) hlt
    have := he (8 * (d / 8) + i) (by omega)
    unfold by_w at this
    rw [show (8 * (d / 8) + i) / 8 = d / 8 by omega, show (8 * (d / 8) + i) % 8 = i by omega] at this
    exact this
/-! how many leading bytes are shared, of 8 n -/
def sh_f (a b : Nat → Nat) : Nat → Nat → Nat
  | 0, d => d
  | k + 1, d => if a d = b d then sh_f a b k (d + 1) else d
def sh_w (n : Nat) (a b : Nat → Int64) : Nat := sh_f (by_w a) (by_w b) (8 * n) 0
theorem sh_f_spec (a b : Nat → Nat) : ∀ (k d : Nat), d ≤ sh_f a b k d ∧ sh_f a b k d ≤ d + k ∧ (∀ i, d ≤ i → i < sh_f a b k d → a i = b i) ∧ (sh_f a b k d < d + k → a (sh_f a b k d) ≠ b (sh_f a b k d)) := by
  intro k
  induction k with
  | zero => intro d; exact ⟨Nat.le_refl _, Nat.le_refl _, fun i h1 h2 => by simp only [sh_f] at h2; omega, fun h => by simp only [sh_f] at h; omega⟩
  | succ k ih =>
    intro d
    by_cases h : a d = b d
    · have e : sh_f a b (k + 1) d = sh_f a b k (d + 1) := by rw [sh_f, if_pos h]
      obtain ⟨h1, h2, h3, h4⟩ := ih (d + 1)
      rw [e]
      refine ⟨by omega, by omega, fun i q1 q2 => ?_, fun q => h4 (by omega)⟩
      by_cases h5 : i = d
      · rw [h5]; exact h
      · exact h3 i (by omega) q2
    · have e : sh_f a b (k + 1) d = d := by rw [sh_f, if_neg h]
      rw [e]
      exact ⟨Nat.le_refl _, by omega, fun i q1 q2 => by omega, fun _ => h⟩
theorem sh_w_le (n : Nat) (a b : Nat → Int64) : sh_w n a b ≤ 8 * n := by have := (sh_f_spec (by_w a) (by_w b) (8 * n) 0).2.1; unfold sh_w; omega
theorem sh_w_eq (n : Nat) (a b : Nat → Int64) : ∀ i, i < sh_w n a b → by_w a i = by_w b i := fun i hi => (sh_f_spec (by_w a) (by_w b) (8 * n) 0).2.2.1 i (Nat.zero_le _) hi
theorem sh_w_ne {n : Nat} {a b : Nat → Int64} (h : sh_w n a b < 8 * n) : by_w a (sh_w n a b) ≠ by_w b (sh_w n a b) := (sh_f_spec (by_w a) (by_w b) (8 * n) 0).2.2.2 (by unfold sh_w at h; omega)
theorem sh_w_is {n d : Nat} {a b : Nat → Int64} (hd : d < 8 * n) (he : ∀ i, i < d → by_w a i = by_w b i) (hne : by_w a d ≠ by_w b d) : sh_w n a b = d := by
  rcases Nat.lt_trichotomy (sh_w n a b) d with h | h | h
  · exact absurd (he _ h) (sh_w_ne (by omega))
  · exact h
  · exact absurd (sh_w_eq n a b d h) hne
theorem sh_w_full {n : Nat} {a b : Nat → Int64} : sh_w n a b = 8 * n ↔ kw_eq n a b := by
  rw [kw_bytes]
  constructor
  · intro h d hd; exact sh_w_eq n a b d (by omega)
  · intro h
    rcases Nat.lt_or_ge (sh_w n a b) (8 * n) with h1 | h1
    · exact absurd (h _ h1) (sh_w_ne h1)
    · have := sh_w_le n a b; omega
theorem sh_w_congr {n : Nat} {a b a2 b2 : Nat → Int64} (ha : kw_eq n a a2) (hb : kw_eq n b b2) : sh_w n a b = sh_w n a2 b2 := by
  have ha := kw_bytes.mp ha
  have hb := kw_bytes.mp hb
  rcases Nat.lt_or_ge (sh_w n a b) (8 * n) with h | h
  · refine (sh_w_is h (fun i hi => ?_) ?_).symm
    · rw [← ha i (by omega), ← hb i (by omega)]; exact sh_w_eq n a b i hi
    · rw [← ha _ h, ← hb _ h]; exact sh_w_ne h
  · have h1 : sh_w n a b = 8 * n := by have := sh_w_le n a b; omega
    rw [h1]
    refine (sh_w_full.mpr (kw_bytes.mpr fun d hd => ?_)).symm
    rw [← ha d hd, ← hb d hd]
    exact kw_bytes.mp (sh_w_full.mp h1) d hd
/-- words i before the first that differs, then the bytes ahead of its first difference -/
theorem sh_w_word {n i z : Nat} {a b : Nat → Int64} (hi : i < n) (he : ∀ j, j < i → a j = b j) (hz : z < 8) (h1 : by_P (a i) z = by_P (b i) z) (h2 : by_P (a i) (z + 1) ≠ by_P (b i) (z + 1)) : sh_w n a b = 8 * i + z := by
  refine sh_w_is (by omega) (fun d hd => ?_) ?_
  · unfold by_w
    by_cases h3 : d / 8 = i
    · rw [h3]
      exact (by_P_eq z (by omega)).mpr h1 (d % 8) (by omega)
    · rw [he (d / 8) (by omega)]
  · unfold by_w
    rw [show (8 * i + z) / 8 = i by omega, show (8 * i + z) % 8 = z by omega]
    intro h3
    apply h2
    refine (by_P_eq (z + 1) (by omega)).mp (fun q hq => ?_)
    by_cases h4 : q = z
    · rw [h4]; exact h3
    · exact (by_P_eq z (by omega)).mpr h1 q (by omega)
theorem by_P_xor {x y : Int64} {k : Nat} : uN (x ^^^ y) / 2 ^ k = 0 ↔ uN x / 2 ^ k = uN y / 2 ^ k := by
  have h1 : uN (x ^^^ y) = uN x ^^^ uN y := UInt64.toNat_xor _ _
  rw [h1, Nat.xor_div_two_pow]
  constructor
  · intro h
    apply Nat.eq_of_testBit_eq
    intro i
    have h2 := congrArg (fun t => Nat.testBit t i) h
    simp only [Nat.testBit_xor, Nat.zero_testBit] at h2
    revert h2
    cases Nat.testBit (uN x / 2 ^ k) i <;> cases Nat.testBit (uN y / 2 ^ k) i <;> simp
  · intro h; rw [h, Nat.xor_self]
/-! rows of bytes: the code's bytes, without the two zeros at its end, zeros behind it -/
def rw_b : List Nat → Nat → Nat
  | [], _ => 0
  | c :: L, d => if c = 0 then (if d = 0 then 0 else if d = 1 then 255 else rw_b L (d - 2)) else (if d = 0 then c else rw_b L (d - 1))
def rw_n : List Nat → Nat
  | [] => 0
  | c :: L => (if c = 0 then 2 else 1) + rw_n L
def rw_ok (L : List Nat) : Prop := ∀ c, c ∈ L → c < 256
theorem rw_n_le (L : List Nat) : L.length ≤ rw_n L ∧ rw_n L ≤ 2 * L.length := by
  induction L with
  | nil => exact ⟨Nat.le_refl _, Nat.le_refl _⟩
  | cons c L ih => rw [rw_n, List.length_cons]; split <;> omega
theorem rw_b_far (L : List Nat) : ∀ d, rw_n L ≤ d → rw_b L d = 0 := by
  induction L with
  | nil => intro d _; rfl
  | cons c L ih =>
    intro d hd
    rw [rw_n] at hd
    rw [rw_b]
    by_cases h : c = 0
    · rw [if_pos h] at hd ⊢
      rw [if_neg (by omega), if_neg (by omega)]
      exact ih _ (by omega)
    · rw [if_neg h] at hd ⊢
      rw [if_neg (by omega)]
      exact ih _ (by omega)
theorem rw_b_last (L : List Nat) (h : L ≠ []) : rw_b L (rw_n L - 1) ≠ 0 := by
  induction L with
  | nil => exact absurd rfl h
  | cons c L ih =>
    rw [rw_n, rw_b]
    have hL := rw_n_le L
    by_cases h0 : c = 0
    · rw [if_pos h0, if_pos h0]
      cases L with
      | nil => rw [rw_n]; decide
      | cons x t =>
        have h1 := rw_n_le (x :: t)
        rw [List.length_cons] at h1
        rw [if_neg (by omega), if_neg (by omega), show 2 + rw_n (x :: t) - 1 - 2 = rw_n (x :: t) - 1 by omega]
        exact ih (by simp)
    · rw [if_neg h0, if_neg h0]
      cases L with
      | nil => rw [rw_n]; exact h0
      | cons x t =>
        have h1 := rw_n_le (x :: t)
        rw [List.length_cons] at h1
        rw [if_neg (by omega), show 1 + rw_n (x :: t) - 1 - 1 = rw_n (x :: t) - 1 by omega]
        exact ih (by simp)
theorem rw_b_0 (L : List Nat) (d : Nat) : rw_b (0 :: L) d = if d = 0 then 0 else if d = 1 then 255 else rw_b L (d - 2) := by
  show (if (0 : Nat) = 0 then _ else _) = _
  rw [if_pos rfl]
theorem rw_b_c {c : Nat} (h : ¬ c = 0) (L : List Nat) (d : Nat) : rw_b (c :: L) d = if d = 0 then c else rw_b L (d - 1) := by
  show (if c = 0 then _ else _) = _
  rw [if_neg h]
theorem rw_n_0 (L : List Nat) : rw_n (0 :: L) = 2 + rw_n L := rfl
theorem rw_n_c {c : Nat} (h : ¬ c = 0) (L : List Nat) : rw_n (c :: L) = 1 + rw_n L := by
  show (if c = 0 then 2 else 1) + _ = _
  rw [if_neg h]
theorem rw_n_add (L : List Nat) (c : Nat) : rw_n (L ++ [c]) = rw_n L + (if c = 0 then 2 else 1) := by
  induction L with
  | nil =>
    show (if c = 0 then 2 else 1) + 0 = 0 + _
    omega
  | cons x L ih =>
    show (if x = 0 then 2 else 1) + rw_n (L ++ [c]) = (if x = 0 then 2 else 1) + rw_n L + _
    rw [ih]; omega
theorem rw_b_add (L : List Nat) (c : Nat) : ∀ d, rw_b (L ++ [c]) d = if c = 0 then (if d = rw_n L + 1 then 255 else rw_b L d) else (if d = rw_n L then c else rw_b L d) := by
  induction L with
  | nil =>
    intro d
    show rw_b [c] d = if c = 0 then (if d = 0 + 1 then 255 else 0) else (if d = 0 then c else 0)
    by_cases h : c = 0
    · rw [if_pos h, h, rw_b_0]
      show (if d = 0 then 0 else if d = 1 then 255 else 0) = _
      by_cases h1 : d = 0
      · rw [if_pos h1, if_neg (by omega)]
      · rw [if_neg h1]
    · rw [if_neg h, rw_b_c h]
      rfl
  | cons x L ih =>
    intro d
    by_cases hx : x = 0
    · subst hx
      rw [List.cons_append, rw_b_0, rw_b_0, ih, rw_n_0]
      by_cases hc : c = 0
      · rw [if_pos hc, if_pos hc]
        by_cases h0 : d = 0
        · rw [if_pos h0, if_neg (show ¬ d = 2 + rw_n L + 1 by omega), if_pos h0]
        · by_cases h1 : d = 1
          · rw [if_neg h0, if_pos h1, if_neg (show ¬ d = 2 + rw_n L + 1 by omega), if_neg h0, if_pos h1]
          · rw [if_neg h0, if_neg h1, if_neg h0, if_neg h1]
            by_cases h3 : d - 2 = rw_n L + 1
            · rw [if_pos h3, if_pos (by omega)]
            · rw [if_neg h3, if_neg (by omega)]
      · rw [if_neg hc, if_neg hc]
        by_cases h0 : d = 0
        · rw [if_pos h0, if_neg (show ¬ d = 2 + rw_n L by omega), if_pos h0]
        · by_cases h1 : d = 1
          · rw [if_neg h0, if_pos h1, if_neg (show ¬ d = 2 + rw_n L by omega), if_neg h0, if_pos h1]
          · rw [if_neg h0, if_neg h1, if_neg h0, if_neg h1]
            by_cases h3 : d - 2 = rw_n L
            · rw [if_pos h3, if_pos (by omega)]
            · rw [if_neg h3, if_neg (by omega)]
    · rw [List.cons_append, rw_b_c hx, rw_b_c hx, ih, rw_n_c hx]
      by_cases hc : c = 0
      · rw [if_pos hc, if_pos hc]
        by_cases h0 : d = 0
        · rw [if_pos h0, if_neg (show ¬ d = 1 + rw_n L + 1 by omega), if_pos h0]
        · rw [if_neg h0, if_neg h0]
          by_cases h3 : d - 1 = rw_n L + 1
          · rw [if_pos h3, if_pos (by omega)]
          · rw [if_neg h3, if_neg (by omega)]
      · rw [if_neg hc, if_neg hc]
        by_cases h0 : d = 0
        · rw [if_pos h0, if_neg (show ¬ d = 1 + rw_n L by omega), if_pos h0]
        · rw [if_neg h0, if_neg h0]
          by_cases h3 : d - 1 = rw_n L
          · rw [if_pos h3, if_pos (by omega)]
          · rw [if_neg h3, if_neg (by omega)]
/-- the order of rows -/
def rw_lt : List Nat → List Nat → Prop
  | _, [] => False
  | [], _ :: _ => True
  | a :: L, b :: M => a < b ∨ (a = b ∧ rw_lt L M)
theorem rw_tri : ∀ (L M : List Nat), rw_lt L M ∨ L = M ∨ rw_lt M L := by
  intro L
  induction L with
  | nil => intro M; cases M with
    | nil => exact Or.inr (Or.inl rfl)
    | cons b M => exact Or.inl trivial
  | cons a L ih =>
    intro M
    cases M with
    | nil => exact Or.inr (Or.inr trivial)
    | cons b M =>
      rcases Nat.lt_trichotomy a b with h | h | h
      · exact Or.inl (Or.inl h)
      · subst h
        rcases ih M with h1 | h1 | h1
        · exact Or.inl (Or.inr ⟨rfl, h1⟩)
        · exact Or.inr (Or.inl (by rw [h1]))
        · exact Or.inr (Or.inr (Or.inr ⟨rfl, h1⟩))
      · exact Or.inr (Or.inr (Or.inl h))
/-- a lesser row's code is less in the first byte in which they differ, and that stands ahead of both codes' ends -/
theorem rw_first : ∀ (L M : List Nat), rw_lt L M → ∃ d, d < rw_n L + 2 ∧ d < rw_n M + 2 ∧ (∀ i, i < d → rw_b L i = rw_b M i) ∧ rw_b L d < rw_b M d := by
  intro L
  induction L with
  | nil =>
    intro M h
    cases M with
    | nil => exact h.elim
    | cons b M =>
      by_cases hb : b = 0
      · refine ⟨1, by rw [rw_n]; omega, by omega, fun i hi => ?_, ?_⟩
        · rw [rw_b, rw_b, if_pos hb, if_pos (by omega)]
        · rw [rw_b, rw_b, if_pos hb, if_neg (by omega), if_pos rfl]; omega
      · refine ⟨0, by omega, by omega, fun i hi => by omega, ?_⟩
        rw [rw_b, rw_b, if_neg hb, if_pos rfl]; omega
  | cons a L ih =>
    intro M h
    cases M with
    | nil => exact h.elim
    | cons b M =>
      rcases h with h | ⟨h, h2⟩
      · refine ⟨0, by omega, by omega, fun i hi => by omega, ?_⟩
        rw [rw_b, rw_b, if_neg (show ¬ b = 0 by omega), if_pos rfl]
        by_cases ha : a = 0
        · rw [if_pos ha, if_pos rfl]; omega
        · rw [if_neg ha, if_pos rfl]; exact h
      · subst h
        obtain ⟨d, h3, h4, h5, h6⟩ := ih M h2
        by_cases ha : a = 0
        · refine ⟨d + 2, by rw [rw_n, if_pos ha]; omega, by rw [rw_n, if_pos ha]; omega, fun i hi => ?_, ?_⟩
          · rw [rw_b, rw_b, if_pos ha, if_pos ha]
            by_cases h7 : i = 0
            · rw [if_pos h7, if_pos h7]
            · rw [if_neg h7, if_neg h7]
              by_cases h8 : i = 1
              · rw [if_pos h8, if_pos h8]
              · rw [if_neg h8, if_neg h8]; exact h5 _ (by omega)
          · rw [rw_b, rw_b, if_pos ha, if_pos ha, if_neg (by omega), if_neg (by omega), if_neg (by omega), if_neg (by omega)]
            exact h6
        · refine ⟨d + 1, by rw [rw_n, if_neg ha]; omega, by rw [rw_n, if_neg ha]; omega, fun i hi => ?_, ?_⟩
          · rw [rw_b, rw_b, if_neg ha, if_neg ha]
            by_cases h7 : i = 0
            · rw [if_pos h7, if_pos h7]
            · rw [if_neg h7, if_neg h7]; exact h5 _ (by omega)
          · rw [rw_b, rw_b, if_neg ha, if_neg ha, if_neg (by omega), if_neg (by omega)]
            exact h6
/-- L begins M just if M's code has L's letters' bytes -/
def rw_pre : List Nat → List Nat → Prop
  | [], _ => True
  | _ :: _, [] => False
  | a :: L, b :: M => a = b ∧ rw_pre L M
theorem rw_pre_bytes : ∀ (L M : List Nat), rw_pre L M ↔ ∀ d, d < rw_n L → rw_b L d = rw_b M d := by
  intro L
  induction L with
  | nil => intro M; exact ⟨fun _ d h => by rw [rw_n] at h; omega, fun _ => by cases M <;> trivial⟩
  | cons a L ih =>
    intro M
    cases M with
    | nil =>
      refine ⟨fun h => h.elim, fun h => ?_⟩
      by_cases ha : a = 0
      · have := h 1 (by rw [rw_n, if_pos ha]; omega)
        rw [rw_b, rw_b, if_pos ha, if_neg (by omega), if_pos rfl] at this
        exact absurd this (by omega)
      · have := h 0 (by rw [rw_n, if_neg ha]; omega)
        rw [rw_b, rw_b, if_neg ha, if_pos rfl] at this
        exact absurd this ha
    | cons b M =>
      constructor
      · intro ⟨h1, h2⟩ d hd
        subst h1
        have h3 := (ih M).mp h2
        rw [rw_n] at hd
        rw [rw_b, rw_b]
        by_cases ha : a = 0
        · rw [if_pos ha] at hd
          rw [if_pos ha, if_pos ha]
          by_cases h7 : d = 0
          · rw [if_pos h7, if_pos h7]
          · rw [if_neg h7, if_neg h7]
            by_cases h8 : d = 1
            · rw [if_pos h8, if_pos h8]
            · rw [if_neg h8, if_neg h8]; exact h3 _ (by omega)
        · rw [if_neg ha] at hd
          rw [if_neg ha, if_neg ha]
          by_cases h7 : d = 0
          · rw [if_pos h7, if_pos h7]
          · rw [if_neg h7, if_neg h7]; exact h3 _ (by omega)
      · intro h
        have h0 : a = b := by
          by_cases ha : a = 0
          · have := h 0 (by rw [rw_n, if_pos ha]; omega)
            rw [rw_b, rw_b, if_pos ha, if_pos rfl] at this
            by_cases hb : b = 0
            · omega
            · rw [if_neg hb, if_pos rfl] at this; omega
          · have := h 0 (by rw [rw_n, if_neg ha]; omega)
            rw [rw_b, rw_b, if_neg ha, if_pos rfl] at this
            by_cases hb : b = 0
            · rw [if_pos hb, if_pos rfl] at this; omega
            · rw [if_neg hb, if_pos rfl] at this; exact this
        subst h0
        refine ⟨rfl, (ih M).mpr fun d hd => ?_⟩
        by_cases ha : a = 0
        · have := h (d + 2) (by rw [rw_n, if_pos ha]; omega)
          rw [rw_b, rw_b, if_pos ha, if_pos ha, if_neg (by omega), if_neg (by omega), if_neg (by omega), if_neg (by omega)] at this
          exact this
        · have := h (d + 1) (by rw [rw_n, if_neg ha]; omega)
          rw [rw_b, rw_b, if_neg ha, if_neg ha, if_neg (by omega), if_neg (by omega)] at this
          exact this
