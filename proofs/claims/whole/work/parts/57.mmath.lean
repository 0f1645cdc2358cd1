/-! the reference's memory: rows of keys, places taken and free -/
def kset (KW : Nat → Nat → Int64) (t : Nat) (v : Nat → Int64) : Nat → Nat → Int64 := fun y => if y = t then v else KW y
theorem kset_at (KW : Nat → Nat → Int64) (t : Nat) (v : Nat → Int64) : kset KW t v t = v := by unfold kset; rw [if_pos rfl]
theorem kset_ne (KW : Nat → Nat → Int64) (t : Nat) (v : Nat → Int64) {y : Nat} (h : ¬ y = t) : kset KW t v y = KW y := by unfold kset; rw [if_neg h]
def KRs (sg : Int) (p1 p2 : Nat → Int64) (p3 p4 : Nat → Int32) (KW : Nat → Nat → Int64) : Prop := ∀ x, x < 1503 → KR sg p1 p2 p3 p4 x (KW x)
theorem kr_at {sg : Int} {p1 p2 r1 r2 : Nat → Int64} {p3 p4 r3 r4 : Nat → Int32} {x y : Nat} {w : Nat → Int64} (h : KR sg p1 p2 p3 p4 x w) (h1 : r1 y = p1 x) (h2 : r2 y = p2 x) (h4 : r4 y = p4 x) (h3 : ∀ k, k < 24 → r3 (24 * y + k) = p3 (24 * x + k)) : KR sg r1 r2 r3 r4 y w := by
  rcases h with h | h | h
  · exact Or.inl ⟨h.1, by rw [h1]; exact h.2⟩
  · exact Or.inr (Or.inl ⟨h.1, by rw [h1]; exact h.2.1, by rw [h2]; exact h.2.2⟩)
  · obtain ⟨a1, a2, a3, a4, a5⟩ := h
    refine Or.inr (Or.inr ⟨a1, fun d hd => ?_, by rw [h4]; exact a3, by rw [h4]; exact a4, fun k hk => ?_⟩)
    · rw [a2 d hd]
      unfold mk_let
      rw [h4]
      congr 1
      exact ml_congr _ _ _ (fun k hk => by rw [h3 k (by omega)])
    · rw [h4] at hk
      rw [h3 k (by omega)]
      exact a5 k hk
theorem kr_first {sg : Int} {p1 p2 : Nat → Int64} {p3 p4 : Nat → Int32} {x : Nat} (hs : sg = 0 ∨ sg = 1 ∨ sg = 2) (h1 : p1 x = 0) (h2 : p2 x = 0) (h4 : (p4 x).toInt = 0) : KR sg p1 p2 p3 p4 x (fun _ => if sg = 2 then 0 else -9223372036854775808) := by
  rcases hs with h | h | h
  · exact Or.inl ⟨h, by rw [h1, if_neg (by omega)]; decide⟩
  · exact Or.inr (Or.inl ⟨h, by rw [h1, if_neg (by omega)]; decide, by rw [h2, if_neg (by omega)]; decide⟩)
  · refine Or.inr (Or.inr ⟨h, fun d hd => ?_, by omega, by omega, fun k hk => by omega⟩)
    unfold mk_let
    rw [show (p4 x).toInt.toNat = 0 by omega, if_pos h]
    show by_w (fun _ => 0) d = 0
    unfold by_w by_L
    rw [uN_0, Nat.zero_div]
def sl (n : Nat) (p6 p7 : Nat → Int32) (i : Nat) : Int32 := if i < n then p6 i else p7 (1499 - i)
def MI (n : Nat) (p6 p7 : Nat → Int32) : Prop := (∀ k, k < n → 0 ≤ (p6 k).toInt ∧ (p6 k).toInt < 1500) ∧ (∀ k, k < 1500 - n → 0 ≤ (p7 k).toInt ∧ (p7 k).toInt < 1500) ∧ ∀ i j, i < 1500 → j < 1500 → sl n p6 p7 i = sl n p6 p7 j → i = j
theorem mi_any {n : Nat} {p6 p7 : Nat → Int32} (hn : n ≤ 1500) (h : MI n p6 p7) : ∀ i, i < 1500 → 0 ≤ (sl n p6 p7 i).toInt ∧ (sl n p6 p7 i).toInt < 1500 := by
  intro i hi
  unfold sl
  by_cases h1 : i < n
  · rw [if_pos h1]; exact h.1 i h1
  · rw [if_neg h1]; exact h.2.1 _ (by omega)
theorem mi_sig {n n2 : Nat} {p6 p7 r6 r7 : Nat → Int32} (hn : n ≤ 1500) (hn2 : n2 ≤ 1500) (g : Nat → Nat) (h : MI n p6 p7) (h1 : ∀ i, i < 1500 → g i < 1500 ∧ sl n2 r6 r7 i = sl n p6 p7 (g i)) (h2 : ∀ i j, i < 1500 → j < 1500 → g i = g j → i = j) : MI n2 r6 r7 := by
  have ha := mi_any hn h
  refine ⟨fun k hk => ?_, fun k hk => ?_, fun i j hi hj he => ?_⟩
  · have h5 := h1 k (by omega)
    have h6 : sl n2 r6 r7 k = r6 k := by unfold sl; rw [if_pos hk]
    rw [← h6, h5.2]
    exact ha _ h5.1
  · have h5 := h1 (1499 - k) (by omega)
    have h6 : sl n2 r6 r7 (1499 - k) = r7 k := by unfold sl; rw [if_neg (by omega)]; congr 1; omega
    rw [← h6, h5.2]
    exact ha _ h5.1
  · have h5 := h1 i hi
    have h6 := h1 j hj
    rw [h5.2, h6.2] at he
    exact h2 i j hi hj (h.2.2 _ _ h5.1 h6.1 he)
theorem mi_del {n pl : Nat} {p6 p7 r6 r7 : Nat → Int32} (hn : n ≤ 1500) (hpl : pl < n) (h : MI n p6 p7) (h6 : ∀ k, k < n - 1 → r6 k = if k < pl then p6 k else p6 (k + 1)) (h7 : ∀ k, r7 k = if k = 1500 - n then p6 pl else p7 k) : MI (n - 1) r6 r7 := by
  refine mi_sig hn (by omega) (fun i => if i < pl then i else if i < n - 1 then i + 1 else if i = n - 1 then pl else i) h (fun i hi => ?_) (fun i j hi hj he => ?_)
  · by_cases c1 : i < pl
    · simp only [if_pos c1]
      refine ⟨hi, ?_⟩
      unfold sl
      rw [if_pos (show i < n - 1 by omega), if_pos (show i < n by omega), h6 i (by omega), if_pos c1]
    · simp only [if_neg c1]
      by_cases c2 : i < n - 1
      · simp only [if_pos c2]
        refine ⟨by omega, ?_⟩
        unfold sl
        rw [if_pos c2, if_pos (show i + 1 < n by omega), h6 i c2, if_neg c1]
      · simp only [if_neg c2]
        by_cases c3 : i = n - 1
        · simp only [if_pos c3]
          refine ⟨by omega, ?_⟩
          unfold sl
          rw [if_neg c2, if_pos hpl, h7, if_pos (by omega)]
        · simp only [if_neg c3]
          refine ⟨hi, ?_⟩
          unfold sl
          rw [if_neg c2, if_neg (by omega), h7, if_neg (by omega)]
  · (repeat' split at he) <;> omega
theorem mi_ins {n pl : Nat} {p6 p7 r6 : Nat → Int32} (hn : n < 1500) (hpl : pl ≤ n) (h : MI n p6 p7) (h6 : ∀ k, k < n + 1 → r6 k = if k < pl then p6 k else if k = pl then p7 (1499 - n) else p6 (k - 1)) : MI (n + 1) r6 p7 := by
  refine mi_sig (by omega) (by omega) (fun i => if i < pl then i else if i = pl then n else if i < n + 1 then i - 1 else i) h (fun i hi => ?_) (fun i j hi hj he => ?_)
  · by_cases c1 : i < pl
    · simp only [if_pos c1]
      refine ⟨hi, ?_⟩
      unfold sl
      rw [if_pos (show i < n + 1 by omega), if_pos (show i < n by omega), h6 i (by omega), if_pos c1]
    · simp only [if_neg c1]
      by_cases c2 : i = pl
      · simp only [if_pos c2]
        refine ⟨by omega, ?_⟩
        unfold sl
        rw [if_pos (show i < n + 1 by omega), if_neg (show ¬ n < n by omega), h6 i (by omega), if_neg c1, if_pos c2]
      · simp only [if_neg c2]
        by_cases c3 : i < n + 1
        · simp only [if_pos c3]
          refine ⟨by omega, ?_⟩
          unfold sl
          rw [if_pos c3, if_pos (by omega), h6 i c3, if_neg c1, if_neg c2]
        · simp only [if_neg c3]
          refine ⟨hi, ?_⟩
          unfold sl
          rw [if_neg c3, if_neg (by omega)]
  · (repeat' split at he) <;> omega
