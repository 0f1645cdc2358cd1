/-! what measure leaves; the set of lengths that depthOf gathers -/
def sh_ok (w : Nat) (fc : Nat → Int64) (n : Nat) (fb : Nat → Int32) (dp rt : Int32) : Prop := (∀ j, j < 4 → (fb j).toInt = ((cb_end (tb_gap w fc) (n - 1)).2.1 j : Int)) ∧ dp.toInt = ((cb_end (tb_gap w fc) (n - 1)).1 : Int) ∧ rt.toInt = ((cb_end (tb_gap w fc) (n - 1)).2.2 : Int)
def dl_in (c : Nat → Nat) (q a v : Nat) : Prop := ∃ j, a ≤ j ∧ j < q ∧ c j = v ∧ ∀ i, j ≤ i → i < q → v ≤ c i
def dr_in (c : Nat → Nat) (q b v : Nat) : Prop := ∃ j, q ≤ j ∧ j < b ∧ c j = v ∧ ∀ i, q ≤ i → i ≤ j → v ≤ c i
/-- the least so far, M at first -/
def dm_ok (c : Nat → Nat) (M a b s : Nat) : Prop := (∀ j, a ≤ j → j < b → s ≤ c j) ∧ ((s = M ∧ b ≤ a) ∨ ∃ j, a ≤ j ∧ j < b ∧ c j = s)
theorem dl_step {c : Nat → Nat} {M q a s s2 : Nat} (ha : a < q) (hs : dm_ok c M (a + 1) q s) (hM : c a < M) (h2 : s2 = if c a < s then c a else s) : dm_ok c M a q s2 ∧ ∀ v, dl_in c q a v ↔ dl_in c q (a + 1) v ∨ v = s2 := by
  obtain ⟨h3, h4⟩ := hs
  by_cases hc : c a < s
  · rw [if_pos hc] at h2
    subst h2
    refine ⟨⟨fun j j1 j2 => ?_, Or.inr ⟨a, Nat.le_refl _, ha, rfl⟩⟩, fun v => ⟨fun ⟨j, a1, a2, a3, a4⟩ => ?_, fun h => ?_⟩⟩
    · by_cases h5 : j = a
      · rw [h5]; exact Nat.le_refl _
      · have := h3 j (by omega) j2; omega
    · by_cases h5 : j = a
      · exact Or.inr (by rw [← a3, h5])
      · exact Or.inl ⟨j, by omega, a2, a3, a4⟩
    · rcases h with ⟨j, a1, a2, a3, a4⟩ | h
      · exact ⟨j, by omega, a2, a3, a4⟩
      · refine ⟨a, Nat.le_refl _, ha, h.symm, fun i i1 i2 => ?_⟩
        rw [h]
        by_cases h5 : i = a
        · rw [h5]; exact Nat.le_refl _
        · have := h3 i (by omega) i2; omega
  · rw [if_neg hc] at h2
    subst h2
    have h6 : (s2 = M ∧ q ≤ a + 1) ∨ ∃ j, a + 1 ≤ j ∧ j < q ∧ c j = s2 := h4
    have h7 : s2 ≤ c a := by omega
    have h8 : ∃ j, a + 1 ≤ j ∧ j < q ∧ c j = s2 := by
      rcases h6 with ⟨h9, h10⟩ | h9
      · exfalso; omega
      · exact h9
    refine ⟨⟨fun j j1 j2 => ?_, Or.inr (by obtain ⟨j, a1, a2, a3⟩ := h8; exact ⟨j, by omega, a2, a3⟩)⟩, fun v => ⟨fun ⟨j, a1, a2, a3, a4⟩ => ?_, fun h => ?_⟩⟩
    · by_cases h5 : j = a
      · rw [h5]; exact h7
      · exact h3 j (by omega) j2
    · by_cases h5 : j = a
      · obtain ⟨x, b1, b2, b3⟩ := h8
        have h9 := a4 x (by omega) b2
        rw [h5] at a3
        refine Or.inr ?_
        omega
      · exact Or.inl ⟨j, by omega, a2, a3, a4⟩
    · rcases h with ⟨j, a1, a2, a3, a4⟩ | h
      · exact ⟨j, by omega, a2, a3, a4⟩
      · obtain ⟨x, b1, b2, b3⟩ := h8
        exact ⟨x, by omega, b2, by rw [h]; exact b3, fun i i1 i2 => by rw [h]; exact h3 i (by omega) i2⟩
theorem dr_step {c : Nat → Nat} {M q b s s2 : Nat} (hb : q ≤ b) (hs : dm_ok c M q b s) (hM : c b < M) (h2 : s2 = if c b < s then c b else s) : dm_ok c M q (b + 1) s2 ∧ ∀ v, dr_in c q (b + 1) v ↔ dr_in c q b v ∨ v = s2 := by
  obtain ⟨h3, h4⟩ := hs
  by_cases hc : c b < s
  · rw [if_pos hc] at h2
    subst h2
    refine ⟨⟨fun j j1 j2 => ?_, Or.inr ⟨b, hb, by omega, rfl⟩⟩, fun v => ⟨fun ⟨j, a1, a2, a3, a4⟩ => ?_, fun h => ?_⟩⟩
    · by_cases h5 : j = b
      · rw [h5]; exact Nat.le_refl _
      · have := h3 j j1 (by omega); omega
    · by_cases h5 : j = b
      · exact Or.inr (by rw [← a3, h5])
      · exact Or.inl ⟨j, a1, by omega, a3, a4⟩
    · rcases h with ⟨j, a1, a2, a3, a4⟩ | h
      · exact ⟨j, a1, by omega, a3, a4⟩
      · refine ⟨b, hb, by omega, h.symm, fun i i1 i2 => ?_⟩
        rw [h]
        by_cases h5 : i = b
        · rw [h5]; exact Nat.le_refl _
        · have := h3 i i1 (by omega); omega
  · rw [if_neg hc] at h2
    subst h2
    have h7 : s2 ≤ c b := by omega
    have h8 : ∃ j, q ≤ j ∧ j < b ∧ c j = s2 := by
      rcases h4 with ⟨h9, h10⟩ | h9
      · exfalso; omega
      · exact h9
    refine ⟨⟨fun j j1 j2 => ?_, Or.inr (by obtain ⟨j, a1, a2, a3⟩ := h8; exact ⟨j, a1, by omega, a3⟩)⟩, fun v => ⟨fun ⟨j, a1, a2, a3, a4⟩ => ?_, fun h => ?_⟩⟩
    · by_cases h5 : j = b
      · rw [h5]; exact h7
      · exact h3 j j1 (by omega)
    · by_cases h5 : j = b
      · obtain ⟨x, b1, b2, b3⟩ := h8
        have h9 := a4 x b1 (by omega)
        rw [h5] at a3
        refine Or.inr ?_
        omega
      · exact Or.inl ⟨j, a1, by omega, a3, a4⟩
    · rcases h with ⟨j, a1, a2, a3, a4⟩ | h
      · exact ⟨j, a1, by omega, a3, a4⟩
      · obtain ⟨x, b1, b2, b3⟩ := h8
        exact ⟨x, b1, by omega, by rw [h]; exact b3, fun i i1 i2 => by rw [h]; exact h3 i i1 (by omega)⟩
theorem dm_0 (c : Nat → Nat) (M a : Nat) : dm_ok c M a a M := ⟨fun j h1 h2 => by omega, Or.inl ⟨rfl, Nat.le_refl _⟩⟩
theorem dl_all {c : Nat → Nat} {k q w : Nat} : cb_in c k q w ↔ dr_in c q k w ∨ dl_in c q 0 w := by
  unfold cb_in dr_in dl_in
  constructor
  · rintro (⟨j, h1, h2, h3, h4⟩ | ⟨j, h1, h2, h3⟩)
    · exact Or.inl ⟨j, h1, h2, h3, h4⟩
    · exact Or.inr ⟨j, Nat.zero_le _, h1, h2, h3⟩
  · rintro (⟨j, h1, h2, h3, h4⟩ | ⟨j, h1, h2, h3, h4⟩)
    · exact Or.inl ⟨j, h1, h2, h3, h4⟩
    · exact Or.inr ⟨j, h2, h3, h4⟩
/-- one bit more -/
theorem bt_or {x y z : Int64} {k : Nat} (e : z = x ||| y) (hy : uN y = 2 ^ k) (v : Nat) : Nat.testBit (uN z) v = true ↔ Nat.testBit (uN x) v = true ∨ v = k := by
  rw [e, uN_or2, hy, Nat.testBit_or, Nat.testBit_two_pow, Bool.or_eq_true]
  constructor
  · rintro (h | h)
    · exact Or.inl h
    · exact Or.inr (of_decide_eq_true h).symm
  · rintro (h | h)
    · exact Or.inl h
    · exact Or.inr (decide_eq_true h.symm)
