/-! the stack of open branches in its three rows -/
def sh_rep (L C Hh : Nat → Int32) : Nat → cb_St → Prop
  | 0, st => st = []
  | o + 1, st => ∃ l ch ht r, st = (l, ch, ht) :: r ∧ (L o).toInt = (l : Int) ∧ (C o).toInt = (ch : Int) ∧ (Hh o).toInt = (ht : Int) ∧ sh_rep L C Hh o r
theorem sh_rep_pos {L C Hh : Nat → Int32} {op : Nat} {st : cb_St} (h : sh_rep L C Hh op st) (h0 : 0 < op) : ∃ l ch ht r, st = (l, ch, ht) :: r ∧ (L (op - 1)).toInt = (l : Int) ∧ (C (op - 1)).toInt = (ch : Int) ∧ (Hh (op - 1)).toInt = (ht : Int) ∧ sh_rep L C Hh (op - 1) r := by
  cases op with
  | zero => omega
  | succ o => exact h
theorem sh_rep_nil {L C Hh : Nat → Int32} {op : Nat} {st : cb_St} (h : sh_rep L C Hh op st) (h0 : op = 0) : st = [] := by subst h0; exact h
theorem sh_rep_congr {L C Hh L2 C2 H2 : Nat → Int32} : ∀ (op : Nat) (st : cb_St), (∀ j, j < op → L2 j = L j ∧ C2 j = C j ∧ H2 j = Hh j) → sh_rep L C Hh op st → sh_rep L2 C2 H2 op st := by
  intro op
  induction op with
  | zero => intro st _ h; exact h
  | succ o ih =>
    intro st hj h
    obtain ⟨l, ch, ht, r, h1, h2, h3, h4, h5⟩ := h
    obtain ⟨j1, j2, j3⟩ := hj o (by omega)
    exact ⟨l, ch, ht, r, h1, by rw [j1]; exact h2, by rw [j2]; exact h3, by rw [j3]; exact h4, ih r (fun j hj2 => hj j (by omega)) h5⟩
theorem sh_rep_len {L C Hh : Nat → Int32} : ∀ (op : Nat) (st : cb_St), sh_rep L C Hh op st → st.length = op := by
  intro op
  induction op with
  | zero => intro st h; rw [show st = [] from h]; rfl
  | succ o ih =>
    intro st h
    obtain ⟨l, ch, ht, r, h1, -, -, -, h5⟩ := h
    rw [h1, List.length_cons, ih r h5]
/-! nothing in it grows beyond what has been gone through -/
def sk_bd (N : Nat) : cb_St → Prop
  | [] => True
  | (_, ch, ht) :: r => ht + r.length ≤ N ∧ ch ≤ N + 2 ∧ sk_bd N r
def sk_all (N : Nat) (st : cb_St) (h : Nat) (B : Nat → Nat) : Prop := sk_bd N st ∧ h + st.length ≤ N ∧ ∀ j, B j + st.length ≤ N
theorem sk_pop {N l ch ht h : Nat} {r : cb_St} {B : Nat → Nat} (hs : sk_all N ((l, ch, ht) :: r) h B) : sk_all N r (max ht (h + 1)) (cb_up B (cb_size ch)) := by
  obtain ⟨⟨h1, h2, h3⟩, h4, h5⟩ := hs
  rw [List.length_cons] at h4
  refine ⟨h3, ?_, fun j => ?_⟩
  · rcases Nat.le_total ht (h + 1) with h6 | h6
    · rw [Nat.max_eq_right h6]; omega
    · rw [Nat.max_eq_left h6]; omega
  · have h7 := h5 j
    rw [List.length_cons] at h7
    unfold cb_up
    split <;> omega
theorem sk_close {N v : Nat} : ∀ (st : cb_St) (h : Nat) (B : Nat → Nat) (r : Nat), sk_all N st h B → sk_all N (cb_close v st h B r).1 (cb_close v st h B r).2.1 (cb_close v st h B r).2.2.1 := by
  intro st
  induction st with
  | nil => intro h B r hs; exact hs
  | cons e st ih =>
    intro h B r hs
    obtain ⟨l, ch, ht⟩ := e
    rw [cb_close]
    by_cases hv : v ≤ l
    · rw [if_pos hv]; exact ih _ _ _ (sk_pop hs)
    · rw [if_neg hv]; exact hs
theorem sk_mono {N M : Nat} (h : N ≤ M) : ∀ (st : cb_St), sk_bd N st → sk_bd M st := by
  intro st
  induction st with
  | nil => intro _; trivial
  | cons e st ih =>
    obtain ⟨l, ch, ht⟩ := e
    intro ⟨h1, h2, h3⟩
    exact ⟨by omega, by omega, ih h3⟩
theorem sk_add {N v h : Nat} {B : Nat → Nat} {st : cb_St} (hs : sk_all N st h B) : sk_all (N + 1) (cb_add v h st) 0 B := by
  obtain ⟨h1, h2, h3⟩ := hs
  cases st with
  | nil => exact ⟨⟨by show h + 1 + 0 ≤ N + 1; omega, by omega, trivial⟩, by show 0 + 1 ≤ N + 1; omega, fun j => by have := h3 j; show B j + 1 ≤ N + 1; rw [List.length_nil] at this; omega⟩
  | cons e st =>
    obtain ⟨l, ch, ht⟩ := e
    obtain ⟨a1, a2, a3⟩ := h1
    rw [List.length_cons] at h2
    rw [cb_add]
    by_cases hl : l = v
    · rw [if_pos hl]
      refine ⟨⟨?_, by omega, sk_mono (by omega) st a3⟩, by rw [List.length_cons]; omega, fun j => by have := h3 j; rw [List.length_cons] at this ⊢; omega⟩
      rcases Nat.le_total ht (h + 1) with h6 | h6
      · rw [Nat.max_eq_right h6]; omega
      · rw [Nat.max_eq_left h6]; omega
    · rw [if_neg hl]
      refine ⟨⟨by rw [List.length_cons]; omega, by omega, by omega, by omega, sk_mono (by omega) st a3⟩, by rw [List.length_cons, List.length_cons]; omega, fun j => by have := h3 j; rw [List.length_cons] at this; rw [List.length_cons, List.length_cons]; omega⟩
theorem sk_run (c : Nat → Nat) : ∀ k, sk_all k (cb_run c k).1 0 (cb_run c k).2.1 := by
  intro k
  induction k with
  | zero => exact ⟨trivial, Nat.le_refl _, fun _ => Nat.le_refl _⟩
  | succ k ih => exact sk_add (sk_close (v := c k + 1) (cb_run c k).1 0 (cb_run c k).2.1 (cb_run c k).2.2 ih)
/-- falling numbers below v are at most v -/
theorem sk_fall {c : Nat → Nat} : ∀ (is : List Nat) (v : Nat), is.Pairwise (fun a b => c b < c a) → (∀ i, i ∈ is → c i < v) → is.length ≤ v := by
  intro is
  induction is with
  | nil => intro v _ _; exact Nat.zero_le _
  | cons i is ih =>
    intro v hp h
    have h1 := ih (c i) (List.pairwise_cons.mp hp).2 (List.pairwise_cons.mp hp).1
    have h2 := h i List.mem_cons_self
    rw [List.length_cons]; omega
theorem sk_stk_len {c : Nat → Nat} {k : Nat} : ∀ (is : List Nat) (st : cb_St), cb_stk c k is st → is.length = st.length := by
  intro is
  induction is with
  | nil => intro st h; cases st with
    | nil => rfl
    | cons e st => exact h.elim
  | cons i is ih =>
    intro st h
    cases st with
    | nil => exact h.elim
    | cons e st => rw [List.length_cons, List.length_cons, ih st h.2.2]
/-- room for one more open branch -/
theorem sk_room (c : Nat → Nat) (k : Nat) (hnew : ∀ l ch ht r, (cb_close (c k + 1) (cb_run c k).1 0 (cb_run c k).2.1 (cb_run c k).2.2).1 = (l, ch, ht) :: r → l ≠ c k) : (cb_close (c k + 1) (cb_run c k).1 0 (cb_run c k).2.1 (cb_run c k).2.2).1.length ≤ c k := by
  obtain ⟨is, ha, hs, -, -⟩ := cb_run_ok c k k (Nat.le_refl _)
  obtain ⟨pr, is2, e, p1, p2, p3, -, -⟩ := cb_close_stk (c := c) (k := k) (v := c k + 1) (cb_run c k).1 is 0 (cb_run c k).2.1 (cb_run c k).2.2 hs ha.2.2
  rw [← sk_stk_len is2 _ p3]
  have hpw : is2.Pairwise (fun a b => c b < c a) := by
    have h5 := ha.2.2
    rw [e] at h5
    exact (List.pairwise_append.mp h5).2.1
  cases is2 with
  | nil => exact Nat.zero_le _
  | cons i is2 =>
    generalize hz : (cb_close (c k + 1) (cb_run c k).1 0 (cb_run c k).2.1 (cb_run c k).2.2).1 = z at p3 hnew
    cases z with
    | nil => exact p3.elim
    | cons en r =>
      obtain ⟨l, ch, ht⟩ := en
      have h1 : l = c i := p3.1
      have h2 := hnew l ch ht r rfl
      have h3 := p2 i List.mem_cons_self
      refine sk_fall (i :: is2) (c k) hpw (fun j hj => ?_)
      rcases List.mem_cons.mp hj with rfl | hj
      · omega
      · have := (List.pairwise_cons.mp hpw).1 j hj; omega
theorem cb_close_0 : ∀ (st : cb_St) (h : Nat) (B : Nat → Nat) (r : Nat), (cb_close 0 st h B r).1 = [] := by
  intro st
  induction st with
  | nil => intro h B r; rfl
  | cons e st ih =>
    intro h B r
    obtain ⟨l, ch, ht⟩ := e
    rw [cb_close, if_pos (Nat.zero_le _)]; exact ih _ _ _
/-- the gaps of a table -/
def tb_gap (w : Nat) (fc : Nat → Int64) (k : Nat) : Nat := sh_w w (kr fc w (k + 1)) (kr fc w k)
theorem tb_gap_lt {w n : Nat} {fc : Nat → Int64} (hs : tb_srt w n fc) {k : Nat} (hk : k + 1 < n) : tb_gap w fc k < 8 * w := by
  have h1 := sh_w_le w (kr fc w (k + 1)) (kr fc w k)
  rcases Nat.lt_or_ge (tb_gap w fc k) (8 * w) with h | h
  · exact h
  · exfalso
    have h2 : sh_w w (kr fc w (k + 1)) (kr fc w k) = 8 * w := by unfold tb_gap at h; omega
    exact kw_irr (kw_eq_symm (sh_w_full.mp h2)) (hs k (k + 1) (by omega) hk)
