/-! The gaps c 0 .. c (g - 1) between neighbours in the keys' order: how many bytes two neighbours share. Branches, their children, their sizes. -/
def cb_num (p : Nat → Bool) : Nat → Nat
  | 0 => 0
  | n + 1 => cb_num p n + (if p n = true then 1 else 0)
/-- scanning down from gap i - 1: no gap v before one below v -/
def cb_fst (c : Nat → Nat) (v : Nat) : Nat → Bool
  | 0 => true
  | i + 1 => if v ≤ c i then (if c i = v then false else cb_fst c v i) else true
/-- scanning up from gap i, at most f gaps: how many gaps v before one below v -/
def cb_kids (c : Nat → Nat) (v : Nat) : Nat → Nat → Nat
  | 0, _ => 0
  | f + 1, i => if v ≤ c i then (if c i = v then 1 else 0) + cb_kids c v f (i + 1) else 0
/-- how many of the gaps i .. i + n - 1 are v -/
def cb_cnt (c : Nat → Nat) (v i : Nat) : Nat → Nat
  | 0 => 0
  | n + 1 => cb_cnt c v i n + (if c (i + n) = v then 1 else 0)
def cb_first (c : Nat → Nat) (i : Nat) : Bool := cb_fst c (c i) i
def cb_ch (c : Nat → Nat) (g i : Nat) : Nat := 2 + cb_kids c (c i) (g - (i + 1)) (i + 1)
def cb_size (n : Nat) : Nat := if n < 5 then 0 else if n < 17 then 1 else if n < 49 then 2 else 3
theorem cb_size_lt (n : Nat) : cb_size n < 4 := by
  unfold cb_size
  split
  · omega
  · split
    · omega
    · split <;> omega
theorem cb_fst_false {c : Nat → Nat} {v i : Nat} : cb_fst c v i = false ↔ ∃ j, j < i ∧ c j = v ∧ ∀ q, j ≤ q → q < i → v ≤ c q := by
  induction i with
  | zero => exact ⟨fun h => (by cases h), fun ⟨j, h, _⟩ => by omega⟩
  | succ i ih =>
    unfold cb_fst
    by_cases h1 : v ≤ c i
    · rw [if_pos h1]
      by_cases h2 : c i = v
      · rw [if_pos h2]
        exact ⟨fun _ => ⟨i, by omega, h2, fun q h3 h4 => by rw [show q = i by omega]; exact h1⟩, fun _ => rfl⟩
      · rw [if_neg h2, ih]
        constructor
        · intro ⟨j, h3, h4, h5⟩
          refine ⟨j, by omega, h4, fun q h6 h7 => ?_⟩
          by_cases h8 : q = i
          · rw [h8]; exact h1
          · exact h5 q h6 (by omega)
        · intro ⟨j, h3, h4, h5⟩
          refine ⟨j, ?_, h4, fun q h6 h7 => h5 q h6 (by omega)⟩
          by_cases h8 : j = i
          · rw [h8] at h4; exact absurd h4 h2
          · omega
    · rw [if_neg h1]
      refine ⟨fun h => (by cases h), fun ⟨j, h3, h4, h5⟩ => ?_⟩
      exact absurd (h5 i (by omega) (by omega)) h1
theorem cb_first_not {c : Nat → Nat} {i : Nat} : cb_first c i = false ↔ ∃ j, j < i ∧ c j = c i ∧ ∀ q, j ≤ q → q < i → c i ≤ c q := cb_fst_false
theorem cb_kids_run {c : Nat → Nat} {v i : Nat} : ∀ (n f : Nat), (∀ q, q < n → v ≤ c (i + q)) → cb_kids c v (n + f) i = cb_cnt c v i n + cb_kids c v f (i + n) := by
  intro n
  induction n with
  | zero => intro f _; rw [Nat.zero_add, cb_cnt, Nat.zero_add, Nat.add_zero]
  | succ n ih =>
    intro f h
    have h1 := ih (f + 1) (fun q hq => h q (by omega))
    rw [show n + 1 + f = n + (f + 1) by omega, h1]
    show _ + cb_kids c v (f + 1) (i + n) = _
    rw [cb_kids, if_pos (h n (by omega)), cb_cnt]
    show _ = _ + cb_kids c v f (i + n + 1)
    omega
/-- closed by gap k: the children that were counted below k are all -/
theorem cb_ch_closed {c : Nat → Nat} {g i k : Nat} (hi : i < k) (hk : k < g) (h : ∀ q, i ≤ q → q < k → c i ≤ c q) (hlt : c k < c i) : cb_ch c g i = 2 + cb_cnt c (c i) (i + 1) (k - (i + 1)) := by
  unfold cb_ch
  rw [show g - (i + 1) = (k - (i + 1)) + (g - k - 1 + 1) by omega, cb_kids_run _ _ (fun q hq => h _ (by omega) (by omega)), show i + 1 + (k - (i + 1)) = k by omega, cb_kids, if_neg (by omega)]
  omega
theorem cb_ch_open {c : Nat → Nat} {g i : Nat} (hi : i < g) (h : ∀ q, i ≤ q → q < g → c i ≤ c q) : cb_ch c g i = 2 + cb_cnt c (c i) (i + 1) (g - (i + 1)) := by
  unfold cb_ch
  have h1 := cb_kids_run (c := c) (v := c i) (i := i + 1) (g - (i + 1)) 0 (fun q hq => h _ (by omega) (by omega))
  rw [Nat.add_zero] at h1
  rw [h1, cb_kids]
  omega
/-! the stack of open branches, the longest first: its length, its children so far, how deep the deepest key is in its closed children -/
abbrev cb_St : Type := List (Nat × Nat × Nat)
def cb_up (B : Nat → Nat) (s : Nat) : Nat → Nat := fun j => if j = s then B j + 1 else B j
/-- close what is at least v long -/
def cb_close (v : Nat) : cb_St → Nat → (Nat → Nat) → Nat → cb_St × Nat × (Nat → Nat) × Nat
  | [], h, B, r => ([], h, B, r)
  | (l, ch, ht) :: st, h, B, r => if v ≤ l then cb_close v st (max ht (h + 1)) (cb_up B (cb_size ch)) (if l = 0 then ch else r) else ((l, ch, ht) :: st, h, B, r)
def cb_add (v h : Nat) : cb_St → cb_St
  | [] => [(v, 2, h + 1)]
  | (l, ch, ht) :: st => if l = v then (l, ch + 1, max ht (h + 1)) :: st else (v, 2, h + 1) :: (l, ch, ht) :: st
/-- after k gaps -/
def cb_run (c : Nat → Nat) : Nat → cb_St × (Nat → Nat) × Nat
  | 0 => ([], fun _ => 0, 0)
  | k + 1 =>
    let a := cb_run c k
    let z := cb_close (c k + 1) a.1 0 a.2.1 a.2.2
    (cb_add (c k) z.2.1 z.1, z.2.2.1, z.2.2.2)
/-- what measure finds at its end: height, sizes, children of the root -/
def cb_end (c : Nat → Nat) (g : Nat) : Nat × (Nat → Nat) × Nat :=
  let a := cb_run c g
  (cb_close 0 a.1 0 a.2.1 a.2.2).2
/-! which gaps are open at k: the first of its branch, and none below it since -/
def cb_open (c : Nat → Nat) (k i : Nat) : Prop := i < k ∧ cb_first c i = true ∧ ∀ q, i ≤ q → q < k → c i ≤ c q
/-- the open ones, the last first -/
def cb_all (c : Nat → Nat) (k : Nat) (is : List Nat) : Prop := (∀ i, i ∈ is → cb_open c k i) ∧ (∀ i, cb_open c k i → i ∈ is) ∧ is.Pairwise (fun a b => c b < c a)
/-- the stack's lengths and children are theirs -/
def cb_stk (c : Nat → Nat) (k : Nat) : List Nat → cb_St → Prop
  | [], [] => True
  | i :: is, e :: st => e.1 = c i ∧ e.2.1 = 2 + cb_cnt c (c i) (i + 1) (k - (i + 1)) ∧ cb_stk c k is st
  | _, _ => False
/-- a gap of v bytes, and none below it up to k: its branch's first gap is open -/
theorem cb_opens {c : Nat → Nat} {k : Nat} : ∀ (j : Nat), j < k → (∀ q, j ≤ q → q < k → c j ≤ c q) → ∃ i, i ≤ j ∧ c i = c j ∧ cb_open c k i := by
  intro j
  induction j using Nat.strongRecOn with
  | ind j ih =>
    intro hj h
    cases hf : cb_first c j with
    | true => exact ⟨j, Nat.le_refl _, rfl, hj, hf, h⟩
    | false =>
      obtain ⟨j2, h1, h2, h3⟩ := cb_first_not.mp hf
      obtain ⟨i, h4, h5, h6⟩ := ih j2 h1 (by omega) (fun q hq hq2 => by
        rw [h2]
        by_cases h7 : q < j
        · exact h3 q hq h7
        · exact h q (by omega) hq2)
      exact ⟨i, by omega, by rw [h5, h2], h6⟩
theorem cb_open_next {c : Nat → Nat} {k i : Nat} (h : cb_open c k i) (hc : c i ≤ c k) : cb_open c (k + 1) i :=
  ⟨by have := h.1; omega, h.2.1, fun q h1 h2 => by
    by_cases h3 : q = k
    · rw [h3]; exact hc
    · exact h.2.2 q h1 (by omega)⟩
theorem cb_open_prev {c : Nat → Nat} {k i : Nat} (h : cb_open c (k + 1) i) (hi : i < k) : cb_open c k i ∧ c i ≤ c k :=
  ⟨⟨hi, h.2.1, fun q h1 h2 => h.2.2 q h1 (by omega)⟩, h.2.2 k (by omega) (by omega)⟩
/-- the lengths of the stack are those of the open ones -/
theorem cb_stk_cons {c : Nat → Nat} {k : Nat} {is : List Nat} {l ch ht : Nat} {st : cb_St} (h : cb_stk c k is ((l, ch, ht) :: st)) : ∃ i is2, is = i :: is2 ∧ l = c i ∧ ch = 2 + cb_cnt c (c i) (i + 1) (k - (i + 1)) ∧ cb_stk c k is2 st := by
  cases is with
  | nil => exact h.elim
  | cons i is2 => exact ⟨i, is2, rfl, h.1, h.2.1, h.2.2⟩
theorem cb_stk_nil {c : Nat → Nat} {k : Nat} {is : List Nat} (h : cb_stk c k is []) : is = [] := by
  cases is with
  | nil => rfl
  | cons i is2 => exact h.elim
def cb_nsz (c : Nat → Nat) (g s : Nat) (is : List Nat) : Nat := (is.filter (fun i => cb_size (cb_ch c g i) == s)).length
/-- the closing: what is left of the stack; sizes counted; the root's children untouched while something longer than nothing is closed -/
theorem cb_close_stk {c : Nat → Nat} {k v : Nat} : ∀ (st : cb_St) (is : List Nat) (h : Nat) (B : Nat → Nat) (r : Nat), cb_stk c k is st → is.Pairwise (fun a b => c b < c a) →
    ∃ pr is2, is = pr ++ is2 ∧ (∀ i, i ∈ pr → v ≤ c i) ∧ (∀ i, i ∈ is2 → c i < v) ∧ cb_stk c k is2 (cb_close v st h B r).1 ∧
      (∀ g, (∀ i, i ∈ pr → 2 + cb_cnt c (c i) (i + 1) (k - (i + 1)) = cb_ch c g i) → ∀ s, (cb_close v st h B r).2.2.1 s = B s + cb_nsz c g s pr) ∧
      (0 < v → (cb_close v st h B r).2.2.2 = r) := by
  intro st
  induction st with
  | nil =>
    intro is h B r hs hp
    rw [cb_stk_nil hs]
    exact ⟨[], [], rfl, (fun i hi => by cases hi), (fun i hi => by cases hi), trivial, (fun g _ s => rfl), fun _ => rfl⟩
  | cons e st ih =>
    intro is h B r hs hp
    obtain ⟨l, ch, ht⟩ := e
    obtain ⟨i, is2, rfl, h1, h2, h3⟩ := cb_stk_cons hs
    rw [cb_close]
    by_cases hv : v ≤ l
    · rw [if_pos hv]
      obtain ⟨pr, is3, q1, q2, q3, q4, q5, q6⟩ := ih is2 (max ht (h + 1)) (cb_up B (cb_size ch)) (if l = 0 then ch else r) h3 (List.pairwise_cons.mp hp).2
      refine ⟨i :: pr, is3, by rw [q1]; rfl, ?_, q3, q4, ?_, ?_⟩
      · intro j hj
        rcases List.mem_cons.mp hj with rfl | hj
        · omega
        · exact q2 j hj
      · intro g hg s
        rw [q5 g (fun j hj => hg j (List.mem_cons_of_mem _ hj)) s]
        have h4 := hg i List.mem_cons_self
        unfold cb_up cb_nsz
        rw [h2, h4, List.filter_cons]
        by_cases h5 : s = cb_size (cb_ch c g i)
        · rw [if_pos h5, if_pos (by rw [h5]; exact beq_self_eq_true _), List.length_cons]
          omega
        · rw [if_neg h5, if_neg (by intro h6; exact h5 (eq_of_beq h6).symm)]
      · intro h0
        rw [q6 h0, if_neg (by omega)]
    · rw [if_neg hv]
      refine ⟨[], i :: is2, rfl, (fun j hj => by cases hj), ?_, ⟨h1, h2, h3⟩, (fun g _ s => rfl), fun _ => rfl⟩
      intro j hj
      rcases List.mem_cons.mp hj with rfl | hj
      · omega
      · have := (List.pairwise_cons.mp hp).1 j hj
        omega
theorem cb_cnt_next {c : Nat → Nat} {v i k : Nat} (hi : i < k) : cb_cnt c v (i + 1) (k + 1 - (i + 1)) = cb_cnt c v (i + 1) (k - (i + 1)) + (if c k = v then 1 else 0) := by
  rw [show k + 1 - (i + 1) = (k - (i + 1)) + 1 by omega, cb_cnt, show i + 1 + (k - (i + 1)) = k by omega]
/-- entries below the new gap keep their children -/
theorem cb_stk_low {c : Nat → Nat} {k : Nat} : ∀ (is : List Nat) (st : cb_St), cb_stk c k is st → (∀ i, i ∈ is → i < k ∧ c i < c k) → cb_stk c (k + 1) is st := by
  intro is
  induction is with
  | nil =>
    intro st h _
    cases st with
    | nil => trivial
    | cons e st => exact h.elim
  | cons i is ih =>
    intro st h hl
    cases st with
    | nil => exact h.elim
    | cons e st =>
      obtain ⟨h1, h2, h3⟩ := h
      have h4 := hl i List.mem_cons_self
      refine ⟨h1, ?_, ih st h3 (fun j hj => hl j (List.mem_cons_of_mem _ hj))⟩
      rw [cb_cnt_next h4.1, if_neg (by omega)]
      exact h2
/-- one gap more -/
theorem cb_add_stk {c : Nat → Nat} {k h : Nat} {is pr is2 : List Nat} {st : cb_St} (ha : cb_all c k is) (e : is = pr ++ is2) (hpr : ∀ i, i ∈ pr → c k + 1 ≤ c i) (h2 : ∀ i, i ∈ is2 → c i < c k + 1) (hs : cb_stk c k is2 st) :
    ∃ is3, cb_all c (k + 1) is3 ∧ cb_stk c (k + 1) is3 (cb_add (c k) h st) ∧ ((is3 = is2 ∧ cb_first c k = false) ∨ (is3 = k :: is2 ∧ cb_first c k = true)) := by
  obtain ⟨a1, a2, a3⟩ := ha
  have hin : ∀ i, i ∈ is2 → cb_open c k i := fun i hi => a1 i (by rw [e]; exact List.mem_append_right _ hi)
  have hnext : ∀ i, i ∈ is2 → cb_open c (k + 1) i := fun i hi => cb_open_next (hin i hi) (by have := h2 i hi; omega)
  have hold : ∀ i, cb_open c (k + 1) i → i < k → i ∈ is2 := fun i hi hk => by
    obtain ⟨q1, q2⟩ := cb_open_prev hi hk
    have := a2 i q1
    rw [e] at this
    rcases List.mem_append.mp this with h | h
    · have := hpr i h; omega
    · exact h
  have hpw : is2.Pairwise (fun a b => c b < c a) := by rw [e] at a3; exact (List.pairwise_append.mp a3).2.1
  cases is2 with
  | nil =>
    have hst : st = [] := by
      cases st with
      | nil => rfl
      | cons x y => exact hs.elim
    subst hst
    have hf : cb_first c k = true := by
      cases hf : cb_first c k with
      | true => rfl
      | false =>
        obtain ⟨j, q1, q2, q3⟩ := cb_first_not.mp hf
        obtain ⟨i, q4, q5, q6⟩ := cb_opens (c := c) (k := k) j q1 (fun q h1 h2 => by rw [q2]; exact q3 q h1 h2)
        have := hold i (cb_open_next q6 (by omega)) q6.1
        cases this
    refine ⟨[k], ⟨?_, ?_, List.pairwise_singleton _ _⟩, ⟨rfl, by rw [Nat.sub_self]; rfl, trivial⟩, Or.inr ⟨rfl, hf⟩⟩
    · intro i hi
      rw [List.mem_singleton.mp hi]
      exact ⟨by omega, hf, fun q h1 h2 => by rw [show q = k by omega]; exact Nat.le_refl _⟩
    · intro i hi
      by_cases hk : i < k
      · have := hold i hi hk; cases this
      · have := hi.1
        rw [show i = k by omega]; exact List.mem_singleton_self _
  | cons i is2 =>
    cases st with
    | nil => exact hs.elim
    | cons en st =>
      obtain ⟨l, ch, ht⟩ := en
      obtain ⟨s1, s2, s3⟩ := hs
      have s1 : l = c i := s1
      have s2 : ch = 2 + cb_cnt c (c i) (i + 1) (k - (i + 1)) := s2
      have hio := hin i List.mem_cons_self
      have hlow : ∀ j, j ∈ is2 → j < k ∧ c j < c i := fun j hj => ⟨(hin j (List.mem_cons_of_mem _ hj)).1, (List.pairwise_cons.mp hpw).1 j hj⟩
      rw [cb_add]
      by_cases hl : l = c k
      · rw [if_pos hl]
        have hf : cb_first c k = false := cb_first_not.mpr ⟨i, hio.1, by omega, fun q h1 h2 => by have := hio.2.2 q h1 h2; omega⟩
        refine ⟨i :: is2, ⟨hnext, ?_, hpw⟩, ⟨s1, ?_, cb_stk_low is2 st s3 (fun j hj => ⟨(hlow j hj).1, by have := (hlow j hj).2; omega⟩)⟩, Or.inl ⟨rfl, hf⟩⟩
        · intro j hj
          by_cases hk : j < k
          · exact hold j hj hk
          · have := hj.1
            have h4 : j = k := by omega
            rw [h4] at hj
            rw [hj.2.1] at hf; cases hf
        · show ch + 1 = _
          rw [cb_cnt_next hio.1, if_pos (by omega), s2]
          omega
      · rw [if_neg hl]
        have hlt : c i < c k := by have := h2 i List.mem_cons_self; omega
        have hf : cb_first c k = true := by
          cases hf : cb_first c k with
          | true => rfl
          | false =>
            obtain ⟨j, q1, q2, q3⟩ := cb_first_not.mp hf
            obtain ⟨i2, q4, q5, q6⟩ := cb_opens (c := c) (k := k) j q1 (fun q h1 h2 => by rw [q2]; exact q3 q h1 h2)
            have h5 := hold i2 (cb_open_next q6 (by omega)) q6.1
            rcases List.mem_cons.mp h5 with h6 | h6
            · rw [h6] at q5; omega
            · have := (hlow i2 h6).2; omega
        refine ⟨k :: i :: is2, ⟨?_, ?_, List.pairwise_cons.mpr ⟨?_, hpw⟩⟩, ⟨rfl, by rw [Nat.sub_self]; rfl, cb_stk_low (i :: is2) ((l, ch, ht) :: st) ⟨s1, s2, s3⟩ ?_⟩, Or.inr ⟨rfl, hf⟩⟩
        · intro j hj
          rcases List.mem_cons.mp hj with rfl | hj
          · exact ⟨by omega, hf, fun q h1 h2 => by rw [show q = j by omega]; exact Nat.le_refl _⟩
          · exact hnext j hj
        · intro j hj
          by_cases hk : j < k
          · exact List.mem_cons_of_mem _ (hold j hj hk)
          · have := hj.1
            rw [show j = k by omega]; exact List.mem_cons_self
        · intro j hj
          rcases List.mem_cons.mp hj with rfl | hj
          · exact hlt
          · have := (hlow j hj).2; omega
        · intro j hj
          rcases List.mem_cons.mp hj with rfl | hj
          · exact ⟨hio.1, hlt⟩
          · have := hlow j hj; exact ⟨this.1, by omega⟩
/-- sizes: what is closed and what is open make up all branches so far -/
theorem cb_run_ok (c : Nat → Nat) (g : Nat) : ∀ k, k ≤ g → ∃ is, cb_all c k is ∧ cb_stk c k is (cb_run c k).1 ∧
    (∀ s, (cb_run c k).2.1 s + cb_nsz c g s is = cb_num (fun i => cb_first c i && (cb_size (cb_ch c g i) == s)) k) ∧ (cb_run c k).2.2 = 0 := by
  intro k
  induction k with
  | zero => exact fun _ => ⟨[], ⟨fun i hi => (by cases hi), fun i hi => absurd hi.1 (by omega), List.Pairwise.nil⟩, trivial, fun s => rfl, rfl⟩
  | succ k ih =>
    intro hk
    obtain ⟨is, ha, hs, hB, hr⟩ := ih (by omega)
    obtain ⟨pr, is2, e, p1, p2, p3, p4, p5⟩ := cb_close_stk (c := c) (k := k) (v := c k + 1) (cb_run c k).1 is 0 (cb_run c k).2.1 (cb_run c k).2.2 hs ha.2.2
    obtain ⟨is3, q1, q2, q3⟩ := cb_add_stk (h := (cb_close (c k + 1) (cb_run c k).1 0 (cb_run c k).2.1 (cb_run c k).2.2).2.1) ha e p1 p2 p3
    refine ⟨is3, q1, q2, ?_, ?_⟩
    · intro s
      have h1 := p4 g (fun i hi => by
        have ho := ha.1 i (by rw [e]; exact List.mem_append_left _ hi)
        have hl := p1 i hi
        exact (cb_ch_closed ho.1 (by omega) ho.2.2 (by omega)).symm) s
      have h2 : cb_nsz c g s is = cb_nsz c g s pr + cb_nsz c g s is2 := by unfold cb_nsz; rw [e, List.filter_append, List.length_append]
      have h3 := hB s
      show (cb_close (c k + 1) (cb_run c k).1 0 (cb_run c k).2.1 (cb_run c k).2.2).2.2.1 s + _ = _
      rw [h1, cb_num]
      rcases q3 with ⟨r1, r2⟩ | ⟨r1, r2⟩
      · rw [r1, r2, Bool.false_and, if_neg (by decide)]
        omega
      · have h4 : cb_nsz c g s (k :: is2) = cb_nsz c g s is2 + (if (cb_size (cb_ch c g k) == s) = true then 1 else 0) := by
          unfold cb_nsz
          rw [List.filter_cons]
          by_cases h5 : (cb_size (cb_ch c g k) == s) = true
          · rw [if_pos h5, if_pos h5, List.length_cons]
          · rw [if_neg h5, if_neg h5, Nat.add_zero]
        rw [r1, r2, Bool.true_and, h4]
        omega
    · show (cb_close (c k + 1) (cb_run c k).1 0 (cb_run c k).2.1 (cb_run c k).2.2).2.2.2 = 0
      rw [p5 (by omega), hr]
theorem cb_end_sizes (c : Nat → Nat) (g s : Nat) : (cb_end c g).2.1 s = cb_num (fun i => cb_first c i && (cb_size (cb_ch c g i) == s)) g := by
  obtain ⟨is, ha, hs, hB, -⟩ := cb_run_ok c g g (Nat.le_refl _)
  obtain ⟨pr, is2, e, p1, p2, p3, p4, -⟩ := cb_close_stk (c := c) (k := g) (v := 0) (cb_run c g).1 is 0 (cb_run c g).2.1 (cb_run c g).2.2 hs ha.2.2
  have h0 : is2 = [] := by
    cases is2 with
    | nil => rfl
    | cons i t => exact absurd (p2 i List.mem_cons_self) (by omega)
  rw [h0, List.append_nil] at e
  have h1 := p4 g (fun i hi => by
    have ho := ha.1 i (by rw [e]; exact hi)
    exact (cb_ch_open ho.1 ho.2.2).symm) s
  have h2 := hB s
  rw [e] at h2
  show (cb_close 0 (cb_run c g).1 0 (cb_run c g).2.1 (cb_run c g).2.2).2.2.1 s = _
  rw [h1, h2]
