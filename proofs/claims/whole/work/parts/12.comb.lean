/-! the root's children, and the depths -/
def cb_zeros (c : Nat → Nat) (g : Nat) : Nat := cb_num (fun i => c i == 0) g
theorem cb_cnt_num (c : Nat → Nat) (i : Nat) (h : ∀ q, q < i → c q ≠ 0) (hi : c i = 0) : ∀ n, 1 + cb_cnt c 0 (i + 1) n = cb_num (fun q => c q == 0) (i + 1 + n) := by
  intro n
  induction n with
  | zero =>
    have h0 : ∀ m, m ≤ i → cb_num (fun q => c q == 0) m = 0 := by
      intro m
      induction m with
      | zero => exact fun _ => rfl
      | succ m ih =>
        intro hm
        rw [cb_num, ih (by omega), if_neg (by intro h5; exact h m (by omega) (eq_of_beq h5))]
    show 1 + 0 = cb_num _ (i + 1)
    rw [cb_num, h0 i (Nat.le_refl _), if_pos (by rw [hi]; rfl)]
  | succ n ih =>
    rw [cb_cnt, show i + 1 + (n + 1) = (i + 1 + n) + 1 by omega, cb_num, ← ih]
    by_cases h5 : c (i + 1 + n) = 0
    · rw [if_pos h5, if_pos (by rw [h5]; rfl)]; omega
    · rw [if_neg h5, if_neg (by intro h6; exact h5 (eq_of_beq h6))]; omega
theorem cb_close_root {c : Nat → Nat} {k : Nat} : ∀ (st : cb_St) (is : List Nat) (h : Nat) (B : Nat → Nat) (r : Nat), cb_stk c k is st → is.Pairwise (fun a b => c b < c a) →
    (∀ i, i ∈ is → c i = 0 → (cb_close 0 st h B r).2.2.2 = 2 + cb_cnt c (c i) (i + 1) (k - (i + 1))) ∧ ((∀ i, i ∈ is → c i ≠ 0) → (cb_close 0 st h B r).2.2.2 = r) := by
  intro st
  induction st with
  | nil =>
    intro is h B r hs hp
    rw [cb_stk_nil hs]
    exact ⟨fun i hi => (by cases hi), fun _ => rfl⟩
  | cons e st ih =>
    intro is h B r hs hp
    obtain ⟨l, ch, ht⟩ := e
    obtain ⟨i, is2, rfl, h1, h2, h3⟩ := cb_stk_cons hs
    rw [cb_close, if_pos (Nat.zero_le _)]
    obtain ⟨q1, q2⟩ := ih is2 (max ht (h + 1)) (cb_up B (cb_size ch)) (if l = 0 then ch else r) h3 (List.pairwise_cons.mp hp).2
    constructor
    · intro j hj h0
      rcases List.mem_cons.mp hj with rfl | hj
      · rw [q2 (fun a ha => by have := (List.pairwise_cons.mp hp).1 a ha; omega), if_pos (by omega), h2]
      · exact q1 j hj h0
    · intro hn
      rw [q2 (fun a ha => hn a (List.mem_cons_of_mem _ ha)), if_neg (by have := hn i List.mem_cons_self; omega)]
theorem cb_end_root (c : Nat → Nat) (g : Nat) : (cb_end c g).2.2 = if cb_zeros c g = 0 then 0 else cb_zeros c g + 1 := by
  obtain ⟨is, ha, hs, -, hr⟩ := cb_run_ok c g g (Nat.le_refl _)
  obtain ⟨h1, h2⟩ := cb_close_root (c := c) (k := g) (cb_run c g).1 is 0 (cb_run c g).2.1 (cb_run c g).2.2 hs ha.2.2
  show (cb_close 0 (cb_run c g).1 0 (cb_run c g).2.1 (cb_run c g).2.2).2.2.2 = _
  by_cases hz : ∃ i, i ∈ is ∧ c i = 0
  · obtain ⟨i, hi, h0⟩ := hz
    have ho := ha.1 i hi
    have hb : ∀ q, q < i → c q ≠ 0 := fun q hq h5 => by
      have : cb_first c i = false := cb_first_not.mpr ⟨q, hq, by omega, fun _ _ _ => by omega⟩
      rw [ho.2.1] at this; cases this
    have h3 := cb_cnt_num c i hb h0 (g - (i + 1))
    rw [show i + 1 + (g - (i + 1)) = g by have := ho.1; omega] at h3
    have h4 : cb_zeros c g = 1 + cb_cnt c 0 (i + 1) (g - (i + 1)) := h3.symm
    rw [h1 i hi h0, h0, h4, if_neg (by omega)]
    omega
  · have hz : ∀ i, i ∈ is → c i ≠ 0 := fun i hi h0 => hz ⟨i, hi, h0⟩
    have h0 : ∀ m, m ≤ g → cb_num (fun q => c q == 0) m = 0 := by
      intro m
      induction m with
      | zero => exact fun _ => rfl
      | succ m ih =>
        intro hm
        rw [cb_num, ih (by omega), if_neg]
        intro h5
        have h5 : c m = 0 := eq_of_beq h5
        obtain ⟨i, q1, q2, q3⟩ := cb_opens (c := c) (k := g) m (by omega) (fun _ _ _ => by omega)
        exact hz i (ha.2.1 i q3) (by omega)
    have h4 : cb_zeros c g = 0 := h0 g (Nat.le_refl _)
    rw [h2 hz, hr, h4, if_pos rfl]
/-! a key q lies in a branch of length w, by the gaps below k -/
def cb_in (c : Nat → Nat) (k q w : Nat) : Prop :=
  (∃ j, q ≤ j ∧ j < k ∧ c j = w ∧ ∀ i, q ≤ i → i ≤ j → w ≤ c i) ∨ (∃ j, j < q ∧ c j = w ∧ ∀ i, j ≤ i → i < q → w ≤ c i)
noncomputable def cb_inb (c : Nat → Nat) (k q w : Nat) : Bool := @decide (cb_in c k q w) (Classical.propDecidable _)
theorem cb_inb_iff {c : Nat → Nat} {k q w : Nat} : cb_inb c k q w = true ↔ cb_in c k q w := by
  unfold cb_inb
  exact @decide_eq_true_iff _ (Classical.propDecidable _)
/-- how many lengths from v on (below M) -/
noncomputable def cb_N (c : Nat → Nat) (M k q v : Nat) : Nat := cb_num (fun w => decide (v ≤ w) && cb_inb c k q w) M
theorem cb_num_congr {p p2 : Nat → Bool} : ∀ (n : Nat), (∀ i, i < n → p i = p2 i) → cb_num p n = cb_num p2 n := by
  intro n
  induction n with
  | zero => exact fun _ => rfl
  | succ n ih => intro h; rw [cb_num, cb_num, ih (fun i hi => h i (by omega)), h n (by omega)]
theorem cb_num_le {p p2 : Nat → Bool} : ∀ (n : Nat), (∀ i, i < n → p i = true → p2 i = true) → cb_num p n ≤ cb_num p2 n := by
  intro n
  induction n with
  | zero => exact fun _ => Nat.le_refl _
  | succ n ih =>
    intro h
    have h1 := ih (fun i hi => h i (by omega))
    rw [cb_num, cb_num]
    by_cases h2 : p n = true
    · rw [if_pos h2, if_pos (h n (by omega) h2)]; omega
    · rw [if_neg h2]; omega
/-- one more -/
theorem cb_num_one {p p2 : Nat → Bool} {v : Nat} (hp : p v = false) (hp2 : p2 v = true) : ∀ (n : Nat), v < n → (∀ i, i < n → i ≠ v → p i = p2 i) → cb_num p2 n = cb_num p n + 1 := by
  intro n
  induction n with
  | zero => intro h; omega
  | succ n ih =>
    intro hv h
    rw [cb_num, cb_num]
    by_cases h1 : v = n
    · subst h1
      rw [if_pos hp2, if_neg (by rw [hp]; decide), cb_num_congr v (fun i hi => h i (by omega) (by omega))]
    · rw [ih (by omega) (fun i hi hn => h i (by omega) hn), h n (by omega) (fun h2 => h1 h2.symm)]
      omega
def cb_seg (c : Nat → Nat) (k v q : Nat) : Prop := q ≤ k ∧ ∀ j, q ≤ j → j < k → v ≤ c j
def cb_max (P : Nat → Prop) (f : Nat → Nat) (m : Nat) : Prop := (∃ q, P q ∧ f q = m) ∧ ∀ q, P q → f q ≤ m
/-- the depth in an open branch's closed children -/
def cb_hts (c : Nat → Nat) (M k : Nat) : List Nat → cb_St → Prop
  | i :: is, e :: st => cb_max (fun q => cb_seg c k (c i) q ∧ ∃ j, q ≤ j ∧ j < k ∧ c j = c i) (fun q => cb_N c M k q (c i)) e.2.2 ∧ cb_hts c M k is st
  | _, _ => True
/-- no open branch between v and u: a key that is cut off from k by nothing below v + 1 is by nothing below u -/
theorem cb_seg_jump {c : Nat → Nat} {k v u q : Nat} (hno : ∀ i, cb_open c k i → c i < u → c i < v) (h : cb_seg c k v q) : cb_seg c k u q := by
  refine ⟨h.1, ?_⟩
  -- the least gap from q on, if it is below u, has an open first
  have key : ∀ n j, j + n = k → q ≤ j → (∀ i, j ≤ i → i < k → u ≤ c i) ∨ ∃ x, j ≤ x ∧ x < k ∧ c x < u ∧ ∀ i, x ≤ i → i < k → c x ≤ c i := by
    intro n
    induction n with
    | zero => intro j hj _; exact Or.inl (fun i h1 h2 => by omega)
    | succ n ih =>
      intro j hj hq
      rcases ih (j + 1) (by omega) (by omega) with h1 | ⟨x, h1, h2, h3, h4⟩
      · by_cases h5 : u ≤ c j
        · refine Or.inl (fun i h6 h7 => ?_)
          by_cases h8 : i = j
          · rw [h8]; exact h5
          · exact h1 i (by omega) h7
        · refine Or.inr ⟨j, Nat.le_refl _, by omega, by omega, fun i h6 h7 => ?_⟩
          by_cases h8 : i = j
          · rw [h8]; exact Nat.le_refl _
          · have := h1 i (by omega) h7; omega
      · exact Or.inr ⟨x, by omega, h2, h3, h4⟩
  obtain ⟨n, hn⟩ : ∃ n, q + n = k := ⟨k - q, by have := h.1; omega⟩
  rcases key n q hn (Nat.le_refl _) with h1 | ⟨x, h1, h2, h3, h4⟩
  · exact h1
  · exfalso
    obtain ⟨i, q1, q2, q3⟩ := cb_opens (c := c) (k := k) x h2 h4
    have h5 := hno i q3 (by omega)
    have h6 := h.2 x h1 h2
    omega
theorem cb_in_jump {c : Nat → Nat} {k v u q w : Nat} (hno : ∀ i, cb_open c k i → c i < u → c i < v) (h : cb_seg c k u q) (hv : v ≤ w) (hin : cb_in c k q w) : u ≤ w := by
  rcases hin with ⟨j, h1, h2, h3, h4⟩ | ⟨j, h1, h2, h3⟩
  · have := h.2 j h1 h2; omega
  · rcases Nat.lt_or_ge w u with h5 | h5
    · exfalso
      have h6 := h.1
      obtain ⟨i, q1, q2, q3⟩ := cb_opens (c := c) (k := k) j (by omega) (fun x hx hx2 => by
        rw [h2]
        by_cases h7 : x < q
        · exact h3 x hx h7
        · have := h.2 x (by omega) hx2; omega)
      have := hno i q3 (by omega)
      omega
    · exact h5
theorem cb_N_jump {c : Nat → Nat} {M k v u q : Nat} (hno : ∀ i, cb_open c k i → c i < u → c i < v) (huv : v ≤ u) (h : cb_seg c k u q) : cb_N c M k q v = cb_N c M k q u := by
  unfold cb_N
  refine cb_num_congr M (fun w _ => ?_)
  cases hb : cb_inb c k q w with
  | false => rw [Bool.and_false, Bool.and_false]
  | true =>
    rw [Bool.and_true, Bool.and_true]
    by_cases h1 : v ≤ w
    · rw [decide_eq_true h1, decide_eq_true (cb_in_jump hno h h1 (cb_inb_iff.mp hb))]
    · rw [decide_eq_false h1, decide_eq_false (by omega)]
theorem cb_max_jump {c : Nat → Nat} {M k v u m : Nat} (hno : ∀ i, cb_open c k i → c i < u → c i < v) (huv : v ≤ u) (h : cb_max (cb_seg c k u) (fun q => cb_N c M k q u) m) : cb_max (cb_seg c k v) (fun q => cb_N c M k q v) m := by
  obtain ⟨⟨q, h1, h2⟩, h3⟩ := h
  refine ⟨⟨q, ⟨h1.1, fun j a b => by have := h1.2 j a b; omega⟩, by show cb_N c M k q v = m; rw [cb_N_jump hno huv h1]; exact h2⟩, fun z hz => ?_⟩
  have h4 := cb_seg_jump hno hz
  show cb_N c M k z v ≤ m
  rw [cb_N_jump hno huv h4]
  exact h3 z h4
theorem cb_N_succ {c : Nat → Nat} {M k q v : Nat} (hv : v < M) (hin : cb_in c k q v) : cb_N c M k q v = cb_N c M k q (v + 1) + 1 := by
  unfold cb_N
  refine cb_num_one (v := v) ?_ ?_ M hv (fun i _ hne => ?_)
  · rw [decide_eq_false (by omega), Bool.false_and]
  · rw [decide_eq_true (Nat.le_refl v), Bool.true_and]; exact cb_inb_iff.mpr hin
  · by_cases h1 : v ≤ i
    · rw [decide_eq_true (show v + 1 ≤ i by omega), decide_eq_true h1]
    · rw [decide_eq_false (by omega), decide_eq_false h1]
/-- the closing's height -/
theorem cb_close_ht {c : Nat → Nat} {M k v : Nat} (hM : ∀ i, i < k → c i < M) : ∀ (st : cb_St) (is : List Nat) (u h : Nat) (B : Nat → Nat) (r : Nat), cb_stk c k is st → cb_hts c M k is st → is.Pairwise (fun a b => c b < c a) →
    (∀ i, i ∈ is → cb_open c k i ∧ c i < u) → (∀ i, cb_open c k i → c i < u → i ∈ is) → v ≤ u → cb_max (cb_seg c k u) (fun q => cb_N c M k q u) h →
    cb_max (cb_seg c k v) (fun q => cb_N c M k q v) (cb_close v st h B r).2.1 ∧ ∃ pr is2, is = pr ++ is2 ∧ (∀ i, i ∈ pr → v ≤ c i) ∧ (∀ i, i ∈ is2 → c i < v) ∧ cb_hts c M k is2 (cb_close v st h B r).1 := by
  intro st
  induction st with
  | nil =>
    intro is u h B r hs _ hp ho hc huv hm
    have h0 := cb_stk_nil hs
    subst h0
    exact ⟨cb_max_jump (fun i h1 h2 => by have := hc i h1 h2; cases this) huv hm, [], [], rfl, (fun i hi => by cases hi), (fun i hi => by cases hi), trivial⟩
  | cons e st ih =>
    intro is u h B r hs hh hp ho hc huv hm
    obtain ⟨l, ch, ht⟩ := e
    obtain ⟨i, is2, rfl, h1, h2, h3⟩ := cb_stk_cons hs
    obtain ⟨hh1, hh2⟩ := hh
    obtain ⟨hio, hiu⟩ := ho i List.mem_cons_self
    have hlow := (List.pairwise_cons.mp hp).1
    have hno : ∀ j, cb_open c k j → c j < u → c j < c i + 1 := fun j q1 q2 => by
      rcases List.mem_cons.mp (hc j q1 q2) with rfl | h5
      · omega
      · have := hlow j h5; omega
    rw [cb_close]
    by_cases hv : v ≤ l
    · rw [if_pos hv]
      -- with this branch
      have hm1 := cb_max_jump hno (by omega) hm
      have hcM := hM i hio.1
      have hm2 : cb_max (cb_seg c k (c i)) (fun q => cb_N c M k q (c i)) (max ht (h + 1)) := by
        have hbig : ∀ q, cb_seg c k (c i + 1) q → cb_N c M k q (c i) = cb_N c M k q (c i + 1) + 1 := fun q hq => by
          refine cb_N_succ hcM (Or.inr ⟨i, ?_, rfl, fun x hx hx2 => hio.2.2 x hx (by have := hq.1; omega)⟩)
          rcases Nat.lt_or_ge i q with h5 | h5
          · exact h5
          · have := hq.2 i h5 hio.1; omega
        obtain ⟨⟨qa, a1, a2⟩, a3⟩ := hm1
        obtain ⟨⟨qb, ⟨b1, b2⟩, b3⟩, b4⟩ := hh1
        have a2 : cb_N c M k qa (c i + 1) = h := a2
        have b3 : cb_N c M k qb (c i) = ht := b3
        constructor
        · rcases Nat.le_total ht (h + 1) with h5 | h5
          · exact ⟨qa, ⟨a1.1, fun j x y => by have := a1.2 j x y; omega⟩, by show cb_N c M k qa (c i) = _; rw [hbig qa a1, a2, Nat.max_eq_right h5]⟩
          · exact ⟨qb, b1, by show cb_N c M k qb (c i) = _; rw [b3, Nat.max_eq_left h5]⟩
        · intro q hq
          show cb_N c M k q (c i) ≤ _
          by_cases h5 : ∃ j, q ≤ j ∧ j < k ∧ c j = c i
          · have : cb_N c M k q (c i) ≤ ht := b4 q ⟨hq, h5⟩
            exact Nat.le_trans this (Nat.le_max_left _ _)
          · have h6 : cb_seg c k (c i + 1) q := ⟨hq.1, fun j x y => by
              have h7 := hq.2 j x y
              rcases Nat.lt_or_ge (c i) (c j) with h8 | h8
              · omega
              · exact absurd ⟨j, x, y, by omega⟩ h5⟩
            rw [hbig q h6]
            have : cb_N c M k q (c i + 1) ≤ h := a3 q h6
            exact Nat.le_trans (by omega) (Nat.le_max_right _ _)
      obtain ⟨z1, pr, is3, z2, z3, z4, z5⟩ := ih is2 (c i) (max ht (h + 1)) (cb_up B (cb_size ch)) (if l = 0 then ch else r) h3 hh2 (List.pairwise_cons.mp hp).2 (fun j hj => ⟨(ho j (List.mem_cons_of_mem _ hj)).1, hlow j hj⟩)
        (fun j q1 q2 => by
          rcases List.mem_cons.mp (hc j q1 (by omega)) with rfl | h5
          · omega
          · exact h5) (by omega) hm2
      refine ⟨z1, i :: pr, is3, by rw [z2]; rfl, ?_, z4, z5⟩
      intro j hj
      rcases List.mem_cons.mp hj with rfl | hj
      · omega
      · exact z3 j hj
    · rw [if_neg hv]
      refine ⟨cb_max_jump (fun j q1 q2 => by have := hno j q1 q2; omega) huv hm, [], i :: is2, rfl, (fun j hj => by cases hj), ?_, ⟨hh1, hh2⟩⟩
      intro j hj
      rcases List.mem_cons.mp hj with rfl | hj
      · omega
      · have := hlow j hj; omega
theorem cb_in_next {c : Nat → Nat} {k q w : Nat} (h : cb_in c k q w) : cb_in c (k + 1) q w := by
  rcases h with ⟨j, h1, h2, h3, h4⟩ | h
  · exact Or.inl ⟨j, h1, by omega, h3, h4⟩
  · exact Or.inr h
theorem cb_in_prev {c : Nat → Nat} {k q w : Nat} (h : cb_in c (k + 1) q w) (hn : ¬ (c k = w ∧ ∀ i, q ≤ i → i ≤ k → w ≤ c i)) : cb_in c k q w := by
  rcases h with ⟨j, h1, h2, h3, h4⟩ | h
  · by_cases h5 : j = k
    · subst h5; exact absurd ⟨h3, h4⟩ hn
    · exact Or.inl ⟨j, h1, by omega, h3, h4⟩
  · exact Or.inr h
theorem cb_N_same {c : Nat → Nat} {M k q v : Nat} (h : ∀ w, v ≤ w → ¬ (c k = w ∧ ∀ i, q ≤ i → i ≤ k → w ≤ c i)) : cb_N c M (k + 1) q v = cb_N c M k q v := by
  unfold cb_N
  refine cb_num_congr M (fun w _ => ?_)
  by_cases h1 : v ≤ w
  · rw [decide_eq_true h1, Bool.true_and, Bool.true_and]
    cases hb : cb_inb c k q w with
    | true => exact cb_inb_iff.mpr (cb_in_next (cb_inb_iff.mp hb))
    | false =>
      cases hb2 : cb_inb c (k + 1) q w with
      | false => rfl
      | true =>
        have := cb_inb_iff.mpr (cb_in_prev (cb_inb_iff.mp hb2) (h w h1))
        rw [hb] at this; cases this
  · rw [decide_eq_false h1, Bool.false_and, Bool.false_and]
theorem cb_max_congr {P P2 : Nat → Prop} {f f2 : Nat → Nat} {m : Nat} (h : cb_max P f m) (hP : ∀ q, P2 q ↔ P q) (hf : ∀ q, P q → f2 q = f q) : cb_max P2 f2 m := by
  obtain ⟨⟨q, h1, h2⟩, h3⟩ := h
  exact ⟨⟨q, (hP q).mpr h1, by rw [hf q h1]; exact h2⟩, fun z hz => by rw [hf z ((hP z).mp hz)]; exact h3 z ((hP z).mp hz)⟩
theorem cb_hts_low {c : Nat → Nat} {M k : Nat} : ∀ (is : List Nat) (st : cb_St), cb_hts c M k is st → (∀ i, i ∈ is → c i < c k) → cb_hts c M (k + 1) is st := by
  intro is
  induction is with
  | nil => intro st _ _; cases st <;> trivial
  | cons i is ih =>
    intro st h hl
    cases st with
    | nil => trivial
    | cons e st =>
      have h4 := hl i List.mem_cons_self
      refine ⟨cb_max_congr h.1 (fun q => ?_) (fun q hq => ?_), ih st h.2 (fun j hj => hl j (List.mem_cons_of_mem _ hj))⟩
      · constructor
        · intro ⟨⟨a1, a2⟩, j, b1, b2, b3⟩
          have hj : j ≠ k := fun h5 => by rw [h5] at b3; omega
          exact ⟨⟨by omega, fun x hx hx2 => a2 x hx (by omega)⟩, j, b1, by omega, b3⟩
        · intro ⟨⟨a1, a2⟩, j, b1, b2, b3⟩
          refine ⟨⟨by omega, fun x hx hx2 => ?_⟩, j, b1, by omega, b3⟩
          by_cases h5 : x = k
          · rw [h5]; omega
          · exact a2 x hx (by omega)
      · obtain ⟨-, j, b1, b2, b3⟩ := hq
        refine cb_N_same (fun w hw hc => ?_)
        have := hc.2 j b1 (by omega)
        omega
theorem cb_N_top {c : Nat → Nat} {M k q : Nat} (hM : c k < M) (h : cb_seg c k (c k) q) : cb_N c M (k + 1) q (c k) = cb_N c M k q (c k + 1) + 1 := by
  rw [cb_N_succ hM (Or.inl ⟨k, h.1, by omega, rfl, fun i h1 h2 => by
    by_cases h3 : i = k
    · rw [h3]; exact Nat.le_refl _
    · exact h.2 i h1 (by omega)⟩), cb_N_same (fun w hw hc => by have := hc.1; omega)]
theorem cb_top_iff {c : Nat → Nat} {k q : Nat} : (cb_seg c (k + 1) (c k) q ∧ ∃ j, q ≤ j ∧ j < k + 1 ∧ c j = c k) ↔ cb_seg c k (c k) q := by
  constructor
  · intro ⟨⟨a1, a2⟩, j, b1, b2, b3⟩
    exact ⟨by omega, fun x hx hx2 => a2 x hx (by omega)⟩
  · intro ⟨a1, a2⟩
    refine ⟨⟨by omega, fun x hx hx2 => ?_⟩, k, a1, by omega, rfl⟩
    by_cases h5 : x = k
    · rw [h5]; exact Nat.le_refl _
    · exact a2 x hx (by omega)
/-- one gap more: heights -/
theorem cb_add_ht {c : Nat → Nat} {M k h : Nat} {is is2 is3 : List Nat} {st : cb_St} (hM : c k < M) (ha : cb_all c k is) (h2 : ∀ i, i ∈ is2 → i ∈ is ∧ c i < c k + 1) (h2c : ∀ i, i ∈ is → c i < c k + 1 → i ∈ is2) (hpw : is2.Pairwise (fun a b => c b < c a))
    (hs : cb_stk c k is2 st) (hh : cb_hts c M k is2 st) (hm : cb_max (cb_seg c k (c k + 1)) (fun q => cb_N c M k q (c k + 1)) h) (h3 : (is3 = is2 ∧ cb_first c k = false) ∨ (is3 = k :: is2 ∧ cb_first c k = true)) :
    cb_hts c M (k + 1) is3 (cb_add (c k) h st) := by
  have htop : ∀ m, cb_max (cb_seg c k (c k)) (fun q => cb_N c M k q (c k + 1) + 1) m → cb_max (fun q => cb_seg c (k + 1) (c k) q ∧ ∃ j, q ≤ j ∧ j < k + 1 ∧ c j = c k) (fun q => cb_N c M (k + 1) q (c k)) m :=
    fun m hmm => cb_max_congr hmm (fun q => cb_top_iff) (fun q hq => cb_N_top hM hq)
  rcases h3 with ⟨rfl, hf⟩ | ⟨rfl, hf⟩
  · -- the branch is there
    obtain ⟨j, q1, q2, q3⟩ := cb_first_not.mp hf
    obtain ⟨i0, q4, q5, q6⟩ := cb_opens (c := c) (k := k) j q1 (fun q a b => by rw [q2]; exact q3 q a b)
    have hi0 := h2c i0 (ha.2.1 i0 q6) (by omega)
    cases is3 with
    | nil => cases hi0
    | cons i is2 =>
      cases st with
      | nil => exact hs.elim
      | cons en st =>
        obtain ⟨l, ch, ht⟩ := en
        obtain ⟨s1, -, -⟩ := hs
        have s1 : l = c i := s1
        have hlow := (List.pairwise_cons.mp hpw).1
        have hci : c i = c k := by
          have a := (h2 i List.mem_cons_self).2
          rcases List.mem_cons.mp hi0 with rfl | h5
          · omega
          · have := hlow i0 h5; omega
        rw [cb_add, if_pos (by omega)]
        refine ⟨?_, cb_hts_low is2 st hh.2 (fun j hj => by have := hlow j hj; omega)⟩
        show cb_max (fun q => cb_seg c (k + 1) (c i) q ∧ ∃ j, q ≤ j ∧ j < k + 1 ∧ c j = c i) (fun q => cb_N c M (k + 1) q (c i)) (max ht (h + 1))
        have hh1 := hh.1
        have hh1 : cb_max (fun q => cb_seg c k (c i) q ∧ ∃ j, q ≤ j ∧ j < k ∧ c j = c i) (fun q => cb_N c M k q (c i)) ht := hh1
        rw [hci] at hh1 ⊢
        refine htop _ ?_
        obtain ⟨⟨qa, a1, a2⟩, a3⟩ := hm
        obtain ⟨⟨qb, ⟨b1, b2⟩, b3⟩, b4⟩ := hh1
        have a2 : cb_N c M k qa (c k + 1) = h := a2
        have b3 : cb_N c M k qb (c k) = ht := b3
        have hmid : ∀ q, cb_seg c k (c k) q → (∃ j, q ≤ j ∧ j < k ∧ c j = c k) → cb_N c M k q (c k) = cb_N c M k q (c k + 1) + 1 := fun q hq ⟨j, d1, d2, d3⟩ =>
          cb_N_succ hM (Or.inl ⟨j, d1, d2, d3, fun x hx hx2 => hq.2 x hx (by omega)⟩)
        constructor
        · rcases Nat.le_total ht (h + 1) with h5 | h5
          · exact ⟨qa, ⟨a1.1, fun j x y => by have := a1.2 j x y; omega⟩, by show cb_N c M k qa (c k + 1) + 1 = _; rw [a2, Nat.max_eq_right h5]⟩
          · exact ⟨qb, b1, by show cb_N c M k qb (c k + 1) + 1 = _; rw [← hmid qb b1 b2, b3, Nat.max_eq_left h5]⟩
        · intro q hq
          show cb_N c M k q (c k + 1) + 1 ≤ _
          by_cases h5 : ∃ j, q ≤ j ∧ j < k ∧ c j = c k
          · rw [← hmid q hq h5]
            have : cb_N c M k q (c k) ≤ ht := b4 q ⟨hq, h5⟩
            exact Nat.le_trans this (Nat.le_max_left _ _)
          · have h6 : cb_seg c k (c k + 1) q := ⟨hq.1, fun j x y => by
              have h7 := hq.2 j x y
              rcases Nat.lt_or_ge (c k) (c j) with h8 | h8
              · omega
              · exact absurd ⟨j, x, y, by omega⟩ h5⟩
            have : cb_N c M k q (c k + 1) ≤ h := a3 q h6
            exact Nat.le_trans (by omega) (Nat.le_max_right _ _)
  · -- a new branch
    have hno : ∀ i, cb_open c k i → c i < c k + 1 → c i < c k := fun i q1 q2 => by
      rcases Nat.lt_or_ge (c i) (c k) with h5 | h5
      · exact h5
      · have : cb_first c k = false := cb_first_not.mpr ⟨i, q1.1, by omega, fun q a b => by have := q1.2.2 q a b; omega⟩
        rw [hf] at this; cases this
    have hnew : cb_max (fun q => cb_seg c (k + 1) (c k) q ∧ ∃ j, q ≤ j ∧ j < k + 1 ∧ c j = c k) (fun q => cb_N c M (k + 1) q (c k)) (h + 1) := by
      refine htop _ ?_
      obtain ⟨⟨qa, a1, a2⟩, a3⟩ := hm
      have a2 : cb_N c M k qa (c k + 1) = h := a2
      refine ⟨⟨qa, ⟨a1.1, fun j x y => by have := a1.2 j x y; omega⟩, by show cb_N c M k qa (c k + 1) + 1 = _; rw [a2]⟩, fun q hq => ?_⟩
      have : cb_N c M k q (c k + 1) ≤ h := a3 q (cb_seg_jump hno hq)
      show cb_N c M k q (c k + 1) + 1 ≤ _
      omega
    have hlow : ∀ i, i ∈ is2 → c i < c k := fun i hi => hno i (ha.1 i (h2 i hi).1) (h2 i hi).2
    cases st with
    | nil =>
      rw [cb_add]
      exact ⟨hnew, by cases is2 <;> trivial⟩
    | cons en st =>
      obtain ⟨l, ch, ht⟩ := en
      cases is2 with
      | nil => exact hs.elim
      | cons i is2 =>
        have s1 : l = c i := hs.1
        rw [cb_add, if_neg (by have := hlow i List.mem_cons_self; omega)]
        exact ⟨hnew, cb_hts_low (i :: is2) ((l, ch, ht) :: st) hh hlow⟩
theorem cb_run_ht (c : Nat → Nat) (M g : Nat) (hM : ∀ i, i < g → c i < M) : ∀ k, k ≤ g → ∃ is, cb_all c k is ∧ cb_stk c k is (cb_run c k).1 ∧ cb_hts c M k is (cb_run c k).1 := by
  intro k
  induction k with
  | zero => exact fun _ => ⟨[], ⟨fun i hi => (by cases hi), fun i hi => absurd hi.1 (by omega), List.Pairwise.nil⟩, trivial, trivial⟩
  | succ k ih =>
    intro hk
    obtain ⟨is, ha, hs, hh⟩ := ih (by omega)
    obtain ⟨pr, is2, e, p1, p2, p3, -, -⟩ := cb_close_stk (c := c) (k := k) (v := c k + 1) (cb_run c k).1 is 0 (cb_run c k).2.1 (cb_run c k).2.2 hs ha.2.2
    have hseg : cb_max (cb_seg c k M) (fun q => cb_N c M k q M) 0 := by
      have h0 : ∀ q, cb_N c M k q M = 0 := fun q => by
        unfold cb_N
        have : ∀ n, n ≤ M → cb_num (fun w => decide (M ≤ w) && cb_inb c k q w) n = 0 := by
          intro n
          induction n with
          | zero => exact fun _ => rfl
          | succ n ih => intro hn; rw [cb_num, ih (by omega), decide_eq_false (by omega), Bool.false_and, if_neg (by decide)]
        exact this M (Nat.le_refl _)
      exact ⟨⟨k, ⟨Nat.le_refl _, fun j h1 h2 => by omega⟩, h0 k⟩, fun q _ => Nat.le_of_eq (h0 q)⟩
    obtain ⟨m1, pr', is2', e', p1', p2', p3'⟩ := cb_close_ht (c := c) (M := M) (k := k) (v := c k + 1) (fun i hi => hM i (by omega)) (cb_run c k).1 is M 0 (cb_run c k).2.1 (cb_run c k).2.2 hs hh ha.2.2 (fun i hi => ⟨ha.1 i hi, hM i (by have := (ha.1 i hi).1; omega)⟩) (fun i hi _ => ha.2.1 i hi) (hM k (by omega)) hseg
    have hsame : is2' = is2 := by
      have key : ∀ (pr pr' is2 is2' : List Nat), pr ++ is2 = pr' ++ is2' → (∀ i, i ∈ pr → c k + 1 ≤ c i) → (∀ i, i ∈ is2 → c i < c k + 1) → (∀ i, i ∈ pr' → c k + 1 ≤ c i) → (∀ i, i ∈ is2' → c i < c k + 1) → is2' = is2 := by
        intro pr
        induction pr with
        | nil =>
          intro pr' is2 is2' e a b a' b'
          cases pr' with
          | nil => exact e.symm
          | cons x t =>
            have h5 := a' x List.mem_cons_self
            have h6 := b x (by rw [show is2 = x :: (t ++ is2') from e]; exact List.mem_cons_self)
            omega
        | cons y t ih =>
          intro pr' is2 is2' e a b a' b'
          cases pr' with
          | nil =>
            have h5 := a y List.mem_cons_self
            have h6 := b' y (by rw [show is2' = y :: (t ++ is2) from e.symm]; exact List.mem_cons_self)
            omega
          | cons x t' =>
            have e2 : t ++ is2 = t' ++ is2' := (List.cons.inj e).2
            exact ih t' is2 is2' e2 (fun i hi => a i (List.mem_cons_of_mem _ hi)) b (fun i hi => a' i (List.mem_cons_of_mem _ hi)) b'
      exact key pr pr' is2 is2' (e.symm.trans e') p1 p2 p1' p2'
    subst hsame
    obtain ⟨is3, q1, q2, q3⟩ := cb_add_stk (h := (cb_close (c k + 1) (cb_run c k).1 0 (cb_run c k).2.1 (cb_run c k).2.2).2.1) ha e p1 p2 p3
    refine ⟨is3, q1, q2, cb_add_ht (hM k (by omega)) ha (fun i hi => ⟨by rw [e]; exact List.mem_append_right _ hi, p2 i hi⟩) (fun i hi hc => ?_) ?_ p3 p3' m1 q3⟩
    · rw [e] at hi
      rcases List.mem_append.mp hi with h5 | h5
      · have := p1 i h5; omega
      · exact h5
    · have h5 := ha.2.2
      rw [e] at h5
      exact (List.pairwise_append.mp h5).2.1
/-- the deepest -/
theorem cb_end_deep (c : Nat → Nat) (M g : Nat) (hM : ∀ i, i < g → c i < M) : cb_max (fun q => q ≤ g) (fun q => cb_N c M g q 0) (cb_end c g).1 := by
  obtain ⟨is, ha, hs, hh⟩ := cb_run_ht c M g hM g (Nat.le_refl _)
  have hseg : cb_max (cb_seg c g M) (fun q => cb_N c M g q M) 0 := by
    have h0 : ∀ q, cb_N c M g q M = 0 := fun q => by
      unfold cb_N
      have : ∀ n, n ≤ M → cb_num (fun w => decide (M ≤ w) && cb_inb c g q w) n = 0 := by
        intro n
        induction n with
        | zero => exact fun _ => rfl
        | succ n ih => intro hn; rw [cb_num, ih (by omega), decide_eq_false (by omega), Bool.false_and, if_neg (by decide)]
      exact this M (Nat.le_refl _)
    exact ⟨⟨g, ⟨Nat.le_refl _, fun j h1 h2 => by omega⟩, h0 g⟩, fun q _ => Nat.le_of_eq (h0 q)⟩
  obtain ⟨m1, -⟩ := cb_close_ht (c := c) (M := M) (k := g) (v := 0) hM (cb_run c g).1 is M 0 (cb_run c g).2.1 (cb_run c g).2.2 hs hh ha.2.2 (fun i hi => ⟨ha.1 i hi, hM i (ha.1 i hi).1⟩) (fun i hi _ => ha.2.1 i hi) (Nat.zero_le _) hseg
  exact cb_max_congr m1 (fun q => ⟨fun h => ⟨h, fun _ _ _ => Nat.zero_le _⟩, fun h => h.1⟩) (fun q _ => rfl)
