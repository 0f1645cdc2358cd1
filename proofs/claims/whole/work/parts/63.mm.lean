/-! the codes' bytes as the reference writes them -/
theorem uN_sar (x : Int64) {sh : Int32} {k : Nat} (h : sh.toInt = (k : Int)) (hk : k ≤ 56) : uN (x >>> (sh.toInt64 &&& 63)) % 256 = uN x / 2 ^ k % 256 := by
  rw [ia_nI h]
  have hd : (((nI k).toInt64 &&& 63).toBitVec.smod 64).toNat = k := (by decide +kernel : ∀ k : Fin 64, (((nI k.val).toInt64 &&& 63).toBitVec.smod 64).toNat = k.val) ⟨k, by omega⟩
  show (x.toBitVec.sshiftRight (((nI k).toInt64 &&& 63).toBitVec.smod 64).toNat).toNat % 256 = x.toBitVec.toNat / 2 ^ k % 256
  rw [hd]
  apply Nat.eq_of_testBit_eq
  intro i
  rw [show (256 : Nat) = 2 ^ 8 from rfl, Nat.testBit_mod_two_pow, Nat.testBit_mod_two_pow]
  by_cases hi : i < 8
  · rw [decide_eq_true hi, Bool.true_and, Bool.true_and, Nat.testBit_div_two_pow, BitVec.testBit_toNat, BitVec.testBit_toNat, BitVec.getLsbD_sshiftRight, decide_eq_false (show ¬ 64 ≤ i by omega), if_pos (show k + i < 64 by omega), Nat.add_comm i]
    rfl
  · rw [decide_eq_false hi, Bool.false_and, Bool.false_and]
theorem enc_b {x y z : Int64} {b sh : Int32} {k : Nat} (e1 : y = x >>> (sh.toInt64 &&& 63)) (e2 : z = y &&& 255) (e3 : b = z.toInt32) (h : sh.toInt = (k : Int)) (hk : k ≤ 56) : b.toInt = ((uN x / 2 ^ k % 256 : Nat) : Int) := by
  have h1 : uN z = uN x / 2 ^ k % 256 := by
    rw [e2, uN_and, show uN 255 = 2 ^ 8 - 1 from rfl, Nat.and_two_pow_sub_one_eq_mod, e1]
    exact uN_sar x h hk
  rw [← h1]
  have h0 : uN z < 256 := by rw [h1]; exact Nat.mod_lt _ (by decide)
  have h2 : b.toInt = z.toInt.bmod (2 ^ 32) := by rw [e3]; exact Int64.toInt_toInt32 z
  have h3 := uN_int z
  rw [if_pos (by omega)] at h3
  rw [Int.bmod_def, h3] at h2
  omega
theorem byx (x : Int64) {j : Nat} (hj : j < 8) : by_L (x ^^^ (-9223372036854775808)) j = if j = 0 then (uN x / 2 ^ 56 % 256 + 128) % 256 else uN x / 2 ^ (56 - 8 * j) % 256 := by
  have hx := uN_lt x
  unfold by_L
  rw [uN_xor]
  rcases (show j = 0 ∨ j = 1 ∨ j = 2 ∨ j = 3 ∨ j = 4 ∨ j = 5 ∨ j = 6 ∨ j = 7 by omega) with rfl | rfl | rfl | rfl | rfl | rfl | rfl | rfl
  · rw [if_pos rfl]
    show (uN x + 9223372036854775808) % 18446744073709551616 / 72057594037927936 % 256 = (uN x / 72057594037927936 % 256 + 128) % 256
    omega
  · rw [if_neg (by decide)]
    show (uN x + 9223372036854775808) % 18446744073709551616 / 281474976710656 % 256 = uN x / 281474976710656 % 256
    omega
  · rw [if_neg (by decide)]
    show (uN x + 9223372036854775808) % 18446744073709551616 / 1099511627776 % 256 = uN x / 1099511627776 % 256
    omega
  · rw [if_neg (by decide)]
    show (uN x + 9223372036854775808) % 18446744073709551616 / 4294967296 % 256 = uN x / 4294967296 % 256
    omega
  · rw [if_neg (by decide)]
    show (uN x + 9223372036854775808) % 18446744073709551616 / 16777216 % 256 = uN x / 16777216 % 256
    omega
  · rw [if_neg (by decide)]
    show (uN x + 9223372036854775808) % 18446744073709551616 / 65536 % 256 = uN x / 65536 % 256
    omega
  · rw [if_neg (by decide)]
    show (uN x + 9223372036854775808) % 18446744073709551616 / 256 % 256 = uN x / 256 % 256
    omega
  · rw [if_neg (by decide)]
    show (uN x + 9223372036854775808) % 18446744073709551616 / 1 % 256 = uN x / 1 % 256
    omega
theorem x128 {a z : Int32} (e : z = a ^^^ 128) (h : 0 ≤ a.toInt ∧ a.toInt < 256) : z.toInt = (a.toInt + 128) % 256 := by
  have h1 : a = nI a.toInt.toNat := ia_nI (by omega)
  have h2 := (by decide +kernel : ∀ k : Fin 256, (nI k.val ^^^ 128).toInt = ((nI k.val).toInt + 128) % 256) ⟨a.toInt.toNat, by omega⟩
  rw [← h1] at h2
  rw [e]
  exact h2
theorem x0 {a z : Int32} (e : z = a ^^^ 0) : z = a := by rw [e]; exact Int32.xor_zero
theorem rw_take2 : ∀ (L : List Nat) (k : Nat), k < L.length → L.getD k 0 = 0 → rw_b L (rw_n (L.take k) + 1) = 255 := by
  intro L
  induction L with
  | nil => intro k hk; exact absurd hk (by simp)
  | cons a L ih =>
    intro k hk h0
    cases k with
    | zero =>
      have ha : a = 0 := h0
      rw [List.take_zero, rw_n, rw_b, if_pos ha, if_neg (by omega), if_pos (by omega)]
    | succ k =>
      have h1 := ih k (by rw [List.length_cons] at hk; omega) h0
      rw [List.take_succ_cons, rw_n, rw_b]
      by_cases ha : a = 0
      · rw [if_pos ha, if_pos ha, if_neg (by omega), if_neg (by omega), show 2 + rw_n (List.take k L) + 1 - 2 = rw_n (List.take k L) + 1 by omega]; exact h1
      · rw [if_neg ha, if_neg ha, if_neg (by omega), show 1 + rw_n (List.take k L) + 1 - 1 = rw_n (List.take k L) + 1 by omega]; exact h1
theorem ml_take : ∀ (m k : Nat) (f : Nat → Nat), k ≤ m → (ml f m).take k = ml f k := by
  intro m
  induction m with
  | zero => intro k f hk; rw [show k = 0 by omega]; rfl
  | succ m ih =>
    intro k f hk
    cases k with
    | zero => rfl
    | succ k => rw [ml, List.take_succ_cons, ih k _ (by omega), ml]
def cl (sg : Int) (w : Nat) (p3 p4 : Nat → Int32) (x : Nat) : Nat := if sg = 2 then rw_n (mk_let p3 p4 x) + 2 else 8 * w
theorem cl_le {sg : Int} {w : Nat} {p1 p2 : Nat → Int64} {p3 p4 : Nat → Int32} {x : Nat} {u : Nat → Int64} (hws : (sg = 0 ∧ w = 1) ∨ (sg = 1 ∧ w = 2) ∨ (sg = 2 ∧ w = 7)) (hu : KR sg p1 p2 p3 p4 x u) : 2 ≤ cl sg w p3 p4 x ∧ cl sg w p3 p4 x ≤ 50 := by
  unfold cl
  rcases hws with h | h | h
  · rw [if_neg (by omega)]; omega
  · rw [if_neg (by omega)]; omega
  · rw [if_pos (by omega)]
    have h1 := rw_n_le (mk_let p3 p4 x)
    have h2 : (mk_let p3 p4 x).length ≤ 24 := by
      unfold mk_let
      rw [ml_len]
      rcases hu with h3 | h3 | h3
      · omega
      · omega
      · have := h3.2.2.2.1; omega
    omega
theorem cl_sh {sg : Int} {w : Nat} {p1 p2 : Nat → Int64} {p3 p4 : Nat → Int32} {x y : Nat} {u v : Nat → Int64} (hws : (sg = 0 ∧ w = 1) ∨ (sg = 1 ∧ w = 2) ∨ (sg = 2 ∧ w = 7)) (hu : KR sg p1 p2 p3 p4 x u) (hv : KR sg p1 p2 p3 p4 y v) (hlt : kw_lt w u v) : sh_w w v u < cl sg w p3 p4 x ∧ sh_w w v u < cl sg w p3 p4 y := by
  have hne : sh_w w v u < 8 * w := by
    have h1 := sh_w_le w v u
    rcases Nat.lt_or_ge (sh_w w v u) (8 * w) with h2 | h2
    · exact h2
    · exact absurd hlt (kw_irr (kw_eq_symm (sh_w_full.mp (Nat.le_antisymm h1 h2))))
  unfold cl
  rcases hws with h | h | h
  · rw [if_neg (by omega), if_neg (by omega)]; exact ⟨hne, hne⟩
  · rw [if_neg (by omega), if_neg (by omega)]; exact ⟨hne, hne⟩
  · rw [if_pos (by omega), if_pos (by omega)]
    rw [h.2] at hlt hne ⊢
    have ku : (∀ d, d < 56 → by_w u d = rw_b (mk_let p3 p4 x) d) ∧ (mk_let p3 p4 x).length ≤ 24 := by
      rcases hu with h3 | h3 | h3
      · omega
      · omega
      · exact ⟨h3.2.1, by unfold mk_let; rw [ml_len]; have := h3.2.2.2.1; omega⟩
    have kv : (∀ d, d < 56 → by_w v d = rw_b (mk_let p3 p4 y) d) ∧ (mk_let p3 p4 y).length ≤ 24 := by
      rcases hv with h3 | h3 | h3
      · omega
      · omega
      · exact ⟨h3.2.1, by unfold mk_let; rw [ml_len]; have := h3.2.2.2.1; omega⟩
    have hr := (kr_rows ku.2 kv.2 ku.1 kv.1).1.mp hlt
    obtain ⟨d, h1, h2, h3, h4⟩ := rw_first _ _ hr
    have hn := rw_n_le (mk_let p3 p4 x)
    have hk2 := ku.2
    have := sh_w_is (n := 7) (d := d) (a := v) (b := u) (by omega) (fun i hi => by rw [ku.1 i (by omega), kv.1 i (by omega)]; exact (h3 i hi).symm) (by rw [ku.1 d (by omega), kv.1 d (by omega)]; omega)
    rw [this]
    exact ⟨h1, h2⟩
theorem cb_run_congr {c c2 : Nat → Nat} : ∀ g, (∀ i, i < g → c i = c2 i) → cb_run c g = cb_run c2 g := by
  intro g
  induction g with
  | zero => intro _; rfl
  | succ g ih =>
    intro h
    have h1 := ih (fun i hi => h i (by omega))
    have h2 := h g (by omega)
    unfold cb_run
    rw [h1, h2]
theorem cb_end_congr {c c2 : Nat → Nat} {g : Nat} (h : ∀ i, i < g → c i = c2 i) : cb_end c g = cb_end c2 g := by
  unfold cb_end
  rw [cb_run_congr g h]
theorem cb_in_congr {c c2 : Nat → Nat} {k q v : Nat} (hq : q ≤ k) (h : ∀ i, i < k → c i = c2 i) : cb_in c k q v → cb_in c2 k q v := by
  rintro (⟨j, h1, h2, h3, h4⟩ | ⟨j, h1, h3, h4⟩)
  · exact Or.inl ⟨j, h1, h2, by rw [← h j h2]; exact h3, fun i a1 a2 => by rw [← h i (by omega)]; exact h4 i a1 a2⟩
  · exact Or.inr ⟨j, h1, by rw [← h j (by omega)]; exact h3, fun i a1 a2 => by rw [← h i (by omega)]; exact h4 i a1 a2⟩
theorem cb_N_congr {c c2 : Nat → Nat} {M k q v : Nat} (hq : q ≤ k) (h : ∀ i, i < k → c i = c2 i) : cb_N c M k q v = cb_N c2 M k q v := by
  unfold cb_N
  refine cb_num_congr M (fun i hi => ?_)
  congr 1
  rw [Bool.eq_iff_iff, cb_inb_iff, cb_inb_iff]
  exact ⟨cb_in_congr hq h, cb_in_congr hq (fun i hi => (h i hi).symm)⟩
theorem cb_num_cut {p : Nat → Bool} {m : Nat} : ∀ n, m ≤ n → (∀ i, m ≤ i → i < n → p i = false) → cb_num p n = cb_num p m := by
  intro n
  induction n with
  | zero => intro h _; rw [show m = 0 by omega]
  | succ n ih =>
    intro h h2
    by_cases h3 : m = n + 1
    · rw [h3]
    · rw [cb_num, ih (by omega) (fun i a b => h2 i a (by omega)), h2 n (by omega) (by omega), if_neg (by decide), Nat.add_zero]
theorem cb_N_zero (c : Nat → Nat) (M v : Nat) : cb_N c M 0 0 v = 0 := by
  unfold cb_N
  rw [cb_num_cut (m := 0) M (Nat.zero_le _) (fun i _ _ => ?_)]
  · rfl
  · have : cb_inb c 0 0 i = false := by
      cases h : cb_inb c 0 0 i with
      | false => rfl
      | true =>
        rcases cb_inb_iff.mp h with ⟨j, _, h2, _⟩ | ⟨j, h2, _⟩ <;> omega
    rw [this, Bool.and_false]
theorem dr_stop {c : Nat → Nat} {M q b k v : Nat} (hM : 0 < M) (h : dm_ok c M q b 0) (hb : b ≤ k) : dr_in c q k v ↔ dr_in c q b v := by
  obtain ⟨h1, h2⟩ := h
  rcases h2 with h2 | ⟨z, z1, z2, z3⟩
  · omega
  · constructor
    · rintro ⟨j, a1, a2, a3, a4⟩
      by_cases hj : j < b
      · exact ⟨j, a1, hj, a3, a4⟩
      · have := a4 z z1 (by omega)
        have hv : v = 0 := by omega
        exact ⟨z, z1, z2, by omega, fun i _ _ => by omega⟩
    · rintro ⟨j, a1, a2, a3, a4⟩
      exact ⟨j, a1, by omega, a3, a4⟩
theorem dl_stop {c : Nat → Nat} {M q a v : Nat} (hM : 0 < M) (h : dm_ok c M a q 0) : dl_in c q 0 v ↔ dl_in c q a v := by
  obtain ⟨h1, h2⟩ := h
  rcases h2 with h2 | ⟨z, z1, z2, z3⟩
  · omega
  · constructor
    · rintro ⟨j, a1, a2, a3, a4⟩
      by_cases hj : a ≤ j
      · exact ⟨j, hj, a2, a3, a4⟩
      · have := a4 z (by omega) z2
        exact ⟨z, z1, z2, by omega, fun i _ _ => by omega⟩
    · rintro ⟨j, a1, a2, a3, a4⟩
      exact ⟨j, Nat.zero_le _, a2, a3, a4⟩
def bcell (s : Nat) : Nat := if s = 0 then 9 else if s = 1 then 24 else if s = 2 then 116 else 260
def cp_k (CL : Nat → Nat) : Nat → Nat
  | 0 => 0
  | k + 1 => cp_k CL k + (4 + (CL k + 3) / 4)
def cp_b (c : Nat → Nat) (g : Nat) : Nat → Nat
  | 0 => 0
  | k + 1 => cp_b c g k + (if cb_first c k = true then bcell (cb_size (cb_ch c g k)) else 0)
def cp_n (c : Nat → Nat) (g s k : Nat) : Nat := cb_num (fun i => cb_first c i && (cb_size (cb_ch c g i) == s)) k
theorem cp_n_s (c : Nat → Nat) (g s k : Nat) : cp_n c g s (k + 1) = cp_n c g s k + (if cb_first c k = true then (if cb_size (cb_ch c g k) = s then 1 else 0) else 0) := by
  unfold cp_n
  rw [cb_num]
  congr 1
  by_cases h : cb_first c k = true
  · rw [if_pos h, h, Bool.true_and]
    by_cases h2 : cb_size (cb_ch c g k) = s
    · rw [if_pos h2, if_pos (beq_iff_eq.mpr h2)]
    · rw [if_neg h2, if_neg (fun h3 => h2 (beq_iff_eq.mp h3))]
  · rw [if_neg h, Bool.eq_false_iff.mpr h, Bool.false_and, if_neg (by decide)]
theorem cp_sum (c : Nat → Nat) (g : Nat) : ∀ k, cp_b c g k = cp_n c g 0 k * 9 + cp_n c g 1 k * 24 + cp_n c g 2 k * 116 + cp_n c g 3 k * 260 := by
  intro k
  induction k with
  | zero => simp [cp_b, cp_n, cb_num]
  | succ k ih =>
    rw [cp_b, ih, cp_n_s, cp_n_s, cp_n_s, cp_n_s]
    by_cases h : cb_first c k = true
    · rw [if_pos h, if_pos h, if_pos h, if_pos h, if_pos h]
      have hl := cb_size_lt (cb_ch c g k)
      unfold bcell
      rcases (show cb_size (cb_ch c g k) = 0 ∨ cb_size (cb_ch c g k) = 1 ∨ cb_size (cb_ch c g k) = 2 ∨ cb_size (cb_ch c g k) = 3 by omega) with h2 | h2 | h2 | h2 <;> rw [h2] <;> simp <;> omega
    · rw [if_neg h, if_neg h, if_neg h, if_neg h, if_neg h]
      omega
