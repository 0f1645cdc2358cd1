/-! how many bits are set: the sum by halves -/
theorem bc_and {a b c d : Nat} (hb : b < 256) (hd : d < 256) : (256 * a + b) &&& (256 * c + d) = 256 * (a &&& c) + (b &&& d) := by
  have hbd : b &&& d < 2 ^ 8 := Nat.lt_of_le_of_lt Nat.and_le_left hb
  apply Nat.eq_of_testBit_eq
  intro i
  have e : (256 : Nat) = 2 ^ 8 := rfl
  rw [Nat.testBit_and, e, Nat.testBit_two_pow_mul_add a (show b < 2 ^ 8 from hb), Nat.testBit_two_pow_mul_add c (show d < 2 ^ 8 from hd), Nat.testBit_two_pow_mul_add (a &&& c) hbd]
  by_cases h : i < 8
  · rw [if_pos h, if_pos h, if_pos h, Nat.testBit_and]
  · rw [if_neg h, if_neg h, if_neg h, Nat.testBit_and]
def bc_m (k : Nat) : Nat → Nat
  | 0 => 0
  | n + 1 => 256 * bc_m k n + k
def bc_1 (n x : Nat) : Nat := x - (x / 2 &&& bc_m 85 n)
def bc_2 (n x : Nat) : Nat := (bc_1 n x &&& bc_m 51 n) + (bc_1 n x / 4 &&& bc_m 51 n)
def bc_3 (n x : Nat) : Nat := (bc_2 n x + bc_2 n x / 16) &&& bc_m 15 n
def bc_f1 (b : Nat) : Nat := b - (b / 2 &&& 85)
def bc_f2 (b : Nat) : Nat := (bc_f1 b &&& 51) + (bc_f1 b / 4 &&& 51)
def bc_p (b : Nat) : Nat := cb_num (fun i => Nat.testBit b i) 8
theorem bc_b1 : ∀ b, b < 256 → (b / 2 &&& 85) ≤ b ∧ bc_f1 b < 256 ∧ ((128 + b / 2) &&& 85) = (b / 2 &&& 85) := by decide +kernel
theorem bc_b2 : ∀ b, b < 256 → bc_f2 b ≤ 68 ∧ bc_f2 b % 16 ≤ 4 ∧ ∀ t, t < 4 → ((64 * t + bc_f1 b / 4) &&& 51) = (bc_f1 b / 4 &&& 51) := by decide +kernel
theorem bc_b3 : ∀ b, b < 256 → ∀ t, t < 5 → ((bc_f2 b + (16 * t + bc_f2 b / 16)) &&& 15) = bc_p b := by decide +kernel
theorem bc_bp : ∀ b, b < 256 → bc_p b ≤ 8 := by decide +kernel
theorem bc_le (n : Nat) : ∀ x, (x / 2 &&& bc_m 85 n) ≤ x := fun x => Nat.le_trans Nat.and_le_left (Nat.div_le_self _ _)
theorem bc_s1 (n x : Nat) : bc_1 (n + 1) x = 256 * bc_1 n (x / 256) + bc_f1 (x % 256) := by
  have hb := bc_b1 (x % 256) (Nat.mod_lt _ (by omega))
  have h1 : x / 2 = 256 * (x / 256 / 2) + (128 * (x / 256 % 2) + x % 256 / 2) := by omega
  have h2 : x / 2 &&& bc_m 85 (n + 1) = 256 * (x / 256 / 2 &&& bc_m 85 n) + (x % 256 / 2 &&& 85) := by
    rw [h1]
    show _ &&& (256 * bc_m 85 n + 85) = _
    rw [bc_and (by omega) (by omega)]
    rcases (show x / 256 % 2 = 0 ∨ x / 256 % 2 = 1 by omega) with h | h
    · rw [h, Nat.mul_zero, Nat.zero_add]
    · rw [h, Nat.mul_one, hb.2.2]
  have h3 := bc_le n (x / 256)
  unfold bc_1 bc_f1
  rw [h2]
  generalize x / 256 / 2 &&& bc_m 85 n = A at h3 ⊢
  generalize hB : x % 256 / 2 &&& 85 = B at hb ⊢
  omega
theorem bc_s2 (n x : Nat) : bc_2 (n + 1) x = 256 * bc_2 n (x / 256) + bc_f2 (x % 256) := by
  have hlt : x % 256 < 256 := Nat.mod_lt _ (by omega)
  have hb1 := (bc_b1 (x % 256) hlt).2.1
  have hb2 := (bc_b2 (x % 256) hlt).2.2
  unfold bc_2
  rw [bc_s1]
  generalize hA : bc_1 n (x / 256) = A
  generalize hF : bc_f1 (x % 256) = F at hb1 hb2
  have h1 : (256 * A + F) / 4 = 256 * (A / 4) + (64 * (A % 4) + F / 4) := by omega
  rw [h1]
  show (_ &&& (256 * bc_m 51 n + 51)) + (_ &&& (256 * bc_m 51 n + 51)) = _
  rw [bc_and hb1 (by omega), bc_and (by omega) (by omega), hb2 (A % 4) (Nat.mod_lt _ (by omega))]
  unfold bc_f2
  rw [hF]
  omega
theorem bc_2lo (n x : Nat) : bc_2 n x % 16 ≤ 4 := by
  cases n with
  | zero => unfold bc_2; show ((_ &&& 0) + (_ &&& 0)) % 16 ≤ 4; rw [Nat.and_zero, Nat.and_zero]; omega
  | succ n =>
    have := (bc_b2 (x % 256) (Nat.mod_lt _ (by omega))).2.1
    rw [bc_s2]; omega
theorem bc_s3 (n x : Nat) : bc_3 (n + 1) x = 256 * bc_3 n (x / 256) + bc_p (x % 256) := by
  have hlt : x % 256 < 256 := Nat.mod_lt _ (by omega)
  have hb2 := (bc_b2 (x % 256) hlt).1
  have hb3 := bc_b3 (x % 256) hlt
  have hlo := bc_2lo n (x / 256)
  unfold bc_3
  rw [bc_s2]
  generalize bc_2 n (x / 256) = A at hlo
  generalize bc_f2 (x % 256) = F at hb2 hb3
  have h1 : 256 * A + F + (256 * A + F) / 16 = 256 * (A + A / 16) + (F + (16 * (A % 16) + F / 16)) := by omega
  rw [h1]
  show _ &&& (256 * bc_m 15 n + 15) = _
  rw [bc_and (by omega) (by omega), hb3 (A % 16) (by omega)]
theorem bc_num (x : Nat) : ∀ m, cb_num (fun i => Nat.testBit x i) (8 + m) = bc_p (x % 256) + cb_num (fun i => Nat.testBit (x / 256) i) m := by
  intro m
  induction m with
  | zero =>
    show cb_num _ 8 = bc_p (x % 256) + 0
    unfold bc_p
    rw [Nat.add_zero]
    refine cb_num_congr 8 (fun i hi => ?_)
    rw [show (256 : Nat) = 2 ^ 8 from rfl, Nat.testBit_mod_two_pow, decide_eq_true hi, Bool.true_and]
  | succ m ih =>
    rw [show 8 + (m + 1) = 8 + m + 1 by omega, cb_num, ih, cb_num, Nat.add_assoc]
    congr 2
    rw [show (256 : Nat) = 2 ^ 8 from rfl, Nat.testBit_div_two_pow, Nat.add_comm]
def bc_sum : Nat → Nat → Nat
  | 0, _ => 0
  | n + 1, x => bc_p (x % 256) + bc_sum n (x / 256)
theorem bc_sum_num : ∀ (n x : Nat), cb_num (fun i => Nat.testBit x i) (8 * n) = bc_sum n x := by
  intro n
  induction n with
  | zero => intro x; rfl
  | succ n ih => intro x; rw [show 8 * (n + 1) = 8 + 8 * n by omega, bc_num, ih]; rfl
theorem bc_dv {m q r : Nat} (h : r < m) : (m * q + r) / m = q := by rw [Nat.mul_add_div (by omega), Nat.div_eq_of_lt h, Nat.add_zero]
theorem bc_z {A B C x y : Nat} (h0 : A = 256 * B + x) (h1 : B = 256 * C + y) : A + B = 256 * (B + C) + (x + y) := by omega
theorem bc_fin {a0 a1 a2 a3 a4 a5 a6 a7 Q0 Q1 Q2 Q3 Q4 Q5 Q6 Q7 : Nat} (p0 : a0 ≤ 8) (p1 : a1 ≤ 8) (p2 : a2 ≤ 8) (p3 : a3 ≤ 8) (p4 : a4 ≤ 8) (p5 : a5 ≤ 8) (p6 : a6 ≤ 8) (p7 : a7 ≤ 8)
    (h0 : Q0 = 256 * Q1 + a0) (h1 : Q1 = 256 * Q2 + a1) (h2 : Q2 = 256 * Q3 + a2) (h3 : Q3 = 256 * Q4 + a3) (h4 : Q4 = 256 * Q5 + a4) (h5 : Q5 = 256 * Q6 + a5) (h6 : Q6 = 256 * Q7 + a6) (h7 : Q7 = 256 * 0 + a7) :
    ((Q0 + Q0 / 256 + (Q0 + Q0 / 256) / 65536) + (Q0 + Q0 / 256 + (Q0 + Q0 / 256) / 65536) / 4294967296) % 128 = a0 + (a1 + (a2 + (a3 + (a4 + (a5 + (a6 + (a7 + 0))))))) := by
  have d1 : Q0 / 256 = Q1 := by rw [h0]; exact bc_dv (by omega)
  rw [d1]
  have h8 : (0 : Nat) = 256 * 0 + 0 := rfl
  have z0 := bc_z h0 h1
  have z1 := bc_z h1 h2
  have z2 := bc_z h2 h3
  have z3 := bc_z h3 h4
  have z4 := bc_z h4 h5
  have z5 := bc_z h5 h6
  have z6 := bc_z h6 h7
  clear h0 h1 h2 h3 h4 h5 h6 d1
  have h7 : Q7 = a7 := by omega
  generalize Q0 + Q1 = Z0 at *
  generalize Q1 + Q2 = Z1 at *
  generalize Q2 + Q3 = Z2 at *
  generalize Q3 + Q4 = Z3 at *
  generalize Q4 + Q5 = Z4 at *
  generalize Q5 + Q6 = Z5 at *
  generalize Q6 + Q7 = Z6 at *
  have d2 : Z0 / 65536 = Z2 := by
    rw [show (65536 : Nat) = 256 * 256 from rfl, ← Nat.div_div_eq_div_mul, z0, bc_dv (by omega), z1, bc_dv (by omega)]
  rw [d2]
  have x0 : Z0 + Z2 = 256 * (Z1 + Z3) + ((a0 + a1) + (a2 + a3)) := by rw [z0, z2, Nat.mul_add]; omega
  have x1 : Z1 + Z3 = 256 * (Z2 + Z4) + ((a1 + a2) + (a3 + a4)) := by rw [z1, z3, Nat.mul_add]; omega
  have x2 : Z2 + Z4 = 256 * (Z3 + Z5) + ((a2 + a3) + (a4 + a5)) := by rw [z2, z4, Nat.mul_add]; omega
  have x3 : Z3 + Z5 = 256 * (Z4 + Z6) + ((a3 + a4) + (a5 + a6)) := by rw [z3, z5, Nat.mul_add]; omega
  have x4 : Z4 + Z6 = 256 * (Z5 + Q7) + ((a4 + a5) + (a6 + a7)) := by rw [z4, z6, Nat.mul_add]; omega
  clear z0 z1 z2 z3 z4 z5 z6 d2
  generalize Z0 + Z2 = X0 at *
  generalize Z1 + Z3 = X1 at *
  generalize Z2 + Z4 = X2 at *
  generalize Z3 + Z5 = X3 at *
  generalize Z4 + Z6 = X4 at *
  have d3 : X0 / 4294967296 = X4 := by
    rw [show (4294967296 : Nat) = 256 * (256 * (256 * 256)) from rfl, ← Nat.div_div_eq_div_mul, ← Nat.div_div_eq_div_mul, ← Nat.div_div_eq_div_mul, x0, bc_dv (by omega), x1, bc_dv (by omega), x2, bc_dv (by omega), x3, bc_dv (by omega)]
  rw [d3]
  clear d3 x1 x2 x3
  omega
theorem bc_small {a0 a1 a2 a3 a4 a5 a6 a7 Q0 Q1 Q2 Q3 Q4 Q5 Q6 Q7 : Nat} (p0 : a0 ≤ 8) (p1 : a1 ≤ 8) (p2 : a2 ≤ 8) (p3 : a3 ≤ 8) (p4 : a4 ≤ 8) (p5 : a5 ≤ 8) (p6 : a6 ≤ 8) (p7 : a7 ≤ 8)
    (h0 : Q0 = 256 * Q1 + a0) (h1 : Q1 = 256 * Q2 + a1) (h2 : Q2 = 256 * Q3 + a2) (h3 : Q3 = 256 * Q4 + a3) (h4 : Q4 = 256 * Q5 + a4) (h5 : Q5 = 256 * Q6 + a5) (h6 : Q6 = 256 * Q7 + a6) (h7 : Q7 = 256 * 0 + a7) : Q0 < 1152921504606846976 := by
  have g7 : Q7 ≤ 8 := by omega
  have g6 : Q6 ≤ 2056 := by clear h0 h1 h2 h3 h4 h5; omega
  have g5 : Q5 ≤ 526344 := by clear h0 h1 h2 h3 h4 h6 h7; omega
  have g4 : Q4 ≤ 134744072 := by clear h0 h1 h2 h3 h5 h6 h7; omega
  have g3 : Q3 ≤ 34494482440 := by clear h0 h1 h2 h4 h5 h6 h7; omega
  have g2 : Q2 ≤ 8830587504648 := by clear h0 h1 h3 h4 h5 h6 h7; omega
  have g1 : Q1 ≤ 2260630401189896 := by clear h0 h2 h3 h4 h5 h6 h7; omega
  clear h1 h2 h3 h4 h5 h6 h7
  omega
theorem bc_all (x : Nat) : ((bc_3 8 x + bc_3 8 x / 256 + (bc_3 8 x + bc_3 8 x / 256) / 65536) + (bc_3 8 x + bc_3 8 x / 256 + (bc_3 8 x + bc_3 8 x / 256) / 65536) / 4294967296) % 128 = cb_num (fun i => Nat.testBit x i) 64 ∧ bc_3 8 x < 1152921504606846976 := by
  rw [show (64 : Nat) = 8 * 8 from rfl, bc_sum_num]
  have h0 : ∀ y, bc_3 0 y = 0 := fun y => by unfold bc_3; exact Nat.and_zero _
  have lt : ∀ y, y % 256 < 256 := fun y => Nat.mod_lt _ (by omega)
  refine ⟨bc_fin (bc_bp _ (lt _)) (bc_bp _ (lt _)) (bc_bp _ (lt _)) (bc_bp _ (lt _)) (bc_bp _ (lt _)) (bc_bp _ (lt _)) (bc_bp _ (lt _)) (bc_bp _ (lt _)) (bc_s3 7 x) (bc_s3 6 _) (bc_s3 5 _) (bc_s3 4 _) (bc_s3 3 _) (bc_s3 2 _) (bc_s3 1 _) (by rw [bc_s3 0, h0]), bc_small (bc_bp _ (lt _)) (bc_bp _ (lt _)) (bc_bp _ (lt _)) (bc_bp _ (lt _)) (bc_bp _ (lt _)) (bc_bp _ (lt _)) (bc_bp _ (lt _)) (bc_bp _ (lt _)) (bc_s3 7 x) (bc_s3 6 _) (bc_s3 5 _) (bc_s3 4 _) (bc_s3 3 _) (bc_s3 2 _) (bc_s3 1 _) (by rw [bc_s3 0, h0])⟩
theorem uN_and (x y : Int64) : uN (x &&& y) = uN x &&& uN y := UInt64.toNat_and _ _
theorem uN_sub (x y : Int64) (h : uN y ≤ uN x) : uN (x - y) = uN x - uN y := by
  have hx := uN_lt x
  have h1 : uN (x - y) = (18446744073709551616 - uN y + uN x) % 18446744073709551616 := UInt64.toNat_sub _ _
  rw [h1]; omega
theorem uN_or2 (x y : Int64) : uN (x ||| y) = uN x ||| uN y := UInt64.toNat_or _ _
theorem uN_low7 {y : Int64} {z : Int32} (e : z = y.toInt32) : z.toInt % 128 = ((uN y % 128 : Nat) : Int) := by
  have h1 := uN_low e
  omega
theorem uN_bit1 {sh : Int32} {k : Nat} {o : Int64} (ho : o = 1) (hs : sh.toInt = (k : Int)) (hk : k < 64) : uN (o <<< (sh.toInt64 &&& 63)) = 2 ^ k := by
  rw [ho, ia_nI hs, show (1 : Int64) = lN 1 from rfl, wb_shl 1 hk, Nat.one_mul]
  have h1 : 2 ^ k ≤ 2 ^ 63 := Nat.pow_le_pow_right (by omega) (by omega)
  exact uN_lN (by omega)
theorem ix_xor {x y z : Int32} (e : z = x ^^^ y) (hy : 0 ≤ y.toInt) : 0 ≤ z.toInt ↔ 0 ≤ x.toInt := by
  have hm : ∀ v : Int32, 0 ≤ v.toInt ↔ v.toBitVec.msb = false := fun v => by
    have h1 : v.toInt = v.toBitVec.toInt := rfl
    rw [h1, BitVec.toInt_eq_msb_cond]
    have h2 := v.toBitVec.isLt
    cases v.toBitVec.msb
    · simp
    · simp; omega
  rw [hm, hm, e]
  have h3 : y.toBitVec.msb = false := (hm y).mp hy
  rw [Int32.toBitVec_xor, BitVec.msb_xor, h3, Bool.xor_false]
