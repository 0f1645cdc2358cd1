set_option maxRecDepth 100000 in
set_option maxHeartbeats 4000000 in
theorem c_Mo_load (l : Launch) (D : va_G) (cL cI : ClassId) (mo m1 m2 m3 m4 m5 m6 m7 m8 m9 ma mb : Nat) (mso mct mfr mcu mth : Int32) (p1 p2 p5 : Nat → Int64) (p3 p4 p6 p7 p8 p9 pa pb : Nat → Int32) (w : Nat) (KW : Nat → Nat → Int64) (n : Nat) (x0 y0 : Int64) (n0 : Int32) (sz : Nat) (hws : (mso.toInt = 0 ∧ w = 1) ∨ (mso.toInt = 1 ∧ w = 2) ∨ (mso.toInt = 2 ∧ w = 7)) (hkr : ∀ x, x < 1503 → KR mso.toInt p1 p2 p3 p4 x (KW x)) (hct : mct.toInt = (n : Int)) (hn : n ≤ 1500) (hfr : mfr.toInt = 1500 - (n : Int)) (hmi : MI n p6 p7) : Met l y_Mo_load (Cond.code y_Mo_load prog_6_method_34_code 12 none :: TW) ({ frames := 3, cells := 0, slots := 0, locals := 88 } : Room) (PM D cL cI [.ref mo, .long x0, .int n0, .long y0] [(mo, .inr (4, [.int mso, .ref m1, .ref m2, .ref m3, .ref m4, .ref m5, .ref m6, .int mct, .ref m7, .int mfr, .int mcu, .int mth, .ref m8, .ref m9, .ref ma, .ref mb])), (m1, .inl (cL, 1503, .inr (.inl p1))), (m2, .inl (cL, 1503, .inr (.inl p2))), (m3, .inl (cI, 36072, .inl p3)), (m4, .inl (cI, 1503, .inl p4)), (m5, .inl (cL, 1500, .inr (.inl p5))), (m6, .inl (cI, 1500, .inl p6)), (m7, .inl (cI, 1500, .inl p7)), (m8, .inl (cI, 50, .inl p8)), (m9, .inl (cI, 50, .inl p9)), (ma, .inl (cI, 1500, .inl pa)), (mb, .inl (cI, 50, .inl pb))] sz) (va_Qv (fun (u : (Int32) × (Int32) × (Int32) × (Nat → Int64) × (Nat → Int64) × (Nat → Int32) × (Nat → Int32) × (Nat → Int64) × (Nat → Int32)) => ((mso.toInt ≠ 0 ∨ 0 < n) ∧ u.1.toInt = 1 ∧ u.2.1 = mct ∧ u.2.2.1 = mfr ∧ u.2.2.2.2.2.2.2.2 = p6 ∧ u.2.2.2.2.2.2.2.1 = p5 ∧ u.2.2.2.1 = p1 ∧ u.2.2.2.2.1 = p2 ∧ u.2.2.2.2.2.1 = p3 ∧ u.2.2.2.2.2.2.1 = p4) ∨ (mso.toInt = 0 ∧ n = 0 ∧ ¬ (1 ≤ x0.toInt ∧ 0 ≤ n0.toInt ∧ ft_ok (p1 1500) x0 n0.toInt) ∧ u.1.toInt = 2 ∧ u.2.1 = mct ∧ u.2.2.1 = mfr ∧ u.2.2.2.2.2.2.2.2 = p6 ∧ u.2.2.2.2.2.2.2.1 = p5 ∧ u.2.2.2.1 = p1 ∧ u.2.2.2.2.1 = p2 ∧ u.2.2.2.2.2.1 = p3 ∧ u.2.2.2.2.2.2.1 = p4) ∨ (mso.toInt = 0 ∧ n = 0 ∧ 1 ≤ x0.toInt ∧ 0 ≤ n0.toInt ∧ ft_ok (p1 1500) x0 n0.toInt ∧ 1500 < n0.toInt ∧ u.1.toInt = 3 ∧ u.2.1 = mct ∧ u.2.2.1 = mfr ∧ u.2.2.2.2.2.2.2.2 = p6 ∧ u.2.2.2.2.2.2.2.1 = p5 ∧ u.2.2.2.1 = p1 ∧ u.2.2.2.2.1 = p2 ∧ u.2.2.2.2.2.1 = p3 ∧ u.2.2.2.2.2.2.1 = p4) ∨ (mso.toInt = 0 ∧ n = 0 ∧ 1 ≤ x0.toInt ∧ 0 ≤ n0.toInt ∧ ft_ok (p1 1500) x0 n0.toInt ∧ n0.toInt ≤ 1500 ∧ u.1.toInt = 0 ∧ ∃ KW2 : Nat → Nat → Int64, u.2.1 = n0 ∧ u.2.2.1.toInt = 1500 - n0.toInt ∧ MI n0.toInt.toNat u.2.2.2.2.2.2.2.2 p7 ∧ KRs mso.toInt u.2.2.2.1 u.2.2.2.2.1 u.2.2.2.2.2.1 u.2.2.2.2.2.2.1 KW2 ∧ KW2 1500 0 = KW 1500 0 ∧ KW2 1501 = KW 1501 ∧ KW2 1502 = KW 1502 ∧ (∀ k, k < n0.toInt.toNat → KW2 (u.2.2.2.2.2.2.2.2 k).toInt.toNat 0 = ((p1 1500) + (Int32.ofNat k).toInt64 * x0) ^^^ (-9223372036854775808)) ∧ (∀ k, k < n0.toInt.toNat → u.2.2.2.2.2.2.2.1 (u.2.2.2.2.2.2.2.2 k).toInt.toNat = y0 + (Int32.ofNat k).toInt64))) (fun (u : (Int32) × (Int32) × (Int32) × (Nat → Int64) × (Nat → Int64) × (Nat → Int32) × (Nat → Int32) × (Nat → Int64) × (Nat → Int32)) (t : State) => va_P D classes [(mo, .inr (4, [.int mso, .ref m1, .ref m2, .ref m3, .ref m4, .ref m5, .ref m6, .int u.2.1, .ref m7, .int u.2.2.1, .int mcu, .int u.1, .ref m8, .ref m9, .ref ma, .ref mb])), (m1, .inl (cL, 1503, .inr (.inl u.2.2.2.1))), (m2, .inl (cL, 1503, .inr (.inl u.2.2.2.2.1))), (m3, .inl (cI, 36072, .inl u.2.2.2.2.2.1)), (m4, .inl (cI, 1503, .inl u.2.2.2.2.2.2.1)), (m5, .inl (cL, 1500, .inr (.inl u.2.2.2.2.2.2.2.1))), (m6, .inl (cI, 1500, .inl u.2.2.2.2.2.2.2.2)), (m7, .inl (cI, 1500, .inl p7)), (m8, .inl (cI, 50, .inl p8)), (m9, .inl (cI, 50, .inl p9)), (ma, .inl (cI, 1500, .inl pa)), (mb, .inl (cI, 50, .inl pb))] t.heap ∧ va_K D classes (tyz cL cI) t ∧ va_D (va_A [(mo, .inr (4, [.int mso, .ref m1, .ref m2, .ref m3, .ref m4, .ref m5, .ref m6, .int mct, .ref m7, .int mfr, .int mcu, .int mth, .ref m8, .ref m9, .ref ma, .ref mb])), (m1, .inl (cL, 1503, .inr (.inl p1))), (m2, .inl (cL, 1503, .inr (.inl p2))), (m3, .inl (cI, 36072, .inl p3)), (m4, .inl (cI, 1503, .inl p4)), (m5, .inl (cL, 1500, .inr (.inl p5))), (m6, .inl (cI, 1500, .inl p6)), (m7, .inl (cI, 1500, .inl p7)), (m8, .inl (cI, 50, .inl p8)), (m9, .inl (cI, 50, .inl p9)), (ma, .inl (cI, 1500, .inl pa)), (mb, .inl (cI, 50, .inl pb))] sz) [(mo, .inr (4, [.int mso, .ref m1, .ref m2, .ref m3, .ref m4, .ref m5, .ref m6, .int u.2.1, .ref m7, .int u.2.2.1, .int mcu, .int u.1, .ref m8, .ref m9, .ref ma, .ref mb])), (m1, .inl (cL, 1503, .inr (.inl u.2.2.2.1))), (m2, .inl (cL, 1503, .inr (.inl u.2.2.2.2.1))), (m3, .inl (cI, 36072, .inl u.2.2.2.2.2.1)), (m4, .inl (cI, 1503, .inl u.2.2.2.2.2.2.1)), (m5, .inl (cL, 1500, .inr (.inl u.2.2.2.2.2.2.2.1))), (m6, .inl (cI, 1500, .inl u.2.2.2.2.2.2.2.2)), (m7, .inl (cI, 1500, .inl p7)), (m8, .inl (cI, 50, .inl p8)), (m9, .inl (cI, 50, .inl p9)), (ma, .inl (cI, 1500, .inl pa)), (mb, .inl (cI, 50, .inl pb))]) (va_A [(mo, .inr (4, [.int mso, .ref m1, .ref m2, .ref m3, .ref m4, .ref m5, .ref m6, .int mct, .ref m7, .int mfr, .int mcu, .int mth, .ref m8, .ref m9, .ref ma, .ref mb])), (m1, .inl (cL, 1503, .inr (.inl p1))), (m2, .inl (cL, 1503, .inr (.inl p2))), (m3, .inl (cI, 36072, .inl p3)), (m4, .inl (cI, 1503, .inl p4)), (m5, .inl (cL, 1500, .inr (.inl p5))), (m6, .inl (cI, 1500, .inl p6)), (m7, .inl (cI, 1500, .inl p7)), (m8, .inl (cI, 50, .inl p8)), (m9, .inl (cI, 50, .inl p9)), (ma, .inl (cI, 1500, .inl pa)), (mb, .inl (cI, 50, .inl pb))] sz)) 0 0 (va_A [(mo, .inr (4, [.int mso, .ref m1, .ref m2, .ref m3, .ref m4, .ref m5, .ref m6, .int mct, .ref m7, .int mfr, .int mcu, .int mth, .ref m8, .ref m9, .ref ma, .ref mb])), (m1, .inl (cL, 1503, .inr (.inl p1))), (m2, .inl (cL, 1503, .inr (.inl p2))), (m3, .inl (cI, 36072, .inl p3)), (m4, .inl (cI, 1503, .inl p4)), (m5, .inl (cL, 1500, .inr (.inl p5))), (m6, .inl (cI, 1500, .inl p6)), (m7, .inl (cI, 1500, .inl p7)), (m8, .inl (cI, 50, .inl p8)), (m9, .inl (cI, 50, .inl p9)), (ma, .inl (cI, 1500, .inl pa)), (mb, .inl (cI, 50, .inl pb))] sz) := by
  refine xr_met (by decide) ?_
  intro p e s m args below meth c hx hb hr hts hown hlocks hname hml hv
  obtain ⟨rfl, hsz, hP, hK, hD0⟩ := hv
  subst hsz
  have hD := hD0.self (sz := s.heap.size)
  generalize hAe : va_A [(mo, .inr (4, [.int mso, .ref m1, .ref m2, .ref m3, .ref m4, .ref m5, .ref m6, .int mct, .ref m7, .int mfr, .int mcu, .int mth, .ref m8, .ref m9, .ref ma, .ref mb])), (m1, .inl (cL, 1503, .inr (.inl p1))), (m2, .inl (cL, 1503, .inr (.inl p2))), (m3, .inl (cI, 36072, .inl p3)), (m4, .inl (cI, 1503, .inl p4)), (m5, .inl (cL, 1500, .inr (.inl p5))), (m6, .inl (cI, 1500, .inl p6)), (m7, .inl (cI, 1500, .inl p7)), (m8, .inl (cI, 50, .inl p8)), (m9, .inl (cI, 50, .inl p9)), (ma, .inl (cI, 1500, .inl pa)), (mb, .inl (cI, 50, .inl pb))] s.heap.size = A at hD ⊢
  have hA : ∀ q : Nat, s.heap.size ≤ q → A q := fun q h => by rw [← hAe]; exact Or.inr h
  have hS : va_S A s.heap s.heap [] := va_S.rf
  have hD : va_D A [(mo, .inr (4, [.int mso, .ref m1, .ref m2, .ref m3, .ref m4, .ref m5, .ref m6, .int mct, .ref m7, .int mfr, .int mcu, .int mth, .ref m8, .ref m9, .ref ma, .ref mb])), (m1, .inl (cL, 1503, .inr (.inl p1))), (m2, .inl (cL, 1503, .inr (.inl p2))), (m3, .inl (cI, 36072, .inl p3)), (m4, .inl (cI, 1503, .inl p4)), (m5, .inl (cL, 1500, .inr (.inl p5))), (m6, .inl (cI, 1500, .inl p6)), (m7, .inl (cI, 1500, .inl p7)), (m8, .inl (cI, 50, .inl p8)), (m9, .inl (cI, 50, .inl p9)), (ma, .inl (cI, 1500, .inl pa)), (mb, .inl (cI, 50, .inl pb))] := hD
  have hown : s.vm.findClass "BranchStoreModel" = some m.cls := hown
  have hP : va_P D classes [(mo, .inr (4, [.int mso, .ref m1, .ref m2, .ref m3, .ref m4, .ref m5, .ref m6, .int mct, .ref m7, .int mfr, .int mcu, .int mth, .ref m8, .ref m9, .ref ma, .ref mb])), (m1, .inl (cL, 1503, .inr (.inl p1))), (m2, .inl (cL, 1503, .inr (.inl p2))), (m3, .inl (cI, 36072, .inl p3)), (m4, .inl (cI, 1503, .inl p4)), (m5, .inl (cL, 1500, .inr (.inl p5))), (m6, .inl (cI, 1500, .inl p6)), (m7, .inl (cI, 1500, .inl p7)), (m8, .inl (cI, 50, .inl p8)), (m9, .inl (cI, 50, .inl p9)), (ma, .inl (cI, 1500, .inl pa)), (mb, .inl (cI, 50, .inl pb))] s.heap := hP
  have hl := lv_entry ([.ref mo, .long x0, .int n0, .long y0]) (n := 12) (Nat.le_of_ble_eq_true rfl)
  rw [lg_entry_eq]
  generalize (lg_sl ([.ref mo, .long x0, .int n0, .long y0]) ++ List.replicate (12 - (lg_sl ([.ref mo, .long x0, .int n0, .long y0])).length) Slot.unset).toArray = ls at hl ⊢
  have hl : lv_has ls 12 [(0, .ref mo), (1, .long x0), (3, .int n0), (4, .long y0)] := hl
  obtain ⟨Q, hQ⟩ : ∃ Q, Q = MQ below (va_Qv (fun (u : (Int32) × (Int32) × (Int32) × (Nat → Int64) × (Nat → Int64) × (Nat → Int32) × (Nat → Int32) × (Nat → Int64) × (Nat → Int32)) => ((mso.toInt ≠ 0 ∨ 0 < n) ∧ u.1.toInt = 1 ∧ u.2.1 = mct ∧ u.2.2.1 = mfr ∧ u.2.2.2.2.2.2.2.2 = p6 ∧ u.2.2.2.2.2.2.2.1 = p5 ∧ u.2.2.2.1 = p1 ∧ u.2.2.2.2.1 = p2 ∧ u.2.2.2.2.2.1 = p3 ∧ u.2.2.2.2.2.2.1 = p4) ∨ (mso.toInt = 0 ∧ n = 0 ∧ ¬ (1 ≤ x0.toInt ∧ 0 ≤ n0.toInt ∧ ft_ok (p1 1500) x0 n0.toInt) ∧ u.1.toInt = 2 ∧ u.2.1 = mct ∧ u.2.2.1 = mfr ∧ u.2.2.2.2.2.2.2.2 = p6 ∧ u.2.2.2.2.2.2.2.1 = p5 ∧ u.2.2.2.1 = p1 ∧ u.2.2.2.2.1 = p2 ∧ u.2.2.2.2.2.1 = p3 ∧ u.2.2.2.2.2.2.1 = p4) ∨ (mso.toInt = 0 ∧ n = 0 ∧ 1 ≤ x0.toInt ∧ 0 ≤ n0.toInt ∧ ft_ok (p1 1500) x0 n0.toInt ∧ 1500 < n0.toInt ∧ u.1.toInt = 3 ∧ u.2.1 = mct ∧ u.2.2.1 = mfr ∧ u.2.2.2.2.2.2.2.2 = p6 ∧ u.2.2.2.2.2.2.2.1 = p5 ∧ u.2.2.2.1 = p1 ∧ u.2.2.2.2.1 = p2 ∧ u.2.2.2.2.2.1 = p3 ∧ u.2.2.2.2.2.2.1 = p4) ∨ (mso.toInt = 0 ∧ n = 0 ∧ 1 ≤ x0.toInt ∧ 0 ≤ n0.toInt ∧ ft_ok (p1 1500) x0 n0.toInt ∧ n0.toInt ≤ 1500 ∧ u.1.toInt = 0 ∧ ∃ KW2 : Nat → Nat → Int64, u.2.1 = n0 ∧ u.2.2.1.toInt = 1500 - n0.toInt ∧ MI n0.toInt.toNat u.2.2.2.2.2.2.2.2 p7 ∧ KRs mso.toInt u.2.2.2.1 u.2.2.2.2.1 u.2.2.2.2.2.1 u.2.2.2.2.2.2.1 KW2 ∧ KW2 1500 0 = KW 1500 0 ∧ KW2 1501 = KW 1501 ∧ KW2 1502 = KW 1502 ∧ (∀ k, k < n0.toInt.toNat → KW2 (u.2.2.2.2.2.2.2.2 k).toInt.toNat 0 = ((p1 1500) + (Int32.ofNat k).toInt64 * x0) ^^^ (-9223372036854775808)) ∧ (∀ k, k < n0.toInt.toNat → u.2.2.2.2.2.2.2.1 (u.2.2.2.2.2.2.2.2 k).toInt.toNat = y0 + (Int32.ofNat k).toInt64))) (fun (u : (Int32) × (Int32) × (Int32) × (Nat → Int64) × (Nat → Int64) × (Nat → Int32) × (Nat → Int32) × (Nat → Int64) × (Nat → Int32)) (t : State) => va_P D classes [(mo, .inr (4, [.int mso, .ref m1, .ref m2, .ref m3, .ref m4, .ref m5, .ref m6, .int u.2.1, .ref m7, .int u.2.2.1, .int mcu, .int u.1, .ref m8, .ref m9, .ref ma, .ref mb])), (m1, .inl (cL, 1503, .inr (.inl u.2.2.2.1))), (m2, .inl (cL, 1503, .inr (.inl u.2.2.2.2.1))), (m3, .inl (cI, 36072, .inl u.2.2.2.2.2.1)), (m4, .inl (cI, 1503, .inl u.2.2.2.2.2.2.1)), (m5, .inl (cL, 1500, .inr (.inl u.2.2.2.2.2.2.2.1))), (m6, .inl (cI, 1500, .inl u.2.2.2.2.2.2.2.2)), (m7, .inl (cI, 1500, .inl p7)), (m8, .inl (cI, 50, .inl p8)), (m9, .inl (cI, 50, .inl p9)), (ma, .inl (cI, 1500, .inl pa)), (mb, .inl (cI, 50, .inl pb))] t.heap ∧ va_K D classes (tyz cL cI) t ∧ va_D (A) [(mo, .inr (4, [.int mso, .ref m1, .ref m2, .ref m3, .ref m4, .ref m5, .ref m6, .int u.2.1, .ref m7, .int u.2.2.1, .int mcu, .int u.1, .ref m8, .ref m9, .ref ma, .ref mb])), (m1, .inl (cL, 1503, .inr (.inl u.2.2.2.1))), (m2, .inl (cL, 1503, .inr (.inl u.2.2.2.2.1))), (m3, .inl (cI, 36072, .inl u.2.2.2.2.2.1)), (m4, .inl (cI, 1503, .inl u.2.2.2.2.2.2.1)), (m5, .inl (cL, 1500, .inr (.inl u.2.2.2.2.2.2.2.1))), (m6, .inl (cI, 1500, .inl u.2.2.2.2.2.2.2.2)), (m7, .inl (cI, 1500, .inl p7)), (m8, .inl (cI, 50, .inl p8)), (m9, .inl (cI, 50, .inl p9)), (ma, .inl (cI, 1500, .inl pa)), (mb, .inl (cI, 50, .inl pb))]) (A)) ([.ref mo, .long x0, .int n0, .long y0] : List Value).toArray s 0 0 A := ⟨_, rfl⟩
  rw [← hQ]
  have hrg_n0 := ia_rng n0
  have hor := hmi.1
  have hfe := hmi.2.1
  refine lv_aload_n hx hb d_Mo_load_0 rfl (lv_at hl 0 rfl) ?_
  refine lv_aload_n hx hb d_Mo_load_1 rfl (lv_at hl 0 rfl) ?_
  refine va_get (D := D) (ci := 4) (v := .int mso) (C := R_Mo) (T := F_Mo) (N := 16) hx hb hts in_Mo hown hK hP 0 rfl rfl 0 (by decide) (hts _ tw_603) (fun _ h9 => h9) rfl d_Mo_load_2 ?_
  refine lv_if_ne hx hb d_Mo_load_5 (tgt := 15) (by decide) (fun g5 => ?_) (fun g5 => ?_)
  · have g5 := (iz_ne).mp g5
    refine lv_iconst (v := 1) hx hb d_Mo_load_15 (by decide) ?_
    refine lv_topi (fun v15 e15 => ?_)
    have t15 : v15.toInt = 1 := by rw [e15]; rfl
    refine lv_goto hx hb d_Mo_load_16 (tgt := 20) (by decide) ?_
    refine lv_iconst (v := 1) hx hb d_Mo_load_20 (by decide) ?_
    refine lv_topi (fun v20 e20 => ?_)
    have t20 : v20.toInt = 1 := by rw [e20]; rfl
    have hPc := hP.sub (ws' := [(mo, .inr (4, [.int mso, .ref m1, .ref m2, .ref m3, .ref m4, .ref m5, .ref m6, .int mct, .ref m7, .int mfr, .int mcu, .int mth, .ref m8, .ref m9, .ref ma, .ref mb])), (m1, .inl (cL, 1503, .inr (.inl p1))), (m2, .inl (cL, 1503, .inr (.inl p2))), (m3, .inl (cI, 36072, .inl p3)), (m4, .inl (cI, 1503, .inl p4)), (m5, .inl (cL, 1500, .inr (.inl p5))), (m6, .inl (cI, 1500, .inl p6)), (m7, .inl (cI, 1500, .inl p7)), (m8, .inl (cI, 50, .inl p8)), (m9, .inl (cI, 50, .inl p9)), (ma, .inl (cI, 1500, .inl pa)), (mb, .inl (cI, 50, .inl pb))]) [0, 1, 2, 3, 4, 5, 6, 7, 8, 9, 10, 11] rfl
    have hDc := hD.sub (ws' := [(mo, .inr (4, [.int mso, .ref m1, .ref m2, .ref m3, .ref m4, .ref m5, .ref m6, .int mct, .ref m7, .int mfr, .int mcu, .int mth, .ref m8, .ref m9, .ref ma, .ref mb])), (m1, .inl (cL, 1503, .inr (.inl p1))), (m2, .inl (cL, 1503, .inr (.inl p2))), (m3, .inl (cI, 36072, .inl p3)), (m4, .inl (cI, 1503, .inl p4)), (m5, .inl (cL, 1500, .inr (.inl p5))), (m6, .inl (cI, 1500, .inl p6)), (m7, .inl (cI, 1500, .inl p7)), (m8, .inl (cI, 50, .inl p8)), (m9, .inl (cI, 50, .inl p9)), (ma, .inl (cI, 1500, .inl pa)), (mb, .inl (cI, 50, .inl pb))]) [0, 1, 2, 3, 4, 5, 6, 7, 8, 9, 10, 11] (by decide) rfl
    have hFc := va_free (wc := [(mo, .inr (4, [.int mso, .ref m1, .ref m2, .ref m3, .ref m4, .ref m5, .ref m6, .int mct, .ref m7, .int mfr, .int mcu, .int mth, .ref m8, .ref m9, .ref ma, .ref mb])), (m1, .inl (cL, 1503, .inr (.inl p1))), (m2, .inl (cL, 1503, .inr (.inl p2))), (m3, .inl (cI, 36072, .inl p3)), (m4, .inl (cI, 1503, .inl p4)), (m5, .inl (cL, 1500, .inr (.inl p5))), (m6, .inl (cI, 1500, .inl p6)), (m7, .inl (cI, 1500, .inl p7)), (m8, .inl (cI, 50, .inl p8)), (m9, .inl (cI, 50, .inl p9)), (ma, .inl (cI, 1500, .inl pa)), (mb, .inl (cI, 50, .inl pb))]) hD hS hA [0, 1, 2, 3, 4, 5, 6, 7, 8, 9, 10, 11] rfl
    refine va_calli (xr_mv (As := [.int v15, .int v20]) (rest := []) ⟨hx, hb, hml, hown, hts⟩ (c_Mo_fails l D cL cI mo m1 m2 m3 m4 m5 m6 m7 m8 m9 ma mb mso mct mfr mcu mth p1 p2 p5 p3 p4 p6 p7 p8 p9 pa pb v15 v20 s.heap.size (by first | omega | exact hso)) (xr_cv 2 hts tw_663 tw_660 tw_662 tp_10 tw_7 rfl rfl (by decide) ⟨Nat.le_of_ble_eq_true rfl, Nat.le_of_ble_eq_true rfl⟩) hK hPc (hDc.weaken (fun _ _ _ _ => trivial)) (va_recv hK hP rfl (q0 := 0) (ci := 4) rfl) rfl hl.1 rfl (Nat.le_of_ble_eq_true rfl) d_Mo_load_21 ⟨Nat.le_of_ble_eq_true rfl, Nat.le_of_ble_eq_true rfl⟩) hS (fun q _ h => hFc q h) hFc (fun v21 u21 tt21 H1 locs ht21 hvm21 e21 hB21 hz21 hk21 hS => ?_)
    obtain ⟨mth2_21, rfl⟩ : ∃ z, z = u21 := ⟨_, rfl⟩
    have e21 : v21.toInt = v15.toInt ∧ ((v15.toInt = 0 ∧ mth2_21.toInt = 0) ∨ (v15.toInt ≠ 0 ∧ mth2_21.toInt = v20.toInt)) := e21
    obtain ⟨hP1, hK1, hD1⟩ := hB21
    rw [ht21] at hP1
    obtain ⟨hP, hD⟩ := va_join (wr := []) (w1 := [(mo, .inr (4, [.int mso, .ref m1, .ref m2, .ref m3, .ref m4, .ref m5, .ref m6, .int mct, .ref m7, .int mfr, .int mcu, .int mth2_21, .ref m8, .ref m9, .ref ma, .ref mb])), (m1, .inl (cL, 1503, .inr (.inl p1))), (m2, .inl (cL, 1503, .inr (.inl p2))), (m3, .inl (cI, 36072, .inl p3)), (m4, .inl (cI, 1503, .inl p4)), (m5, .inl (cL, 1500, .inr (.inl p5))), (m6, .inl (cI, 1500, .inl p6)), (m7, .inl (cI, 1500, .inl p7)), (m8, .inl (cI, 50, .inl p8)), (m9, .inl (cI, 50, .inl p9)), (ma, .inl (cI, 1500, .inl pa)), (mb, .inl (cI, 50, .inl pb))]) hP hD [0, 1, 2, 3, 4, 5, 6, 7, 8, 9, 10, 11] [] rfl rfl (by decide) (by decide) hk21 hFc hP1 hD1
    clear hP1 hD1 hPc hDc hFc
    generalize H1 = H at hP hS ⊢
    have hP : va_P D classes [(mo, .inr (4, [.int mso, .ref m1, .ref m2, .ref m3, .ref m4, .ref m5, .ref m6, .int mct, .ref m7, .int mfr, .int mcu, .int mth2_21, .ref m8, .ref m9, .ref ma, .ref mb])), (m1, .inl (cL, 1503, .inr (.inl p1))), (m2, .inl (cL, 1503, .inr (.inl p2))), (m3, .inl (cI, 36072, .inl p3)), (m4, .inl (cI, 1503, .inl p4)), (m5, .inl (cL, 1500, .inr (.inl p5))), (m6, .inl (cI, 1500, .inl p6)), (m7, .inl (cI, 1500, .inl p7)), (m8, .inl (cI, 50, .inl p8)), (m9, .inl (cI, 50, .inl p9)), (ma, .inl (cI, 1500, .inl pa)), (mb, .inl (cI, 50, .inl pb))] H := hP
    have hD : va_D A [(mo, .inr (4, [.int mso, .ref m1, .ref m2, .ref m3, .ref m4, .ref m5, .ref m6, .int mct, .ref m7, .int mfr, .int mcu, .int mth2_21, .ref m8, .ref m9, .ref ma, .ref mb])), (m1, .inl (cL, 1503, .inr (.inl p1))), (m2, .inl (cL, 1503, .inr (.inl p2))), (m3, .inl (cI, 36072, .inl p3)), (m4, .inl (cI, 1503, .inl p4)), (m5, .inl (cL, 1500, .inr (.inl p5))), (m6, .inl (cI, 1500, .inl p6)), (m7, .inl (cI, 1500, .inl p7)), (m8, .inl (cI, 50, .inl p8)), (m9, .inl (cI, 50, .inl p9)), (ma, .inl (cI, 1500, .inl pa)), (mb, .inl (cI, 50, .inl pb))] := hD
    refine lv_if_ne hx hb d_Mo_load_24 (tgt := 50) (by decide) (fun g24 => ?_) (fun g24 => ?_)
    · have g24 := (iz_ne).mp g24
      have hpost : ((mso.toInt ≠ 0 ∨ 0 < n) ∧ mth2_21.toInt = 1 ∧ mct = mct ∧ mfr = mfr ∧ p6 = p6 ∧ p5 = p5 ∧ p1 = p1 ∧ p2 = p2 ∧ p3 = p3 ∧ p4 = p4) ∨ (mso.toInt = 0 ∧ n = 0 ∧ ¬ (1 ≤ x0.toInt ∧ 0 ≤ n0.toInt ∧ ft_ok (p1 1500) x0 n0.toInt) ∧ mth2_21.toInt = 2 ∧ mct = mct ∧ mfr = mfr ∧ p6 = p6 ∧ p5 = p5 ∧ p1 = p1 ∧ p2 = p2 ∧ p3 = p3 ∧ p4 = p4) ∨ (mso.toInt = 0 ∧ n = 0 ∧ 1 ≤ x0.toInt ∧ 0 ≤ n0.toInt ∧ ft_ok (p1 1500) x0 n0.toInt ∧ 1500 < n0.toInt ∧ mth2_21.toInt = 3 ∧ mct = mct ∧ mfr = mfr ∧ p6 = p6 ∧ p5 = p5 ∧ p1 = p1 ∧ p2 = p2 ∧ p3 = p3 ∧ p4 = p4) ∨ (mso.toInt = 0 ∧ n = 0 ∧ 1 ≤ x0.toInt ∧ 0 ≤ n0.toInt ∧ ft_ok (p1 1500) x0 n0.toInt ∧ n0.toInt ≤ 1500 ∧ mth2_21.toInt = 0 ∧ ∃ KW2 : Nat → Nat → Int64, mct = n0 ∧ mfr.toInt = 1500 - n0.toInt ∧ MI n0.toInt.toNat p6 p7 ∧ KRs mso.toInt p1 p2 p3 p4 KW2 ∧ KW2 1500 0 = KW 1500 0 ∧ KW2 1501 = KW 1501 ∧ KW2 1502 = KW 1502 ∧ (∀ k, k < n0.toInt.toNat → KW2 (p6 k).toInt.toNat 0 = ((p1 1500) + (Int32.ofNat k).toInt64 * x0) ^^^ (-9223372036854775808)) ∧ (∀ k, k < n0.toInt.toNat → p5 (p6 k).toInt.toNat = y0 + (Int32.ofNat k).toInt64)) := by
        first
        | (exfalso; omega)
        | exact Or.inl ⟨by omega, by omega, rfl, rfl, rfl, rfl, rfl, rfl, rfl, rfl⟩
        | (refine Or.inr (Or.inl ⟨by omega, by omega, fun h5 => ?_, by omega, rfl, rfl, rfl, rfl, rfl, rfl, rfl, rfl⟩)
           first
           | omega
           | (have h6 := il_lt.mp g31
              rw [e29] at h6
              have h7 : x0.toInt < 1 := h6
              omega))
      have hP9 := hP.sub (ws' := [(mo, .inr (4, [.int mso, .ref m1, .ref m2, .ref m3, .ref m4, .ref m5, .ref m6, .int mct, .ref m7, .int mfr, .int mcu, .int mth2_21, .ref m8, .ref m9, .ref ma, .ref mb])), (m1, .inl (cL, 1503, .inr (.inl p1))), (m2, .inl (cL, 1503, .inr (.inl p2))), (m3, .inl (cI, 36072, .inl p3)), (m4, .inl (cI, 1503, .inl p4)), (m5, .inl (cL, 1500, .inr (.inl p5))), (m6, .inl (cI, 1500, .inl p6)), (m7, .inl (cI, 1500, .inl p7)), (m8, .inl (cI, 50, .inl p8)), (m9, .inl (cI, 50, .inl p9)), (ma, .inl (cI, 1500, .inl pa)), (mb, .inl (cI, 50, .inl pb))]) [0, 1, 2, 3, 4, 5, 6, 7, 8, 9, 10, 11] rfl
      have hD9 := hD.sub (ws' := [(mo, .inr (4, [.int mso, .ref m1, .ref m2, .ref m3, .ref m4, .ref m5, .ref m6, .int mct, .ref m7, .int mfr, .int mcu, .int mth2_21, .ref m8, .ref m9, .ref ma, .ref mb])), (m1, .inl (cL, 1503, .inr (.inl p1))), (m2, .inl (cL, 1503, .inr (.inl p2))), (m3, .inl (cI, 36072, .inl p3)), (m4, .inl (cI, 1503, .inl p4)), (m5, .inl (cL, 1500, .inr (.inl p5))), (m6, .inl (cI, 1500, .inl p6)), (m7, .inl (cI, 1500, .inl p7)), (m8, .inl (cI, 50, .inl p8)), (m9, .inl (cI, 50, .inl p9)), (ma, .inl (cI, 1500, .inl pa)), (mb, .inl (cI, 50, .inl pb))]) [0, 1, 2, 3, 4, 5, 6, 7, 8, 9, 10, 11] (by decide) rfl
      rw [hQ]
      exact W.vret hx hb hr (fun t ht hW => ⟨⟨(mth2_21, mct, mfr, p1, p2, p3, p4, p5, p6), rfl, hpost, by rw [ht]; exact hP9, va_K.moved hW.alike hK, hD9⟩, hS.F ht⟩) hS.2.2 d_Mo_load_50
    · have g24 := (iz_eq).mp g24
      exfalso; omega
  · have g5 := (iz_eq).mp g5
    refine lv_aload_n hx hb d_Mo_load_8 rfl (lv_at hl 0 rfl) ?_
    refine va_get (D := D) (ci := 4) (v := .int mct) (C := R_Mo) (T := F_Mo) (N := 16) hx hb hts in_Mo hown hK hP 0 rfl rfl 7 (by decide) (hts _ tw_610) (fun _ h9 => h9) rfl d_Mo_load_9 ?_
    refine lv_if_le hx hb d_Mo_load_12 (tgt := 19) (by decide) (fun g12 => ?_) (fun g12 => ?_)
    · have g12 := (iz_le).mp g12
      refine lv_iconst (v := 0) hx hb d_Mo_load_19 (by decide) ?_
      refine lv_topi (fun v19 e19 => ?_)
      have t19 : v19.toInt = 0 := by rw [e19]; rfl
      refine lv_iconst (v := 1) hx hb d_Mo_load_20 (by decide) ?_
      refine lv_topi (fun v20 e20 => ?_)
      have t20 : v20.toInt = 1 := by rw [e20]; rfl
      have hPc := hP.sub (ws' := [(mo, .inr (4, [.int mso, .ref m1, .ref m2, .ref m3, .ref m4, .ref m5, .ref m6, .int mct, .ref m7, .int mfr, .int mcu, .int mth, .ref m8, .ref m9, .ref ma, .ref mb])), (m1, .inl (cL, 1503, .inr (.inl p1))), (m2, .inl (cL, 1503, .inr (.inl p2))), (m3, .inl (cI, 36072, .inl p3)), (m4, .inl (cI, 1503, .inl p4)), (m5, .inl (cL, 1500, .inr (.inl p5))), (m6, .inl (cI, 1500, .inl p6)), (m7, .inl (cI, 1500, .inl p7)), (m8, .inl (cI, 50, .inl p8)), (m9, .inl (cI, 50, .inl p9)), (ma, .inl (cI, 1500, .inl pa)), (mb, .inl (cI, 50, .inl pb))]) [0, 1, 2, 3, 4, 5, 6, 7, 8, 9, 10, 11] rfl
      have hDc := hD.sub (ws' := [(mo, .inr (4, [.int mso, .ref m1, .ref m2, .ref m3, .ref m4, .ref m5, .ref m6, .int mct, .ref m7, .int mfr, .int mcu, .int mth, .ref m8, .ref m9, .ref ma, .ref mb])), (m1, .inl (cL, 1503, .inr (.inl p1))), (m2, .inl (cL, 1503, .inr (.inl p2))), (m3, .inl (cI, 36072, .inl p3)), (m4, .inl (cI, 1503, .inl p4)), (m5, .inl (cL, 1500, .inr (.inl p5))), (m6, .inl (cI, 1500, .inl p6)), (m7, .inl (cI, 1500, .inl p7)), (m8, .inl (cI, 50, .inl p8)), (m9, .inl (cI, 50, .inl p9)), (ma, .inl (cI, 1500, .inl pa)), (mb, .inl (cI, 50, .inl pb))]) [0, 1, 2, 3, 4, 5, 6, 7, 8, 9, 10, 11] (by decide) rfl
      have hFc := va_free (wc := [(mo, .inr (4, [.int mso, .ref m1, .ref m2, .ref m3, .ref m4, .ref m5, .ref m6, .int mct, .ref m7, .int mfr, .int mcu, .int mth, .ref m8, .ref m9, .ref ma, .ref mb])), (m1, .inl (cL, 1503, .inr (.inl p1))), (m2, .inl (cL, 1503, .inr (.inl p2))), (m3, .inl (cI, 36072, .inl p3)), (m4, .inl (cI, 1503, .inl p4)), (m5, .inl (cL, 1500, .inr (.inl p5))), (m6, .inl (cI, 1500, .inl p6)), (m7, .inl (cI, 1500, .inl p7)), (m8, .inl (cI, 50, .inl p8)), (m9, .inl (cI, 50, .inl p9)), (ma, .inl (cI, 1500, .inl pa)), (mb, .inl (cI, 50, .inl pb))]) hD hS hA [0, 1, 2, 3, 4, 5, 6, 7, 8, 9, 10, 11] rfl
      refine va_calli (xr_mv (As := [.int v19, .int v20]) (rest := []) ⟨hx, hb, hml, hown, hts⟩ (c_Mo_fails l D cL cI mo m1 m2 m3 m4 m5 m6 m7 m8 m9 ma mb mso mct mfr mcu mth p1 p2 p5 p3 p4 p6 p7 p8 p9 pa pb v19 v20 s.heap.size (by first | omega | exact hso)) (xr_cv 2 hts tw_663 tw_660 tw_662 tp_10 tw_7 rfl rfl (by decide) ⟨Nat.le_of_ble_eq_true rfl, Nat.le_of_ble_eq_true rfl⟩) hK hPc (hDc.weaken (fun _ _ _ _ => trivial)) (va_recv hK hP rfl (q0 := 0) (ci := 4) rfl) rfl hl.1 rfl (Nat.le_of_ble_eq_true rfl) d_Mo_load_21 ⟨Nat.le_of_ble_eq_true rfl, Nat.le_of_ble_eq_true rfl⟩) hS (fun q _ h => hFc q h) hFc (fun v21 u21 tt21 H1 locs ht21 hvm21 e21 hB21 hz21 hk21 hS => ?_)
      obtain ⟨mth2_21, rfl⟩ : ∃ z, z = u21 := ⟨_, rfl⟩
      have e21 : v21.toInt = v19.toInt ∧ ((v19.toInt = 0 ∧ mth2_21.toInt = 0) ∨ (v19.toInt ≠ 0 ∧ mth2_21.toInt = v20.toInt)) := e21
      obtain ⟨hP1, hK1, hD1⟩ := hB21
      rw [ht21] at hP1
      obtain ⟨hP, hD⟩ := va_join (wr := []) (w1 := [(mo, .inr (4, [.int mso, .ref m1, .ref m2, .ref m3, .ref m4, .ref m5, .ref m6, .int mct, .ref m7, .int mfr, .int mcu, .int mth2_21, .ref m8, .ref m9, .ref ma, .ref mb])), (m1, .inl (cL, 1503, .inr (.inl p1))), (m2, .inl (cL, 1503, .inr (.inl p2))), (m3, .inl (cI, 36072, .inl p3)), (m4, .inl (cI, 1503, .inl p4)), (m5, .inl (cL, 1500, .inr (.inl p5))), (m6, .inl (cI, 1500, .inl p6)), (m7, .inl (cI, 1500, .inl p7)), (m8, .inl (cI, 50, .inl p8)), (m9, .inl (cI, 50, .inl p9)), (ma, .inl (cI, 1500, .inl pa)), (mb, .inl (cI, 50, .inl pb))]) hP hD [0, 1, 2, 3, 4, 5, 6, 7, 8, 9, 10, 11] [] rfl rfl (by decide) (by decide) hk21 hFc hP1 hD1
      clear hP1 hD1 hPc hDc hFc
      generalize H1 = H at hP hS ⊢
      have hP : va_P D classes [(mo, .inr (4, [.int mso, .ref m1, .ref m2, .ref m3, .ref m4, .ref m5, .ref m6, .int mct, .ref m7, .int mfr, .int mcu, .int mth2_21, .ref m8, .ref m9, .ref ma, .ref mb])), (m1, .inl (cL, 1503, .inr (.inl p1))), (m2, .inl (cL, 1503, .inr (.inl p2))), (m3, .inl (cI, 36072, .inl p3)), (m4, .inl (cI, 1503, .inl p4)), (m5, .inl (cL, 1500, .inr (.inl p5))), (m6, .inl (cI, 1500, .inl p6)), (m7, .inl (cI, 1500, .inl p7)), (m8, .inl (cI, 50, .inl p8)), (m9, .inl (cI, 50, .inl p9)), (ma, .inl (cI, 1500, .inl pa)), (mb, .inl (cI, 50, .inl pb))] H := hP
      have hD : va_D A [(mo, .inr (4, [.int mso, .ref m1, .ref m2, .ref m3, .ref m4, .ref m5, .ref m6, .int mct, .ref m7, .int mfr, .int mcu, .int mth2_21, .ref m8, .ref m9, .ref ma, .ref mb])), (m1, .inl (cL, 1503, .inr (.inl p1))), (m2, .inl (cL, 1503, .inr (.inl p2))), (m3, .inl (cI, 36072, .inl p3)), (m4, .inl (cI, 1503, .inl p4)), (m5, .inl (cL, 1500, .inr (.inl p5))), (m6, .inl (cI, 1500, .inl p6)), (m7, .inl (cI, 1500, .inl p7)), (m8, .inl (cI, 50, .inl p8)), (m9, .inl (cI, 50, .inl p9)), (ma, .inl (cI, 1500, .inl pa)), (mb, .inl (cI, 50, .inl pb))] := hD
      refine lv_if_ne hx hb d_Mo_load_24 (tgt := 50) (by decide) (fun g24 => ?_) (fun g24 => ?_)
      · have g24 := (iz_ne).mp g24
        exfalso; omega
      · have g24 := (iz_eq).mp g24
        refine lv_aload_n hx hb d_Mo_load_27 rfl (lv_at hl 0 rfl) ?_
        refine lv_lload_n hx hb d_Mo_load_28 rfl (lv_at hl 1 rfl) ?_
        refine lv_lconst (v := 1) hx hb d_Mo_load_29 (by decide) ?_
        refine lv_topl (fun v29 e29 => ?_)
        refine W.lcmp hx hb d_Mo_load_30 ?_
        refine lv_topi (fun v30 e30 => ?_)
        refine lv_if_lt hx hb d_Mo_load_31 (tgt := 38) (by decide) (fun g31 => ?_) (fun g31 => ?_)
        · have g31 := (lc_lt e30).mp g31
          refine lv_iconst (v := 1) hx hb d_Mo_load_38 (by decide) ?_
          refine lv_topi (fun v38 e38 => ?_)
          have t38 : v38.toInt = 1 := by rw [e38]; rfl
          refine lv_goto hx hb d_Mo_load_39 (tgt := 43) (by decide) ?_
          refine lv_iconst (v := 2) hx hb d_Mo_load_43 (by decide) ?_
          refine lv_topi (fun v43 e43 => ?_)
          have t43 : v43.toInt = 2 := by rw [e43]; rfl
          have hPc := hP.sub (ws' := [(mo, .inr (4, [.int mso, .ref m1, .ref m2, .ref m3, .ref m4, .ref m5, .ref m6, .int mct, .ref m7, .int mfr, .int mcu, .int mth2_21, .ref m8, .ref m9, .ref ma, .ref mb])), (m1, .inl (cL, 1503, .inr (.inl p1))), (m2, .inl (cL, 1503, .inr (.inl p2))), (m3, .inl (cI, 36072, .inl p3)), (m4, .inl (cI, 1503, .inl p4)), (m5, .inl (cL, 1500, .inr (.inl p5))), (m6, .inl (cI, 1500, .inl p6)), (m7, .inl (cI, 1500, .inl p7)), (m8, .inl (cI, 50, .inl p8)), (m9, .inl (cI, 50, .inl p9)), (ma, .inl (cI, 1500, .inl pa)), (mb, .inl (cI, 50, .inl pb))]) [0, 1, 2, 3, 4, 5, 6, 7, 8, 9, 10, 11] rfl
          have hDc := hD.sub (ws' := [(mo, .inr (4, [.int mso, .ref m1, .ref m2, .ref m3, .ref m4, .ref m5, .ref m6, .int mct, .ref m7, .int mfr, .int mcu, .int mth2_21, .ref m8, .ref m9, .ref ma, .ref mb])), (m1, .inl (cL, 1503, .inr (.inl p1))), (m2, .inl (cL, 1503, .inr (.inl p2))), (m3, .inl (cI, 36072, .inl p3)), (m4, .inl (cI, 1503, .inl p4)), (m5, .inl (cL, 1500, .inr (.inl p5))), (m6, .inl (cI, 1500, .inl p6)), (m7, .inl (cI, 1500, .inl p7)), (m8, .inl (cI, 50, .inl p8)), (m9, .inl (cI, 50, .inl p9)), (ma, .inl (cI, 1500, .inl pa)), (mb, .inl (cI, 50, .inl pb))]) [0, 1, 2, 3, 4, 5, 6, 7, 8, 9, 10, 11] (by decide) rfl
          have hFc := va_free (wc := [(mo, .inr (4, [.int mso, .ref m1, .ref m2, .ref m3, .ref m4, .ref m5, .ref m6, .int mct, .ref m7, .int mfr, .int mcu, .int mth2_21, .ref m8, .ref m9, .ref ma, .ref mb])), (m1, .inl (cL, 1503, .inr (.inl p1))), (m2, .inl (cL, 1503, .inr (.inl p2))), (m3, .inl (cI, 36072, .inl p3)), (m4, .inl (cI, 1503, .inl p4)), (m5, .inl (cL, 1500, .inr (.inl p5))), (m6, .inl (cI, 1500, .inl p6)), (m7, .inl (cI, 1500, .inl p7)), (m8, .inl (cI, 50, .inl p8)), (m9, .inl (cI, 50, .inl p9)), (ma, .inl (cI, 1500, .inl pa)), (mb, .inl (cI, 50, .inl pb))]) hD hS hA [0, 1, 2, 3, 4, 5, 6, 7, 8, 9, 10, 11] rfl
          refine va_calli (xr_mv (As := [.int v38, .int v43]) (rest := []) ⟨hx, hb, hml, hown, hts⟩ (c_Mo_fails l D cL cI mo m1 m2 m3 m4 m5 m6 m7 m8 m9 ma mb mso mct mfr mcu mth2_21 p1 p2 p5 p3 p4 p6 p7 p8 p9 pa pb v38 v43 H.size (by first | omega | exact hso)) (xr_cv 2 hts tw_663 tw_660 tw_662 tp_10 tw_7 rfl rfl (by decide) ⟨Nat.le_of_ble_eq_true rfl, Nat.le_of_ble_eq_true rfl⟩) hK hPc (hDc.weaken (fun _ _ _ _ => trivial)) (va_recv hK hP rfl (q0 := 0) (ci := 4) rfl) rfl hl.1 rfl (Nat.le_of_ble_eq_true rfl) d_Mo_load_44 ⟨Nat.le_of_ble_eq_true rfl, Nat.le_of_ble_eq_true rfl⟩) hS (fun q _ h => hFc q h) hFc (fun v44 u44 tt44 H1 locs ht44 hvm44 e44 hB44 hz44 hk44 hS => ?_)
          obtain ⟨mth2_44, rfl⟩ : ∃ z, z = u44 := ⟨_, rfl⟩
          have e44 : v44.toInt = v38.toInt ∧ ((v38.toInt = 0 ∧ mth2_44.toInt = 0) ∨ (v38.toInt ≠ 0 ∧ mth2_44.toInt = v43.toInt)) := e44
          obtain ⟨hP1, hK1, hD1⟩ := hB44
          rw [ht44] at hP1
          obtain ⟨hP, hD⟩ := va_join (wr := []) (w1 := [(mo, .inr (4, [.int mso, .ref m1, .ref m2, .ref m3, .ref m4, .ref m5, .ref m6, .int mct, .ref m7, .int mfr, .int mcu, .int mth2_44, .ref m8, .ref m9, .ref ma, .ref mb])), (m1, .inl (cL, 1503, .inr (.inl p1))), (m2, .inl (cL, 1503, .inr (.inl p2))), (m3, .inl (cI, 36072, .inl p3)), (m4, .inl (cI, 1503, .inl p4)), (m5, .inl (cL, 1500, .inr (.inl p5))), (m6, .inl (cI, 1500, .inl p6)), (m7, .inl (cI, 1500, .inl p7)), (m8, .inl (cI, 50, .inl p8)), (m9, .inl (cI, 50, .inl p9)), (ma, .inl (cI, 1500, .inl pa)), (mb, .inl (cI, 50, .inl pb))]) hP hD [0, 1, 2, 3, 4, 5, 6, 7, 8, 9, 10, 11] [] rfl rfl (by decide) (by decide) hk44 hFc hP1 hD1
          clear hP1 hD1 hPc hDc hFc
          generalize H1 = H at hP hS ⊢
          have hP : va_P D classes [(mo, .inr (4, [.int mso, .ref m1, .ref m2, .ref m3, .ref m4, .ref m5, .ref m6, .int mct, .ref m7, .int mfr, .int mcu, .int mth2_44, .ref m8, .ref m9, .ref ma, .ref mb])), (m1, .inl (cL, 1503, .inr (.inl p1))), (m2, .inl (cL, 1503, .inr (.inl p2))), (m3, .inl (cI, 36072, .inl p3)), (m4, .inl (cI, 1503, .inl p4)), (m5, .inl (cL, 1500, .inr (.inl p5))), (m6, .inl (cI, 1500, .inl p6)), (m7, .inl (cI, 1500, .inl p7)), (m8, .inl (cI, 50, .inl p8)), (m9, .inl (cI, 50, .inl p9)), (ma, .inl (cI, 1500, .inl pa)), (mb, .inl (cI, 50, .inl pb))] H := hP
          have hD : va_D A [(mo, .inr (4, [.int mso, .ref m1, .ref m2, .ref m3, .ref m4, .ref m5, .ref m6, .int mct, .ref m7, .int mfr, .int mcu, .int mth2_44, .ref m8, .ref m9, .ref ma, .ref mb])), (m1, .inl (cL, 1503, .inr (.inl p1))), (m2, .inl (cL, 1503, .inr (.inl p2))), (m3, .inl (cI, 36072, .inl p3)), (m4, .inl (cI, 1503, .inl p4)), (m5, .inl (cL, 1500, .inr (.inl p5))), (m6, .inl (cI, 1500, .inl p6)), (m7, .inl (cI, 1500, .inl p7)), (m8, .inl (cI, 50, .inl p8)), (m9, .inl (cI, 50, .inl p9)), (ma, .inl (cI, 1500, .inl pa)), (mb, .inl (cI, 50, .inl pb))] := hD
          refine lv_if_eq hx hb d_Mo_load_47 (tgt := 51) (by decide) (fun g47 => ?_) (fun g47 => ?_)
          · have g47 := (iz_eq).mp g47
            exfalso; omega
          · have g47 := (iz_ne).mp g47
            have hpost : ((mso.toInt ≠ 0 ∨ 0 < n) ∧ mth2_44.toInt = 1 ∧ mct = mct ∧ mfr = mfr ∧ p6 = p6 ∧ p5 = p5 ∧ p1 = p1 ∧ p2 = p2 ∧ p3 = p3 ∧ p4 = p4) ∨ (mso.toInt = 0 ∧ n = 0 ∧ ¬ (1 ≤ x0.toInt ∧ 0 ≤ n0.toInt ∧ ft_ok (p1 1500) x0 n0.toInt) ∧ mth2_44.toInt = 2 ∧ mct = mct ∧ mfr = mfr ∧ p6 = p6 ∧ p5 = p5 ∧ p1 = p1 ∧ p2 = p2 ∧ p3 = p3 ∧ p4 = p4) ∨ (mso.toInt = 0 ∧ n = 0 ∧ 1 ≤ x0.toInt ∧ 0 ≤ n0.toInt ∧ ft_ok (p1 1500) x0 n0.toInt ∧ 1500 < n0.toInt ∧ mth2_44.toInt = 3 ∧ mct = mct ∧ mfr = mfr ∧ p6 = p6 ∧ p5 = p5 ∧ p1 = p1 ∧ p2 = p2 ∧ p3 = p3 ∧ p4 = p4) ∨ (mso.toInt = 0 ∧ n = 0 ∧ 1 ≤ x0.toInt ∧ 0 ≤ n0.toInt ∧ ft_ok (p1 1500) x0 n0.toInt ∧ n0.toInt ≤ 1500 ∧ mth2_44.toInt = 0 ∧ ∃ KW2 : Nat → Nat → Int64, mct = n0 ∧ mfr.toInt = 1500 - n0.toInt ∧ MI n0.toInt.toNat p6 p7 ∧ KRs mso.toInt p1 p2 p3 p4 KW2 ∧ KW2 1500 0 = KW 1500 0 ∧ KW2 1501 = KW 1501 ∧ KW2 1502 = KW 1502 ∧ (∀ k, k < n0.toInt.toNat → KW2 (p6 k).toInt.toNat 0 = ((p1 1500) + (Int32.ofNat k).toInt64 * x0) ^^^ (-9223372036854775808)) ∧ (∀ k, k < n0.toInt.toNat → p5 (p6 k).toInt.toNat = y0 + (Int32.ofNat k).toInt64)) := by
              first
              | (exfalso; omega)
              | exact Or.inl ⟨by omega, by omega, rfl, rfl, rfl, rfl, rfl, rfl, rfl, rfl⟩
              | (refine Or.inr (Or.inl ⟨by omega, by omega, fun h5 => ?_, by omega, rfl, rfl, rfl, rfl, rfl, rfl, rfl, rfl⟩)
                 first
                 | omega
                 | (have h6 := il_lt.mp g31
                    rw [e29] at h6
                    have h7 : x0.toInt < 1 := h6
                    omega))
            have hP9 := hP.sub (ws' := [(mo, .inr (4, [.int mso, .ref m1, .ref m2, .ref m3, .ref m4, .ref m5, .ref m6, .int mct, .ref m7, .int mfr, .int mcu, .int mth2_44, .ref m8, .ref m9, .ref ma, .ref mb])), (m1, .inl (cL, 1503, .inr (.inl p1))), (m2, .inl (cL, 1503, .inr (.inl p2))), (m3, .inl (cI, 36072, .inl p3)), (m4, .inl (cI, 1503, .inl p4)), (m5, .inl (cL, 1500, .inr (.inl p5))), (m6, .inl (cI, 1500, .inl p6)), (m7, .inl (cI, 1500, .inl p7)), (m8, .inl (cI, 50, .inl p8)), (m9, .inl (cI, 50, .inl p9)), (ma, .inl (cI, 1500, .inl pa)), (mb, .inl (cI, 50, .inl pb))]) [0, 1, 2, 3, 4, 5, 6, 7, 8, 9, 10, 11] rfl
            have hD9 := hD.sub (ws' := [(mo, .inr (4, [.int mso, .ref m1, .ref m2, .ref m3, .ref m4, .ref m5, .ref m6, .int mct, .ref m7, .int mfr, .int mcu, .int mth2_44, .ref m8, .ref m9, .ref ma, .ref mb])), (m1, .inl (cL, 1503, .inr (.inl p1))), (m2, .inl (cL, 1503, .inr (.inl p2))), (m3, .inl (cI, 36072, .inl p3)), (m4, .inl (cI, 1503, .inl p4)), (m5, .inl (cL, 1500, .inr (.inl p5))), (m6, .inl (cI, 1500, .inl p6)), (m7, .inl (cI, 1500, .inl p7)), (m8, .inl (cI, 50, .inl p8)), (m9, .inl (cI, 50, .inl p9)), (ma, .inl (cI, 1500, .inl pa)), (mb, .inl (cI, 50, .inl pb))]) [0, 1, 2, 3, 4, 5, 6, 7, 8, 9, 10, 11] (by decide) rfl
            rw [hQ]
            exact W.vret hx hb hr (fun t ht hW => ⟨⟨(mth2_44, mct, mfr, p1, p2, p3, p4, p5, p6), rfl, hpost, by rw [ht]; exact hP9, va_K.moved hW.alike hK, hD9⟩, hS.F ht⟩) hS.2.2 d_Mo_load_50
        · have g31 := (lc_nlt e30).mp g31
          refine lv_iload_n hx hb d_Mo_load_34 rfl (lv_at hl 2 rfl) ?_
          refine lv_if_ge hx hb d_Mo_load_35 (tgt := 42) (by decide) (fun g35 => ?_) (fun g35 => ?_)
          · have g35 := (iz_ge).mp g35
            refine lv_iconst (v := 0) hx hb d_Mo_load_42 (by decide) ?_
            refine lv_topi (fun v42 e42 => ?_)
            have t42 : v42.toInt = 0 := by rw [e42]; rfl
            refine lv_iconst (v := 2) hx hb d_Mo_load_43 (by decide) ?_
            refine lv_topi (fun v43 e43 => ?_)
            have t43 : v43.toInt = 2 := by rw [e43]; rfl
            have hPc := hP.sub (ws' := [(mo, .inr (4, [.int mso, .ref m1, .ref m2, .ref m3, .ref m4, .ref m5, .ref m6, .int mct, .ref m7, .int mfr, .int mcu, .int mth2_21, .ref m8, .ref m9, .ref ma, .ref mb])), (m1, .inl (cL, 1503, .inr (.inl p1))), (m2, .inl (cL, 1503, .inr (.inl p2))), (m3, .inl (cI, 36072, .inl p3)), (m4, .inl (cI, 1503, .inl p4)), (m5, .inl (cL, 1500, .inr (.inl p5))), (m6, .inl (cI, 1500, .inl p6)), (m7, .inl (cI, 1500, .inl p7)), (m8, .inl (cI, 50, .inl p8)), (m9, .inl (cI, 50, .inl p9)), (ma, .inl (cI, 1500, .inl pa)), (mb, .inl (cI, 50, .inl pb))]) [0, 1, 2, 3, 4, 5, 6, 7, 8, 9, 10, 11] rfl
            have hDc := hD.sub (ws' := [(mo, .inr (4, [.int mso, .ref m1, .ref m2, .ref m3, .ref m4, .ref m5, .ref m6, .int mct, .ref m7, .int mfr, .int mcu, .int mth2_21, .ref m8, .ref m9, .ref ma, .ref mb])), (m1, .inl (cL, 1503, .inr (.inl p1))), (m2, .inl (cL, 1503, .inr (.inl p2))), (m3, .inl (cI, 36072, .inl p3)), (m4, .inl (cI, 1503, .inl p4)), (m5, .inl (cL, 1500, .inr (.inl p5))), (m6, .inl (cI, 1500, .inl p6)), (m7, .inl (cI, 1500, .inl p7)), (m8, .inl (cI, 50, .inl p8)), (m9, .inl (cI, 50, .inl p9)), (ma, .inl (cI, 1500, .inl pa)), (mb, .inl (cI, 50, .inl pb))]) [0, 1, 2, 3, 4, 5, 6, 7, 8, 9, 10, 11] (by decide) rfl
            have hFc := va_free (wc := [(mo, .inr (4, [.int mso, .ref m1, .ref m2, .ref m3, .ref m4, .ref m5, .ref m6, .int mct, .ref m7, .int mfr, .int mcu, .int mth2_21, .ref m8, .ref m9, .ref ma, .ref mb])), (m1, .inl (cL, 1503, .inr (.inl p1))), (m2, .inl (cL, 1503, .inr (.inl p2))), (m3, .inl (cI, 36072, .inl p3)), (m4, .inl (cI, 1503, .inl p4)), (m5, .inl (cL, 1500, .inr (.inl p5))), (m6, .inl (cI, 1500, .inl p6)), (m7, .inl (cI, 1500, .inl p7)), (m8, .inl (cI, 50, .inl p8)), (m9, .inl (cI, 50, .inl p9)), (ma, .inl (cI, 1500, .inl pa)), (mb, .inl (cI, 50, .inl pb))]) hD hS hA [0, 1, 2, 3, 4, 5, 6, 7, 8, 9, 10, 11] rfl
            refine va_calli (xr_mv (As := [.int v42, .int v43]) (rest := []) ⟨hx, hb, hml, hown, hts⟩ (c_Mo_fails l D cL cI mo m1 m2 m3 m4 m5 m6 m7 m8 m9 ma mb mso mct mfr mcu mth2_21 p1 p2 p5 p3 p4 p6 p7 p8 p9 pa pb v42 v43 H.size (by first | omega | exact hso)) (xr_cv 2 hts tw_663 tw_660 tw_662 tp_10 tw_7 rfl rfl (by decide) ⟨Nat.le_of_ble_eq_true rfl, Nat.le_of_ble_eq_true rfl⟩) hK hPc (hDc.weaken (fun _ _ _ _ => trivial)) (va_recv hK hP rfl (q0 := 0) (ci := 4) rfl) rfl hl.1 rfl (Nat.le_of_ble_eq_true rfl) d_Mo_load_44 ⟨Nat.le_of_ble_eq_true rfl, Nat.le_of_ble_eq_true rfl⟩) hS (fun q _ h => hFc q h) hFc (fun v44 u44 tt44 H1 locs ht44 hvm44 e44 hB44 hz44 hk44 hS => ?_)
            obtain ⟨mth2_44, rfl⟩ : ∃ z, z = u44 := ⟨_, rfl⟩
            have e44 : v44.toInt = v42.toInt ∧ ((v42.toInt = 0 ∧ mth2_44.toInt = 0) ∨ (v42.toInt ≠ 0 ∧ mth2_44.toInt = v43.toInt)) := e44
            obtain ⟨hP1, hK1, hD1⟩ := hB44
            rw [ht44] at hP1
            obtain ⟨hP, hD⟩ := va_join (wr := []) (w1 := [(mo, .inr (4, [.int mso, .ref m1, .ref m2, .ref m3, .ref m4, .ref m5, .ref m6, .int mct, .ref m7, .int mfr, .int mcu, .int mth2_44, .ref m8, .ref m9, .ref ma, .ref mb])), (m1, .inl (cL, 1503, .inr (.inl p1))), (m2, .inl (cL, 1503, .inr (.inl p2))), (m3, .inl (cI, 36072, .inl p3)), (m4, .inl (cI, 1503, .inl p4)), (m5, .inl (cL, 1500, .inr (.inl p5))), (m6, .inl (cI, 1500, .inl p6)), (m7, .inl (cI, 1500, .inl p7)), (m8, .inl (cI, 50, .inl p8)), (m9, .inl (cI, 50, .inl p9)), (ma, .inl (cI, 1500, .inl pa)), (mb, .inl (cI, 50, .inl pb))]) hP hD [0, 1, 2, 3, 4, 5, 6, 7, 8, 9, 10, 11] [] rfl rfl (by decide) (by decide) hk44 hFc hP1 hD1
            clear hP1 hD1 hPc hDc hFc
            generalize H1 = H at hP hS ⊢
            have hP : va_P D classes [(mo, .inr (4, [.int mso, .ref m1, .ref m2, .ref m3, .ref m4, .ref m5, .ref m6, .int mct, .ref m7, .int mfr, .int mcu, .int mth2_44, .ref m8, .ref m9, .ref ma, .ref mb])), (m1, .inl (cL, 1503, .inr (.inl p1))), (m2, .inl (cL, 1503, .inr (.inl p2))), (m3, .inl (cI, 36072, .inl p3)), (m4, .inl (cI, 1503, .inl p4)), (m5, .inl (cL, 1500, .inr (.inl p5))), (m6, .inl (cI, 1500, .inl p6)), (m7, .inl (cI, 1500, .inl p7)), (m8, .inl (cI, 50, .inl p8)), (m9, .inl (cI, 50, .inl p9)), (ma, .inl (cI, 1500, .inl pa)), (mb, .inl (cI, 50, .inl pb))] H := hP
            have hD : va_D A [(mo, .inr (4, [.int mso, .ref m1, .ref m2, .ref m3, .ref m4, .ref m5, .ref m6, .int mct, .ref m7, .int mfr, .int mcu, .int mth2_44, .ref m8, .ref m9, .ref ma, .ref mb])), (m1, .inl (cL, 1503, .inr (.inl p1))), (m2, .inl (cL, 1503, .inr (.inl p2))), (m3, .inl (cI, 36072, .inl p3)), (m4, .inl (cI, 1503, .inl p4)), (m5, .inl (cL, 1500, .inr (.inl p5))), (m6, .inl (cI, 1500, .inl p6)), (m7, .inl (cI, 1500, .inl p7)), (m8, .inl (cI, 50, .inl p8)), (m9, .inl (cI, 50, .inl p9)), (ma, .inl (cI, 1500, .inl pa)), (mb, .inl (cI, 50, .inl pb))] := hD
            refine lv_if_eq hx hb d_Mo_load_47 (tgt := 51) (by decide) (fun g47 => ?_) (fun g47 => ?_)
            · have g47 := (iz_eq).mp g47
              have hy1 : 1 ≤ x0.toInt := by
                    rcases Int.lt_or_le x0.toInt 1 with h5 | h5
                    · exfalso
                      first
                      | omega
                      | exact absurd (il_lt.mpr (by rw [e29]; exact h5)) g31
                    · exact h5
              have hok : mso.toInt = 0 ∧ n = 0 ∧ 0 ≤ n0.toInt := by omega
              refine lv_aload_n hx hb d_Mo_load_51 rfl (lv_at hl 0 rfl) ?_
              refine va_get (D := D) (ci := 4) (v := .ref m1) (C := R_Mo) (T := F_Mo) (N := 16) hx hb hts in_Mo hown hK hP 0 rfl rfl 1 (by decide) (hts _ tw_604) (fun _ h9 => h9) rfl d_Mo_load_52 ?_
              refine lv_sipush (v := 1500) hx hb d_Mo_load_55 (by decide) ?_
              refine lv_topi (fun v55 e55 => ?_)
              have t55 : v55.toInt = 1500 := by rw [e55]; rfl
              refine va_lald hx hb hK hP 1 0 rfl rfl (ia_in ⟨by omega, by omega⟩) d_Mo_load_58 ?_
              refine lv_topl (fun v58 e58 => ?_)
              have e58 : v58 = p1 v55.toInt.toNat := e58
              refine lv_lstore (lv' := [(6, .long v58), (0, .ref mo), (1, .long x0), (3, .int n0), (4, .long y0)]) hx hb d_Mo_load_59 hl (by decide) rfl (fun ls hl => ?_)
              rw [show v55.toInt.toNat = 1500 by omega] at e58
              have hst := uN_pos (x := x0) (by omega)
              have hWd : uN (9223372036854775807 - v58) = ft_w (p1 1500) := by
                    rw [← e58]
                    have h5 := uN_subm 9223372036854775807 v58
                    have h6 := il_rng v58
                    rw [show (9223372036854775807 : Int64).toInt = 9223372036854775807 from rfl] at h5
                    unfold ft_w
                    omega
              refine lv_iload_n hx hb d_Mo_load_61 rfl (lv_at hl 3 rfl) ?_
              refine lv_iconst (v := 1) hx hb d_Mo_load_62 (by decide) ?_
              refine lv_topi (fun v62 e62 => ?_)
              have t62 : v62.toInt = 1 := by rw [e62]; rfl
              refine lv_icmp_le hx hb d_Mo_load_63 (tgt := 88) (by decide) (fun g63 => ?_) (fun g63 => ?_)
              · have g63 := ic_le.mp g63
                refine lv_iconst (v := 0) hx hb d_Mo_load_88 (by decide) ?_
                refine lv_topi (fun v88 e88 => ?_)
                have t88 : v88.toInt = 0 := by rw [e88]; rfl
                refine lv_istore (lv' := [(8, .int v88), (6, .long v58), (0, .ref mo), (1, .long x0), (3, .int n0), (4, .long y0)]) hx hb d_Mo_load_89 hl (by decide) rfl (fun ls hl => ?_)
                have hab : (v88.toInt = 1 ∧ ¬ ft_ok (p1 1500) x0 n0.toInt) ∨ (v88.toInt = 0 ∧ ft_ok (p1 1500) x0 n0.toInt) := by
                      unfold ft_ok
                      generalize hz : ft_w (p1 1500) / uN x0 = z
                      first
                      | (refine Or.inr ⟨by omega, ?_⟩; omega)
                      | (have h6 := e77
                         rw [e75, e70, hWd, hz] at h6
                         have h7 : v77.toInt < v69.toInt := Int.not_le.mp (fun h8 => g81 (il_le.mpr h8))
                         rw [e69, Jvm.Kit.i64_of_i32] at h7
                         refine Or.inl ⟨by omega, ?_⟩
                         omega)
                      | (have h6 := e77
                         rw [e75, e70, hWd, hz] at h6
                         have h7 : v69.toInt ≤ v77.toInt := il_le.mp g81
                         rw [e69, Jvm.Kit.i64_of_i32] at h7
                         refine Or.inr ⟨by omega, ?_⟩
                         omega)
                refine lv_aload_n hx hb d_Mo_load_91 rfl (lv_at hl 2 rfl) ?_
                refine lv_iload hx hb d_Mo_load_92 (lv_at hl 0 rfl) ?_
                refine lv_iconst (v := 2) hx hb d_Mo_load_94 (by decide) ?_
                refine lv_topi (fun v94 e94 => ?_)
                have t94 : v94.toInt = 2 := by rw [e94]; rfl
                have hPc := hP.sub (ws' := [(mo, .inr (4, [.int mso, .ref m1, .ref m2, .ref m3, .ref m4, .ref m5, .ref m6, .int mct, .ref m7, .int mfr, .int mcu, .int mth2_44, .ref m8, .ref m9, .ref ma, .ref mb])), (m1, .inl (cL, 1503, .inr (.inl p1))), (m2, .inl (cL, 1503, .inr (.inl p2))), (m3, .inl (cI, 36072, .inl p3)), (m4, .inl (cI, 1503, .inl p4)), (m5, .inl (cL, 1500, .inr (.inl p5))), (m6, .inl (cI, 1500, .inl p6)), (m7, .inl (cI, 1500, .inl p7)), (m8, .inl (cI, 50, .inl p8)), (m9, .inl (cI, 50, .inl p9)), (ma, .inl (cI, 1500, .inl pa)), (mb, .inl (cI, 50, .inl pb))]) [0, 1, 2, 3, 4, 5, 6, 7, 8, 9, 10, 11] rfl
                have hDc := hD.sub (ws' := [(mo, .inr (4, [.int mso, .ref m1, .ref m2, .ref m3, .ref m4, .ref m5, .ref m6, .int mct, .ref m7, .int mfr, .int mcu, .int mth2_44, .ref m8, .ref m9, .ref ma, .ref mb])), (m1, .inl (cL, 1503, .inr (.inl p1))), (m2, .inl (cL, 1503, .inr (.inl p2))), (m3, .inl (cI, 36072, .inl p3)), (m4, .inl (cI, 1503, .inl p4)), (m5, .inl (cL, 1500, .inr (.inl p5))), (m6, .inl (cI, 1500, .inl p6)), (m7, .inl (cI, 1500, .inl p7)), (m8, .inl (cI, 50, .inl p8)), (m9, .inl (cI, 50, .inl p9)), (ma, .inl (cI, 1500, .inl pa)), (mb, .inl (cI, 50, .inl pb))]) [0, 1, 2, 3, 4, 5, 6, 7, 8, 9, 10, 11] (by decide) rfl
                have hFc := va_free (wc := [(mo, .inr (4, [.int mso, .ref m1, .ref m2, .ref m3, .ref m4, .ref m5, .ref m6, .int mct, .ref m7, .int mfr, .int mcu, .int mth2_44, .ref m8, .ref m9, .ref ma, .ref mb])), (m1, .inl (cL, 1503, .inr (.inl p1))), (m2, .inl (cL, 1503, .inr (.inl p2))), (m3, .inl (cI, 36072, .inl p3)), (m4, .inl (cI, 1503, .inl p4)), (m5, .inl (cL, 1500, .inr (.inl p5))), (m6, .inl (cI, 1500, .inl p6)), (m7, .inl (cI, 1500, .inl p7)), (m8, .inl (cI, 50, .inl p8)), (m9, .inl (cI, 50, .inl p9)), (ma, .inl (cI, 1500, .inl pa)), (mb, .inl (cI, 50, .inl pb))]) hD hS hA [0, 1, 2, 3, 4, 5, 6, 7, 8, 9, 10, 11] rfl
                refine va_calli (xr_mv (As := [.int v88, .int v94]) (rest := []) ⟨hx, hb, hml, hown, hts⟩ (c_Mo_fails l D cL cI mo m1 m2 m3 m4 m5 m6 m7 m8 m9 ma mb mso mct mfr mcu mth2_44 p1 p2 p5 p3 p4 p6 p7 p8 p9 pa pb v88 v94 H.size (by first | omega | exact hso)) (xr_cv 2 hts tw_663 tw_660 tw_662 tp_10 tw_7 rfl rfl (by decide) ⟨Nat.le_of_ble_eq_true rfl, Nat.le_of_ble_eq_true rfl⟩) hK hPc (hDc.weaken (fun _ _ _ _ => trivial)) (va_recv hK hP rfl (q0 := 0) (ci := 4) rfl) rfl hl.1 rfl (Nat.le_of_ble_eq_true rfl) d_Mo_load_95 ⟨Nat.le_of_ble_eq_true rfl, Nat.le_of_ble_eq_true rfl⟩) hS (fun q _ h => hFc q h) hFc (fun v95 u95 tt95 H1 locs ht95 hvm95 e95 hB95 hz95 hk95 hS => ?_)
                obtain ⟨mth2_95, rfl⟩ : ∃ z, z = u95 := ⟨_, rfl⟩
                have e95 : v95.toInt = v88.toInt ∧ ((v88.toInt = 0 ∧ mth2_95.toInt = 0) ∨ (v88.toInt ≠ 0 ∧ mth2_95.toInt = v94.toInt)) := e95
                obtain ⟨hP1, hK1, hD1⟩ := hB95
                rw [ht95] at hP1
                obtain ⟨hP, hD⟩ := va_join (wr := []) (w1 := [(mo, .inr (4, [.int mso, .ref m1, .ref m2, .ref m3, .ref m4, .ref m5, .ref m6, .int mct, .ref m7, .int mfr, .int mcu, .int mth2_95, .ref m8, .ref m9, .ref ma, .ref mb])), (m1, .inl (cL, 1503, .inr (.inl p1))), (m2, .inl (cL, 1503, .inr (.inl p2))), (m3, .inl (cI, 36072, .inl p3)), (m4, .inl (cI, 1503, .inl p4)), (m5, .inl (cL, 1500, .inr (.inl p5))), (m6, .inl (cI, 1500, .inl p6)), (m7, .inl (cI, 1500, .inl p7)), (m8, .inl (cI, 50, .inl p8)), (m9, .inl (cI, 50, .inl p9)), (ma, .inl (cI, 1500, .inl pa)), (mb, .inl (cI, 50, .inl pb))]) hP hD [0, 1, 2, 3, 4, 5, 6, 7, 8, 9, 10, 11] [] rfl rfl (by decide) (by decide) hk95 hFc hP1 hD1
                clear hP1 hD1 hPc hDc hFc
                generalize H1 = H at hP hS ⊢
                have hP : va_P D classes [(mo, .inr (4, [.int mso, .ref m1, .ref m2, .ref m3, .ref m4, .ref m5, .ref m6, .int mct, .ref m7, .int mfr, .int mcu, .int mth2_95, .ref m8, .ref m9, .ref ma, .ref mb])), (m1, .inl (cL, 1503, .inr (.inl p1))), (m2, .inl (cL, 1503, .inr (.inl p2))), (m3, .inl (cI, 36072, .inl p3)), (m4, .inl (cI, 1503, .inl p4)), (m5, .inl (cL, 1500, .inr (.inl p5))), (m6, .inl (cI, 1500, .inl p6)), (m7, .inl (cI, 1500, .inl p7)), (m8, .inl (cI, 50, .inl p8)), (m9, .inl (cI, 50, .inl p9)), (ma, .inl (cI, 1500, .inl pa)), (mb, .inl (cI, 50, .inl pb))] H := hP
                have hD : va_D A [(mo, .inr (4, [.int mso, .ref m1, .ref m2, .ref m3, .ref m4, .ref m5, .ref m6, .int mct, .ref m7, .int mfr, .int mcu, .int mth2_95, .ref m8, .ref m9, .ref ma, .ref mb])), (m1, .inl (cL, 1503, .inr (.inl p1))), (m2, .inl (cL, 1503, .inr (.inl p2))), (m3, .inl (cI, 36072, .inl p3)), (m4, .inl (cI, 1503, .inl p4)), (m5, .inl (cL, 1500, .inr (.inl p5))), (m6, .inl (cI, 1500, .inl p6)), (m7, .inl (cI, 1500, .inl p7)), (m8, .inl (cI, 50, .inl p8)), (m9, .inl (cI, 50, .inl p9)), (ma, .inl (cI, 1500, .inl pa)), (mb, .inl (cI, 50, .inl pb))] := hD
                refine lv_if_ne hx hb d_Mo_load_98 (tgt := 121) (by decide) (fun g98 => ?_) (fun g98 => ?_)
                · have g98 := (iz_ne).mp g98
                  exfalso; omega
                · have g98 := (iz_eq).mp g98
                  refine lv_aload_n hx hb d_Mo_load_101 rfl (lv_at hl 2 rfl) ?_
                  refine lv_iload_n hx hb d_Mo_load_102 rfl (lv_at hl 4 rfl) ?_
                  refine lv_sipush (v := 1500) hx hb d_Mo_load_103 (by decide) ?_
                  refine lv_topi (fun v103 e103 => ?_)
                  have t103 : v103.toInt = 1500 := by rw [e103]; rfl
                  refine lv_icmp_le hx hb d_Mo_load_106 (tgt := 113) (by decide) (fun g106 => ?_) (fun g106 => ?_)
                  · have g106 := ic_le.mp g106
                    refine lv_iconst (v := 0) hx hb d_Mo_load_113 (by decide) ?_
                    refine lv_topi (fun v113 e113 => ?_)
                    have t113 : v113.toInt = 0 := by rw [e113]; rfl
                    refine lv_iconst (v := 3) hx hb d_Mo_load_114 (by decide) ?_
                    refine lv_topi (fun v114 e114 => ?_)
                    have t114 : v114.toInt = 3 := by rw [e114]; rfl
                    have hPc := hP.sub (ws' := [(mo, .inr (4, [.int mso, .ref m1, .ref m2, .ref m3, .ref m4, .ref m5, .ref m6, .int mct, .ref m7, .int mfr, .int mcu, .int mth2_95, .ref m8, .ref m9, .ref ma, .ref mb])), (m1, .inl (cL, 1503, .inr (.inl p1))), (m2, .inl (cL, 1503, .inr (.inl p2))), (m3, .inl (cI, 36072, .inl p3)), (m4, .inl (cI, 1503, .inl p4)), (m5, .inl (cL, 1500, .inr (.inl p5))), (m6, .inl (cI, 1500, .inl p6)), (m7, .inl (cI, 1500, .inl p7)), (m8, .inl (cI, 50, .inl p8)), (m9, .inl (cI, 50, .inl p9)), (ma, .inl (cI, 1500, .inl pa)), (mb, .inl (cI, 50, .inl pb))]) [0, 1, 2, 3, 4, 5, 6, 7, 8, 9, 10, 11] rfl
                    have hDc := hD.sub (ws' := [(mo, .inr (4, [.int mso, .ref m1, .ref m2, .ref m3, .ref m4, .ref m5, .ref m6, .int mct, .ref m7, .int mfr, .int mcu, .int mth2_95, .ref m8, .ref m9, .ref ma, .ref mb])), (m1, .inl (cL, 1503, .inr (.inl p1))), (m2, .inl (cL, 1503, .inr (.inl p2))), (m3, .inl (cI, 36072, .inl p3)), (m4, .inl (cI, 1503, .inl p4)), (m5, .inl (cL, 1500, .inr (.inl p5))), (m6, .inl (cI, 1500, .inl p6)), (m7, .inl (cI, 1500, .inl p7)), (m8, .inl (cI, 50, .inl p8)), (m9, .inl (cI, 50, .inl p9)), (ma, .inl (cI, 1500, .inl pa)), (mb, .inl (cI, 50, .inl pb))]) [0, 1, 2, 3, 4, 5, 6, 7, 8, 9, 10, 11] (by decide) rfl
                    have hFc := va_free (wc := [(mo, .inr (4, [.int mso, .ref m1, .ref m2, .ref m3, .ref m4, .ref m5, .ref m6, .int mct, .ref m7, .int mfr, .int mcu, .int mth2_95, .ref m8, .ref m9, .ref ma, .ref mb])), (m1, .inl (cL, 1503, .inr (.inl p1))), (m2, .inl (cL, 1503, .inr (.inl p2))), (m3, .inl (cI, 36072, .inl p3)), (m4, .inl (cI, 1503, .inl p4)), (m5, .inl (cL, 1500, .inr (.inl p5))), (m6, .inl (cI, 1500, .inl p6)), (m7, .inl (cI, 1500, .inl p7)), (m8, .inl (cI, 50, .inl p8)), (m9, .inl (cI, 50, .inl p9)), (ma, .inl (cI, 1500, .inl pa)), (mb, .inl (cI, 50, .inl pb))]) hD hS hA [0, 1, 2, 3, 4, 5, 6, 7, 8, 9, 10, 11] rfl
                    refine va_calli (xr_mv (As := [.int v113, .int v114]) (rest := []) ⟨hx, hb, hml, hown, hts⟩ (c_Mo_fails l D cL cI mo m1 m2 m3 m4 m5 m6 m7 m8 m9 ma mb mso mct mfr mcu mth2_95 p1 p2 p5 p3 p4 p6 p7 p8 p9 pa pb v113 v114 H.size (by first | omega | exact hso)) (xr_cv 2 hts tw_663 tw_660 tw_662 tp_10 tw_7 rfl rfl (by decide) ⟨Nat.le_of_ble_eq_true rfl, Nat.le_of_ble_eq_true rfl⟩) hK hPc (hDc.weaken (fun _ _ _ _ => trivial)) (va_recv hK hP rfl (q0 := 0) (ci := 4) rfl) rfl hl.1 rfl (Nat.le_of_ble_eq_true rfl) d_Mo_load_115 ⟨Nat.le_of_ble_eq_true rfl, Nat.le_of_ble_eq_true rfl⟩) hS (fun q _ h => hFc q h) hFc (fun v115 u115 tt115 H1 locs ht115 hvm115 e115 hB115 hz115 hk115 hS => ?_)
                    obtain ⟨mth2_115, rfl⟩ : ∃ z, z = u115 := ⟨_, rfl⟩
                    have e115 : v115.toInt = v113.toInt ∧ ((v113.toInt = 0 ∧ mth2_115.toInt = 0) ∨ (v113.toInt ≠ 0 ∧ mth2_115.toInt = v114.toInt)) := e115
                    obtain ⟨hP1, hK1, hD1⟩ := hB115
                    rw [ht115] at hP1
                    obtain ⟨hP, hD⟩ := va_join (wr := []) (w1 := [(mo, .inr (4, [.int mso, .ref m1, .ref m2, .ref m3, .ref m4, .ref m5, .ref m6, .int mct, .ref m7, .int mfr, .int mcu, .int mth2_115, .ref m8, .ref m9, .ref ma, .ref mb])), (m1, .inl (cL, 1503, .inr (.inl p1))), (m2, .inl (cL, 1503, .inr (.inl p2))), (m3, .inl (cI, 36072, .inl p3)), (m4, .inl (cI, 1503, .inl p4)), (m5, .inl (cL, 1500, .inr (.inl p5))), (m6, .inl (cI, 1500, .inl p6)), (m7, .inl (cI, 1500, .inl p7)), (m8, .inl (cI, 50, .inl p8)), (m9, .inl (cI, 50, .inl p9)), (ma, .inl (cI, 1500, .inl pa)), (mb, .inl (cI, 50, .inl pb))]) hP hD [0, 1, 2, 3, 4, 5, 6, 7, 8, 9, 10, 11] [] rfl rfl (by decide) (by decide) hk115 hFc hP1 hD1
                    clear hP1 hD1 hPc hDc hFc
                    generalize H1 = H at hP hS ⊢
                    have hP : va_P D classes [(mo, .inr (4, [.int mso, .ref m1, .ref m2, .ref m3, .ref m4, .ref m5, .ref m6, .int mct, .ref m7, .int mfr, .int mcu, .int mth2_115, .ref m8, .ref m9, .ref ma, .ref mb])), (m1, .inl (cL, 1503, .inr (.inl p1))), (m2, .inl (cL, 1503, .inr (.inl p2))), (m3, .inl (cI, 36072, .inl p3)), (m4, .inl (cI, 1503, .inl p4)), (m5, .inl (cL, 1500, .inr (.inl p5))), (m6, .inl (cI, 1500, .inl p6)), (m7, .inl (cI, 1500, .inl p7)), (m8, .inl (cI, 50, .inl p8)), (m9, .inl (cI, 50, .inl p9)), (ma, .inl (cI, 1500, .inl pa)), (mb, .inl (cI, 50, .inl pb))] H := hP
                    have hD : va_D A [(mo, .inr (4, [.int mso, .ref m1, .ref m2, .ref m3, .ref m4, .ref m5, .ref m6, .int mct, .ref m7, .int mfr, .int mcu, .int mth2_115, .ref m8, .ref m9, .ref ma, .ref mb])), (m1, .inl (cL, 1503, .inr (.inl p1))), (m2, .inl (cL, 1503, .inr (.inl p2))), (m3, .inl (cI, 36072, .inl p3)), (m4, .inl (cI, 1503, .inl p4)), (m5, .inl (cL, 1500, .inr (.inl p5))), (m6, .inl (cI, 1500, .inl p6)), (m7, .inl (cI, 1500, .inl p7)), (m8, .inl (cI, 50, .inl p8)), (m9, .inl (cI, 50, .inl p9)), (ma, .inl (cI, 1500, .inl pa)), (mb, .inl (cI, 50, .inl pb))] := hD
                    refine lv_if_eq hx hb d_Mo_load_118 (tgt := 122) (by decide) (fun g118 => ?_) (fun g118 => ?_)
                    · have g118 := (iz_eq).mp g118
                      have hft : ft_ok (p1 1500) x0 n0.toInt := by
                            rcases hab with h5 | h5
                            · exfalso; omega
                            · exact h5.2
                      have hnn : n0.toInt ≤ 1500 := by omega
                      refine lv_lload hx hb d_Mo_load_122 (lv_at hl 1 rfl) ?_
                      refine lv_lstore (lv' := [(9, .long v58), (8, .int v88), (6, .long v58), (0, .ref mo), (1, .long x0), (3, .int n0), (4, .long y0)]) hx hb d_Mo_load_124 hl (by decide) rfl (fun ls hl => ?_)
                      refine lv_iconst (v := 0) hx hb d_Mo_load_126 (by decide) ?_
                      refine lv_topi (fun v126 e126 => ?_)
                      have t126 : v126.toInt = 0 := by rw [e126]; rfl
                      refine lv_istore (lv' := [(11, .int v126), (9, .long v58), (8, .int v88), (6, .long v58), (0, .ref mo), (1, .long x0), (3, .int n0), (4, .long y0)]) hx hb d_Mo_load_127 hl (by decide) rfl (fun ls hl => ?_)
                      have lp129 : ∀ (fuel129 : Nat) (ii : Int32) (at9 : Int64) (KWz : Nat → Nat → Int64) (mctz : Int32) (mfrz : Int32) (p1z : Nat → Int64) (p2z : Nat → Int64) (p3z : Nat → Int32) (p4z : Nat → Int32) (p5z : Nat → Int64) (p6z : Nat → Int32) (H : Heap) (locs : List Loc) (ls : Array Slot), lv_has ls 12 [(11, .int ii), (9, .long at9), (8, .int v88), (6, .long v58), (0, .ref mo), (1, .long x0), (3, .int n0), (4, .long y0)] → va_P D classes [(mo, .inr (4, [.int mso, .ref m1, .ref m2, .ref m3, .ref m4, .ref m5, .ref m6, .int mctz, .ref m7, .int mfrz, .int mcu, .int mth2_115, .ref m8, .ref m9, .ref ma, .ref mb])), (m1, .inl (cL, 1503, .inr (.inl p1z))), (m2, .inl (cL, 1503, .inr (.inl p2z))), (m3, .inl (cI, 36072, .inl p3z)), (m4, .inl (cI, 1503, .inl p4z)), (m5, .inl (cL, 1500, .inr (.inl p5z))), (m6, .inl (cI, 1500, .inl p6z)), (m7, .inl (cI, 1500, .inl p7)), (m8, .inl (cI, 50, .inl p8)), (m9, .inl (cI, 50, .inl p9)), (ma, .inl (cI, 1500, .inl pa)), (mb, .inl (cI, 50, .inl pb))] H → va_D A [(mo, .inr (4, [.int mso, .ref m1, .ref m2, .ref m3, .ref m4, .ref m5, .ref m6, .int mctz, .ref m7, .int mfrz, .int mcu, .int mth2_115, .ref m8, .ref m9, .ref ma, .ref mb])), (m1, .inl (cL, 1503, .inr (.inl p1z))), (m2, .inl (cL, 1503, .inr (.inl p2z))), (m3, .inl (cI, 36072, .inl p3z)), (m4, .inl (cI, 1503, .inl p4z)), (m5, .inl (cL, 1500, .inr (.inl p5z))), (m6, .inl (cI, 1500, .inl p6z)), (m7, .inl (cI, 1500, .inl p7)), (m8, .inl (cI, 50, .inl p8)), (m9, .inl (cI, 50, .inl p9)), (ma, .inl (cI, 1500, .inl pa)), (mb, .inl (cI, 50, .inl pb))] → va_S A s.heap H locs → (0 ≤ ii.toInt) → (ii.toInt ≤ n0.toInt) → (mctz = ii) → (mfrz.toInt = 1500 - ii.toInt) → (MI ii.toInt.toNat p6z p7) → (KRs mso.toInt p1z p2z p3z p4z KWz) → (KWz 1501 = KW 1501 ∧ KWz 1502 = KW 1502) → (at9 = (p1 1500) + ii.toInt64 * x0) → (∀ k, k < ii.toInt.toNat → KWz (p6z k).toInt.toNat 0 = ((p1 1500) + (Int32.ofNat k).toInt64 * x0) ^^^ (-9223372036854775808)) → (∀ k, k < ii.toInt.toNat → p5z (p6z k).toInt.toNat = y0 + (Int32.ofNat k).toInt64) → n0.toInt.toNat - ii.toInt.toNat < fuel129 → W p l e ({ frames := 3, cells := 0, slots := 0, locals := 88 } : Room) s m ([.ref mo, .long x0, .int n0, .long y0] : List Value).toArray below meth c H locs 0 0 Q (F0 m 129 ls []) := by
                        intro fuel129
                        induction fuel129 with
                        | zero => intro ii at9 KWz mctz mfrz p1z p2z p3z p4z p5z p6z H locs ls hl hP hD hS h1 h2 h3 h5 h6 h7 h8 h9 h10 h11 hm129; exact absurd hm129 (Nat.not_lt_zero _)
                        | succ fuel129 ih129 =>
                          intro ii at9 KWz mctz mfrz p1z p2z p3z p4z p5z p6z H locs ls hl hP hD hS h1 h2 h3 h5 h6 h7 h8 h9 h10 h11 hm129
                          refine lv_iload hx hb d_Mo_load_129 (lv_at hl 0 rfl) ?_
                          refine lv_iload_n hx hb d_Mo_load_131 rfl (lv_at hl 6 rfl) ?_
                          refine lv_icmp_ge hx hb d_Mo_load_132 (tgt := 172) (by decide) (fun g132 => ?_) (fun g132 => ?_)
                          · have g132 := ic_le.mp g132
                            refine lv_aload_n hx hb d_Mo_load_172 rfl (lv_at hl 4 rfl) ?_
                            refine va_get (D := D) (ci := 4) (v := .ref m1) (C := R_Mo) (T := F_Mo) (N := 16) hx hb hts in_Mo hown hK hP 0 rfl rfl 1 (by decide) (hts _ tw_604) (fun _ h9 => h9) rfl d_Mo_load_173 ?_
                            refine lv_sipush (v := 1500) hx hb d_Mo_load_176 (by decide) ?_
                            refine lv_topi (fun v176 e176 => ?_)
                            have t176 : v176.toInt = 1500 := by rw [e176]; rfl
                            refine lv_lload hx hb d_Mo_load_179 (lv_at hl 3 rfl) ?_
                            refine va_last hx hb hK hP hD hS 1 0 rfl rfl (ia_in ⟨by omega, by omega⟩) d_Mo_load_181 (fun H locs hP hD hS => ?_)
                            obtain ⟨f181, q181⟩ : ∃ z, z = vp_updL p1z v176.toInt.toNat v58 := ⟨_, rfl⟩
                            have hP : va_P D classes [(mo, .inr (4, [.int mso, .ref m1, .ref m2, .ref m3, .ref m4, .ref m5, .ref m6, .int mctz, .ref m7, .int mfrz, .int mcu, .int mth2_115, .ref m8, .ref m9, .ref ma, .ref mb])), (m1, .inl (cL, 1503, .inr (.inl (vp_updL p1z v176.toInt.toNat v58)))), (m2, .inl (cL, 1503, .inr (.inl p2z))), (m3, .inl (cI, 36072, .inl p3z)), (m4, .inl (cI, 1503, .inl p4z)), (m5, .inl (cL, 1500, .inr (.inl p5z))), (m6, .inl (cI, 1500, .inl p6z)), (m7, .inl (cI, 1500, .inl p7)), (m8, .inl (cI, 50, .inl p8)), (m9, .inl (cI, 50, .inl p9)), (ma, .inl (cI, 1500, .inl pa)), (mb, .inl (cI, 50, .inl pb))] H := hP
                            have hD : va_D A [(mo, .inr (4, [.int mso, .ref m1, .ref m2, .ref m3, .ref m4, .ref m5, .ref m6, .int mctz, .ref m7, .int mfrz, .int mcu, .int mth2_115, .ref m8, .ref m9, .ref ma, .ref mb])), (m1, .inl (cL, 1503, .inr (.inl (vp_updL p1z v176.toInt.toNat v58)))), (m2, .inl (cL, 1503, .inr (.inl p2z))), (m3, .inl (cI, 36072, .inl p3z)), (m4, .inl (cI, 1503, .inl p4z)), (m5, .inl (cL, 1500, .inr (.inl p5z))), (m6, .inl (cI, 1500, .inl p6z)), (m7, .inl (cI, 1500, .inl p7)), (m8, .inl (cI, 50, .inl p8)), (m9, .inl (cI, 50, .inl p9)), (ma, .inl (cI, 1500, .inl pa)), (mb, .inl (cI, 50, .inl pb))] := hD
                            rw [← q181] at hP hD
                            have hpost : ((mso.toInt ≠ 0 ∨ 0 < n) ∧ mth2_115.toInt = 1 ∧ mctz = mct ∧ mfrz = mfr ∧ p6z = p6 ∧ p5z = p5 ∧ f181 = p1 ∧ p2z = p2 ∧ p3z = p3 ∧ p4z = p4) ∨ (mso.toInt = 0 ∧ n = 0 ∧ ¬ (1 ≤ x0.toInt ∧ 0 ≤ n0.toInt ∧ ft_ok (p1 1500) x0 n0.toInt) ∧ mth2_115.toInt = 2 ∧ mctz = mct ∧ mfrz = mfr ∧ p6z = p6 ∧ p5z = p5 ∧ f181 = p1 ∧ p2z = p2 ∧ p3z = p3 ∧ p4z = p4) ∨ (mso.toInt = 0 ∧ n = 0 ∧ 1 ≤ x0.toInt ∧ 0 ≤ n0.toInt ∧ ft_ok (p1 1500) x0 n0.toInt ∧ 1500 < n0.toInt ∧ mth2_115.toInt = 3 ∧ mctz = mct ∧ mfrz = mfr ∧ p6z = p6 ∧ p5z = p5 ∧ f181 = p1 ∧ p2z = p2 ∧ p3z = p3 ∧ p4z = p4) ∨ (mso.toInt = 0 ∧ n = 0 ∧ 1 ≤ x0.toInt ∧ 0 ≤ n0.toInt ∧ ft_ok (p1 1500) x0 n0.toInt ∧ n0.toInt ≤ 1500 ∧ mth2_115.toInt = 0 ∧ ∃ KW2 : Nat → Nat → Int64, mctz = n0 ∧ mfrz.toInt = 1500 - n0.toInt ∧ MI n0.toInt.toNat p6z p7 ∧ KRs mso.toInt f181 p2z p3z p4z KW2 ∧ KW2 1500 0 = KW 1500 0 ∧ KW2 1501 = KW 1501 ∧ KW2 1502 = KW 1502 ∧ (∀ k, k < n0.toInt.toNat → KW2 (p6z k).toInt.toNat 0 = ((p1 1500) + (Int32.ofNat k).toInt64 * x0) ^^^ (-9223372036854775808)) ∧ (∀ k, k < n0.toInt.toNat → p5z (p6z k).toInt.toNat = y0 + (Int32.ofNat k).toInt64)) := by
                              have hin0 : ii = n0 := ic_eq.mpr (by omega)
                              have hm0 : mth2_115.toInt = 0 := by omega
                              rw [show v176.toInt.toNat = 1500 by omega] at q181
                              refine Or.inr (Or.inr (Or.inr ⟨by omega, by omega, hy1, by omega, hft, hnn, hm0, kset KWz 1500 (fun _ => v58 ^^^ (-9223372036854775808)), by rw [h3, hin0], by omega, by rw [← hin0]; exact h6, fun y hy => ?_, ?_, ?_, ?_, fun k hk => ?_, ?_⟩))
                              · by_cases h5 : y = 1500
                                · rw [h5, kset_at]
                                  refine Or.inl ⟨by omega, ?_⟩
                                  rw [q181]; unfold vp_updL; rw [if_pos rfl]
                                · rw [kset_ne _ _ _ h5]
                                  refine kr_at (h7 y hy) ?_ rfl rfl (fun k hk => rfl)
                                  rw [q181]; unfold vp_updL; rw [if_neg h5]
                              · rw [kset_at, e58]
                                rcases hkr 1500 (by omega) with h5 | h5 | h5
                                · exact h5.2.symm
                                · omega
                                · omega
                              · rw [kset_ne _ _ _ (by omega)]; exact h8.1
                              · rw [kset_ne _ _ _ (by omega)]; exact h8.2
                              · rw [← hin0] at hk
                                rw [kset_ne _ _ _ (by have := h6.1 k hk; omega)]
                                exact h10 k hk
                              · rw [← hin0]; exact h11
                            have hP9 := hP.sub (ws' := [(mo, .inr (4, [.int mso, .ref m1, .ref m2, .ref m3, .ref m4, .ref m5, .ref m6, .int mctz, .ref m7, .int mfrz, .int mcu, .int mth2_115, .ref m8, .ref m9, .ref ma, .ref mb])), (m1, .inl (cL, 1503, .inr (.inl f181))), (m2, .inl (cL, 1503, .inr (.inl p2z))), (m3, .inl (cI, 36072, .inl p3z)), (m4, .inl (cI, 1503, .inl p4z)), (m5, .inl (cL, 1500, .inr (.inl p5z))), (m6, .inl (cI, 1500, .inl p6z)), (m7, .inl (cI, 1500, .inl p7)), (m8, .inl (cI, 50, .inl p8)), (m9, .inl (cI, 50, .inl p9)), (ma, .inl (cI, 1500, .inl pa)), (mb, .inl (cI, 50, .inl pb))]) [0, 1, 2, 3, 4, 5, 6, 7, 8, 9, 10, 11] rfl
                            have hD9 := hD.sub (ws' := [(mo, .inr (4, [.int mso, .ref m1, .ref m2, .ref m3, .ref m4, .ref m5, .ref m6, .int mctz, .ref m7, .int mfrz, .int mcu, .int mth2_115, .ref m8, .ref m9, .ref ma, .ref mb])), (m1, .inl (cL, 1503, .inr (.inl f181))), (m2, .inl (cL, 1503, .inr (.inl p2z))), (m3, .inl (cI, 36072, .inl p3z)), (m4, .inl (cI, 1503, .inl p4z)), (m5, .inl (cL, 1500, .inr (.inl p5z))), (m6, .inl (cI, 1500, .inl p6z)), (m7, .inl (cI, 1500, .inl p7)), (m8, .inl (cI, 50, .inl p8)), (m9, .inl (cI, 50, .inl p9)), (ma, .inl (cI, 1500, .inl pa)), (mb, .inl (cI, 50, .inl pb))]) [0, 1, 2, 3, 4, 5, 6, 7, 8, 9, 10, 11] (by decide) rfl
                            rw [hQ]
                            exact W.vret hx hb hr (fun t ht hW => ⟨⟨(mth2_115, mctz, mfrz, f181, p2z, p3z, p4z, p5z, p6z), rfl, hpost, by rw [ht]; exact hP9, va_K.moved hW.alike hK, hD9⟩, hS.F ht⟩) hS.2.2 d_Mo_load_182
                          · have g132 := ic_nle.mp g132
                            refine lv_aload_n hx hb d_Mo_load_135 rfl (lv_at hl 4 rfl) ?_
                            refine va_get (D := D) (ci := 4) (v := .ref m1) (C := R_Mo) (T := F_Mo) (N := 16) hx hb hts in_Mo hown hK hP 0 rfl rfl 1 (by decide) (hts _ tw_604) (fun _ h9 => h9) rfl d_Mo_load_136 ?_
                            refine lv_sipush (v := 1500) hx hb d_Mo_load_139 (by decide) ?_
                            refine lv_topi (fun v139 e139 => ?_)
                            have t139 : v139.toInt = 1500 := by rw [e139]; rfl
                            refine lv_lload hx hb d_Mo_load_142 (lv_at hl 1 rfl) ?_
                            refine va_last hx hb hK hP hD hS 1 0 rfl rfl (ia_in ⟨by omega, by omega⟩) d_Mo_load_144 (fun H locs hP hD hS => ?_)
                            obtain ⟨f144, q144⟩ : ∃ z, z = vp_updL p1z v139.toInt.toNat at9 := ⟨_, rfl⟩
                            have hP : va_P D classes [(mo, .inr (4, [.int mso, .ref m1, .ref m2, .ref m3, .ref m4, .ref m5, .ref m6, .int mctz, .ref m7, .int mfrz, .int mcu, .int mth2_115, .ref m8, .ref m9, .ref ma, .ref mb])), (m1, .inl (cL, 1503, .inr (.inl (vp_updL p1z v139.toInt.toNat at9)))), (m2, .inl (cL, 1503, .inr (.inl p2z))), (m3, .inl (cI, 36072, .inl p3z)), (m4, .inl (cI, 1503, .inl p4z)), (m5, .inl (cL, 1500, .inr (.inl p5z))), (m6, .inl (cI, 1500, .inl p6z)), (m7, .inl (cI, 1500, .inl p7)), (m8, .inl (cI, 50, .inl p8)), (m9, .inl (cI, 50, .inl p9)), (ma, .inl (cI, 1500, .inl pa)), (mb, .inl (cI, 50, .inl pb))] H := hP
                            have hD : va_D A [(mo, .inr (4, [.int mso, .ref m1, .ref m2, .ref m3, .ref m4, .ref m5, .ref m6, .int mctz, .ref m7, .int mfrz, .int mcu, .int mth2_115, .ref m8, .ref m9, .ref ma, .ref mb])), (m1, .inl (cL, 1503, .inr (.inl (vp_updL p1z v139.toInt.toNat at9)))), (m2, .inl (cL, 1503, .inr (.inl p2z))), (m3, .inl (cI, 36072, .inl p3z)), (m4, .inl (cI, 1503, .inl p4z)), (m5, .inl (cL, 1500, .inr (.inl p5z))), (m6, .inl (cI, 1500, .inl p6z)), (m7, .inl (cI, 1500, .inl p7)), (m8, .inl (cI, 50, .inl p8)), (m9, .inl (cI, 50, .inl p9)), (ma, .inl (cI, 1500, .inl pa)), (mb, .inl (cI, 50, .inl pb))] := hD
                            rw [← q144] at hP hD
                            rw [show v139.toInt.toNat = 1500 by omega] at q144
                            have hkz : KRs mso.toInt f144 p2z p3z p4z (kset KWz 1500 (fun _ => at9 ^^^ (-9223372036854775808))) := by
                                  intro y hy
                                  by_cases h5 : y = 1500
                                  · rw [h5, kset_at]
                                    refine Or.inl ⟨by omega, ?_⟩
                                    rw [q144]; unfold vp_updL; rw [if_pos rfl]
                                  · rw [kset_ne _ _ _ h5]
                                    refine kr_at (h7 y hy) ?_ rfl rfl (fun k hk => rfl)
                                    rw [q144]; unfold vp_updL; rw [if_neg h5]
                            obtain ⟨n9, hn9⟩ : ∃ z, z = ii.toInt.toNat := ⟨_, rfl⟩
                            rw [← hn9] at h6
                            obtain ⟨KW9, hKW9⟩ : ∃ z, z = kset KWz 1500 (fun _ => at9 ^^^ (-9223372036854775808)) := ⟨_, rfl⟩
                            rw [← hKW9] at hkz
                            have hfz := h6.2.1 (1499 - n9) (by omega)
                            have hinz : ∀ j, j < n9 → ¬ (p7 (1499 - n9)).toInt.toNat = (p6z j).toInt.toNat := fun j hj h5 => by
                                  have h8 := h6.1 j hj
                                  have h9 := h6.2.2 n9 j (by omega) (by omega) (by
                                    unfold sl
                                    rw [if_neg (by omega), if_pos hj, ic_eq]
                                    omega)
                                  omega
                            refine lv_aload_n hx hb d_Mo_load_145 rfl (lv_at hl 4 rfl) ?_
                            refine lv_iload hx hb d_Mo_load_146 (lv_at hl 0 rfl) ?_
                            refine lv_sipush (v := 1500) hx hb d_Mo_load_148 (by decide) ?_
                            refine lv_topi (fun v148 e148 => ?_)
                            have t148 : v148.toInt = 1500 := by rw [e148]; rfl
                            refine lv_lload hx hb d_Mo_load_151 (lv_at hl 7 rfl) ?_
                            refine lv_iload hx hb d_Mo_load_153 (lv_at hl 0 rfl) ?_
                            refine lv_i2l hx hb d_Mo_load_155 rfl ?_
                            refine lv_topl (fun v155 e155 => ?_)
                            refine lv_ladd hx hb d_Mo_load_156 ?_
                            refine lv_topl (fun v156 e156 => ?_)
                            have hPc := hP.sub (ws' := [(mo, .inr (4, [.int mso, .ref m1, .ref m2, .ref m3, .ref m4, .ref m5, .ref m6, .int mctz, .ref m7, .int mfrz, .int mcu, .int mth2_115, .ref m8, .ref m9, .ref ma, .ref mb])), (m1, .inl (cL, 1503, .inr (.inl f144))), (m2, .inl (cL, 1503, .inr (.inl p2z))), (m3, .inl (cI, 36072, .inl p3z)), (m4, .inl (cI, 1503, .inl p4z)), (m5, .inl (cL, 1500, .inr (.inl p5z))), (m6, .inl (cI, 1500, .inl p6z)), (m7, .inl (cI, 1500, .inl p7)), (m8, .inl (cI, 50, .inl p8)), (m9, .inl (cI, 50, .inl p9)), (ma, .inl (cI, 1500, .inl pa)), (mb, .inl (cI, 50, .inl pb))]) [0, 1, 2, 3, 4, 5, 6, 7, 8, 9, 10, 11] rfl
                            have hDc := hD.sub (ws' := [(mo, .inr (4, [.int mso, .ref m1, .ref m2, .ref m3, .ref m4, .ref m5, .ref m6, .int mctz, .ref m7, .int mfrz, .int mcu, .int mth2_115, .ref m8, .ref m9, .ref ma, .ref mb])), (m1, .inl (cL, 1503, .inr (.inl f144))), (m2, .inl (cL, 1503, .inr (.inl p2z))), (m3, .inl (cI, 36072, .inl p3z)), (m4, .inl (cI, 1503, .inl p4z)), (m5, .inl (cL, 1500, .inr (.inl p5z))), (m6, .inl (cI, 1500, .inl p6z)), (m7, .inl (cI, 1500, .inl p7)), (m8, .inl (cI, 50, .inl p8)), (m9, .inl (cI, 50, .inl p9)), (ma, .inl (cI, 1500, .inl pa)), (mb, .inl (cI, 50, .inl pb))]) [0, 1, 2, 3, 4, 5, 6, 7, 8, 9, 10, 11] (by decide) rfl
                            have hFc := va_free (wc := [(mo, .inr (4, [.int mso, .ref m1, .ref m2, .ref m3, .ref m4, .ref m5, .ref m6, .int mctz, .ref m7, .int mfrz, .int mcu, .int mth2_115, .ref m8, .ref m9, .ref ma, .ref mb])), (m1, .inl (cL, 1503, .inr (.inl f144))), (m2, .inl (cL, 1503, .inr (.inl p2z))), (m3, .inl (cI, 36072, .inl p3z)), (m4, .inl (cI, 1503, .inl p4z)), (m5, .inl (cL, 1500, .inr (.inl p5z))), (m6, .inl (cI, 1500, .inl p6z)), (m7, .inl (cI, 1500, .inl p7)), (m8, .inl (cI, 50, .inl p8)), (m9, .inl (cI, 50, .inl p9)), (ma, .inl (cI, 1500, .inl pa)), (mb, .inl (cI, 50, .inl pb))]) hD hS hA [0, 1, 2, 3, 4, 5, 6, 7, 8, 9, 10, 11] rfl
                            refine va_callv (xr_mv (As := [.int ii, .int v148, .long v156]) (rest := []) ⟨hx, hb, hml, hown, hts⟩ (c_Mo_insert l D cL cI mo m1 m2 m3 m4 m5 m6 m7 m8 m9 ma mb mso mctz mfrz mcu mth2_115 f144 p2z p5z p3z p4z p6z p7 p8 p9 pa pb w KW9 n9 ii v148 v156 H.size (by first | omega | exact hws) (hkz) (by rw [h3]; omega) (by first | omega | exact hn) (by first | omega | exact hfr) (h6) (by first | omega | exact hn1) (by first | omega | exact hpl) (by first | omega | exact hia)) (xr_cv 3 hts tw_715 tw_712 tw_714 tp_16 tw_7 rfl rfl (by decide) ⟨Nat.le_of_ble_eq_true rfl, Nat.le_of_ble_eq_true rfl⟩) hK hPc (hDc.weaken (fun _ _ _ _ => trivial)) (va_recv hK hP rfl (q0 := 0) (ci := 4) rfl) rfl hl.1 rfl (Nat.le_of_ble_eq_true rfl) d_Mo_load_157 ⟨Nat.le_of_ble_eq_true rfl, Nat.le_of_ble_eq_true rfl⟩) hS (fun q _ h => hFc q h) hFc (fun u157 tt157 H1 locs ht157 hvm157 e157 hB157 hz157 hk157 hS => ?_)
                            obtain ⟨mct2_157, mfr2_157, p1b_157, p2b_157, p3b_157, p4b_157, p5b_157, p6b_157⟩ := u157
                            have e157 : mct2_157.toInt = (n9 : Int) + 1 ∧ mfr2_157.toInt = 1500 - ((n9 : Int) + 1) ∧ MI (n9 + 1) p6b_157 p7 ∧ (∀ k, k < n9 + 1 → p6b_157 k = if k < ii.toInt.toNat then p6z k else if k = ii.toInt.toNat then p7 (1499 - n9) else p6z (k - 1)) ∧ KRs mso.toInt p1b_157 p2b_157 p3b_157 p4b_157 (kset KW9 (p7 (1499 - n9)).toInt.toNat (KW9 v148.toInt.toNat)) ∧ ∀ y, p5b_157 y = if y = (p7 (1499 - n9)).toInt.toNat then v156 else p5z y := e157
                            obtain ⟨hP1, hK1, hD1⟩ := hB157
                            rw [ht157] at hP1
                            obtain ⟨hP, hD⟩ := va_join (wr := []) (w1 := [(mo, .inr (4, [.int mso, .ref m1, .ref m2, .ref m3, .ref m4, .ref m5, .ref m6, .int mct2_157, .ref m7, .int mfr2_157, .int mcu, .int mth2_115, .ref m8, .ref m9, .ref ma, .ref mb])), (m1, .inl (cL, 1503, .inr (.inl p1b_157))), (m2, .inl (cL, 1503, .inr (.inl p2b_157))), (m3, .inl (cI, 36072, .inl p3b_157)), (m4, .inl (cI, 1503, .inl p4b_157)), (m5, .inl (cL, 1500, .inr (.inl p5b_157))), (m6, .inl (cI, 1500, .inl p6b_157)), (m7, .inl (cI, 1500, .inl p7)), (m8, .inl (cI, 50, .inl p8)), (m9, .inl (cI, 50, .inl p9)), (ma, .inl (cI, 1500, .inl pa)), (mb, .inl (cI, 50, .inl pb))]) hP hD [0, 1, 2, 3, 4, 5, 6, 7, 8, 9, 10, 11] [] rfl rfl (by decide) (by decide) hk157 hFc hP1 hD1
                            clear hP1 hD1 hPc hDc hFc
                            generalize H1 = H at hP hS ⊢
                            have hP : va_P D classes [(mo, .inr (4, [.int mso, .ref m1, .ref m2, .ref m3, .ref m4, .ref m5, .ref m6, .int mct2_157, .ref m7, .int mfr2_157, .int mcu, .int mth2_115, .ref m8, .ref m9, .ref ma, .ref mb])), (m1, .inl (cL, 1503, .inr (.inl p1b_157))), (m2, .inl (cL, 1503, .inr (.inl p2b_157))), (m3, .inl (cI, 36072, .inl p3b_157)), (m4, .inl (cI, 1503, .inl p4b_157)), (m5, .inl (cL, 1500, .inr (.inl p5b_157))), (m6, .inl (cI, 1500, .inl p6b_157)), (m7, .inl (cI, 1500, .inl p7)), (m8, .inl (cI, 50, .inl p8)), (m9, .inl (cI, 50, .inl p9)), (ma, .inl (cI, 1500, .inl pa)), (mb, .inl (cI, 50, .inl pb))] H := hP
                            have hD : va_D A [(mo, .inr (4, [.int mso, .ref m1, .ref m2, .ref m3, .ref m4, .ref m5, .ref m6, .int mct2_157, .ref m7, .int mfr2_157, .int mcu, .int mth2_115, .ref m8, .ref m9, .ref ma, .ref mb])), (m1, .inl (cL, 1503, .inr (.inl p1b_157))), (m2, .inl (cL, 1503, .inr (.inl p2b_157))), (m3, .inl (cI, 36072, .inl p3b_157)), (m4, .inl (cI, 1503, .inl p4b_157)), (m5, .inl (cL, 1500, .inr (.inl p5b_157))), (m6, .inl (cI, 1500, .inl p6b_157)), (m7, .inl (cI, 1500, .inl p7)), (m8, .inl (cI, 50, .inl p8)), (m9, .inl (cI, 50, .inl p9)), (ma, .inl (cI, 1500, .inl pa)), (mb, .inl (cI, 50, .inl pb))] := hD
                            refine lv_lload hx hb d_Mo_load_160 (lv_at hl 1 rfl) ?_
                            refine lv_lload_n hx hb d_Mo_load_162 rfl (lv_at hl 5 rfl) ?_
                            refine lv_ladd hx hb d_Mo_load_163 ?_
                            refine lv_topl (fun v163 e163 => ?_)
                            refine lv_lstore (lv' := [(9, .long v163), (11, .int ii), (8, .int v88), (6, .long v58), (0, .ref mo), (1, .long x0), (3, .int n0), (4, .long y0)]) hx hb d_Mo_load_164 hl (by decide) rfl (fun ls hl => ?_)
                            obtain ⟨v166, e166⟩ : ∃ z, z = ii + Int32.ofInt 1 := ⟨_, rfl⟩
                            have t166 := ia_inc 1 e166 (by decide) ⟨by omega, by omega⟩
                            refine lv_iinc (k := 1) (lv' := [(11, .int v166), (9, .long v163), (8, .int v88), (6, .long v58), (0, .ref mo), (1, .long x0), (3, .int n0), (4, .long y0)]) hx hb d_Mo_load_166 hl rfl e166.symm (by decide) rfl (fun ls hl => ?_)
                            refine lv_goto hx hb d_Mo_load_169 (tgt := 129) (by decide) ?_
                            obtain ⟨i1, i2, i3, i4, i5, i6⟩ := e157
                            rw [show v148.toInt.toNat = 1500 by omega] at i5
                            rw [← hn9] at i4
                            exact ih129 v166 v163 (kset KW9 (p7 (1499 - n9)).toInt.toNat (KW9 1500)) mct2_157 mfr2_157 p1b_157 p2b_157 p3b_157 p4b_157 p5b_157 p6b_157 H locs ls hl hP hD hS (by omega) (by omega) (by rw [ic_eq]; omega) (by omega) (by rw [show v166.toInt.toNat = n9 + 1 by omega]; exact i3) (i5) (by rw [kset_ne _ _ _ (by omega), kset_ne _ _ _ (by omega), hKW9, kset_ne _ _ _ (by omega), kset_ne _ _ _ (by omega)]; exact h8) (by
                                  rw [e163, h9, show v166.toInt64 = ii.toInt64 + 1 from Int64.toInt_inj.mp (by
                                    have h12 := ii_add1 (ii.toInt64) (by rw [Jvm.Kit.i64_of_i32]; omega)
                                    rw [h12, Jvm.Kit.i64_of_i32, Jvm.Kit.i64_of_i32]; omega), Int64.add_mul, Int64.one_mul, Int64.add_assoc]) (fun k hk => by
                                  rw [i4 k (by omega)]
                                  by_cases h12 : k < n9
                                  · rw [if_pos h12, kset_ne _ _ _ (fun h13 => hinz k h12 h13.symm), hKW9, kset_ne _ _ _ (by have := h6.1 k h12; omega)]
                                    exact h10 k (by omega)
                                  · have h13 : k = n9 := by omega
                                    rw [if_neg h12, if_pos h13, kset_at, hKW9, kset_at, h9, h13, hn9, show Int32.ofNat ii.toInt.toNat = ii from ic_eq.mpr (by rw [ia_of _ (by omega)]; omega)]) (fun k hk => by
                                  rw [i4 k (by omega), i6]
                                  by_cases h12 : k < n9
                                  · rw [if_pos h12, if_neg (fun h13 => hinz k h12 h13.symm)]
                                    exact h11 k (by omega)
                                  · have h13 : k = n9 := by omega
                                    rw [if_neg h12, if_pos h13, if_pos rfl, e156, e155, h13, hn9, show Int32.ofNat ii.toInt.toNat = ii from ic_eq.mpr (by rw [ia_of _ (by omega)]; omega)]) (by omega)
                      exact lp129 _ v126 v58 KW mct mfr p1 p2 p3 p4 p5 p6 H locs ls hl hP hD hS (by omega) (by omega) (by rw [ic_eq]; omega) (by omega) (by rw [show v126.toInt.toNat = n by omega]; exact hmi) (hkr) (⟨rfl, rfl⟩) (by rw [e58, e126]; show _ = _ + (0 : Int32).toInt64 * x0; rw [show (0 : Int32).toInt64 = 0 from rfl, Int64.zero_mul, Int64.add_zero]) (fun k hk => by omega) (fun k hk => by omega) (Nat.lt_succ_self _)
                    · have g118 := (iz_ne).mp g118
                      exfalso; omega
                  · have g106 := ic_nle.mp g106
                    refine lv_iconst (v := 1) hx hb d_Mo_load_109 (by decide) ?_
                    refine lv_topi (fun v109 e109 => ?_)
                    have t109 : v109.toInt = 1 := by rw [e109]; rfl
                    refine lv_goto hx hb d_Mo_load_110 (tgt := 114) (by decide) ?_
                    refine lv_iconst (v := 3) hx hb d_Mo_load_114 (by decide) ?_
                    refine lv_topi (fun v114 e114 => ?_)
                    have t114 : v114.toInt = 3 := by rw [e114]; rfl
                    have hPc := hP.sub (ws' := [(mo, .inr (4, [.int mso, .ref m1, .ref m2, .ref m3, .ref m4, .ref m5, .ref m6, .int mct, .ref m7, .int mfr, .int mcu, .int mth2_95, .ref m8, .ref m9, .ref ma, .ref mb])), (m1, .inl (cL, 1503, .inr (.inl p1))), (m2, .inl (cL, 1503, .inr (.inl p2))), (m3, .inl (cI, 36072, .inl p3)), (m4, .inl (cI, 1503, .inl p4)), (m5, .inl (cL, 1500, .inr (.inl p5))), (m6, .inl (cI, 1500, .inl p6)), (m7, .inl (cI, 1500, .inl p7)), (m8, .inl (cI, 50, .inl p8)), (m9, .inl (cI, 50, .inl p9)), (ma, .inl (cI, 1500, .inl pa)), (mb, .inl (cI, 50, .inl pb))]) [0, 1, 2, 3, 4, 5, 6, 7, 8, 9, 10, 11] rfl
                    have hDc := hD.sub (ws' := [(mo, .inr (4, [.int mso, .ref m1, .ref m2, .ref m3, .ref m4, .ref m5, .ref m6, .int mct, .ref m7, .int mfr, .int mcu, .int mth2_95, .ref m8, .ref m9, .ref ma, .ref mb])), (m1, .inl (cL, 1503, .inr (.inl p1))), (m2, .inl (cL, 1503, .inr (.inl p2))), (m3, .inl (cI, 36072, .inl p3)), (m4, .inl (cI, 1503, .inl p4)), (m5, .inl (cL, 1500, .inr (.inl p5))), (m6, .inl (cI, 1500, .inl p6)), (m7, .inl (cI, 1500, .inl p7)), (m8, .inl (cI, 50, .inl p8)), (m9, .inl (cI, 50, .inl p9)), (ma, .inl (cI, 1500, .inl pa)), (mb, .inl (cI, 50, .inl pb))]) [0, 1, 2, 3, 4, 5, 6, 7, 8, 9, 10, 11] (by decide) rfl
                    have hFc := va_free (wc := [(mo, .inr (4, [.int mso, .ref m1, .ref m2, .ref m3, .ref m4, .ref m5, .ref m6, .int mct, .ref m7, .int mfr, .int mcu, .int mth2_95, .ref m8, .ref m9, .ref ma, .ref mb])), (m1, .inl (cL, 1503, .inr (.inl p1))), (m2, .inl (cL, 1503, .inr (.inl p2))), (m3, .inl (cI, 36072, .inl p3)), (m4, .inl (cI, 1503, .inl p4)), (m5, .inl (cL, 1500, .inr (.inl p5))), (m6, .inl (cI, 1500, .inl p6)), (m7, .inl (cI, 1500, .inl p7)), (m8, .inl (cI, 50, .inl p8)), (m9, .inl (cI, 50, .inl p9)), (ma, .inl (cI, 1500, .inl pa)), (mb, .inl (cI, 50, .inl pb))]) hD hS hA [0, 1, 2, 3, 4, 5, 6, 7, 8, 9, 10, 11] rfl
                    refine va_calli (xr_mv (As := [.int v109, .int v114]) (rest := []) ⟨hx, hb, hml, hown, hts⟩ (c_Mo_fails l D cL cI mo m1 m2 m3 m4 m5 m6 m7 m8 m9 ma mb mso mct mfr mcu mth2_95 p1 p2 p5 p3 p4 p6 p7 p8 p9 pa pb v109 v114 H.size (by first | omega | exact hso)) (xr_cv 2 hts tw_663 tw_660 tw_662 tp_10 tw_7 rfl rfl (by decide) ⟨Nat.le_of_ble_eq_true rfl, Nat.le_of_ble_eq_true rfl⟩) hK hPc (hDc.weaken (fun _ _ _ _ => trivial)) (va_recv hK hP rfl (q0 := 0) (ci := 4) rfl) rfl hl.1 rfl (Nat.le_of_ble_eq_true rfl) d_Mo_load_115 ⟨Nat.le_of_ble_eq_true rfl, Nat.le_of_ble_eq_true rfl⟩) hS (fun q _ h => hFc q h) hFc (fun v115 u115 tt115 H1 locs ht115 hvm115 e115 hB115 hz115 hk115 hS => ?_)
                    obtain ⟨mth2_115, rfl⟩ : ∃ z, z = u115 := ⟨_, rfl⟩
                    have e115 : v115.toInt = v109.toInt ∧ ((v109.toInt = 0 ∧ mth2_115.toInt = 0) ∨ (v109.toInt ≠ 0 ∧ mth2_115.toInt = v114.toInt)) := e115
                    obtain ⟨hP1, hK1, hD1⟩ := hB115
                    rw [ht115] at hP1
                    obtain ⟨hP, hD⟩ := va_join (wr := []) (w1 := [(mo, .inr (4, [.int mso, .ref m1, .ref m2, .ref m3, .ref m4, .ref m5, .ref m6, .int mct, .ref m7, .int mfr, .int mcu, .int mth2_115, .ref m8, .ref m9, .ref ma, .ref mb])), (m1, .inl (cL, 1503, .inr (.inl p1))), (m2, .inl (cL, 1503, .inr (.inl p2))), (m3, .inl (cI, 36072, .inl p3)), (m4, .inl (cI, 1503, .inl p4)), (m5, .inl (cL, 1500, .inr (.inl p5))), (m6, .inl (cI, 1500, .inl p6)), (m7, .inl (cI, 1500, .inl p7)), (m8, .inl (cI, 50, .inl p8)), (m9, .inl (cI, 50, .inl p9)), (ma, .inl (cI, 1500, .inl pa)), (mb, .inl (cI, 50, .inl pb))]) hP hD [0, 1, 2, 3, 4, 5, 6, 7, 8, 9, 10, 11] [] rfl rfl (by decide) (by decide) hk115 hFc hP1 hD1
                    clear hP1 hD1 hPc hDc hFc
                    generalize H1 = H at hP hS ⊢
                    have hP : va_P D classes [(mo, .inr (4, [.int mso, .ref m1, .ref m2, .ref m3, .ref m4, .ref m5, .ref m6, .int mct, .ref m7, .int mfr, .int mcu, .int mth2_115, .ref m8, .ref m9, .ref ma, .ref mb])), (m1, .inl (cL, 1503, .inr (.inl p1))), (m2, .inl (cL, 1503, .inr (.inl p2))), (m3, .inl (cI, 36072, .inl p3)), (m4, .inl (cI, 1503, .inl p4)), (m5, .inl (cL, 1500, .inr (.inl p5))), (m6, .inl (cI, 1500, .inl p6)), (m7, .inl (cI, 1500, .inl p7)), (m8, .inl (cI, 50, .inl p8)), (m9, .inl (cI, 50, .inl p9)), (ma, .inl (cI, 1500, .inl pa)), (mb, .inl (cI, 50, .inl pb))] H := hP
                    have hD : va_D A [(mo, .inr (4, [.int mso, .ref m1, .ref m2, .ref m3, .ref m4, .ref m5, .ref m6, .int mct, .ref m7, .int mfr, .int mcu, .int mth2_115, .ref m8, .ref m9, .ref ma, .ref mb])), (m1, .inl (cL, 1503, .inr (.inl p1))), (m2, .inl (cL, 1503, .inr (.inl p2))), (m3, .inl (cI, 36072, .inl p3)), (m4, .inl (cI, 1503, .inl p4)), (m5, .inl (cL, 1500, .inr (.inl p5))), (m6, .inl (cI, 1500, .inl p6)), (m7, .inl (cI, 1500, .inl p7)), (m8, .inl (cI, 50, .inl p8)), (m9, .inl (cI, 50, .inl p9)), (ma, .inl (cI, 1500, .inl pa)), (mb, .inl (cI, 50, .inl pb))] := hD
                    refine lv_if_eq hx hb d_Mo_load_118 (tgt := 122) (by decide) (fun g118 => ?_) (fun g118 => ?_)
                    · have g118 := (iz_eq).mp g118
                      exfalso; omega
                    · have g118 := (iz_ne).mp g118
                      have hpost : ((mso.toInt ≠ 0 ∨ 0 < n) ∧ mth2_115.toInt = 1 ∧ mct = mct ∧ mfr = mfr ∧ p6 = p6 ∧ p5 = p5 ∧ p1 = p1 ∧ p2 = p2 ∧ p3 = p3 ∧ p4 = p4) ∨ (mso.toInt = 0 ∧ n = 0 ∧ ¬ (1 ≤ x0.toInt ∧ 0 ≤ n0.toInt ∧ ft_ok (p1 1500) x0 n0.toInt) ∧ mth2_115.toInt = 2 ∧ mct = mct ∧ mfr = mfr ∧ p6 = p6 ∧ p5 = p5 ∧ p1 = p1 ∧ p2 = p2 ∧ p3 = p3 ∧ p4 = p4) ∨ (mso.toInt = 0 ∧ n = 0 ∧ 1 ≤ x0.toInt ∧ 0 ≤ n0.toInt ∧ ft_ok (p1 1500) x0 n0.toInt ∧ 1500 < n0.toInt ∧ mth2_115.toInt = 3 ∧ mct = mct ∧ mfr = mfr ∧ p6 = p6 ∧ p5 = p5 ∧ p1 = p1 ∧ p2 = p2 ∧ p3 = p3 ∧ p4 = p4) ∨ (mso.toInt = 0 ∧ n = 0 ∧ 1 ≤ x0.toInt ∧ 0 ≤ n0.toInt ∧ ft_ok (p1 1500) x0 n0.toInt ∧ n0.toInt ≤ 1500 ∧ mth2_115.toInt = 0 ∧ ∃ KW2 : Nat → Nat → Int64, mct = n0 ∧ mfr.toInt = 1500 - n0.toInt ∧ MI n0.toInt.toNat p6 p7 ∧ KRs mso.toInt p1 p2 p3 p4 KW2 ∧ KW2 1500 0 = KW 1500 0 ∧ KW2 1501 = KW 1501 ∧ KW2 1502 = KW 1502 ∧ (∀ k, k < n0.toInt.toNat → KW2 (p6 k).toInt.toNat 0 = ((p1 1500) + (Int32.ofNat k).toInt64 * x0) ^^^ (-9223372036854775808)) ∧ (∀ k, k < n0.toInt.toNat → p5 (p6 k).toInt.toNat = y0 + (Int32.ofNat k).toInt64)) := by
                        first
                        | (exfalso; omega)
                        | (rcases hab with h5 | h5
                           · first
                             | (exfalso; omega)
                             | exact Or.inr (Or.inl ⟨by omega, by omega, fun h6 => h5.2 h6.2.2, by omega, rfl, rfl, rfl, rfl, rfl, rfl, rfl, rfl⟩)
                           · first
                             | (exfalso; omega)
                             | exact Or.inr (Or.inr (Or.inl ⟨by omega, by omega, hy1, by omega, h5.2, by omega, by omega, rfl, rfl, rfl, rfl, rfl, rfl, rfl, rfl⟩)))
                      have hP9 := hP.sub (ws' := [(mo, .inr (4, [.int mso, .ref m1, .ref m2, .ref m3, .ref m4, .ref m5, .ref m6, .int mct, .ref m7, .int mfr, .int mcu, .int mth2_115, .ref m8, .ref m9, .ref ma, .ref mb])), (m1, .inl (cL, 1503, .inr (.inl p1))), (m2, .inl (cL, 1503, .inr (.inl p2))), (m3, .inl (cI, 36072, .inl p3)), (m4, .inl (cI, 1503, .inl p4)), (m5, .inl (cL, 1500, .inr (.inl p5))), (m6, .inl (cI, 1500, .inl p6)), (m7, .inl (cI, 1500, .inl p7)), (m8, .inl (cI, 50, .inl p8)), (m9, .inl (cI, 50, .inl p9)), (ma, .inl (cI, 1500, .inl pa)), (mb, .inl (cI, 50, .inl pb))]) [0, 1, 2, 3, 4, 5, 6, 7, 8, 9, 10, 11] rfl
                      have hD9 := hD.sub (ws' := [(mo, .inr (4, [.int mso, .ref m1, .ref m2, .ref m3, .ref m4, .ref m5, .ref m6, .int mct, .ref m7, .int mfr, .int mcu, .int mth2_115, .ref m8, .ref m9, .ref ma, .ref mb])), (m1, .inl (cL, 1503, .inr (.inl p1))), (m2, .inl (cL, 1503, .inr (.inl p2))), (m3, .inl (cI, 36072, .inl p3)), (m4, .inl (cI, 1503, .inl p4)), (m5, .inl (cL, 1500, .inr (.inl p5))), (m6, .inl (cI, 1500, .inl p6)), (m7, .inl (cI, 1500, .inl p7)), (m8, .inl (cI, 50, .inl p8)), (m9, .inl (cI, 50, .inl p9)), (ma, .inl (cI, 1500, .inl pa)), (mb, .inl (cI, 50, .inl pb))]) [0, 1, 2, 3, 4, 5, 6, 7, 8, 9, 10, 11] (by decide) rfl
                      rw [hQ]
                      exact W.vret hx hb hr (fun t ht hW => ⟨⟨(mth2_115, mct, mfr, p1, p2, p3, p4, p5, p6), rfl, hpost, by rw [ht]; exact hP9, va_K.moved hW.alike hK, hD9⟩, hS.F ht⟩) hS.2.2 d_Mo_load_121
              · have g63 := ic_nle.mp g63
                refine lv_iload_n hx hb d_Mo_load_66 rfl (lv_at hl 3 rfl) ?_
                refine lv_iconst (v := 1) hx hb d_Mo_load_67 (by decide) ?_
                refine lv_topi (fun v67 e67 => ?_)
                have t67 : v67.toInt = 1 := by rw [e67]; rfl
                refine lv_isub hx hb d_Mo_load_68 ?_
                refine lv_topi (fun v68 e68 => ?_)
                have t68 := ia_sub e68 ⟨by omega, by omega⟩
                refine lv_i2l hx hb d_Mo_load_69 rfl ?_
                refine lv_topl (fun v69 e69 => ?_)
                refine lv_ldc2 (v := 9223372036854775807) hx hb hown (hts _ tw_786) d_Mo_load_70 ?_
                refine lv_topl (fun v70 e70 => ?_)
                refine lv_lload hx hb d_Mo_load_73 (lv_at hl 0 rfl) ?_
                refine lv_lsub hx hb d_Mo_load_75 ?_
                refine lv_topl (fun v75 e75 => ?_)
                refine lv_lload_n hx hb d_Mo_load_76 rfl (lv_at hl 2 rfl) ?_
                refine vp_callSl (xr_rs (As := [.long v75, .long x0]) (rest := [.long v69]) ⟨hx, hb, hml, hown, hts⟩ (c_Mo_steps l D cL cI v75 x0 (by first | omega | exact hy)) (xr_cs 2 hts tw_789 tw_787 tw_788 tw_7 rfl rfl (by decide) ⟨Nat.le_of_ble_eq_true rfl, Nat.le_of_ble_eq_true rfl⟩) hK (hP.sub (ws' := []) [] rfl) rfl hl.1 rfl (Nat.le_of_ble_eq_true rfl) d_Mo_load_77 ⟨Nat.le_of_ble_eq_true rfl, Nat.le_of_ble_eq_true rfl⟩) (fun v77 e77 => ?_)
                have e77 : v77.toInt = ((uN v75 / uN x0 : Nat) : Int) ∨ (v77.toInt = 9223372036854775807 ∧ 9223372036854775807 ≤ uN v75 / uN x0) := e77
                refine W.lcmp hx hb d_Mo_load_80 ?_
                refine lv_topi (fun v80 e80 => ?_)
                refine lv_if_le hx hb d_Mo_load_81 (tgt := 88) (by decide) (fun g81 => ?_) (fun g81 => ?_)
                · have g81 := (lc_le e80).mp g81
                  refine lv_iconst (v := 0) hx hb d_Mo_load_88 (by decide) ?_
                  refine lv_topi (fun v88 e88 => ?_)
                  have t88 : v88.toInt = 0 := by rw [e88]; rfl
                  refine lv_istore (lv' := [(8, .int v88), (6, .long v58), (0, .ref mo), (1, .long x0), (3, .int n0), (4, .long y0)]) hx hb d_Mo_load_89 hl (by decide) rfl (fun ls hl => ?_)
                  have hab : (v88.toInt = 1 ∧ ¬ ft_ok (p1 1500) x0 n0.toInt) ∨ (v88.toInt = 0 ∧ ft_ok (p1 1500) x0 n0.toInt) := by
                        unfold ft_ok
                        generalize hz : ft_w (p1 1500) / uN x0 = z
                        first
                        | (refine Or.inr ⟨by omega, ?_⟩; omega)
                        | (have h6 := e77
                           rw [e75, e70, hWd, hz] at h6
                           have h7 : v77.toInt < v69.toInt := Int.not_le.mp (fun h8 => g81 (il_le.mpr h8))
                           rw [e69, Jvm.Kit.i64_of_i32] at h7
                           refine Or.inl ⟨by omega, ?_⟩
                           omega)
                        | (have h6 := e77
                           rw [e75, e70, hWd, hz] at h6
                           have h7 : v69.toInt ≤ v77.toInt := il_le.mp g81
                           rw [e69, Jvm.Kit.i64_of_i32] at h7
                           refine Or.inr ⟨by omega, ?_⟩
                           omega)
                  refine lv_aload_n hx hb d_Mo_load_91 rfl (lv_at hl 2 rfl) ?_
                  refine lv_iload hx hb d_Mo_load_92 (lv_at hl 0 rfl) ?_
                  refine lv_iconst (v := 2) hx hb d_Mo_load_94 (by decide) ?_
                  refine lv_topi (fun v94 e94 => ?_)
                  have t94 : v94.toInt = 2 := by rw [e94]; rfl
                  have hPc := hP.sub (ws' := [(mo, .inr (4, [.int mso, .ref m1, .ref m2, .ref m3, .ref m4, .ref m5, .ref m6, .int mct, .ref m7, .int mfr, .int mcu, .int mth2_44, .ref m8, .ref m9, .ref ma, .ref mb])), (m1, .inl (cL, 1503, .inr (.inl p1))), (m2, .inl (cL, 1503, .inr (.inl p2))), (m3, .inl (cI, 36072, .inl p3)), (m4, .inl (cI, 1503, .inl p4)), (m5, .inl (cL, 1500, .inr (.inl p5))), (m6, .inl (cI, 1500, .inl p6)), (m7, .inl (cI, 1500, .inl p7)), (m8, .inl (cI, 50, .inl p8)), (m9, .inl (cI, 50, .inl p9)), (ma, .inl (cI, 1500, .inl pa)), (mb, .inl (cI, 50, .inl pb))]) [0, 1, 2, 3, 4, 5, 6, 7, 8, 9, 10, 11] rfl
                  have hDc := hD.sub (ws' := [(mo, .inr (4, [.int mso, .ref m1, .ref m2, .ref m3, .ref m4, .ref m5, .ref m6, .int mct, .ref m7, .int mfr, .int mcu, .int mth2_44, .ref m8, .ref m9, .ref ma, .ref mb])), (m1, .inl (cL, 1503, .inr (.inl p1))), (m2, .inl (cL, 1503, .inr (.inl p2))), (m3, .inl (cI, 36072, .inl p3)), (m4, .inl (cI, 1503, .inl p4)), (m5, .inl (cL, 1500, .inr (.inl p5))), (m6, .inl (cI, 1500, .inl p6)), (m7, .inl (cI, 1500, .inl p7)), (m8, .inl (cI, 50, .inl p8)), (m9, .inl (cI, 50, .inl p9)), (ma, .inl (cI, 1500, .inl pa)), (mb, .inl (cI, 50, .inl pb))]) [0, 1, 2, 3, 4, 5, 6, 7, 8, 9, 10, 11] (by decide) rfl
                  have hFc := va_free (wc := [(mo, .inr (4, [.int mso, .ref m1, .ref m2, .ref m3, .ref m4, .ref m5, .ref m6, .int mct, .ref m7, .int mfr, .int mcu, .int mth2_44, .ref m8, .ref m9, .ref ma, .ref mb])), (m1, .inl (cL, 1503, .inr (.inl p1))), (m2, .inl (cL, 1503, .inr (.inl p2))), (m3, .inl (cI, 36072, .inl p3)), (m4, .inl (cI, 1503, .inl p4)), (m5, .inl (cL, 1500, .inr (.inl p5))), (m6, .inl (cI, 1500, .inl p6)), (m7, .inl (cI, 1500, .inl p7)), (m8, .inl (cI, 50, .inl p8)), (m9, .inl (cI, 50, .inl p9)), (ma, .inl (cI, 1500, .inl pa)), (mb, .inl (cI, 50, .inl pb))]) hD hS hA [0, 1, 2, 3, 4, 5, 6, 7, 8, 9, 10, 11] rfl
                  refine va_calli (xr_mv (As := [.int v88, .int v94]) (rest := []) ⟨hx, hb, hml, hown, hts⟩ (c_Mo_fails l D cL cI mo m1 m2 m3 m4 m5 m6 m7 m8 m9 ma mb mso mct mfr mcu mth2_44 p1 p2 p5 p3 p4 p6 p7 p8 p9 pa pb v88 v94 H.size (by first | omega | exact hso)) (xr_cv 2 hts tw_663 tw_660 tw_662 tp_10 tw_7 rfl rfl (by decide) ⟨Nat.le_of_ble_eq_true rfl, Nat.le_of_ble_eq_true rfl⟩) hK hPc (hDc.weaken (fun _ _ _ _ => trivial)) (va_recv hK hP rfl (q0 := 0) (ci := 4) rfl) rfl hl.1 rfl (Nat.le_of_ble_eq_true rfl) d_Mo_load_95 ⟨Nat.le_of_ble_eq_true rfl, Nat.le_of_ble_eq_true rfl⟩) hS (fun q _ h => hFc q h) hFc (fun v95 u95 tt95 H1 locs ht95 hvm95 e95 hB95 hz95 hk95 hS => ?_)
                  obtain ⟨mth2_95, rfl⟩ : ∃ z, z = u95 := ⟨_, rfl⟩
                  have e95 : v95.toInt = v88.toInt ∧ ((v88.toInt = 0 ∧ mth2_95.toInt = 0) ∨ (v88.toInt ≠ 0 ∧ mth2_95.toInt = v94.toInt)) := e95
                  obtain ⟨hP1, hK1, hD1⟩ := hB95
                  rw [ht95] at hP1
                  obtain ⟨hP, hD⟩ := va_join (wr := []) (w1 := [(mo, .inr (4, [.int mso, .ref m1, .ref m2, .ref m3, .ref m4, .ref m5, .ref m6, .int mct, .ref m7, .int mfr, .int mcu, .int mth2_95, .ref m8, .ref m9, .ref ma, .ref mb])), (m1, .inl (cL, 1503, .inr (.inl p1))), (m2, .inl (cL, 1503, .inr (.inl p2))), (m3, .inl (cI, 36072, .inl p3)), (m4, .inl (cI, 1503, .inl p4)), (m5, .inl (cL, 1500, .inr (.inl p5))), (m6, .inl (cI, 1500, .inl p6)), (m7, .inl (cI, 1500, .inl p7)), (m8, .inl (cI, 50, .inl p8)), (m9, .inl (cI, 50, .inl p9)), (ma, .inl (cI, 1500, .inl pa)), (mb, .inl (cI, 50, .inl pb))]) hP hD [0, 1, 2, 3, 4, 5, 6, 7, 8, 9, 10, 11] [] rfl rfl (by decide) (by decide) hk95 hFc hP1 hD1
                  clear hP1 hD1 hPc hDc hFc
                  generalize H1 = H at hP hS ⊢
                  have hP : va_P D classes [(mo, .inr (4, [.int mso, .ref m1, .ref m2, .ref m3, .ref m4, .ref m5, .ref m6, .int mct, .ref m7, .int mfr, .int mcu, .int mth2_95, .ref m8, .ref m9, .ref ma, .ref mb])), (m1, .inl (cL, 1503, .inr (.inl p1))), (m2, .inl (cL, 1503, .inr (.inl p2))), (m3, .inl (cI, 36072, .inl p3)), (m4, .inl (cI, 1503, .inl p4)), (m5, .inl (cL, 1500, .inr (.inl p5))), (m6, .inl (cI, 1500, .inl p6)), (m7, .inl (cI, 1500, .inl p7)), (m8, .inl (cI, 50, .inl p8)), (m9, .inl (cI, 50, .inl p9)), (ma, .inl (cI, 1500, .inl pa)), (mb, .inl (cI, 50, .inl pb))] H := hP
                  have hD : va_D A [(mo, .inr (4, [.int mso, .ref m1, .ref m2, .ref m3, .ref m4, .ref m5, .ref m6, .int mct, .ref m7, .int mfr, .int mcu, .int mth2_95, .ref m8, .ref m9, .ref ma, .ref mb])), (m1, .inl (cL, 1503, .inr (.inl p1))), (m2, .inl (cL, 1503, .inr (.inl p2))), (m3, .inl (cI, 36072, .inl p3)), (m4, .inl (cI, 1503, .inl p4)), (m5, .inl (cL, 1500, .inr (.inl p5))), (m6, .inl (cI, 1500, .inl p6)), (m7, .inl (cI, 1500, .inl p7)), (m8, .inl (cI, 50, .inl p8)), (m9, .inl (cI, 50, .inl p9)), (ma, .inl (cI, 1500, .inl pa)), (mb, .inl (cI, 50, .inl pb))] := hD
                  refine lv_if_ne hx hb d_Mo_load_98 (tgt := 121) (by decide) (fun g98 => ?_) (fun g98 => ?_)
                  · have g98 := (iz_ne).mp g98
                    exfalso; omega
                  · have g98 := (iz_eq).mp g98
                    refine lv_aload_n hx hb d_Mo_load_101 rfl (lv_at hl 2 rfl) ?_
                    refine lv_iload_n hx hb d_Mo_load_102 rfl (lv_at hl 4 rfl) ?_
                    refine lv_sipush (v := 1500) hx hb d_Mo_load_103 (by decide) ?_
                    refine lv_topi (fun v103 e103 => ?_)
                    have t103 : v103.toInt = 1500 := by rw [e103]; rfl
                    refine lv_icmp_le hx hb d_Mo_load_106 (tgt := 113) (by decide) (fun g106 => ?_) (fun g106 => ?_)
                    · have g106 := ic_le.mp g106
                      refine lv_iconst (v := 0) hx hb d_Mo_load_113 (by decide) ?_
                      refine lv_topi (fun v113 e113 => ?_)
                      have t113 : v113.toInt = 0 := by rw [e113]; rfl
                      refine lv_iconst (v := 3) hx hb d_Mo_load_114 (by decide) ?_
                      refine lv_topi (fun v114 e114 => ?_)
                      have t114 : v114.toInt = 3 := by rw [e114]; rfl
                      have hPc := hP.sub (ws' := [(mo, .inr (4, [.int mso, .ref m1, .ref m2, .ref m3, .ref m4, .ref m5, .ref m6, .int mct, .ref m7, .int mfr, .int mcu, .int mth2_95, .ref m8, .ref m9, .ref ma, .ref mb])), (m1, .inl (cL, 1503, .inr (.inl p1))), (m2, .inl (cL, 1503, .inr (.inl p2))), (m3, .inl (cI, 36072, .inl p3)), (m4, .inl (cI, 1503, .inl p4)), (m5, .inl (cL, 1500, .inr (.inl p5))), (m6, .inl (cI, 1500, .inl p6)), (m7, .inl (cI, 1500, .inl p7)), (m8, .inl (cI, 50, .inl p8)), (m9, .inl (cI, 50, .inl p9)), (ma, .inl (cI, 1500, .inl pa)), (mb, .inl (cI, 50, .inl pb))]) [0, 1, 2, 3, 4, 5, 6, 7, 8, 9, 10, 11] rfl
                      have hDc := hD.sub (ws' := [(mo, .inr (4, [.int mso, .ref m1, .ref m2, .ref m3, .ref m4, .ref m5, .ref m6, .int mct, .ref m7, .int mfr, .int mcu, .int mth2_95, .ref m8, .ref m9, .ref ma, .ref mb])), (m1, .inl (cL, 1503, .inr (.inl p1))), (m2, .inl (cL, 1503, .inr (.inl p2))), (m3, .inl (cI, 36072, .inl p3)), (m4, .inl (cI, 1503, .inl p4)), (m5, .inl (cL, 1500, .inr (.inl p5))), (m6, .inl (cI, 1500, .inl p6)), (m7, .inl (cI, 1500, .inl p7)), (m8, .inl (cI, 50, .inl p8)), (m9, .inl (cI, 50, .inl p9)), (ma, .inl (cI, 1500, .inl pa)), (mb, .inl (cI, 50, .inl pb))]) [0, 1, 2, 3, 4, 5, 6, 7, 8, 9, 10, 11] (by decide) rfl
                      have hFc := va_free (wc := [(mo, .inr (4, [.int mso, .ref m1, .ref m2, .ref m3, .ref m4, .ref m5, .ref m6, .int mct, .ref m7, .int mfr, .int mcu, .int mth2_95, .ref m8, .ref m9, .ref ma, .ref mb])), (m1, .inl (cL, 1503, .inr (.inl p1))), (m2, .inl (cL, 1503, .inr (.inl p2))), (m3, .inl (cI, 36072, .inl p3)), (m4, .inl (cI, 1503, .inl p4)), (m5, .inl (cL, 1500, .inr (.inl p5))), (m6, .inl (cI, 1500, .inl p6)), (m7, .inl (cI, 1500, .inl p7)), (m8, .inl (cI, 50, .inl p8)), (m9, .inl (cI, 50, .inl p9)), (ma, .inl (cI, 1500, .inl pa)), (mb, .inl (cI, 50, .inl pb))]) hD hS hA [0, 1, 2, 3, 4, 5, 6, 7, 8, 9, 10, 11] rfl
                      refine va_calli (xr_mv (As := [.int v113, .int v114]) (rest := []) ⟨hx, hb, hml, hown, hts⟩ (c_Mo_fails l D cL cI mo m1 m2 m3 m4 m5 m6 m7 m8 m9 ma mb mso mct mfr mcu mth2_95 p1 p2 p5 p3 p4 p6 p7 p8 p9 pa pb v113 v114 H.size (by first | omega | exact hso)) (xr_cv 2 hts tw_663 tw_660 tw_662 tp_10 tw_7 rfl rfl (by decide) ⟨Nat.le_of_ble_eq_true rfl, Nat.le_of_ble_eq_true rfl⟩) hK hPc (hDc.weaken (fun _ _ _ _ => trivial)) (va_recv hK hP rfl (q0 := 0) (ci := 4) rfl) rfl hl.1 rfl (Nat.le_of_ble_eq_true rfl) d_Mo_load_115 ⟨Nat.le_of_ble_eq_true rfl, Nat.le_of_ble_eq_true rfl⟩) hS (fun q _ h => hFc q h) hFc (fun v115 u115 tt115 H1 locs ht115 hvm115 e115 hB115 hz115 hk115 hS => ?_)
                      obtain ⟨mth2_115, rfl⟩ : ∃ z, z = u115 := ⟨_, rfl⟩
                      have e115 : v115.toInt = v113.toInt ∧ ((v113.toInt = 0 ∧ mth2_115.toInt = 0) ∨ (v113.toInt ≠ 0 ∧ mth2_115.toInt = v114.toInt)) := e115
                      obtain ⟨hP1, hK1, hD1⟩ := hB115
                      rw [ht115] at hP1
                      obtain ⟨hP, hD⟩ := va_join (wr := []) (w1 := [(mo, .inr (4, [.int mso, .ref m1, .ref m2, .ref m3, .ref m4, .ref m5, .ref m6, .int mct, .ref m7, .int mfr, .int mcu, .int mth2_115, .ref m8, .ref m9, .ref ma, .ref mb])), (m1, .inl (cL, 1503, .inr (.inl p1))), (m2, .inl (cL, 1503, .inr (.inl p2))), (m3, .inl (cI, 36072, .inl p3)), (m4, .inl (cI, 1503, .inl p4)), (m5, .inl (cL, 1500, .inr (.inl p5))), (m6, .inl (cI, 1500, .inl p6)), (m7, .inl (cI, 1500, .inl p7)), (m8, .inl (cI, 50, .inl p8)), (m9, .inl (cI, 50, .inl p9)), (ma, .inl (cI, 1500, .inl pa)), (mb, .inl (cI, 50, .inl pb))]) hP hD [0, 1, 2, 3, 4, 5, 6, 7, 8, 9, 10, 11] [] rfl rfl (by decide) (by decide) hk115 hFc hP1 hD1
                      clear hP1 hD1 hPc hDc hFc
                      generalize H1 = H at hP hS ⊢
                      have hP : va_P D classes [(mo, .inr (4, [.int mso, .ref m1, .ref m2, .ref m3, .ref m4, .ref m5, .ref m6, .int mct, .ref m7, .int mfr, .int mcu, .int mth2_115, .ref m8, .ref m9, .ref ma, .ref mb])), (m1, .inl (cL, 1503, .inr (.inl p1))), (m2, .inl (cL, 1503, .inr (.inl p2))), (m3, .inl (cI, 36072, .inl p3)), (m4, .inl (cI, 1503, .inl p4)), (m5, .inl (cL, 1500, .inr (.inl p5))), (m6, .inl (cI, 1500, .inl p6)), (m7, .inl (cI, 1500, .inl p7)), (m8, .inl (cI, 50, .inl p8)), (m9, .inl (cI, 50, .inl p9)), (ma, .inl (cI, 1500, .inl pa)), (mb, .inl (cI, 50, .inl pb))] H := hP
                      have hD : va_D A [(mo, .inr (4, [.int mso, .ref m1, .ref m2, .ref m3, .ref m4, .ref m5, .ref m6, .int mct, .ref m7, .int mfr, .int mcu, .int mth2_115, .ref m8, .ref m9, .ref ma, .ref mb])), (m1, .inl (cL, 1503, .inr (.inl p1))), (m2, .inl (cL, 1503, .inr (.inl p2))), (m3, .inl (cI, 36072, .inl p3)), (m4, .inl (cI, 1503, .inl p4)), (m5, .inl (cL, 1500, .inr (.inl p5))), (m6, .inl (cI, 1500, .inl p6)), (m7, .inl (cI, 1500, .inl p7)), (m8, .inl (cI, 50, .inl p8)), (m9, .inl (cI, 50, .inl p9)), (ma, .inl (cI, 1500, .inl pa)), (mb, .inl (cI, 50, .inl pb))] := hD
                      refine lv_if_eq hx hb d_Mo_load_118 (tgt := 122) (by decide) (fun g118 => ?_) (fun g118 => ?_)
                      · have g118 := (iz_eq).mp g118
                        have hft : ft_ok (p1 1500) x0 n0.toInt := by
                              rcases hab with h5 | h5
                              · exfalso; omega
                              · exact h5.2
                        have hnn : n0.toInt ≤ 1500 := by omega
                        refine lv_lload hx hb d_Mo_load_122 (lv_at hl 1 rfl) ?_
                        refine lv_lstore (lv' := [(9, .long v58), (8, .int v88), (6, .long v58), (0, .ref mo), (1, .long x0), (3, .int n0), (4, .long y0)]) hx hb d_Mo_load_124 hl (by decide) rfl (fun ls hl => ?_)
                        refine lv_iconst (v := 0) hx hb d_Mo_load_126 (by decide) ?_
                        refine lv_topi (fun v126 e126 => ?_)
                        have t126 : v126.toInt = 0 := by rw [e126]; rfl
                        refine lv_istore (lv' := [(11, .int v126), (9, .long v58), (8, .int v88), (6, .long v58), (0, .ref mo), (1, .long x0), (3, .int n0), (4, .long y0)]) hx hb d_Mo_load_127 hl (by decide) rfl (fun ls hl => ?_)
                        have lp129 : ∀ (fuel129 : Nat) (ii : Int32) (at9 : Int64) (KWz : Nat → Nat → Int64) (mctz : Int32) (mfrz : Int32) (p1z : Nat → Int64) (p2z : Nat → Int64) (p3z : Nat → Int32) (p4z : Nat → Int32) (p5z : Nat → Int64) (p6z : Nat → Int32) (H : Heap) (locs : List Loc) (ls : Array Slot), lv_has ls 12 [(11, .int ii), (9, .long at9), (8, .int v88), (6, .long v58), (0, .ref mo), (1, .long x0), (3, .int n0), (4, .long y0)] → va_P D classes [(mo, .inr (4, [.int mso, .ref m1, .ref m2, .ref m3, .ref m4, .ref m5, .ref m6, .int mctz, .ref m7, .int mfrz, .int mcu, .int mth2_115, .ref m8, .ref m9, .ref ma, .ref mb])), (m1, .inl (cL, 1503, .inr (.inl p1z))), (m2, .inl (cL, 1503, .inr (.inl p2z))), (m3, .inl (cI, 36072, .inl p3z)), (m4, .inl (cI, 1503, .inl p4z)), (m5, .inl (cL, 1500, .inr (.inl p5z))), (m6, .inl (cI, 1500, .inl p6z)), (m7, .inl (cI, 1500, .inl p7)), (m8, .inl (cI, 50, .inl p8)), (m9, .inl (cI, 50, .inl p9)), (ma, .inl (cI, 1500, .inl pa)), (mb, .inl (cI, 50, .inl pb))] H → va_D A [(mo, .inr (4, [.int mso, .ref m1, .ref m2, .ref m3, .ref m4, .ref m5, .ref m6, .int mctz, .ref m7, .int mfrz, .int mcu, .int mth2_115, .ref m8, .ref m9, .ref ma, .ref mb])), (m1, .inl (cL, 1503, .inr (.inl p1z))), (m2, .inl (cL, 1503, .inr (.inl p2z))), (m3, .inl (cI, 36072, .inl p3z)), (m4, .inl (cI, 1503, .inl p4z)), (m5, .inl (cL, 1500, .inr (.inl p5z))), (m6, .inl (cI, 1500, .inl p6z)), (m7, .inl (cI, 1500, .inl p7)), (m8, .inl (cI, 50, .inl p8)), (m9, .inl (cI, 50, .inl p9)), (ma, .inl (cI, 1500, .inl pa)), (mb, .inl (cI, 50, .inl pb))] → va_S A s.heap H locs → (0 ≤ ii.toInt) → (ii.toInt ≤ n0.toInt) → (mctz = ii) → (mfrz.toInt = 1500 - ii.toInt) → (MI ii.toInt.toNat p6z p7) → (KRs mso.toInt p1z p2z p3z p4z KWz) → (KWz 1501 = KW 1501 ∧ KWz 1502 = KW 1502) → (at9 = (p1 1500) + ii.toInt64 * x0) → (∀ k, k < ii.toInt.toNat → KWz (p6z k).toInt.toNat 0 = ((p1 1500) + (Int32.ofNat k).toInt64 * x0) ^^^ (-9223372036854775808)) → (∀ k, k < ii.toInt.toNat → p5z (p6z k).toInt.toNat = y0 + (Int32.ofNat k).toInt64) → n0.toInt.toNat - ii.toInt.toNat < fuel129 → W p l e ({ frames := 3, cells := 0, slots := 0, locals := 88 } : Room) s m ([.ref mo, .long x0, .int n0, .long y0] : List Value).toArray below meth c H locs 0 0 Q (F0 m 129 ls []) := by
                          intro fuel129
                          induction fuel129 with
                          | zero => intro ii at9 KWz mctz mfrz p1z p2z p3z p4z p5z p6z H locs ls hl hP hD hS h1 h2 h3 h5 h6 h7 h8 h9 h10 h11 hm129; exact absurd hm129 (Nat.not_lt_zero _)
                          | succ fuel129 ih129 =>
                            intro ii at9 KWz mctz mfrz p1z p2z p3z p4z p5z p6z H locs ls hl hP hD hS h1 h2 h3 h5 h6 h7 h8 h9 h10 h11 hm129
                            refine lv_iload hx hb d_Mo_load_129 (lv_at hl 0 rfl) ?_
                            refine lv_iload_n hx hb d_Mo_load_131 rfl (lv_at hl 6 rfl) ?_
                            refine lv_icmp_ge hx hb d_Mo_load_132 (tgt := 172) (by decide) (fun g132 => ?_) (fun g132 => ?_)
                            · have g132 := ic_le.mp g132
                              refine lv_aload_n hx hb d_Mo_load_172 rfl (lv_at hl 4 rfl) ?_
                              refine va_get (D := D) (ci := 4) (v := .ref m1) (C := R_Mo) (T := F_Mo) (N := 16) hx hb hts in_Mo hown hK hP 0 rfl rfl 1 (by decide) (hts _ tw_604) (fun _ h9 => h9) rfl d_Mo_load_173 ?_
                              refine lv_sipush (v := 1500) hx hb d_Mo_load_176 (by decide) ?_
                              refine lv_topi (fun v176 e176 => ?_)
                              have t176 : v176.toInt = 1500 := by rw [e176]; rfl
                              refine lv_lload hx hb d_Mo_load_179 (lv_at hl 3 rfl) ?_
                              refine va_last hx hb hK hP hD hS 1 0 rfl rfl (ia_in ⟨by omega, by omega⟩) d_Mo_load_181 (fun H locs hP hD hS => ?_)
                              obtain ⟨f181, q181⟩ : ∃ z, z = vp_updL p1z v176.toInt.toNat v58 := ⟨_, rfl⟩
                              have hP : va_P D classes [(mo, .inr (4, [.int mso, .ref m1, .ref m2, .ref m3, .ref m4, .ref m5, .ref m6, .int mctz, .ref m7, .int mfrz, .int mcu, .int mth2_115, .ref m8, .ref m9, .ref ma, .ref mb])), (m1, .inl (cL, 1503, .inr (.inl (vp_updL p1z v176.toInt.toNat v58)))), (m2, .inl (cL, 1503, .inr (.inl p2z))), (m3, .inl (cI, 36072, .inl p3z)), (m4, .inl (cI, 1503, .inl p4z)), (m5, .inl (cL, 1500, .inr (.inl p5z))), (m6, .inl (cI, 1500, .inl p6z)), (m7, .inl (cI, 1500, .inl p7)), (m8, .inl (cI, 50, .inl p8)), (m9, .inl (cI, 50, .inl p9)), (ma, .inl (cI, 1500, .inl pa)), (mb, .inl (cI, 50, .inl pb))] H := hP
                              have hD : va_D A [(mo, .inr (4, [.int mso, .ref m1, .ref m2, .ref m3, .ref m4, .ref m5, .ref m6, .int mctz, .ref m7, .int mfrz, .int mcu, .int mth2_115, .ref m8, .ref m9, .ref ma, .ref mb])), (m1, .inl (cL, 1503, .inr (.inl (vp_updL p1z v176.toInt.toNat v58)))), (m2, .inl (cL, 1503, .inr (.inl p2z))), (m3, .inl (cI, 36072, .inl p3z)), (m4, .inl (cI, 1503, .inl p4z)), (m5, .inl (cL, 1500, .inr (.inl p5z))), (m6, .inl (cI, 1500, .inl p6z)), (m7, .inl (cI, 1500, .inl p7)), (m8, .inl (cI, 50, .inl p8)), (m9, .inl (cI, 50, .inl p9)), (ma, .inl (cI, 1500, .inl pa)), (mb, .inl (cI, 50, .inl pb))] := hD
                              rw [← q181] at hP hD
                              have hpost : ((mso.toInt ≠ 0 ∨ 0 < n) ∧ mth2_115.toInt = 1 ∧ mctz = mct ∧ mfrz = mfr ∧ p6z = p6 ∧ p5z = p5 ∧ f181 = p1 ∧ p2z = p2 ∧ p3z = p3 ∧ p4z = p4) ∨ (mso.toInt = 0 ∧ n = 0 ∧ ¬ (1 ≤ x0.toInt ∧ 0 ≤ n0.toInt ∧ ft_ok (p1 1500) x0 n0.toInt) ∧ mth2_115.toInt = 2 ∧ mctz = mct ∧ mfrz = mfr ∧ p6z = p6 ∧ p5z = p5 ∧ f181 = p1 ∧ p2z = p2 ∧ p3z = p3 ∧ p4z = p4) ∨ (mso.toInt = 0 ∧ n = 0 ∧ 1 ≤ x0.toInt ∧ 0 ≤ n0.toInt ∧ ft_ok (p1 1500) x0 n0.toInt ∧ 1500 < n0.toInt ∧ mth2_115.toInt = 3 ∧ mctz = mct ∧ mfrz = mfr ∧ p6z = p6 ∧ p5z = p5 ∧ f181 = p1 ∧ p2z = p2 ∧ p3z = p3 ∧ p4z = p4) ∨ (mso.toInt = 0 ∧ n = 0 ∧ 1 ≤ x0.toInt ∧ 0 ≤ n0.toInt ∧ ft_ok (p1 1500) x0 n0.toInt ∧ n0.toInt ≤ 1500 ∧ mth2_115.toInt = 0 ∧ ∃ KW2 : Nat → Nat → Int64, mctz = n0 ∧ mfrz.toInt = 1500 - n0.toInt ∧ MI n0.toInt.toNat p6z p7 ∧ KRs mso.toInt f181 p2z p3z p4z KW2 ∧ KW2 1500 0 = KW 1500 0 ∧ KW2 1501 = KW 1501 ∧ KW2 1502 = KW 1502 ∧ (∀ k, k < n0.toInt.toNat → KW2 (p6z k).toInt.toNat 0 = ((p1 1500) + (Int32.ofNat k).toInt64 * x0) ^^^ (-9223372036854775808)) ∧ (∀ k, k < n0.toInt.toNat → p5z (p6z k).toInt.toNat = y0 + (Int32.ofNat k).toInt64)) := by
                                have hin0 : ii = n0 := ic_eq.mpr (by omega)
                                have hm0 : mth2_115.toInt = 0 := by omega
                                rw [show v176.toInt.toNat = 1500 by omega] at q181
                                refine Or.inr (Or.inr (Or.inr ⟨by omega, by omega, hy1, by omega, hft, hnn, hm0, kset KWz 1500 (fun _ => v58 ^^^ (-9223372036854775808)), by rw [h3, hin0], by omega, by rw [← hin0]; exact h6, fun y hy => ?_, ?_, ?_, ?_, fun k hk => ?_, ?_⟩))
                                · by_cases h5 : y = 1500
                                  · rw [h5, kset_at]
                                    refine Or.inl ⟨by omega, ?_⟩
                                    rw [q181]; unfold vp_updL; rw [if_pos rfl]
                                  · rw [kset_ne _ _ _ h5]
                                    refine kr_at (h7 y hy) ?_ rfl rfl (fun k hk => rfl)
                                    rw [q181]; unfold vp_updL; rw [if_neg h5]
                                · rw [kset_at, e58]
                                  rcases hkr 1500 (by omega) with h5 | h5 | h5
                                  · exact h5.2.symm
                                  · omega
                                  · omega
                                · rw [kset_ne _ _ _ (by omega)]; exact h8.1
                                · rw [kset_ne _ _ _ (by omega)]; exact h8.2
                                · rw [← hin0] at hk
                                  rw [kset_ne _ _ _ (by have := h6.1 k hk; omega)]
                                  exact h10 k hk
                                · rw [← hin0]; exact h11
                              have hP9 := hP.sub (ws' := [(mo, .inr (4, [.int mso, .ref m1, .ref m2, .ref m3, .ref m4, .ref m5, .ref m6, .int mctz, .ref m7, .int mfrz, .int mcu, .int mth2_115, .ref m8, .ref m9, .ref ma, .ref mb])), (m1, .inl (cL, 1503, .inr (.inl f181))), (m2, .inl (cL, 1503, .inr (.inl p2z))), (m3, .inl (cI, 36072, .inl p3z)), (m4, .inl (cI, 1503, .inl p4z)), (m5, .inl (cL, 1500, .inr (.inl p5z))), (m6, .inl (cI, 1500, .inl p6z)), (m7, .inl (cI, 1500, .inl p7)), (m8, .inl (cI, 50, .inl p8)), (m9, .inl (cI, 50, .inl p9)), (ma, .inl (cI, 1500, .inl pa)), (mb, .inl (cI, 50, .inl pb))]) [0, 1, 2, 3, 4, 5, 6, 7, 8, 9, 10, 11] rfl
                              have hD9 := hD.sub (ws' := [(mo, .inr (4, [.int mso, .ref m1, .ref m2, .ref m3, .ref m4, .ref m5, .ref m6, .int mctz, .ref m7, .int mfrz, .int mcu, .int mth2_115, .ref m8, .ref m9, .ref ma, .ref mb])), (m1, .inl (cL, 1503, .inr (.inl f181))), (m2, .inl (cL, 1503, .inr (.inl p2z))), (m3, .inl (cI, 36072, .inl p3z)), (m4, .inl (cI, 1503, .inl p4z)), (m5, .inl (cL, 1500, .inr (.inl p5z))), (m6, .inl (cI, 1500, .inl p6z)), (m7, .inl (cI, 1500, .inl p7)), (m8, .inl (cI, 50, .inl p8)), (m9, .inl (cI, 50, .inl p9)), (ma, .inl (cI, 1500, .inl pa)), (mb, .inl (cI, 50, .inl pb))]) [0, 1, 2, 3, 4, 5, 6, 7, 8, 9, 10, 11] (by decide) rfl
                              rw [hQ]
                              exact W.vret hx hb hr (fun t ht hW => ⟨⟨(mth2_115, mctz, mfrz, f181, p2z, p3z, p4z, p5z, p6z), rfl, hpost, by rw [ht]; exact hP9, va_K.moved hW.alike hK, hD9⟩, hS.F ht⟩) hS.2.2 d_Mo_load_182
                            · have g132 := ic_nle.mp g132
                              refine lv_aload_n hx hb d_Mo_load_135 rfl (lv_at hl 4 rfl) ?_
                              refine va_get (D := D) (ci := 4) (v := .ref m1) (C := R_Mo) (T := F_Mo) (N := 16) hx hb hts in_Mo hown hK hP 0 rfl rfl 1 (by decide) (hts _ tw_604) (fun _ h9 => h9) rfl d_Mo_load_136 ?_
                              refine lv_sipush (v := 1500) hx hb d_Mo_load_139 (by decide) ?_
                              refine lv_topi (fun v139 e139 => ?_)
                              have t139 : v139.toInt = 1500 := by rw [e139]; rfl
                              refine lv_lload hx hb d_Mo_load_142 (lv_at hl 1 rfl) ?_
                              refine va_last hx hb hK hP hD hS 1 0 rfl rfl (ia_in ⟨by omega, by omega⟩) d_Mo_load_144 (fun H locs hP hD hS => ?_)
                              obtain ⟨f144, q144⟩ : ∃ z, z = vp_updL p1z v139.toInt.toNat at9 := ⟨_, rfl⟩
                              have hP : va_P D classes [(mo, .inr (4, [.int mso, .ref m1, .ref m2, .ref m3, .ref m4, .ref m5, .ref m6, .int mctz, .ref m7, .int mfrz, .int mcu, .int mth2_115, .ref m8, .ref m9, .ref ma, .ref mb])), (m1, .inl (cL, 1503, .inr (.inl (vp_updL p1z v139.toInt.toNat at9)))), (m2, .inl (cL, 1503, .inr (.inl p2z))), (m3, .inl (cI, 36072, .inl p3z)), (m4, .inl (cI, 1503, .inl p4z)), (m5, .inl (cL, 1500, .inr (.inl p5z))), (m6, .inl (cI, 1500, .inl p6z)), (m7, .inl (cI, 1500, .inl p7)), (m8, .inl (cI, 50, .inl p8)), (m9, .inl (cI, 50, .inl p9)), (ma, .inl (cI, 1500, .inl pa)), (mb, .inl (cI, 50, .inl pb))] H := hP
                              have hD : va_D A [(mo, .inr (4, [.int mso, .ref m1, .ref m2, .ref m3, .ref m4, .ref m5, .ref m6, .int mctz, .ref m7, .int mfrz, .int mcu, .int mth2_115, .ref m8, .ref m9, .ref ma, .ref mb])), (m1, .inl (cL, 1503, .inr (.inl (vp_updL p1z v139.toInt.toNat at9)))), (m2, .inl (cL, 1503, .inr (.inl p2z))), (m3, .inl (cI, 36072, .inl p3z)), (m4, .inl (cI, 1503, .inl p4z)), (m5, .inl (cL, 1500, .inr (.inl p5z))), (m6, .inl (cI, 1500, .inl p6z)), (m7, .inl (cI, 1500, .inl p7)), (m8, .inl (cI, 50, .inl p8)), (m9, .inl (cI, 50, .inl p9)), (ma, .inl (cI, 1500, .inl pa)), (mb, .inl (cI, 50, .inl pb))] := hD
                              rw [← q144] at hP hD
                              rw [show v139.toInt.toNat = 1500 by omega] at q144
                              have hkz : KRs mso.toInt f144 p2z p3z p4z (kset KWz 1500 (fun _ => at9 ^^^ (-9223372036854775808))) := by
                                    intro y hy
                                    by_cases h5 : y = 1500
                                    · rw [h5, kset_at]
                                      refine Or.inl ⟨by omega, ?_⟩
                                      rw [q144]; unfold vp_updL; rw [if_pos rfl]
                                    · rw [kset_ne _ _ _ h5]
                                      refine kr_at (h7 y hy) ?_ rfl rfl (fun k hk => rfl)
                                      rw [q144]; unfold vp_updL; rw [if_neg h5]
                              obtain ⟨n9, hn9⟩ : ∃ z, z = ii.toInt.toNat := ⟨_, rfl⟩
                              rw [← hn9] at h6
                              obtain ⟨KW9, hKW9⟩ : ∃ z, z = kset KWz 1500 (fun _ => at9 ^^^ (-9223372036854775808)) := ⟨_, rfl⟩
                              rw [← hKW9] at hkz
                              have hfz := h6.2.1 (1499 - n9) (by omega)
                              have hinz : ∀ j, j < n9 → ¬ (p7 (1499 - n9)).toInt.toNat = (p6z j).toInt.toNat := fun j hj h5 => by
                                    have h8 := h6.1 j hj
                                    have h9 := h6.2.2 n9 j (by omega) (by omega) (by
                                      unfold sl
                                      rw [if_neg (by omega), if_pos hj, ic_eq]
                                      omega)
                                    omega
                              refine lv_aload_n hx hb d_Mo_load_145 rfl (lv_at hl 4 rfl) ?_
                              refine lv_iload hx hb d_Mo_load_146 (lv_at hl 0 rfl) ?_
                              refine lv_sipush (v := 1500) hx hb d_Mo_load_148 (by decide) ?_
                              refine lv_topi (fun v148 e148 => ?_)
                              have t148 : v148.toInt = 1500 := by rw [e148]; rfl
                              refine lv_lload hx hb d_Mo_load_151 (lv_at hl 7 rfl) ?_
                              refine lv_iload hx hb d_Mo_load_153 (lv_at hl 0 rfl) ?_
                              refine lv_i2l hx hb d_Mo_load_155 rfl ?_
                              refine lv_topl (fun v155 e155 => ?_)
                              refine lv_ladd hx hb d_Mo_load_156 ?_
                              refine lv_topl (fun v156 e156 => ?_)
                              have hPc := hP.sub (ws' := [(mo, .inr (4, [.int mso, .ref m1, .ref m2, .ref m3, .ref m4, .ref m5, .ref m6, .int mctz, .ref m7, .int mfrz, .int mcu, .int mth2_115, .ref m8, .ref m9, .ref ma, .ref mb])), (m1, .inl (cL, 1503, .inr (.inl f144))), (m2, .inl (cL, 1503, .inr (.inl p2z))), (m3, .inl (cI, 36072, .inl p3z)), (m4, .inl (cI, 1503, .inl p4z)), (m5, .inl (cL, 1500, .inr (.inl p5z))), (m6, .inl (cI, 1500, .inl p6z)), (m7, .inl (cI, 1500, .inl p7)), (m8, .inl (cI, 50, .inl p8)), (m9, .inl (cI, 50, .inl p9)), (ma, .inl (cI, 1500, .inl pa)), (mb, .inl (cI, 50, .inl pb))]) [0, 1, 2, 3, 4, 5, 6, 7, 8, 9, 10, 11] rfl
                              have hDc := hD.sub (ws' := [(mo, .inr (4, [.int mso, .ref m1, .ref m2, .ref m3, .ref m4, .ref m5, .ref m6, .int mctz, .ref m7, .int mfrz, .int mcu, .int mth2_115, .ref m8, .ref m9, .ref ma, .ref mb])), (m1, .inl (cL, 1503, .inr (.inl f144))), (m2, .inl (cL, 1503, .inr (.inl p2z))), (m3, .inl (cI, 36072, .inl p3z)), (m4, .inl (cI, 1503, .inl p4z)), (m5, .inl (cL, 1500, .inr (.inl p5z))), (m6, .inl (cI, 1500, .inl p6z)), (m7, .inl (cI, 1500, .inl p7)), (m8, .inl (cI, 50, .inl p8)), (m9, .inl (cI, 50, .inl p9)), (ma, .inl (cI, 1500, .inl pa)), (mb, .inl (cI, 50, .inl pb))]) [0, 1, 2, 3, 4, 5, 6, 7, 8, 9, 10, 11] (by decide) rfl
                              have hFc := va_free (wc := [(mo, .inr (4, [.int mso, .ref m1, .ref m2, .ref m3, .ref m4, .ref m5, .ref m6, .int mctz, .ref m7, .int mfrz, .int mcu, .int mth2_115, .ref m8, .ref m9, .ref ma, .ref mb])), (m1, .inl (cL, 1503, .inr (.inl f144))), (m2, .inl (cL, 1503, .inr (.inl p2z))), (m3, .inl (cI, 36072, .inl p3z)), (m4, .inl (cI, 1503, .inl p4z)), (m5, .inl (cL, 1500, .inr (.inl p5z))), (m6, .inl (cI, 1500, .inl p6z)), (m7, .inl (cI, 1500, .inl p7)), (m8, .inl (cI, 50, .inl p8)), (m9, .inl (cI, 50, .inl p9)), (ma, .inl (cI, 1500, .inl pa)), (mb, .inl (cI, 50, .inl pb))]) hD hS hA [0, 1, 2, 3, 4, 5, 6, 7, 8, 9, 10, 11] rfl
                              refine va_callv (xr_mv (As := [.int ii, .int v148, .long v156]) (rest := []) ⟨hx, hb, hml, hown, hts⟩ (c_Mo_insert l D cL cI mo m1 m2 m3 m4 m5 m6 m7 m8 m9 ma mb mso mctz mfrz mcu mth2_115 f144 p2z p5z p3z p4z p6z p7 p8 p9 pa pb w KW9 n9 ii v148 v156 H.size (by first | omega | exact hws) (hkz) (by rw [h3]; omega) (by first | omega | exact hn) (by first | omega | exact hfr) (h6) (by first | omega | exact hn1) (by first | omega | exact hpl) (by first | omega | exact hia)) (xr_cv 3 hts tw_715 tw_712 tw_714 tp_16 tw_7 rfl rfl (by decide) ⟨Nat.le_of_ble_eq_true rfl, Nat.le_of_ble_eq_true rfl⟩) hK hPc (hDc.weaken (fun _ _ _ _ => trivial)) (va_recv hK hP rfl (q0 := 0) (ci := 4) rfl) rfl hl.1 rfl (Nat.le_of_ble_eq_true rfl) d_Mo_load_157 ⟨Nat.le_of_ble_eq_true rfl, Nat.le_of_ble_eq_true rfl⟩) hS (fun q _ h => hFc q h) hFc (fun u157 tt157 H1 locs ht157 hvm157 e157 hB157 hz157 hk157 hS => ?_)
                              obtain ⟨mct2_157, mfr2_157, p1b_157, p2b_157, p3b_157, p4b_157, p5b_157, p6b_157⟩ := u157
                              have e157 : mct2_157.toInt = (n9 : Int) + 1 ∧ mfr2_157.toInt = 1500 - ((n9 : Int) + 1) ∧ MI (n9 + 1) p6b_157 p7 ∧ (∀ k, k < n9 + 1 → p6b_157 k = if k < ii.toInt.toNat then p6z k else if k = ii.toInt.toNat then p7 (1499 - n9) else p6z (k - 1)) ∧ KRs mso.toInt p1b_157 p2b_157 p3b_157 p4b_157 (kset KW9 (p7 (1499 - n9)).toInt.toNat (KW9 v148.toInt.toNat)) ∧ ∀ y, p5b_157 y = if y = (p7 (1499 - n9)).toInt.toNat then v156 else p5z y := e157
                              obtain ⟨hP1, hK1, hD1⟩ := hB157
                              rw [ht157] at hP1
                              obtain ⟨hP, hD⟩ := va_join (wr := []) (w1 := [(mo, .inr (4, [.int mso, .ref m1, .ref m2, .ref m3, .ref m4, .ref m5, .ref m6, .int mct2_157, .ref m7, .int mfr2_157, .int mcu, .int mth2_115, .ref m8, .ref m9, .ref ma, .ref mb])), (m1, .inl (cL, 1503, .inr (.inl p1b_157))), (m2, .inl (cL, 1503, .inr (.inl p2b_157))), (m3, .inl (cI, 36072, .inl p3b_157)), (m4, .inl (cI, 1503, .inl p4b_157)), (m5, .inl (cL, 1500, .inr (.inl p5b_157))), (m6, .inl (cI, 1500, .inl p6b_157)), (m7, .inl (cI, 1500, .inl p7)), (m8, .inl (cI, 50, .inl p8)), (m9, .inl (cI, 50, .inl p9)), (ma, .inl (cI, 1500, .inl pa)), (mb, .inl (cI, 50, .inl pb))]) hP hD [0, 1, 2, 3, 4, 5, 6, 7, 8, 9, 10, 11] [] rfl rfl (by decide) (by decide) hk157 hFc hP1 hD1
                              clear hP1 hD1 hPc hDc hFc
                              generalize H1 = H at hP hS ⊢
                              have hP : va_P D classes [(mo, .inr (4, [.int mso, .ref m1, .ref m2, .ref m3, .ref m4, .ref m5, .ref m6, .int mct2_157, .ref m7, .int mfr2_157, .int mcu, .int mth2_115, .ref m8, .ref m9, .ref ma, .ref mb])), (m1, .inl (cL, 1503, .inr (.inl p1b_157))), (m2, .inl (cL, 1503, .inr (.inl p2b_157))), (m3, .inl (cI, 36072, .inl p3b_157)), (m4, .inl (cI, 1503, .inl p4b_157)), (m5, .inl (cL, 1500, .inr (.inl p5b_157))), (m6, .inl (cI, 1500, .inl p6b_157)), (m7, .inl (cI, 1500, .inl p7)), (m8, .inl (cI, 50, .inl p8)), (m9, .inl (cI, 50, .inl p9)), (ma, .inl (cI, 1500, .inl pa)), (mb, .inl (cI, 50, .inl pb))] H := hP
                              have hD : va_D A [(mo, .inr (4, [.int mso, .ref m1, .ref m2, .ref m3, .ref m4, .ref m5, .ref m6, .int mct2_157, .ref m7, .int mfr2_157, .int mcu, .int mth2_115, .ref m8, .ref m9, .ref ma, .ref mb])), (m1, .inl (cL, 1503, .inr (.inl p1b_157))), (m2, .inl (cL, 1503, .inr (.inl p2b_157))), (m3, .inl (cI, 36072, .inl p3b_157)), (m4, .inl (cI, 1503, .inl p4b_157)), (m5, .inl (cL, 1500, .inr (.inl p5b_157))), (m6, .inl (cI, 1500, .inl p6b_157)), (m7, .inl (cI, 1500, .inl p7)), (m8, .inl (cI, 50, .inl p8)), (m9, .inl (cI, 50, .inl p9)), (ma, .inl (cI, 1500, .inl pa)), (mb, .inl (cI, 50, .inl pb))] := hD
                              refine lv_lload hx hb d_Mo_load_160 (lv_at hl 1 rfl) ?_
                              refine lv_lload_n hx hb d_Mo_load_162 rfl (lv_at hl 5 rfl) ?_
                              refine lv_ladd hx hb d_Mo_load_163 ?_
                              refine lv_topl (fun v163 e163 => ?_)
                              refine lv_lstore (lv' := [(9, .long v163), (11, .int ii), (8, .int v88), (6, .long v58), (0, .ref mo), (1, .long x0), (3, .int n0), (4, .long y0)]) hx hb d_Mo_load_164 hl (by decide) rfl (fun ls hl => ?_)
                              obtain ⟨v166, e166⟩ : ∃ z, z = ii + Int32.ofInt 1 := ⟨_, rfl⟩
                              have t166 := ia_inc 1 e166 (by decide) ⟨by omega, by omega⟩
                              refine lv_iinc (k := 1) (lv' := [(11, .int v166), (9, .long v163), (8, .int v88), (6, .long v58), (0, .ref mo), (1, .long x0), (3, .int n0), (4, .long y0)]) hx hb d_Mo_load_166 hl rfl e166.symm (by decide) rfl (fun ls hl => ?_)
                              refine lv_goto hx hb d_Mo_load_169 (tgt := 129) (by decide) ?_
                              obtain ⟨i1, i2, i3, i4, i5, i6⟩ := e157
                              rw [show v148.toInt.toNat = 1500 by omega] at i5
                              rw [← hn9] at i4
                              exact ih129 v166 v163 (kset KW9 (p7 (1499 - n9)).toInt.toNat (KW9 1500)) mct2_157 mfr2_157 p1b_157 p2b_157 p3b_157 p4b_157 p5b_157 p6b_157 H locs ls hl hP hD hS (by omega) (by omega) (by rw [ic_eq]; omega) (by omega) (by rw [show v166.toInt.toNat = n9 + 1 by omega]; exact i3) (i5) (by rw [kset_ne _ _ _ (by omega), kset_ne _ _ _ (by omega), hKW9, kset_ne _ _ _ (by omega), kset_ne _ _ _ (by omega)]; exact h8) (by
                                    rw [e163, h9, show v166.toInt64 = ii.toInt64 + 1 from Int64.toInt_inj.mp (by
                                      have h12 := ii_add1 (ii.toInt64) (by rw [Jvm.Kit.i64_of_i32]; omega)
                                      rw [h12, Jvm.Kit.i64_of_i32, Jvm.Kit.i64_of_i32]; omega), Int64.add_mul, Int64.one_mul, Int64.add_assoc]) (fun k hk => by
                                    rw [i4 k (by omega)]
                                    by_cases h12 : k < n9
                                    · rw [if_pos h12, kset_ne _ _ _ (fun h13 => hinz k h12 h13.symm), hKW9, kset_ne _ _ _ (by have := h6.1 k h12; omega)]
                                      exact h10 k (by omega)
                                    · have h13 : k = n9 := by omega
                                      rw [if_neg h12, if_pos h13, kset_at, hKW9, kset_at, h9, h13, hn9, show Int32.ofNat ii.toInt.toNat = ii from ic_eq.mpr (by rw [ia_of _ (by omega)]; omega)]) (fun k hk => by
                                    rw [i4 k (by omega), i6]
                                    by_cases h12 : k < n9
                                    · rw [if_pos h12, if_neg (fun h13 => hinz k h12 h13.symm)]
                                      exact h11 k (by omega)
                                    · have h13 : k = n9 := by omega
                                      rw [if_neg h12, if_pos h13, if_pos rfl, e156, e155, h13, hn9, show Int32.ofNat ii.toInt.toNat = ii from ic_eq.mpr (by rw [ia_of _ (by omega)]; omega)]) (by omega)
                        exact lp129 _ v126 v58 KW mct mfr p1 p2 p3 p4 p5 p6 H locs ls hl hP hD hS (by omega) (by omega) (by rw [ic_eq]; omega) (by omega) (by rw [show v126.toInt.toNat = n by omega]; exact hmi) (hkr) (⟨rfl, rfl⟩) (by rw [e58, e126]; show _ = _ + (0 : Int32).toInt64 * x0; rw [show (0 : Int32).toInt64 = 0 from rfl, Int64.zero_mul, Int64.add_zero]) (fun k hk => by omega) (fun k hk => by omega) (Nat.lt_succ_self _)
                      · have g118 := (iz_ne).mp g118
                        exfalso; omega
                    · have g106 := ic_nle.mp g106
                      refine lv_iconst (v := 1) hx hb d_Mo_load_109 (by decide) ?_
                      refine lv_topi (fun v109 e109 => ?_)
                      have t109 : v109.toInt = 1 := by rw [e109]; rfl
                      refine lv_goto hx hb d_Mo_load_110 (tgt := 114) (by decide) ?_
                      refine lv_iconst (v := 3) hx hb d_Mo_load_114 (by decide) ?_
                      refine lv_topi (fun v114 e114 => ?_)
                      have t114 : v114.toInt = 3 := by rw [e114]; rfl
                      have hPc := hP.sub (ws' := [(mo, .inr (4, [.int mso, .ref m1, .ref m2, .ref m3, .ref m4, .ref m5, .ref m6, .int mct, .ref m7, .int mfr, .int mcu, .int mth2_95, .ref m8, .ref m9, .ref ma, .ref mb])), (m1, .inl (cL, 1503, .inr (.inl p1))), (m2, .inl (cL, 1503, .inr (.inl p2))), (m3, .inl (cI, 36072, .inl p3)), (m4, .inl (cI, 1503, .inl p4)), (m5, .inl (cL, 1500, .inr (.inl p5))), (m6, .inl (cI, 1500, .inl p6)), (m7, .inl (cI, 1500, .inl p7)), (m8, .inl (cI, 50, .inl p8)), (m9, .inl (cI, 50, .inl p9)), (ma, .inl (cI, 1500, .inl pa)), (mb, .inl (cI, 50, .inl pb))]) [0, 1, 2, 3, 4, 5, 6, 7, 8, 9, 10, 11] rfl
                      have hDc := hD.sub (ws' := [(mo, .inr (4, [.int mso, .ref m1, .ref m2, .ref m3, .ref m4, .ref m5, .ref m6, .int mct, .ref m7, .int mfr, .int mcu, .int mth2_95, .ref m8, .ref m9, .ref ma, .ref mb])), (m1, .inl (cL, 1503, .inr (.inl p1))), (m2, .inl (cL, 1503, .inr (.inl p2))), (m3, .inl (cI, 36072, .inl p3)), (m4, .inl (cI, 1503, .inl p4)), (m5, .inl (cL, 1500, .inr (.inl p5))), (m6, .inl (cI, 1500, .inl p6)), (m7, .inl (cI, 1500, .inl p7)), (m8, .inl (cI, 50, .inl p8)), (m9, .inl (cI, 50, .inl p9)), (ma, .inl (cI, 1500, .inl pa)), (mb, .inl (cI, 50, .inl pb))]) [0, 1, 2, 3, 4, 5, 6, 7, 8, 9, 10, 11] (by decide) rfl
                      have hFc := va_free (wc := [(mo, .inr (4, [.int mso, .ref m1, .ref m2, .ref m3, .ref m4, .ref m5, .ref m6, .int mct, .ref m7, .int mfr, .int mcu, .int mth2_95, .ref m8, .ref m9, .ref ma, .ref mb])), (m1, .inl (cL, 1503, .inr (.inl p1))), (m2, .inl (cL, 1503, .inr (.inl p2))), (m3, .inl (cI, 36072, .inl p3)), (m4, .inl (cI, 1503, .inl p4)), (m5, .inl (cL, 1500, .inr (.inl p5))), (m6, .inl (cI, 1500, .inl p6)), (m7, .inl (cI, 1500, .inl p7)), (m8, .inl (cI, 50, .inl p8)), (m9, .inl (cI, 50, .inl p9)), (ma, .inl (cI, 1500, .inl pa)), (mb, .inl (cI, 50, .inl pb))]) hD hS hA [0, 1, 2, 3, 4, 5, 6, 7, 8, 9, 10, 11] rfl
                      refine va_calli (xr_mv (As := [.int v109, .int v114]) (rest := []) ⟨hx, hb, hml, hown, hts⟩ (c_Mo_fails l D cL cI mo m1 m2 m3 m4 m5 m6 m7 m8 m9 ma mb mso mct mfr mcu mth2_95 p1 p2 p5 p3 p4 p6 p7 p8 p9 pa pb v109 v114 H.size (by first | omega | exact hso)) (xr_cv 2 hts tw_663 tw_660 tw_662 tp_10 tw_7 rfl rfl (by decide) ⟨Nat.le_of_ble_eq_true rfl, Nat.le_of_ble_eq_true rfl⟩) hK hPc (hDc.weaken (fun _ _ _ _ => trivial)) (va_recv hK hP rfl (q0 := 0) (ci := 4) rfl) rfl hl.1 rfl (Nat.le_of_ble_eq_true rfl) d_Mo_load_115 ⟨Nat.le_of_ble_eq_true rfl, Nat.le_of_ble_eq_true rfl⟩) hS (fun q _ h => hFc q h) hFc (fun v115 u115 tt115 H1 locs ht115 hvm115 e115 hB115 hz115 hk115 hS => ?_)
                      obtain ⟨mth2_115, rfl⟩ : ∃ z, z = u115 := ⟨_, rfl⟩
                      have e115 : v115.toInt = v109.toInt ∧ ((v109.toInt = 0 ∧ mth2_115.toInt = 0) ∨ (v109.toInt ≠ 0 ∧ mth2_115.toInt = v114.toInt)) := e115
                      obtain ⟨hP1, hK1, hD1⟩ := hB115
                      rw [ht115] at hP1
                      obtain ⟨hP, hD⟩ := va_join (wr := []) (w1 := [(mo, .inr (4, [.int mso, .ref m1, .ref m2, .ref m3, .ref m4, .ref m5, .ref m6, .int mct, .ref m7, .int mfr, .int mcu, .int mth2_115, .ref m8, .ref m9, .ref ma, .ref mb])), (m1, .inl (cL, 1503, .inr (.inl p1))), (m2, .inl (cL, 1503, .inr (.inl p2))), (m3, .inl (cI, 36072, .inl p3)), (m4, .inl (cI, 1503, .inl p4)), (m5, .inl (cL, 1500, .inr (.inl p5))), (m6, .inl (cI, 1500, .inl p6)), (m7, .inl (cI, 1500, .inl p7)), (m8, .inl (cI, 50, .inl p8)), (m9, .inl (cI, 50, .inl p9)), (ma, .inl (cI, 1500, .inl pa)), (mb, .inl (cI, 50, .inl pb))]) hP hD [0, 1, 2, 3, 4, 5, 6, 7, 8, 9, 10, 11] [] rfl rfl (by decide) (by decide) hk115 hFc hP1 hD1
                      clear hP1 hD1 hPc hDc hFc
                      generalize H1 = H at hP hS ⊢
                      have hP : va_P D classes [(mo, .inr (4, [.int mso, .ref m1, .ref m2, .ref m3, .ref m4, .ref m5, .ref m6, .int mct, .ref m7, .int mfr, .int mcu, .int mth2_115, .ref m8, .ref m9, .ref ma, .ref mb])), (m1, .inl (cL, 1503, .inr (.inl p1))), (m2, .inl (cL, 1503, .inr (.inl p2))), (m3, .inl (cI, 36072, .inl p3)), (m4, .inl (cI, 1503, .inl p4)), (m5, .inl (cL, 1500, .inr (.inl p5))), (m6, .inl (cI, 1500, .inl p6)), (m7, .inl (cI, 1500, .inl p7)), (m8, .inl (cI, 50, .inl p8)), (m9, .inl (cI, 50, .inl p9)), (ma, .inl (cI, 1500, .inl pa)), (mb, .inl (cI, 50, .inl pb))] H := hP
                      have hD : va_D A [(mo, .inr (4, [.int mso, .ref m1, .ref m2, .ref m3, .ref m4, .ref m5, .ref m6, .int mct, .ref m7, .int mfr, .int mcu, .int mth2_115, .ref m8, .ref m9, .ref ma, .ref mb])), (m1, .inl (cL, 1503, .inr (.inl p1))), (m2, .inl (cL, 1503, .inr (.inl p2))), (m3, .inl (cI, 36072, .inl p3)), (m4, .inl (cI, 1503, .inl p4)), (m5, .inl (cL, 1500, .inr (.inl p5))), (m6, .inl (cI, 1500, .inl p6)), (m7, .inl (cI, 1500, .inl p7)), (m8, .inl (cI, 50, .inl p8)), (m9, .inl (cI, 50, .inl p9)), (ma, .inl (cI, 1500, .inl pa)), (mb, .inl (cI, 50, .inl pb))] := hD
                      refine lv_if_eq hx hb d_Mo_load_118 (tgt := 122) (by decide) (fun g118 => ?_) (fun g118 => ?_)
                      · have g118 := (iz_eq).mp g118
                        exfalso; omega
                      · have g118 := (iz_ne).mp g118
                        have hpost : ((mso.toInt ≠ 0 ∨ 0 < n) ∧ mth2_115.toInt = 1 ∧ mct = mct ∧ mfr = mfr ∧ p6 = p6 ∧ p5 = p5 ∧ p1 = p1 ∧ p2 = p2 ∧ p3 = p3 ∧ p4 = p4) ∨ (mso.toInt = 0 ∧ n = 0 ∧ ¬ (1 ≤ x0.toInt ∧ 0 ≤ n0.toInt ∧ ft_ok (p1 1500) x0 n0.toInt) ∧ mth2_115.toInt = 2 ∧ mct = mct ∧ mfr = mfr ∧ p6 = p6 ∧ p5 = p5 ∧ p1 = p1 ∧ p2 = p2 ∧ p3 = p3 ∧ p4 = p4) ∨ (mso.toInt = 0 ∧ n = 0 ∧ 1 ≤ x0.toInt ∧ 0 ≤ n0.toInt ∧ ft_ok (p1 1500) x0 n0.toInt ∧ 1500 < n0.toInt ∧ mth2_115.toInt = 3 ∧ mct = mct ∧ mfr = mfr ∧ p6 = p6 ∧ p5 = p5 ∧ p1 = p1 ∧ p2 = p2 ∧ p3 = p3 ∧ p4 = p4) ∨ (mso.toInt = 0 ∧ n = 0 ∧ 1 ≤ x0.toInt ∧ 0 ≤ n0.toInt ∧ ft_ok (p1 1500) x0 n0.toInt ∧ n0.toInt ≤ 1500 ∧ mth2_115.toInt = 0 ∧ ∃ KW2 : Nat → Nat → Int64, mct = n0 ∧ mfr.toInt = 1500 - n0.toInt ∧ MI n0.toInt.toNat p6 p7 ∧ KRs mso.toInt p1 p2 p3 p4 KW2 ∧ KW2 1500 0 = KW 1500 0 ∧ KW2 1501 = KW 1501 ∧ KW2 1502 = KW 1502 ∧ (∀ k, k < n0.toInt.toNat → KW2 (p6 k).toInt.toNat 0 = ((p1 1500) + (Int32.ofNat k).toInt64 * x0) ^^^ (-9223372036854775808)) ∧ (∀ k, k < n0.toInt.toNat → p5 (p6 k).toInt.toNat = y0 + (Int32.ofNat k).toInt64)) := by
                          first
                          | (exfalso; omega)
                          | (rcases hab with h5 | h5
                             · first
                               | (exfalso; omega)
                               | exact Or.inr (Or.inl ⟨by omega, by omega, fun h6 => h5.2 h6.2.2, by omega, rfl, rfl, rfl, rfl, rfl, rfl, rfl, rfl⟩)
                             · first
                               | (exfalso; omega)
                               | exact Or.inr (Or.inr (Or.inl ⟨by omega, by omega, hy1, by omega, h5.2, by omega, by omega, rfl, rfl, rfl, rfl, rfl, rfl, rfl, rfl⟩)))
                        have hP9 := hP.sub (ws' := [(mo, .inr (4, [.int mso, .ref m1, .ref m2, .ref m3, .ref m4, .ref m5, .ref m6, .int mct, .ref m7, .int mfr, .int mcu, .int mth2_115, .ref m8, .ref m9, .ref ma, .ref mb])), (m1, .inl (cL, 1503, .inr (.inl p1))), (m2, .inl (cL, 1503, .inr (.inl p2))), (m3, .inl (cI, 36072, .inl p3)), (m4, .inl (cI, 1503, .inl p4)), (m5, .inl (cL, 1500, .inr (.inl p5))), (m6, .inl (cI, 1500, .inl p6)), (m7, .inl (cI, 1500, .inl p7)), (m8, .inl (cI, 50, .inl p8)), (m9, .inl (cI, 50, .inl p9)), (ma, .inl (cI, 1500, .inl pa)), (mb, .inl (cI, 50, .inl pb))]) [0, 1, 2, 3, 4, 5, 6, 7, 8, 9, 10, 11] rfl
                        have hD9 := hD.sub (ws' := [(mo, .inr (4, [.int mso, .ref m1, .ref m2, .ref m3, .ref m4, .ref m5, .ref m6, .int mct, .ref m7, .int mfr, .int mcu, .int mth2_115, .ref m8, .ref m9, .ref ma, .ref mb])), (m1, .inl (cL, 1503, .inr (.inl p1))), (m2, .inl (cL, 1503, .inr (.inl p2))), (m3, .inl (cI, 36072, .inl p3)), (m4, .inl (cI, 1503, .inl p4)), (m5, .inl (cL, 1500, .inr (.inl p5))), (m6, .inl (cI, 1500, .inl p6)), (m7, .inl (cI, 1500, .inl p7)), (m8, .inl (cI, 50, .inl p8)), (m9, .inl (cI, 50, .inl p9)), (ma, .inl (cI, 1500, .inl pa)), (mb, .inl (cI, 50, .inl pb))]) [0, 1, 2, 3, 4, 5, 6, 7, 8, 9, 10, 11] (by decide) rfl
                        rw [hQ]
                        exact W.vret hx hb hr (fun t ht hW => ⟨⟨(mth2_115, mct, mfr, p1, p2, p3, p4, p5, p6), rfl, hpost, by rw [ht]; exact hP9, va_K.moved hW.alike hK, hD9⟩, hS.F ht⟩) hS.2.2 d_Mo_load_121
                · have g81 := (lc_nle e80).mp g81
                  refine lv_iconst (v := 1) hx hb d_Mo_load_84 (by decide) ?_
                  refine lv_topi (fun v84 e84 => ?_)
                  have t84 : v84.toInt = 1 := by rw [e84]; rfl
                  refine lv_goto hx hb d_Mo_load_85 (tgt := 89) (by decide) ?_
                  refine lv_istore (lv' := [(8, .int v84), (6, .long v58), (0, .ref mo), (1, .long x0), (3, .int n0), (4, .long y0)]) hx hb d_Mo_load_89 hl (by decide) rfl (fun ls hl => ?_)
                  have hab : (v84.toInt = 1 ∧ ¬ ft_ok (p1 1500) x0 n0.toInt) ∨ (v84.toInt = 0 ∧ ft_ok (p1 1500) x0 n0.toInt) := by
                        unfold ft_ok
                        generalize hz : ft_w (p1 1500) / uN x0 = z
                        first
                        | (refine Or.inr ⟨by omega, ?_⟩; omega)
                        | (have h6 := e77
                           rw [e75, e70, hWd, hz] at h6
                           have h7 : v77.toInt < v69.toInt := Int.not_le.mp (fun h8 => g81 (il_le.mpr h8))
                           rw [e69, Jvm.Kit.i64_of_i32] at h7
                           refine Or.inl ⟨by omega, ?_⟩
                           omega)
                        | (have h6 := e77
                           rw [e75, e70, hWd, hz] at h6
                           have h7 : v69.toInt ≤ v77.toInt := il_le.mp g81
                           rw [e69, Jvm.Kit.i64_of_i32] at h7
                           refine Or.inr ⟨by omega, ?_⟩
                           omega)
                  refine lv_aload_n hx hb d_Mo_load_91 rfl (lv_at hl 2 rfl) ?_
                  refine lv_iload hx hb d_Mo_load_92 (lv_at hl 0 rfl) ?_
                  refine lv_iconst (v := 2) hx hb d_Mo_load_94 (by decide) ?_
                  refine lv_topi (fun v94 e94 => ?_)
                  have t94 : v94.toInt = 2 := by rw [e94]; rfl
                  have hPc := hP.sub (ws' := [(mo, .inr (4, [.int mso, .ref m1, .ref m2, .ref m3, .ref m4, .ref m5, .ref m6, .int mct, .ref m7, .int mfr, .int mcu, .int mth2_44, .ref m8, .ref m9, .ref ma, .ref mb])), (m1, .inl (cL, 1503, .inr (.inl p1))), (m2, .inl (cL, 1503, .inr (.inl p2))), (m3, .inl (cI, 36072, .inl p3)), (m4, .inl (cI, 1503, .inl p4)), (m5, .inl (cL, 1500, .inr (.inl p5))), (m6, .inl (cI, 1500, .inl p6)), (m7, .inl (cI, 1500, .inl p7)), (m8, .inl (cI, 50, .inl p8)), (m9, .inl (cI, 50, .inl p9)), (ma, .inl (cI, 1500, .inl pa)), (mb, .inl (cI, 50, .inl pb))]) [0, 1, 2, 3, 4, 5, 6, 7, 8, 9, 10, 11] rfl
                  have hDc := hD.sub (ws' := [(mo, .inr (4, [.int mso, .ref m1, .ref m2, .ref m3, .ref m4, .ref m5, .ref m6, .int mct, .ref m7, .int mfr, .int mcu, .int mth2_44, .ref m8, .ref m9, .ref ma, .ref mb])), (m1, .inl (cL, 1503, .inr (.inl p1))), (m2, .inl (cL, 1503, .inr (.inl p2))), (m3, .inl (cI, 36072, .inl p3)), (m4, .inl (cI, 1503, .inl p4)), (m5, .inl (cL, 1500, .inr (.inl p5))), (m6, .inl (cI, 1500, .inl p6)), (m7, .inl (cI, 1500, .inl p7)), (m8, .inl (cI, 50, .inl p8)), (m9, .inl (cI, 50, .inl p9)), (ma, .inl (cI, 1500, .inl pa)), (mb, .inl (cI, 50, .inl pb))]) [0, 1, 2, 3, 4, 5, 6, 7, 8, 9, 10, 11] (by decide) rfl
                  have hFc := va_free (wc := [(mo, .inr (4, [.int mso, .ref m1, .ref m2, .ref m3, .ref m4, .ref m5, .ref m6, .int mct, .ref m7, .int mfr, .int mcu, .int mth2_44, .ref m8, .ref m9, .ref ma, .ref mb])), (m1, .inl (cL, 1503, .inr (.inl p1))), (m2, .inl (cL, 1503, .inr (.inl p2))), (m3, .inl (cI, 36072, .inl p3)), (m4, .inl (cI, 1503, .inl p4)), (m5, .inl (cL, 1500, .inr (.inl p5))), (m6, .inl (cI, 1500, .inl p6)), (m7, .inl (cI, 1500, .inl p7)), (m8, .inl (cI, 50, .inl p8)), (m9, .inl (cI, 50, .inl p9)), (ma, .inl (cI, 1500, .inl pa)), (mb, .inl (cI, 50, .inl pb))]) hD hS hA [0, 1, 2, 3, 4, 5, 6, 7, 8, 9, 10, 11] rfl
                  refine va_calli (xr_mv (As := [.int v84, .int v94]) (rest := []) ⟨hx, hb, hml, hown, hts⟩ (c_Mo_fails l D cL cI mo m1 m2 m3 m4 m5 m6 m7 m8 m9 ma mb mso mct mfr mcu mth2_44 p1 p2 p5 p3 p4 p6 p7 p8 p9 pa pb v84 v94 H.size (by first | omega | exact hso)) (xr_cv 2 hts tw_663 tw_660 tw_662 tp_10 tw_7 rfl rfl (by decide) ⟨Nat.le_of_ble_eq_true rfl, Nat.le_of_ble_eq_true rfl⟩) hK hPc (hDc.weaken (fun _ _ _ _ => trivial)) (va_recv hK hP rfl (q0 := 0) (ci := 4) rfl) rfl hl.1 rfl (Nat.le_of_ble_eq_true rfl) d_Mo_load_95 ⟨Nat.le_of_ble_eq_true rfl, Nat.le_of_ble_eq_true rfl⟩) hS (fun q _ h => hFc q h) hFc (fun v95 u95 tt95 H1 locs ht95 hvm95 e95 hB95 hz95 hk95 hS => ?_)
                  obtain ⟨mth2_95, rfl⟩ : ∃ z, z = u95 := ⟨_, rfl⟩
                  have e95 : v95.toInt = v84.toInt ∧ ((v84.toInt = 0 ∧ mth2_95.toInt = 0) ∨ (v84.toInt ≠ 0 ∧ mth2_95.toInt = v94.toInt)) := e95
                  obtain ⟨hP1, hK1, hD1⟩ := hB95
                  rw [ht95] at hP1
                  obtain ⟨hP, hD⟩ := va_join (wr := []) (w1 := [(mo, .inr (4, [.int mso, .ref m1, .ref m2, .ref m3, .ref m4, .ref m5, .ref m6, .int mct, .ref m7, .int mfr, .int mcu, .int mth2_95, .ref m8, .ref m9, .ref ma, .ref mb])), (m1, .inl (cL, 1503, .inr (.inl p1))), (m2, .inl (cL, 1503, .inr (.inl p2))), (m3, .inl (cI, 36072, .inl p3)), (m4, .inl (cI, 1503, .inl p4)), (m5, .inl (cL, 1500, .inr (.inl p5))), (m6, .inl (cI, 1500, .inl p6)), (m7, .inl (cI, 1500, .inl p7)), (m8, .inl (cI, 50, .inl p8)), (m9, .inl (cI, 50, .inl p9)), (ma, .inl (cI, 1500, .inl pa)), (mb, .inl (cI, 50, .inl pb))]) hP hD [0, 1, 2, 3, 4, 5, 6, 7, 8, 9, 10, 11] [] rfl rfl (by decide) (by decide) hk95 hFc hP1 hD1
                  clear hP1 hD1 hPc hDc hFc
                  generalize H1 = H at hP hS ⊢
                  have hP : va_P D classes [(mo, .inr (4, [.int mso, .ref m1, .ref m2, .ref m3, .ref m4, .ref m5, .ref m6, .int mct, .ref m7, .int mfr, .int mcu, .int mth2_95, .ref m8, .ref m9, .ref ma, .ref mb])), (m1, .inl (cL, 1503, .inr (.inl p1))), (m2, .inl (cL, 1503, .inr (.inl p2))), (m3, .inl (cI, 36072, .inl p3)), (m4, .inl (cI, 1503, .inl p4)), (m5, .inl (cL, 1500, .inr (.inl p5))), (m6, .inl (cI, 1500, .inl p6)), (m7, .inl (cI, 1500, .inl p7)), (m8, .inl (cI, 50, .inl p8)), (m9, .inl (cI, 50, .inl p9)), (ma, .inl (cI, 1500, .inl pa)), (mb, .inl (cI, 50, .inl pb))] H := hP
                  have hD : va_D A [(mo, .inr (4, [.int mso, .ref m1, .ref m2, .ref m3, .ref m4, .ref m5, .ref m6, .int mct, .ref m7, .int mfr, .int mcu, .int mth2_95, .ref m8, .ref m9, .ref ma, .ref mb])), (m1, .inl (cL, 1503, .inr (.inl p1))), (m2, .inl (cL, 1503, .inr (.inl p2))), (m3, .inl (cI, 36072, .inl p3)), (m4, .inl (cI, 1503, .inl p4)), (m5, .inl (cL, 1500, .inr (.inl p5))), (m6, .inl (cI, 1500, .inl p6)), (m7, .inl (cI, 1500, .inl p7)), (m8, .inl (cI, 50, .inl p8)), (m9, .inl (cI, 50, .inl p9)), (ma, .inl (cI, 1500, .inl pa)), (mb, .inl (cI, 50, .inl pb))] := hD
                  refine lv_if_ne hx hb d_Mo_load_98 (tgt := 121) (by decide) (fun g98 => ?_) (fun g98 => ?_)
                  · have g98 := (iz_ne).mp g98
                    have hpost : ((mso.toInt ≠ 0 ∨ 0 < n) ∧ mth2_95.toInt = 1 ∧ mct = mct ∧ mfr = mfr ∧ p6 = p6 ∧ p5 = p5 ∧ p1 = p1 ∧ p2 = p2 ∧ p3 = p3 ∧ p4 = p4) ∨ (mso.toInt = 0 ∧ n = 0 ∧ ¬ (1 ≤ x0.toInt ∧ 0 ≤ n0.toInt ∧ ft_ok (p1 1500) x0 n0.toInt) ∧ mth2_95.toInt = 2 ∧ mct = mct ∧ mfr = mfr ∧ p6 = p6 ∧ p5 = p5 ∧ p1 = p1 ∧ p2 = p2 ∧ p3 = p3 ∧ p4 = p4) ∨ (mso.toInt = 0 ∧ n = 0 ∧ 1 ≤ x0.toInt ∧ 0 ≤ n0.toInt ∧ ft_ok (p1 1500) x0 n0.toInt ∧ 1500 < n0.toInt ∧ mth2_95.toInt = 3 ∧ mct = mct ∧ mfr = mfr ∧ p6 = p6 ∧ p5 = p5 ∧ p1 = p1 ∧ p2 = p2 ∧ p3 = p3 ∧ p4 = p4) ∨ (mso.toInt = 0 ∧ n = 0 ∧ 1 ≤ x0.toInt ∧ 0 ≤ n0.toInt ∧ ft_ok (p1 1500) x0 n0.toInt ∧ n0.toInt ≤ 1500 ∧ mth2_95.toInt = 0 ∧ ∃ KW2 : Nat → Nat → Int64, mct = n0 ∧ mfr.toInt = 1500 - n0.toInt ∧ MI n0.toInt.toNat p6 p7 ∧ KRs mso.toInt p1 p2 p3 p4 KW2 ∧ KW2 1500 0 = KW 1500 0 ∧ KW2 1501 = KW 1501 ∧ KW2 1502 = KW 1502 ∧ (∀ k, k < n0.toInt.toNat → KW2 (p6 k).toInt.toNat 0 = ((p1 1500) + (Int32.ofNat k).toInt64 * x0) ^^^ (-9223372036854775808)) ∧ (∀ k, k < n0.toInt.toNat → p5 (p6 k).toInt.toNat = y0 + (Int32.ofNat k).toInt64)) := by
                      first
                      | (exfalso; omega)
                      | (rcases hab with h5 | h5
                         · first
                           | (exfalso; omega)
                           | exact Or.inr (Or.inl ⟨by omega, by omega, fun h6 => h5.2 h6.2.2, by omega, rfl, rfl, rfl, rfl, rfl, rfl, rfl, rfl⟩)
                         · first
                           | (exfalso; omega)
                           | exact Or.inr (Or.inr (Or.inl ⟨by omega, by omega, hy1, by omega, h5.2, by omega, by omega, rfl, rfl, rfl, rfl, rfl, rfl, rfl, rfl⟩)))
                    have hP9 := hP.sub (ws' := [(mo, .inr (4, [.int mso, .ref m1, .ref m2, .ref m3, .ref m4, .ref m5, .ref m6, .int mct, .ref m7, .int mfr, .int mcu, .int mth2_95, .ref m8, .ref m9, .ref ma, .ref mb])), (m1, .inl (cL, 1503, .inr (.inl p1))), (m2, .inl (cL, 1503, .inr (.inl p2))), (m3, .inl (cI, 36072, .inl p3)), (m4, .inl (cI, 1503, .inl p4)), (m5, .inl (cL, 1500, .inr (.inl p5))), (m6, .inl (cI, 1500, .inl p6)), (m7, .inl (cI, 1500, .inl p7)), (m8, .inl (cI, 50, .inl p8)), (m9, .inl (cI, 50, .inl p9)), (ma, .inl (cI, 1500, .inl pa)), (mb, .inl (cI, 50, .inl pb))]) [0, 1, 2, 3, 4, 5, 6, 7, 8, 9, 10, 11] rfl
                    have hD9 := hD.sub (ws' := [(mo, .inr (4, [.int mso, .ref m1, .ref m2, .ref m3, .ref m4, .ref m5, .ref m6, .int mct, .ref m7, .int mfr, .int mcu, .int mth2_95, .ref m8, .ref m9, .ref ma, .ref mb])), (m1, .inl (cL, 1503, .inr (.inl p1))), (m2, .inl (cL, 1503, .inr (.inl p2))), (m3, .inl (cI, 36072, .inl p3)), (m4, .inl (cI, 1503, .inl p4)), (m5, .inl (cL, 1500, .inr (.inl p5))), (m6, .inl (cI, 1500, .inl p6)), (m7, .inl (cI, 1500, .inl p7)), (m8, .inl (cI, 50, .inl p8)), (m9, .inl (cI, 50, .inl p9)), (ma, .inl (cI, 1500, .inl pa)), (mb, .inl (cI, 50, .inl pb))]) [0, 1, 2, 3, 4, 5, 6, 7, 8, 9, 10, 11] (by decide) rfl
                    rw [hQ]
                    exact W.vret hx hb hr (fun t ht hW => ⟨⟨(mth2_95, mct, mfr, p1, p2, p3, p4, p5, p6), rfl, hpost, by rw [ht]; exact hP9, va_K.moved hW.alike hK, hD9⟩, hS.F ht⟩) hS.2.2 d_Mo_load_121
                  · have g98 := (iz_eq).mp g98
                    exfalso; omega
            · have g47 := (iz_ne).mp g47
              exfalso; omega
          · have g35 := (iz_nge).mp g35
            refine lv_iconst (v := 1) hx hb d_Mo_load_38 (by decide) ?_
            refine lv_topi (fun v38 e38 => ?_)
            have t38 : v38.toInt = 1 := by rw [e38]; rfl
            refine lv_goto hx hb d_Mo_load_39 (tgt := 43) (by decide) ?_
            refine lv_iconst (v := 2) hx hb d_Mo_load_43 (by decide) ?_
            refine lv_topi (fun v43 e43 => ?_)
            have t43 : v43.toInt = 2 := by rw [e43]; rfl
            have hPc := hP.sub (ws' := [(mo, .inr (4, [.int mso, .ref m1, .ref m2, .ref m3, .ref m4, .ref m5, .ref m6, .int mct, .ref m7, .int mfr, .int mcu, .int mth2_21, .ref m8, .ref m9, .ref ma, .ref mb])), (m1, .inl (cL, 1503, .inr (.inl p1))), (m2, .inl (cL, 1503, .inr (.inl p2))), (m3, .inl (cI, 36072, .inl p3)), (m4, .inl (cI, 1503, .inl p4)), (m5, .inl (cL, 1500, .inr (.inl p5))), (m6, .inl (cI, 1500, .inl p6)), (m7, .inl (cI, 1500, .inl p7)), (m8, .inl (cI, 50, .inl p8)), (m9, .inl (cI, 50, .inl p9)), (ma, .inl (cI, 1500, .inl pa)), (mb, .inl (cI, 50, .inl pb))]) [0, 1, 2, 3, 4, 5, 6, 7, 8, 9, 10, 11] rfl
            have hDc := hD.sub (ws' := [(mo, .inr (4, [.int mso, .ref m1, .ref m2, .ref m3, .ref m4, .ref m5, .ref m6, .int mct, .ref m7, .int mfr, .int mcu, .int mth2_21, .ref m8, .ref m9, .ref ma, .ref mb])), (m1, .inl (cL, 1503, .inr (.inl p1))), (m2, .inl (cL, 1503, .inr (.inl p2))), (m3, .inl (cI, 36072, .inl p3)), (m4, .inl (cI, 1503, .inl p4)), (m5, .inl (cL, 1500, .inr (.inl p5))), (m6, .inl (cI, 1500, .inl p6)), (m7, .inl (cI, 1500, .inl p7)), (m8, .inl (cI, 50, .inl p8)), (m9, .inl (cI, 50, .inl p9)), (ma, .inl (cI, 1500, .inl pa)), (mb, .inl (cI, 50, .inl pb))]) [0, 1, 2, 3, 4, 5, 6, 7, 8, 9, 10, 11] (by decide) rfl
            have hFc := va_free (wc := [(mo, .inr (4, [.int mso, .ref m1, .ref m2, .ref m3, .ref m4, .ref m5, .ref m6, .int mct, .ref m7, .int mfr, .int mcu, .int mth2_21, .ref m8, .ref m9, .ref ma, .ref mb])), (m1, .inl (cL, 1503, .inr (.inl p1))), (m2, .inl (cL, 1503, .inr (.inl p2))), (m3, .inl (cI, 36072, .inl p3)), (m4, .inl (cI, 1503, .inl p4)), (m5, .inl (cL, 1500, .inr (.inl p5))), (m6, .inl (cI, 1500, .inl p6)), (m7, .inl (cI, 1500, .inl p7)), (m8, .inl (cI, 50, .inl p8)), (m9, .inl (cI, 50, .inl p9)), (ma, .inl (cI, 1500, .inl pa)), (mb, .inl (cI, 50, .inl pb))]) hD hS hA [0, 1, 2, 3, 4, 5, 6, 7, 8, 9, 10, 11] rfl
            refine va_calli (xr_mv (As := [.int v38, .int v43]) (rest := []) ⟨hx, hb, hml, hown, hts⟩ (c_Mo_fails l D cL cI mo m1 m2 m3 m4 m5 m6 m7 m8 m9 ma mb mso mct mfr mcu mth2_21 p1 p2 p5 p3 p4 p6 p7 p8 p9 pa pb v38 v43 H.size (by first | omega | exact hso)) (xr_cv 2 hts tw_663 tw_660 tw_662 tp_10 tw_7 rfl rfl (by decide) ⟨Nat.le_of_ble_eq_true rfl, Nat.le_of_ble_eq_true rfl⟩) hK hPc (hDc.weaken (fun _ _ _ _ => trivial)) (va_recv hK hP rfl (q0 := 0) (ci := 4) rfl) rfl hl.1 rfl (Nat.le_of_ble_eq_true rfl) d_Mo_load_44 ⟨Nat.le_of_ble_eq_true rfl, Nat.le_of_ble_eq_true rfl⟩) hS (fun q _ h => hFc q h) hFc (fun v44 u44 tt44 H1 locs ht44 hvm44 e44 hB44 hz44 hk44 hS => ?_)
            obtain ⟨mth2_44, rfl⟩ : ∃ z, z = u44 := ⟨_, rfl⟩
            have e44 : v44.toInt = v38.toInt ∧ ((v38.toInt = 0 ∧ mth2_44.toInt = 0) ∨ (v38.toInt ≠ 0 ∧ mth2_44.toInt = v43.toInt)) := e44
            obtain ⟨hP1, hK1, hD1⟩ := hB44
            rw [ht44] at hP1
            obtain ⟨hP, hD⟩ := va_join (wr := []) (w1 := [(mo, .inr (4, [.int mso, .ref m1, .ref m2, .ref m3, .ref m4, .ref m5, .ref m6, .int mct, .ref m7, .int mfr, .int mcu, .int mth2_44, .ref m8, .ref m9, .ref ma, .ref mb])), (m1, .inl (cL, 1503, .inr (.inl p1))), (m2, .inl (cL, 1503, .inr (.inl p2))), (m3, .inl (cI, 36072, .inl p3)), (m4, .inl (cI, 1503, .inl p4)), (m5, .inl (cL, 1500, .inr (.inl p5))), (m6, .inl (cI, 1500, .inl p6)), (m7, .inl (cI, 1500, .inl p7)), (m8, .inl (cI, 50, .inl p8)), (m9, .inl (cI, 50, .inl p9)), (ma, .inl (cI, 1500, .inl pa)), (mb, .inl (cI, 50, .inl pb))]) hP hD [0, 1, 2, 3, 4, 5, 6, 7, 8, 9, 10, 11] [] rfl rfl (by decide) (by decide) hk44 hFc hP1 hD1
            clear hP1 hD1 hPc hDc hFc
            generalize H1 = H at hP hS ⊢
            have hP : va_P D classes [(mo, .inr (4, [.int mso, .ref m1, .ref m2, .ref m3, .ref m4, .ref m5, .ref m6, .int mct, .ref m7, .int mfr, .int mcu, .int mth2_44, .ref m8, .ref m9, .ref ma, .ref mb])), (m1, .inl (cL, 1503, .inr (.inl p1))), (m2, .inl (cL, 1503, .inr (.inl p2))), (m3, .inl (cI, 36072, .inl p3)), (m4, .inl (cI, 1503, .inl p4)), (m5, .inl (cL, 1500, .inr (.inl p5))), (m6, .inl (cI, 1500, .inl p6)), (m7, .inl (cI, 1500, .inl p7)), (m8, .inl (cI, 50, .inl p8)), (m9, .inl (cI, 50, .inl p9)), (ma, .inl (cI, 1500, .inl pa)), (mb, .inl (cI, 50, .inl pb))] H := hP
            have hD : va_D A [(mo, .inr (4, [.int mso, .ref m1, .ref m2, .ref m3, .ref m4, .ref m5, .ref m6, .int mct, .ref m7, .int mfr, .int mcu, .int mth2_44, .ref m8, .ref m9, .ref ma, .ref mb])), (m1, .inl (cL, 1503, .inr (.inl p1))), (m2, .inl (cL, 1503, .inr (.inl p2))), (m3, .inl (cI, 36072, .inl p3)), (m4, .inl (cI, 1503, .inl p4)), (m5, .inl (cL, 1500, .inr (.inl p5))), (m6, .inl (cI, 1500, .inl p6)), (m7, .inl (cI, 1500, .inl p7)), (m8, .inl (cI, 50, .inl p8)), (m9, .inl (cI, 50, .inl p9)), (ma, .inl (cI, 1500, .inl pa)), (mb, .inl (cI, 50, .inl pb))] := hD
            refine lv_if_eq hx hb d_Mo_load_47 (tgt := 51) (by decide) (fun g47 => ?_) (fun g47 => ?_)
            · have g47 := (iz_eq).mp g47
              exfalso; omega
            · have g47 := (iz_ne).mp g47
              have hpost : ((mso.toInt ≠ 0 ∨ 0 < n) ∧ mth2_44.toInt = 1 ∧ mct = mct ∧ mfr = mfr ∧ p6 = p6 ∧ p5 = p5 ∧ p1 = p1 ∧ p2 = p2 ∧ p3 = p3 ∧ p4 = p4) ∨ (mso.toInt = 0 ∧ n = 0 ∧ ¬ (1 ≤ x0.toInt ∧ 0 ≤ n0.toInt ∧ ft_ok (p1 1500) x0 n0.toInt) ∧ mth2_44.toInt = 2 ∧ mct = mct ∧ mfr = mfr ∧ p6 = p6 ∧ p5 = p5 ∧ p1 = p1 ∧ p2 = p2 ∧ p3 = p3 ∧ p4 = p4) ∨ (mso.toInt = 0 ∧ n = 0 ∧ 1 ≤ x0.toInt ∧ 0 ≤ n0.toInt ∧ ft_ok (p1 1500) x0 n0.toInt ∧ 1500 < n0.toInt ∧ mth2_44.toInt = 3 ∧ mct = mct ∧ mfr = mfr ∧ p6 = p6 ∧ p5 = p5 ∧ p1 = p1 ∧ p2 = p2 ∧ p3 = p3 ∧ p4 = p4) ∨ (mso.toInt = 0 ∧ n = 0 ∧ 1 ≤ x0.toInt ∧ 0 ≤ n0.toInt ∧ ft_ok (p1 1500) x0 n0.toInt ∧ n0.toInt ≤ 1500 ∧ mth2_44.toInt = 0 ∧ ∃ KW2 : Nat → Nat → Int64, mct = n0 ∧ mfr.toInt = 1500 - n0.toInt ∧ MI n0.toInt.toNat p6 p7 ∧ KRs mso.toInt p1 p2 p3 p4 KW2 ∧ KW2 1500 0 = KW 1500 0 ∧ KW2 1501 = KW 1501 ∧ KW2 1502 = KW 1502 ∧ (∀ k, k < n0.toInt.toNat → KW2 (p6 k).toInt.toNat 0 = ((p1 1500) + (Int32.ofNat k).toInt64 * x0) ^^^ (-9223372036854775808)) ∧ (∀ k, k < n0.toInt.toNat → p5 (p6 k).toInt.toNat = y0 + (Int32.ofNat k).toInt64)) := by
                first
                | (exfalso; omega)
                | exact Or.inl ⟨by omega, by omega, rfl, rfl, rfl, rfl, rfl, rfl, rfl, rfl⟩
                | (refine Or.inr (Or.inl ⟨by omega, by omega, fun h5 => ?_, by omega, rfl, rfl, rfl, rfl, rfl, rfl, rfl, rfl⟩)
                   first
                   | omega
                   | (have h6 := il_lt.mp g31
                      rw [e29] at h6
                      have h7 : x0.toInt < 1 := h6
                      omega))
              have hP9 := hP.sub (ws' := [(mo, .inr (4, [.int mso, .ref m1, .ref m2, .ref m3, .ref m4, .ref m5, .ref m6, .int mct, .ref m7, .int mfr, .int mcu, .int mth2_44, .ref m8, .ref m9, .ref ma, .ref mb])), (m1, .inl (cL, 1503, .inr (.inl p1))), (m2, .inl (cL, 1503, .inr (.inl p2))), (m3, .inl (cI, 36072, .inl p3)), (m4, .inl (cI, 1503, .inl p4)), (m5, .inl (cL, 1500, .inr (.inl p5))), (m6, .inl (cI, 1500, .inl p6)), (m7, .inl (cI, 1500, .inl p7)), (m8, .inl (cI, 50, .inl p8)), (m9, .inl (cI, 50, .inl p9)), (ma, .inl (cI, 1500, .inl pa)), (mb, .inl (cI, 50, .inl pb))]) [0, 1, 2, 3, 4, 5, 6, 7, 8, 9, 10, 11] rfl
              have hD9 := hD.sub (ws' := [(mo, .inr (4, [.int mso, .ref m1, .ref m2, .ref m3, .ref m4, .ref m5, .ref m6, .int mct, .ref m7, .int mfr, .int mcu, .int mth2_44, .ref m8, .ref m9, .ref ma, .ref mb])), (m1, .inl (cL, 1503, .inr (.inl p1))), (m2, .inl (cL, 1503, .inr (.inl p2))), (m3, .inl (cI, 36072, .inl p3)), (m4, .inl (cI, 1503, .inl p4)), (m5, .inl (cL, 1500, .inr (.inl p5))), (m6, .inl (cI, 1500, .inl p6)), (m7, .inl (cI, 1500, .inl p7)), (m8, .inl (cI, 50, .inl p8)), (m9, .inl (cI, 50, .inl p9)), (ma, .inl (cI, 1500, .inl pa)), (mb, .inl (cI, 50, .inl pb))]) [0, 1, 2, 3, 4, 5, 6, 7, 8, 9, 10, 11] (by decide) rfl
              rw [hQ]
              exact W.vret hx hb hr (fun t ht hW => ⟨⟨(mth2_44, mct, mfr, p1, p2, p3, p4, p5, p6), rfl, hpost, by rw [ht]; exact hP9, va_K.moved hW.alike hK, hD9⟩, hS.F ht⟩) hS.2.2 d_Mo_load_50
    · have g12 := (iz_nle).mp g12
      refine lv_iconst (v := 1) hx hb d_Mo_load_15 (by decide) ?_
      refine lv_topi (fun v15 e15 => ?_)
      have t15 : v15.toInt = 1 := by rw [e15]; rfl
      refine lv_goto hx hb d_Mo_load_16 (tgt := 20) (by decide) ?_
      refine lv_iconst (v := 1) hx hb d_Mo_load_20 (by decide) ?_
      refine lv_topi (fun v20 e20 => ?_)
      have t20 : v20.toInt = 1 := by rw [e20]; rfl
      have hPc := hP.sub (ws' := [(mo, .inr (4, [.int mso, .ref m1, .ref m2, .ref m3, .ref m4, .ref m5, .ref m6, .int mct, .ref m7, .int mfr, .int mcu, .int mth, .ref m8, .ref m9, .ref ma, .ref mb])), (m1, .inl (cL, 1503, .inr (.inl p1))), (m2, .inl (cL, 1503, .inr (.inl p2))), (m3, .inl (cI, 36072, .inl p3)), (m4, .inl (cI, 1503, .inl p4)), (m5, .inl (cL, 1500, .inr (.inl p5))), (m6, .inl (cI, 1500, .inl p6)), (m7, .inl (cI, 1500, .inl p7)), (m8, .inl (cI, 50, .inl p8)), (m9, .inl (cI, 50, .inl p9)), (ma, .inl (cI, 1500, .inl pa)), (mb, .inl (cI, 50, .inl pb))]) [0, 1, 2, 3, 4, 5, 6, 7, 8, 9, 10, 11] rfl
      have hDc := hD.sub (ws' := [(mo, .inr (4, [.int mso, .ref m1, .ref m2, .ref m3, .ref m4, .ref m5, .ref m6, .int mct, .ref m7, .int mfr, .int mcu, .int mth, .ref m8, .ref m9, .ref ma, .ref mb])), (m1, .inl (cL, 1503, .inr (.inl p1))), (m2, .inl (cL, 1503, .inr (.inl p2))), (m3, .inl (cI, 36072, .inl p3)), (m4, .inl (cI, 1503, .inl p4)), (m5, .inl (cL, 1500, .inr (.inl p5))), (m6, .inl (cI, 1500, .inl p6)), (m7, .inl (cI, 1500, .inl p7)), (m8, .inl (cI, 50, .inl p8)), (m9, .inl (cI, 50, .inl p9)), (ma, .inl (cI, 1500, .inl pa)), (mb, .inl (cI, 50, .inl pb))]) [0, 1, 2, 3, 4, 5, 6, 7, 8, 9, 10, 11] (by decide) rfl
      have hFc := va_free (wc := [(mo, .inr (4, [.int mso, .ref m1, .ref m2, .ref m3, .ref m4, .ref m5, .ref m6, .int mct, .ref m7, .int mfr, .int mcu, .int mth, .ref m8, .ref m9, .ref ma, .ref mb])), (m1, .inl (cL, 1503, .inr (.inl p1))), (m2, .inl (cL, 1503, .inr (.inl p2))), (m3, .inl (cI, 36072, .inl p3)), (m4, .inl (cI, 1503, .inl p4)), (m5, .inl (cL, 1500, .inr (.inl p5))), (m6, .inl (cI, 1500, .inl p6)), (m7, .inl (cI, 1500, .inl p7)), (m8, .inl (cI, 50, .inl p8)), (m9, .inl (cI, 50, .inl p9)), (ma, .inl (cI, 1500, .inl pa)), (mb, .inl (cI, 50, .inl pb))]) hD hS hA [0, 1, 2, 3, 4, 5, 6, 7, 8, 9, 10, 11] rfl
      refine va_calli (xr_mv (As := [.int v15, .int v20]) (rest := []) ⟨hx, hb, hml, hown, hts⟩ (c_Mo_fails l D cL cI mo m1 m2 m3 m4 m5 m6 m7 m8 m9 ma mb mso mct mfr mcu mth p1 p2 p5 p3 p4 p6 p7 p8 p9 pa pb v15 v20 s.heap.size (by first | omega | exact hso)) (xr_cv 2 hts tw_663 tw_660 tw_662 tp_10 tw_7 rfl rfl (by decide) ⟨Nat.le_of_ble_eq_true rfl, Nat.le_of_ble_eq_true rfl⟩) hK hPc (hDc.weaken (fun _ _ _ _ => trivial)) (va_recv hK hP rfl (q0 := 0) (ci := 4) rfl) rfl hl.1 rfl (Nat.le_of_ble_eq_true rfl) d_Mo_load_21 ⟨Nat.le_of_ble_eq_true rfl, Nat.le_of_ble_eq_true rfl⟩) hS (fun q _ h => hFc q h) hFc (fun v21 u21 tt21 H1 locs ht21 hvm21 e21 hB21 hz21 hk21 hS => ?_)
      obtain ⟨mth2_21, rfl⟩ : ∃ z, z = u21 := ⟨_, rfl⟩
      have e21 : v21.toInt = v15.toInt ∧ ((v15.toInt = 0 ∧ mth2_21.toInt = 0) ∨ (v15.toInt ≠ 0 ∧ mth2_21.toInt = v20.toInt)) := e21
      obtain ⟨hP1, hK1, hD1⟩ := hB21
      rw [ht21] at hP1
      obtain ⟨hP, hD⟩ := va_join (wr := []) (w1 := [(mo, .inr (4, [.int mso, .ref m1, .ref m2, .ref m3, .ref m4, .ref m5, .ref m6, .int mct, .ref m7, .int mfr, .int mcu, .int mth2_21, .ref m8, .ref m9, .ref ma, .ref mb])), (m1, .inl (cL, 1503, .inr (.inl p1))), (m2, .inl (cL, 1503, .inr (.inl p2))), (m3, .inl (cI, 36072, .inl p3)), (m4, .inl (cI, 1503, .inl p4)), (m5, .inl (cL, 1500, .inr (.inl p5))), (m6, .inl (cI, 1500, .inl p6)), (m7, .inl (cI, 1500, .inl p7)), (m8, .inl (cI, 50, .inl p8)), (m9, .inl (cI, 50, .inl p9)), (ma, .inl (cI, 1500, .inl pa)), (mb, .inl (cI, 50, .inl pb))]) hP hD [0, 1, 2, 3, 4, 5, 6, 7, 8, 9, 10, 11] [] rfl rfl (by decide) (by decide) hk21 hFc hP1 hD1
      clear hP1 hD1 hPc hDc hFc
      generalize H1 = H at hP hS ⊢
      have hP : va_P D classes [(mo, .inr (4, [.int mso, .ref m1, .ref m2, .ref m3, .ref m4, .ref m5, .ref m6, .int mct, .ref m7, .int mfr, .int mcu, .int mth2_21, .ref m8, .ref m9, .ref ma, .ref mb])), (m1, .inl (cL, 1503, .inr (.inl p1))), (m2, .inl (cL, 1503, .inr (.inl p2))), (m3, .inl (cI, 36072, .inl p3)), (m4, .inl (cI, 1503, .inl p4)), (m5, .inl (cL, 1500, .inr (.inl p5))), (m6, .inl (cI, 1500, .inl p6)), (m7, .inl (cI, 1500, .inl p7)), (m8, .inl (cI, 50, .inl p8)), (m9, .inl (cI, 50, .inl p9)), (ma, .inl (cI, 1500, .inl pa)), (mb, .inl (cI, 50, .inl pb))] H := hP
      have hD : va_D A [(mo, .inr (4, [.int mso, .ref m1, .ref m2, .ref m3, .ref m4, .ref m5, .ref m6, .int mct, .ref m7, .int mfr, .int mcu, .int mth2_21, .ref m8, .ref m9, .ref ma, .ref mb])), (m1, .inl (cL, 1503, .inr (.inl p1))), (m2, .inl (cL, 1503, .inr (.inl p2))), (m3, .inl (cI, 36072, .inl p3)), (m4, .inl (cI, 1503, .inl p4)), (m5, .inl (cL, 1500, .inr (.inl p5))), (m6, .inl (cI, 1500, .inl p6)), (m7, .inl (cI, 1500, .inl p7)), (m8, .inl (cI, 50, .inl p8)), (m9, .inl (cI, 50, .inl p9)), (ma, .inl (cI, 1500, .inl pa)), (mb, .inl (cI, 50, .inl pb))] := hD
      refine lv_if_ne hx hb d_Mo_load_24 (tgt := 50) (by decide) (fun g24 => ?_) (fun g24 => ?_)
      · have g24 := (iz_ne).mp g24
        have hpost : ((mso.toInt ≠ 0 ∨ 0 < n) ∧ mth2_21.toInt = 1 ∧ mct = mct ∧ mfr = mfr ∧ p6 = p6 ∧ p5 = p5 ∧ p1 = p1 ∧ p2 = p2 ∧ p3 = p3 ∧ p4 = p4) ∨ (mso.toInt = 0 ∧ n = 0 ∧ ¬ (1 ≤ x0.toInt ∧ 0 ≤ n0.toInt ∧ ft_ok (p1 1500) x0 n0.toInt) ∧ mth2_21.toInt = 2 ∧ mct = mct ∧ mfr = mfr ∧ p6 = p6 ∧ p5 = p5 ∧ p1 = p1 ∧ p2 = p2 ∧ p3 = p3 ∧ p4 = p4) ∨ (mso.toInt = 0 ∧ n = 0 ∧ 1 ≤ x0.toInt ∧ 0 ≤ n0.toInt ∧ ft_ok (p1 1500) x0 n0.toInt ∧ 1500 < n0.toInt ∧ mth2_21.toInt = 3 ∧ mct = mct ∧ mfr = mfr ∧ p6 = p6 ∧ p5 = p5 ∧ p1 = p1 ∧ p2 = p2 ∧ p3 = p3 ∧ p4 = p4) ∨ (mso.toInt = 0 ∧ n = 0 ∧ 1 ≤ x0.toInt ∧ 0 ≤ n0.toInt ∧ ft_ok (p1 1500) x0 n0.toInt ∧ n0.toInt ≤ 1500 ∧ mth2_21.toInt = 0 ∧ ∃ KW2 : Nat → Nat → Int64, mct = n0 ∧ mfr.toInt = 1500 - n0.toInt ∧ MI n0.toInt.toNat p6 p7 ∧ KRs mso.toInt p1 p2 p3 p4 KW2 ∧ KW2 1500 0 = KW 1500 0 ∧ KW2 1501 = KW 1501 ∧ KW2 1502 = KW 1502 ∧ (∀ k, k < n0.toInt.toNat → KW2 (p6 k).toInt.toNat 0 = ((p1 1500) + (Int32.ofNat k).toInt64 * x0) ^^^ (-9223372036854775808)) ∧ (∀ k, k < n0.toInt.toNat → p5 (p6 k).toInt.toNat = y0 + (Int32.ofNat k).toInt64)) := by
          first
          | (exfalso; omega)
          | exact Or.inl ⟨by omega, by omega, rfl, rfl, rfl, rfl, rfl, rfl, rfl, rfl⟩
          | (refine Or.inr (Or.inl ⟨by omega, by omega, fun h5 => ?_, by omega, rfl, rfl, rfl, rfl, rfl, rfl, rfl, rfl⟩)
             first
             | omega
             | (have h6 := il_lt.mp g31
                rw [e29] at h6
                have h7 : x0.toInt < 1 := h6
                omega))
        have hP9 := hP.sub (ws' := [(mo, .inr (4, [.int mso, .ref m1, .ref m2, .ref m3, .ref m4, .ref m5, .ref m6, .int mct, .ref m7, .int mfr, .int mcu, .int mth2_21, .ref m8, .ref m9, .ref ma, .ref mb])), (m1, .inl (cL, 1503, .inr (.inl p1))), (m2, .inl (cL, 1503, .inr (.inl p2))), (m3, .inl (cI, 36072, .inl p3)), (m4, .inl (cI, 1503, .inl p4)), (m5, .inl (cL, 1500, .inr (.inl p5))), (m6, .inl (cI, 1500, .inl p6)), (m7, .inl (cI, 1500, .inl p7)), (m8, .inl (cI, 50, .inl p8)), (m9, .inl (cI, 50, .inl p9)), (ma, .inl (cI, 1500, .inl pa)), (mb, .inl (cI, 50, .inl pb))]) [0, 1, 2, 3, 4, 5, 6, 7, 8, 9, 10, 11] rfl
        have hD9 := hD.sub (ws' := [(mo, .inr (4, [.int mso, .ref m1, .ref m2, .ref m3, .ref m4, .ref m5, .ref m6, .int mct, .ref m7, .int mfr, .int mcu, .int mth2_21, .ref m8, .ref m9, .ref ma, .ref mb])), (m1, .inl (cL, 1503, .inr (.inl p1))), (m2, .inl (cL, 1503, .inr (.inl p2))), (m3, .inl (cI, 36072, .inl p3)), (m4, .inl (cI, 1503, .inl p4)), (m5, .inl (cL, 1500, .inr (.inl p5))), (m6, .inl (cI, 1500, .inl p6)), (m7, .inl (cI, 1500, .inl p7)), (m8, .inl (cI, 50, .inl p8)), (m9, .inl (cI, 50, .inl p9)), (ma, .inl (cI, 1500, .inl pa)), (mb, .inl (cI, 50, .inl pb))]) [0, 1, 2, 3, 4, 5, 6, 7, 8, 9, 10, 11] (by decide) rfl
        rw [hQ]
        exact W.vret hx hb hr (fun t ht hW => ⟨⟨(mth2_21, mct, mfr, p1, p2, p3, p4, p5, p6), rfl, hpost, by rw [ht]; exact hP9, va_K.moved hW.alike hK, hD9⟩, hS.F ht⟩) hS.2.2 d_Mo_load_50
      · have g24 := (iz_eq).mp g24
        exfalso; omega
