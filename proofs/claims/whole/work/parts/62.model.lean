set_option maxRecDepth 100000 in
set_option maxHeartbeats 4000000 in
theorem c_Mo_length (l : Launch) (D : va_G) (cL cI : ClassId) (mo m1 m2 m3 m4 m5 m6 m7 m8 m9 ma mb : Nat) (mso mct mfr mcu mth : Int32) (p1 p2 p5 : Nat → Int64) (p3 p4 p6 p7 p8 p9 pa pb : Nat → Int32) (w : Nat) (KW : Nat → Nat → Int64) (sz : Nat) (hws : (mso.toInt = 0 ∧ w = 1) ∨ (mso.toInt = 1 ∧ w = 2) ∨ (mso.toInt = 2 ∧ w = 7)) (hkr : ∀ x, x < 1503 → KR mso.toInt p1 p2 p3 p4 x (KW x)) : Met l y_Mo_length (Cond.code y_Mo_length prog_6_method_25_code 1 (some .int) :: TW) ({ frames := 2, cells := 0, slots := 0, locals := 62 } : Room) (PM D cL cI [.ref mo] [(mo, .inr (4, [.int mso, .ref m1, .ref m2, .ref m3, .ref m4, .ref m5, .ref m6, .int mct, .ref m7, .int mfr, .int mcu, .int mth, .ref m8, .ref m9, .ref ma, .ref mb])), (m1, .inl (cL, 1503, .inr (.inl p1))), (m2, .inl (cL, 1503, .inr (.inl p2))), (m3, .inl (cI, 36072, .inl p3)), (m4, .inl (cI, 1503, .inl p4)), (m5, .inl (cL, 1500, .inr (.inl p5))), (m6, .inl (cI, 1500, .inl p6)), (m7, .inl (cI, 1500, .inl p7)), (m8, .inl (cI, 50, .inl p8)), (m9, .inl (cI, 50, .inl p9)), (ma, .inl (cI, 1500, .inl pa)), (mb, .inl (cI, 50, .inl pb))] sz) (va_Qi (fun (r : Int32) (u : (Int32)) => (mcu = 0 ∧ u.toInt = 1) ∨ (¬ mcu = 0 ∧ u.toInt = 0 ∧ (mso.toInt < 2 → r.toInt = mso.toInt + 1) ∧ (mso.toInt = 2 → r = p4 1502))) (fun (u : (Int32)) (t : State) => va_P D classes [(mo, .inr (4, [.int mso, .ref m1, .ref m2, .ref m3, .ref m4, .ref m5, .ref m6, .int mct, .ref m7, .int mfr, .int mcu, .int u, .ref m8, .ref m9, .ref ma, .ref mb])), (m1, .inl (cL, 1503, .inr (.inl p1))), (m2, .inl (cL, 1503, .inr (.inl p2))), (m3, .inl (cI, 36072, .inl p3)), (m4, .inl (cI, 1503, .inl p4)), (m5, .inl (cL, 1500, .inr (.inl p5))), (m6, .inl (cI, 1500, .inl p6)), (m7, .inl (cI, 1500, .inl p7)), (m8, .inl (cI, 50, .inl p8)), (m9, .inl (cI, 50, .inl p9)), (ma, .inl (cI, 1500, .inl pa)), (mb, .inl (cI, 50, .inl pb))] t.heap ∧ va_K D classes (tyz cL cI) t ∧ va_D (va_A [(mo, .inr (4, [.int mso, .ref m1, .ref m2, .ref m3, .ref m4, .ref m5, .ref m6, .int mct, .ref m7, .int mfr, .int mcu, .int mth, .ref m8, .ref m9, .ref ma, .ref mb])), (m1, .inl (cL, 1503, .inr (.inl p1))), (m2, .inl (cL, 1503, .inr (.inl p2))), (m3, .inl (cI, 36072, .inl p3)), (m4, .inl (cI, 1503, .inl p4)), (m5, .inl (cL, 1500, .inr (.inl p5))), (m6, .inl (cI, 1500, .inl p6)), (m7, .inl (cI, 1500, .inl p7)), (m8, .inl (cI, 50, .inl p8)), (m9, .inl (cI, 50, .inl p9)), (ma, .inl (cI, 1500, .inl pa)), (mb, .inl (cI, 50, .inl pb))] sz) [(mo, .inr (4, [.int mso, .ref m1, .ref m2, .ref m3, .ref m4, .ref m5, .ref m6, .int mct, .ref m7, .int mfr, .int mcu, .int u, .ref m8, .ref m9, .ref ma, .ref mb])), (m1, .inl (cL, 1503, .inr (.inl p1))), (m2, .inl (cL, 1503, .inr (.inl p2))), (m3, .inl (cI, 36072, .inl p3)), (m4, .inl (cI, 1503, .inl p4)), (m5, .inl (cL, 1500, .inr (.inl p5))), (m6, .inl (cI, 1500, .inl p6)), (m7, .inl (cI, 1500, .inl p7)), (m8, .inl (cI, 50, .inl p8)), (m9, .inl (cI, 50, .inl p9)), (ma, .inl (cI, 1500, .inl pa)), (mb, .inl (cI, 50, .inl pb))]) (va_A [(mo, .inr (4, [.int mso, .ref m1, .ref m2, .ref m3, .ref m4, .ref m5, .ref m6, .int mct, .ref m7, .int mfr, .int mcu, .int mth, .ref m8, .ref m9, .ref ma, .ref mb])), (m1, .inl (cL, 1503, .inr (.inl p1))), (m2, .inl (cL, 1503, .inr (.inl p2))), (m3, .inl (cI, 36072, .inl p3)), (m4, .inl (cI, 1503, .inl p4)), (m5, .inl (cL, 1500, .inr (.inl p5))), (m6, .inl (cI, 1500, .inl p6)), (m7, .inl (cI, 1500, .inl p7)), (m8, .inl (cI, 50, .inl p8)), (m9, .inl (cI, 50, .inl p9)), (ma, .inl (cI, 1500, .inl pa)), (mb, .inl (cI, 50, .inl pb))] sz)) 0 0 (va_A [(mo, .inr (4, [.int mso, .ref m1, .ref m2, .ref m3, .ref m4, .ref m5, .ref m6, .int mct, .ref m7, .int mfr, .int mcu, .int mth, .ref m8, .ref m9, .ref ma, .ref mb])), (m1, .inl (cL, 1503, .inr (.inl p1))), (m2, .inl (cL, 1503, .inr (.inl p2))), (m3, .inl (cI, 36072, .inl p3)), (m4, .inl (cI, 1503, .inl p4)), (m5, .inl (cL, 1500, .inr (.inl p5))), (m6, .inl (cI, 1500, .inl p6)), (m7, .inl (cI, 1500, .inl p7)), (m8, .inl (cI, 50, .inl p8)), (m9, .inl (cI, 50, .inl p9)), (ma, .inl (cI, 1500, .inl pa)), (mb, .inl (cI, 50, .inl pb))] sz) := by
  refine xr_met (by decide) ?_
  intro p e s m args below meth c hx hb hr hts hown hlocks hname hml hv
  obtain ⟨rfl, hsz, hP, hK, hD0⟩ := hv
  subst hsz
  have hD := hD0.self (sz := s.heap.size)
  generalize hAe : va_A [(mo, .inr (4, [.int mso, .ref m1, .ref m2, .ref m3, .ref m4, .ref m5, .ref m6, .int mct, .ref m7, .int mfr, .int mcu, .int mth, .ref m8, .ref m9, .ref ma, .ref mb])), (m1, .inl (cL, 1503, .inr (.inl p1))), (m2, .inl (cL, 1503, .inr (.inl p2))), (m3, .inl (cI, 36072, .inl p3)), (m4, .inl (cI, 1503, .inl p4)), (m5, .inl (cL, 1500, .inr (.inl p5))), (m6, .inl (cI, 1500, .inl p6)), (m7, .inl (cI, 1500, .inl p7)), (m8, .inl (cI, 50, .inl p8)), (m9, .inl (cI, 50, .inl p9)), (ma, .inl (cI, 1500, .inl pa)), (mb, .inl (cI, 50, .inl pb))] s.heap.size = A at hD ⊢
  have hA : ∀ q : Nat, s.heap.size ≤ q → A q := fun q h => by rw [← hAe]; exact Or.inr h
  have hS : va_S A s.heap s.heap [] := va_S.rf
  have hD : va_D A [(mo, .inr (4, [.int mso, .ref m1, .ref m2, .ref m3, .ref m4, .ref m5, .ref m6, .int mct, .ref m7, .int mfr, .int mcu, .int mth, .ref m8, .ref m9, .ref ma, .ref mb])), (m1, .inl (cL, 1503, .inr (.inl p1))), (m2, .inl (cL, 1503, .inr (.inl p2))), (m3, .inl (cI, 36072, .inl p3)), (m4, .inl (cI, 1503, .inl p4)), (m5, .inl (cL, 1500, .inr (.inl p5))), (m6, .inl (cI, 1500, .inl p6)), (m7, .inl (cI, 1500, .inl p7)), (m8, .inl (cI, 50, .inl p8)), (m9, .inl (cI, 50, .inl p9)), (ma, .inl (cI, 1500, .inl pa)), (mb, .inl (cI, 50, .inl pb))] := hD
  have hown : s.vm.findClass "BranchStoreModel" = some m.cls := hown
  have hP : va_P D classes [(mo, .inr (4, [.int mso, .ref m1, .ref m2, .ref m3, .ref m4, .ref m5, .ref m6, .int mct, .ref m7, .int mfr, .int mcu, .int mth, .ref m8, .ref m9, .ref ma, .ref mb])), (m1, .inl (cL, 1503, .inr (.inl p1))), (m2, .inl (cL, 1503, .inr (.inl p2))), (m3, .inl (cI, 36072, .inl p3)), (m4, .inl (cI, 1503, .inl p4)), (m5, .inl (cL, 1500, .inr (.inl p5))), (m6, .inl (cI, 1500, .inl p6)), (m7, .inl (cI, 1500, .inl p7)), (m8, .inl (cI, 50, .inl p8)), (m9, .inl (cI, 50, .inl p9)), (ma, .inl (cI, 1500, .inl pa)), (mb, .inl (cI, 50, .inl pb))] s.heap := hP
  have hl := lv_entry ([.ref mo]) (n := 1) (Nat.le_of_ble_eq_true rfl)
  rw [lg_entry_eq]
  generalize (lg_sl ([.ref mo]) ++ List.replicate (1 - (lg_sl ([.ref mo])).length) Slot.unset).toArray = ls at hl ⊢
  have hl : lv_has ls 1 [(0, .ref mo)] := hl
  obtain ⟨Q, hQ⟩ : ∃ Q, Q = MQ below (va_Qi (fun (r : Int32) (u : (Int32)) => (mcu = 0 ∧ u.toInt = 1) ∨ (¬ mcu = 0 ∧ u.toInt = 0 ∧ (mso.toInt < 2 → r.toInt = mso.toInt + 1) ∧ (mso.toInt = 2 → r = p4 1502))) (fun (u : (Int32)) (t : State) => va_P D classes [(mo, .inr (4, [.int mso, .ref m1, .ref m2, .ref m3, .ref m4, .ref m5, .ref m6, .int mct, .ref m7, .int mfr, .int mcu, .int u, .ref m8, .ref m9, .ref ma, .ref mb])), (m1, .inl (cL, 1503, .inr (.inl p1))), (m2, .inl (cL, 1503, .inr (.inl p2))), (m3, .inl (cI, 36072, .inl p3)), (m4, .inl (cI, 1503, .inl p4)), (m5, .inl (cL, 1500, .inr (.inl p5))), (m6, .inl (cI, 1500, .inl p6)), (m7, .inl (cI, 1500, .inl p7)), (m8, .inl (cI, 50, .inl p8)), (m9, .inl (cI, 50, .inl p9)), (ma, .inl (cI, 1500, .inl pa)), (mb, .inl (cI, 50, .inl pb))] t.heap ∧ va_K D classes (tyz cL cI) t ∧ va_D (A) [(mo, .inr (4, [.int mso, .ref m1, .ref m2, .ref m3, .ref m4, .ref m5, .ref m6, .int mct, .ref m7, .int mfr, .int mcu, .int u, .ref m8, .ref m9, .ref ma, .ref mb])), (m1, .inl (cL, 1503, .inr (.inl p1))), (m2, .inl (cL, 1503, .inr (.inl p2))), (m3, .inl (cI, 36072, .inl p3)), (m4, .inl (cI, 1503, .inl p4)), (m5, .inl (cL, 1500, .inr (.inl p5))), (m6, .inl (cI, 1500, .inl p6)), (m7, .inl (cI, 1500, .inl p7)), (m8, .inl (cI, 50, .inl p8)), (m9, .inl (cI, 50, .inl p9)), (ma, .inl (cI, 1500, .inl pa)), (mb, .inl (cI, 50, .inl pb))]) (A)) ([.ref mo] : List Value).toArray s 0 0 A := ⟨_, rfl⟩
  rw [← hQ]
  refine lv_aload_n hx hb d_Mo_length_0 rfl (lv_at hl 0 rfl) ?_
  refine lv_aload_n hx hb d_Mo_length_1 rfl (lv_at hl 0 rfl) ?_
  refine va_get (D := D) (ci := 4) (v := .int mcu) (C := R_Mo) (T := F_Mo) (N := 16) hx hb hts in_Mo hown hK hP 0 rfl rfl 10 (by decide) (hts _ tw_613) (fun _ h9 => h9) rfl d_Mo_length_2 ?_
  refine lv_if_ne hx hb d_Mo_length_5 (tgt := 12) (by decide) (fun g5 => ?_) (fun g5 => ?_)
  · have g5 := (iz_ne).mp g5
    refine lv_iconst (v := 0) hx hb d_Mo_length_12 (by decide) ?_
    refine lv_topi (fun v12 e12 => ?_)
    have t12 : v12.toInt = 0 := by rw [e12]; rfl
    refine lv_iconst (v := 1) hx hb d_Mo_length_13 (by decide) ?_
    refine lv_topi (fun v13 e13 => ?_)
    have t13 : v13.toInt = 1 := by rw [e13]; rfl
    have hPc := hP.sub (ws' := [(mo, .inr (4, [.int mso, .ref m1, .ref m2, .ref m3, .ref m4, .ref m5, .ref m6, .int mct, .ref m7, .int mfr, .int mcu, .int mth, .ref m8, .ref m9, .ref ma, .ref mb])), (m1, .inl (cL, 1503, .inr (.inl p1))), (m2, .inl (cL, 1503, .inr (.inl p2))), (m3, .inl (cI, 36072, .inl p3)), (m4, .inl (cI, 1503, .inl p4)), (m5, .inl (cL, 1500, .inr (.inl p5))), (m6, .inl (cI, 1500, .inl p6)), (m7, .inl (cI, 1500, .inl p7)), (m8, .inl (cI, 50, .inl p8)), (m9, .inl (cI, 50, .inl p9)), (ma, .inl (cI, 1500, .inl pa)), (mb, .inl (cI, 50, .inl pb))]) [0, 1, 2, 3, 4, 5, 6, 7, 8, 9, 10, 11] rfl
    have hDc := hD.sub (ws' := [(mo, .inr (4, [.int mso, .ref m1, .ref m2, .ref m3, .ref m4, .ref m5, .ref m6, .int mct, .ref m7, .int mfr, .int mcu, .int mth, .ref m8, .ref m9, .ref ma, .ref mb])), (m1, .inl (cL, 1503, .inr (.inl p1))), (m2, .inl (cL, 1503, .inr (.inl p2))), (m3, .inl (cI, 36072, .inl p3)), (m4, .inl (cI, 1503, .inl p4)), (m5, .inl (cL, 1500, .inr (.inl p5))), (m6, .inl (cI, 1500, .inl p6)), (m7, .inl (cI, 1500, .inl p7)), (m8, .inl (cI, 50, .inl p8)), (m9, .inl (cI, 50, .inl p9)), (ma, .inl (cI, 1500, .inl pa)), (mb, .inl (cI, 50, .inl pb))]) [0, 1, 2, 3, 4, 5, 6, 7, 8, 9, 10, 11] (by decide) rfl
    have hFc := va_free (wc := [(mo, .inr (4, [.int mso, .ref m1, .ref m2, .ref m3, .ref m4, .ref m5, .ref m6, .int mct, .ref m7, .int mfr, .int mcu, .int mth, .ref m8, .ref m9, .ref ma, .ref mb])), (m1, .inl (cL, 1503, .inr (.inl p1))), (m2, .inl (cL, 1503, .inr (.inl p2))), (m3, .inl (cI, 36072, .inl p3)), (m4, .inl (cI, 1503, .inl p4)), (m5, .inl (cL, 1500, .inr (.inl p5))), (m6, .inl (cI, 1500, .inl p6)), (m7, .inl (cI, 1500, .inl p7)), (m8, .inl (cI, 50, .inl p8)), (m9, .inl (cI, 50, .inl p9)), (ma, .inl (cI, 1500, .inl pa)), (mb, .inl (cI, 50, .inl pb))]) hD hS hA [0, 1, 2, 3, 4, 5, 6, 7, 8, 9, 10, 11] rfl
    refine va_calli (xr_mv (As := [.int v12, .int v13]) (rest := []) ⟨hx, hb, hml, hown, hts⟩ (c_Mo_fails l D cL cI mo m1 m2 m3 m4 m5 m6 m7 m8 m9 ma mb mso mct mfr mcu mth p1 p2 p5 p3 p4 p6 p7 p8 p9 pa pb v12 v13 s.heap.size (by first | omega | exact hso)) (xr_cv 2 hts tw_663 tw_660 tw_662 tp_10 tw_7 rfl rfl (by decide) ⟨Nat.le_of_ble_eq_true rfl, Nat.le_of_ble_eq_true rfl⟩) hK hPc (hDc.weaken (fun _ _ _ _ => trivial)) (va_recv hK hP rfl (q0 := 0) (ci := 4) rfl) rfl hl.1 rfl (Nat.le_of_ble_eq_true rfl) d_Mo_length_14 ⟨Nat.le_of_ble_eq_true rfl, Nat.le_of_ble_eq_true rfl⟩) hS (fun q _ h => hFc q h) hFc (fun v14 u14 tt14 H1 locs ht14 hvm14 e14 hB14 hz14 hk14 hS => ?_)
    obtain ⟨mth2_14, rfl⟩ : ∃ z, z = u14 := ⟨_, rfl⟩
    have e14 : v14.toInt = v12.toInt ∧ ((v12.toInt = 0 ∧ mth2_14.toInt = 0) ∨ (v12.toInt ≠ 0 ∧ mth2_14.toInt = v13.toInt)) := e14
    obtain ⟨hP1, hK1, hD1⟩ := hB14
    rw [ht14] at hP1
    obtain ⟨hP, hD⟩ := va_join (wr := []) (w1 := [(mo, .inr (4, [.int mso, .ref m1, .ref m2, .ref m3, .ref m4, .ref m5, .ref m6, .int mct, .ref m7, .int mfr, .int mcu, .int mth2_14, .ref m8, .ref m9, .ref ma, .ref mb])), (m1, .inl (cL, 1503, .inr (.inl p1))), (m2, .inl (cL, 1503, .inr (.inl p2))), (m3, .inl (cI, 36072, .inl p3)), (m4, .inl (cI, 1503, .inl p4)), (m5, .inl (cL, 1500, .inr (.inl p5))), (m6, .inl (cI, 1500, .inl p6)), (m7, .inl (cI, 1500, .inl p7)), (m8, .inl (cI, 50, .inl p8)), (m9, .inl (cI, 50, .inl p9)), (ma, .inl (cI, 1500, .inl pa)), (mb, .inl (cI, 50, .inl pb))]) hP hD [0, 1, 2, 3, 4, 5, 6, 7, 8, 9, 10, 11] [] rfl rfl (by decide) (by decide) hk14 hFc hP1 hD1
    clear hP1 hD1 hPc hDc hFc
    generalize H1 = H at hP hS ⊢
    have hP : va_P D classes [(mo, .inr (4, [.int mso, .ref m1, .ref m2, .ref m3, .ref m4, .ref m5, .ref m6, .int mct, .ref m7, .int mfr, .int mcu, .int mth2_14, .ref m8, .ref m9, .ref ma, .ref mb])), (m1, .inl (cL, 1503, .inr (.inl p1))), (m2, .inl (cL, 1503, .inr (.inl p2))), (m3, .inl (cI, 36072, .inl p3)), (m4, .inl (cI, 1503, .inl p4)), (m5, .inl (cL, 1500, .inr (.inl p5))), (m6, .inl (cI, 1500, .inl p6)), (m7, .inl (cI, 1500, .inl p7)), (m8, .inl (cI, 50, .inl p8)), (m9, .inl (cI, 50, .inl p9)), (ma, .inl (cI, 1500, .inl pa)), (mb, .inl (cI, 50, .inl pb))] H := hP
    have hD : va_D A [(mo, .inr (4, [.int mso, .ref m1, .ref m2, .ref m3, .ref m4, .ref m5, .ref m6, .int mct, .ref m7, .int mfr, .int mcu, .int mth2_14, .ref m8, .ref m9, .ref ma, .ref mb])), (m1, .inl (cL, 1503, .inr (.inl p1))), (m2, .inl (cL, 1503, .inr (.inl p2))), (m3, .inl (cI, 36072, .inl p3)), (m4, .inl (cI, 1503, .inl p4)), (m5, .inl (cL, 1500, .inr (.inl p5))), (m6, .inl (cI, 1500, .inl p6)), (m7, .inl (cI, 1500, .inl p7)), (m8, .inl (cI, 50, .inl p8)), (m9, .inl (cI, 50, .inl p9)), (ma, .inl (cI, 1500, .inl pa)), (mb, .inl (cI, 50, .inl pb))] := hD
    refine lv_if_eq hx hb d_Mo_length_17 (tgt := 22) (by decide) (fun g17 => ?_) (fun g17 => ?_)
    · have g17 := (iz_eq).mp g17
      refine lv_aload_n hx hb d_Mo_length_22 rfl (lv_at hl 0 rfl) ?_
      refine va_get (D := D) (ci := 4) (v := .int mso) (C := R_Mo) (T := F_Mo) (N := 16) hx hb hts in_Mo hown hK hP 0 rfl rfl 0 (by decide) (hts _ tw_603) (fun _ h9 => h9) rfl d_Mo_length_23 ?_
      refine lv_iconst (v := 2) hx hb d_Mo_length_26 (by decide) ?_
      refine lv_topi (fun v26 e26 => ?_)
      have t26 : v26.toInt = 2 := by rw [e26]; rfl
      refine lv_icmp_ge hx hb d_Mo_length_27 (tgt := 39) (by decide) (fun g27 => ?_) (fun g27 => ?_)
      · have g27 := ic_le.mp g27
        refine lv_aload_n hx hb d_Mo_length_39 rfl (lv_at hl 0 rfl) ?_
        refine va_get (D := D) (ci := 4) (v := .ref m4) (C := R_Mo) (T := F_Mo) (N := 16) hx hb hts in_Mo hown hK hP 0 rfl rfl 4 (by decide) (hts _ tw_607) (fun _ h9 => h9) rfl d_Mo_length_40 ?_
        refine lv_sipush (v := 1502) hx hb d_Mo_length_43 (by decide) ?_
        refine lv_topi (fun v43 e43 => ?_)
        have t43 : v43.toInt = 1502 := by rw [e43]; rfl
        refine va_iald hx hb hK hP 4 1 rfl rfl (ia_in ⟨by omega, by omega⟩) d_Mo_length_46 ?_
        refine lv_topi (fun v46 e46 => ?_)
        have e46 : v46 = p4 v43.toInt.toNat := e46
        have hpost : (mcu = 0 ∧ mth2_14.toInt = 1) ∨ (¬ mcu = 0 ∧ mth2_14.toInt = 0 ∧ (mso.toInt < 2 → v46.toInt = mso.toInt + 1) ∧ (mso.toInt = 2 → v46 = p4 1502)) := by
          first
          | (exfalso; omega)
          | exact Or.inr ⟨iz_ne.mpr g5, by omega, fun _ => by omega, fun h5 => by omega⟩
          | (rw [show v43.toInt.toNat = 1502 by omega] at e46
             exact Or.inr ⟨iz_ne.mpr g5, by omega, fun h5 => by omega, fun _ => e46⟩)
        have hP9 := hP.sub (ws' := [(mo, .inr (4, [.int mso, .ref m1, .ref m2, .ref m3, .ref m4, .ref m5, .ref m6, .int mct, .ref m7, .int mfr, .int mcu, .int mth2_14, .ref m8, .ref m9, .ref ma, .ref mb])), (m1, .inl (cL, 1503, .inr (.inl p1))), (m2, .inl (cL, 1503, .inr (.inl p2))), (m3, .inl (cI, 36072, .inl p3)), (m4, .inl (cI, 1503, .inl p4)), (m5, .inl (cL, 1500, .inr (.inl p5))), (m6, .inl (cI, 1500, .inl p6)), (m7, .inl (cI, 1500, .inl p7)), (m8, .inl (cI, 50, .inl p8)), (m9, .inl (cI, 50, .inl p9)), (ma, .inl (cI, 1500, .inl pa)), (mb, .inl (cI, 50, .inl pb))]) [0, 1, 2, 3, 4, 5, 6, 7, 8, 9, 10, 11] rfl
        have hD9 := hD.sub (ws' := [(mo, .inr (4, [.int mso, .ref m1, .ref m2, .ref m3, .ref m4, .ref m5, .ref m6, .int mct, .ref m7, .int mfr, .int mcu, .int mth2_14, .ref m8, .ref m9, .ref ma, .ref mb])), (m1, .inl (cL, 1503, .inr (.inl p1))), (m2, .inl (cL, 1503, .inr (.inl p2))), (m3, .inl (cI, 36072, .inl p3)), (m4, .inl (cI, 1503, .inl p4)), (m5, .inl (cL, 1500, .inr (.inl p5))), (m6, .inl (cI, 1500, .inl p6)), (m7, .inl (cI, 1500, .inl p7)), (m8, .inl (cI, 50, .inl p8)), (m9, .inl (cI, 50, .inl p9)), (ma, .inl (cI, 1500, .inl pa)), (mb, .inl (cI, 50, .inl pb))]) [0, 1, 2, 3, 4, 5, 6, 7, 8, 9, 10, 11] (by decide) rfl
        rw [hQ]
        exact W.iret (v := v46) hx hb hr (fun t ht hW => ⟨⟨v46, (mth2_14), rfl, hpost, by rw [ht]; exact hP9, va_K.moved hW.alike hK, hD9⟩, hS.F ht⟩) hS.2.2 d_Mo_length_47
      · have g27 := ic_nle.mp g27
        refine lv_aload_n hx hb d_Mo_length_30 rfl (lv_at hl 0 rfl) ?_
        refine va_get (D := D) (ci := 4) (v := .int mso) (C := R_Mo) (T := F_Mo) (N := 16) hx hb hts in_Mo hown hK hP 0 rfl rfl 0 (by decide) (hts _ tw_603) (fun _ h9 => h9) rfl d_Mo_length_31 ?_
        refine lv_iconst (v := 1) hx hb d_Mo_length_34 (by decide) ?_
        refine lv_topi (fun v34 e34 => ?_)
        have t34 : v34.toInt = 1 := by rw [e34]; rfl
        refine lv_iadd hx hb d_Mo_length_35 ?_
        refine lv_topi (fun v35 e35 => ?_)
        have t35 := ia_add e35 ⟨by omega, by omega⟩
        refine lv_goto hx hb d_Mo_length_36 (tgt := 47) (by decide) ?_
        have hpost : (mcu = 0 ∧ mth2_14.toInt = 1) ∨ (¬ mcu = 0 ∧ mth2_14.toInt = 0 ∧ (mso.toInt < 2 → v35.toInt = mso.toInt + 1) ∧ (mso.toInt = 2 → v35 = p4 1502)) := by
          first
          | (exfalso; omega)
          | exact Or.inr ⟨iz_ne.mpr g5, by omega, fun _ => by omega, fun h5 => by omega⟩
          | (rw [show v43.toInt.toNat = 1502 by omega] at e46
             exact Or.inr ⟨iz_ne.mpr g5, by omega, fun h5 => by omega, fun _ => e46⟩)
        have hP9 := hP.sub (ws' := [(mo, .inr (4, [.int mso, .ref m1, .ref m2, .ref m3, .ref m4, .ref m5, .ref m6, .int mct, .ref m7, .int mfr, .int mcu, .int mth2_14, .ref m8, .ref m9, .ref ma, .ref mb])), (m1, .inl (cL, 1503, .inr (.inl p1))), (m2, .inl (cL, 1503, .inr (.inl p2))), (m3, .inl (cI, 36072, .inl p3)), (m4, .inl (cI, 1503, .inl p4)), (m5, .inl (cL, 1500, .inr (.inl p5))), (m6, .inl (cI, 1500, .inl p6)), (m7, .inl (cI, 1500, .inl p7)), (m8, .inl (cI, 50, .inl p8)), (m9, .inl (cI, 50, .inl p9)), (ma, .inl (cI, 1500, .inl pa)), (mb, .inl (cI, 50, .inl pb))]) [0, 1, 2, 3, 4, 5, 6, 7, 8, 9, 10, 11] rfl
        have hD9 := hD.sub (ws' := [(mo, .inr (4, [.int mso, .ref m1, .ref m2, .ref m3, .ref m4, .ref m5, .ref m6, .int mct, .ref m7, .int mfr, .int mcu, .int mth2_14, .ref m8, .ref m9, .ref ma, .ref mb])), (m1, .inl (cL, 1503, .inr (.inl p1))), (m2, .inl (cL, 1503, .inr (.inl p2))), (m3, .inl (cI, 36072, .inl p3)), (m4, .inl (cI, 1503, .inl p4)), (m5, .inl (cL, 1500, .inr (.inl p5))), (m6, .inl (cI, 1500, .inl p6)), (m7, .inl (cI, 1500, .inl p7)), (m8, .inl (cI, 50, .inl p8)), (m9, .inl (cI, 50, .inl p9)), (ma, .inl (cI, 1500, .inl pa)), (mb, .inl (cI, 50, .inl pb))]) [0, 1, 2, 3, 4, 5, 6, 7, 8, 9, 10, 11] (by decide) rfl
        rw [hQ]
        exact W.iret (v := v35) hx hb hr (fun t ht hW => ⟨⟨v35, (mth2_14), rfl, hpost, by rw [ht]; exact hP9, va_K.moved hW.alike hK, hD9⟩, hS.F ht⟩) hS.2.2 d_Mo_length_47
    · have g17 := (iz_ne).mp g17
      exfalso; omega
  · have g5 := (iz_eq).mp g5
    refine lv_iconst (v := 1) hx hb d_Mo_length_8 (by decide) ?_
    refine lv_topi (fun v8 e8 => ?_)
    have t8 : v8.toInt = 1 := by rw [e8]; rfl
    refine lv_goto hx hb d_Mo_length_9 (tgt := 13) (by decide) ?_
    refine lv_iconst (v := 1) hx hb d_Mo_length_13 (by decide) ?_
    refine lv_topi (fun v13 e13 => ?_)
    have t13 : v13.toInt = 1 := by rw [e13]; rfl
    have hPc := hP.sub (ws' := [(mo, .inr (4, [.int mso, .ref m1, .ref m2, .ref m3, .ref m4, .ref m5, .ref m6, .int mct, .ref m7, .int mfr, .int mcu, .int mth, .ref m8, .ref m9, .ref ma, .ref mb])), (m1, .inl (cL, 1503, .inr (.inl p1))), (m2, .inl (cL, 1503, .inr (.inl p2))), (m3, .inl (cI, 36072, .inl p3)), (m4, .inl (cI, 1503, .inl p4)), (m5, .inl (cL, 1500, .inr (.inl p5))), (m6, .inl (cI, 1500, .inl p6)), (m7, .inl (cI, 1500, .inl p7)), (m8, .inl (cI, 50, .inl p8)), (m9, .inl (cI, 50, .inl p9)), (ma, .inl (cI, 1500, .inl pa)), (mb, .inl (cI, 50, .inl pb))]) [0, 1, 2, 3, 4, 5, 6, 7, 8, 9, 10, 11] rfl
    have hDc := hD.sub (ws' := [(mo, .inr (4, [.int mso, .ref m1, .ref m2, .ref m3, .ref m4, .ref m5, .ref m6, .int mct, .ref m7, .int mfr, .int mcu, .int mth, .ref m8, .ref m9, .ref ma, .ref mb])), (m1, .inl (cL, 1503, .inr (.inl p1))), (m2, .inl (cL, 1503, .inr (.inl p2))), (m3, .inl (cI, 36072, .inl p3)), (m4, .inl (cI, 1503, .inl p4)), (m5, .inl (cL, 1500, .inr (.inl p5))), (m6, .inl (cI, 1500, .inl p6)), (m7, .inl (cI, 1500, .inl p7)), (m8, .inl (cI, 50, .inl p8)), (m9, .inl (cI, 50, .inl p9)), (ma, .inl (cI, 1500, .inl pa)), (mb, .inl (cI, 50, .inl pb))]) [0, 1, 2, 3, 4, 5, 6, 7, 8, 9, 10, 11] (by decide) rfl
    have hFc := va_free (wc := [(mo, .inr (4, [.int mso, .ref m1, .ref m2, .ref m3, .ref m4, .ref m5, .ref m6, .int mct, .ref m7, .int mfr, .int mcu, .int mth, .ref m8, .ref m9, .ref ma, .ref mb])), (m1, .inl (cL, 1503, .inr (.inl p1))), (m2, .inl (cL, 1503, .inr (.inl p2))), (m3, .inl (cI, 36072, .inl p3)), (m4, .inl (cI, 1503, .inl p4)), (m5, .inl (cL, 1500, .inr (.inl p5))), (m6, .inl (cI, 1500, .inl p6)), (m7, .inl (cI, 1500, .inl p7)), (m8, .inl (cI, 50, .inl p8)), (m9, .inl (cI, 50, .inl p9)), (ma, .inl (cI, 1500, .inl pa)), (mb, .inl (cI, 50, .inl pb))]) hD hS hA [0, 1, 2, 3, 4, 5, 6, 7, 8, 9, 10, 11] rfl
    refine va_calli (xr_mv (As := [.int v8, .int v13]) (rest := []) ⟨hx, hb, hml, hown, hts⟩ (c_Mo_fails l D cL cI mo m1 m2 m3 m4 m5 m6 m7 m8 m9 ma mb mso mct mfr mcu mth p1 p2 p5 p3 p4 p6 p7 p8 p9 pa pb v8 v13 s.heap.size (by first | omega | exact hso)) (xr_cv 2 hts tw_663 tw_660 tw_662 tp_10 tw_7 rfl rfl (by decide) ⟨Nat.le_of_ble_eq_true rfl, Nat.le_of_ble_eq_true rfl⟩) hK hPc (hDc.weaken (fun _ _ _ _ => trivial)) (va_recv hK hP rfl (q0 := 0) (ci := 4) rfl) rfl hl.1 rfl (Nat.le_of_ble_eq_true rfl) d_Mo_length_14 ⟨Nat.le_of_ble_eq_true rfl, Nat.le_of_ble_eq_true rfl⟩) hS (fun q _ h => hFc q h) hFc (fun v14 u14 tt14 H1 locs ht14 hvm14 e14 hB14 hz14 hk14 hS => ?_)
    obtain ⟨mth2_14, rfl⟩ : ∃ z, z = u14 := ⟨_, rfl⟩
    have e14 : v14.toInt = v8.toInt ∧ ((v8.toInt = 0 ∧ mth2_14.toInt = 0) ∨ (v8.toInt ≠ 0 ∧ mth2_14.toInt = v13.toInt)) := e14
    obtain ⟨hP1, hK1, hD1⟩ := hB14
    rw [ht14] at hP1
    obtain ⟨hP, hD⟩ := va_join (wr := []) (w1 := [(mo, .inr (4, [.int mso, .ref m1, .ref m2, .ref m3, .ref m4, .ref m5, .ref m6, .int mct, .ref m7, .int mfr, .int mcu, .int mth2_14, .ref m8, .ref m9, .ref ma, .ref mb])), (m1, .inl (cL, 1503, .inr (.inl p1))), (m2, .inl (cL, 1503, .inr (.inl p2))), (m3, .inl (cI, 36072, .inl p3)), (m4, .inl (cI, 1503, .inl p4)), (m5, .inl (cL, 1500, .inr (.inl p5))), (m6, .inl (cI, 1500, .inl p6)), (m7, .inl (cI, 1500, .inl p7)), (m8, .inl (cI, 50, .inl p8)), (m9, .inl (cI, 50, .inl p9)), (ma, .inl (cI, 1500, .inl pa)), (mb, .inl (cI, 50, .inl pb))]) hP hD [0, 1, 2, 3, 4, 5, 6, 7, 8, 9, 10, 11] [] rfl rfl (by decide) (by decide) hk14 hFc hP1 hD1
    clear hP1 hD1 hPc hDc hFc
    generalize H1 = H at hP hS ⊢
    have hP : va_P D classes [(mo, .inr (4, [.int mso, .ref m1, .ref m2, .ref m3, .ref m4, .ref m5, .ref m6, .int mct, .ref m7, .int mfr, .int mcu, .int mth2_14, .ref m8, .ref m9, .ref ma, .ref mb])), (m1, .inl (cL, 1503, .inr (.inl p1))), (m2, .inl (cL, 1503, .inr (.inl p2))), (m3, .inl (cI, 36072, .inl p3)), (m4, .inl (cI, 1503, .inl p4)), (m5, .inl (cL, 1500, .inr (.inl p5))), (m6, .inl (cI, 1500, .inl p6)), (m7, .inl (cI, 1500, .inl p7)), (m8, .inl (cI, 50, .inl p8)), (m9, .inl (cI, 50, .inl p9)), (ma, .inl (cI, 1500, .inl pa)), (mb, .inl (cI, 50, .inl pb))] H := hP
    have hD : va_D A [(mo, .inr (4, [.int mso, .ref m1, .ref m2, .ref m3, .ref m4, .ref m5, .ref m6, .int mct, .ref m7, .int mfr, .int mcu, .int mth2_14, .ref m8, .ref m9, .ref ma, .ref mb])), (m1, .inl (cL, 1503, .inr (.inl p1))), (m2, .inl (cL, 1503, .inr (.inl p2))), (m3, .inl (cI, 36072, .inl p3)), (m4, .inl (cI, 1503, .inl p4)), (m5, .inl (cL, 1500, .inr (.inl p5))), (m6, .inl (cI, 1500, .inl p6)), (m7, .inl (cI, 1500, .inl p7)), (m8, .inl (cI, 50, .inl p8)), (m9, .inl (cI, 50, .inl p9)), (ma, .inl (cI, 1500, .inl pa)), (mb, .inl (cI, 50, .inl pb))] := hD
    refine lv_if_eq hx hb d_Mo_length_17 (tgt := 22) (by decide) (fun g17 => ?_) (fun g17 => ?_)
    · have g17 := (iz_eq).mp g17
      exfalso; omega
    · have g17 := (iz_ne).mp g17
      refine lv_iconst (v := 0) hx hb d_Mo_length_20 (by decide) ?_
      refine lv_topi (fun v20 e20 => ?_)
      have t20 : v20.toInt = 0 := by rw [e20]; rfl
      have hpost : (mcu = 0 ∧ mth2_14.toInt = 1) ∨ (¬ mcu = 0 ∧ mth2_14.toInt = 0 ∧ (mso.toInt < 2 → v20.toInt = mso.toInt + 1) ∧ (mso.toInt = 2 → v20 = p4 1502)) := by
        first
        | (exfalso; omega)
        | exact Or.inl ⟨iz_eq.mpr g5, by omega⟩
      have hP9 := hP.sub (ws' := [(mo, .inr (4, [.int mso, .ref m1, .ref m2, .ref m3, .ref m4, .ref m5, .ref m6, .int mct, .ref m7, .int mfr, .int mcu, .int mth2_14, .ref m8, .ref m9, .ref ma, .ref mb])), (m1, .inl (cL, 1503, .inr (.inl p1))), (m2, .inl (cL, 1503, .inr (.inl p2))), (m3, .inl (cI, 36072, .inl p3)), (m4, .inl (cI, 1503, .inl p4)), (m5, .inl (cL, 1500, .inr (.inl p5))), (m6, .inl (cI, 1500, .inl p6)), (m7, .inl (cI, 1500, .inl p7)), (m8, .inl (cI, 50, .inl p8)), (m9, .inl (cI, 50, .inl p9)), (ma, .inl (cI, 1500, .inl pa)), (mb, .inl (cI, 50, .inl pb))]) [0, 1, 2, 3, 4, 5, 6, 7, 8, 9, 10, 11] rfl
      have hD9 := hD.sub (ws' := [(mo, .inr (4, [.int mso, .ref m1, .ref m2, .ref m3, .ref m4, .ref m5, .ref m6, .int mct, .ref m7, .int mfr, .int mcu, .int mth2_14, .ref m8, .ref m9, .ref ma, .ref mb])), (m1, .inl (cL, 1503, .inr (.inl p1))), (m2, .inl (cL, 1503, .inr (.inl p2))), (m3, .inl (cI, 36072, .inl p3)), (m4, .inl (cI, 1503, .inl p4)), (m5, .inl (cL, 1500, .inr (.inl p5))), (m6, .inl (cI, 1500, .inl p6)), (m7, .inl (cI, 1500, .inl p7)), (m8, .inl (cI, 50, .inl p8)), (m9, .inl (cI, 50, .inl p9)), (ma, .inl (cI, 1500, .inl pa)), (mb, .inl (cI, 50, .inl pb))]) [0, 1, 2, 3, 4, 5, 6, 7, 8, 9, 10, 11] (by decide) rfl
      rw [hQ]
      exact W.iret (v := v20) hx hb hr (fun t ht hW => ⟨⟨v20, (mth2_14), rfl, hpost, by rw [ht]; exact hP9, va_K.moved hW.alike hK, hD9⟩, hS.F ht⟩) hS.2.2 d_Mo_length_21
set_option maxRecDepth 100000 in
set_option maxHeartbeats 4000000 in
theorem c_Mo_part (l : Launch) (D : va_G) (cL cI : ClassId) (mo m1 m2 m3 m4 m5 m6 m7 m8 m9 ma mb : Nat) (mso mct mfr mcu mth : Int32) (p1 p2 p5 : Nat → Int64) (p3 p4 p6 p7 p8 p9 pa pb : Nat → Int32) (w : Nat) (KW : Nat → Nat → Int64) (i0 : Int32) (sz : Nat) (hws : (mso.toInt = 0 ∧ w = 1) ∨ (mso.toInt = 1 ∧ w = 2) ∨ (mso.toInt = 2 ∧ w = 7)) (hkr : ∀ x, x < 1503 → KR mso.toInt p1 p2 p3 p4 x (KW x)) : Met l y_Mo_part (Cond.code y_Mo_part prog_6_method_26_code 3 (some .long) :: TW) ({ frames := 2, cells := 0, slots := 0, locals := 62 } : Room) (PM D cL cI [.ref mo, .int i0] [(mo, .inr (4, [.int mso, .ref m1, .ref m2, .ref m3, .ref m4, .ref m5, .ref m6, .int mct, .ref m7, .int mfr, .int mcu, .int mth, .ref m8, .ref m9, .ref ma, .ref mb])), (m1, .inl (cL, 1503, .inr (.inl p1))), (m2, .inl (cL, 1503, .inr (.inl p2))), (m3, .inl (cI, 36072, .inl p3)), (m4, .inl (cI, 1503, .inl p4)), (m5, .inl (cL, 1500, .inr (.inl p5))), (m6, .inl (cI, 1500, .inl p6)), (m7, .inl (cI, 1500, .inl p7)), (m8, .inl (cI, 50, .inl p8)), (m9, .inl (cI, 50, .inl p9)), (ma, .inl (cI, 1500, .inl pa)), (mb, .inl (cI, 50, .inl pb))] sz) (va_Ql (fun (r : Int64) (u : (Int32)) => (mcu = 0 ∧ u.toInt = 1) ∨ (¬ mcu = 0 ∧ ¬ (0 ≤ i0.toInt ∧ i0.toInt < (if mso.toInt < 2 then mso.toInt + 1 else (p4 1502).toInt)) ∧ u.toInt = 2) ∨ (¬ mcu = 0 ∧ 0 ≤ i0.toInt ∧ i0.toInt < (if mso.toInt < 2 then mso.toInt + 1 else (p4 1502).toInt) ∧ u.toInt = 0 ∧ (mso.toInt = 2 → r.toInt = (p3 (36048 + i0.toInt.toNat)).toInt) ∧ (mso.toInt < 2 → r = if i0.toInt = 0 then p1 1502 else p2 1502))) (fun (u : (Int32)) (t : State) => va_P D classes [(mo, .inr (4, [.int mso, .ref m1, .ref m2, .ref m3, .ref m4, .ref m5, .ref m6, .int mct, .ref m7, .int mfr, .int mcu, .int u, .ref m8, .ref m9, .ref ma, .ref mb])), (m1, .inl (cL, 1503, .inr (.inl p1))), (m2, .inl (cL, 1503, .inr (.inl p2))), (m3, .inl (cI, 36072, .inl p3)), (m4, .inl (cI, 1503, .inl p4)), (m5, .inl (cL, 1500, .inr (.inl p5))), (m6, .inl (cI, 1500, .inl p6)), (m7, .inl (cI, 1500, .inl p7)), (m8, .inl (cI, 50, .inl p8)), (m9, .inl (cI, 50, .inl p9)), (ma, .inl (cI, 1500, .inl pa)), (mb, .inl (cI, 50, .inl pb))] t.heap ∧ va_K D classes (tyz cL cI) t ∧ va_D (va_A [(mo, .inr (4, [.int mso, .ref m1, .ref m2, .ref m3, .ref m4, .ref m5, .ref m6, .int mct, .ref m7, .int mfr, .int mcu, .int mth, .ref m8, .ref m9, .ref ma, .ref mb])), (m1, .inl (cL, 1503, .inr (.inl p1))), (m2, .inl (cL, 1503, .inr (.inl p2))), (m3, .inl (cI, 36072, .inl p3)), (m4, .inl (cI, 1503, .inl p4)), (m5, .inl (cL, 1500, .inr (.inl p5))), (m6, .inl (cI, 1500, .inl p6)), (m7, .inl (cI, 1500, .inl p7)), (m8, .inl (cI, 50, .inl p8)), (m9, .inl (cI, 50, .inl p9)), (ma, .inl (cI, 1500, .inl pa)), (mb, .inl (cI, 50, .inl pb))] sz) [(mo, .inr (4, [.int mso, .ref m1, .ref m2, .ref m3, .ref m4, .ref m5, .ref m6, .int mct, .ref m7, .int mfr, .int mcu, .int u, .ref m8, .ref m9, .ref ma, .ref mb])), (m1, .inl (cL, 1503, .inr (.inl p1))), (m2, .inl (cL, 1503, .inr (.inl p2))), (m3, .inl (cI, 36072, .inl p3)), (m4, .inl (cI, 1503, .inl p4)), (m5, .inl (cL, 1500, .inr (.inl p5))), (m6, .inl (cI, 1500, .inl p6)), (m7, .inl (cI, 1500, .inl p7)), (m8, .inl (cI, 50, .inl p8)), (m9, .inl (cI, 50, .inl p9)), (ma, .inl (cI, 1500, .inl pa)), (mb, .inl (cI, 50, .inl pb))]) (va_A [(mo, .inr (4, [.int mso, .ref m1, .ref m2, .ref m3, .ref m4, .ref m5, .ref m6, .int mct, .ref m7, .int mfr, .int mcu, .int mth, .ref m8, .ref m9, .ref ma, .ref mb])), (m1, .inl (cL, 1503, .inr (.inl p1))), (m2, .inl (cL, 1503, .inr (.inl p2))), (m3, .inl (cI, 36072, .inl p3)), (m4, .inl (cI, 1503, .inl p4)), (m5, .inl (cL, 1500, .inr (.inl p5))), (m6, .inl (cI, 1500, .inl p6)), (m7, .inl (cI, 1500, .inl p7)), (m8, .inl (cI, 50, .inl p8)), (m9, .inl (cI, 50, .inl p9)), (ma, .inl (cI, 1500, .inl pa)), (mb, .inl (cI, 50, .inl pb))] sz)) 0 0 (va_A [(mo, .inr (4, [.int mso, .ref m1, .ref m2, .ref m3, .ref m4, .ref m5, .ref m6, .int mct, .ref m7, .int mfr, .int mcu, .int mth, .ref m8, .ref m9, .ref ma, .ref mb])), (m1, .inl (cL, 1503, .inr (.inl p1))), (m2, .inl (cL, 1503, .inr (.inl p2))), (m3, .inl (cI, 36072, .inl p3)), (m4, .inl (cI, 1503, .inl p4)), (m5, .inl (cL, 1500, .inr (.inl p5))), (m6, .inl (cI, 1500, .inl p6)), (m7, .inl (cI, 1500, .inl p7)), (m8, .inl (cI, 50, .inl p8)), (m9, .inl (cI, 50, .inl p9)), (ma, .inl (cI, 1500, .inl pa)), (mb, .inl (cI, 50, .inl pb))] sz) := by
  refine xr_met (by decide) ?_
  intro p e s m args below meth c hx hb hr hts hown hlocks hname hml hv
  obtain ⟨rfl, hsz, hP, hK, hD0⟩ := hv
  subst hsz
  have hD := hD0.self (sz := s.heap.size)
  generalize hAe : va_A [(mo, .inr (4, [.int mso, .ref m1, .ref m2, .ref m3, .ref m4, .ref m5, .ref m6, .int mct, .ref m7, .int mfr, .int mcu, .int mth, .ref m8, .ref m9, .ref ma, .ref mb])), (m1, .inl (cL, 1503, .inr (.inl p1))), (m2, .inl (cL, 1503, .inr (.inl p2))), (m3, .inl (cI, 36072, .inl p3)), (m4, .inl (cI, 1503, .inl p4)), (m5, .inl (cL, 1500, .inr (.inl p5))), (m6, .inl (cI, 1500, .inl p6)), (m7, .inl (cI, 1500, .inl p7)), (m8, .inl (cI, 50, .inl p8)), (m9, .inl (cI, 50, .inl p9)), (ma, .inl (cI, 1500, .inl pa)), (mb, .inl (cI, 50, .inl pb))] s.heap.size = A at hD ⊢
  have hA : ∀ q : Nat, s.heap.size ≤ q → A q := fun q h => by rw [← hAe]; exact Or.inr h
  have hS : va_S A s.heap s.heap [] := va_S.rf
  have hD : va_D A [(mo, .inr (4, [.int mso, .ref m1, .ref m2, .ref m3, .ref m4, .ref m5, .ref m6, .int mct, .ref m7, .int mfr, .int mcu, .int mth, .ref m8, .ref m9, .ref ma, .ref mb])), (m1, .inl (cL, 1503, .inr (.inl p1))), (m2, .inl (cL, 1503, .inr (.inl p2))), (m3, .inl (cI, 36072, .inl p3)), (m4, .inl (cI, 1503, .inl p4)), (m5, .inl (cL, 1500, .inr (.inl p5))), (m6, .inl (cI, 1500, .inl p6)), (m7, .inl (cI, 1500, .inl p7)), (m8, .inl (cI, 50, .inl p8)), (m9, .inl (cI, 50, .inl p9)), (ma, .inl (cI, 1500, .inl pa)), (mb, .inl (cI, 50, .inl pb))] := hD
  have hown : s.vm.findClass "BranchStoreModel" = some m.cls := hown
  have hP : va_P D classes [(mo, .inr (4, [.int mso, .ref m1, .ref m2, .ref m3, .ref m4, .ref m5, .ref m6, .int mct, .ref m7, .int mfr, .int mcu, .int mth, .ref m8, .ref m9, .ref ma, .ref mb])), (m1, .inl (cL, 1503, .inr (.inl p1))), (m2, .inl (cL, 1503, .inr (.inl p2))), (m3, .inl (cI, 36072, .inl p3)), (m4, .inl (cI, 1503, .inl p4)), (m5, .inl (cL, 1500, .inr (.inl p5))), (m6, .inl (cI, 1500, .inl p6)), (m7, .inl (cI, 1500, .inl p7)), (m8, .inl (cI, 50, .inl p8)), (m9, .inl (cI, 50, .inl p9)), (ma, .inl (cI, 1500, .inl pa)), (mb, .inl (cI, 50, .inl pb))] s.heap := hP
  have hl := lv_entry ([.ref mo, .int i0]) (n := 3) (Nat.le_of_ble_eq_true rfl)
  rw [lg_entry_eq]
  generalize (lg_sl ([.ref mo, .int i0]) ++ List.replicate (3 - (lg_sl ([.ref mo, .int i0])).length) Slot.unset).toArray = ls at hl ⊢
  have hl : lv_has ls 3 [(0, .ref mo), (1, .int i0)] := hl
  obtain ⟨Q, hQ⟩ : ∃ Q, Q = MQ below (va_Ql (fun (r : Int64) (u : (Int32)) => (mcu = 0 ∧ u.toInt = 1) ∨ (¬ mcu = 0 ∧ ¬ (0 ≤ i0.toInt ∧ i0.toInt < (if mso.toInt < 2 then mso.toInt + 1 else (p4 1502).toInt)) ∧ u.toInt = 2) ∨ (¬ mcu = 0 ∧ 0 ≤ i0.toInt ∧ i0.toInt < (if mso.toInt < 2 then mso.toInt + 1 else (p4 1502).toInt) ∧ u.toInt = 0 ∧ (mso.toInt = 2 → r.toInt = (p3 (36048 + i0.toInt.toNat)).toInt) ∧ (mso.toInt < 2 → r = if i0.toInt = 0 then p1 1502 else p2 1502))) (fun (u : (Int32)) (t : State) => va_P D classes [(mo, .inr (4, [.int mso, .ref m1, .ref m2, .ref m3, .ref m4, .ref m5, .ref m6, .int mct, .ref m7, .int mfr, .int mcu, .int u, .ref m8, .ref m9, .ref ma, .ref mb])), (m1, .inl (cL, 1503, .inr (.inl p1))), (m2, .inl (cL, 1503, .inr (.inl p2))), (m3, .inl (cI, 36072, .inl p3)), (m4, .inl (cI, 1503, .inl p4)), (m5, .inl (cL, 1500, .inr (.inl p5))), (m6, .inl (cI, 1500, .inl p6)), (m7, .inl (cI, 1500, .inl p7)), (m8, .inl (cI, 50, .inl p8)), (m9, .inl (cI, 50, .inl p9)), (ma, .inl (cI, 1500, .inl pa)), (mb, .inl (cI, 50, .inl pb))] t.heap ∧ va_K D classes (tyz cL cI) t ∧ va_D (A) [(mo, .inr (4, [.int mso, .ref m1, .ref m2, .ref m3, .ref m4, .ref m5, .ref m6, .int mct, .ref m7, .int mfr, .int mcu, .int u, .ref m8, .ref m9, .ref ma, .ref mb])), (m1, .inl (cL, 1503, .inr (.inl p1))), (m2, .inl (cL, 1503, .inr (.inl p2))), (m3, .inl (cI, 36072, .inl p3)), (m4, .inl (cI, 1503, .inl p4)), (m5, .inl (cL, 1500, .inr (.inl p5))), (m6, .inl (cI, 1500, .inl p6)), (m7, .inl (cI, 1500, .inl p7)), (m8, .inl (cI, 50, .inl p8)), (m9, .inl (cI, 50, .inl p9)), (ma, .inl (cI, 1500, .inl pa)), (mb, .inl (cI, 50, .inl pb))]) (A)) ([.ref mo, .int i0] : List Value).toArray s 0 0 A := ⟨_, rfl⟩
  rw [← hQ]
  have hrg_i0 := ia_rng i0
  refine lv_aload_n hx hb d_Mo_part_0 rfl (lv_at hl 0 rfl) ?_
  refine lv_aload_n hx hb d_Mo_part_1 rfl (lv_at hl 0 rfl) ?_
  refine va_get (D := D) (ci := 4) (v := .int mcu) (C := R_Mo) (T := F_Mo) (N := 16) hx hb hts in_Mo hown hK hP 0 rfl rfl 10 (by decide) (hts _ tw_613) (fun _ h9 => h9) rfl d_Mo_part_2 ?_
  refine lv_if_ne hx hb d_Mo_part_5 (tgt := 12) (by decide) (fun g5 => ?_) (fun g5 => ?_)
  · have g5 := (iz_ne).mp g5
    refine lv_iconst (v := 0) hx hb d_Mo_part_12 (by decide) ?_
    refine lv_topi (fun v12 e12 => ?_)
    have t12 : v12.toInt = 0 := by rw [e12]; rfl
    refine lv_iconst (v := 1) hx hb d_Mo_part_13 (by decide) ?_
    refine lv_topi (fun v13 e13 => ?_)
    have t13 : v13.toInt = 1 := by rw [e13]; rfl
    have hPc := hP.sub (ws' := [(mo, .inr (4, [.int mso, .ref m1, .ref m2, .ref m3, .ref m4, .ref m5, .ref m6, .int mct, .ref m7, .int mfr, .int mcu, .int mth, .ref m8, .ref m9, .ref ma, .ref mb])), (m1, .inl (cL, 1503, .inr (.inl p1))), (m2, .inl (cL, 1503, .inr (.inl p2))), (m3, .inl (cI, 36072, .inl p3)), (m4, .inl (cI, 1503, .inl p4)), (m5, .inl (cL, 1500, .inr (.inl p5))), (m6, .inl (cI, 1500, .inl p6)), (m7, .inl (cI, 1500, .inl p7)), (m8, .inl (cI, 50, .inl p8)), (m9, .inl (cI, 50, .inl p9)), (ma, .inl (cI, 1500, .inl pa)), (mb, .inl (cI, 50, .inl pb))]) [0, 1, 2, 3, 4, 5, 6, 7, 8, 9, 10, 11] rfl
    have hDc := hD.sub (ws' := [(mo, .inr (4, [.int mso, .ref m1, .ref m2, .ref m3, .ref m4, .ref m5, .ref m6, .int mct, .ref m7, .int mfr, .int mcu, .int mth, .ref m8, .ref m9, .ref ma, .ref mb])), (m1, .inl (cL, 1503, .inr (.inl p1))), (m2, .inl (cL, 1503, .inr (.inl p2))), (m3, .inl (cI, 36072, .inl p3)), (m4, .inl (cI, 1503, .inl p4)), (m5, .inl (cL, 1500, .inr (.inl p5))), (m6, .inl (cI, 1500, .inl p6)), (m7, .inl (cI, 1500, .inl p7)), (m8, .inl (cI, 50, .inl p8)), (m9, .inl (cI, 50, .inl p9)), (ma, .inl (cI, 1500, .inl pa)), (mb, .inl (cI, 50, .inl pb))]) [0, 1, 2, 3, 4, 5, 6, 7, 8, 9, 10, 11] (by decide) rfl
    have hFc := va_free (wc := [(mo, .inr (4, [.int mso, .ref m1, .ref m2, .ref m3, .ref m4, .ref m5, .ref m6, .int mct, .ref m7, .int mfr, .int mcu, .int mth, .ref m8, .ref m9, .ref ma, .ref mb])), (m1, .inl (cL, 1503, .inr (.inl p1))), (m2, .inl (cL, 1503, .inr (.inl p2))), (m3, .inl (cI, 36072, .inl p3)), (m4, .inl (cI, 1503, .inl p4)), (m5, .inl (cL, 1500, .inr (.inl p5))), (m6, .inl (cI, 1500, .inl p6)), (m7, .inl (cI, 1500, .inl p7)), (m8, .inl (cI, 50, .inl p8)), (m9, .inl (cI, 50, .inl p9)), (ma, .inl (cI, 1500, .inl pa)), (mb, .inl (cI, 50, .inl pb))]) hD hS hA [0, 1, 2, 3, 4, 5, 6, 7, 8, 9, 10, 11] rfl
    refine va_calli (xr_mv (As := [.int v12, .int v13]) (rest := []) ⟨hx, hb, hml, hown, hts⟩ (c_Mo_fails l D cL cI mo m1 m2 m3 m4 m5 m6 m7 m8 m9 ma mb mso mct mfr mcu mth p1 p2 p5 p3 p4 p6 p7 p8 p9 pa pb v12 v13 s.heap.size (by first | omega | exact hso)) (xr_cv 2 hts tw_663 tw_660 tw_662 tp_10 tw_7 rfl rfl (by decide) ⟨Nat.le_of_ble_eq_true rfl, Nat.le_of_ble_eq_true rfl⟩) hK hPc (hDc.weaken (fun _ _ _ _ => trivial)) (va_recv hK hP rfl (q0 := 0) (ci := 4) rfl) rfl hl.1 rfl (Nat.le_of_ble_eq_true rfl) d_Mo_part_14 ⟨Nat.le_of_ble_eq_true rfl, Nat.le_of_ble_eq_true rfl⟩) hS (fun q _ h => hFc q h) hFc (fun v14 u14 tt14 H1 locs ht14 hvm14 e14 hB14 hz14 hk14 hS => ?_)
    obtain ⟨mth2_14, rfl⟩ : ∃ z, z = u14 := ⟨_, rfl⟩
    have e14 : v14.toInt = v12.toInt ∧ ((v12.toInt = 0 ∧ mth2_14.toInt = 0) ∨ (v12.toInt ≠ 0 ∧ mth2_14.toInt = v13.toInt)) := e14
    obtain ⟨hP1, hK1, hD1⟩ := hB14
    rw [ht14] at hP1
    obtain ⟨hP, hD⟩ := va_join (wr := []) (w1 := [(mo, .inr (4, [.int mso, .ref m1, .ref m2, .ref m3, .ref m4, .ref m5, .ref m6, .int mct, .ref m7, .int mfr, .int mcu, .int mth2_14, .ref m8, .ref m9, .ref ma, .ref mb])), (m1, .inl (cL, 1503, .inr (.inl p1))), (m2, .inl (cL, 1503, .inr (.inl p2))), (m3, .inl (cI, 36072, .inl p3)), (m4, .inl (cI, 1503, .inl p4)), (m5, .inl (cL, 1500, .inr (.inl p5))), (m6, .inl (cI, 1500, .inl p6)), (m7, .inl (cI, 1500, .inl p7)), (m8, .inl (cI, 50, .inl p8)), (m9, .inl (cI, 50, .inl p9)), (ma, .inl (cI, 1500, .inl pa)), (mb, .inl (cI, 50, .inl pb))]) hP hD [0, 1, 2, 3, 4, 5, 6, 7, 8, 9, 10, 11] [] rfl rfl (by decide) (by decide) hk14 hFc hP1 hD1
    clear hP1 hD1 hPc hDc hFc
    generalize H1 = H at hP hS ⊢
    have hP : va_P D classes [(mo, .inr (4, [.int mso, .ref m1, .ref m2, .ref m3, .ref m4, .ref m5, .ref m6, .int mct, .ref m7, .int mfr, .int mcu, .int mth2_14, .ref m8, .ref m9, .ref ma, .ref mb])), (m1, .inl (cL, 1503, .inr (.inl p1))), (m2, .inl (cL, 1503, .inr (.inl p2))), (m3, .inl (cI, 36072, .inl p3)), (m4, .inl (cI, 1503, .inl p4)), (m5, .inl (cL, 1500, .inr (.inl p5))), (m6, .inl (cI, 1500, .inl p6)), (m7, .inl (cI, 1500, .inl p7)), (m8, .inl (cI, 50, .inl p8)), (m9, .inl (cI, 50, .inl p9)), (ma, .inl (cI, 1500, .inl pa)), (mb, .inl (cI, 50, .inl pb))] H := hP
    have hD : va_D A [(mo, .inr (4, [.int mso, .ref m1, .ref m2, .ref m3, .ref m4, .ref m5, .ref m6, .int mct, .ref m7, .int mfr, .int mcu, .int mth2_14, .ref m8, .ref m9, .ref ma, .ref mb])), (m1, .inl (cL, 1503, .inr (.inl p1))), (m2, .inl (cL, 1503, .inr (.inl p2))), (m3, .inl (cI, 36072, .inl p3)), (m4, .inl (cI, 1503, .inl p4)), (m5, .inl (cL, 1500, .inr (.inl p5))), (m6, .inl (cI, 1500, .inl p6)), (m7, .inl (cI, 1500, .inl p7)), (m8, .inl (cI, 50, .inl p8)), (m9, .inl (cI, 50, .inl p9)), (ma, .inl (cI, 1500, .inl pa)), (mb, .inl (cI, 50, .inl pb))] := hD
    refine lv_if_eq hx hb d_Mo_part_17 (tgt := 22) (by decide) (fun g17 => ?_) (fun g17 => ?_)
    · have g17 := (iz_eq).mp g17
      refine lv_aload_n hx hb d_Mo_part_22 rfl (lv_at hl 0 rfl) ?_
      refine va_get (D := D) (ci := 4) (v := .int mso) (C := R_Mo) (T := F_Mo) (N := 16) hx hb hts in_Mo hown hK hP 0 rfl rfl 0 (by decide) (hts _ tw_603) (fun _ h9 => h9) rfl d_Mo_part_23 ?_
      refine lv_iconst (v := 2) hx hb d_Mo_part_26 (by decide) ?_
      refine lv_topi (fun v26 e26 => ?_)
      have t26 : v26.toInt = 2 := by rw [e26]; rfl
      refine lv_icmp_ge hx hb d_Mo_part_27 (tgt := 39) (by decide) (fun g27 => ?_) (fun g27 => ?_)
      · have g27 := ic_le.mp g27
        refine lv_aload_n hx hb d_Mo_part_39 rfl (lv_at hl 0 rfl) ?_
        refine va_get (D := D) (ci := 4) (v := .ref m4) (C := R_Mo) (T := F_Mo) (N := 16) hx hb hts in_Mo hown hK hP 0 rfl rfl 4 (by decide) (hts _ tw_607) (fun _ h9 => h9) rfl d_Mo_part_40 ?_
        refine lv_sipush (v := 1502) hx hb d_Mo_part_43 (by decide) ?_
        refine lv_topi (fun v43 e43 => ?_)
        have t43 : v43.toInt = 1502 := by rw [e43]; rfl
        refine va_iald hx hb hK hP 4 1 rfl rfl (ia_in ⟨by omega, by omega⟩) d_Mo_part_46 ?_
        refine lv_topi (fun v46 e46 => ?_)
        have e46 : v46 = p4 v43.toInt.toNat := e46
        have hpn : v46.toInt = (if mso.toInt < 2 then mso.toInt + 1 else (p4 1502).toInt) := by
              first
              | (rw [show v43.toInt.toNat = 1502 by omega] at e46; rw [if_neg (by omega), e46])
              | (rw [if_pos (by omega)]; omega)
        have hpm : mso.toInt = 2 → v46.toInt ≤ 24 := fun h5 => by
              rcases hkr 1502 (by omega) with h | h | h
              · omega
              · omega
              · rw [hpn, if_neg (by omega)]; exact h.2.2.2.1
        refine lv_istore_n (lv' := [(2, .int v46), (0, .ref mo), (1, .int i0)]) hx hb d_Mo_part_47 rfl hl (by decide) rfl (fun ls hl => ?_)
        refine lv_aload_n hx hb d_Mo_part_48 rfl (lv_at hl 1 rfl) ?_
        refine lv_iload_n hx hb d_Mo_part_49 rfl (lv_at hl 2 rfl) ?_
        refine lv_if_lt hx hb d_Mo_part_50 (tgt := 58) (by decide) (fun g50 => ?_) (fun g50 => ?_)
        · have g50 := (iz_lt).mp g50
          refine lv_iconst (v := 1) hx hb d_Mo_part_58 (by decide) ?_
          refine lv_topi (fun v58 e58 => ?_)
          have t58 : v58.toInt = 1 := by rw [e58]; rfl
          refine lv_goto hx hb d_Mo_part_59 (tgt := 63) (by decide) ?_
          refine lv_iconst (v := 2) hx hb d_Mo_part_63 (by decide) ?_
          refine lv_topi (fun v63 e63 => ?_)
          have t63 : v63.toInt = 2 := by rw [e63]; rfl
          have hPc := hP.sub (ws' := [(mo, .inr (4, [.int mso, .ref m1, .ref m2, .ref m3, .ref m4, .ref m5, .ref m6, .int mct, .ref m7, .int mfr, .int mcu, .int mth2_14, .ref m8, .ref m9, .ref ma, .ref mb])), (m1, .inl (cL, 1503, .inr (.inl p1))), (m2, .inl (cL, 1503, .inr (.inl p2))), (m3, .inl (cI, 36072, .inl p3)), (m4, .inl (cI, 1503, .inl p4)), (m5, .inl (cL, 1500, .inr (.inl p5))), (m6, .inl (cI, 1500, .inl p6)), (m7, .inl (cI, 1500, .inl p7)), (m8, .inl (cI, 50, .inl p8)), (m9, .inl (cI, 50, .inl p9)), (ma, .inl (cI, 1500, .inl pa)), (mb, .inl (cI, 50, .inl pb))]) [0, 1, 2, 3, 4, 5, 6, 7, 8, 9, 10, 11] rfl
          have hDc := hD.sub (ws' := [(mo, .inr (4, [.int mso, .ref m1, .ref m2, .ref m3, .ref m4, .ref m5, .ref m6, .int mct, .ref m7, .int mfr, .int mcu, .int mth2_14, .ref m8, .ref m9, .ref ma, .ref mb])), (m1, .inl (cL, 1503, .inr (.inl p1))), (m2, .inl (cL, 1503, .inr (.inl p2))), (m3, .inl (cI, 36072, .inl p3)), (m4, .inl (cI, 1503, .inl p4)), (m5, .inl (cL, 1500, .inr (.inl p5))), (m6, .inl (cI, 1500, .inl p6)), (m7, .inl (cI, 1500, .inl p7)), (m8, .inl (cI, 50, .inl p8)), (m9, .inl (cI, 50, .inl p9)), (ma, .inl (cI, 1500, .inl pa)), (mb, .inl (cI, 50, .inl pb))]) [0, 1, 2, 3, 4, 5, 6, 7, 8, 9, 10, 11] (by decide) rfl
          have hFc := va_free (wc := [(mo, .inr (4, [.int mso, .ref m1, .ref m2, .ref m3, .ref m4, .ref m5, .ref m6, .int mct, .ref m7, .int mfr, .int mcu, .int mth2_14, .ref m8, .ref m9, .ref ma, .ref mb])), (m1, .inl (cL, 1503, .inr (.inl p1))), (m2, .inl (cL, 1503, .inr (.inl p2))), (m3, .inl (cI, 36072, .inl p3)), (m4, .inl (cI, 1503, .inl p4)), (m5, .inl (cL, 1500, .inr (.inl p5))), (m6, .inl (cI, 1500, .inl p6)), (m7, .inl (cI, 1500, .inl p7)), (m8, .inl (cI, 50, .inl p8)), (m9, .inl (cI, 50, .inl p9)), (ma, .inl (cI, 1500, .inl pa)), (mb, .inl (cI, 50, .inl pb))]) hD hS hA [0, 1, 2, 3, 4, 5, 6, 7, 8, 9, 10, 11] rfl
          refine va_calli (xr_mv (As := [.int v58, .int v63]) (rest := []) ⟨hx, hb, hml, hown, hts⟩ (c_Mo_fails l D cL cI mo m1 m2 m3 m4 m5 m6 m7 m8 m9 ma mb mso mct mfr mcu mth2_14 p1 p2 p5 p3 p4 p6 p7 p8 p9 pa pb v58 v63 H.size (by first | omega | exact hso)) (xr_cv 2 hts tw_663 tw_660 tw_662 tp_10 tw_7 rfl rfl (by decide) ⟨Nat.le_of_ble_eq_true rfl, Nat.le_of_ble_eq_true rfl⟩) hK hPc (hDc.weaken (fun _ _ _ _ => trivial)) (va_recv hK hP rfl (q0 := 0) (ci := 4) rfl) rfl hl.1 rfl (Nat.le_of_ble_eq_true rfl) d_Mo_part_64 ⟨Nat.le_of_ble_eq_true rfl, Nat.le_of_ble_eq_true rfl⟩) hS (fun q _ h => hFc q h) hFc (fun v64 u64 tt64 H1 locs ht64 hvm64 e64 hB64 hz64 hk64 hS => ?_)
          obtain ⟨mth2_64, rfl⟩ : ∃ z, z = u64 := ⟨_, rfl⟩
          have e64 : v64.toInt = v58.toInt ∧ ((v58.toInt = 0 ∧ mth2_64.toInt = 0) ∨ (v58.toInt ≠ 0 ∧ mth2_64.toInt = v63.toInt)) := e64
          obtain ⟨hP1, hK1, hD1⟩ := hB64
          rw [ht64] at hP1
          obtain ⟨hP, hD⟩ := va_join (wr := []) (w1 := [(mo, .inr (4, [.int mso, .ref m1, .ref m2, .ref m3, .ref m4, .ref m5, .ref m6, .int mct, .ref m7, .int mfr, .int mcu, .int mth2_64, .ref m8, .ref m9, .ref ma, .ref mb])), (m1, .inl (cL, 1503, .inr (.inl p1))), (m2, .inl (cL, 1503, .inr (.inl p2))), (m3, .inl (cI, 36072, .inl p3)), (m4, .inl (cI, 1503, .inl p4)), (m5, .inl (cL, 1500, .inr (.inl p5))), (m6, .inl (cI, 1500, .inl p6)), (m7, .inl (cI, 1500, .inl p7)), (m8, .inl (cI, 50, .inl p8)), (m9, .inl (cI, 50, .inl p9)), (ma, .inl (cI, 1500, .inl pa)), (mb, .inl (cI, 50, .inl pb))]) hP hD [0, 1, 2, 3, 4, 5, 6, 7, 8, 9, 10, 11] [] rfl rfl (by decide) (by decide) hk64 hFc hP1 hD1
          clear hP1 hD1 hPc hDc hFc
          generalize H1 = H at hP hS ⊢
          have hP : va_P D classes [(mo, .inr (4, [.int mso, .ref m1, .ref m2, .ref m3, .ref m4, .ref m5, .ref m6, .int mct, .ref m7, .int mfr, .int mcu, .int mth2_64, .ref m8, .ref m9, .ref ma, .ref mb])), (m1, .inl (cL, 1503, .inr (.inl p1))), (m2, .inl (cL, 1503, .inr (.inl p2))), (m3, .inl (cI, 36072, .inl p3)), (m4, .inl (cI, 1503, .inl p4)), (m5, .inl (cL, 1500, .inr (.inl p5))), (m6, .inl (cI, 1500, .inl p6)), (m7, .inl (cI, 1500, .inl p7)), (m8, .inl (cI, 50, .inl p8)), (m9, .inl (cI, 50, .inl p9)), (ma, .inl (cI, 1500, .inl pa)), (mb, .inl (cI, 50, .inl pb))] H := hP
          have hD : va_D A [(mo, .inr (4, [.int mso, .ref m1, .ref m2, .ref m3, .ref m4, .ref m5, .ref m6, .int mct, .ref m7, .int mfr, .int mcu, .int mth2_64, .ref m8, .ref m9, .ref ma, .ref mb])), (m1, .inl (cL, 1503, .inr (.inl p1))), (m2, .inl (cL, 1503, .inr (.inl p2))), (m3, .inl (cI, 36072, .inl p3)), (m4, .inl (cI, 1503, .inl p4)), (m5, .inl (cL, 1500, .inr (.inl p5))), (m6, .inl (cI, 1500, .inl p6)), (m7, .inl (cI, 1500, .inl p7)), (m8, .inl (cI, 50, .inl p8)), (m9, .inl (cI, 50, .inl p9)), (ma, .inl (cI, 1500, .inl pa)), (mb, .inl (cI, 50, .inl pb))] := hD
          refine lv_if_eq hx hb d_Mo_part_67 (tgt := 72) (by decide) (fun g67 => ?_) (fun g67 => ?_)
          · have g67 := (iz_eq).mp g67
            exfalso; omega
          · have g67 := (iz_ne).mp g67
            refine lv_lconst (v := 0) hx hb d_Mo_part_70 (by decide) ?_
            refine lv_topl (fun v70 e70 => ?_)
            have hpost : (mcu = 0 ∧ mth2_64.toInt = 1) ∨ (¬ mcu = 0 ∧ ¬ (0 ≤ i0.toInt ∧ i0.toInt < (if mso.toInt < 2 then mso.toInt + 1 else (p4 1502).toInt)) ∧ mth2_64.toInt = 2) ∨ (¬ mcu = 0 ∧ 0 ≤ i0.toInt ∧ i0.toInt < (if mso.toInt < 2 then mso.toInt + 1 else (p4 1502).toInt) ∧ mth2_64.toInt = 0 ∧ (mso.toInt = 2 → v70.toInt = (p3 (36048 + i0.toInt.toNat)).toInt) ∧ (mso.toInt < 2 → v70 = if i0.toInt = 0 then p1 1502 else p2 1502)) := by
              first
              | (exfalso; omega)
              | exact Or.inr (Or.inl ⟨iz_ne.mpr g5, by rw [← hpn]; omega, by omega⟩)
            have hP9 := hP.sub (ws' := [(mo, .inr (4, [.int mso, .ref m1, .ref m2, .ref m3, .ref m4, .ref m5, .ref m6, .int mct, .ref m7, .int mfr, .int mcu, .int mth2_64, .ref m8, .ref m9, .ref ma, .ref mb])), (m1, .inl (cL, 1503, .inr (.inl p1))), (m2, .inl (cL, 1503, .inr (.inl p2))), (m3, .inl (cI, 36072, .inl p3)), (m4, .inl (cI, 1503, .inl p4)), (m5, .inl (cL, 1500, .inr (.inl p5))), (m6, .inl (cI, 1500, .inl p6)), (m7, .inl (cI, 1500, .inl p7)), (m8, .inl (cI, 50, .inl p8)), (m9, .inl (cI, 50, .inl p9)), (ma, .inl (cI, 1500, .inl pa)), (mb, .inl (cI, 50, .inl pb))]) [0, 1, 2, 3, 4, 5, 6, 7, 8, 9, 10, 11] rfl
            have hD9 := hD.sub (ws' := [(mo, .inr (4, [.int mso, .ref m1, .ref m2, .ref m3, .ref m4, .ref m5, .ref m6, .int mct, .ref m7, .int mfr, .int mcu, .int mth2_64, .ref m8, .ref m9, .ref ma, .ref mb])), (m1, .inl (cL, 1503, .inr (.inl p1))), (m2, .inl (cL, 1503, .inr (.inl p2))), (m3, .inl (cI, 36072, .inl p3)), (m4, .inl (cI, 1503, .inl p4)), (m5, .inl (cL, 1500, .inr (.inl p5))), (m6, .inl (cI, 1500, .inl p6)), (m7, .inl (cI, 1500, .inl p7)), (m8, .inl (cI, 50, .inl p8)), (m9, .inl (cI, 50, .inl p9)), (ma, .inl (cI, 1500, .inl pa)), (mb, .inl (cI, 50, .inl pb))]) [0, 1, 2, 3, 4, 5, 6, 7, 8, 9, 10, 11] (by decide) rfl
            rw [hQ]
            exact W.lret (v := v70) hx hb hr (fun t ht hW => ⟨⟨v70, (mth2_64), rfl, hpost, by rw [ht]; exact hP9, va_K.moved hW.alike hK, hD9⟩, hS.F ht⟩) hS.2.2 d_Mo_part_71
        · have g50 := (iz_nlt).mp g50
          refine lv_iload_n hx hb d_Mo_part_53 rfl (lv_at hl 2 rfl) ?_
          refine lv_iload_n hx hb d_Mo_part_54 rfl (lv_at hl 0 rfl) ?_
          refine lv_icmp_lt hx hb d_Mo_part_55 (tgt := 62) (by decide) (fun g55 => ?_) (fun g55 => ?_)
          · have g55 := ic_lt.mp g55
            refine lv_iconst (v := 0) hx hb d_Mo_part_62 (by decide) ?_
            refine lv_topi (fun v62 e62 => ?_)
            have t62 : v62.toInt = 0 := by rw [e62]; rfl
            refine lv_iconst (v := 2) hx hb d_Mo_part_63 (by decide) ?_
            refine lv_topi (fun v63 e63 => ?_)
            have t63 : v63.toInt = 2 := by rw [e63]; rfl
            have hPc := hP.sub (ws' := [(mo, .inr (4, [.int mso, .ref m1, .ref m2, .ref m3, .ref m4, .ref m5, .ref m6, .int mct, .ref m7, .int mfr, .int mcu, .int mth2_14, .ref m8, .ref m9, .ref ma, .ref mb])), (m1, .inl (cL, 1503, .inr (.inl p1))), (m2, .inl (cL, 1503, .inr (.inl p2))), (m3, .inl (cI, 36072, .inl p3)), (m4, .inl (cI, 1503, .inl p4)), (m5, .inl (cL, 1500, .inr (.inl p5))), (m6, .inl (cI, 1500, .inl p6)), (m7, .inl (cI, 1500, .inl p7)), (m8, .inl (cI, 50, .inl p8)), (m9, .inl (cI, 50, .inl p9)), (ma, .inl (cI, 1500, .inl pa)), (mb, .inl (cI, 50, .inl pb))]) [0, 1, 2, 3, 4, 5, 6, 7, 8, 9, 10, 11] rfl
            have hDc := hD.sub (ws' := [(mo, .inr (4, [.int mso, .ref m1, .ref m2, .ref m3, .ref m4, .ref m5, .ref m6, .int mct, .ref m7, .int mfr, .int mcu, .int mth2_14, .ref m8, .ref m9, .ref ma, .ref mb])), (m1, .inl (cL, 1503, .inr (.inl p1))), (m2, .inl (cL, 1503, .inr (.inl p2))), (m3, .inl (cI, 36072, .inl p3)), (m4, .inl (cI, 1503, .inl p4)), (m5, .inl (cL, 1500, .inr (.inl p5))), (m6, .inl (cI, 1500, .inl p6)), (m7, .inl (cI, 1500, .inl p7)), (m8, .inl (cI, 50, .inl p8)), (m9, .inl (cI, 50, .inl p9)), (ma, .inl (cI, 1500, .inl pa)), (mb, .inl (cI, 50, .inl pb))]) [0, 1, 2, 3, 4, 5, 6, 7, 8, 9, 10, 11] (by decide) rfl
            have hFc := va_free (wc := [(mo, .inr (4, [.int mso, .ref m1, .ref m2, .ref m3, .ref m4, .ref m5, .ref m6, .int mct, .ref m7, .int mfr, .int mcu, .int mth2_14, .ref m8, .ref m9, .ref ma, .ref mb])), (m1, .inl (cL, 1503, .inr (.inl p1))), (m2, .inl (cL, 1503, .inr (.inl p2))), (m3, .inl (cI, 36072, .inl p3)), (m4, .inl (cI, 1503, .inl p4)), (m5, .inl (cL, 1500, .inr (.inl p5))), (m6, .inl (cI, 1500, .inl p6)), (m7, .inl (cI, 1500, .inl p7)), (m8, .inl (cI, 50, .inl p8)), (m9, .inl (cI, 50, .inl p9)), (ma, .inl (cI, 1500, .inl pa)), (mb, .inl (cI, 50, .inl pb))]) hD hS hA [0, 1, 2, 3, 4, 5, 6, 7, 8, 9, 10, 11] rfl
            refine va_calli (xr_mv (As := [.int v62, .int v63]) (rest := []) ⟨hx, hb, hml, hown, hts⟩ (c_Mo_fails l D cL cI mo m1 m2 m3 m4 m5 m6 m7 m8 m9 ma mb mso mct mfr mcu mth2_14 p1 p2 p5 p3 p4 p6 p7 p8 p9 pa pb v62 v63 H.size (by first | omega | exact hso)) (xr_cv 2 hts tw_663 tw_660 tw_662 tp_10 tw_7 rfl rfl (by decide) ⟨Nat.le_of_ble_eq_true rfl, Nat.le_of_ble_eq_true rfl⟩) hK hPc (hDc.weaken (fun _ _ _ _ => trivial)) (va_recv hK hP rfl (q0 := 0) (ci := 4) rfl) rfl hl.1 rfl (Nat.le_of_ble_eq_true rfl) d_Mo_part_64 ⟨Nat.le_of_ble_eq_true rfl, Nat.le_of_ble_eq_true rfl⟩) hS (fun q _ h => hFc q h) hFc (fun v64 u64 tt64 H1 locs ht64 hvm64 e64 hB64 hz64 hk64 hS => ?_)
            obtain ⟨mth2_64, rfl⟩ : ∃ z, z = u64 := ⟨_, rfl⟩
            have e64 : v64.toInt = v62.toInt ∧ ((v62.toInt = 0 ∧ mth2_64.toInt = 0) ∨ (v62.toInt ≠ 0 ∧ mth2_64.toInt = v63.toInt)) := e64
            obtain ⟨hP1, hK1, hD1⟩ := hB64
            rw [ht64] at hP1
            obtain ⟨hP, hD⟩ := va_join (wr := []) (w1 := [(mo, .inr (4, [.int mso, .ref m1, .ref m2, .ref m3, .ref m4, .ref m5, .ref m6, .int mct, .ref m7, .int mfr, .int mcu, .int mth2_64, .ref m8, .ref m9, .ref ma, .ref mb])), (m1, .inl (cL, 1503, .inr (.inl p1))), (m2, .inl (cL, 1503, .inr (.inl p2))), (m3, .inl (cI, 36072, .inl p3)), (m4, .inl (cI, 1503, .inl p4)), (m5, .inl (cL, 1500, .inr (.inl p5))), (m6, .inl (cI, 1500, .inl p6)), (m7, .inl (cI, 1500, .inl p7)), (m8, .inl (cI, 50, .inl p8)), (m9, .inl (cI, 50, .inl p9)), (ma, .inl (cI, 1500, .inl pa)), (mb, .inl (cI, 50, .inl pb))]) hP hD [0, 1, 2, 3, 4, 5, 6, 7, 8, 9, 10, 11] [] rfl rfl (by decide) (by decide) hk64 hFc hP1 hD1
            clear hP1 hD1 hPc hDc hFc
            generalize H1 = H at hP hS ⊢
            have hP : va_P D classes [(mo, .inr (4, [.int mso, .ref m1, .ref m2, .ref m3, .ref m4, .ref m5, .ref m6, .int mct, .ref m7, .int mfr, .int mcu, .int mth2_64, .ref m8, .ref m9, .ref ma, .ref mb])), (m1, .inl (cL, 1503, .inr (.inl p1))), (m2, .inl (cL, 1503, .inr (.inl p2))), (m3, .inl (cI, 36072, .inl p3)), (m4, .inl (cI, 1503, .inl p4)), (m5, .inl (cL, 1500, .inr (.inl p5))), (m6, .inl (cI, 1500, .inl p6)), (m7, .inl (cI, 1500, .inl p7)), (m8, .inl (cI, 50, .inl p8)), (m9, .inl (cI, 50, .inl p9)), (ma, .inl (cI, 1500, .inl pa)), (mb, .inl (cI, 50, .inl pb))] H := hP
            have hD : va_D A [(mo, .inr (4, [.int mso, .ref m1, .ref m2, .ref m3, .ref m4, .ref m5, .ref m6, .int mct, .ref m7, .int mfr, .int mcu, .int mth2_64, .ref m8, .ref m9, .ref ma, .ref mb])), (m1, .inl (cL, 1503, .inr (.inl p1))), (m2, .inl (cL, 1503, .inr (.inl p2))), (m3, .inl (cI, 36072, .inl p3)), (m4, .inl (cI, 1503, .inl p4)), (m5, .inl (cL, 1500, .inr (.inl p5))), (m6, .inl (cI, 1500, .inl p6)), (m7, .inl (cI, 1500, .inl p7)), (m8, .inl (cI, 50, .inl p8)), (m9, .inl (cI, 50, .inl p9)), (ma, .inl (cI, 1500, .inl pa)), (mb, .inl (cI, 50, .inl pb))] := hD
            refine lv_if_eq hx hb d_Mo_part_67 (tgt := 72) (by decide) (fun g67 => ?_) (fun g67 => ?_)
            · have g67 := (iz_eq).mp g67
              refine lv_aload_n hx hb d_Mo_part_72 rfl (lv_at hl 1 rfl) ?_
              refine va_get (D := D) (ci := 4) (v := .int mso) (C := R_Mo) (T := F_Mo) (N := 16) hx hb hts in_Mo hown hK hP 0 rfl rfl 0 (by decide) (hts _ tw_603) (fun _ h9 => h9) rfl d_Mo_part_73 ?_
              refine lv_iconst (v := 2) hx hb d_Mo_part_76 (by decide) ?_
              refine lv_topi (fun v76 e76 => ?_)
              have t76 : v76.toInt = 2 := by rw [e76]; rfl
              refine lv_icmp_ne hx hb d_Mo_part_77 (tgt := 93) (by decide) (fun g77 => ?_) (fun g77 => ?_)
              · have g77 := ic_ne.mp g77
                refine lv_iload_n hx hb d_Mo_part_93 rfl (lv_at hl 2 rfl) ?_
                refine lv_if_ne hx hb d_Mo_part_94 (tgt := 108) (by decide) (fun g94 => ?_) (fun g94 => ?_)
                · have g94 := (iz_ne).mp g94
                  refine lv_aload_n hx hb d_Mo_part_108 rfl (lv_at hl 1 rfl) ?_
                  refine va_get (D := D) (ci := 4) (v := .ref m2) (C := R_Mo) (T := F_Mo) (N := 16) hx hb hts in_Mo hown hK hP 0 rfl rfl 2 (by decide) (hts _ tw_605) (fun _ h9 => h9) rfl d_Mo_part_109 ?_
                  refine lv_sipush (v := 1502) hx hb d_Mo_part_112 (by decide) ?_
                  refine lv_topi (fun v112 e112 => ?_)
                  have t112 : v112.toInt = 1502 := by rw [e112]; rfl
                  refine va_lald hx hb hK hP 2 0 rfl rfl (ia_in ⟨by omega, by omega⟩) d_Mo_part_115 ?_
                  refine lv_topl (fun v115 e115 => ?_)
                  have e115 : v115 = p2 v112.toInt.toNat := e115
                  have hpost : (mcu = 0 ∧ mth2_64.toInt = 1) ∨ (¬ mcu = 0 ∧ ¬ (0 ≤ i0.toInt ∧ i0.toInt < (if mso.toInt < 2 then mso.toInt + 1 else (p4 1502).toInt)) ∧ mth2_64.toInt = 2) ∨ (¬ mcu = 0 ∧ 0 ≤ i0.toInt ∧ i0.toInt < (if mso.toInt < 2 then mso.toInt + 1 else (p4 1502).toInt) ∧ mth2_64.toInt = 0 ∧ (mso.toInt = 2 → v115.toInt = (p3 (36048 + i0.toInt.toNat)).toInt) ∧ (mso.toInt < 2 → v115 = if i0.toInt = 0 then p1 1502 else p2 1502)) := by
                    first
                    | (exfalso; omega)
                    | (refine Or.inr (Or.inr ⟨iz_ne.mpr g5, by omega, by rw [← hpn]; omega, by omega, fun h5 => ?_, fun h5 => ?_⟩)
                       · first
                         | (exfalso; omega)
                         | (rw [e89, Jvm.Kit.i64_of_i32, e88, show v87.toInt.toNat = 36048 + i0.toInt.toNat by omega])
                       · first
                         | (exfalso; omega)
                         | (rw [if_pos (by omega), e104, show v101.toInt.toNat = 1502 by omega])
                         | (rw [if_neg (by omega), e115, show v112.toInt.toNat = 1502 by omega]))
                  have hP9 := hP.sub (ws' := [(mo, .inr (4, [.int mso, .ref m1, .ref m2, .ref m3, .ref m4, .ref m5, .ref m6, .int mct, .ref m7, .int mfr, .int mcu, .int mth2_64, .ref m8, .ref m9, .ref ma, .ref mb])), (m1, .inl (cL, 1503, .inr (.inl p1))), (m2, .inl (cL, 1503, .inr (.inl p2))), (m3, .inl (cI, 36072, .inl p3)), (m4, .inl (cI, 1503, .inl p4)), (m5, .inl (cL, 1500, .inr (.inl p5))), (m6, .inl (cI, 1500, .inl p6)), (m7, .inl (cI, 1500, .inl p7)), (m8, .inl (cI, 50, .inl p8)), (m9, .inl (cI, 50, .inl p9)), (ma, .inl (cI, 1500, .inl pa)), (mb, .inl (cI, 50, .inl pb))]) [0, 1, 2, 3, 4, 5, 6, 7, 8, 9, 10, 11] rfl
                  have hD9 := hD.sub (ws' := [(mo, .inr (4, [.int mso, .ref m1, .ref m2, .ref m3, .ref m4, .ref m5, .ref m6, .int mct, .ref m7, .int mfr, .int mcu, .int mth2_64, .ref m8, .ref m9, .ref ma, .ref mb])), (m1, .inl (cL, 1503, .inr (.inl p1))), (m2, .inl (cL, 1503, .inr (.inl p2))), (m3, .inl (cI, 36072, .inl p3)), (m4, .inl (cI, 1503, .inl p4)), (m5, .inl (cL, 1500, .inr (.inl p5))), (m6, .inl (cI, 1500, .inl p6)), (m7, .inl (cI, 1500, .inl p7)), (m8, .inl (cI, 50, .inl p8)), (m9, .inl (cI, 50, .inl p9)), (ma, .inl (cI, 1500, .inl pa)), (mb, .inl (cI, 50, .inl pb))]) [0, 1, 2, 3, 4, 5, 6, 7, 8, 9, 10, 11] (by decide) rfl
                  rw [hQ]
                  exact W.lret (v := v115) hx hb hr (fun t ht hW => ⟨⟨v115, (mth2_64), rfl, hpost, by rw [ht]; exact hP9, va_K.moved hW.alike hK, hD9⟩, hS.F ht⟩) hS.2.2 d_Mo_part_116
                · have g94 := (iz_eq).mp g94
                  refine lv_aload_n hx hb d_Mo_part_97 rfl (lv_at hl 1 rfl) ?_
                  refine va_get (D := D) (ci := 4) (v := .ref m1) (C := R_Mo) (T := F_Mo) (N := 16) hx hb hts in_Mo hown hK hP 0 rfl rfl 1 (by decide) (hts _ tw_604) (fun _ h9 => h9) rfl d_Mo_part_98 ?_
                  refine lv_sipush (v := 1502) hx hb d_Mo_part_101 (by decide) ?_
                  refine lv_topi (fun v101 e101 => ?_)
                  have t101 : v101.toInt = 1502 := by rw [e101]; rfl
                  refine va_lald hx hb hK hP 1 0 rfl rfl (ia_in ⟨by omega, by omega⟩) d_Mo_part_104 ?_
                  refine lv_topl (fun v104 e104 => ?_)
                  have e104 : v104 = p1 v101.toInt.toNat := e104
                  refine lv_goto hx hb d_Mo_part_105 (tgt := 116) (by decide) ?_
                  have hpost : (mcu = 0 ∧ mth2_64.toInt = 1) ∨ (¬ mcu = 0 ∧ ¬ (0 ≤ i0.toInt ∧ i0.toInt < (if mso.toInt < 2 then mso.toInt + 1 else (p4 1502).toInt)) ∧ mth2_64.toInt = 2) ∨ (¬ mcu = 0 ∧ 0 ≤ i0.toInt ∧ i0.toInt < (if mso.toInt < 2 then mso.toInt + 1 else (p4 1502).toInt) ∧ mth2_64.toInt = 0 ∧ (mso.toInt = 2 → v104.toInt = (p3 (36048 + i0.toInt.toNat)).toInt) ∧ (mso.toInt < 2 → v104 = if i0.toInt = 0 then p1 1502 else p2 1502)) := by
                    first
                    | (exfalso; omega)
                    | (refine Or.inr (Or.inr ⟨iz_ne.mpr g5, by omega, by rw [← hpn]; omega, by omega, fun h5 => ?_, fun h5 => ?_⟩)
                       · first
                         | (exfalso; omega)
                         | (rw [e89, Jvm.Kit.i64_of_i32, e88, show v87.toInt.toNat = 36048 + i0.toInt.toNat by omega])
                       · first
                         | (exfalso; omega)
                         | (rw [if_pos (by omega), e104, show v101.toInt.toNat = 1502 by omega])
                         | (rw [if_neg (by omega), e115, show v112.toInt.toNat = 1502 by omega]))
                  have hP9 := hP.sub (ws' := [(mo, .inr (4, [.int mso, .ref m1, .ref m2, .ref m3, .ref m4, .ref m5, .ref m6, .int mct, .ref m7, .int mfr, .int mcu, .int mth2_64, .ref m8, .ref m9, .ref ma, .ref mb])), (m1, .inl (cL, 1503, .inr (.inl p1))), (m2, .inl (cL, 1503, .inr (.inl p2))), (m3, .inl (cI, 36072, .inl p3)), (m4, .inl (cI, 1503, .inl p4)), (m5, .inl (cL, 1500, .inr (.inl p5))), (m6, .inl (cI, 1500, .inl p6)), (m7, .inl (cI, 1500, .inl p7)), (m8, .inl (cI, 50, .inl p8)), (m9, .inl (cI, 50, .inl p9)), (ma, .inl (cI, 1500, .inl pa)), (mb, .inl (cI, 50, .inl pb))]) [0, 1, 2, 3, 4, 5, 6, 7, 8, 9, 10, 11] rfl
                  have hD9 := hD.sub (ws' := [(mo, .inr (4, [.int mso, .ref m1, .ref m2, .ref m3, .ref m4, .ref m5, .ref m6, .int mct, .ref m7, .int mfr, .int mcu, .int mth2_64, .ref m8, .ref m9, .ref ma, .ref mb])), (m1, .inl (cL, 1503, .inr (.inl p1))), (m2, .inl (cL, 1503, .inr (.inl p2))), (m3, .inl (cI, 36072, .inl p3)), (m4, .inl (cI, 1503, .inl p4)), (m5, .inl (cL, 1500, .inr (.inl p5))), (m6, .inl (cI, 1500, .inl p6)), (m7, .inl (cI, 1500, .inl p7)), (m8, .inl (cI, 50, .inl p8)), (m9, .inl (cI, 50, .inl p9)), (ma, .inl (cI, 1500, .inl pa)), (mb, .inl (cI, 50, .inl pb))]) [0, 1, 2, 3, 4, 5, 6, 7, 8, 9, 10, 11] (by decide) rfl
                  rw [hQ]
                  exact W.lret (v := v104) hx hb hr (fun t ht hW => ⟨⟨v104, (mth2_64), rfl, hpost, by rw [ht]; exact hP9, va_K.moved hW.alike hK, hD9⟩, hS.F ht⟩) hS.2.2 d_Mo_part_116
              · have g77 := ic_eq.mp g77
                refine lv_aload_n hx hb d_Mo_part_80 rfl (lv_at hl 1 rfl) ?_
                refine va_get (D := D) (ci := 4) (v := .ref m3) (C := R_Mo) (T := F_Mo) (N := 16) hx hb hts in_Mo hown hK hP 0 rfl rfl 3 (by decide) (hts _ tw_606) (fun _ h9 => h9) rfl d_Mo_part_81 ?_
                refine lv_ldc (v := 36048) hx hb hown (hts _ tw_752) d_Mo_part_84 ?_
                refine lv_topi (fun v84 e84 => ?_)
                have t84 : v84.toInt = 36048 := by rw [e84]; rfl
                refine lv_iload_n hx hb d_Mo_part_86 rfl (lv_at hl 2 rfl) ?_
                refine lv_iadd hx hb d_Mo_part_87 ?_
                refine lv_topi (fun v87 e87 => ?_)
                have t87 := ia_add e87 ⟨by omega, by omega⟩
                refine va_iald hx hb hK hP 3 1 rfl rfl (ia_in ⟨by first | omega | (exfalso; omega), by first | omega | (have h5 := hpm (by omega); omega)⟩) d_Mo_part_88 ?_
                refine lv_topi (fun v88 e88 => ?_)
                have e88 : v88 = p3 v87.toInt.toNat := e88
                refine lv_i2l hx hb d_Mo_part_89 rfl ?_
                refine lv_topl (fun v89 e89 => ?_)
                refine lv_goto hx hb d_Mo_part_90 (tgt := 116) (by decide) ?_
                have hpost : (mcu = 0 ∧ mth2_64.toInt = 1) ∨ (¬ mcu = 0 ∧ ¬ (0 ≤ i0.toInt ∧ i0.toInt < (if mso.toInt < 2 then mso.toInt + 1 else (p4 1502).toInt)) ∧ mth2_64.toInt = 2) ∨ (¬ mcu = 0 ∧ 0 ≤ i0.toInt ∧ i0.toInt < (if mso.toInt < 2 then mso.toInt + 1 else (p4 1502).toInt) ∧ mth2_64.toInt = 0 ∧ (mso.toInt = 2 → v89.toInt = (p3 (36048 + i0.toInt.toNat)).toInt) ∧ (mso.toInt < 2 → v89 = if i0.toInt = 0 then p1 1502 else p2 1502)) := by
                  first
                  | (exfalso; omega)
                  | (refine Or.inr (Or.inr ⟨iz_ne.mpr g5, by omega, by rw [← hpn]; omega, by omega, fun h5 => ?_, fun h5 => ?_⟩)
                     · first
                       | (exfalso; omega)
                       | (rw [e89, Jvm.Kit.i64_of_i32, e88, show v87.toInt.toNat = 36048 + i0.toInt.toNat by omega])
                     · first
                       | (exfalso; omega)
                       | (rw [if_pos (by omega), e104, show v101.toInt.toNat = 1502 by omega])
                       | (rw [if_neg (by omega), e115, show v112.toInt.toNat = 1502 by omega]))
                have hP9 := hP.sub (ws' := [(mo, .inr (4, [.int mso, .ref m1, .ref m2, .ref m3, .ref m4, .ref m5, .ref m6, .int mct, .ref m7, .int mfr, .int mcu, .int mth2_64, .ref m8, .ref m9, .ref ma, .ref mb])), (m1, .inl (cL, 1503, .inr (.inl p1))), (m2, .inl (cL, 1503, .inr (.inl p2))), (m3, .inl (cI, 36072, .inl p3)), (m4, .inl (cI, 1503, .inl p4)), (m5, .inl (cL, 1500, .inr (.inl p5))), (m6, .inl (cI, 1500, .inl p6)), (m7, .inl (cI, 1500, .inl p7)), (m8, .inl (cI, 50, .inl p8)), (m9, .inl (cI, 50, .inl p9)), (ma, .inl (cI, 1500, .inl pa)), (mb, .inl (cI, 50, .inl pb))]) [0, 1, 2, 3, 4, 5, 6, 7, 8, 9, 10, 11] rfl
                have hD9 := hD.sub (ws' := [(mo, .inr (4, [.int mso, .ref m1, .ref m2, .ref m3, .ref m4, .ref m5, .ref m6, .int mct, .ref m7, .int mfr, .int mcu, .int mth2_64, .ref m8, .ref m9, .ref ma, .ref mb])), (m1, .inl (cL, 1503, .inr (.inl p1))), (m2, .inl (cL, 1503, .inr (.inl p2))), (m3, .inl (cI, 36072, .inl p3)), (m4, .inl (cI, 1503, .inl p4)), (m5, .inl (cL, 1500, .inr (.inl p5))), (m6, .inl (cI, 1500, .inl p6)), (m7, .inl (cI, 1500, .inl p7)), (m8, .inl (cI, 50, .inl p8)), (m9, .inl (cI, 50, .inl p9)), (ma, .inl (cI, 1500, .inl pa)), (mb, .inl (cI, 50, .inl pb))]) [0, 1, 2, 3, 4, 5, 6, 7, 8, 9, 10, 11] (by decide) rfl
                rw [hQ]
                exact W.lret (v := v89) hx hb hr (fun t ht hW => ⟨⟨v89, (mth2_64), rfl, hpost, by rw [ht]; exact hP9, va_K.moved hW.alike hK, hD9⟩, hS.F ht⟩) hS.2.2 d_Mo_part_116
            · have g67 := (iz_ne).mp g67
              exfalso; omega
          · have g55 := ic_nlt.mp g55
            refine lv_iconst (v := 1) hx hb d_Mo_part_58 (by decide) ?_
            refine lv_topi (fun v58 e58 => ?_)
            have t58 : v58.toInt = 1 := by rw [e58]; rfl
            refine lv_goto hx hb d_Mo_part_59 (tgt := 63) (by decide) ?_
            refine lv_iconst (v := 2) hx hb d_Mo_part_63 (by decide) ?_
            refine lv_topi (fun v63 e63 => ?_)
            have t63 : v63.toInt = 2 := by rw [e63]; rfl
            have hPc := hP.sub (ws' := [(mo, .inr (4, [.int mso, .ref m1, .ref m2, .ref m3, .ref m4, .ref m5, .ref m6, .int mct, .ref m7, .int mfr, .int mcu, .int mth2_14, .ref m8, .ref m9, .ref ma, .ref mb])), (m1, .inl (cL, 1503, .inr (.inl p1))), (m2, .inl (cL, 1503, .inr (.inl p2))), (m3, .inl (cI, 36072, .inl p3)), (m4, .inl (cI, 1503, .inl p4)), (m5, .inl (cL, 1500, .inr (.inl p5))), (m6, .inl (cI, 1500, .inl p6)), (m7, .inl (cI, 1500, .inl p7)), (m8, .inl (cI, 50, .inl p8)), (m9, .inl (cI, 50, .inl p9)), (ma, .inl (cI, 1500, .inl pa)), (mb, .inl (cI, 50, .inl pb))]) [0, 1, 2, 3, 4, 5, 6, 7, 8, 9, 10, 11] rfl
            have hDc := hD.sub (ws' := [(mo, .inr (4, [.int mso, .ref m1, .ref m2, .ref m3, .ref m4, .ref m5, .ref m6, .int mct, .ref m7, .int mfr, .int mcu, .int mth2_14, .ref m8, .ref m9, .ref ma, .ref mb])), (m1, .inl (cL, 1503, .inr (.inl p1))), (m2, .inl (cL, 1503, .inr (.inl p2))), (m3, .inl (cI, 36072, .inl p3)), (m4, .inl (cI, 1503, .inl p4)), (m5, .inl (cL, 1500, .inr (.inl p5))), (m6, .inl (cI, 1500, .inl p6)), (m7, .inl (cI, 1500, .inl p7)), (m8, .inl (cI, 50, .inl p8)), (m9, .inl (cI, 50, .inl p9)), (ma, .inl (cI, 1500, .inl pa)), (mb, .inl (cI, 50, .inl pb))]) [0, 1, 2, 3, 4, 5, 6, 7, 8, 9, 10, 11] (by decide) rfl
            have hFc := va_free (wc := [(mo, .inr (4, [.int mso, .ref m1, .ref m2, .ref m3, .ref m4, .ref m5, .ref m6, .int mct, .ref m7, .int mfr, .int mcu, .int mth2_14, .ref m8, .ref m9, .ref ma, .ref mb])), (m1, .inl (cL, 1503, .inr (.inl p1))), (m2, .inl (cL, 1503, .inr (.inl p2))), (m3, .inl (cI, 36072, .inl p3)), (m4, .inl (cI, 1503, .inl p4)), (m5, .inl (cL, 1500, .inr (.inl p5))), (m6, .inl (cI, 1500, .inl p6)), (m7, .inl (cI, 1500, .inl p7)), (m8, .inl (cI, 50, .inl p8)), (m9, .inl (cI, 50, .inl p9)), (ma, .inl (cI, 1500, .inl pa)), (mb, .inl (cI, 50, .inl pb))]) hD hS hA [0, 1, 2, 3, 4, 5, 6, 7, 8, 9, 10, 11] rfl
            refine va_calli (xr_mv (As := [.int v58, .int v63]) (rest := []) ⟨hx, hb, hml, hown, hts⟩ (c_Mo_fails l D cL cI mo m1 m2 m3 m4 m5 m6 m7 m8 m9 ma mb mso mct mfr mcu mth2_14 p1 p2 p5 p3 p4 p6 p7 p8 p9 pa pb v58 v63 H.size (by first | omega | exact hso)) (xr_cv 2 hts tw_663 tw_660 tw_662 tp_10 tw_7 rfl rfl (by decide) ⟨Nat.le_of_ble_eq_true rfl, Nat.le_of_ble_eq_true rfl⟩) hK hPc (hDc.weaken (fun _ _ _ _ => trivial)) (va_recv hK hP rfl (q0 := 0) (ci := 4) rfl) rfl hl.1 rfl (Nat.le_of_ble_eq_true rfl) d_Mo_part_64 ⟨Nat.le_of_ble_eq_true rfl, Nat.le_of_ble_eq_true rfl⟩) hS (fun q _ h => hFc q h) hFc (fun v64 u64 tt64 H1 locs ht64 hvm64 e64 hB64 hz64 hk64 hS => ?_)
            obtain ⟨mth2_64, rfl⟩ : ∃ z, z = u64 := ⟨_, rfl⟩
            have e64 : v64.toInt = v58.toInt ∧ ((v58.toInt = 0 ∧ mth2_64.toInt = 0) ∨ (v58.toInt ≠ 0 ∧ mth2_64.toInt = v63.toInt)) := e64
            obtain ⟨hP1, hK1, hD1⟩ := hB64
            rw [ht64] at hP1
            obtain ⟨hP, hD⟩ := va_join (wr := []) (w1 := [(mo, .inr (4, [.int mso, .ref m1, .ref m2, .ref m3, .ref m4, .ref m5, .ref m6, .int mct, .ref m7, .int mfr, .int mcu, .int mth2_64, .ref m8, .ref m9, .ref ma, .ref mb])), (m1, .inl (cL, 1503, .inr (.inl p1))), (m2, .inl (cL, 1503, .inr (.inl p2))), (m3, .inl (cI, 36072, .inl p3)), (m4, .inl (cI, 1503, .inl p4)), (m5, .inl (cL, 1500, .inr (.inl p5))), (m6, .inl (cI, 1500, .inl p6)), (m7, .inl (cI, 1500, .inl p7)), (m8, .inl (cI, 50, .inl p8)), (m9, .inl (cI, 50, .inl p9)), (ma, .inl (cI, 1500, .inl pa)), (mb, .inl (cI, 50, .inl pb))]) hP hD [0, 1, 2, 3, 4, 5, 6, 7, 8, 9, 10, 11] [] rfl rfl (by decide) (by decide) hk64 hFc hP1 hD1
            clear hP1 hD1 hPc hDc hFc
            generalize H1 = H at hP hS ⊢
            have hP : va_P D classes [(mo, .inr (4, [.int mso, .ref m1, .ref m2, .ref m3, .ref m4, .ref m5, .ref m6, .int mct, .ref m7, .int mfr, .int mcu, .int mth2_64, .ref m8, .ref m9, .ref ma, .ref mb])), (m1, .inl (cL, 1503, .inr (.inl p1))), (m2, .inl (cL, 1503, .inr (.inl p2))), (m3, .inl (cI, 36072, .inl p3)), (m4, .inl (cI, 1503, .inl p4)), (m5, .inl (cL, 1500, .inr (.inl p5))), (m6, .inl (cI, 1500, .inl p6)), (m7, .inl (cI, 1500, .inl p7)), (m8, .inl (cI, 50, .inl p8)), (m9, .inl (cI, 50, .inl p9)), (ma, .inl (cI, 1500, .inl pa)), (mb, .inl (cI, 50, .inl pb))] H := hP
            have hD : va_D A [(mo, .inr (4, [.int mso, .ref m1, .ref m2, .ref m3, .ref m4, .ref m5, .ref m6, .int mct, .ref m7, .int mfr, .int mcu, .int mth2_64, .ref m8, .ref m9, .ref ma, .ref mb])), (m1, .inl (cL, 1503, .inr (.inl p1))), (m2, .inl (cL, 1503, .inr (.inl p2))), (m3, .inl (cI, 36072, .inl p3)), (m4, .inl (cI, 1503, .inl p4)), (m5, .inl (cL, 1500, .inr (.inl p5))), (m6, .inl (cI, 1500, .inl p6)), (m7, .inl (cI, 1500, .inl p7)), (m8, .inl (cI, 50, .inl p8)), (m9, .inl (cI, 50, .inl p9)), (ma, .inl (cI, 1500, .inl pa)), (mb, .inl (cI, 50, .inl pb))] := hD
            refine lv_if_eq hx hb d_Mo_part_67 (tgt := 72) (by decide) (fun g67 => ?_) (fun g67 => ?_)
            · have g67 := (iz_eq).mp g67
              exfalso; omega
            · have g67 := (iz_ne).mp g67
              refine lv_lconst (v := 0) hx hb d_Mo_part_70 (by decide) ?_
              refine lv_topl (fun v70 e70 => ?_)
              have hpost : (mcu = 0 ∧ mth2_64.toInt = 1) ∨ (¬ mcu = 0 ∧ ¬ (0 ≤ i0.toInt ∧ i0.toInt < (if mso.toInt < 2 then mso.toInt + 1 else (p4 1502).toInt)) ∧ mth2_64.toInt = 2) ∨ (¬ mcu = 0 ∧ 0 ≤ i0.toInt ∧ i0.toInt < (if mso.toInt < 2 then mso.toInt + 1 else (p4 1502).toInt) ∧ mth2_64.toInt = 0 ∧ (mso.toInt = 2 → v70.toInt = (p3 (36048 + i0.toInt.toNat)).toInt) ∧ (mso.toInt < 2 → v70 = if i0.toInt = 0 then p1 1502 else p2 1502)) := by
                first
                | (exfalso; omega)
                | exact Or.inr (Or.inl ⟨iz_ne.mpr g5, by rw [← hpn]; omega, by omega⟩)
              have hP9 := hP.sub (ws' := [(mo, .inr (4, [.int mso, .ref m1, .ref m2, .ref m3, .ref m4, .ref m5, .ref m6, .int mct, .ref m7, .int mfr, .int mcu, .int mth2_64, .ref m8, .ref m9, .ref ma, .ref mb])), (m1, .inl (cL, 1503, .inr (.inl p1))), (m2, .inl (cL, 1503, .inr (.inl p2))), (m3, .inl (cI, 36072, .inl p3)), (m4, .inl (cI, 1503, .inl p4)), (m5, .inl (cL, 1500, .inr (.inl p5))), (m6, .inl (cI, 1500, .inl p6)), (m7, .inl (cI, 1500, .inl p7)), (m8, .inl (cI, 50, .inl p8)), (m9, .inl (cI, 50, .inl p9)), (ma, .inl (cI, 1500, .inl pa)), (mb, .inl (cI, 50, .inl pb))]) [0, 1, 2, 3, 4, 5, 6, 7, 8, 9, 10, 11] rfl
              have hD9 := hD.sub (ws' := [(mo, .inr (4, [.int mso, .ref m1, .ref m2, .ref m3, .ref m4, .ref m5, .ref m6, .int mct, .ref m7, .int mfr, .int mcu, .int mth2_64, .ref m8, .ref m9, .ref ma, .ref mb])), (m1, .inl (cL, 1503, .inr (.inl p1))), (m2, .inl (cL, 1503, .inr (.inl p2))), (m3, .inl (cI, 36072, .inl p3)), (m4, .inl (cI, 1503, .inl p4)), (m5, .inl (cL, 1500, .inr (.inl p5))), (m6, .inl (cI, 1500, .inl p6)), (m7, .inl (cI, 1500, .inl p7)), (m8, .inl (cI, 50, .inl p8)), (m9, .inl (cI, 50, .inl p9)), (ma, .inl (cI, 1500, .inl pa)), (mb, .inl (cI, 50, .inl pb))]) [0, 1, 2, 3, 4, 5, 6, 7, 8, 9, 10, 11] (by decide) rfl
              rw [hQ]
              exact W.lret (v := v70) hx hb hr (fun t ht hW => ⟨⟨v70, (mth2_64), rfl, hpost, by rw [ht]; exact hP9, va_K.moved hW.alike hK, hD9⟩, hS.F ht⟩) hS.2.2 d_Mo_part_71
      · have g27 := ic_nle.mp g27
        refine lv_aload_n hx hb d_Mo_part_30 rfl (lv_at hl 0 rfl) ?_
        refine va_get (D := D) (ci := 4) (v := .int mso) (C := R_Mo) (T := F_Mo) (N := 16) hx hb hts in_Mo hown hK hP 0 rfl rfl 0 (by decide) (hts _ tw_603) (fun _ h9 => h9) rfl d_Mo_part_31 ?_
        refine lv_iconst (v := 1) hx hb d_Mo_part_34 (by decide) ?_
        refine lv_topi (fun v34 e34 => ?_)
        have t34 : v34.toInt = 1 := by rw [e34]; rfl
        refine lv_iadd hx hb d_Mo_part_35 ?_
        refine lv_topi (fun v35 e35 => ?_)
        have t35 := ia_add e35 ⟨by omega, by omega⟩
        refine lv_goto hx hb d_Mo_part_36 (tgt := 47) (by decide) ?_
        have hpn : v35.toInt = (if mso.toInt < 2 then mso.toInt + 1 else (p4 1502).toInt) := by
              first
              | (rw [show v43.toInt.toNat = 1502 by omega] at e46; rw [if_neg (by omega), e46])
              | (rw [if_pos (by omega)]; omega)
        have hpm : mso.toInt = 2 → v35.toInt ≤ 24 := fun h5 => by
              rcases hkr 1502 (by omega) with h | h | h
              · omega
              · omega
              · rw [hpn, if_neg (by omega)]; exact h.2.2.2.1
        refine lv_istore_n (lv' := [(2, .int v35), (0, .ref mo), (1, .int i0)]) hx hb d_Mo_part_47 rfl hl (by decide) rfl (fun ls hl => ?_)
        refine lv_aload_n hx hb d_Mo_part_48 rfl (lv_at hl 1 rfl) ?_
        refine lv_iload_n hx hb d_Mo_part_49 rfl (lv_at hl 2 rfl) ?_
        refine lv_if_lt hx hb d_Mo_part_50 (tgt := 58) (by decide) (fun g50 => ?_) (fun g50 => ?_)
        · have g50 := (iz_lt).mp g50
          refine lv_iconst (v := 1) hx hb d_Mo_part_58 (by decide) ?_
          refine lv_topi (fun v58 e58 => ?_)
          have t58 : v58.toInt = 1 := by rw [e58]; rfl
          refine lv_goto hx hb d_Mo_part_59 (tgt := 63) (by decide) ?_
          refine lv_iconst (v := 2) hx hb d_Mo_part_63 (by decide) ?_
          refine lv_topi (fun v63 e63 => ?_)
          have t63 : v63.toInt = 2 := by rw [e63]; rfl
          have hPc := hP.sub (ws' := [(mo, .inr (4, [.int mso, .ref m1, .ref m2, .ref m3, .ref m4, .ref m5, .ref m6, .int mct, .ref m7, .int mfr, .int mcu, .int mth2_14, .ref m8, .ref m9, .ref ma, .ref mb])), (m1, .inl (cL, 1503, .inr (.inl p1))), (m2, .inl (cL, 1503, .inr (.inl p2))), (m3, .inl (cI, 36072, .inl p3)), (m4, .inl (cI, 1503, .inl p4)), (m5, .inl (cL, 1500, .inr (.inl p5))), (m6, .inl (cI, 1500, .inl p6)), (m7, .inl (cI, 1500, .inl p7)), (m8, .inl (cI, 50, .inl p8)), (m9, .inl (cI, 50, .inl p9)), (ma, .inl (cI, 1500, .inl pa)), (mb, .inl (cI, 50, .inl pb))]) [0, 1, 2, 3, 4, 5, 6, 7, 8, 9, 10, 11] rfl
          have hDc := hD.sub (ws' := [(mo, .inr (4, [.int mso, .ref m1, .ref m2, .ref m3, .ref m4, .ref m5, .ref m6, .int mct, .ref m7, .int mfr, .int mcu, .int mth2_14, .ref m8, .ref m9, .ref ma, .ref mb])), (m1, .inl (cL, 1503, .inr (.inl p1))), (m2, .inl (cL, 1503, .inr (.inl p2))), (m3, .inl (cI, 36072, .inl p3)), (m4, .inl (cI, 1503, .inl p4)), (m5, .inl (cL, 1500, .inr (.inl p5))), (m6, .inl (cI, 1500, .inl p6)), (m7, .inl (cI, 1500, .inl p7)), (m8, .inl (cI, 50, .inl p8)), (m9, .inl (cI, 50, .inl p9)), (ma, .inl (cI, 1500, .inl pa)), (mb, .inl (cI, 50, .inl pb))]) [0, 1, 2, 3, 4, 5, 6, 7, 8, 9, 10, 11] (by decide) rfl
          have hFc := va_free (wc := [(mo, .inr (4, [.int mso, .ref m1, .ref m2, .ref m3, .ref m4, .ref m5, .ref m6, .int mct, .ref m7, .int mfr, .int mcu, .int mth2_14, .ref m8, .ref m9, .ref ma, .ref mb])), (m1, .inl (cL, 1503, .inr (.inl p1))), (m2, .inl (cL, 1503, .inr (.inl p2))), (m3, .inl (cI, 36072, .inl p3)), (m4, .inl (cI, 1503, .inl p4)), (m5, .inl (cL, 1500, .inr (.inl p5))), (m6, .inl (cI, 1500, .inl p6)), (m7, .inl (cI, 1500, .inl p7)), (m8, .inl (cI, 50, .inl p8)), (m9, .inl (cI, 50, .inl p9)), (ma, .inl (cI, 1500, .inl pa)), (mb, .inl (cI, 50, .inl pb))]) hD hS hA [0, 1, 2, 3, 4, 5, 6, 7, 8, 9, 10, 11] rfl
          refine va_calli (xr_mv (As := [.int v58, .int v63]) (rest := []) ⟨hx, hb, hml, hown, hts⟩ (c_Mo_fails l D cL cI mo m1 m2 m3 m4 m5 m6 m7 m8 m9 ma mb mso mct mfr mcu mth2_14 p1 p2 p5 p3 p4 p6 p7 p8 p9 pa pb v58 v63 H.size (by first | omega | exact hso)) (xr_cv 2 hts tw_663 tw_660 tw_662 tp_10 tw_7 rfl rfl (by decide) ⟨Nat.le_of_ble_eq_true rfl, Nat.le_of_ble_eq_true rfl⟩) hK hPc (hDc.weaken (fun _ _ _ _ => trivial)) (va_recv hK hP rfl (q0 := 0) (ci := 4) rfl) rfl hl.1 rfl (Nat.le_of_ble_eq_true rfl) d_Mo_part_64 ⟨Nat.le_of_ble_eq_true rfl, Nat.le_of_ble_eq_true rfl⟩) hS (fun q _ h => hFc q h) hFc (fun v64 u64 tt64 H1 locs ht64 hvm64 e64 hB64 hz64 hk64 hS => ?_)
          obtain ⟨mth2_64, rfl⟩ : ∃ z, z = u64 := ⟨_, rfl⟩
          have e64 : v64.toInt = v58.toInt ∧ ((v58.toInt = 0 ∧ mth2_64.toInt = 0) ∨ (v58.toInt ≠ 0 ∧ mth2_64.toInt = v63.toInt)) := e64
          obtain ⟨hP1, hK1, hD1⟩ := hB64
          rw [ht64] at hP1
          obtain ⟨hP, hD⟩ := va_join (wr := []) (w1 := [(mo, .inr (4, [.int mso, .ref m1, .ref m2, .ref m3, .ref m4, .ref m5, .ref m6, .int mct, .ref m7, .int mfr, .int mcu, .int mth2_64, .ref m8, .ref m9, .ref ma, .ref mb])), (m1, .inl (cL, 1503, .inr (.inl p1))), (m2, .inl (cL, 1503, .inr (.inl p2))), (m3, .inl (cI, 36072, .inl p3)), (m4, .inl (cI, 1503, .inl p4)), (m5, .inl (cL, 1500, .inr (.inl p5))), (m6, .inl (cI, 1500, .inl p6)), (m7, .inl (cI, 1500, .inl p7)), (m8, .inl (cI, 50, .inl p8)), (m9, .inl (cI, 50, .inl p9)), (ma, .inl (cI, 1500, .inl pa)), (mb, .inl (cI, 50, .inl pb))]) hP hD [0, 1, 2, 3, 4, 5, 6, 7, 8, 9, 10, 11] [] rfl rfl (by decide) (by decide) hk64 hFc hP1 hD1
          clear hP1 hD1 hPc hDc hFc
          generalize H1 = H at hP hS ⊢
          have hP : va_P D classes [(mo, .inr (4, [.int mso, .ref m1, .ref m2, .ref m3, .ref m4, .ref m5, .ref m6, .int mct, .ref m7, .int mfr, .int mcu, .int mth2_64, .ref m8, .ref m9, .ref ma, .ref mb])), (m1, .inl (cL, 1503, .inr (.inl p1))), (m2, .inl (cL, 1503, .inr (.inl p2))), (m3, .inl (cI, 36072, .inl p3)), (m4, .inl (cI, 1503, .inl p4)), (m5, .inl (cL, 1500, .inr (.inl p5))), (m6, .inl (cI, 1500, .inl p6)), (m7, .inl (cI, 1500, .inl p7)), (m8, .inl (cI, 50, .inl p8)), (m9, .inl (cI, 50, .inl p9)), (ma, .inl (cI, 1500, .inl pa)), (mb, .inl (cI, 50, .inl pb))] H := hP
          have hD : va_D A [(mo, .inr (4, [.int mso, .ref m1, .ref m2, .ref m3, .ref m4, .ref m5, .ref m6, .int mct, .ref m7, .int mfr, .int mcu, .int mth2_64, .ref m8, .ref m9, .ref ma, .ref mb])), (m1, .inl (cL, 1503, .inr (.inl p1))), (m2, .inl (cL, 1503, .inr (.inl p2))), (m3, .inl (cI, 36072, .inl p3)), (m4, .inl (cI, 1503, .inl p4)), (m5, .inl (cL, 1500, .inr (.inl p5))), (m6, .inl (cI, 1500, .inl p6)), (m7, .inl (cI, 1500, .inl p7)), (m8, .inl (cI, 50, .inl p8)), (m9, .inl (cI, 50, .inl p9)), (ma, .inl (cI, 1500, .inl pa)), (mb, .inl (cI, 50, .inl pb))] := hD
          refine lv_if_eq hx hb d_Mo_part_67 (tgt := 72) (by decide) (fun g67 => ?_) (fun g67 => ?_)
          · have g67 := (iz_eq).mp g67
            exfalso; omega
          · have g67 := (iz_ne).mp g67
            refine lv_lconst (v := 0) hx hb d_Mo_part_70 (by decide) ?_
            refine lv_topl (fun v70 e70 => ?_)
            have hpost : (mcu = 0 ∧ mth2_64.toInt = 1) ∨ (¬ mcu = 0 ∧ ¬ (0 ≤ i0.toInt ∧ i0.toInt < (if mso.toInt < 2 then mso.toInt + 1 else (p4 1502).toInt)) ∧ mth2_64.toInt = 2) ∨ (¬ mcu = 0 ∧ 0 ≤ i0.toInt ∧ i0.toInt < (if mso.toInt < 2 then mso.toInt + 1 else (p4 1502).toInt) ∧ mth2_64.toInt = 0 ∧ (mso.toInt = 2 → v70.toInt = (p3 (36048 + i0.toInt.toNat)).toInt) ∧ (mso.toInt < 2 → v70 = if i0.toInt = 0 then p1 1502 else p2 1502)) := by
              first
              | (exfalso; omega)
              | exact Or.inr (Or.inl ⟨iz_ne.mpr g5, by rw [← hpn]; omega, by omega⟩)
            have hP9 := hP.sub (ws' := [(mo, .inr (4, [.int mso, .ref m1, .ref m2, .ref m3, .ref m4, .ref m5, .ref m6, .int mct, .ref m7, .int mfr, .int mcu, .int mth2_64, .ref m8, .ref m9, .ref ma, .ref mb])), (m1, .inl (cL, 1503, .inr (.inl p1))), (m2, .inl (cL, 1503, .inr (.inl p2))), (m3, .inl (cI, 36072, .inl p3)), (m4, .inl (cI, 1503, .inl p4)), (m5, .inl (cL, 1500, .inr (.inl p5))), (m6, .inl (cI, 1500, .inl p6)), (m7, .inl (cI, 1500, .inl p7)), (m8, .inl (cI, 50, .inl p8)), (m9, .inl (cI, 50, .inl p9)), (ma, .inl (cI, 1500, .inl pa)), (mb, .inl (cI, 50, .inl pb))]) [0, 1, 2, 3, 4, 5, 6, 7, 8, 9, 10, 11] rfl
            have hD9 := hD.sub (ws' := [(mo, .inr (4, [.int mso, .ref m1, .ref m2, .ref m3, .ref m4, .ref m5, .ref m6, .int mct, .ref m7, .int mfr, .int mcu, .int mth2_64, .ref m8, .ref m9, .ref ma, .ref mb])), (m1, .inl (cL, 1503, .inr (.inl p1))), (m2, .inl (cL, 1503, .inr (.inl p2))), (m3, .inl (cI, 36072, .inl p3)), (m4, .inl (cI, 1503, .inl p4)), (m5, .inl (cL, 1500, .inr (.inl p5))), (m6, .inl (cI, 1500, .inl p6)), (m7, .inl (cI, 1500, .inl p7)), (m8, .inl (cI, 50, .inl p8)), (m9, .inl (cI, 50, .inl p9)), (ma, .inl (cI, 1500, .inl pa)), (mb, .inl (cI, 50, .inl pb))]) [0, 1, 2, 3, 4, 5, 6, 7, 8, 9, 10, 11] (by decide) rfl
            rw [hQ]
            exact W.lret (v := v70) hx hb hr (fun t ht hW => ⟨⟨v70, (mth2_64), rfl, hpost, by rw [ht]; exact hP9, va_K.moved hW.alike hK, hD9⟩, hS.F ht⟩) hS.2.2 d_Mo_part_71
        · have g50 := (iz_nlt).mp g50
          refine lv_iload_n hx hb d_Mo_part_53 rfl (lv_at hl 2 rfl) ?_
          refine lv_iload_n hx hb d_Mo_part_54 rfl (lv_at hl 0 rfl) ?_
          refine lv_icmp_lt hx hb d_Mo_part_55 (tgt := 62) (by decide) (fun g55 => ?_) (fun g55 => ?_)
          · have g55 := ic_lt.mp g55
            refine lv_iconst (v := 0) hx hb d_Mo_part_62 (by decide) ?_
            refine lv_topi (fun v62 e62 => ?_)
            have t62 : v62.toInt = 0 := by rw [e62]; rfl
            refine lv_iconst (v := 2) hx hb d_Mo_part_63 (by decide) ?_
            refine lv_topi (fun v63 e63 => ?_)
            have t63 : v63.toInt = 2 := by rw [e63]; rfl
            have hPc := hP.sub (ws' := [(mo, .inr (4, [.int mso, .ref m1, .ref m2, .ref m3, .ref m4, .ref m5, .ref m6, .int mct, .ref m7, .int mfr, .int mcu, .int mth2_14, .ref m8, .ref m9, .ref ma, .ref mb])), (m1, .inl (cL, 1503, .inr (.inl p1))), (m2, .inl (cL, 1503, .inr (.inl p2))), (m3, .inl (cI, 36072, .inl p3)), (m4, .inl (cI, 1503, .inl p4)), (m5, .inl (cL, 1500, .inr (.inl p5))), (m6, .inl (cI, 1500, .inl p6)), (m7, .inl (cI, 1500, .inl p7)), (m8, .inl (cI, 50, .inl p8)), (m9, .inl (cI, 50, .inl p9)), (ma, .inl (cI, 1500, .inl pa)), (mb, .inl (cI, 50, .inl pb))]) [0, 1, 2, 3, 4, 5, 6, 7, 8, 9, 10, 11] rfl
            have hDc := hD.sub (ws' := [(mo, .inr (4, [.int mso, .ref m1, .ref m2, .ref m3, .ref m4, .ref m5, .ref m6, .int mct, .ref m7, .int mfr, .int mcu, .int mth2_14, .ref m8, .ref m9, .ref ma, .ref mb])), (m1, .inl (cL, 1503, .inr (.inl p1))), (m2, .inl (cL, 1503, .inr (.inl p2))), (m3, .inl (cI, 36072, .inl p3)), (m4, .inl (cI, 1503, .inl p4)), (m5, .inl (cL, 1500, .inr (.inl p5))), (m6, .inl (cI, 1500, .inl p6)), (m7, .inl (cI, 1500, .inl p7)), (m8, .inl (cI, 50, .inl p8)), (m9, .inl (cI, 50, .inl p9)), (ma, .inl (cI, 1500, .inl pa)), (mb, .inl (cI, 50, .inl pb))]) [0, 1, 2, 3, 4, 5, 6, 7, 8, 9, 10, 11] (by decide) rfl
            have hFc := va_free (wc := [(mo, .inr (4, [.int mso, .ref m1, .ref m2, .ref m3, .ref m4, .ref m5, .ref m6, .int mct, .ref m7, .int mfr, .int mcu, .int mth2_14, .ref m8, .ref m9, .ref ma, .ref mb])), (m1, .inl (cL, 1503, .inr (.inl p1))), (m2, .inl (cL, 1503, .inr (.inl p2))), (m3, .inl (cI, 36072, .inl p3)), (m4, .inl (cI, 1503, .inl p4)), (m5, .inl (cL, 1500, .inr (.inl p5))), (m6, .inl (cI, 1500, .inl p6)), (m7, .inl (cI, 1500, .inl p7)), (m8, .inl (cI, 50, .inl p8)), (m9, .inl (cI, 50, .inl p9)), (ma, .inl (cI, 1500, .inl pa)), (mb, .inl (cI, 50, .inl pb))]) hD hS hA [0, 1, 2, 3, 4, 5, 6, 7, 8, 9, 10, 11] rfl
            refine va_calli (xr_mv (As := [.int v62, .int v63]) (rest := []) ⟨hx, hb, hml, hown, hts⟩ (c_Mo_fails l D cL cI mo m1 m2 m3 m4 m5 m6 m7 m8 m9 ma mb mso mct mfr mcu mth2_14 p1 p2 p5 p3 p4 p6 p7 p8 p9 pa pb v62 v63 H.size (by first | omega | exact hso)) (xr_cv 2 hts tw_663 tw_660 tw_662 tp_10 tw_7 rfl rfl (by decide) ⟨Nat.le_of_ble_eq_true rfl, Nat.le_of_ble_eq_true rfl⟩) hK hPc (hDc.weaken (fun _ _ _ _ => trivial)) (va_recv hK hP rfl (q0 := 0) (ci := 4) rfl) rfl hl.1 rfl (Nat.le_of_ble_eq_true rfl) d_Mo_part_64 ⟨Nat.le_of_ble_eq_true rfl, Nat.le_of_ble_eq_true rfl⟩) hS (fun q _ h => hFc q h) hFc (fun v64 u64 tt64 H1 locs ht64 hvm64 e64 hB64 hz64 hk64 hS => ?_)
            obtain ⟨mth2_64, rfl⟩ : ∃ z, z = u64 := ⟨_, rfl⟩
            have e64 : v64.toInt = v62.toInt ∧ ((v62.toInt = 0 ∧ mth2_64.toInt = 0) ∨ (v62.toInt ≠ 0 ∧ mth2_64.toInt = v63.toInt)) := e64
            obtain ⟨hP1, hK1, hD1⟩ := hB64
            rw [ht64] at hP1
            obtain ⟨hP, hD⟩ := va_join (wr := []) (w1 := [(mo, .inr (4, [.int mso, .ref m1, .ref m2, .ref m3, .ref m4, .ref m5, .ref m6, .int mct, .ref m7, .int mfr, .int mcu, .int mth2_64, .ref m8, .ref m9, .ref ma, .ref mb])), (m1, .inl (cL, 1503, .inr (.inl p1))), (m2, .inl (cL, 1503, .inr (.inl p2))), (m3, .inl (cI, 36072, .inl p3)), (m4, .inl (cI, 1503, .inl p4)), (m5, .inl (cL, 1500, .inr (.inl p5))), (m6, .inl (cI, 1500, .inl p6)), (m7, .inl (cI, 1500, .inl p7)), (m8, .inl (cI, 50, .inl p8)), (m9, .inl (cI, 50, .inl p9)), (ma, .inl (cI, 1500, .inl pa)), (mb, .inl (cI, 50, .inl pb))]) hP hD [0, 1, 2, 3, 4, 5, 6, 7, 8, 9, 10, 11] [] rfl rfl (by decide) (by decide) hk64 hFc hP1 hD1
            clear hP1 hD1 hPc hDc hFc
            generalize H1 = H at hP hS ⊢
            have hP : va_P D classes [(mo, .inr (4, [.int mso, .ref m1, .ref m2, .ref m3, .ref m4, .ref m5, .ref m6, .int mct, .ref m7, .int mfr, .int mcu, .int mth2_64, .ref m8, .ref m9, .ref ma, .ref mb])), (m1, .inl (cL, 1503, .inr (.inl p1))), (m2, .inl (cL, 1503, .inr (.inl p2))), (m3, .inl (cI, 36072, .inl p3)), (m4, .inl (cI, 1503, .inl p4)), (m5, .inl (cL, 1500, .inr (.inl p5))), (m6, .inl (cI, 1500, .inl p6)), (m7, .inl (cI, 1500, .inl p7)), (m8, .inl (cI, 50, .inl p8)), (m9, .inl (cI, 50, .inl p9)), (ma, .inl (cI, 1500, .inl pa)), (mb, .inl (cI, 50, .inl pb))] H := hP
            have hD : va_D A [(mo, .inr (4, [.int mso, .ref m1, .ref m2, .ref m3, .ref m4, .ref m5, .ref m6, .int mct, .ref m7, .int mfr, .int mcu, .int mth2_64, .ref m8, .ref m9, .ref ma, .ref mb])), (m1, .inl (cL, 1503, .inr (.inl p1))), (m2, .inl (cL, 1503, .inr (.inl p2))), (m3, .inl (cI, 36072, .inl p3)), (m4, .inl (cI, 1503, .inl p4)), (m5, .inl (cL, 1500, .inr (.inl p5))), (m6, .inl (cI, 1500, .inl p6)), (m7, .inl (cI, 1500, .inl p7)), (m8, .inl (cI, 50, .inl p8)), (m9, .inl (cI, 50, .inl p9)), (ma, .inl (cI, 1500, .inl pa)), (mb, .inl (cI, 50, .inl pb))] := hD
            refine lv_if_eq hx hb d_Mo_part_67 (tgt := 72) (by decide) (fun g67 => ?_) (fun g67 => ?_)
            · have g67 := (iz_eq).mp g67
              refine lv_aload_n hx hb d_Mo_part_72 rfl (lv_at hl 1 rfl) ?_
              refine va_get (D := D) (ci := 4) (v := .int mso) (C := R_Mo) (T := F_Mo) (N := 16) hx hb hts in_Mo hown hK hP 0 rfl rfl 0 (by decide) (hts _ tw_603) (fun _ h9 => h9) rfl d_Mo_part_73 ?_
              refine lv_iconst (v := 2) hx hb d_Mo_part_76 (by decide) ?_
              refine lv_topi (fun v76 e76 => ?_)
              have t76 : v76.toInt = 2 := by rw [e76]; rfl
              refine lv_icmp_ne hx hb d_Mo_part_77 (tgt := 93) (by decide) (fun g77 => ?_) (fun g77 => ?_)
              · have g77 := ic_ne.mp g77
                refine lv_iload_n hx hb d_Mo_part_93 rfl (lv_at hl 2 rfl) ?_
                refine lv_if_ne hx hb d_Mo_part_94 (tgt := 108) (by decide) (fun g94 => ?_) (fun g94 => ?_)
                · have g94 := (iz_ne).mp g94
                  refine lv_aload_n hx hb d_Mo_part_108 rfl (lv_at hl 1 rfl) ?_
                  refine va_get (D := D) (ci := 4) (v := .ref m2) (C := R_Mo) (T := F_Mo) (N := 16) hx hb hts in_Mo hown hK hP 0 rfl rfl 2 (by decide) (hts _ tw_605) (fun _ h9 => h9) rfl d_Mo_part_109 ?_
                  refine lv_sipush (v := 1502) hx hb d_Mo_part_112 (by decide) ?_
                  refine lv_topi (fun v112 e112 => ?_)
                  have t112 : v112.toInt = 1502 := by rw [e112]; rfl
                  refine va_lald hx hb hK hP 2 0 rfl rfl (ia_in ⟨by omega, by omega⟩) d_Mo_part_115 ?_
                  refine lv_topl (fun v115 e115 => ?_)
                  have e115 : v115 = p2 v112.toInt.toNat := e115
                  have hpost : (mcu = 0 ∧ mth2_64.toInt = 1) ∨ (¬ mcu = 0 ∧ ¬ (0 ≤ i0.toInt ∧ i0.toInt < (if mso.toInt < 2 then mso.toInt + 1 else (p4 1502).toInt)) ∧ mth2_64.toInt = 2) ∨ (¬ mcu = 0 ∧ 0 ≤ i0.toInt ∧ i0.toInt < (if mso.toInt < 2 then mso.toInt + 1 else (p4 1502).toInt) ∧ mth2_64.toInt = 0 ∧ (mso.toInt = 2 → v115.toInt = (p3 (36048 + i0.toInt.toNat)).toInt) ∧ (mso.toInt < 2 → v115 = if i0.toInt = 0 then p1 1502 else p2 1502)) := by
                    first
                    | (exfalso; omega)
                    | (refine Or.inr (Or.inr ⟨iz_ne.mpr g5, by omega, by rw [← hpn]; omega, by omega, fun h5 => ?_, fun h5 => ?_⟩)
                       · first
                         | (exfalso; omega)
                         | (rw [e89, Jvm.Kit.i64_of_i32, e88, show v87.toInt.toNat = 36048 + i0.toInt.toNat by omega])
                       · first
                         | (exfalso; omega)
                         | (rw [if_pos (by omega), e104, show v101.toInt.toNat = 1502 by omega])
                         | (rw [if_neg (by omega), e115, show v112.toInt.toNat = 1502 by omega]))
                  have hP9 := hP.sub (ws' := [(mo, .inr (4, [.int mso, .ref m1, .ref m2, .ref m3, .ref m4, .ref m5, .ref m6, .int mct, .ref m7, .int mfr, .int mcu, .int mth2_64, .ref m8, .ref m9, .ref ma, .ref mb])), (m1, .inl (cL, 1503, .inr (.inl p1))), (m2, .inl (cL, 1503, .inr (.inl p2))), (m3, .inl (cI, 36072, .inl p3)), (m4, .inl (cI, 1503, .inl p4)), (m5, .inl (cL, 1500, .inr (.inl p5))), (m6, .inl (cI, 1500, .inl p6)), (m7, .inl (cI, 1500, .inl p7)), (m8, .inl (cI, 50, .inl p8)), (m9, .inl (cI, 50, .inl p9)), (ma, .inl (cI, 1500, .inl pa)), (mb, .inl (cI, 50, .inl pb))]) [0, 1, 2, 3, 4, 5, 6, 7, 8, 9, 10, 11] rfl
                  have hD9 := hD.sub (ws' := [(mo, .inr (4, [.int mso, .ref m1, .ref m2, .ref m3, .ref m4, .ref m5, .ref m6, .int mct, .ref m7, .int mfr, .int mcu, .int mth2_64, .ref m8, .ref m9, .ref ma, .ref mb])), (m1, .inl (cL, 1503, .inr (.inl p1))), (m2, .inl (cL, 1503, .inr (.inl p2))), (m3, .inl (cI, 36072, .inl p3)), (m4, .inl (cI, 1503, .inl p4)), (m5, .inl (cL, 1500, .inr (.inl p5))), (m6, .inl (cI, 1500, .inl p6)), (m7, .inl (cI, 1500, .inl p7)), (m8, .inl (cI, 50, .inl p8)), (m9, .inl (cI, 50, .inl p9)), (ma, .inl (cI, 1500, .inl pa)), (mb, .inl (cI, 50, .inl pb))]) [0, 1, 2, 3, 4, 5, 6, 7, 8, 9, 10, 11] (by decide) rfl
                  rw [hQ]
                  exact W.lret (v := v115) hx hb hr (fun t ht hW => ⟨⟨v115, (mth2_64), rfl, hpost, by rw [ht]; exact hP9, va_K.moved hW.alike hK, hD9⟩, hS.F ht⟩) hS.2.2 d_Mo_part_116
                · have g94 := (iz_eq).mp g94
                  refine lv_aload_n hx hb d_Mo_part_97 rfl (lv_at hl 1 rfl) ?_
                  refine va_get (D := D) (ci := 4) (v := .ref m1) (C := R_Mo) (T := F_Mo) (N := 16) hx hb hts in_Mo hown hK hP 0 rfl rfl 1 (by decide) (hts _ tw_604) (fun _ h9 => h9) rfl d_Mo_part_98 ?_
                  refine lv_sipush (v := 1502) hx hb d_Mo_part_101 (by decide) ?_
                  refine lv_topi (fun v101 e101 => ?_)
                  have t101 : v101.toInt = 1502 := by rw [e101]; rfl
                  refine va_lald hx hb hK hP 1 0 rfl rfl (ia_in ⟨by omega, by omega⟩) d_Mo_part_104 ?_
                  refine lv_topl (fun v104 e104 => ?_)
                  have e104 : v104 = p1 v101.toInt.toNat := e104
                  refine lv_goto hx hb d_Mo_part_105 (tgt := 116) (by decide) ?_
                  have hpost : (mcu = 0 ∧ mth2_64.toInt = 1) ∨ (¬ mcu = 0 ∧ ¬ (0 ≤ i0.toInt ∧ i0.toInt < (if mso.toInt < 2 then mso.toInt + 1 else (p4 1502).toInt)) ∧ mth2_64.toInt = 2) ∨ (¬ mcu = 0 ∧ 0 ≤ i0.toInt ∧ i0.toInt < (if mso.toInt < 2 then mso.toInt + 1 else (p4 1502).toInt) ∧ mth2_64.toInt = 0 ∧ (mso.toInt = 2 → v104.toInt = (p3 (36048 + i0.toInt.toNat)).toInt) ∧ (mso.toInt < 2 → v104 = if i0.toInt = 0 then p1 1502 else p2 1502)) := by
                    first
                    | (exfalso; omega)
                    | (refine Or.inr (Or.inr ⟨iz_ne.mpr g5, by omega, by rw [← hpn]; omega, by omega, fun h5 => ?_, fun h5 => ?_⟩)
                       · first
                         | (exfalso; omega)
                         | (rw [e89, Jvm.Kit.i64_of_i32, e88, show v87.toInt.toNat = 36048 + i0.toInt.toNat by omega])
                       · first
                         | (exfalso; omega)
                         | (rw [if_pos (by omega), e104, show v101.toInt.toNat = 1502 by omega])
                         | (rw [if_neg (by omega), e115, show v112.toInt.toNat = 1502 by omega]))
                  have hP9 := hP.sub (ws' := [(mo, .inr (4, [.int mso, .ref m1, .ref m2, .ref m3, .ref m4, .ref m5, .ref m6, .int mct, .ref m7, .int mfr, .int mcu, .int mth2_64, .ref m8, .ref m9, .ref ma, .ref mb])), (m1, .inl (cL, 1503, .inr (.inl p1))), (m2, .inl (cL, 1503, .inr (.inl p2))), (m3, .inl (cI, 36072, .inl p3)), (m4, .inl (cI, 1503, .inl p4)), (m5, .inl (cL, 1500, .inr (.inl p5))), (m6, .inl (cI, 1500, .inl p6)), (m7, .inl (cI, 1500, .inl p7)), (m8, .inl (cI, 50, .inl p8)), (m9, .inl (cI, 50, .inl p9)), (ma, .inl (cI, 1500, .inl pa)), (mb, .inl (cI, 50, .inl pb))]) [0, 1, 2, 3, 4, 5, 6, 7, 8, 9, 10, 11] rfl
                  have hD9 := hD.sub (ws' := [(mo, .inr (4, [.int mso, .ref m1, .ref m2, .ref m3, .ref m4, .ref m5, .ref m6, .int mct, .ref m7, .int mfr, .int mcu, .int mth2_64, .ref m8, .ref m9, .ref ma, .ref mb])), (m1, .inl (cL, 1503, .inr (.inl p1))), (m2, .inl (cL, 1503, .inr (.inl p2))), (m3, .inl (cI, 36072, .inl p3)), (m4, .inl (cI, 1503, .inl p4)), (m5, .inl (cL, 1500, .inr (.inl p5))), (m6, .inl (cI, 1500, .inl p6)), (m7, .inl (cI, 1500, .inl p7)), (m8, .inl (cI, 50, .inl p8)), (m9, .inl (cI, 50, .inl p9)), (ma, .inl (cI, 1500, .inl pa)), (mb, .inl (cI, 50, .inl pb))]) [0, 1, 2, 3, 4, 5, 6, 7, 8, 9, 10, 11] (by decide) rfl
                  rw [hQ]
                  exact W.lret (v := v104) hx hb hr (fun t ht hW => ⟨⟨v104, (mth2_64), rfl, hpost, by rw [ht]; exact hP9, va_K.moved hW.alike hK, hD9⟩, hS.F ht⟩) hS.2.2 d_Mo_part_116
              · have g77 := ic_eq.mp g77
                refine lv_aload_n hx hb d_Mo_part_80 rfl (lv_at hl 1 rfl) ?_
                refine va_get (D := D) (ci := 4) (v := .ref m3) (C := R_Mo) (T := F_Mo) (N := 16) hx hb hts in_Mo hown hK hP 0 rfl rfl 3 (by decide) (hts _ tw_606) (fun _ h9 => h9) rfl d_Mo_part_81 ?_
                refine lv_ldc (v := 36048) hx hb hown (hts _ tw_752) d_Mo_part_84 ?_
                refine lv_topi (fun v84 e84 => ?_)
                have t84 : v84.toInt = 36048 := by rw [e84]; rfl
                refine lv_iload_n hx hb d_Mo_part_86 rfl (lv_at hl 2 rfl) ?_
                refine lv_iadd hx hb d_Mo_part_87 ?_
                refine lv_topi (fun v87 e87 => ?_)
                have t87 := ia_add e87 ⟨by omega, by omega⟩
                refine va_iald hx hb hK hP 3 1 rfl rfl (ia_in ⟨by first | omega | (exfalso; omega), by first | omega | (have h5 := hpm (by omega); omega)⟩) d_Mo_part_88 ?_
                refine lv_topi (fun v88 e88 => ?_)
                have e88 : v88 = p3 v87.toInt.toNat := e88
                refine lv_i2l hx hb d_Mo_part_89 rfl ?_
                refine lv_topl (fun v89 e89 => ?_)
                refine lv_goto hx hb d_Mo_part_90 (tgt := 116) (by decide) ?_
                have hpost : (mcu = 0 ∧ mth2_64.toInt = 1) ∨ (¬ mcu = 0 ∧ ¬ (0 ≤ i0.toInt ∧ i0.toInt < (if mso.toInt < 2 then mso.toInt + 1 else (p4 1502).toInt)) ∧ mth2_64.toInt = 2) ∨ (¬ mcu = 0 ∧ 0 ≤ i0.toInt ∧ i0.toInt < (if mso.toInt < 2 then mso.toInt + 1 else (p4 1502).toInt) ∧ mth2_64.toInt = 0 ∧ (mso.toInt = 2 → v89.toInt = (p3 (36048 + i0.toInt.toNat)).toInt) ∧ (mso.toInt < 2 → v89 = if i0.toInt = 0 then p1 1502 else p2 1502)) := by
                  first
                  | (exfalso; omega)
                  | (refine Or.inr (Or.inr ⟨iz_ne.mpr g5, by omega, by rw [← hpn]; omega, by omega, fun h5 => ?_, fun h5 => ?_⟩)
                     · first
                       | (exfalso; omega)
                       | (rw [e89, Jvm.Kit.i64_of_i32, e88, show v87.toInt.toNat = 36048 + i0.toInt.toNat by omega])
                     · first
                       | (exfalso; omega)
                       | (rw [if_pos (by omega), e104, show v101.toInt.toNat = 1502 by omega])
                       | (rw [if_neg (by omega), e115, show v112.toInt.toNat = 1502 by omega]))
                have hP9 := hP.sub (ws' := [(mo, .inr (4, [.int mso, .ref m1, .ref m2, .ref m3, .ref m4, .ref m5, .ref m6, .int mct, .ref m7, .int mfr, .int mcu, .int mth2_64, .ref m8, .ref m9, .ref ma, .ref mb])), (m1, .inl (cL, 1503, .inr (.inl p1))), (m2, .inl (cL, 1503, .inr (.inl p2))), (m3, .inl (cI, 36072, .inl p3)), (m4, .inl (cI, 1503, .inl p4)), (m5, .inl (cL, 1500, .inr (.inl p5))), (m6, .inl (cI, 1500, .inl p6)), (m7, .inl (cI, 1500, .inl p7)), (m8, .inl (cI, 50, .inl p8)), (m9, .inl (cI, 50, .inl p9)), (ma, .inl (cI, 1500, .inl pa)), (mb, .inl (cI, 50, .inl pb))]) [0, 1, 2, 3, 4, 5, 6, 7, 8, 9, 10, 11] rfl
                have hD9 := hD.sub (ws' := [(mo, .inr (4, [.int mso, .ref m1, .ref m2, .ref m3, .ref m4, .ref m5, .ref m6, .int mct, .ref m7, .int mfr, .int mcu, .int mth2_64, .ref m8, .ref m9, .ref ma, .ref mb])), (m1, .inl (cL, 1503, .inr (.inl p1))), (m2, .inl (cL, 1503, .inr (.inl p2))), (m3, .inl (cI, 36072, .inl p3)), (m4, .inl (cI, 1503, .inl p4)), (m5, .inl (cL, 1500, .inr (.inl p5))), (m6, .inl (cI, 1500, .inl p6)), (m7, .inl (cI, 1500, .inl p7)), (m8, .inl (cI, 50, .inl p8)), (m9, .inl (cI, 50, .inl p9)), (ma, .inl (cI, 1500, .inl pa)), (mb, .inl (cI, 50, .inl pb))]) [0, 1, 2, 3, 4, 5, 6, 7, 8, 9, 10, 11] (by decide) rfl
                rw [hQ]
                exact W.lret (v := v89) hx hb hr (fun t ht hW => ⟨⟨v89, (mth2_64), rfl, hpost, by rw [ht]; exact hP9, va_K.moved hW.alike hK, hD9⟩, hS.F ht⟩) hS.2.2 d_Mo_part_116
            · have g67 := (iz_ne).mp g67
              exfalso; omega
          · have g55 := ic_nlt.mp g55
            refine lv_iconst (v := 1) hx hb d_Mo_part_58 (by decide) ?_
            refine lv_topi (fun v58 e58 => ?_)
            have t58 : v58.toInt = 1 := by rw [e58]; rfl
            refine lv_goto hx hb d_Mo_part_59 (tgt := 63) (by decide) ?_
            refine lv_iconst (v := 2) hx hb d_Mo_part_63 (by decide) ?_
            refine lv_topi (fun v63 e63 => ?_)
            have t63 : v63.toInt = 2 := by rw [e63]; rfl
            have hPc := hP.sub (ws' := [(mo, .inr (4, [.int mso, .ref m1, .ref m2, .ref m3, .ref m4, .ref m5, .ref m6, .int mct, .ref m7, .int mfr, .int mcu, .int mth2_14, .ref m8, .ref m9, .ref ma, .ref mb])), (m1, .inl (cL, 1503, .inr (.inl p1))), (m2, .inl (cL, 1503, .inr (.inl p2))), (m3, .inl (cI, 36072, .inl p3)), (m4, .inl (cI, 1503, .inl p4)), (m5, .inl (cL, 1500, .inr (.inl p5))), (m6, .inl (cI, 1500, .inl p6)), (m7, .inl (cI, 1500, .inl p7)), (m8, .inl (cI, 50, .inl p8)), (m9, .inl (cI, 50, .inl p9)), (ma, .inl (cI, 1500, .inl pa)), (mb, .inl (cI, 50, .inl pb))]) [0, 1, 2, 3, 4, 5, 6, 7, 8, 9, 10, 11] rfl
            have hDc := hD.sub (ws' := [(mo, .inr (4, [.int mso, .ref m1, .ref m2, .ref m3, .ref m4, .ref m5, .ref m6, .int mct, .ref m7, .int mfr, .int mcu, .int mth2_14, .ref m8, .ref m9, .ref ma, .ref mb])), (m1, .inl (cL, 1503, .inr (.inl p1))), (m2, .inl (cL, 1503, .inr (.inl p2))), (m3, .inl (cI, 36072, .inl p3)), (m4, .inl (cI, 1503, .inl p4)), (m5, .inl (cL, 1500, .inr (.inl p5))), (m6, .inl (cI, 1500, .inl p6)), (m7, .inl (cI, 1500, .inl p7)), (m8, .inl (cI, 50, .inl p8)), (m9, .inl (cI, 50, .inl p9)), (ma, .inl (cI, 1500, .inl pa)), (mb, .inl (cI, 50, .inl pb))]) [0, 1, 2, 3, 4, 5, 6, 7, 8, 9, 10, 11] (by decide) rfl
            have hFc := va_free (wc := [(mo, .inr (4, [.int mso, .ref m1, .ref m2, .ref m3, .ref m4, .ref m5, .ref m6, .int mct, .ref m7, .int mfr, .int mcu, .int mth2_14, .ref m8, .ref m9, .ref ma, .ref mb])), (m1, .inl (cL, 1503, .inr (.inl p1))), (m2, .inl (cL, 1503, .inr (.inl p2))), (m3, .inl (cI, 36072, .inl p3)), (m4, .inl (cI, 1503, .inl p4)), (m5, .inl (cL, 1500, .inr (.inl p5))), (m6, .inl (cI, 1500, .inl p6)), (m7, .inl (cI, 1500, .inl p7)), (m8, .inl (cI, 50, .inl p8)), (m9, .inl (cI, 50, .inl p9)), (ma, .inl (cI, 1500, .inl pa)), (mb, .inl (cI, 50, .inl pb))]) hD hS hA [0, 1, 2, 3, 4, 5, 6, 7, 8, 9, 10, 11] rfl
            refine va_calli (xr_mv (As := [.int v58, .int v63]) (rest := []) ⟨hx, hb, hml, hown, hts⟩ (c_Mo_fails l D cL cI mo m1 m2 m3 m4 m5 m6 m7 m8 m9 ma mb mso mct mfr mcu mth2_14 p1 p2 p5 p3 p4 p6 p7 p8 p9 pa pb v58 v63 H.size (by first | omega | exact hso)) (xr_cv 2 hts tw_663 tw_660 tw_662 tp_10 tw_7 rfl rfl (by decide) ⟨Nat.le_of_ble_eq_true rfl, Nat.le_of_ble_eq_true rfl⟩) hK hPc (hDc.weaken (fun _ _ _ _ => trivial)) (va_recv hK hP rfl (q0 := 0) (ci := 4) rfl) rfl hl.1 rfl (Nat.le_of_ble_eq_true rfl) d_Mo_part_64 ⟨Nat.le_of_ble_eq_true rfl, Nat.le_of_ble_eq_true rfl⟩) hS (fun q _ h => hFc q h) hFc (fun v64 u64 tt64 H1 locs ht64 hvm64 e64 hB64 hz64 hk64 hS => ?_)
            obtain ⟨mth2_64, rfl⟩ : ∃ z, z = u64 := ⟨_, rfl⟩
            have e64 : v64.toInt = v58.toInt ∧ ((v58.toInt = 0 ∧ mth2_64.toInt = 0) ∨ (v58.toInt ≠ 0 ∧ mth2_64.toInt = v63.toInt)) := e64
            obtain ⟨hP1, hK1, hD1⟩ := hB64
            rw [ht64] at hP1
            obtain ⟨hP, hD⟩ := va_join (wr := []) (w1 := [(mo, .inr (4, [.int mso, .ref m1, .ref m2, .ref m3, .ref m4, .ref m5, .ref m6, .int mct, .ref m7, .int mfr, .int mcu, .int mth2_64, .ref m8, .ref m9, .ref ma, .ref mb])), (m1, .inl (cL, 1503, .inr (.inl p1))), (m2, .inl (cL, 1503, .inr (.inl p2))), (m3, .inl (cI, 36072, .inl p3)), (m4, .inl (cI, 1503, .inl p4)), (m5, .inl (cL, 1500, .inr (.inl p5))), (m6, .inl (cI, 1500, .inl p6)), (m7, .inl (cI, 1500, .inl p7)), (m8, .inl (cI, 50, .inl p8)), (m9, .inl (cI, 50, .inl p9)), (ma, .inl (cI, 1500, .inl pa)), (mb, .inl (cI, 50, .inl pb))]) hP hD [0, 1, 2, 3, 4, 5, 6, 7, 8, 9, 10, 11] [] rfl rfl (by decide) (by decide) hk64 hFc hP1 hD1
            clear hP1 hD1 hPc hDc hFc
            generalize H1 = H at hP hS ⊢
            have hP : va_P D classes [(mo, .inr (4, [.int mso, .ref m1, .ref m2, .ref m3, .ref m4, .ref m5, .ref m6, .int mct, .ref m7, .int mfr, .int mcu, .int mth2_64, .ref m8, .ref m9, .ref ma, .ref mb])), (m1, .inl (cL, 1503, .inr (.inl p1))), (m2, .inl (cL, 1503, .inr (.inl p2))), (m3, .inl (cI, 36072, .inl p3)), (m4, .inl (cI, 1503, .inl p4)), (m5, .inl (cL, 1500, .inr (.inl p5))), (m6, .inl (cI, 1500, .inl p6)), (m7, .inl (cI, 1500, .inl p7)), (m8, .inl (cI, 50, .inl p8)), (m9, .inl (cI, 50, .inl p9)), (ma, .inl (cI, 1500, .inl pa)), (mb, .inl (cI, 50, .inl pb))] H := hP
            have hD : va_D A [(mo, .inr (4, [.int mso, .ref m1, .ref m2, .ref m3, .ref m4, .ref m5, .ref m6, .int mct, .ref m7, .int mfr, .int mcu, .int mth2_64, .ref m8, .ref m9, .ref ma, .ref mb])), (m1, .inl (cL, 1503, .inr (.inl p1))), (m2, .inl (cL, 1503, .inr (.inl p2))), (m3, .inl (cI, 36072, .inl p3)), (m4, .inl (cI, 1503, .inl p4)), (m5, .inl (cL, 1500, .inr (.inl p5))), (m6, .inl (cI, 1500, .inl p6)), (m7, .inl (cI, 1500, .inl p7)), (m8, .inl (cI, 50, .inl p8)), (m9, .inl (cI, 50, .inl p9)), (ma, .inl (cI, 1500, .inl pa)), (mb, .inl (cI, 50, .inl pb))] := hD
            refine lv_if_eq hx hb d_Mo_part_67 (tgt := 72) (by decide) (fun g67 => ?_) (fun g67 => ?_)
            · have g67 := (iz_eq).mp g67
              exfalso; omega
            · have g67 := (iz_ne).mp g67
              refine lv_lconst (v := 0) hx hb d_Mo_part_70 (by decide) ?_
              refine lv_topl (fun v70 e70 => ?_)
              have hpost : (mcu = 0 ∧ mth2_64.toInt = 1) ∨ (¬ mcu = 0 ∧ ¬ (0 ≤ i0.toInt ∧ i0.toInt < (if mso.toInt < 2 then mso.toInt + 1 else (p4 1502).toInt)) ∧ mth2_64.toInt = 2) ∨ (¬ mcu = 0 ∧ 0 ≤ i0.toInt ∧ i0.toInt < (if mso.toInt < 2 then mso.toInt + 1 else (p4 1502).toInt) ∧ mth2_64.toInt = 0 ∧ (mso.toInt = 2 → v70.toInt = (p3 (36048 + i0.toInt.toNat)).toInt) ∧ (mso.toInt < 2 → v70 = if i0.toInt = 0 then p1 1502 else p2 1502)) := by
                first
                | (exfalso; omega)
                | exact Or.inr (Or.inl ⟨iz_ne.mpr g5, by rw [← hpn]; omega, by omega⟩)
              have hP9 := hP.sub (ws' := [(mo, .inr (4, [.int mso, .ref m1, .ref m2, .ref m3, .ref m4, .ref m5, .ref m6, .int mct, .ref m7, .int mfr, .int mcu, .int mth2_64, .ref m8, .ref m9, .ref ma, .ref mb])), (m1, .inl (cL, 1503, .inr (.inl p1))), (m2, .inl (cL, 1503, .inr (.inl p2))), (m3, .inl (cI, 36072, .inl p3)), (m4, .inl (cI, 1503, .inl p4)), (m5, .inl (cL, 1500, .inr (.inl p5))), (m6, .inl (cI, 1500, .inl p6)), (m7, .inl (cI, 1500, .inl p7)), (m8, .inl (cI, 50, .inl p8)), (m9, .inl (cI, 50, .inl p9)), (ma, .inl (cI, 1500, .inl pa)), (mb, .inl (cI, 50, .inl pb))]) [0, 1, 2, 3, 4, 5, 6, 7, 8, 9, 10, 11] rfl
              have hD9 := hD.sub (ws' := [(mo, .inr (4, [.int mso, .ref m1, .ref m2, .ref m3, .ref m4, .ref m5, .ref m6, .int mct, .ref m7, .int mfr, .int mcu, .int mth2_64, .ref m8, .ref m9, .ref ma, .ref mb])), (m1, .inl (cL, 1503, .inr (.inl p1))), (m2, .inl (cL, 1503, .inr (.inl p2))), (m3, .inl (cI, 36072, .inl p3)), (m4, .inl (cI, 1503, .inl p4)), (m5, .inl (cL, 1500, .inr (.inl p5))), (m6, .inl (cI, 1500, .inl p6)), (m7, .inl (cI, 1500, .inl p7)), (m8, .inl (cI, 50, .inl p8)), (m9, .inl (cI, 50, .inl p9)), (ma, .inl (cI, 1500, .inl pa)), (mb, .inl (cI, 50, .inl pb))]) [0, 1, 2, 3, 4, 5, 6, 7, 8, 9, 10, 11] (by decide) rfl
              rw [hQ]
              exact W.lret (v := v70) hx hb hr (fun t ht hW => ⟨⟨v70, (mth2_64), rfl, hpost, by rw [ht]; exact hP9, va_K.moved hW.alike hK, hD9⟩, hS.F ht⟩) hS.2.2 d_Mo_part_71
    · have g17 := (iz_ne).mp g17
      exfalso; omega
  · have g5 := (iz_eq).mp g5
    refine lv_iconst (v := 1) hx hb d_Mo_part_8 (by decide) ?_
    refine lv_topi (fun v8 e8 => ?_)
    have t8 : v8.toInt = 1 := by rw [e8]; rfl
    refine lv_goto hx hb d_Mo_part_9 (tgt := 13) (by decide) ?_
    refine lv_iconst (v := 1) hx hb d_Mo_part_13 (by decide) ?_
    refine lv_topi (fun v13 e13 => ?_)
    have t13 : v13.toInt = 1 := by rw [e13]; rfl
    have hPc := hP.sub (ws' := [(mo, .inr (4, [.int mso, .ref m1, .ref m2, .ref m3, .ref m4, .ref m5, .ref m6, .int mct, .ref m7, .int mfr, .int mcu, .int mth, .ref m8, .ref m9, .ref ma, .ref mb])), (m1, .inl (cL, 1503, .inr (.inl p1))), (m2, .inl (cL, 1503, .inr (.inl p2))), (m3, .inl (cI, 36072, .inl p3)), (m4, .inl (cI, 1503, .inl p4)), (m5, .inl (cL, 1500, .inr (.inl p5))), (m6, .inl (cI, 1500, .inl p6)), (m7, .inl (cI, 1500, .inl p7)), (m8, .inl (cI, 50, .inl p8)), (m9, .inl (cI, 50, .inl p9)), (ma, .inl (cI, 1500, .inl pa)), (mb, .inl (cI, 50, .inl pb))]) [0, 1, 2, 3, 4, 5, 6, 7, 8, 9, 10, 11] rfl
    have hDc := hD.sub (ws' := [(mo, .inr (4, [.int mso, .ref m1, .ref m2, .ref m3, .ref m4, .ref m5, .ref m6, .int mct, .ref m7, .int mfr, .int mcu, .int mth, .ref m8, .ref m9, .ref ma, .ref mb])), (m1, .inl (cL, 1503, .inr (.inl p1))), (m2, .inl (cL, 1503, .inr (.inl p2))), (m3, .inl (cI, 36072, .inl p3)), (m4, .inl (cI, 1503, .inl p4)), (m5, .inl (cL, 1500, .inr (.inl p5))), (m6, .inl (cI, 1500, .inl p6)), (m7, .inl (cI, 1500, .inl p7)), (m8, .inl (cI, 50, .inl p8)), (m9, .inl (cI, 50, .inl p9)), (ma, .inl (cI, 1500, .inl pa)), (mb, .inl (cI, 50, .inl pb))]) [0, 1, 2, 3, 4, 5, 6, 7, 8, 9, 10, 11] (by decide) rfl
    have hFc := va_free (wc := [(mo, .inr (4, [.int mso, .ref m1, .ref m2, .ref m3, .ref m4, .ref m5, .ref m6, .int mct, .ref m7, .int mfr, .int mcu, .int mth, .ref m8, .ref m9, .ref ma, .ref mb])), (m1, .inl (cL, 1503, .inr (.inl p1))), (m2, .inl (cL, 1503, .inr (.inl p2))), (m3, .inl (cI, 36072, .inl p3)), (m4, .inl (cI, 1503, .inl p4)), (m5, .inl (cL, 1500, .inr (.inl p5))), (m6, .inl (cI, 1500, .inl p6)), (m7, .inl (cI, 1500, .inl p7)), (m8, .inl (cI, 50, .inl p8)), (m9, .inl (cI, 50, .inl p9)), (ma, .inl (cI, 1500, .inl pa)), (mb, .inl (cI, 50, .inl pb))]) hD hS hA [0, 1, 2, 3, 4, 5, 6, 7, 8, 9, 10, 11] rfl
    refine va_calli (xr_mv (As := [.int v8, .int v13]) (rest := []) ⟨hx, hb, hml, hown, hts⟩ (c_Mo_fails l D cL cI mo m1 m2 m3 m4 m5 m6 m7 m8 m9 ma mb mso mct mfr mcu mth p1 p2 p5 p3 p4 p6 p7 p8 p9 pa pb v8 v13 s.heap.size (by first | omega | exact hso)) (xr_cv 2 hts tw_663 tw_660 tw_662 tp_10 tw_7 rfl rfl (by decide) ⟨Nat.le_of_ble_eq_true rfl, Nat.le_of_ble_eq_true rfl⟩) hK hPc (hDc.weaken (fun _ _ _ _ => trivial)) (va_recv hK hP rfl (q0 := 0) (ci := 4) rfl) rfl hl.1 rfl (Nat.le_of_ble_eq_true rfl) d_Mo_part_14 ⟨Nat.le_of_ble_eq_true rfl, Nat.le_of_ble_eq_true rfl⟩) hS (fun q _ h => hFc q h) hFc (fun v14 u14 tt14 H1 locs ht14 hvm14 e14 hB14 hz14 hk14 hS => ?_)
    obtain ⟨mth2_14, rfl⟩ : ∃ z, z = u14 := ⟨_, rfl⟩
    have e14 : v14.toInt = v8.toInt ∧ ((v8.toInt = 0 ∧ mth2_14.toInt = 0) ∨ (v8.toInt ≠ 0 ∧ mth2_14.toInt = v13.toInt)) := e14
    obtain ⟨hP1, hK1, hD1⟩ := hB14
    rw [ht14] at hP1
    obtain ⟨hP, hD⟩ := va_join (wr := []) (w1 := [(mo, .inr (4, [.int mso, .ref m1, .ref m2, .ref m3, .ref m4, .ref m5, .ref m6, .int mct, .ref m7, .int mfr, .int mcu, .int mth2_14, .ref m8, .ref m9, .ref ma, .ref mb])), (m1, .inl (cL, 1503, .inr (.inl p1))), (m2, .inl (cL, 1503, .inr (.inl p2))), (m3, .inl (cI, 36072, .inl p3)), (m4, .inl (cI, 1503, .inl p4)), (m5, .inl (cL, 1500, .inr (.inl p5))), (m6, .inl (cI, 1500, .inl p6)), (m7, .inl (cI, 1500, .inl p7)), (m8, .inl (cI, 50, .inl p8)), (m9, .inl (cI, 50, .inl p9)), (ma, .inl (cI, 1500, .inl pa)), (mb, .inl (cI, 50, .inl pb))]) hP hD [0, 1, 2, 3, 4, 5, 6, 7, 8, 9, 10, 11] [] rfl rfl (by decide) (by decide) hk14 hFc hP1 hD1
    clear hP1 hD1 hPc hDc hFc
    generalize H1 = H at hP hS ⊢
    have hP : va_P D classes [(mo, .inr (4, [.int mso, .ref m1, .ref m2, .ref m3, .ref m4, .ref m5, .ref m6, .int mct, .ref m7, .int mfr, .int mcu, .int mth2_14, .ref m8, .ref m9, .ref ma, .ref mb])), (m1, .inl (cL, 1503, .inr (.inl p1))), (m2, .inl (cL, 1503, .inr (.inl p2))), (m3, .inl (cI, 36072, .inl p3)), (m4, .inl (cI, 1503, .inl p4)), (m5, .inl (cL, 1500, .inr (.inl p5))), (m6, .inl (cI, 1500, .inl p6)), (m7, .inl (cI, 1500, .inl p7)), (m8, .inl (cI, 50, .inl p8)), (m9, .inl (cI, 50, .inl p9)), (ma, .inl (cI, 1500, .inl pa)), (mb, .inl (cI, 50, .inl pb))] H := hP
    have hD : va_D A [(mo, .inr (4, [.int mso, .ref m1, .ref m2, .ref m3, .ref m4, .ref m5, .ref m6, .int mct, .ref m7, .int mfr, .int mcu, .int mth2_14, .ref m8, .ref m9, .ref ma, .ref mb])), (m1, .inl (cL, 1503, .inr (.inl p1))), (m2, .inl (cL, 1503, .inr (.inl p2))), (m3, .inl (cI, 36072, .inl p3)), (m4, .inl (cI, 1503, .inl p4)), (m5, .inl (cL, 1500, .inr (.inl p5))), (m6, .inl (cI, 1500, .inl p6)), (m7, .inl (cI, 1500, .inl p7)), (m8, .inl (cI, 50, .inl p8)), (m9, .inl (cI, 50, .inl p9)), (ma, .inl (cI, 1500, .inl pa)), (mb, .inl (cI, 50, .inl pb))] := hD
    refine lv_if_eq hx hb d_Mo_part_17 (tgt := 22) (by decide) (fun g17 => ?_) (fun g17 => ?_)
    · have g17 := (iz_eq).mp g17
      exfalso; omega
    · have g17 := (iz_ne).mp g17
      refine lv_lconst (v := 0) hx hb d_Mo_part_20 (by decide) ?_
      refine lv_topl (fun v20 e20 => ?_)
      have hpost : (mcu = 0 ∧ mth2_14.toInt = 1) ∨ (¬ mcu = 0 ∧ ¬ (0 ≤ i0.toInt ∧ i0.toInt < (if mso.toInt < 2 then mso.toInt + 1 else (p4 1502).toInt)) ∧ mth2_14.toInt = 2) ∨ (¬ mcu = 0 ∧ 0 ≤ i0.toInt ∧ i0.toInt < (if mso.toInt < 2 then mso.toInt + 1 else (p4 1502).toInt) ∧ mth2_14.toInt = 0 ∧ (mso.toInt = 2 → v20.toInt = (p3 (36048 + i0.toInt.toNat)).toInt) ∧ (mso.toInt < 2 → v20 = if i0.toInt = 0 then p1 1502 else p2 1502)) := by
        first
        | (exfalso; omega)
        | exact Or.inl ⟨iz_eq.mpr g5, by omega⟩
      have hP9 := hP.sub (ws' := [(mo, .inr (4, [.int mso, .ref m1, .ref m2, .ref m3, .ref m4, .ref m5, .ref m6, .int mct, .ref m7, .int mfr, .int mcu, .int mth2_14, .ref m8, .ref m9, .ref ma, .ref mb])), (m1, .inl (cL, 1503, .inr (.inl p1))), (m2, .inl (cL, 1503, .inr (.inl p2))), (m3, .inl (cI, 36072, .inl p3)), (m4, .inl (cI, 1503, .inl p4)), (m5, .inl (cL, 1500, .inr (.inl p5))), (m6, .inl (cI, 1500, .inl p6)), (m7, .inl (cI, 1500, .inl p7)), (m8, .inl (cI, 50, .inl p8)), (m9, .inl (cI, 50, .inl p9)), (ma, .inl (cI, 1500, .inl pa)), (mb, .inl (cI, 50, .inl pb))]) [0, 1, 2, 3, 4, 5, 6, 7, 8, 9, 10, 11] rfl
      have hD9 := hD.sub (ws' := [(mo, .inr (4, [.int mso, .ref m1, .ref m2, .ref m3, .ref m4, .ref m5, .ref m6, .int mct, .ref m7, .int mfr, .int mcu, .int mth2_14, .ref m8, .ref m9, .ref ma, .ref mb])), (m1, .inl (cL, 1503, .inr (.inl p1))), (m2, .inl (cL, 1503, .inr (.inl p2))), (m3, .inl (cI, 36072, .inl p3)), (m4, .inl (cI, 1503, .inl p4)), (m5, .inl (cL, 1500, .inr (.inl p5))), (m6, .inl (cI, 1500, .inl p6)), (m7, .inl (cI, 1500, .inl p7)), (m8, .inl (cI, 50, .inl p8)), (m9, .inl (cI, 50, .inl p9)), (ma, .inl (cI, 1500, .inl pa)), (mb, .inl (cI, 50, .inl pb))]) [0, 1, 2, 3, 4, 5, 6, 7, 8, 9, 10, 11] (by decide) rfl
      rw [hQ]
      exact W.lret (v := v20) hx hb hr (fun t ht hW => ⟨⟨v20, (mth2_14), rfl, hpost, by rw [ht]; exact hP9, va_K.moved hW.alike hK, hD9⟩, hS.F ht⟩) hS.2.2 d_Mo_part_21
set_option maxRecDepth 100000 in
set_option maxHeartbeats 4000000 in
theorem c_Mo_value (l : Launch) (D : va_G) (cL cI : ClassId) (mo m1 m2 m3 m4 m5 m6 m7 m8 m9 ma mb : Nat) (mso mct mfr mcu mth : Int32) (p1 p2 p5 : Nat → Int64) (p3 p4 p6 p7 p8 p9 pa pb : Nat → Int32) (w : Nat) (KW : Nat → Nat → Int64) (n : Nat) (sz : Nat) (hws : (mso.toInt = 0 ∧ w = 1) ∨ (mso.toInt = 1 ∧ w = 2) ∨ (mso.toInt = 2 ∧ w = 7)) (hkr : ∀ x, x < 1503 → KR mso.toInt p1 p2 p3 p4 x (KW x)) (hct : mct.toInt = (n : Int)) (hn : n ≤ 1500) (hor : ∀ k, k < n → 0 ≤ (p6 k).toInt ∧ (p6 k).toInt < 1500) (hs : ob_srt w n (fun k => KW (p6 k).toInt.toNat)) : Met l y_Mo_value (Cond.code y_Mo_value prog_6_method_27_code 2 (some .long) :: TW) ({ frames := 4, cells := 0, slots := 0, locals := 112 } : Room) (PM D cL cI [.ref mo] [(mo, .inr (4, [.int mso, .ref m1, .ref m2, .ref m3, .ref m4, .ref m5, .ref m6, .int mct, .ref m7, .int mfr, .int mcu, .int mth, .ref m8, .ref m9, .ref ma, .ref mb])), (m1, .inl (cL, 1503, .inr (.inl p1))), (m2, .inl (cL, 1503, .inr (.inl p2))), (m3, .inl (cI, 36072, .inl p3)), (m4, .inl (cI, 1503, .inl p4)), (m5, .inl (cL, 1500, .inr (.inl p5))), (m6, .inl (cI, 1500, .inl p6)), (m7, .inl (cI, 1500, .inl p7)), (m8, .inl (cI, 50, .inl p8)), (m9, .inl (cI, 50, .inl p9)), (ma, .inl (cI, 1500, .inl pa)), (mb, .inl (cI, 50, .inl pb))] sz) (va_Ql (fun (r : Int64) (u : (Int32)) => (mcu = 0 ∧ u.toInt = 1) ∨ (¬ mcu = 0 ∧ ∃ q : Nat, ob_isb w n (fun k => KW (p6 k).toInt.toNat) (KW 1502) q ∧ (((q < n ∧ kw_eq w ((fun k => KW (p6 k).toInt.toNat) q) (KW 1502)) ∧ u.toInt = 0 ∧ r = p5 (p6 q).toInt.toNat) ∨ (¬ (q < n ∧ kw_eq w ((fun k => KW (p6 k).toInt.toNat) q) (KW 1502)) ∧ u.toInt = 1)))) (fun (u : (Int32)) (t : State) => va_P D classes [(mo, .inr (4, [.int mso, .ref m1, .ref m2, .ref m3, .ref m4, .ref m5, .ref m6, .int mct, .ref m7, .int mfr, .int mcu, .int u, .ref m8, .ref m9, .ref ma, .ref mb])), (m1, .inl (cL, 1503, .inr (.inl p1))), (m2, .inl (cL, 1503, .inr (.inl p2))), (m3, .inl (cI, 36072, .inl p3)), (m4, .inl (cI, 1503, .inl p4)), (m5, .inl (cL, 1500, .inr (.inl p5))), (m6, .inl (cI, 1500, .inl p6)), (m7, .inl (cI, 1500, .inl p7)), (m8, .inl (cI, 50, .inl p8)), (m9, .inl (cI, 50, .inl p9)), (ma, .inl (cI, 1500, .inl pa)), (mb, .inl (cI, 50, .inl pb))] t.heap ∧ va_K D classes (tyz cL cI) t ∧ va_D (va_A [(mo, .inr (4, [.int mso, .ref m1, .ref m2, .ref m3, .ref m4, .ref m5, .ref m6, .int mct, .ref m7, .int mfr, .int mcu, .int mth, .ref m8, .ref m9, .ref ma, .ref mb])), (m1, .inl (cL, 1503, .inr (.inl p1))), (m2, .inl (cL, 1503, .inr (.inl p2))), (m3, .inl (cI, 36072, .inl p3)), (m4, .inl (cI, 1503, .inl p4)), (m5, .inl (cL, 1500, .inr (.inl p5))), (m6, .inl (cI, 1500, .inl p6)), (m7, .inl (cI, 1500, .inl p7)), (m8, .inl (cI, 50, .inl p8)), (m9, .inl (cI, 50, .inl p9)), (ma, .inl (cI, 1500, .inl pa)), (mb, .inl (cI, 50, .inl pb))] sz) [(mo, .inr (4, [.int mso, .ref m1, .ref m2, .ref m3, .ref m4, .ref m5, .ref m6, .int mct, .ref m7, .int mfr, .int mcu, .int u, .ref m8, .ref m9, .ref ma, .ref mb])), (m1, .inl (cL, 1503, .inr (.inl p1))), (m2, .inl (cL, 1503, .inr (.inl p2))), (m3, .inl (cI, 36072, .inl p3)), (m4, .inl (cI, 1503, .inl p4)), (m5, .inl (cL, 1500, .inr (.inl p5))), (m6, .inl (cI, 1500, .inl p6)), (m7, .inl (cI, 1500, .inl p7)), (m8, .inl (cI, 50, .inl p8)), (m9, .inl (cI, 50, .inl p9)), (ma, .inl (cI, 1500, .inl pa)), (mb, .inl (cI, 50, .inl pb))]) (va_A [(mo, .inr (4, [.int mso, .ref m1, .ref m2, .ref m3, .ref m4, .ref m5, .ref m6, .int mct, .ref m7, .int mfr, .int mcu, .int mth, .ref m8, .ref m9, .ref ma, .ref mb])), (m1, .inl (cL, 1503, .inr (.inl p1))), (m2, .inl (cL, 1503, .inr (.inl p2))), (m3, .inl (cI, 36072, .inl p3)), (m4, .inl (cI, 1503, .inl p4)), (m5, .inl (cL, 1500, .inr (.inl p5))), (m6, .inl (cI, 1500, .inl p6)), (m7, .inl (cI, 1500, .inl p7)), (m8, .inl (cI, 50, .inl p8)), (m9, .inl (cI, 50, .inl p9)), (ma, .inl (cI, 1500, .inl pa)), (mb, .inl (cI, 50, .inl pb))] sz)) 0 0 (va_A [(mo, .inr (4, [.int mso, .ref m1, .ref m2, .ref m3, .ref m4, .ref m5, .ref m6, .int mct, .ref m7, .int mfr, .int mcu, .int mth, .ref m8, .ref m9, .ref ma, .ref mb])), (m1, .inl (cL, 1503, .inr (.inl p1))), (m2, .inl (cL, 1503, .inr (.inl p2))), (m3, .inl (cI, 36072, .inl p3)), (m4, .inl (cI, 1503, .inl p4)), (m5, .inl (cL, 1500, .inr (.inl p5))), (m6, .inl (cI, 1500, .inl p6)), (m7, .inl (cI, 1500, .inl p7)), (m8, .inl (cI, 50, .inl p8)), (m9, .inl (cI, 50, .inl p9)), (ma, .inl (cI, 1500, .inl pa)), (mb, .inl (cI, 50, .inl pb))] sz) := by
  refine xr_met (by decide) ?_
  intro p e s m args below meth c hx hb hr hts hown hlocks hname hml hv
  obtain ⟨rfl, hsz, hP, hK, hD0⟩ := hv
  subst hsz
  have hD := hD0.self (sz := s.heap.size)
  generalize hAe : va_A [(mo, .inr (4, [.int mso, .ref m1, .ref m2, .ref m3, .ref m4, .ref m5, .ref m6, .int mct, .ref m7, .int mfr, .int mcu, .int mth, .ref m8, .ref m9, .ref ma, .ref mb])), (m1, .inl (cL, 1503, .inr (.inl p1))), (m2, .inl (cL, 1503, .inr (.inl p2))), (m3, .inl (cI, 36072, .inl p3)), (m4, .inl (cI, 1503, .inl p4)), (m5, .inl (cL, 1500, .inr (.inl p5))), (m6, .inl (cI, 1500, .inl p6)), (m7, .inl (cI, 1500, .inl p7)), (m8, .inl (cI, 50, .inl p8)), (m9, .inl (cI, 50, .inl p9)), (ma, .inl (cI, 1500, .inl pa)), (mb, .inl (cI, 50, .inl pb))] s.heap.size = A at hD ⊢
  have hA : ∀ q : Nat, s.heap.size ≤ q → A q := fun q h => by rw [← hAe]; exact Or.inr h
  have hS : va_S A s.heap s.heap [] := va_S.rf
  have hD : va_D A [(mo, .inr (4, [.int mso, .ref m1, .ref m2, .ref m3, .ref m4, .ref m5, .ref m6, .int mct, .ref m7, .int mfr, .int mcu, .int mth, .ref m8, .ref m9, .ref ma, .ref mb])), (m1, .inl (cL, 1503, .inr (.inl p1))), (m2, .inl (cL, 1503, .inr (.inl p2))), (m3, .inl (cI, 36072, .inl p3)), (m4, .inl (cI, 1503, .inl p4)), (m5, .inl (cL, 1500, .inr (.inl p5))), (m6, .inl (cI, 1500, .inl p6)), (m7, .inl (cI, 1500, .inl p7)), (m8, .inl (cI, 50, .inl p8)), (m9, .inl (cI, 50, .inl p9)), (ma, .inl (cI, 1500, .inl pa)), (mb, .inl (cI, 50, .inl pb))] := hD
  have hown : s.vm.findClass "BranchStoreModel" = some m.cls := hown
  have hP : va_P D classes [(mo, .inr (4, [.int mso, .ref m1, .ref m2, .ref m3, .ref m4, .ref m5, .ref m6, .int mct, .ref m7, .int mfr, .int mcu, .int mth, .ref m8, .ref m9, .ref ma, .ref mb])), (m1, .inl (cL, 1503, .inr (.inl p1))), (m2, .inl (cL, 1503, .inr (.inl p2))), (m3, .inl (cI, 36072, .inl p3)), (m4, .inl (cI, 1503, .inl p4)), (m5, .inl (cL, 1500, .inr (.inl p5))), (m6, .inl (cI, 1500, .inl p6)), (m7, .inl (cI, 1500, .inl p7)), (m8, .inl (cI, 50, .inl p8)), (m9, .inl (cI, 50, .inl p9)), (ma, .inl (cI, 1500, .inl pa)), (mb, .inl (cI, 50, .inl pb))] s.heap := hP
  have hl := lv_entry ([.ref mo]) (n := 2) (Nat.le_of_ble_eq_true rfl)
  rw [lg_entry_eq]
  generalize (lg_sl ([.ref mo]) ++ List.replicate (2 - (lg_sl ([.ref mo])).length) Slot.unset).toArray = ls at hl ⊢
  have hl : lv_has ls 2 [(0, .ref mo)] := hl
  obtain ⟨Q, hQ⟩ : ∃ Q, Q = MQ below (va_Ql (fun (r : Int64) (u : (Int32)) => (mcu = 0 ∧ u.toInt = 1) ∨ (¬ mcu = 0 ∧ ∃ q : Nat, ob_isb w n (fun k => KW (p6 k).toInt.toNat) (KW 1502) q ∧ (((q < n ∧ kw_eq w ((fun k => KW (p6 k).toInt.toNat) q) (KW 1502)) ∧ u.toInt = 0 ∧ r = p5 (p6 q).toInt.toNat) ∨ (¬ (q < n ∧ kw_eq w ((fun k => KW (p6 k).toInt.toNat) q) (KW 1502)) ∧ u.toInt = 1)))) (fun (u : (Int32)) (t : State) => va_P D classes [(mo, .inr (4, [.int mso, .ref m1, .ref m2, .ref m3, .ref m4, .ref m5, .ref m6, .int mct, .ref m7, .int mfr, .int mcu, .int u, .ref m8, .ref m9, .ref ma, .ref mb])), (m1, .inl (cL, 1503, .inr (.inl p1))), (m2, .inl (cL, 1503, .inr (.inl p2))), (m3, .inl (cI, 36072, .inl p3)), (m4, .inl (cI, 1503, .inl p4)), (m5, .inl (cL, 1500, .inr (.inl p5))), (m6, .inl (cI, 1500, .inl p6)), (m7, .inl (cI, 1500, .inl p7)), (m8, .inl (cI, 50, .inl p8)), (m9, .inl (cI, 50, .inl p9)), (ma, .inl (cI, 1500, .inl pa)), (mb, .inl (cI, 50, .inl pb))] t.heap ∧ va_K D classes (tyz cL cI) t ∧ va_D (A) [(mo, .inr (4, [.int mso, .ref m1, .ref m2, .ref m3, .ref m4, .ref m5, .ref m6, .int mct, .ref m7, .int mfr, .int mcu, .int u, .ref m8, .ref m9, .ref ma, .ref mb])), (m1, .inl (cL, 1503, .inr (.inl p1))), (m2, .inl (cL, 1503, .inr (.inl p2))), (m3, .inl (cI, 36072, .inl p3)), (m4, .inl (cI, 1503, .inl p4)), (m5, .inl (cL, 1500, .inr (.inl p5))), (m6, .inl (cI, 1500, .inl p6)), (m7, .inl (cI, 1500, .inl p7)), (m8, .inl (cI, 50, .inl p8)), (m9, .inl (cI, 50, .inl p9)), (ma, .inl (cI, 1500, .inl pa)), (mb, .inl (cI, 50, .inl pb))]) (A)) ([.ref mo] : List Value).toArray s 0 0 A := ⟨_, rfl⟩
  rw [← hQ]
  refine lv_aload_n hx hb d_Mo_value_0 rfl (lv_at hl 0 rfl) ?_
  refine va_get (D := D) (ci := 4) (v := .int mcu) (C := R_Mo) (T := F_Mo) (N := 16) hx hb hts in_Mo hown hK hP 0 rfl rfl 10 (by decide) (hts _ tw_613) (fun _ h9 => h9) rfl d_Mo_value_1 ?_
  refine lv_if_eq hx hb d_Mo_value_4 (tgt := 17) (by decide) (fun g4 => ?_) (fun g4 => ?_)
  · have g4 := (iz_eq).mp g4
    refine lv_aload_n hx hb d_Mo_value_17 rfl (lv_at hl 0 rfl) ?_
    refine va_get (D := D) (ci := 4) (v := .int mct) (C := R_Mo) (T := F_Mo) (N := 16) hx hb hts in_Mo hown hK hP 0 rfl rfl 7 (by decide) (hts _ tw_610) (fun _ h9 => h9) rfl d_Mo_value_18 ?_
    refine lv_istore_n (lv' := [(1, .int mct), (0, .ref mo)]) hx hb d_Mo_value_21 rfl hl (by decide) rfl (fun ls hl => ?_)
    refine lv_aload_n hx hb d_Mo_value_22 rfl (lv_at hl 1 rfl) ?_
    refine lv_aload_n hx hb d_Mo_value_23 rfl (lv_at hl 1 rfl) ?_
    refine va_get (D := D) (ci := 4) (v := .int mcu) (C := R_Mo) (T := F_Mo) (N := 16) hx hb hts in_Mo hown hK hP 0 rfl rfl 10 (by decide) (hts _ tw_613) (fun _ h9 => h9) rfl d_Mo_value_24 ?_
    refine lv_if_eq hx hb d_Mo_value_27 (tgt := 41) (by decide) (fun g27 => ?_) (fun g27 => ?_)
    · have g27 := (iz_eq).mp g27
      refine lv_iconst (v := 1) hx hb d_Mo_value_41 (by decide) ?_
      refine lv_topi (fun v41 e41 => ?_)
      have t41 : v41.toInt = 1 := by rw [e41]; rfl
      refine lv_goto hx hb d_Mo_value_42 (tgt := 46) (by decide) ?_
      refine lv_iconst (v := 1) hx hb d_Mo_value_46 (by decide) ?_
      refine lv_topi (fun v46 e46 => ?_)
      have t46 : v46.toInt = 1 := by rw [e46]; rfl
      have hPc := hP.sub (ws' := [(mo, .inr (4, [.int mso, .ref m1, .ref m2, .ref m3, .ref m4, .ref m5, .ref m6, .int mct, .ref m7, .int mfr, .int mcu, .int mth, .ref m8, .ref m9, .ref ma, .ref mb])), (m1, .inl (cL, 1503, .inr (.inl p1))), (m2, .inl (cL, 1503, .inr (.inl p2))), (m3, .inl (cI, 36072, .inl p3)), (m4, .inl (cI, 1503, .inl p4)), (m5, .inl (cL, 1500, .inr (.inl p5))), (m6, .inl (cI, 1500, .inl p6)), (m7, .inl (cI, 1500, .inl p7)), (m8, .inl (cI, 50, .inl p8)), (m9, .inl (cI, 50, .inl p9)), (ma, .inl (cI, 1500, .inl pa)), (mb, .inl (cI, 50, .inl pb))]) [0, 1, 2, 3, 4, 5, 6, 7, 8, 9, 10, 11] rfl
      have hDc := hD.sub (ws' := [(mo, .inr (4, [.int mso, .ref m1, .ref m2, .ref m3, .ref m4, .ref m5, .ref m6, .int mct, .ref m7, .int mfr, .int mcu, .int mth, .ref m8, .ref m9, .ref ma, .ref mb])), (m1, .inl (cL, 1503, .inr (.inl p1))), (m2, .inl (cL, 1503, .inr (.inl p2))), (m3, .inl (cI, 36072, .inl p3)), (m4, .inl (cI, 1503, .inl p4)), (m5, .inl (cL, 1500, .inr (.inl p5))), (m6, .inl (cI, 1500, .inl p6)), (m7, .inl (cI, 1500, .inl p7)), (m8, .inl (cI, 50, .inl p8)), (m9, .inl (cI, 50, .inl p9)), (ma, .inl (cI, 1500, .inl pa)), (mb, .inl (cI, 50, .inl pb))]) [0, 1, 2, 3, 4, 5, 6, 7, 8, 9, 10, 11] (by decide) rfl
      have hFc := va_free (wc := [(mo, .inr (4, [.int mso, .ref m1, .ref m2, .ref m3, .ref m4, .ref m5, .ref m6, .int mct, .ref m7, .int mfr, .int mcu, .int mth, .ref m8, .ref m9, .ref ma, .ref mb])), (m1, .inl (cL, 1503, .inr (.inl p1))), (m2, .inl (cL, 1503, .inr (.inl p2))), (m3, .inl (cI, 36072, .inl p3)), (m4, .inl (cI, 1503, .inl p4)), (m5, .inl (cL, 1500, .inr (.inl p5))), (m6, .inl (cI, 1500, .inl p6)), (m7, .inl (cI, 1500, .inl p7)), (m8, .inl (cI, 50, .inl p8)), (m9, .inl (cI, 50, .inl p9)), (ma, .inl (cI, 1500, .inl pa)), (mb, .inl (cI, 50, .inl pb))]) hD hS hA [0, 1, 2, 3, 4, 5, 6, 7, 8, 9, 10, 11] rfl
      refine va_calli (xr_mv (As := [.int v41, .int v46]) (rest := []) ⟨hx, hb, hml, hown, hts⟩ (c_Mo_fails l D cL cI mo m1 m2 m3 m4 m5 m6 m7 m8 m9 ma mb mso mct mfr mcu mth p1 p2 p5 p3 p4 p6 p7 p8 p9 pa pb v41 v46 s.heap.size (by first | omega | exact hso)) (xr_cv 2 hts tw_663 tw_660 tw_662 tp_10 tw_7 rfl rfl (by decide) ⟨Nat.le_of_ble_eq_true rfl, Nat.le_of_ble_eq_true rfl⟩) hK hPc (hDc.weaken (fun _ _ _ _ => trivial)) (va_recv hK hP rfl (q0 := 0) (ci := 4) rfl) rfl hl.1 rfl (Nat.le_of_ble_eq_true rfl) d_Mo_value_47 ⟨Nat.le_of_ble_eq_true rfl, Nat.le_of_ble_eq_true rfl⟩) hS (fun q _ h => hFc q h) hFc (fun v47 u47 tt47 H1 locs ht47 hvm47 e47 hB47 hz47 hk47 hS => ?_)
      obtain ⟨mth2_47, rfl⟩ : ∃ z, z = u47 := ⟨_, rfl⟩
      have e47 : v47.toInt = v41.toInt ∧ ((v41.toInt = 0 ∧ mth2_47.toInt = 0) ∨ (v41.toInt ≠ 0 ∧ mth2_47.toInt = v46.toInt)) := e47
      obtain ⟨hP1, hK1, hD1⟩ := hB47
      rw [ht47] at hP1
      obtain ⟨hP, hD⟩ := va_join (wr := []) (w1 := [(mo, .inr (4, [.int mso, .ref m1, .ref m2, .ref m3, .ref m4, .ref m5, .ref m6, .int mct, .ref m7, .int mfr, .int mcu, .int mth2_47, .ref m8, .ref m9, .ref ma, .ref mb])), (m1, .inl (cL, 1503, .inr (.inl p1))), (m2, .inl (cL, 1503, .inr (.inl p2))), (m3, .inl (cI, 36072, .inl p3)), (m4, .inl (cI, 1503, .inl p4)), (m5, .inl (cL, 1500, .inr (.inl p5))), (m6, .inl (cI, 1500, .inl p6)), (m7, .inl (cI, 1500, .inl p7)), (m8, .inl (cI, 50, .inl p8)), (m9, .inl (cI, 50, .inl p9)), (ma, .inl (cI, 1500, .inl pa)), (mb, .inl (cI, 50, .inl pb))]) hP hD [0, 1, 2, 3, 4, 5, 6, 7, 8, 9, 10, 11] [] rfl rfl (by decide) (by decide) hk47 hFc hP1 hD1
      clear hP1 hD1 hPc hDc hFc
      generalize H1 = H at hP hS ⊢
      have hP : va_P D classes [(mo, .inr (4, [.int mso, .ref m1, .ref m2, .ref m3, .ref m4, .ref m5, .ref m6, .int mct, .ref m7, .int mfr, .int mcu, .int mth2_47, .ref m8, .ref m9, .ref ma, .ref mb])), (m1, .inl (cL, 1503, .inr (.inl p1))), (m2, .inl (cL, 1503, .inr (.inl p2))), (m3, .inl (cI, 36072, .inl p3)), (m4, .inl (cI, 1503, .inl p4)), (m5, .inl (cL, 1500, .inr (.inl p5))), (m6, .inl (cI, 1500, .inl p6)), (m7, .inl (cI, 1500, .inl p7)), (m8, .inl (cI, 50, .inl p8)), (m9, .inl (cI, 50, .inl p9)), (ma, .inl (cI, 1500, .inl pa)), (mb, .inl (cI, 50, .inl pb))] H := hP
      have hD : va_D A [(mo, .inr (4, [.int mso, .ref m1, .ref m2, .ref m3, .ref m4, .ref m5, .ref m6, .int mct, .ref m7, .int mfr, .int mcu, .int mth2_47, .ref m8, .ref m9, .ref ma, .ref mb])), (m1, .inl (cL, 1503, .inr (.inl p1))), (m2, .inl (cL, 1503, .inr (.inl p2))), (m3, .inl (cI, 36072, .inl p3)), (m4, .inl (cI, 1503, .inl p4)), (m5, .inl (cL, 1500, .inr (.inl p5))), (m6, .inl (cI, 1500, .inl p6)), (m7, .inl (cI, 1500, .inl p7)), (m8, .inl (cI, 50, .inl p8)), (m9, .inl (cI, 50, .inl p9)), (ma, .inl (cI, 1500, .inl pa)), (mb, .inl (cI, 50, .inl pb))] := hD
      refine lv_if_eq hx hb d_Mo_value_50 (tgt := 55) (by decide) (fun g50 => ?_) (fun g50 => ?_)
      · have g50 := (iz_eq).mp g50
        exfalso; omega
      · have g50 := (iz_ne).mp g50
        refine lv_lconst (v := 0) hx hb d_Mo_value_53 (by decide) ?_
        refine lv_topl (fun v53 e53 => ?_)
        have hpost : (mcu = 0 ∧ mth2_47.toInt = 1) ∨ (¬ mcu = 0 ∧ ∃ q : Nat, ob_isb w n (fun k => KW (p6 k).toInt.toNat) (KW 1502) q ∧ (((q < n ∧ kw_eq w ((fun k => KW (p6 k).toInt.toNat) q) (KW 1502)) ∧ mth2_47.toInt = 0 ∧ v53 = p5 (p6 q).toInt.toNat) ∨ (¬ (q < n ∧ kw_eq w ((fun k => KW (p6 k).toInt.toNat) q) (KW 1502)) ∧ mth2_47.toInt = 1))) := by
          first
          | (exfalso; omega)
          | exact Or.inl ⟨iz_eq.mpr g27, by omega⟩
          | (rw [show v11.toInt.toNat = q by omega] at i3
             rcases i3 with ⟨j1, j2⟩ | ⟨j1, j2⟩
             · exfalso; omega
             · exact Or.inr ⟨iz_ne.mpr g27, q, hq2, Or.inr ⟨j2, by omega⟩⟩)
        have hP9 := hP.sub (ws' := [(mo, .inr (4, [.int mso, .ref m1, .ref m2, .ref m3, .ref m4, .ref m5, .ref m6, .int mct, .ref m7, .int mfr, .int mcu, .int mth2_47, .ref m8, .ref m9, .ref ma, .ref mb])), (m1, .inl (cL, 1503, .inr (.inl p1))), (m2, .inl (cL, 1503, .inr (.inl p2))), (m3, .inl (cI, 36072, .inl p3)), (m4, .inl (cI, 1503, .inl p4)), (m5, .inl (cL, 1500, .inr (.inl p5))), (m6, .inl (cI, 1500, .inl p6)), (m7, .inl (cI, 1500, .inl p7)), (m8, .inl (cI, 50, .inl p8)), (m9, .inl (cI, 50, .inl p9)), (ma, .inl (cI, 1500, .inl pa)), (mb, .inl (cI, 50, .inl pb))]) [0, 1, 2, 3, 4, 5, 6, 7, 8, 9, 10, 11] rfl
        have hD9 := hD.sub (ws' := [(mo, .inr (4, [.int mso, .ref m1, .ref m2, .ref m3, .ref m4, .ref m5, .ref m6, .int mct, .ref m7, .int mfr, .int mcu, .int mth2_47, .ref m8, .ref m9, .ref ma, .ref mb])), (m1, .inl (cL, 1503, .inr (.inl p1))), (m2, .inl (cL, 1503, .inr (.inl p2))), (m3, .inl (cI, 36072, .inl p3)), (m4, .inl (cI, 1503, .inl p4)), (m5, .inl (cL, 1500, .inr (.inl p5))), (m6, .inl (cI, 1500, .inl p6)), (m7, .inl (cI, 1500, .inl p7)), (m8, .inl (cI, 50, .inl p8)), (m9, .inl (cI, 50, .inl p9)), (ma, .inl (cI, 1500, .inl pa)), (mb, .inl (cI, 50, .inl pb))]) [0, 1, 2, 3, 4, 5, 6, 7, 8, 9, 10, 11] (by decide) rfl
        rw [hQ]
        exact W.lret (v := v53) hx hb hr (fun t ht hW => ⟨⟨v53, (mth2_47), rfl, hpost, by rw [ht]; exact hP9, va_K.moved hW.alike hK, hD9⟩, hS.F ht⟩) hS.2.2 d_Mo_value_54
    · have g27 := (iz_ne).mp g27
      refine lv_aload_n hx hb d_Mo_value_30 rfl (lv_at hl 1 rfl) ?_
      refine lv_iload_n hx hb d_Mo_value_31 rfl (lv_at hl 0 rfl) ?_
      refine lv_sipush (v := 1502) hx hb d_Mo_value_32 (by decide) ?_
      refine lv_topi (fun v32 e32 => ?_)
      have t32 : v32.toInt = 1502 := by rw [e32]; rfl
      refine vp_callSi (xr_rv (As := [.int mct, .int v32]) (rest := [.ref mo]) ⟨hx, hb, hml, hown, hts⟩ (c_Mo_isAt l D cL cI mo m1 m2 m3 m4 m5 m6 m7 m8 m9 ma mb mso mct mfr mcu mth p1 p2 p5 p3 p4 p6 p7 p8 p9 pa pb w KW n mct v32 (by first | omega | exact hws) (by first | omega | exact hkr) (by first | omega | exact hct) (by first | omega | exact hn) (by first | omega | exact hor) (by first | omega | (rw [hct]; omega)) (by first | omega | exact hib)) (xr_cv 2 hts tw_711 tw_708 tw_710 tp_15 tw_7 rfl rfl (by decide) ⟨Nat.le_of_ble_eq_true rfl, Nat.le_of_ble_eq_true rfl⟩) hK hP (va_recv hK hP rfl (q0 := 0) (ci := 4) rfl) rfl hl.1 rfl (Nat.le_of_ble_eq_true rfl) d_Mo_value_35 ⟨Nat.le_of_ble_eq_true rfl, Nat.le_of_ble_eq_true rfl⟩) (fun v35 e35 => ?_)
      have e35 : (v35 = 0 ∨ v35 = 1) ∧ (v35 = 1 ↔ mct.toInt.toNat < n ∧ kw_eq w ((fun k => KW (p6 k).toInt.toNat) mct.toInt.toNat) (KW v32.toInt.toNat)) := e35
      have hpq : mcu.toInt ≠ 0 := g27
      have i3 : (v35.toInt = 1 ∧ (mct.toInt.toNat < n ∧ kw_eq w ((fun k => KW (p6 k).toInt.toNat) mct.toInt.toNat) (KW 1502))) ∨ (v35.toInt = 0 ∧ ¬ (mct.toInt.toNat < n ∧ kw_eq w ((fun k => KW (p6 k).toInt.toNat) mct.toInt.toNat) (KW 1502))) := by
            have h5 := b01 e35
            rw [show v32.toInt.toNat = 1502 by omega] at h5
            exact h5
      refine lv_if_ne hx hb d_Mo_value_38 (tgt := 45) (by decide) (fun g38 => ?_) (fun g38 => ?_)
      · have g38 := (iz_ne).mp g38
        refine lv_iconst (v := 0) hx hb d_Mo_value_45 (by decide) ?_
        refine lv_topi (fun v45 e45 => ?_)
        have t45 : v45.toInt = 0 := by rw [e45]; rfl
        refine lv_iconst (v := 1) hx hb d_Mo_value_46 (by decide) ?_
        refine lv_topi (fun v46 e46 => ?_)
        have t46 : v46.toInt = 1 := by rw [e46]; rfl
        have hPc := hP.sub (ws' := [(mo, .inr (4, [.int mso, .ref m1, .ref m2, .ref m3, .ref m4, .ref m5, .ref m6, .int mct, .ref m7, .int mfr, .int mcu, .int mth, .ref m8, .ref m9, .ref ma, .ref mb])), (m1, .inl (cL, 1503, .inr (.inl p1))), (m2, .inl (cL, 1503, .inr (.inl p2))), (m3, .inl (cI, 36072, .inl p3)), (m4, .inl (cI, 1503, .inl p4)), (m5, .inl (cL, 1500, .inr (.inl p5))), (m6, .inl (cI, 1500, .inl p6)), (m7, .inl (cI, 1500, .inl p7)), (m8, .inl (cI, 50, .inl p8)), (m9, .inl (cI, 50, .inl p9)), (ma, .inl (cI, 1500, .inl pa)), (mb, .inl (cI, 50, .inl pb))]) [0, 1, 2, 3, 4, 5, 6, 7, 8, 9, 10, 11] rfl
        have hDc := hD.sub (ws' := [(mo, .inr (4, [.int mso, .ref m1, .ref m2, .ref m3, .ref m4, .ref m5, .ref m6, .int mct, .ref m7, .int mfr, .int mcu, .int mth, .ref m8, .ref m9, .ref ma, .ref mb])), (m1, .inl (cL, 1503, .inr (.inl p1))), (m2, .inl (cL, 1503, .inr (.inl p2))), (m3, .inl (cI, 36072, .inl p3)), (m4, .inl (cI, 1503, .inl p4)), (m5, .inl (cL, 1500, .inr (.inl p5))), (m6, .inl (cI, 1500, .inl p6)), (m7, .inl (cI, 1500, .inl p7)), (m8, .inl (cI, 50, .inl p8)), (m9, .inl (cI, 50, .inl p9)), (ma, .inl (cI, 1500, .inl pa)), (mb, .inl (cI, 50, .inl pb))]) [0, 1, 2, 3, 4, 5, 6, 7, 8, 9, 10, 11] (by decide) rfl
        have hFc := va_free (wc := [(mo, .inr (4, [.int mso, .ref m1, .ref m2, .ref m3, .ref m4, .ref m5, .ref m6, .int mct, .ref m7, .int mfr, .int mcu, .int mth, .ref m8, .ref m9, .ref ma, .ref mb])), (m1, .inl (cL, 1503, .inr (.inl p1))), (m2, .inl (cL, 1503, .inr (.inl p2))), (m3, .inl (cI, 36072, .inl p3)), (m4, .inl (cI, 1503, .inl p4)), (m5, .inl (cL, 1500, .inr (.inl p5))), (m6, .inl (cI, 1500, .inl p6)), (m7, .inl (cI, 1500, .inl p7)), (m8, .inl (cI, 50, .inl p8)), (m9, .inl (cI, 50, .inl p9)), (ma, .inl (cI, 1500, .inl pa)), (mb, .inl (cI, 50, .inl pb))]) hD hS hA [0, 1, 2, 3, 4, 5, 6, 7, 8, 9, 10, 11] rfl
        refine va_calli (xr_mv (As := [.int v45, .int v46]) (rest := []) ⟨hx, hb, hml, hown, hts⟩ (c_Mo_fails l D cL cI mo m1 m2 m3 m4 m5 m6 m7 m8 m9 ma mb mso mct mfr mcu mth p1 p2 p5 p3 p4 p6 p7 p8 p9 pa pb v45 v46 s.heap.size (by first | omega | exact hso)) (xr_cv 2 hts tw_663 tw_660 tw_662 tp_10 tw_7 rfl rfl (by decide) ⟨Nat.le_of_ble_eq_true rfl, Nat.le_of_ble_eq_true rfl⟩) hK hPc (hDc.weaken (fun _ _ _ _ => trivial)) (va_recv hK hP rfl (q0 := 0) (ci := 4) rfl) rfl hl.1 rfl (Nat.le_of_ble_eq_true rfl) d_Mo_value_47 ⟨Nat.le_of_ble_eq_true rfl, Nat.le_of_ble_eq_true rfl⟩) hS (fun q _ h => hFc q h) hFc (fun v47 u47 tt47 H1 locs ht47 hvm47 e47 hB47 hz47 hk47 hS => ?_)
        obtain ⟨mth2_47, rfl⟩ : ∃ z, z = u47 := ⟨_, rfl⟩
        have e47 : v47.toInt = v45.toInt ∧ ((v45.toInt = 0 ∧ mth2_47.toInt = 0) ∨ (v45.toInt ≠ 0 ∧ mth2_47.toInt = v46.toInt)) := e47
        obtain ⟨hP1, hK1, hD1⟩ := hB47
        rw [ht47] at hP1
        obtain ⟨hP, hD⟩ := va_join (wr := []) (w1 := [(mo, .inr (4, [.int mso, .ref m1, .ref m2, .ref m3, .ref m4, .ref m5, .ref m6, .int mct, .ref m7, .int mfr, .int mcu, .int mth2_47, .ref m8, .ref m9, .ref ma, .ref mb])), (m1, .inl (cL, 1503, .inr (.inl p1))), (m2, .inl (cL, 1503, .inr (.inl p2))), (m3, .inl (cI, 36072, .inl p3)), (m4, .inl (cI, 1503, .inl p4)), (m5, .inl (cL, 1500, .inr (.inl p5))), (m6, .inl (cI, 1500, .inl p6)), (m7, .inl (cI, 1500, .inl p7)), (m8, .inl (cI, 50, .inl p8)), (m9, .inl (cI, 50, .inl p9)), (ma, .inl (cI, 1500, .inl pa)), (mb, .inl (cI, 50, .inl pb))]) hP hD [0, 1, 2, 3, 4, 5, 6, 7, 8, 9, 10, 11] [] rfl rfl (by decide) (by decide) hk47 hFc hP1 hD1
        clear hP1 hD1 hPc hDc hFc
        generalize H1 = H at hP hS ⊢
        have hP : va_P D classes [(mo, .inr (4, [.int mso, .ref m1, .ref m2, .ref m3, .ref m4, .ref m5, .ref m6, .int mct, .ref m7, .int mfr, .int mcu, .int mth2_47, .ref m8, .ref m9, .ref ma, .ref mb])), (m1, .inl (cL, 1503, .inr (.inl p1))), (m2, .inl (cL, 1503, .inr (.inl p2))), (m3, .inl (cI, 36072, .inl p3)), (m4, .inl (cI, 1503, .inl p4)), (m5, .inl (cL, 1500, .inr (.inl p5))), (m6, .inl (cI, 1500, .inl p6)), (m7, .inl (cI, 1500, .inl p7)), (m8, .inl (cI, 50, .inl p8)), (m9, .inl (cI, 50, .inl p9)), (ma, .inl (cI, 1500, .inl pa)), (mb, .inl (cI, 50, .inl pb))] H := hP
        have hD : va_D A [(mo, .inr (4, [.int mso, .ref m1, .ref m2, .ref m3, .ref m4, .ref m5, .ref m6, .int mct, .ref m7, .int mfr, .int mcu, .int mth2_47, .ref m8, .ref m9, .ref ma, .ref mb])), (m1, .inl (cL, 1503, .inr (.inl p1))), (m2, .inl (cL, 1503, .inr (.inl p2))), (m3, .inl (cI, 36072, .inl p3)), (m4, .inl (cI, 1503, .inl p4)), (m5, .inl (cL, 1500, .inr (.inl p5))), (m6, .inl (cI, 1500, .inl p6)), (m7, .inl (cI, 1500, .inl p7)), (m8, .inl (cI, 50, .inl p8)), (m9, .inl (cI, 50, .inl p9)), (ma, .inl (cI, 1500, .inl pa)), (mb, .inl (cI, 50, .inl pb))] := hD
        refine lv_if_eq hx hb d_Mo_value_50 (tgt := 55) (by decide) (fun g50 => ?_) (fun g50 => ?_)
        · have g50 := (iz_eq).mp g50
          have hin : mct.toInt.toNat < n ∧ kw_eq w ((fun k => KW (p6 k).toInt.toNat) mct.toInt.toNat) (KW 1502) := by
                first
                | (exfalso; omega)
                | (rcases i3 with ⟨j1, j2⟩ | ⟨j1, j2⟩
                   · exact j2
                   · exfalso; omega)
          have hin1 := hin.1
          have hord := hor mct.toInt.toNat hin.1
          refine lv_aload_n hx hb d_Mo_value_55 rfl (lv_at hl 1 rfl) ?_
          refine va_get (D := D) (ci := 4) (v := .ref m5) (C := R_Mo) (T := F_Mo) (N := 16) hx hb hts in_Mo hown hK hP 0 rfl rfl 5 (by decide) (hts _ tw_608) (fun _ h9 => h9) rfl d_Mo_value_56 ?_
          refine lv_aload_n hx hb d_Mo_value_59 rfl (lv_at hl 1 rfl) ?_
          refine va_get (D := D) (ci := 4) (v := .ref m6) (C := R_Mo) (T := F_Mo) (N := 16) hx hb hts in_Mo hown hK hP 0 rfl rfl 6 (by decide) (hts _ tw_609) (fun _ h9 => h9) rfl d_Mo_value_60 ?_
          refine lv_iload_n hx hb d_Mo_value_63 rfl (lv_at hl 0 rfl) ?_
          refine va_iald hx hb hK hP 6 1 rfl rfl (ia_in ⟨by omega, by omega⟩) d_Mo_value_64 ?_
          refine lv_topi (fun v64 e64 => ?_)
          have e64 : v64 = p6 mct.toInt.toNat := e64
          rw [← e64] at hord
          refine va_lald hx hb hK hP 5 0 rfl rfl (ia_in ⟨by omega, by omega⟩) d_Mo_value_65 ?_
          refine lv_topl (fun v65 e65 => ?_)
          have e65 : v65 = p5 v64.toInt.toNat := e65
          have hpost : (mcu = 0 ∧ mth2_47.toInt = 1) ∨ (¬ mcu = 0 ∧ ∃ q : Nat, ob_isb w n (fun k => KW (p6 k).toInt.toNat) (KW 1502) q ∧ (((q < n ∧ kw_eq w ((fun k => KW (p6 k).toInt.toNat) q) (KW 1502)) ∧ mth2_47.toInt = 0 ∧ v65 = p5 (p6 q).toInt.toNat) ∨ (¬ (q < n ∧ kw_eq w ((fun k => KW (p6 k).toInt.toNat) q) (KW 1502)) ∧ mth2_47.toInt = 1))) := by
            first
            | (exfalso; omega)
            | (rw [show v11.toInt.toNat = q by omega] at hin e64
               exact Or.inr ⟨iz_ne.mpr g27, q, hq2, Or.inl ⟨hin, by omega, by rw [← e64]; exact e65⟩⟩)
          have hP9 := hP.sub (ws' := [(mo, .inr (4, [.int mso, .ref m1, .ref m2, .ref m3, .ref m4, .ref m5, .ref m6, .int mct, .ref m7, .int mfr, .int mcu, .int mth2_47, .ref m8, .ref m9, .ref ma, .ref mb])), (m1, .inl (cL, 1503, .inr (.inl p1))), (m2, .inl (cL, 1503, .inr (.inl p2))), (m3, .inl (cI, 36072, .inl p3)), (m4, .inl (cI, 1503, .inl p4)), (m5, .inl (cL, 1500, .inr (.inl p5))), (m6, .inl (cI, 1500, .inl p6)), (m7, .inl (cI, 1500, .inl p7)), (m8, .inl (cI, 50, .inl p8)), (m9, .inl (cI, 50, .inl p9)), (ma, .inl (cI, 1500, .inl pa)), (mb, .inl (cI, 50, .inl pb))]) [0, 1, 2, 3, 4, 5, 6, 7, 8, 9, 10, 11] rfl
          have hD9 := hD.sub (ws' := [(mo, .inr (4, [.int mso, .ref m1, .ref m2, .ref m3, .ref m4, .ref m5, .ref m6, .int mct, .ref m7, .int mfr, .int mcu, .int mth2_47, .ref m8, .ref m9, .ref ma, .ref mb])), (m1, .inl (cL, 1503, .inr (.inl p1))), (m2, .inl (cL, 1503, .inr (.inl p2))), (m3, .inl (cI, 36072, .inl p3)), (m4, .inl (cI, 1503, .inl p4)), (m5, .inl (cL, 1500, .inr (.inl p5))), (m6, .inl (cI, 1500, .inl p6)), (m7, .inl (cI, 1500, .inl p7)), (m8, .inl (cI, 50, .inl p8)), (m9, .inl (cI, 50, .inl p9)), (ma, .inl (cI, 1500, .inl pa)), (mb, .inl (cI, 50, .inl pb))]) [0, 1, 2, 3, 4, 5, 6, 7, 8, 9, 10, 11] (by decide) rfl
          rw [hQ]
          exact W.lret (v := v65) hx hb hr (fun t ht hW => ⟨⟨v65, (mth2_47), rfl, hpost, by rw [ht]; exact hP9, va_K.moved hW.alike hK, hD9⟩, hS.F ht⟩) hS.2.2 d_Mo_value_66
        · have g50 := (iz_ne).mp g50
          exfalso; omega
      · have g38 := (iz_eq).mp g38
        refine lv_iconst (v := 1) hx hb d_Mo_value_41 (by decide) ?_
        refine lv_topi (fun v41 e41 => ?_)
        have t41 : v41.toInt = 1 := by rw [e41]; rfl
        refine lv_goto hx hb d_Mo_value_42 (tgt := 46) (by decide) ?_
        refine lv_iconst (v := 1) hx hb d_Mo_value_46 (by decide) ?_
        refine lv_topi (fun v46 e46 => ?_)
        have t46 : v46.toInt = 1 := by rw [e46]; rfl
        have hPc := hP.sub (ws' := [(mo, .inr (4, [.int mso, .ref m1, .ref m2, .ref m3, .ref m4, .ref m5, .ref m6, .int mct, .ref m7, .int mfr, .int mcu, .int mth, .ref m8, .ref m9, .ref ma, .ref mb])), (m1, .inl (cL, 1503, .inr (.inl p1))), (m2, .inl (cL, 1503, .inr (.inl p2))), (m3, .inl (cI, 36072, .inl p3)), (m4, .inl (cI, 1503, .inl p4)), (m5, .inl (cL, 1500, .inr (.inl p5))), (m6, .inl (cI, 1500, .inl p6)), (m7, .inl (cI, 1500, .inl p7)), (m8, .inl (cI, 50, .inl p8)), (m9, .inl (cI, 50, .inl p9)), (ma, .inl (cI, 1500, .inl pa)), (mb, .inl (cI, 50, .inl pb))]) [0, 1, 2, 3, 4, 5, 6, 7, 8, 9, 10, 11] rfl
        have hDc := hD.sub (ws' := [(mo, .inr (4, [.int mso, .ref m1, .ref m2, .ref m3, .ref m4, .ref m5, .ref m6, .int mct, .ref m7, .int mfr, .int mcu, .int mth, .ref m8, .ref m9, .ref ma, .ref mb])), (m1, .inl (cL, 1503, .inr (.inl p1))), (m2, .inl (cL, 1503, .inr (.inl p2))), (m3, .inl (cI, 36072, .inl p3)), (m4, .inl (cI, 1503, .inl p4)), (m5, .inl (cL, 1500, .inr (.inl p5))), (m6, .inl (cI, 1500, .inl p6)), (m7, .inl (cI, 1500, .inl p7)), (m8, .inl (cI, 50, .inl p8)), (m9, .inl (cI, 50, .inl p9)), (ma, .inl (cI, 1500, .inl pa)), (mb, .inl (cI, 50, .inl pb))]) [0, 1, 2, 3, 4, 5, 6, 7, 8, 9, 10, 11] (by decide) rfl
        have hFc := va_free (wc := [(mo, .inr (4, [.int mso, .ref m1, .ref m2, .ref m3, .ref m4, .ref m5, .ref m6, .int mct, .ref m7, .int mfr, .int mcu, .int mth, .ref m8, .ref m9, .ref ma, .ref mb])), (m1, .inl (cL, 1503, .inr (.inl p1))), (m2, .inl (cL, 1503, .inr (.inl p2))), (m3, .inl (cI, 36072, .inl p3)), (m4, .inl (cI, 1503, .inl p4)), (m5, .inl (cL, 1500, .inr (.inl p5))), (m6, .inl (cI, 1500, .inl p6)), (m7, .inl (cI, 1500, .inl p7)), (m8, .inl (cI, 50, .inl p8)), (m9, .inl (cI, 50, .inl p9)), (ma, .inl (cI, 1500, .inl pa)), (mb, .inl (cI, 50, .inl pb))]) hD hS hA [0, 1, 2, 3, 4, 5, 6, 7, 8, 9, 10, 11] rfl
        refine va_calli (xr_mv (As := [.int v41, .int v46]) (rest := []) ⟨hx, hb, hml, hown, hts⟩ (c_Mo_fails l D cL cI mo m1 m2 m3 m4 m5 m6 m7 m8 m9 ma mb mso mct mfr mcu mth p1 p2 p5 p3 p4 p6 p7 p8 p9 pa pb v41 v46 s.heap.size (by first | omega | exact hso)) (xr_cv 2 hts tw_663 tw_660 tw_662 tp_10 tw_7 rfl rfl (by decide) ⟨Nat.le_of_ble_eq_true rfl, Nat.le_of_ble_eq_true rfl⟩) hK hPc (hDc.weaken (fun _ _ _ _ => trivial)) (va_recv hK hP rfl (q0 := 0) (ci := 4) rfl) rfl hl.1 rfl (Nat.le_of_ble_eq_true rfl) d_Mo_value_47 ⟨Nat.le_of_ble_eq_true rfl, Nat.le_of_ble_eq_true rfl⟩) hS (fun q _ h => hFc q h) hFc (fun v47 u47 tt47 H1 locs ht47 hvm47 e47 hB47 hz47 hk47 hS => ?_)
        obtain ⟨mth2_47, rfl⟩ : ∃ z, z = u47 := ⟨_, rfl⟩
        have e47 : v47.toInt = v41.toInt ∧ ((v41.toInt = 0 ∧ mth2_47.toInt = 0) ∨ (v41.toInt ≠ 0 ∧ mth2_47.toInt = v46.toInt)) := e47
        obtain ⟨hP1, hK1, hD1⟩ := hB47
        rw [ht47] at hP1
        obtain ⟨hP, hD⟩ := va_join (wr := []) (w1 := [(mo, .inr (4, [.int mso, .ref m1, .ref m2, .ref m3, .ref m4, .ref m5, .ref m6, .int mct, .ref m7, .int mfr, .int mcu, .int mth2_47, .ref m8, .ref m9, .ref ma, .ref mb])), (m1, .inl (cL, 1503, .inr (.inl p1))), (m2, .inl (cL, 1503, .inr (.inl p2))), (m3, .inl (cI, 36072, .inl p3)), (m4, .inl (cI, 1503, .inl p4)), (m5, .inl (cL, 1500, .inr (.inl p5))), (m6, .inl (cI, 1500, .inl p6)), (m7, .inl (cI, 1500, .inl p7)), (m8, .inl (cI, 50, .inl p8)), (m9, .inl (cI, 50, .inl p9)), (ma, .inl (cI, 1500, .inl pa)), (mb, .inl (cI, 50, .inl pb))]) hP hD [0, 1, 2, 3, 4, 5, 6, 7, 8, 9, 10, 11] [] rfl rfl (by decide) (by decide) hk47 hFc hP1 hD1
        clear hP1 hD1 hPc hDc hFc
        generalize H1 = H at hP hS ⊢
        have hP : va_P D classes [(mo, .inr (4, [.int mso, .ref m1, .ref m2, .ref m3, .ref m4, .ref m5, .ref m6, .int mct, .ref m7, .int mfr, .int mcu, .int mth2_47, .ref m8, .ref m9, .ref ma, .ref mb])), (m1, .inl (cL, 1503, .inr (.inl p1))), (m2, .inl (cL, 1503, .inr (.inl p2))), (m3, .inl (cI, 36072, .inl p3)), (m4, .inl (cI, 1503, .inl p4)), (m5, .inl (cL, 1500, .inr (.inl p5))), (m6, .inl (cI, 1500, .inl p6)), (m7, .inl (cI, 1500, .inl p7)), (m8, .inl (cI, 50, .inl p8)), (m9, .inl (cI, 50, .inl p9)), (ma, .inl (cI, 1500, .inl pa)), (mb, .inl (cI, 50, .inl pb))] H := hP
        have hD : va_D A [(mo, .inr (4, [.int mso, .ref m1, .ref m2, .ref m3, .ref m4, .ref m5, .ref m6, .int mct, .ref m7, .int mfr, .int mcu, .int mth2_47, .ref m8, .ref m9, .ref ma, .ref mb])), (m1, .inl (cL, 1503, .inr (.inl p1))), (m2, .inl (cL, 1503, .inr (.inl p2))), (m3, .inl (cI, 36072, .inl p3)), (m4, .inl (cI, 1503, .inl p4)), (m5, .inl (cL, 1500, .inr (.inl p5))), (m6, .inl (cI, 1500, .inl p6)), (m7, .inl (cI, 1500, .inl p7)), (m8, .inl (cI, 50, .inl p8)), (m9, .inl (cI, 50, .inl p9)), (ma, .inl (cI, 1500, .inl pa)), (mb, .inl (cI, 50, .inl pb))] := hD
        refine lv_if_eq hx hb d_Mo_value_50 (tgt := 55) (by decide) (fun g50 => ?_) (fun g50 => ?_)
        · have g50 := (iz_eq).mp g50
          exfalso; omega
        · have g50 := (iz_ne).mp g50
          refine lv_lconst (v := 0) hx hb d_Mo_value_53 (by decide) ?_
          refine lv_topl (fun v53 e53 => ?_)
          have hpost : (mcu = 0 ∧ mth2_47.toInt = 1) ∨ (¬ mcu = 0 ∧ ∃ q : Nat, ob_isb w n (fun k => KW (p6 k).toInt.toNat) (KW 1502) q ∧ (((q < n ∧ kw_eq w ((fun k => KW (p6 k).toInt.toNat) q) (KW 1502)) ∧ mth2_47.toInt = 0 ∧ v53 = p5 (p6 q).toInt.toNat) ∨ (¬ (q < n ∧ kw_eq w ((fun k => KW (p6 k).toInt.toNat) q) (KW 1502)) ∧ mth2_47.toInt = 1))) := by
            first
            | (exfalso; omega)
            | exact Or.inl ⟨iz_eq.mpr g27, by omega⟩
            | (rw [show v11.toInt.toNat = q by omega] at i3
               rcases i3 with ⟨j1, j2⟩ | ⟨j1, j2⟩
               · exfalso; omega
               · exact Or.inr ⟨iz_ne.mpr g27, q, hq2, Or.inr ⟨j2, by omega⟩⟩)
          have hP9 := hP.sub (ws' := [(mo, .inr (4, [.int mso, .ref m1, .ref m2, .ref m3, .ref m4, .ref m5, .ref m6, .int mct, .ref m7, .int mfr, .int mcu, .int mth2_47, .ref m8, .ref m9, .ref ma, .ref mb])), (m1, .inl (cL, 1503, .inr (.inl p1))), (m2, .inl (cL, 1503, .inr (.inl p2))), (m3, .inl (cI, 36072, .inl p3)), (m4, .inl (cI, 1503, .inl p4)), (m5, .inl (cL, 1500, .inr (.inl p5))), (m6, .inl (cI, 1500, .inl p6)), (m7, .inl (cI, 1500, .inl p7)), (m8, .inl (cI, 50, .inl p8)), (m9, .inl (cI, 50, .inl p9)), (ma, .inl (cI, 1500, .inl pa)), (mb, .inl (cI, 50, .inl pb))]) [0, 1, 2, 3, 4, 5, 6, 7, 8, 9, 10, 11] rfl
          have hD9 := hD.sub (ws' := [(mo, .inr (4, [.int mso, .ref m1, .ref m2, .ref m3, .ref m4, .ref m5, .ref m6, .int mct, .ref m7, .int mfr, .int mcu, .int mth2_47, .ref m8, .ref m9, .ref ma, .ref mb])), (m1, .inl (cL, 1503, .inr (.inl p1))), (m2, .inl (cL, 1503, .inr (.inl p2))), (m3, .inl (cI, 36072, .inl p3)), (m4, .inl (cI, 1503, .inl p4)), (m5, .inl (cL, 1500, .inr (.inl p5))), (m6, .inl (cI, 1500, .inl p6)), (m7, .inl (cI, 1500, .inl p7)), (m8, .inl (cI, 50, .inl p8)), (m9, .inl (cI, 50, .inl p9)), (ma, .inl (cI, 1500, .inl pa)), (mb, .inl (cI, 50, .inl pb))]) [0, 1, 2, 3, 4, 5, 6, 7, 8, 9, 10, 11] (by decide) rfl
          rw [hQ]
          exact W.lret (v := v53) hx hb hr (fun t ht hW => ⟨⟨v53, (mth2_47), rfl, hpost, by rw [ht]; exact hP9, va_K.moved hW.alike hK, hD9⟩, hS.F ht⟩) hS.2.2 d_Mo_value_54
  · have g4 := (iz_ne).mp g4
    refine lv_aload_n hx hb d_Mo_value_7 rfl (lv_at hl 0 rfl) ?_
    refine lv_sipush (v := 1502) hx hb d_Mo_value_8 (by decide) ?_
    refine lv_topi (fun v8 e8 => ?_)
    have t8 : v8.toInt = 1502 := by rw [e8]; rfl
    refine vp_callSi (xr_rv (As := [.int v8]) (rest := []) ⟨hx, hb, hml, hown, hts⟩ (c_Mo_below l D cL cI mo m1 m2 m3 m4 m5 m6 m7 m8 m9 ma mb mso mct mfr mcu mth p1 p2 p5 p3 p4 p6 p7 p8 p9 pa pb w KW n v8 (by first | omega | exact hws) (by first | omega | exact hkr) (by first | omega | exact hct) (by first | omega | exact hn) (by first | omega | exact hor) (by first | omega | exact hib) (by first | omega | exact hs)) (xr_cv 1 hts tw_700 tw_697 tw_699 tp_13 tw_7 rfl rfl (by decide) ⟨Nat.le_of_ble_eq_true rfl, Nat.le_of_ble_eq_true rfl⟩) hK hP (va_recv hK hP rfl (q0 := 0) (ci := 4) rfl) rfl hl.1 rfl (Nat.le_of_ble_eq_true rfl) d_Mo_value_11 ⟨Nat.le_of_ble_eq_true rfl, Nat.le_of_ble_eq_true rfl⟩) (fun v11 e11 => ?_)
    have e11 : ∃ q : Nat, v11.toInt = (q : Int) ∧ ob_isb w n (fun k => KW (p6 k).toInt.toNat) (KW v8.toInt.toNat) q := e11
    obtain ⟨q, hq1, hq2⟩ := e11
    rw [show v8.toInt.toNat = 1502 by omega] at hq2
    have hq3 := hq2.1
    refine lv_goto hx hb d_Mo_value_14 (tgt := 21) (by decide) ?_
    refine lv_istore_n (lv' := [(1, .int v11), (0, .ref mo)]) hx hb d_Mo_value_21 rfl hl (by decide) rfl (fun ls hl => ?_)
    refine lv_aload_n hx hb d_Mo_value_22 rfl (lv_at hl 1 rfl) ?_
    refine lv_aload_n hx hb d_Mo_value_23 rfl (lv_at hl 1 rfl) ?_
    refine va_get (D := D) (ci := 4) (v := .int mcu) (C := R_Mo) (T := F_Mo) (N := 16) hx hb hts in_Mo hown hK hP 0 rfl rfl 10 (by decide) (hts _ tw_613) (fun _ h9 => h9) rfl d_Mo_value_24 ?_
    refine lv_if_eq hx hb d_Mo_value_27 (tgt := 41) (by decide) (fun g27 => ?_) (fun g27 => ?_)
    · have g27 := (iz_eq).mp g27
      refine lv_iconst (v := 1) hx hb d_Mo_value_41 (by decide) ?_
      refine lv_topi (fun v41 e41 => ?_)
      have t41 : v41.toInt = 1 := by rw [e41]; rfl
      refine lv_goto hx hb d_Mo_value_42 (tgt := 46) (by decide) ?_
      refine lv_iconst (v := 1) hx hb d_Mo_value_46 (by decide) ?_
      refine lv_topi (fun v46 e46 => ?_)
      have t46 : v46.toInt = 1 := by rw [e46]; rfl
      have hPc := hP.sub (ws' := [(mo, .inr (4, [.int mso, .ref m1, .ref m2, .ref m3, .ref m4, .ref m5, .ref m6, .int mct, .ref m7, .int mfr, .int mcu, .int mth, .ref m8, .ref m9, .ref ma, .ref mb])), (m1, .inl (cL, 1503, .inr (.inl p1))), (m2, .inl (cL, 1503, .inr (.inl p2))), (m3, .inl (cI, 36072, .inl p3)), (m4, .inl (cI, 1503, .inl p4)), (m5, .inl (cL, 1500, .inr (.inl p5))), (m6, .inl (cI, 1500, .inl p6)), (m7, .inl (cI, 1500, .inl p7)), (m8, .inl (cI, 50, .inl p8)), (m9, .inl (cI, 50, .inl p9)), (ma, .inl (cI, 1500, .inl pa)), (mb, .inl (cI, 50, .inl pb))]) [0, 1, 2, 3, 4, 5, 6, 7, 8, 9, 10, 11] rfl
      have hDc := hD.sub (ws' := [(mo, .inr (4, [.int mso, .ref m1, .ref m2, .ref m3, .ref m4, .ref m5, .ref m6, .int mct, .ref m7, .int mfr, .int mcu, .int mth, .ref m8, .ref m9, .ref ma, .ref mb])), (m1, .inl (cL, 1503, .inr (.inl p1))), (m2, .inl (cL, 1503, .inr (.inl p2))), (m3, .inl (cI, 36072, .inl p3)), (m4, .inl (cI, 1503, .inl p4)), (m5, .inl (cL, 1500, .inr (.inl p5))), (m6, .inl (cI, 1500, .inl p6)), (m7, .inl (cI, 1500, .inl p7)), (m8, .inl (cI, 50, .inl p8)), (m9, .inl (cI, 50, .inl p9)), (ma, .inl (cI, 1500, .inl pa)), (mb, .inl (cI, 50, .inl pb))]) [0, 1, 2, 3, 4, 5, 6, 7, 8, 9, 10, 11] (by decide) rfl
      have hFc := va_free (wc := [(mo, .inr (4, [.int mso, .ref m1, .ref m2, .ref m3, .ref m4, .ref m5, .ref m6, .int mct, .ref m7, .int mfr, .int mcu, .int mth, .ref m8, .ref m9, .ref ma, .ref mb])), (m1, .inl (cL, 1503, .inr (.inl p1))), (m2, .inl (cL, 1503, .inr (.inl p2))), (m3, .inl (cI, 36072, .inl p3)), (m4, .inl (cI, 1503, .inl p4)), (m5, .inl (cL, 1500, .inr (.inl p5))), (m6, .inl (cI, 1500, .inl p6)), (m7, .inl (cI, 1500, .inl p7)), (m8, .inl (cI, 50, .inl p8)), (m9, .inl (cI, 50, .inl p9)), (ma, .inl (cI, 1500, .inl pa)), (mb, .inl (cI, 50, .inl pb))]) hD hS hA [0, 1, 2, 3, 4, 5, 6, 7, 8, 9, 10, 11] rfl
      refine va_calli (xr_mv (As := [.int v41, .int v46]) (rest := []) ⟨hx, hb, hml, hown, hts⟩ (c_Mo_fails l D cL cI mo m1 m2 m3 m4 m5 m6 m7 m8 m9 ma mb mso mct mfr mcu mth p1 p2 p5 p3 p4 p6 p7 p8 p9 pa pb v41 v46 s.heap.size (by first | omega | exact hso)) (xr_cv 2 hts tw_663 tw_660 tw_662 tp_10 tw_7 rfl rfl (by decide) ⟨Nat.le_of_ble_eq_true rfl, Nat.le_of_ble_eq_true rfl⟩) hK hPc (hDc.weaken (fun _ _ _ _ => trivial)) (va_recv hK hP rfl (q0 := 0) (ci := 4) rfl) rfl hl.1 rfl (Nat.le_of_ble_eq_true rfl) d_Mo_value_47 ⟨Nat.le_of_ble_eq_true rfl, Nat.le_of_ble_eq_true rfl⟩) hS (fun q _ h => hFc q h) hFc (fun v47 u47 tt47 H1 locs ht47 hvm47 e47 hB47 hz47 hk47 hS => ?_)
      obtain ⟨mth2_47, rfl⟩ : ∃ z, z = u47 := ⟨_, rfl⟩
      have e47 : v47.toInt = v41.toInt ∧ ((v41.toInt = 0 ∧ mth2_47.toInt = 0) ∨ (v41.toInt ≠ 0 ∧ mth2_47.toInt = v46.toInt)) := e47
      obtain ⟨hP1, hK1, hD1⟩ := hB47
      rw [ht47] at hP1
      obtain ⟨hP, hD⟩ := va_join (wr := []) (w1 := [(mo, .inr (4, [.int mso, .ref m1, .ref m2, .ref m3, .ref m4, .ref m5, .ref m6, .int mct, .ref m7, .int mfr, .int mcu, .int mth2_47, .ref m8, .ref m9, .ref ma, .ref mb])), (m1, .inl (cL, 1503, .inr (.inl p1))), (m2, .inl (cL, 1503, .inr (.inl p2))), (m3, .inl (cI, 36072, .inl p3)), (m4, .inl (cI, 1503, .inl p4)), (m5, .inl (cL, 1500, .inr (.inl p5))), (m6, .inl (cI, 1500, .inl p6)), (m7, .inl (cI, 1500, .inl p7)), (m8, .inl (cI, 50, .inl p8)), (m9, .inl (cI, 50, .inl p9)), (ma, .inl (cI, 1500, .inl pa)), (mb, .inl (cI, 50, .inl pb))]) hP hD [0, 1, 2, 3, 4, 5, 6, 7, 8, 9, 10, 11] [] rfl rfl (by decide) (by decide) hk47 hFc hP1 hD1
      clear hP1 hD1 hPc hDc hFc
      generalize H1 = H at hP hS ⊢
      have hP : va_P D classes [(mo, .inr (4, [.int mso, .ref m1, .ref m2, .ref m3, .ref m4, .ref m5, .ref m6, .int mct, .ref m7, .int mfr, .int mcu, .int mth2_47, .ref m8, .ref m9, .ref ma, .ref mb])), (m1, .inl (cL, 1503, .inr (.inl p1))), (m2, .inl (cL, 1503, .inr (.inl p2))), (m3, .inl (cI, 36072, .inl p3)), (m4, .inl (cI, 1503, .inl p4)), (m5, .inl (cL, 1500, .inr (.inl p5))), (m6, .inl (cI, 1500, .inl p6)), (m7, .inl (cI, 1500, .inl p7)), (m8, .inl (cI, 50, .inl p8)), (m9, .inl (cI, 50, .inl p9)), (ma, .inl (cI, 1500, .inl pa)), (mb, .inl (cI, 50, .inl pb))] H := hP
      have hD : va_D A [(mo, .inr (4, [.int mso, .ref m1, .ref m2, .ref m3, .ref m4, .ref m5, .ref m6, .int mct, .ref m7, .int mfr, .int mcu, .int mth2_47, .ref m8, .ref m9, .ref ma, .ref mb])), (m1, .inl (cL, 1503, .inr (.inl p1))), (m2, .inl (cL, 1503, .inr (.inl p2))), (m3, .inl (cI, 36072, .inl p3)), (m4, .inl (cI, 1503, .inl p4)), (m5, .inl (cL, 1500, .inr (.inl p5))), (m6, .inl (cI, 1500, .inl p6)), (m7, .inl (cI, 1500, .inl p7)), (m8, .inl (cI, 50, .inl p8)), (m9, .inl (cI, 50, .inl p9)), (ma, .inl (cI, 1500, .inl pa)), (mb, .inl (cI, 50, .inl pb))] := hD
      refine lv_if_eq hx hb d_Mo_value_50 (tgt := 55) (by decide) (fun g50 => ?_) (fun g50 => ?_)
      · have g50 := (iz_eq).mp g50
        exfalso; omega
      · have g50 := (iz_ne).mp g50
        refine lv_lconst (v := 0) hx hb d_Mo_value_53 (by decide) ?_
        refine lv_topl (fun v53 e53 => ?_)
        have hpost : (mcu = 0 ∧ mth2_47.toInt = 1) ∨ (¬ mcu = 0 ∧ ∃ q : Nat, ob_isb w n (fun k => KW (p6 k).toInt.toNat) (KW 1502) q ∧ (((q < n ∧ kw_eq w ((fun k => KW (p6 k).toInt.toNat) q) (KW 1502)) ∧ mth2_47.toInt = 0 ∧ v53 = p5 (p6 q).toInt.toNat) ∨ (¬ (q < n ∧ kw_eq w ((fun k => KW (p6 k).toInt.toNat) q) (KW 1502)) ∧ mth2_47.toInt = 1))) := by
          first
          | (exfalso; omega)
          | exact Or.inl ⟨iz_eq.mpr g27, by omega⟩
          | (rw [show v11.toInt.toNat = q by omega] at i3
             rcases i3 with ⟨j1, j2⟩ | ⟨j1, j2⟩
             · exfalso; omega
             · exact Or.inr ⟨iz_ne.mpr g27, q, hq2, Or.inr ⟨j2, by omega⟩⟩)
        have hP9 := hP.sub (ws' := [(mo, .inr (4, [.int mso, .ref m1, .ref m2, .ref m3, .ref m4, .ref m5, .ref m6, .int mct, .ref m7, .int mfr, .int mcu, .int mth2_47, .ref m8, .ref m9, .ref ma, .ref mb])), (m1, .inl (cL, 1503, .inr (.inl p1))), (m2, .inl (cL, 1503, .inr (.inl p2))), (m3, .inl (cI, 36072, .inl p3)), (m4, .inl (cI, 1503, .inl p4)), (m5, .inl (cL, 1500, .inr (.inl p5))), (m6, .inl (cI, 1500, .inl p6)), (m7, .inl (cI, 1500, .inl p7)), (m8, .inl (cI, 50, .inl p8)), (m9, .inl (cI, 50, .inl p9)), (ma, .inl (cI, 1500, .inl pa)), (mb, .inl (cI, 50, .inl pb))]) [0, 1, 2, 3, 4, 5, 6, 7, 8, 9, 10, 11] rfl
        have hD9 := hD.sub (ws' := [(mo, .inr (4, [.int mso, .ref m1, .ref m2, .ref m3, .ref m4, .ref m5, .ref m6, .int mct, .ref m7, .int mfr, .int mcu, .int mth2_47, .ref m8, .ref m9, .ref ma, .ref mb])), (m1, .inl (cL, 1503, .inr (.inl p1))), (m2, .inl (cL, 1503, .inr (.inl p2))), (m3, .inl (cI, 36072, .inl p3)), (m4, .inl (cI, 1503, .inl p4)), (m5, .inl (cL, 1500, .inr (.inl p5))), (m6, .inl (cI, 1500, .inl p6)), (m7, .inl (cI, 1500, .inl p7)), (m8, .inl (cI, 50, .inl p8)), (m9, .inl (cI, 50, .inl p9)), (ma, .inl (cI, 1500, .inl pa)), (mb, .inl (cI, 50, .inl pb))]) [0, 1, 2, 3, 4, 5, 6, 7, 8, 9, 10, 11] (by decide) rfl
        rw [hQ]
        exact W.lret (v := v53) hx hb hr (fun t ht hW => ⟨⟨v53, (mth2_47), rfl, hpost, by rw [ht]; exact hP9, va_K.moved hW.alike hK, hD9⟩, hS.F ht⟩) hS.2.2 d_Mo_value_54
    · have g27 := (iz_ne).mp g27
      refine lv_aload_n hx hb d_Mo_value_30 rfl (lv_at hl 1 rfl) ?_
      refine lv_iload_n hx hb d_Mo_value_31 rfl (lv_at hl 0 rfl) ?_
      refine lv_sipush (v := 1502) hx hb d_Mo_value_32 (by decide) ?_
      refine lv_topi (fun v32 e32 => ?_)
      have t32 : v32.toInt = 1502 := by rw [e32]; rfl
      refine vp_callSi (xr_rv (As := [.int v11, .int v32]) (rest := [.ref mo]) ⟨hx, hb, hml, hown, hts⟩ (c_Mo_isAt l D cL cI mo m1 m2 m3 m4 m5 m6 m7 m8 m9 ma mb mso mct mfr mcu mth p1 p2 p5 p3 p4 p6 p7 p8 p9 pa pb w KW n v11 v32 (by first | omega | exact hws) (by first | omega | exact hkr) (by first | omega | exact hct) (by first | omega | exact hn) (by first | omega | exact hor) (by first | omega | (rw [hct]; omega)) (by first | omega | exact hib)) (xr_cv 2 hts tw_711 tw_708 tw_710 tp_15 tw_7 rfl rfl (by decide) ⟨Nat.le_of_ble_eq_true rfl, Nat.le_of_ble_eq_true rfl⟩) hK hP (va_recv hK hP rfl (q0 := 0) (ci := 4) rfl) rfl hl.1 rfl (Nat.le_of_ble_eq_true rfl) d_Mo_value_35 ⟨Nat.le_of_ble_eq_true rfl, Nat.le_of_ble_eq_true rfl⟩) (fun v35 e35 => ?_)
      have e35 : (v35 = 0 ∨ v35 = 1) ∧ (v35 = 1 ↔ v11.toInt.toNat < n ∧ kw_eq w ((fun k => KW (p6 k).toInt.toNat) v11.toInt.toNat) (KW v32.toInt.toNat)) := e35
      have hpq : mcu.toInt ≠ 0 := g27
      have i3 : (v35.toInt = 1 ∧ (v11.toInt.toNat < n ∧ kw_eq w ((fun k => KW (p6 k).toInt.toNat) v11.toInt.toNat) (KW 1502))) ∨ (v35.toInt = 0 ∧ ¬ (v11.toInt.toNat < n ∧ kw_eq w ((fun k => KW (p6 k).toInt.toNat) v11.toInt.toNat) (KW 1502))) := by
            have h5 := b01 e35
            rw [show v32.toInt.toNat = 1502 by omega] at h5
            exact h5
      refine lv_if_ne hx hb d_Mo_value_38 (tgt := 45) (by decide) (fun g38 => ?_) (fun g38 => ?_)
      · have g38 := (iz_ne).mp g38
        refine lv_iconst (v := 0) hx hb d_Mo_value_45 (by decide) ?_
        refine lv_topi (fun v45 e45 => ?_)
        have t45 : v45.toInt = 0 := by rw [e45]; rfl
        refine lv_iconst (v := 1) hx hb d_Mo_value_46 (by decide) ?_
        refine lv_topi (fun v46 e46 => ?_)
        have t46 : v46.toInt = 1 := by rw [e46]; rfl
        have hPc := hP.sub (ws' := [(mo, .inr (4, [.int mso, .ref m1, .ref m2, .ref m3, .ref m4, .ref m5, .ref m6, .int mct, .ref m7, .int mfr, .int mcu, .int mth, .ref m8, .ref m9, .ref ma, .ref mb])), (m1, .inl (cL, 1503, .inr (.inl p1))), (m2, .inl (cL, 1503, .inr (.inl p2))), (m3, .inl (cI, 36072, .inl p3)), (m4, .inl (cI, 1503, .inl p4)), (m5, .inl (cL, 1500, .inr (.inl p5))), (m6, .inl (cI, 1500, .inl p6)), (m7, .inl (cI, 1500, .inl p7)), (m8, .inl (cI, 50, .inl p8)), (m9, .inl (cI, 50, .inl p9)), (ma, .inl (cI, 1500, .inl pa)), (mb, .inl (cI, 50, .inl pb))]) [0, 1, 2, 3, 4, 5, 6, 7, 8, 9, 10, 11] rfl
        have hDc := hD.sub (ws' := [(mo, .inr (4, [.int mso, .ref m1, .ref m2, .ref m3, .ref m4, .ref m5, .ref m6, .int mct, .ref m7, .int mfr, .int mcu, .int mth, .ref m8, .ref m9, .ref ma, .ref mb])), (m1, .inl (cL, 1503, .inr (.inl p1))), (m2, .inl (cL, 1503, .inr (.inl p2))), (m3, .inl (cI, 36072, .inl p3)), (m4, .inl (cI, 1503, .inl p4)), (m5, .inl (cL, 1500, .inr (.inl p5))), (m6, .inl (cI, 1500, .inl p6)), (m7, .inl (cI, 1500, .inl p7)), (m8, .inl (cI, 50, .inl p8)), (m9, .inl (cI, 50, .inl p9)), (ma, .inl (cI, 1500, .inl pa)), (mb, .inl (cI, 50, .inl pb))]) [0, 1, 2, 3, 4, 5, 6, 7, 8, 9, 10, 11] (by decide) rfl
        have hFc := va_free (wc := [(mo, .inr (4, [.int mso, .ref m1, .ref m2, .ref m3, .ref m4, .ref m5, .ref m6, .int mct, .ref m7, .int mfr, .int mcu, .int mth, .ref m8, .ref m9, .ref ma, .ref mb])), (m1, .inl (cL, 1503, .inr (.inl p1))), (m2, .inl (cL, 1503, .inr (.inl p2))), (m3, .inl (cI, 36072, .inl p3)), (m4, .inl (cI, 1503, .inl p4)), (m5, .inl (cL, 1500, .inr (.inl p5))), (m6, .inl (cI, 1500, .inl p6)), (m7, .inl (cI, 1500, .inl p7)), (m8, .inl (cI, 50, .inl p8)), (m9, .inl (cI, 50, .inl p9)), (ma, .inl (cI, 1500, .inl pa)), (mb, .inl (cI, 50, .inl pb))]) hD hS hA [0, 1, 2, 3, 4, 5, 6, 7, 8, 9, 10, 11] rfl
        refine va_calli (xr_mv (As := [.int v45, .int v46]) (rest := []) ⟨hx, hb, hml, hown, hts⟩ (c_Mo_fails l D cL cI mo m1 m2 m3 m4 m5 m6 m7 m8 m9 ma mb mso mct mfr mcu mth p1 p2 p5 p3 p4 p6 p7 p8 p9 pa pb v45 v46 s.heap.size (by first | omega | exact hso)) (xr_cv 2 hts tw_663 tw_660 tw_662 tp_10 tw_7 rfl rfl (by decide) ⟨Nat.le_of_ble_eq_true rfl, Nat.le_of_ble_eq_true rfl⟩) hK hPc (hDc.weaken (fun _ _ _ _ => trivial)) (va_recv hK hP rfl (q0 := 0) (ci := 4) rfl) rfl hl.1 rfl (Nat.le_of_ble_eq_true rfl) d_Mo_value_47 ⟨Nat.le_of_ble_eq_true rfl, Nat.le_of_ble_eq_true rfl⟩) hS (fun q _ h => hFc q h) hFc (fun v47 u47 tt47 H1 locs ht47 hvm47 e47 hB47 hz47 hk47 hS => ?_)
        obtain ⟨mth2_47, rfl⟩ : ∃ z, z = u47 := ⟨_, rfl⟩
        have e47 : v47.toInt = v45.toInt ∧ ((v45.toInt = 0 ∧ mth2_47.toInt = 0) ∨ (v45.toInt ≠ 0 ∧ mth2_47.toInt = v46.toInt)) := e47
        obtain ⟨hP1, hK1, hD1⟩ := hB47
        rw [ht47] at hP1
        obtain ⟨hP, hD⟩ := va_join (wr := []) (w1 := [(mo, .inr (4, [.int mso, .ref m1, .ref m2, .ref m3, .ref m4, .ref m5, .ref m6, .int mct, .ref m7, .int mfr, .int mcu, .int mth2_47, .ref m8, .ref m9, .ref ma, .ref mb])), (m1, .inl (cL, 1503, .inr (.inl p1))), (m2, .inl (cL, 1503, .inr (.inl p2))), (m3, .inl (cI, 36072, .inl p3)), (m4, .inl (cI, 1503, .inl p4)), (m5, .inl (cL, 1500, .inr (.inl p5))), (m6, .inl (cI, 1500, .inl p6)), (m7, .inl (cI, 1500, .inl p7)), (m8, .inl (cI, 50, .inl p8)), (m9, .inl (cI, 50, .inl p9)), (ma, .inl (cI, 1500, .inl pa)), (mb, .inl (cI, 50, .inl pb))]) hP hD [0, 1, 2, 3, 4, 5, 6, 7, 8, 9, 10, 11] [] rfl rfl (by decide) (by decide) hk47 hFc hP1 hD1
        clear hP1 hD1 hPc hDc hFc
        generalize H1 = H at hP hS ⊢
        have hP : va_P D classes [(mo, .inr (4, [.int mso, .ref m1, .ref m2, .ref m3, .ref m4, .ref m5, .ref m6, .int mct, .ref m7, .int mfr, .int mcu, .int mth2_47, .ref m8, .ref m9, .ref ma, .ref mb])), (m1, .inl (cL, 1503, .inr (.inl p1))), (m2, .inl (cL, 1503, .inr (.inl p2))), (m3, .inl (cI, 36072, .inl p3)), (m4, .inl (cI, 1503, .inl p4)), (m5, .inl (cL, 1500, .inr (.inl p5))), (m6, .inl (cI, 1500, .inl p6)), (m7, .inl (cI, 1500, .inl p7)), (m8, .inl (cI, 50, .inl p8)), (m9, .inl (cI, 50, .inl p9)), (ma, .inl (cI, 1500, .inl pa)), (mb, .inl (cI, 50, .inl pb))] H := hP
        have hD : va_D A [(mo, .inr (4, [.int mso, .ref m1, .ref m2, .ref m3, .ref m4, .ref m5, .ref m6, .int mct, .ref m7, .int mfr, .int mcu, .int mth2_47, .ref m8, .ref m9, .ref ma, .ref mb])), (m1, .inl (cL, 1503, .inr (.inl p1))), (m2, .inl (cL, 1503, .inr (.inl p2))), (m3, .inl (cI, 36072, .inl p3)), (m4, .inl (cI, 1503, .inl p4)), (m5, .inl (cL, 1500, .inr (.inl p5))), (m6, .inl (cI, 1500, .inl p6)), (m7, .inl (cI, 1500, .inl p7)), (m8, .inl (cI, 50, .inl p8)), (m9, .inl (cI, 50, .inl p9)), (ma, .inl (cI, 1500, .inl pa)), (mb, .inl (cI, 50, .inl pb))] := hD
        refine lv_if_eq hx hb d_Mo_value_50 (tgt := 55) (by decide) (fun g50 => ?_) (fun g50 => ?_)
        · have g50 := (iz_eq).mp g50
          have hin : v11.toInt.toNat < n ∧ kw_eq w ((fun k => KW (p6 k).toInt.toNat) v11.toInt.toNat) (KW 1502) := by
                first
                | (exfalso; omega)
                | (rcases i3 with ⟨j1, j2⟩ | ⟨j1, j2⟩
                   · exact j2
                   · exfalso; omega)
          have hin1 := hin.1
          have hord := hor v11.toInt.toNat hin.1
          refine lv_aload_n hx hb d_Mo_value_55 rfl (lv_at hl 1 rfl) ?_
          refine va_get (D := D) (ci := 4) (v := .ref m5) (C := R_Mo) (T := F_Mo) (N := 16) hx hb hts in_Mo hown hK hP 0 rfl rfl 5 (by decide) (hts _ tw_608) (fun _ h9 => h9) rfl d_Mo_value_56 ?_
          refine lv_aload_n hx hb d_Mo_value_59 rfl (lv_at hl 1 rfl) ?_
          refine va_get (D := D) (ci := 4) (v := .ref m6) (C := R_Mo) (T := F_Mo) (N := 16) hx hb hts in_Mo hown hK hP 0 rfl rfl 6 (by decide) (hts _ tw_609) (fun _ h9 => h9) rfl d_Mo_value_60 ?_
          refine lv_iload_n hx hb d_Mo_value_63 rfl (lv_at hl 0 rfl) ?_
          refine va_iald hx hb hK hP 6 1 rfl rfl (ia_in ⟨by omega, by omega⟩) d_Mo_value_64 ?_
          refine lv_topi (fun v64 e64 => ?_)
          have e64 : v64 = p6 v11.toInt.toNat := e64
          rw [← e64] at hord
          refine va_lald hx hb hK hP 5 0 rfl rfl (ia_in ⟨by omega, by omega⟩) d_Mo_value_65 ?_
          refine lv_topl (fun v65 e65 => ?_)
          have e65 : v65 = p5 v64.toInt.toNat := e65
          have hpost : (mcu = 0 ∧ mth2_47.toInt = 1) ∨ (¬ mcu = 0 ∧ ∃ q : Nat, ob_isb w n (fun k => KW (p6 k).toInt.toNat) (KW 1502) q ∧ (((q < n ∧ kw_eq w ((fun k => KW (p6 k).toInt.toNat) q) (KW 1502)) ∧ mth2_47.toInt = 0 ∧ v65 = p5 (p6 q).toInt.toNat) ∨ (¬ (q < n ∧ kw_eq w ((fun k => KW (p6 k).toInt.toNat) q) (KW 1502)) ∧ mth2_47.toInt = 1))) := by
            first
            | (exfalso; omega)
            | (rw [show v11.toInt.toNat = q by omega] at hin e64
               exact Or.inr ⟨iz_ne.mpr g27, q, hq2, Or.inl ⟨hin, by omega, by rw [← e64]; exact e65⟩⟩)
          have hP9 := hP.sub (ws' := [(mo, .inr (4, [.int mso, .ref m1, .ref m2, .ref m3, .ref m4, .ref m5, .ref m6, .int mct, .ref m7, .int mfr, .int mcu, .int mth2_47, .ref m8, .ref m9, .ref ma, .ref mb])), (m1, .inl (cL, 1503, .inr (.inl p1))), (m2, .inl (cL, 1503, .inr (.inl p2))), (m3, .inl (cI, 36072, .inl p3)), (m4, .inl (cI, 1503, .inl p4)), (m5, .inl (cL, 1500, .inr (.inl p5))), (m6, .inl (cI, 1500, .inl p6)), (m7, .inl (cI, 1500, .inl p7)), (m8, .inl (cI, 50, .inl p8)), (m9, .inl (cI, 50, .inl p9)), (ma, .inl (cI, 1500, .inl pa)), (mb, .inl (cI, 50, .inl pb))]) [0, 1, 2, 3, 4, 5, 6, 7, 8, 9, 10, 11] rfl
          have hD9 := hD.sub (ws' := [(mo, .inr (4, [.int mso, .ref m1, .ref m2, .ref m3, .ref m4, .ref m5, .ref m6, .int mct, .ref m7, .int mfr, .int mcu, .int mth2_47, .ref m8, .ref m9, .ref ma, .ref mb])), (m1, .inl (cL, 1503, .inr (.inl p1))), (m2, .inl (cL, 1503, .inr (.inl p2))), (m3, .inl (cI, 36072, .inl p3)), (m4, .inl (cI, 1503, .inl p4)), (m5, .inl (cL, 1500, .inr (.inl p5))), (m6, .inl (cI, 1500, .inl p6)), (m7, .inl (cI, 1500, .inl p7)), (m8, .inl (cI, 50, .inl p8)), (m9, .inl (cI, 50, .inl p9)), (ma, .inl (cI, 1500, .inl pa)), (mb, .inl (cI, 50, .inl pb))]) [0, 1, 2, 3, 4, 5, 6, 7, 8, 9, 10, 11] (by decide) rfl
          rw [hQ]
          exact W.lret (v := v65) hx hb hr (fun t ht hW => ⟨⟨v65, (mth2_47), rfl, hpost, by rw [ht]; exact hP9, va_K.moved hW.alike hK, hD9⟩, hS.F ht⟩) hS.2.2 d_Mo_value_66
        · have g50 := (iz_ne).mp g50
          exfalso; omega
      · have g38 := (iz_eq).mp g38
        refine lv_iconst (v := 1) hx hb d_Mo_value_41 (by decide) ?_
        refine lv_topi (fun v41 e41 => ?_)
        have t41 : v41.toInt = 1 := by rw [e41]; rfl
        refine lv_goto hx hb d_Mo_value_42 (tgt := 46) (by decide) ?_
        refine lv_iconst (v := 1) hx hb d_Mo_value_46 (by decide) ?_
        refine lv_topi (fun v46 e46 => ?_)
        have t46 : v46.toInt = 1 := by rw [e46]; rfl
        have hPc := hP.sub (ws' := [(mo, .inr (4, [.int mso, .ref m1, .ref m2, .ref m3, .ref m4, .ref m5, .ref m6, .int mct, .ref m7, .int mfr, .int mcu, .int mth, .ref m8, .ref m9, .ref ma, .ref mb])), (m1, .inl (cL, 1503, .inr (.inl p1))), (m2, .inl (cL, 1503, .inr (.inl p2))), (m3, .inl (cI, 36072, .inl p3)), (m4, .inl (cI, 1503, .inl p4)), (m5, .inl (cL, 1500, .inr (.inl p5))), (m6, .inl (cI, 1500, .inl p6)), (m7, .inl (cI, 1500, .inl p7)), (m8, .inl (cI, 50, .inl p8)), (m9, .inl (cI, 50, .inl p9)), (ma, .inl (cI, 1500, .inl pa)), (mb, .inl (cI, 50, .inl pb))]) [0, 1, 2, 3, 4, 5, 6, 7, 8, 9, 10, 11] rfl
        have hDc := hD.sub (ws' := [(mo, .inr (4, [.int mso, .ref m1, .ref m2, .ref m3, .ref m4, .ref m5, .ref m6, .int mct, .ref m7, .int mfr, .int mcu, .int mth, .ref m8, .ref m9, .ref ma, .ref mb])), (m1, .inl (cL, 1503, .inr (.inl p1))), (m2, .inl (cL, 1503, .inr (.inl p2))), (m3, .inl (cI, 36072, .inl p3)), (m4, .inl (cI, 1503, .inl p4)), (m5, .inl (cL, 1500, .inr (.inl p5))), (m6, .inl (cI, 1500, .inl p6)), (m7, .inl (cI, 1500, .inl p7)), (m8, .inl (cI, 50, .inl p8)), (m9, .inl (cI, 50, .inl p9)), (ma, .inl (cI, 1500, .inl pa)), (mb, .inl (cI, 50, .inl pb))]) [0, 1, 2, 3, 4, 5, 6, 7, 8, 9, 10, 11] (by decide) rfl
        have hFc := va_free (wc := [(mo, .inr (4, [.int mso, .ref m1, .ref m2, .ref m3, .ref m4, .ref m5, .ref m6, .int mct, .ref m7, .int mfr, .int mcu, .int mth, .ref m8, .ref m9, .ref ma, .ref mb])), (m1, .inl (cL, 1503, .inr (.inl p1))), (m2, .inl (cL, 1503, .inr (.inl p2))), (m3, .inl (cI, 36072, .inl p3)), (m4, .inl (cI, 1503, .inl p4)), (m5, .inl (cL, 1500, .inr (.inl p5))), (m6, .inl (cI, 1500, .inl p6)), (m7, .inl (cI, 1500, .inl p7)), (m8, .inl (cI, 50, .inl p8)), (m9, .inl (cI, 50, .inl p9)), (ma, .inl (cI, 1500, .inl pa)), (mb, .inl (cI, 50, .inl pb))]) hD hS hA [0, 1, 2, 3, 4, 5, 6, 7, 8, 9, 10, 11] rfl
        refine va_calli (xr_mv (As := [.int v41, .int v46]) (rest := []) ⟨hx, hb, hml, hown, hts⟩ (c_Mo_fails l D cL cI mo m1 m2 m3 m4 m5 m6 m7 m8 m9 ma mb mso mct mfr mcu mth p1 p2 p5 p3 p4 p6 p7 p8 p9 pa pb v41 v46 s.heap.size (by first | omega | exact hso)) (xr_cv 2 hts tw_663 tw_660 tw_662 tp_10 tw_7 rfl rfl (by decide) ⟨Nat.le_of_ble_eq_true rfl, Nat.le_of_ble_eq_true rfl⟩) hK hPc (hDc.weaken (fun _ _ _ _ => trivial)) (va_recv hK hP rfl (q0 := 0) (ci := 4) rfl) rfl hl.1 rfl (Nat.le_of_ble_eq_true rfl) d_Mo_value_47 ⟨Nat.le_of_ble_eq_true rfl, Nat.le_of_ble_eq_true rfl⟩) hS (fun q _ h => hFc q h) hFc (fun v47 u47 tt47 H1 locs ht47 hvm47 e47 hB47 hz47 hk47 hS => ?_)
        obtain ⟨mth2_47, rfl⟩ : ∃ z, z = u47 := ⟨_, rfl⟩
        have e47 : v47.toInt = v41.toInt ∧ ((v41.toInt = 0 ∧ mth2_47.toInt = 0) ∨ (v41.toInt ≠ 0 ∧ mth2_47.toInt = v46.toInt)) := e47
        obtain ⟨hP1, hK1, hD1⟩ := hB47
        rw [ht47] at hP1
        obtain ⟨hP, hD⟩ := va_join (wr := []) (w1 := [(mo, .inr (4, [.int mso, .ref m1, .ref m2, .ref m3, .ref m4, .ref m5, .ref m6, .int mct, .ref m7, .int mfr, .int mcu, .int mth2_47, .ref m8, .ref m9, .ref ma, .ref mb])), (m1, .inl (cL, 1503, .inr (.inl p1))), (m2, .inl (cL, 1503, .inr (.inl p2))), (m3, .inl (cI, 36072, .inl p3)), (m4, .inl (cI, 1503, .inl p4)), (m5, .inl (cL, 1500, .inr (.inl p5))), (m6, .inl (cI, 1500, .inl p6)), (m7, .inl (cI, 1500, .inl p7)), (m8, .inl (cI, 50, .inl p8)), (m9, .inl (cI, 50, .inl p9)), (ma, .inl (cI, 1500, .inl pa)), (mb, .inl (cI, 50, .inl pb))]) hP hD [0, 1, 2, 3, 4, 5, 6, 7, 8, 9, 10, 11] [] rfl rfl (by decide) (by decide) hk47 hFc hP1 hD1
        clear hP1 hD1 hPc hDc hFc
        generalize H1 = H at hP hS ⊢
        have hP : va_P D classes [(mo, .inr (4, [.int mso, .ref m1, .ref m2, .ref m3, .ref m4, .ref m5, .ref m6, .int mct, .ref m7, .int mfr, .int mcu, .int mth2_47, .ref m8, .ref m9, .ref ma, .ref mb])), (m1, .inl (cL, 1503, .inr (.inl p1))), (m2, .inl (cL, 1503, .inr (.inl p2))), (m3, .inl (cI, 36072, .inl p3)), (m4, .inl (cI, 1503, .inl p4)), (m5, .inl (cL, 1500, .inr (.inl p5))), (m6, .inl (cI, 1500, .inl p6)), (m7, .inl (cI, 1500, .inl p7)), (m8, .inl (cI, 50, .inl p8)), (m9, .inl (cI, 50, .inl p9)), (ma, .inl (cI, 1500, .inl pa)), (mb, .inl (cI, 50, .inl pb))] H := hP
        have hD : va_D A [(mo, .inr (4, [.int mso, .ref m1, .ref m2, .ref m3, .ref m4, .ref m5, .ref m6, .int mct, .ref m7, .int mfr, .int mcu, .int mth2_47, .ref m8, .ref m9, .ref ma, .ref mb])), (m1, .inl (cL, 1503, .inr (.inl p1))), (m2, .inl (cL, 1503, .inr (.inl p2))), (m3, .inl (cI, 36072, .inl p3)), (m4, .inl (cI, 1503, .inl p4)), (m5, .inl (cL, 1500, .inr (.inl p5))), (m6, .inl (cI, 1500, .inl p6)), (m7, .inl (cI, 1500, .inl p7)), (m8, .inl (cI, 50, .inl p8)), (m9, .inl (cI, 50, .inl p9)), (ma, .inl (cI, 1500, .inl pa)), (mb, .inl (cI, 50, .inl pb))] := hD
        refine lv_if_eq hx hb d_Mo_value_50 (tgt := 55) (by decide) (fun g50 => ?_) (fun g50 => ?_)
        · have g50 := (iz_eq).mp g50
          exfalso; omega
        · have g50 := (iz_ne).mp g50
          refine lv_lconst (v := 0) hx hb d_Mo_value_53 (by decide) ?_
          refine lv_topl (fun v53 e53 => ?_)
          have hpost : (mcu = 0 ∧ mth2_47.toInt = 1) ∨ (¬ mcu = 0 ∧ ∃ q : Nat, ob_isb w n (fun k => KW (p6 k).toInt.toNat) (KW 1502) q ∧ (((q < n ∧ kw_eq w ((fun k => KW (p6 k).toInt.toNat) q) (KW 1502)) ∧ mth2_47.toInt = 0 ∧ v53 = p5 (p6 q).toInt.toNat) ∨ (¬ (q < n ∧ kw_eq w ((fun k => KW (p6 k).toInt.toNat) q) (KW 1502)) ∧ mth2_47.toInt = 1))) := by
            first
            | (exfalso; omega)
            | exact Or.inl ⟨iz_eq.mpr g27, by omega⟩
            | (rw [show v11.toInt.toNat = q by omega] at i3
               rcases i3 with ⟨j1, j2⟩ | ⟨j1, j2⟩
               · exfalso; omega
               · exact Or.inr ⟨iz_ne.mpr g27, q, hq2, Or.inr ⟨j2, by omega⟩⟩)
          have hP9 := hP.sub (ws' := [(mo, .inr (4, [.int mso, .ref m1, .ref m2, .ref m3, .ref m4, .ref m5, .ref m6, .int mct, .ref m7, .int mfr, .int mcu, .int mth2_47, .ref m8, .ref m9, .ref ma, .ref mb])), (m1, .inl (cL, 1503, .inr (.inl p1))), (m2, .inl (cL, 1503, .inr (.inl p2))), (m3, .inl (cI, 36072, .inl p3)), (m4, .inl (cI, 1503, .inl p4)), (m5, .inl (cL, 1500, .inr (.inl p5))), (m6, .inl (cI, 1500, .inl p6)), (m7, .inl (cI, 1500, .inl p7)), (m8, .inl (cI, 50, .inl p8)), (m9, .inl (cI, 50, .inl p9)), (ma, .inl (cI, 1500, .inl pa)), (mb, .inl (cI, 50, .inl pb))]) [0, 1, 2, 3, 4, 5, 6, 7, 8, 9, 10, 11] rfl
          have hD9 := hD.sub (ws' := [(mo, .inr (4, [.int mso, .ref m1, .ref m2, .ref m3, .ref m4, .ref m5, .ref m6, .int mct, .ref m7, .int mfr, .int mcu, .int mth2_47, .ref m8, .ref m9, .ref ma, .ref mb])), (m1, .inl (cL, 1503, .inr (.inl p1))), (m2, .inl (cL, 1503, .inr (.inl p2))), (m3, .inl (cI, 36072, .inl p3)), (m4, .inl (cI, 1503, .inl p4)), (m5, .inl (cL, 1500, .inr (.inl p5))), (m6, .inl (cI, 1500, .inl p6)), (m7, .inl (cI, 1500, .inl p7)), (m8, .inl (cI, 50, .inl p8)), (m9, .inl (cI, 50, .inl p9)), (ma, .inl (cI, 1500, .inl pa)), (mb, .inl (cI, 50, .inl pb))]) [0, 1, 2, 3, 4, 5, 6, 7, 8, 9, 10, 11] (by decide) rfl
          rw [hQ]
          exact W.lret (v := v53) hx hb hr (fun t ht hW => ⟨⟨v53, (mth2_47), rfl, hpost, by rw [ht]; exact hP9, va_K.moved hW.alike hK, hD9⟩, hS.F ht⟩) hS.2.2 d_Mo_value_54
set_option maxRecDepth 100000 in
set_option maxHeartbeats 4000000 in
theorem c_Mo_rank (l : Launch) (D : va_G) (cL cI : ClassId) (mo m1 m2 m3 m4 m5 m6 m7 m8 m9 ma mb : Nat) (mso mct mfr mcu mth : Int32) (p1 p2 p5 : Nat → Int64) (p3 p4 p6 p7 p8 p9 pa pb : Nat → Int32) (w : Nat) (KW : Nat → Nat → Int64) (n : Nat) (sz : Nat) (hws : (mso.toInt = 0 ∧ w = 1) ∨ (mso.toInt = 1 ∧ w = 2) ∨ (mso.toInt = 2 ∧ w = 7)) (hkr : ∀ x, x < 1503 → KR mso.toInt p1 p2 p3 p4 x (KW x)) (hct : mct.toInt = (n : Int)) (hn : n ≤ 1500) (hor : ∀ k, k < n → 0 ≤ (p6 k).toInt ∧ (p6 k).toInt < 1500) (hs : ob_srt w n (fun k => KW (p6 k).toInt.toNat)) : Met l y_Mo_rank (Cond.code y_Mo_rank prog_6_method_28_code 1 (some .int) :: TW) ({ frames := 4, cells := 0, slots := 0, locals := 112 } : Room) (PM D cL cI [.ref mo] [(mo, .inr (4, [.int mso, .ref m1, .ref m2, .ref m3, .ref m4, .ref m5, .ref m6, .int mct, .ref m7, .int mfr, .int mcu, .int mth, .ref m8, .ref m9, .ref ma, .ref mb])), (m1, .inl (cL, 1503, .inr (.inl p1))), (m2, .inl (cL, 1503, .inr (.inl p2))), (m3, .inl (cI, 36072, .inl p3)), (m4, .inl (cI, 1503, .inl p4)), (m5, .inl (cL, 1500, .inr (.inl p5))), (m6, .inl (cI, 1500, .inl p6)), (m7, .inl (cI, 1500, .inl p7)), (m8, .inl (cI, 50, .inl p8)), (m9, .inl (cI, 50, .inl p9)), (ma, .inl (cI, 1500, .inl pa)), (mb, .inl (cI, 50, .inl pb))] sz) (va_Qi (fun (r : Int32) (u : (Int32)) => u.toInt = 0 ∧ ∃ q : Nat, r.toInt = (q : Int) ∧ ob_isb w n (fun k => KW (p6 k).toInt.toNat) (KW 1500) q) (fun (u : (Int32)) (t : State) => va_P D classes [(mo, .inr (4, [.int mso, .ref m1, .ref m2, .ref m3, .ref m4, .ref m5, .ref m6, .int mct, .ref m7, .int mfr, .int mcu, .int u, .ref m8, .ref m9, .ref ma, .ref mb])), (m1, .inl (cL, 1503, .inr (.inl p1))), (m2, .inl (cL, 1503, .inr (.inl p2))), (m3, .inl (cI, 36072, .inl p3)), (m4, .inl (cI, 1503, .inl p4)), (m5, .inl (cL, 1500, .inr (.inl p5))), (m6, .inl (cI, 1500, .inl p6)), (m7, .inl (cI, 1500, .inl p7)), (m8, .inl (cI, 50, .inl p8)), (m9, .inl (cI, 50, .inl p9)), (ma, .inl (cI, 1500, .inl pa)), (mb, .inl (cI, 50, .inl pb))] t.heap ∧ va_K D classes (tyz cL cI) t ∧ va_D (va_A [(mo, .inr (4, [.int mso, .ref m1, .ref m2, .ref m3, .ref m4, .ref m5, .ref m6, .int mct, .ref m7, .int mfr, .int mcu, .int mth, .ref m8, .ref m9, .ref ma, .ref mb])), (m1, .inl (cL, 1503, .inr (.inl p1))), (m2, .inl (cL, 1503, .inr (.inl p2))), (m3, .inl (cI, 36072, .inl p3)), (m4, .inl (cI, 1503, .inl p4)), (m5, .inl (cL, 1500, .inr (.inl p5))), (m6, .inl (cI, 1500, .inl p6)), (m7, .inl (cI, 1500, .inl p7)), (m8, .inl (cI, 50, .inl p8)), (m9, .inl (cI, 50, .inl p9)), (ma, .inl (cI, 1500, .inl pa)), (mb, .inl (cI, 50, .inl pb))] sz) [(mo, .inr (4, [.int mso, .ref m1, .ref m2, .ref m3, .ref m4, .ref m5, .ref m6, .int mct, .ref m7, .int mfr, .int mcu, .int u, .ref m8, .ref m9, .ref ma, .ref mb])), (m1, .inl (cL, 1503, .inr (.inl p1))), (m2, .inl (cL, 1503, .inr (.inl p2))), (m3, .inl (cI, 36072, .inl p3)), (m4, .inl (cI, 1503, .inl p4)), (m5, .inl (cL, 1500, .inr (.inl p5))), (m6, .inl (cI, 1500, .inl p6)), (m7, .inl (cI, 1500, .inl p7)), (m8, .inl (cI, 50, .inl p8)), (m9, .inl (cI, 50, .inl p9)), (ma, .inl (cI, 1500, .inl pa)), (mb, .inl (cI, 50, .inl pb))]) (va_A [(mo, .inr (4, [.int mso, .ref m1, .ref m2, .ref m3, .ref m4, .ref m5, .ref m6, .int mct, .ref m7, .int mfr, .int mcu, .int mth, .ref m8, .ref m9, .ref ma, .ref mb])), (m1, .inl (cL, 1503, .inr (.inl p1))), (m2, .inl (cL, 1503, .inr (.inl p2))), (m3, .inl (cI, 36072, .inl p3)), (m4, .inl (cI, 1503, .inl p4)), (m5, .inl (cL, 1500, .inr (.inl p5))), (m6, .inl (cI, 1500, .inl p6)), (m7, .inl (cI, 1500, .inl p7)), (m8, .inl (cI, 50, .inl p8)), (m9, .inl (cI, 50, .inl p9)), (ma, .inl (cI, 1500, .inl pa)), (mb, .inl (cI, 50, .inl pb))] sz)) 0 0 (va_A [(mo, .inr (4, [.int mso, .ref m1, .ref m2, .ref m3, .ref m4, .ref m5, .ref m6, .int mct, .ref m7, .int mfr, .int mcu, .int mth, .ref m8, .ref m9, .ref ma, .ref mb])), (m1, .inl (cL, 1503, .inr (.inl p1))), (m2, .inl (cL, 1503, .inr (.inl p2))), (m3, .inl (cI, 36072, .inl p3)), (m4, .inl (cI, 1503, .inl p4)), (m5, .inl (cL, 1500, .inr (.inl p5))), (m6, .inl (cI, 1500, .inl p6)), (m7, .inl (cI, 1500, .inl p7)), (m8, .inl (cI, 50, .inl p8)), (m9, .inl (cI, 50, .inl p9)), (ma, .inl (cI, 1500, .inl pa)), (mb, .inl (cI, 50, .inl pb))] sz) := by
  refine xr_met (by decide) ?_
  intro p e s m args below meth c hx hb hr hts hown hlocks hname hml hv
  obtain ⟨rfl, hsz, hP, hK, hD0⟩ := hv
  subst hsz
  have hD := hD0.self (sz := s.heap.size)
  generalize hAe : va_A [(mo, .inr (4, [.int mso, .ref m1, .ref m2, .ref m3, .ref m4, .ref m5, .ref m6, .int mct, .ref m7, .int mfr, .int mcu, .int mth, .ref m8, .ref m9, .ref ma, .ref mb])), (m1, .inl (cL, 1503, .inr (.inl p1))), (m2, .inl (cL, 1503, .inr (.inl p2))), (m3, .inl (cI, 36072, .inl p3)), (m4, .inl (cI, 1503, .inl p4)), (m5, .inl (cL, 1500, .inr (.inl p5))), (m6, .inl (cI, 1500, .inl p6)), (m7, .inl (cI, 1500, .inl p7)), (m8, .inl (cI, 50, .inl p8)), (m9, .inl (cI, 50, .inl p9)), (ma, .inl (cI, 1500, .inl pa)), (mb, .inl (cI, 50, .inl pb))] s.heap.size = A at hD ⊢
  have hA : ∀ q : Nat, s.heap.size ≤ q → A q := fun q h => by rw [← hAe]; exact Or.inr h
  have hS : va_S A s.heap s.heap [] := va_S.rf
  have hD : va_D A [(mo, .inr (4, [.int mso, .ref m1, .ref m2, .ref m3, .ref m4, .ref m5, .ref m6, .int mct, .ref m7, .int mfr, .int mcu, .int mth, .ref m8, .ref m9, .ref ma, .ref mb])), (m1, .inl (cL, 1503, .inr (.inl p1))), (m2, .inl (cL, 1503, .inr (.inl p2))), (m3, .inl (cI, 36072, .inl p3)), (m4, .inl (cI, 1503, .inl p4)), (m5, .inl (cL, 1500, .inr (.inl p5))), (m6, .inl (cI, 1500, .inl p6)), (m7, .inl (cI, 1500, .inl p7)), (m8, .inl (cI, 50, .inl p8)), (m9, .inl (cI, 50, .inl p9)), (ma, .inl (cI, 1500, .inl pa)), (mb, .inl (cI, 50, .inl pb))] := hD
  have hown : s.vm.findClass "BranchStoreModel" = some m.cls := hown
  have hP : va_P D classes [(mo, .inr (4, [.int mso, .ref m1, .ref m2, .ref m3, .ref m4, .ref m5, .ref m6, .int mct, .ref m7, .int mfr, .int mcu, .int mth, .ref m8, .ref m9, .ref ma, .ref mb])), (m1, .inl (cL, 1503, .inr (.inl p1))), (m2, .inl (cL, 1503, .inr (.inl p2))), (m3, .inl (cI, 36072, .inl p3)), (m4, .inl (cI, 1503, .inl p4)), (m5, .inl (cL, 1500, .inr (.inl p5))), (m6, .inl (cI, 1500, .inl p6)), (m7, .inl (cI, 1500, .inl p7)), (m8, .inl (cI, 50, .inl p8)), (m9, .inl (cI, 50, .inl p9)), (ma, .inl (cI, 1500, .inl pa)), (mb, .inl (cI, 50, .inl pb))] s.heap := hP
  have hl := lv_entry ([.ref mo]) (n := 1) (Nat.le_of_ble_eq_true rfl)
  rw [lg_entry_eq]
  generalize (lg_sl ([.ref mo]) ++ List.replicate (1 - (lg_sl ([.ref mo])).length) Slot.unset).toArray = ls at hl ⊢
  have hl : lv_has ls 1 [(0, .ref mo)] := hl
  obtain ⟨Q, hQ⟩ : ∃ Q, Q = MQ below (va_Qi (fun (r : Int32) (u : (Int32)) => u.toInt = 0 ∧ ∃ q : Nat, r.toInt = (q : Int) ∧ ob_isb w n (fun k => KW (p6 k).toInt.toNat) (KW 1500) q) (fun (u : (Int32)) (t : State) => va_P D classes [(mo, .inr (4, [.int mso, .ref m1, .ref m2, .ref m3, .ref m4, .ref m5, .ref m6, .int mct, .ref m7, .int mfr, .int mcu, .int u, .ref m8, .ref m9, .ref ma, .ref mb])), (m1, .inl (cL, 1503, .inr (.inl p1))), (m2, .inl (cL, 1503, .inr (.inl p2))), (m3, .inl (cI, 36072, .inl p3)), (m4, .inl (cI, 1503, .inl p4)), (m5, .inl (cL, 1500, .inr (.inl p5))), (m6, .inl (cI, 1500, .inl p6)), (m7, .inl (cI, 1500, .inl p7)), (m8, .inl (cI, 50, .inl p8)), (m9, .inl (cI, 50, .inl p9)), (ma, .inl (cI, 1500, .inl pa)), (mb, .inl (cI, 50, .inl pb))] t.heap ∧ va_K D classes (tyz cL cI) t ∧ va_D (A) [(mo, .inr (4, [.int mso, .ref m1, .ref m2, .ref m3, .ref m4, .ref m5, .ref m6, .int mct, .ref m7, .int mfr, .int mcu, .int u, .ref m8, .ref m9, .ref ma, .ref mb])), (m1, .inl (cL, 1503, .inr (.inl p1))), (m2, .inl (cL, 1503, .inr (.inl p2))), (m3, .inl (cI, 36072, .inl p3)), (m4, .inl (cI, 1503, .inl p4)), (m5, .inl (cL, 1500, .inr (.inl p5))), (m6, .inl (cI, 1500, .inl p6)), (m7, .inl (cI, 1500, .inl p7)), (m8, .inl (cI, 50, .inl p8)), (m9, .inl (cI, 50, .inl p9)), (ma, .inl (cI, 1500, .inl pa)), (mb, .inl (cI, 50, .inl pb))]) (A)) ([.ref mo] : List Value).toArray s 0 0 A := ⟨_, rfl⟩
  rw [← hQ]
  refine lv_aload_n hx hb d_Mo_rank_0 rfl (lv_at hl 0 rfl) ?_
  refine lv_iconst (v := 0) hx hb d_Mo_rank_1 (by decide) ?_
  refine lv_topi (fun v1 e1 => ?_)
  have t1 : v1.toInt = 0 := by rw [e1]; rfl
  refine va_put (D := D) (ci := 4) (v := .int v1) (ty := .int) (C := R_Mo) (T := F_Mo) (N := 16) hx hb hts in_Mo t_Mo t_Mo_ok n_Mo hown hK hP hD hS 0 rfl rfl 11 (by decide) (hts _ tw_614) (fun _ h9 => h9) rfl (by decide +kernel) rfl rfl (Nat.le_of_ble_eq_true rfl) d_Mo_rank_2 (fun H locs hP hD hS => ?_)
  have hP : va_P D classes [(mo, .inr (4, [.int mso, .ref m1, .ref m2, .ref m3, .ref m4, .ref m5, .ref m6, .int mct, .ref m7, .int mfr, .int mcu, .int v1, .ref m8, .ref m9, .ref ma, .ref mb])), (m1, .inl (cL, 1503, .inr (.inl p1))), (m2, .inl (cL, 1503, .inr (.inl p2))), (m3, .inl (cI, 36072, .inl p3)), (m4, .inl (cI, 1503, .inl p4)), (m5, .inl (cL, 1500, .inr (.inl p5))), (m6, .inl (cI, 1500, .inl p6)), (m7, .inl (cI, 1500, .inl p7)), (m8, .inl (cI, 50, .inl p8)), (m9, .inl (cI, 50, .inl p9)), (ma, .inl (cI, 1500, .inl pa)), (mb, .inl (cI, 50, .inl pb))] H := hP
  have hD : va_D A [(mo, .inr (4, [.int mso, .ref m1, .ref m2, .ref m3, .ref m4, .ref m5, .ref m6, .int mct, .ref m7, .int mfr, .int mcu, .int v1, .ref m8, .ref m9, .ref ma, .ref mb])), (m1, .inl (cL, 1503, .inr (.inl p1))), (m2, .inl (cL, 1503, .inr (.inl p2))), (m3, .inl (cI, 36072, .inl p3)), (m4, .inl (cI, 1503, .inl p4)), (m5, .inl (cL, 1500, .inr (.inl p5))), (m6, .inl (cI, 1500, .inl p6)), (m7, .inl (cI, 1500, .inl p7)), (m8, .inl (cI, 50, .inl p8)), (m9, .inl (cI, 50, .inl p9)), (ma, .inl (cI, 1500, .inl pa)), (mb, .inl (cI, 50, .inl pb))] := hD
  refine lv_aload_n hx hb d_Mo_rank_5 rfl (lv_at hl 0 rfl) ?_
  refine lv_sipush (v := 1500) hx hb d_Mo_rank_6 (by decide) ?_
  refine lv_topi (fun v6 e6 => ?_)
  have t6 : v6.toInt = 1500 := by rw [e6]; rfl
  refine vp_callSi (xr_rv (As := [.int v6]) (rest := []) ⟨hx, hb, hml, hown, hts⟩ (c_Mo_below l D cL cI mo m1 m2 m3 m4 m5 m6 m7 m8 m9 ma mb mso mct mfr mcu v1 p1 p2 p5 p3 p4 p6 p7 p8 p9 pa pb w KW n v6 (by first | omega | exact hws) (by first | omega | exact hkr) (by first | omega | exact hct) (by first | omega | exact hn) (by first | omega | exact hor) (by first | omega | exact hib) (by first | omega | exact hs)) (xr_cv 1 hts tw_700 tw_697 tw_699 tp_13 tw_7 rfl rfl (by decide) ⟨Nat.le_of_ble_eq_true rfl, Nat.le_of_ble_eq_true rfl⟩) hK hP (va_recv hK hP rfl (q0 := 0) (ci := 4) rfl) rfl hl.1 rfl (Nat.le_of_ble_eq_true rfl) d_Mo_rank_9 ⟨Nat.le_of_ble_eq_true rfl, Nat.le_of_ble_eq_true rfl⟩) (fun v9 e9 => ?_)
  have e9 : ∃ q : Nat, v9.toInt = (q : Int) ∧ ob_isb w n (fun k => KW (p6 k).toInt.toNat) (KW v6.toInt.toNat) q := e9
  obtain ⟨q, hq1, hq2⟩ := e9
  rw [show v6.toInt.toNat = 1500 by omega] at hq2
  have hq3 := hq2.1
  have hpost : v1.toInt = 0 ∧ ∃ q : Nat, v9.toInt = (q : Int) ∧ ob_isb w n (fun k => KW (p6 k).toInt.toNat) (KW 1500) q := ⟨t1, q, hq1, hq2⟩
  have hP9 := hP.sub (ws' := [(mo, .inr (4, [.int mso, .ref m1, .ref m2, .ref m3, .ref m4, .ref m5, .ref m6, .int mct, .ref m7, .int mfr, .int mcu, .int v1, .ref m8, .ref m9, .ref ma, .ref mb])), (m1, .inl (cL, 1503, .inr (.inl p1))), (m2, .inl (cL, 1503, .inr (.inl p2))), (m3, .inl (cI, 36072, .inl p3)), (m4, .inl (cI, 1503, .inl p4)), (m5, .inl (cL, 1500, .inr (.inl p5))), (m6, .inl (cI, 1500, .inl p6)), (m7, .inl (cI, 1500, .inl p7)), (m8, .inl (cI, 50, .inl p8)), (m9, .inl (cI, 50, .inl p9)), (ma, .inl (cI, 1500, .inl pa)), (mb, .inl (cI, 50, .inl pb))]) [0, 1, 2, 3, 4, 5, 6, 7, 8, 9, 10, 11] rfl
  have hD9 := hD.sub (ws' := [(mo, .inr (4, [.int mso, .ref m1, .ref m2, .ref m3, .ref m4, .ref m5, .ref m6, .int mct, .ref m7, .int mfr, .int mcu, .int v1, .ref m8, .ref m9, .ref ma, .ref mb])), (m1, .inl (cL, 1503, .inr (.inl p1))), (m2, .inl (cL, 1503, .inr (.inl p2))), (m3, .inl (cI, 36072, .inl p3)), (m4, .inl (cI, 1503, .inl p4)), (m5, .inl (cL, 1500, .inr (.inl p5))), (m6, .inl (cI, 1500, .inl p6)), (m7, .inl (cI, 1500, .inl p7)), (m8, .inl (cI, 50, .inl p8)), (m9, .inl (cI, 50, .inl p9)), (ma, .inl (cI, 1500, .inl pa)), (mb, .inl (cI, 50, .inl pb))]) [0, 1, 2, 3, 4, 5, 6, 7, 8, 9, 10, 11] (by decide) rfl
  rw [hQ]
  exact W.iret (v := v9) hx hb hr (fun t ht hW => ⟨⟨v9, (v1), rfl, hpost, by rw [ht]; exact hP9, va_K.moved hW.alike hK, hD9⟩, hS.F ht⟩) hS.2.2 d_Mo_rank_12
set_option maxRecDepth 100000 in
set_option maxHeartbeats 4000000 in
theorem c_Mo_select (l : Launch) (D : va_G) (cL cI : ClassId) (mo m1 m2 m3 m4 m5 m6 m7 m8 m9 ma mb : Nat) (mso mct mfr mcu mth : Int32) (p1 p2 p5 : Nat → Int64) (p3 p4 p6 p7 p8 p9 pa pb : Nat → Int32) (w : Nat) (KW : Nat → Nat → Int64) (n : Nat) (pl : Int32) (sz : Nat) (hws : (mso.toInt = 0 ∧ w = 1) ∨ (mso.toInt = 1 ∧ w = 2) ∨ (mso.toInt = 2 ∧ w = 7)) (hkr : ∀ x, x < 1503 → KR mso.toInt p1 p2 p3 p4 x (KW x)) (hct : mct.toInt = (n : Int)) (hn : n ≤ 1500) (hor : ∀ k, k < n → 0 ≤ (p6 k).toInt ∧ (p6 k).toInt < 1500) : Met l y_Mo_select (Cond.code y_Mo_select prog_6_method_29_code 2 none :: TW) ({ frames := 3, cells := 0, slots := 0, locals := 84 } : Room) (PM D cL cI [.ref mo, .int pl] [(mo, .inr (4, [.int mso, .ref m1, .ref m2, .ref m3, .ref m4, .ref m5, .ref m6, .int mct, .ref m7, .int mfr, .int mcu, .int mth, .ref m8, .ref m9, .ref ma, .ref mb])), (m1, .inl (cL, 1503, .inr (.inl p1))), (m2, .inl (cL, 1503, .inr (.inl p2))), (m3, .inl (cI, 36072, .inl p3)), (m4, .inl (cI, 1503, .inl p4)), (m5, .inl (cL, 1500, .inr (.inl p5))), (m6, .inl (cI, 1500, .inl p6)), (m7, .inl (cI, 1500, .inl p7)), (m8, .inl (cI, 50, .inl p8)), (m9, .inl (cI, 50, .inl p9)), (ma, .inl (cI, 1500, .inl pa)), (mb, .inl (cI, 50, .inl pb))] sz) (va_Qv (fun (u : (Int32) × (Int32) × (Nat → Int64) × (Nat → Int64) × (Nat → Int32) × (Nat → Int32)) => (¬ (0 ≤ pl.toInt ∧ pl.toInt < (n : Int)) ∧ u.1.toInt = 1 ∧ u.2.1 = mcu ∧ u.2.2.1 = p1 ∧ u.2.2.2.1 = p2 ∧ u.2.2.2.2.1 = p3 ∧ u.2.2.2.2.2 = p4) ∨ ((0 ≤ pl.toInt ∧ pl.toInt < (n : Int)) ∧ u.1.toInt = 0 ∧ u.2.1 = 1 ∧ KRs mso.toInt u.2.2.1 u.2.2.2.1 u.2.2.2.2.1 u.2.2.2.2.2 (kset KW 1502 (KW (p6 pl.toInt.toNat).toInt.toNat)))) (fun (u : (Int32) × (Int32) × (Nat → Int64) × (Nat → Int64) × (Nat → Int32) × (Nat → Int32)) (t : State) => va_P D classes [(mo, .inr (4, [.int mso, .ref m1, .ref m2, .ref m3, .ref m4, .ref m5, .ref m6, .int mct, .ref m7, .int mfr, .int u.2.1, .int u.1, .ref m8, .ref m9, .ref ma, .ref mb])), (m1, .inl (cL, 1503, .inr (.inl u.2.2.1))), (m2, .inl (cL, 1503, .inr (.inl u.2.2.2.1))), (m3, .inl (cI, 36072, .inl u.2.2.2.2.1)), (m4, .inl (cI, 1503, .inl u.2.2.2.2.2)), (m5, .inl (cL, 1500, .inr (.inl p5))), (m6, .inl (cI, 1500, .inl p6)), (m7, .inl (cI, 1500, .inl p7)), (m8, .inl (cI, 50, .inl p8)), (m9, .inl (cI, 50, .inl p9)), (ma, .inl (cI, 1500, .inl pa)), (mb, .inl (cI, 50, .inl pb))] t.heap ∧ va_K D classes (tyz cL cI) t ∧ va_D (va_A [(mo, .inr (4, [.int mso, .ref m1, .ref m2, .ref m3, .ref m4, .ref m5, .ref m6, .int mct, .ref m7, .int mfr, .int mcu, .int mth, .ref m8, .ref m9, .ref ma, .ref mb])), (m1, .inl (cL, 1503, .inr (.inl p1))), (m2, .inl (cL, 1503, .inr (.inl p2))), (m3, .inl (cI, 36072, .inl p3)), (m4, .inl (cI, 1503, .inl p4)), (m5, .inl (cL, 1500, .inr (.inl p5))), (m6, .inl (cI, 1500, .inl p6)), (m7, .inl (cI, 1500, .inl p7)), (m8, .inl (cI, 50, .inl p8)), (m9, .inl (cI, 50, .inl p9)), (ma, .inl (cI, 1500, .inl pa)), (mb, .inl (cI, 50, .inl pb))] sz) [(mo, .inr (4, [.int mso, .ref m1, .ref m2, .ref m3, .ref m4, .ref m5, .ref m6, .int mct, .ref m7, .int mfr, .int u.2.1, .int u.1, .ref m8, .ref m9, .ref ma, .ref mb])), (m1, .inl (cL, 1503, .inr (.inl u.2.2.1))), (m2, .inl (cL, 1503, .inr (.inl u.2.2.2.1))), (m3, .inl (cI, 36072, .inl u.2.2.2.2.1)), (m4, .inl (cI, 1503, .inl u.2.2.2.2.2)), (m5, .inl (cL, 1500, .inr (.inl p5))), (m6, .inl (cI, 1500, .inl p6)), (m7, .inl (cI, 1500, .inl p7)), (m8, .inl (cI, 50, .inl p8)), (m9, .inl (cI, 50, .inl p9)), (ma, .inl (cI, 1500, .inl pa)), (mb, .inl (cI, 50, .inl pb))]) (va_A [(mo, .inr (4, [.int mso, .ref m1, .ref m2, .ref m3, .ref m4, .ref m5, .ref m6, .int mct, .ref m7, .int mfr, .int mcu, .int mth, .ref m8, .ref m9, .ref ma, .ref mb])), (m1, .inl (cL, 1503, .inr (.inl p1))), (m2, .inl (cL, 1503, .inr (.inl p2))), (m3, .inl (cI, 36072, .inl p3)), (m4, .inl (cI, 1503, .inl p4)), (m5, .inl (cL, 1500, .inr (.inl p5))), (m6, .inl (cI, 1500, .inl p6)), (m7, .inl (cI, 1500, .inl p7)), (m8, .inl (cI, 50, .inl p8)), (m9, .inl (cI, 50, .inl p9)), (ma, .inl (cI, 1500, .inl pa)), (mb, .inl (cI, 50, .inl pb))] sz)) 0 0 (va_A [(mo, .inr (4, [.int mso, .ref m1, .ref m2, .ref m3, .ref m4, .ref m5, .ref m6, .int mct, .ref m7, .int mfr, .int mcu, .int mth, .ref m8, .ref m9, .ref ma, .ref mb])), (m1, .inl (cL, 1503, .inr (.inl p1))), (m2, .inl (cL, 1503, .inr (.inl p2))), (m3, .inl (cI, 36072, .inl p3)), (m4, .inl (cI, 1503, .inl p4)), (m5, .inl (cL, 1500, .inr (.inl p5))), (m6, .inl (cI, 1500, .inl p6)), (m7, .inl (cI, 1500, .inl p7)), (m8, .inl (cI, 50, .inl p8)), (m9, .inl (cI, 50, .inl p9)), (ma, .inl (cI, 1500, .inl pa)), (mb, .inl (cI, 50, .inl pb))] sz) := by
  refine xr_met (by decide) ?_
  intro p e s m args below meth c hx hb hr hts hown hlocks hname hml hv
  obtain ⟨rfl, hsz, hP, hK, hD0⟩ := hv
  subst hsz
  have hD := hD0.self (sz := s.heap.size)
  generalize hAe : va_A [(mo, .inr (4, [.int mso, .ref m1, .ref m2, .ref m3, .ref m4, .ref m5, .ref m6, .int mct, .ref m7, .int mfr, .int mcu, .int mth, .ref m8, .ref m9, .ref ma, .ref mb])), (m1, .inl (cL, 1503, .inr (.inl p1))), (m2, .inl (cL, 1503, .inr (.inl p2))), (m3, .inl (cI, 36072, .inl p3)), (m4, .inl (cI, 1503, .inl p4)), (m5, .inl (cL, 1500, .inr (.inl p5))), (m6, .inl (cI, 1500, .inl p6)), (m7, .inl (cI, 1500, .inl p7)), (m8, .inl (cI, 50, .inl p8)), (m9, .inl (cI, 50, .inl p9)), (ma, .inl (cI, 1500, .inl pa)), (mb, .inl (cI, 50, .inl pb))] s.heap.size = A at hD ⊢
  have hA : ∀ q : Nat, s.heap.size ≤ q → A q := fun q h => by rw [← hAe]; exact Or.inr h
  have hS : va_S A s.heap s.heap [] := va_S.rf
  have hD : va_D A [(mo, .inr (4, [.int mso, .ref m1, .ref m2, .ref m3, .ref m4, .ref m5, .ref m6, .int mct, .ref m7, .int mfr, .int mcu, .int mth, .ref m8, .ref m9, .ref ma, .ref mb])), (m1, .inl (cL, 1503, .inr (.inl p1))), (m2, .inl (cL, 1503, .inr (.inl p2))), (m3, .inl (cI, 36072, .inl p3)), (m4, .inl (cI, 1503, .inl p4)), (m5, .inl (cL, 1500, .inr (.inl p5))), (m6, .inl (cI, 1500, .inl p6)), (m7, .inl (cI, 1500, .inl p7)), (m8, .inl (cI, 50, .inl p8)), (m9, .inl (cI, 50, .inl p9)), (ma, .inl (cI, 1500, .inl pa)), (mb, .inl (cI, 50, .inl pb))] := hD
  have hown : s.vm.findClass "BranchStoreModel" = some m.cls := hown
  have hP : va_P D classes [(mo, .inr (4, [.int mso, .ref m1, .ref m2, .ref m3, .ref m4, .ref m5, .ref m6, .int mct, .ref m7, .int mfr, .int mcu, .int mth, .ref m8, .ref m9, .ref ma, .ref mb])), (m1, .inl (cL, 1503, .inr (.inl p1))), (m2, .inl (cL, 1503, .inr (.inl p2))), (m3, .inl (cI, 36072, .inl p3)), (m4, .inl (cI, 1503, .inl p4)), (m5, .inl (cL, 1500, .inr (.inl p5))), (m6, .inl (cI, 1500, .inl p6)), (m7, .inl (cI, 1500, .inl p7)), (m8, .inl (cI, 50, .inl p8)), (m9, .inl (cI, 50, .inl p9)), (ma, .inl (cI, 1500, .inl pa)), (mb, .inl (cI, 50, .inl pb))] s.heap := hP
  have hl := lv_entry ([.ref mo, .int pl]) (n := 2) (Nat.le_of_ble_eq_true rfl)
  rw [lg_entry_eq]
  generalize (lg_sl ([.ref mo, .int pl]) ++ List.replicate (2 - (lg_sl ([.ref mo, .int pl])).length) Slot.unset).toArray = ls at hl ⊢
  have hl : lv_has ls 2 [(0, .ref mo), (1, .int pl)] := hl
  obtain ⟨Q, hQ⟩ : ∃ Q, Q = MQ below (va_Qv (fun (u : (Int32) × (Int32) × (Nat → Int64) × (Nat → Int64) × (Nat → Int32) × (Nat → Int32)) => (¬ (0 ≤ pl.toInt ∧ pl.toInt < (n : Int)) ∧ u.1.toInt = 1 ∧ u.2.1 = mcu ∧ u.2.2.1 = p1 ∧ u.2.2.2.1 = p2 ∧ u.2.2.2.2.1 = p3 ∧ u.2.2.2.2.2 = p4) ∨ ((0 ≤ pl.toInt ∧ pl.toInt < (n : Int)) ∧ u.1.toInt = 0 ∧ u.2.1 = 1 ∧ KRs mso.toInt u.2.2.1 u.2.2.2.1 u.2.2.2.2.1 u.2.2.2.2.2 (kset KW 1502 (KW (p6 pl.toInt.toNat).toInt.toNat)))) (fun (u : (Int32) × (Int32) × (Nat → Int64) × (Nat → Int64) × (Nat → Int32) × (Nat → Int32)) (t : State) => va_P D classes [(mo, .inr (4, [.int mso, .ref m1, .ref m2, .ref m3, .ref m4, .ref m5, .ref m6, .int mct, .ref m7, .int mfr, .int u.2.1, .int u.1, .ref m8, .ref m9, .ref ma, .ref mb])), (m1, .inl (cL, 1503, .inr (.inl u.2.2.1))), (m2, .inl (cL, 1503, .inr (.inl u.2.2.2.1))), (m3, .inl (cI, 36072, .inl u.2.2.2.2.1)), (m4, .inl (cI, 1503, .inl u.2.2.2.2.2)), (m5, .inl (cL, 1500, .inr (.inl p5))), (m6, .inl (cI, 1500, .inl p6)), (m7, .inl (cI, 1500, .inl p7)), (m8, .inl (cI, 50, .inl p8)), (m9, .inl (cI, 50, .inl p9)), (ma, .inl (cI, 1500, .inl pa)), (mb, .inl (cI, 50, .inl pb))] t.heap ∧ va_K D classes (tyz cL cI) t ∧ va_D (A) [(mo, .inr (4, [.int mso, .ref m1, .ref m2, .ref m3, .ref m4, .ref m5, .ref m6, .int mct, .ref m7, .int mfr, .int u.2.1, .int u.1, .ref m8, .ref m9, .ref ma, .ref mb])), (m1, .inl (cL, 1503, .inr (.inl u.2.2.1))), (m2, .inl (cL, 1503, .inr (.inl u.2.2.2.1))), (m3, .inl (cI, 36072, .inl u.2.2.2.2.1)), (m4, .inl (cI, 1503, .inl u.2.2.2.2.2)), (m5, .inl (cL, 1500, .inr (.inl p5))), (m6, .inl (cI, 1500, .inl p6)), (m7, .inl (cI, 1500, .inl p7)), (m8, .inl (cI, 50, .inl p8)), (m9, .inl (cI, 50, .inl p9)), (ma, .inl (cI, 1500, .inl pa)), (mb, .inl (cI, 50, .inl pb))]) (A)) ([.ref mo, .int pl] : List Value).toArray s 0 0 A := ⟨_, rfl⟩
  rw [← hQ]
  have hrg_pl := ia_rng pl
  refine lv_aload_n hx hb d_Mo_select_0 rfl (lv_at hl 0 rfl) ?_
  refine lv_iload_n hx hb d_Mo_select_1 rfl (lv_at hl 1 rfl) ?_
  refine lv_if_lt hx hb d_Mo_select_2 (tgt := 13) (by decide) (fun g2 => ?_) (fun g2 => ?_)
  · have g2 := (iz_lt).mp g2
    refine lv_iconst (v := 1) hx hb d_Mo_select_13 (by decide) ?_
    refine lv_topi (fun v13 e13 => ?_)
    have t13 : v13.toInt = 1 := by rw [e13]; rfl
    refine lv_goto hx hb d_Mo_select_14 (tgt := 18) (by decide) ?_
    refine lv_iconst (v := 1) hx hb d_Mo_select_18 (by decide) ?_
    refine lv_topi (fun v18 e18 => ?_)
    have t18 : v18.toInt = 1 := by rw [e18]; rfl
    have hPc := hP.sub (ws' := [(mo, .inr (4, [.int mso, .ref m1, .ref m2, .ref m3, .ref m4, .ref m5, .ref m6, .int mct, .ref m7, .int mfr, .int mcu, .int mth, .ref m8, .ref m9, .ref ma, .ref mb])), (m1, .inl (cL, 1503, .inr (.inl p1))), (m2, .inl (cL, 1503, .inr (.inl p2))), (m3, .inl (cI, 36072, .inl p3)), (m4, .inl (cI, 1503, .inl p4)), (m5, .inl (cL, 1500, .inr (.inl p5))), (m6, .inl (cI, 1500, .inl p6)), (m7, .inl (cI, 1500, .inl p7)), (m8, .inl (cI, 50, .inl p8)), (m9, .inl (cI, 50, .inl p9)), (ma, .inl (cI, 1500, .inl pa)), (mb, .inl (cI, 50, .inl pb))]) [0, 1, 2, 3, 4, 5, 6, 7, 8, 9, 10, 11] rfl
    have hDc := hD.sub (ws' := [(mo, .inr (4, [.int mso, .ref m1, .ref m2, .ref m3, .ref m4, .ref m5, .ref m6, .int mct, .ref m7, .int mfr, .int mcu, .int mth, .ref m8, .ref m9, .ref ma, .ref mb])), (m1, .inl (cL, 1503, .inr (.inl p1))), (m2, .inl (cL, 1503, .inr (.inl p2))), (m3, .inl (cI, 36072, .inl p3)), (m4, .inl (cI, 1503, .inl p4)), (m5, .inl (cL, 1500, .inr (.inl p5))), (m6, .inl (cI, 1500, .inl p6)), (m7, .inl (cI, 1500, .inl p7)), (m8, .inl (cI, 50, .inl p8)), (m9, .inl (cI, 50, .inl p9)), (ma, .inl (cI, 1500, .inl pa)), (mb, .inl (cI, 50, .inl pb))]) [0, 1, 2, 3, 4, 5, 6, 7, 8, 9, 10, 11] (by decide) rfl
    have hFc := va_free (wc := [(mo, .inr (4, [.int mso, .ref m1, .ref m2, .ref m3, .ref m4, .ref m5, .ref m6, .int mct, .ref m7, .int mfr, .int mcu, .int mth, .ref m8, .ref m9, .ref ma, .ref mb])), (m1, .inl (cL, 1503, .inr (.inl p1))), (m2, .inl (cL, 1503, .inr (.inl p2))), (m3, .inl (cI, 36072, .inl p3)), (m4, .inl (cI, 1503, .inl p4)), (m5, .inl (cL, 1500, .inr (.inl p5))), (m6, .inl (cI, 1500, .inl p6)), (m7, .inl (cI, 1500, .inl p7)), (m8, .inl (cI, 50, .inl p8)), (m9, .inl (cI, 50, .inl p9)), (ma, .inl (cI, 1500, .inl pa)), (mb, .inl (cI, 50, .inl pb))]) hD hS hA [0, 1, 2, 3, 4, 5, 6, 7, 8, 9, 10, 11] rfl
    refine va_calli (xr_mv (As := [.int v13, .int v18]) (rest := []) ⟨hx, hb, hml, hown, hts⟩ (c_Mo_fails l D cL cI mo m1 m2 m3 m4 m5 m6 m7 m8 m9 ma mb mso mct mfr mcu mth p1 p2 p5 p3 p4 p6 p7 p8 p9 pa pb v13 v18 s.heap.size (by first | omega | exact hso)) (xr_cv 2 hts tw_663 tw_660 tw_662 tp_10 tw_7 rfl rfl (by decide) ⟨Nat.le_of_ble_eq_true rfl, Nat.le_of_ble_eq_true rfl⟩) hK hPc (hDc.weaken (fun _ _ _ _ => trivial)) (va_recv hK hP rfl (q0 := 0) (ci := 4) rfl) rfl hl.1 rfl (Nat.le_of_ble_eq_true rfl) d_Mo_select_19 ⟨Nat.le_of_ble_eq_true rfl, Nat.le_of_ble_eq_true rfl⟩) hS (fun q _ h => hFc q h) hFc (fun v19 u19 tt19 H1 locs ht19 hvm19 e19 hB19 hz19 hk19 hS => ?_)
    obtain ⟨mth2_19, rfl⟩ : ∃ z, z = u19 := ⟨_, rfl⟩
    have e19 : v19.toInt = v13.toInt ∧ ((v13.toInt = 0 ∧ mth2_19.toInt = 0) ∨ (v13.toInt ≠ 0 ∧ mth2_19.toInt = v18.toInt)) := e19
    obtain ⟨hP1, hK1, hD1⟩ := hB19
    rw [ht19] at hP1
    obtain ⟨hP, hD⟩ := va_join (wr := []) (w1 := [(mo, .inr (4, [.int mso, .ref m1, .ref m2, .ref m3, .ref m4, .ref m5, .ref m6, .int mct, .ref m7, .int mfr, .int mcu, .int mth2_19, .ref m8, .ref m9, .ref ma, .ref mb])), (m1, .inl (cL, 1503, .inr (.inl p1))), (m2, .inl (cL, 1503, .inr (.inl p2))), (m3, .inl (cI, 36072, .inl p3)), (m4, .inl (cI, 1503, .inl p4)), (m5, .inl (cL, 1500, .inr (.inl p5))), (m6, .inl (cI, 1500, .inl p6)), (m7, .inl (cI, 1500, .inl p7)), (m8, .inl (cI, 50, .inl p8)), (m9, .inl (cI, 50, .inl p9)), (ma, .inl (cI, 1500, .inl pa)), (mb, .inl (cI, 50, .inl pb))]) hP hD [0, 1, 2, 3, 4, 5, 6, 7, 8, 9, 10, 11] [] rfl rfl (by decide) (by decide) hk19 hFc hP1 hD1
    clear hP1 hD1 hPc hDc hFc
    generalize H1 = H at hP hS ⊢
    have hP : va_P D classes [(mo, .inr (4, [.int mso, .ref m1, .ref m2, .ref m3, .ref m4, .ref m5, .ref m6, .int mct, .ref m7, .int mfr, .int mcu, .int mth2_19, .ref m8, .ref m9, .ref ma, .ref mb])), (m1, .inl (cL, 1503, .inr (.inl p1))), (m2, .inl (cL, 1503, .inr (.inl p2))), (m3, .inl (cI, 36072, .inl p3)), (m4, .inl (cI, 1503, .inl p4)), (m5, .inl (cL, 1500, .inr (.inl p5))), (m6, .inl (cI, 1500, .inl p6)), (m7, .inl (cI, 1500, .inl p7)), (m8, .inl (cI, 50, .inl p8)), (m9, .inl (cI, 50, .inl p9)), (ma, .inl (cI, 1500, .inl pa)), (mb, .inl (cI, 50, .inl pb))] H := hP
    have hD : va_D A [(mo, .inr (4, [.int mso, .ref m1, .ref m2, .ref m3, .ref m4, .ref m5, .ref m6, .int mct, .ref m7, .int mfr, .int mcu, .int mth2_19, .ref m8, .ref m9, .ref ma, .ref mb])), (m1, .inl (cL, 1503, .inr (.inl p1))), (m2, .inl (cL, 1503, .inr (.inl p2))), (m3, .inl (cI, 36072, .inl p3)), (m4, .inl (cI, 1503, .inl p4)), (m5, .inl (cL, 1500, .inr (.inl p5))), (m6, .inl (cI, 1500, .inl p6)), (m7, .inl (cI, 1500, .inl p7)), (m8, .inl (cI, 50, .inl p8)), (m9, .inl (cI, 50, .inl p9)), (ma, .inl (cI, 1500, .inl pa)), (mb, .inl (cI, 50, .inl pb))] := hD
    refine lv_if_eq hx hb d_Mo_select_22 (tgt := 26) (by decide) (fun g22 => ?_) (fun g22 => ?_)
    · have g22 := (iz_eq).mp g22
      exfalso; omega
    · have g22 := (iz_ne).mp g22
      have hpost : (¬ (0 ≤ pl.toInt ∧ pl.toInt < (n : Int)) ∧ mth2_19.toInt = 1 ∧ mcu = mcu ∧ p1 = p1 ∧ p2 = p2 ∧ p3 = p3 ∧ p4 = p4) ∨ ((0 ≤ pl.toInt ∧ pl.toInt < (n : Int)) ∧ mth2_19.toInt = 0 ∧ mcu = 1 ∧ KRs mso.toInt p1 p2 p3 p4 (kset KW 1502 (KW (p6 pl.toInt.toNat).toInt.toNat))) := by
        first
        | (exfalso; omega)
        | exact Or.inl ⟨by omega, by omega, rfl, rfl, rfl, rfl, rfl⟩
      have hP9 := hP.sub (ws' := [(mo, .inr (4, [.int mso, .ref m1, .ref m2, .ref m3, .ref m4, .ref m5, .ref m6, .int mct, .ref m7, .int mfr, .int mcu, .int mth2_19, .ref m8, .ref m9, .ref ma, .ref mb])), (m1, .inl (cL, 1503, .inr (.inl p1))), (m2, .inl (cL, 1503, .inr (.inl p2))), (m3, .inl (cI, 36072, .inl p3)), (m4, .inl (cI, 1503, .inl p4)), (m5, .inl (cL, 1500, .inr (.inl p5))), (m6, .inl (cI, 1500, .inl p6)), (m7, .inl (cI, 1500, .inl p7)), (m8, .inl (cI, 50, .inl p8)), (m9, .inl (cI, 50, .inl p9)), (ma, .inl (cI, 1500, .inl pa)), (mb, .inl (cI, 50, .inl pb))]) [0, 1, 2, 3, 4, 5, 6, 7, 8, 9, 10, 11] rfl
      have hD9 := hD.sub (ws' := [(mo, .inr (4, [.int mso, .ref m1, .ref m2, .ref m3, .ref m4, .ref m5, .ref m6, .int mct, .ref m7, .int mfr, .int mcu, .int mth2_19, .ref m8, .ref m9, .ref ma, .ref mb])), (m1, .inl (cL, 1503, .inr (.inl p1))), (m2, .inl (cL, 1503, .inr (.inl p2))), (m3, .inl (cI, 36072, .inl p3)), (m4, .inl (cI, 1503, .inl p4)), (m5, .inl (cL, 1500, .inr (.inl p5))), (m6, .inl (cI, 1500, .inl p6)), (m7, .inl (cI, 1500, .inl p7)), (m8, .inl (cI, 50, .inl p8)), (m9, .inl (cI, 50, .inl p9)), (ma, .inl (cI, 1500, .inl pa)), (mb, .inl (cI, 50, .inl pb))]) [0, 1, 2, 3, 4, 5, 6, 7, 8, 9, 10, 11] (by decide) rfl
      rw [hQ]
      exact W.vret hx hb hr (fun t ht hW => ⟨⟨(mth2_19, mcu, p1, p2, p3, p4), rfl, hpost, by rw [ht]; exact hP9, va_K.moved hW.alike hK, hD9⟩, hS.F ht⟩) hS.2.2 d_Mo_select_25
  · have g2 := (iz_nlt).mp g2
    refine lv_iload_n hx hb d_Mo_select_5 rfl (lv_at hl 1 rfl) ?_
    refine lv_aload_n hx hb d_Mo_select_6 rfl (lv_at hl 0 rfl) ?_
    refine va_get (D := D) (ci := 4) (v := .int mct) (C := R_Mo) (T := F_Mo) (N := 16) hx hb hts in_Mo hown hK hP 0 rfl rfl 7 (by decide) (hts _ tw_610) (fun _ h9 => h9) rfl d_Mo_select_7 ?_
    refine lv_icmp_lt hx hb d_Mo_select_10 (tgt := 17) (by decide) (fun g10 => ?_) (fun g10 => ?_)
    · have g10 := ic_lt.mp g10
      refine lv_iconst (v := 0) hx hb d_Mo_select_17 (by decide) ?_
      refine lv_topi (fun v17 e17 => ?_)
      have t17 : v17.toInt = 0 := by rw [e17]; rfl
      refine lv_iconst (v := 1) hx hb d_Mo_select_18 (by decide) ?_
      refine lv_topi (fun v18 e18 => ?_)
      have t18 : v18.toInt = 1 := by rw [e18]; rfl
      have hPc := hP.sub (ws' := [(mo, .inr (4, [.int mso, .ref m1, .ref m2, .ref m3, .ref m4, .ref m5, .ref m6, .int mct, .ref m7, .int mfr, .int mcu, .int mth, .ref m8, .ref m9, .ref ma, .ref mb])), (m1, .inl (cL, 1503, .inr (.inl p1))), (m2, .inl (cL, 1503, .inr (.inl p2))), (m3, .inl (cI, 36072, .inl p3)), (m4, .inl (cI, 1503, .inl p4)), (m5, .inl (cL, 1500, .inr (.inl p5))), (m6, .inl (cI, 1500, .inl p6)), (m7, .inl (cI, 1500, .inl p7)), (m8, .inl (cI, 50, .inl p8)), (m9, .inl (cI, 50, .inl p9)), (ma, .inl (cI, 1500, .inl pa)), (mb, .inl (cI, 50, .inl pb))]) [0, 1, 2, 3, 4, 5, 6, 7, 8, 9, 10, 11] rfl
      have hDc := hD.sub (ws' := [(mo, .inr (4, [.int mso, .ref m1, .ref m2, .ref m3, .ref m4, .ref m5, .ref m6, .int mct, .ref m7, .int mfr, .int mcu, .int mth, .ref m8, .ref m9, .ref ma, .ref mb])), (m1, .inl (cL, 1503, .inr (.inl p1))), (m2, .inl (cL, 1503, .inr (.inl p2))), (m3, .inl (cI, 36072, .inl p3)), (m4, .inl (cI, 1503, .inl p4)), (m5, .inl (cL, 1500, .inr (.inl p5))), (m6, .inl (cI, 1500, .inl p6)), (m7, .inl (cI, 1500, .inl p7)), (m8, .inl (cI, 50, .inl p8)), (m9, .inl (cI, 50, .inl p9)), (ma, .inl (cI, 1500, .inl pa)), (mb, .inl (cI, 50, .inl pb))]) [0, 1, 2, 3, 4, 5, 6, 7, 8, 9, 10, 11] (by decide) rfl
      have hFc := va_free (wc := [(mo, .inr (4, [.int mso, .ref m1, .ref m2, .ref m3, .ref m4, .ref m5, .ref m6, .int mct, .ref m7, .int mfr, .int mcu, .int mth, .ref m8, .ref m9, .ref ma, .ref mb])), (m1, .inl (cL, 1503, .inr (.inl p1))), (m2, .inl (cL, 1503, .inr (.inl p2))), (m3, .inl (cI, 36072, .inl p3)), (m4, .inl (cI, 1503, .inl p4)), (m5, .inl (cL, 1500, .inr (.inl p5))), (m6, .inl (cI, 1500, .inl p6)), (m7, .inl (cI, 1500, .inl p7)), (m8, .inl (cI, 50, .inl p8)), (m9, .inl (cI, 50, .inl p9)), (ma, .inl (cI, 1500, .inl pa)), (mb, .inl (cI, 50, .inl pb))]) hD hS hA [0, 1, 2, 3, 4, 5, 6, 7, 8, 9, 10, 11] rfl
      refine va_calli (xr_mv (As := [.int v17, .int v18]) (rest := []) ⟨hx, hb, hml, hown, hts⟩ (c_Mo_fails l D cL cI mo m1 m2 m3 m4 m5 m6 m7 m8 m9 ma mb mso mct mfr mcu mth p1 p2 p5 p3 p4 p6 p7 p8 p9 pa pb v17 v18 s.heap.size (by first | omega | exact hso)) (xr_cv 2 hts tw_663 tw_660 tw_662 tp_10 tw_7 rfl rfl (by decide) ⟨Nat.le_of_ble_eq_true rfl, Nat.le_of_ble_eq_true rfl⟩) hK hPc (hDc.weaken (fun _ _ _ _ => trivial)) (va_recv hK hP rfl (q0 := 0) (ci := 4) rfl) rfl hl.1 rfl (Nat.le_of_ble_eq_true rfl) d_Mo_select_19 ⟨Nat.le_of_ble_eq_true rfl, Nat.le_of_ble_eq_true rfl⟩) hS (fun q _ h => hFc q h) hFc (fun v19 u19 tt19 H1 locs ht19 hvm19 e19 hB19 hz19 hk19 hS => ?_)
      obtain ⟨mth2_19, rfl⟩ : ∃ z, z = u19 := ⟨_, rfl⟩
      have e19 : v19.toInt = v17.toInt ∧ ((v17.toInt = 0 ∧ mth2_19.toInt = 0) ∨ (v17.toInt ≠ 0 ∧ mth2_19.toInt = v18.toInt)) := e19
      obtain ⟨hP1, hK1, hD1⟩ := hB19
      rw [ht19] at hP1
      obtain ⟨hP, hD⟩ := va_join (wr := []) (w1 := [(mo, .inr (4, [.int mso, .ref m1, .ref m2, .ref m3, .ref m4, .ref m5, .ref m6, .int mct, .ref m7, .int mfr, .int mcu, .int mth2_19, .ref m8, .ref m9, .ref ma, .ref mb])), (m1, .inl (cL, 1503, .inr (.inl p1))), (m2, .inl (cL, 1503, .inr (.inl p2))), (m3, .inl (cI, 36072, .inl p3)), (m4, .inl (cI, 1503, .inl p4)), (m5, .inl (cL, 1500, .inr (.inl p5))), (m6, .inl (cI, 1500, .inl p6)), (m7, .inl (cI, 1500, .inl p7)), (m8, .inl (cI, 50, .inl p8)), (m9, .inl (cI, 50, .inl p9)), (ma, .inl (cI, 1500, .inl pa)), (mb, .inl (cI, 50, .inl pb))]) hP hD [0, 1, 2, 3, 4, 5, 6, 7, 8, 9, 10, 11] [] rfl rfl (by decide) (by decide) hk19 hFc hP1 hD1
      clear hP1 hD1 hPc hDc hFc
      generalize H1 = H at hP hS ⊢
      have hP : va_P D classes [(mo, .inr (4, [.int mso, .ref m1, .ref m2, .ref m3, .ref m4, .ref m5, .ref m6, .int mct, .ref m7, .int mfr, .int mcu, .int mth2_19, .ref m8, .ref m9, .ref ma, .ref mb])), (m1, .inl (cL, 1503, .inr (.inl p1))), (m2, .inl (cL, 1503, .inr (.inl p2))), (m3, .inl (cI, 36072, .inl p3)), (m4, .inl (cI, 1503, .inl p4)), (m5, .inl (cL, 1500, .inr (.inl p5))), (m6, .inl (cI, 1500, .inl p6)), (m7, .inl (cI, 1500, .inl p7)), (m8, .inl (cI, 50, .inl p8)), (m9, .inl (cI, 50, .inl p9)), (ma, .inl (cI, 1500, .inl pa)), (mb, .inl (cI, 50, .inl pb))] H := hP
      have hD : va_D A [(mo, .inr (4, [.int mso, .ref m1, .ref m2, .ref m3, .ref m4, .ref m5, .ref m6, .int mct, .ref m7, .int mfr, .int mcu, .int mth2_19, .ref m8, .ref m9, .ref ma, .ref mb])), (m1, .inl (cL, 1503, .inr (.inl p1))), (m2, .inl (cL, 1503, .inr (.inl p2))), (m3, .inl (cI, 36072, .inl p3)), (m4, .inl (cI, 1503, .inl p4)), (m5, .inl (cL, 1500, .inr (.inl p5))), (m6, .inl (cI, 1500, .inl p6)), (m7, .inl (cI, 1500, .inl p7)), (m8, .inl (cI, 50, .inl p8)), (m9, .inl (cI, 50, .inl p9)), (ma, .inl (cI, 1500, .inl pa)), (mb, .inl (cI, 50, .inl pb))] := hD
      refine lv_if_eq hx hb d_Mo_select_22 (tgt := 26) (by decide) (fun g22 => ?_) (fun g22 => ?_)
      · have g22 := (iz_eq).mp g22
        refine lv_aload_n hx hb d_Mo_select_26 rfl (lv_at hl 0 rfl) ?_
        refine lv_iload_n hx hb d_Mo_select_27 rfl (lv_at hl 1 rfl) ?_
        have hPc := hP.sub (ws' := [(mo, .inr (4, [.int mso, .ref m1, .ref m2, .ref m3, .ref m4, .ref m5, .ref m6, .int mct, .ref m7, .int mfr, .int mcu, .int mth2_19, .ref m8, .ref m9, .ref ma, .ref mb])), (m1, .inl (cL, 1503, .inr (.inl p1))), (m2, .inl (cL, 1503, .inr (.inl p2))), (m3, .inl (cI, 36072, .inl p3)), (m4, .inl (cI, 1503, .inl p4)), (m5, .inl (cL, 1500, .inr (.inl p5))), (m6, .inl (cI, 1500, .inl p6)), (m7, .inl (cI, 1500, .inl p7)), (m8, .inl (cI, 50, .inl p8)), (m9, .inl (cI, 50, .inl p9)), (ma, .inl (cI, 1500, .inl pa)), (mb, .inl (cI, 50, .inl pb))]) [0, 1, 2, 3, 4, 5, 6, 7, 8, 9, 10, 11] rfl
        have hDc := hD.sub (ws' := [(mo, .inr (4, [.int mso, .ref m1, .ref m2, .ref m3, .ref m4, .ref m5, .ref m6, .int mct, .ref m7, .int mfr, .int mcu, .int mth2_19, .ref m8, .ref m9, .ref ma, .ref mb])), (m1, .inl (cL, 1503, .inr (.inl p1))), (m2, .inl (cL, 1503, .inr (.inl p2))), (m3, .inl (cI, 36072, .inl p3)), (m4, .inl (cI, 1503, .inl p4)), (m5, .inl (cL, 1500, .inr (.inl p5))), (m6, .inl (cI, 1500, .inl p6)), (m7, .inl (cI, 1500, .inl p7)), (m8, .inl (cI, 50, .inl p8)), (m9, .inl (cI, 50, .inl p9)), (ma, .inl (cI, 1500, .inl pa)), (mb, .inl (cI, 50, .inl pb))]) [0, 1, 2, 3, 4, 5, 6, 7, 8, 9, 10, 11] (by decide) rfl
        have hFc := va_free (wc := [(mo, .inr (4, [.int mso, .ref m1, .ref m2, .ref m3, .ref m4, .ref m5, .ref m6, .int mct, .ref m7, .int mfr, .int mcu, .int mth2_19, .ref m8, .ref m9, .ref ma, .ref mb])), (m1, .inl (cL, 1503, .inr (.inl p1))), (m2, .inl (cL, 1503, .inr (.inl p2))), (m3, .inl (cI, 36072, .inl p3)), (m4, .inl (cI, 1503, .inl p4)), (m5, .inl (cL, 1500, .inr (.inl p5))), (m6, .inl (cI, 1500, .inl p6)), (m7, .inl (cI, 1500, .inl p7)), (m8, .inl (cI, 50, .inl p8)), (m9, .inl (cI, 50, .inl p9)), (ma, .inl (cI, 1500, .inl pa)), (mb, .inl (cI, 50, .inl pb))]) hD hS hA [0, 1, 2, 3, 4, 5, 6, 7, 8, 9, 10, 11] rfl
        refine va_calli (xr_mv (As := [.int pl]) (rest := []) ⟨hx, hb, hml, hown, hts⟩ (c_Mo_goes l D cL cI mo m1 m2 m3 m4 m5 m6 m7 m8 m9 ma mb mso mct mfr mcu mth2_19 p1 p2 p5 p3 p4 p6 p7 p8 p9 pa pb w KW n pl H.size (by first | omega | exact hws) (by first | omega | exact hkr) (by first | omega | exact hct) (by first | omega | exact hn) (by first | omega | exact hor)) (xr_cv 1 hts tw_735 tw_732 tw_734 tp_18 tw_7 rfl rfl (by decide) ⟨Nat.le_of_ble_eq_true rfl, Nat.le_of_ble_eq_true rfl⟩) hK hPc (hDc.weaken (fun _ _ _ _ => trivial)) (va_recv hK hP rfl (q0 := 0) (ci := 4) rfl) rfl hl.1 rfl (Nat.le_of_ble_eq_true rfl) d_Mo_select_28 ⟨Nat.le_of_ble_eq_true rfl, Nat.le_of_ble_eq_true rfl⟩) hS (fun q _ h => hFc q h) hFc (fun v28 u28 tt28 H1 locs ht28 hvm28 e28 hB28 hz28 hk28 hS => ?_)
        obtain ⟨mcu2_28, p1b_28, p2b_28, p3b_28, p4b_28⟩ := u28
        have e28 : ((v28 = 1 ∧ 0 ≤ pl.toInt ∧ pl.toInt < (n : Int) ∧ mcu2_28 = 1 ∧ KRs mso.toInt p1b_28 p2b_28 p3b_28 p4b_28 (kset KW 1502 (KW (p6 (pl.toInt).toNat).toInt.toNat))) ∨ (v28 = 0 ∧ ¬ (0 ≤ pl.toInt ∧ pl.toInt < (n : Int)) ∧ mcu2_28 = mcu ∧ p1b_28 = p1 ∧ p2b_28 = p2 ∧ p3b_28 = p3 ∧ p4b_28 = p4)) := e28
        obtain ⟨hP1, hK1, hD1⟩ := hB28
        rw [ht28] at hP1
        obtain ⟨hP, hD⟩ := va_join (wr := []) (w1 := [(mo, .inr (4, [.int mso, .ref m1, .ref m2, .ref m3, .ref m4, .ref m5, .ref m6, .int mct, .ref m7, .int mfr, .int mcu2_28, .int mth2_19, .ref m8, .ref m9, .ref ma, .ref mb])), (m1, .inl (cL, 1503, .inr (.inl p1b_28))), (m2, .inl (cL, 1503, .inr (.inl p2b_28))), (m3, .inl (cI, 36072, .inl p3b_28)), (m4, .inl (cI, 1503, .inl p4b_28)), (m5, .inl (cL, 1500, .inr (.inl p5))), (m6, .inl (cI, 1500, .inl p6)), (m7, .inl (cI, 1500, .inl p7)), (m8, .inl (cI, 50, .inl p8)), (m9, .inl (cI, 50, .inl p9)), (ma, .inl (cI, 1500, .inl pa)), (mb, .inl (cI, 50, .inl pb))]) hP hD [0, 1, 2, 3, 4, 5, 6, 7, 8, 9, 10, 11] [] rfl rfl (by decide) (by decide) hk28 hFc hP1 hD1
        clear hP1 hD1 hPc hDc hFc
        generalize H1 = H at hP hS ⊢
        have hP : va_P D classes [(mo, .inr (4, [.int mso, .ref m1, .ref m2, .ref m3, .ref m4, .ref m5, .ref m6, .int mct, .ref m7, .int mfr, .int mcu2_28, .int mth2_19, .ref m8, .ref m9, .ref ma, .ref mb])), (m1, .inl (cL, 1503, .inr (.inl p1b_28))), (m2, .inl (cL, 1503, .inr (.inl p2b_28))), (m3, .inl (cI, 36072, .inl p3b_28)), (m4, .inl (cI, 1503, .inl p4b_28)), (m5, .inl (cL, 1500, .inr (.inl p5))), (m6, .inl (cI, 1500, .inl p6)), (m7, .inl (cI, 1500, .inl p7)), (m8, .inl (cI, 50, .inl p8)), (m9, .inl (cI, 50, .inl p9)), (ma, .inl (cI, 1500, .inl pa)), (mb, .inl (cI, 50, .inl pb))] H := hP
        have hD : va_D A [(mo, .inr (4, [.int mso, .ref m1, .ref m2, .ref m3, .ref m4, .ref m5, .ref m6, .int mct, .ref m7, .int mfr, .int mcu2_28, .int mth2_19, .ref m8, .ref m9, .ref ma, .ref mb])), (m1, .inl (cL, 1503, .inr (.inl p1b_28))), (m2, .inl (cL, 1503, .inr (.inl p2b_28))), (m3, .inl (cI, 36072, .inl p3b_28)), (m4, .inl (cI, 1503, .inl p4b_28)), (m5, .inl (cL, 1500, .inr (.inl p5))), (m6, .inl (cI, 1500, .inl p6)), (m7, .inl (cI, 1500, .inl p7)), (m8, .inl (cI, 50, .inl p8)), (m9, .inl (cI, 50, .inl p9)), (ma, .inl (cI, 1500, .inl pa)), (mb, .inl (cI, 50, .inl pb))] := hD
        refine lv_pop hx hb d_Mo_select_31 rfl ?_
        have hpost : (¬ (0 ≤ pl.toInt ∧ pl.toInt < (n : Int)) ∧ mth2_19.toInt = 1 ∧ mcu2_28 = mcu ∧ p1b_28 = p1 ∧ p2b_28 = p2 ∧ p3b_28 = p3 ∧ p4b_28 = p4) ∨ ((0 ≤ pl.toInt ∧ pl.toInt < (n : Int)) ∧ mth2_19.toInt = 0 ∧ mcu2_28 = 1 ∧ KRs mso.toInt p1b_28 p2b_28 p3b_28 p4b_28 (kset KW 1502 (KW (p6 pl.toInt.toNat).toInt.toNat))) := by
          rcases e28 with h5 | h5
          · first
            | (exfalso; omega)
            | exact Or.inr ⟨⟨h5.2.1, h5.2.2.1⟩, by omega, h5.2.2.2.1, h5.2.2.2.2⟩
          · exfalso
            have h6 := h5.2.1
            omega
        have hP9 := hP.sub (ws' := [(mo, .inr (4, [.int mso, .ref m1, .ref m2, .ref m3, .ref m4, .ref m5, .ref m6, .int mct, .ref m7, .int mfr, .int mcu2_28, .int mth2_19, .ref m8, .ref m9, .ref ma, .ref mb])), (m1, .inl (cL, 1503, .inr (.inl p1b_28))), (m2, .inl (cL, 1503, .inr (.inl p2b_28))), (m3, .inl (cI, 36072, .inl p3b_28)), (m4, .inl (cI, 1503, .inl p4b_28)), (m5, .inl (cL, 1500, .inr (.inl p5))), (m6, .inl (cI, 1500, .inl p6)), (m7, .inl (cI, 1500, .inl p7)), (m8, .inl (cI, 50, .inl p8)), (m9, .inl (cI, 50, .inl p9)), (ma, .inl (cI, 1500, .inl pa)), (mb, .inl (cI, 50, .inl pb))]) [0, 1, 2, 3, 4, 5, 6, 7, 8, 9, 10, 11] rfl
        have hD9 := hD.sub (ws' := [(mo, .inr (4, [.int mso, .ref m1, .ref m2, .ref m3, .ref m4, .ref m5, .ref m6, .int mct, .ref m7, .int mfr, .int mcu2_28, .int mth2_19, .ref m8, .ref m9, .ref ma, .ref mb])), (m1, .inl (cL, 1503, .inr (.inl p1b_28))), (m2, .inl (cL, 1503, .inr (.inl p2b_28))), (m3, .inl (cI, 36072, .inl p3b_28)), (m4, .inl (cI, 1503, .inl p4b_28)), (m5, .inl (cL, 1500, .inr (.inl p5))), (m6, .inl (cI, 1500, .inl p6)), (m7, .inl (cI, 1500, .inl p7)), (m8, .inl (cI, 50, .inl p8)), (m9, .inl (cI, 50, .inl p9)), (ma, .inl (cI, 1500, .inl pa)), (mb, .inl (cI, 50, .inl pb))]) [0, 1, 2, 3, 4, 5, 6, 7, 8, 9, 10, 11] (by decide) rfl
        rw [hQ]
        exact W.vret hx hb hr (fun t ht hW => ⟨⟨(mth2_19, mcu2_28, p1b_28, p2b_28, p3b_28, p4b_28), rfl, hpost, by rw [ht]; exact hP9, va_K.moved hW.alike hK, hD9⟩, hS.F ht⟩) hS.2.2 d_Mo_select_32
      · have g22 := (iz_ne).mp g22
        exfalso; omega
    · have g10 := ic_nlt.mp g10
      refine lv_iconst (v := 1) hx hb d_Mo_select_13 (by decide) ?_
      refine lv_topi (fun v13 e13 => ?_)
      have t13 : v13.toInt = 1 := by rw [e13]; rfl
      refine lv_goto hx hb d_Mo_select_14 (tgt := 18) (by decide) ?_
      refine lv_iconst (v := 1) hx hb d_Mo_select_18 (by decide) ?_
      refine lv_topi (fun v18 e18 => ?_)
      have t18 : v18.toInt = 1 := by rw [e18]; rfl
      have hPc := hP.sub (ws' := [(mo, .inr (4, [.int mso, .ref m1, .ref m2, .ref m3, .ref m4, .ref m5, .ref m6, .int mct, .ref m7, .int mfr, .int mcu, .int mth, .ref m8, .ref m9, .ref ma, .ref mb])), (m1, .inl (cL, 1503, .inr (.inl p1))), (m2, .inl (cL, 1503, .inr (.inl p2))), (m3, .inl (cI, 36072, .inl p3)), (m4, .inl (cI, 1503, .inl p4)), (m5, .inl (cL, 1500, .inr (.inl p5))), (m6, .inl (cI, 1500, .inl p6)), (m7, .inl (cI, 1500, .inl p7)), (m8, .inl (cI, 50, .inl p8)), (m9, .inl (cI, 50, .inl p9)), (ma, .inl (cI, 1500, .inl pa)), (mb, .inl (cI, 50, .inl pb))]) [0, 1, 2, 3, 4, 5, 6, 7, 8, 9, 10, 11] rfl
      have hDc := hD.sub (ws' := [(mo, .inr (4, [.int mso, .ref m1, .ref m2, .ref m3, .ref m4, .ref m5, .ref m6, .int mct, .ref m7, .int mfr, .int mcu, .int mth, .ref m8, .ref m9, .ref ma, .ref mb])), (m1, .inl (cL, 1503, .inr (.inl p1))), (m2, .inl (cL, 1503, .inr (.inl p2))), (m3, .inl (cI, 36072, .inl p3)), (m4, .inl (cI, 1503, .inl p4)), (m5, .inl (cL, 1500, .inr (.inl p5))), (m6, .inl (cI, 1500, .inl p6)), (m7, .inl (cI, 1500, .inl p7)), (m8, .inl (cI, 50, .inl p8)), (m9, .inl (cI, 50, .inl p9)), (ma, .inl (cI, 1500, .inl pa)), (mb, .inl (cI, 50, .inl pb))]) [0, 1, 2, 3, 4, 5, 6, 7, 8, 9, 10, 11] (by decide) rfl
      have hFc := va_free (wc := [(mo, .inr (4, [.int mso, .ref m1, .ref m2, .ref m3, .ref m4, .ref m5, .ref m6, .int mct, .ref m7, .int mfr, .int mcu, .int mth, .ref m8, .ref m9, .ref ma, .ref mb])), (m1, .inl (cL, 1503, .inr (.inl p1))), (m2, .inl (cL, 1503, .inr (.inl p2))), (m3, .inl (cI, 36072, .inl p3)), (m4, .inl (cI, 1503, .inl p4)), (m5, .inl (cL, 1500, .inr (.inl p5))), (m6, .inl (cI, 1500, .inl p6)), (m7, .inl (cI, 1500, .inl p7)), (m8, .inl (cI, 50, .inl p8)), (m9, .inl (cI, 50, .inl p9)), (ma, .inl (cI, 1500, .inl pa)), (mb, .inl (cI, 50, .inl pb))]) hD hS hA [0, 1, 2, 3, 4, 5, 6, 7, 8, 9, 10, 11] rfl
      refine va_calli (xr_mv (As := [.int v13, .int v18]) (rest := []) ⟨hx, hb, hml, hown, hts⟩ (c_Mo_fails l D cL cI mo m1 m2 m3 m4 m5 m6 m7 m8 m9 ma mb mso mct mfr mcu mth p1 p2 p5 p3 p4 p6 p7 p8 p9 pa pb v13 v18 s.heap.size (by first | omega | exact hso)) (xr_cv 2 hts tw_663 tw_660 tw_662 tp_10 tw_7 rfl rfl (by decide) ⟨Nat.le_of_ble_eq_true rfl, Nat.le_of_ble_eq_true rfl⟩) hK hPc (hDc.weaken (fun _ _ _ _ => trivial)) (va_recv hK hP rfl (q0 := 0) (ci := 4) rfl) rfl hl.1 rfl (Nat.le_of_ble_eq_true rfl) d_Mo_select_19 ⟨Nat.le_of_ble_eq_true rfl, Nat.le_of_ble_eq_true rfl⟩) hS (fun q _ h => hFc q h) hFc (fun v19 u19 tt19 H1 locs ht19 hvm19 e19 hB19 hz19 hk19 hS => ?_)
      obtain ⟨mth2_19, rfl⟩ : ∃ z, z = u19 := ⟨_, rfl⟩
      have e19 : v19.toInt = v13.toInt ∧ ((v13.toInt = 0 ∧ mth2_19.toInt = 0) ∨ (v13.toInt ≠ 0 ∧ mth2_19.toInt = v18.toInt)) := e19
      obtain ⟨hP1, hK1, hD1⟩ := hB19
      rw [ht19] at hP1
      obtain ⟨hP, hD⟩ := va_join (wr := []) (w1 := [(mo, .inr (4, [.int mso, .ref m1, .ref m2, .ref m3, .ref m4, .ref m5, .ref m6, .int mct, .ref m7, .int mfr, .int mcu, .int mth2_19, .ref m8, .ref m9, .ref ma, .ref mb])), (m1, .inl (cL, 1503, .inr (.inl p1))), (m2, .inl (cL, 1503, .inr (.inl p2))), (m3, .inl (cI, 36072, .inl p3)), (m4, .inl (cI, 1503, .inl p4)), (m5, .inl (cL, 1500, .inr (.inl p5))), (m6, .inl (cI, 1500, .inl p6)), (m7, .inl (cI, 1500, .inl p7)), (m8, .inl (cI, 50, .inl p8)), (m9, .inl (cI, 50, .inl p9)), (ma, .inl (cI, 1500, .inl pa)), (mb, .inl (cI, 50, .inl pb))]) hP hD [0, 1, 2, 3, 4, 5, 6, 7, 8, 9, 10, 11] [] rfl rfl (by decide) (by decide) hk19 hFc hP1 hD1
      clear hP1 hD1 hPc hDc hFc
      generalize H1 = H at hP hS ⊢
      have hP : va_P D classes [(mo, .inr (4, [.int mso, .ref m1, .ref m2, .ref m3, .ref m4, .ref m5, .ref m6, .int mct, .ref m7, .int mfr, .int mcu, .int mth2_19, .ref m8, .ref m9, .ref ma, .ref mb])), (m1, .inl (cL, 1503, .inr (.inl p1))), (m2, .inl (cL, 1503, .inr (.inl p2))), (m3, .inl (cI, 36072, .inl p3)), (m4, .inl (cI, 1503, .inl p4)), (m5, .inl (cL, 1500, .inr (.inl p5))), (m6, .inl (cI, 1500, .inl p6)), (m7, .inl (cI, 1500, .inl p7)), (m8, .inl (cI, 50, .inl p8)), (m9, .inl (cI, 50, .inl p9)), (ma, .inl (cI, 1500, .inl pa)), (mb, .inl (cI, 50, .inl pb))] H := hP
      have hD : va_D A [(mo, .inr (4, [.int mso, .ref m1, .ref m2, .ref m3, .ref m4, .ref m5, .ref m6, .int mct, .ref m7, .int mfr, .int mcu, .int mth2_19, .ref m8, .ref m9, .ref ma, .ref mb])), (m1, .inl (cL, 1503, .inr (.inl p1))), (m2, .inl (cL, 1503, .inr (.inl p2))), (m3, .inl (cI, 36072, .inl p3)), (m4, .inl (cI, 1503, .inl p4)), (m5, .inl (cL, 1500, .inr (.inl p5))), (m6, .inl (cI, 1500, .inl p6)), (m7, .inl (cI, 1500, .inl p7)), (m8, .inl (cI, 50, .inl p8)), (m9, .inl (cI, 50, .inl p9)), (ma, .inl (cI, 1500, .inl pa)), (mb, .inl (cI, 50, .inl pb))] := hD
      refine lv_if_eq hx hb d_Mo_select_22 (tgt := 26) (by decide) (fun g22 => ?_) (fun g22 => ?_)
      · have g22 := (iz_eq).mp g22
        exfalso; omega
      · have g22 := (iz_ne).mp g22
        have hpost : (¬ (0 ≤ pl.toInt ∧ pl.toInt < (n : Int)) ∧ mth2_19.toInt = 1 ∧ mcu = mcu ∧ p1 = p1 ∧ p2 = p2 ∧ p3 = p3 ∧ p4 = p4) ∨ ((0 ≤ pl.toInt ∧ pl.toInt < (n : Int)) ∧ mth2_19.toInt = 0 ∧ mcu = 1 ∧ KRs mso.toInt p1 p2 p3 p4 (kset KW 1502 (KW (p6 pl.toInt.toNat).toInt.toNat))) := by
          first
          | (exfalso; omega)
          | exact Or.inl ⟨by omega, by omega, rfl, rfl, rfl, rfl, rfl⟩
        have hP9 := hP.sub (ws' := [(mo, .inr (4, [.int mso, .ref m1, .ref m2, .ref m3, .ref m4, .ref m5, .ref m6, .int mct, .ref m7, .int mfr, .int mcu, .int mth2_19, .ref m8, .ref m9, .ref ma, .ref mb])), (m1, .inl (cL, 1503, .inr (.inl p1))), (m2, .inl (cL, 1503, .inr (.inl p2))), (m3, .inl (cI, 36072, .inl p3)), (m4, .inl (cI, 1503, .inl p4)), (m5, .inl (cL, 1500, .inr (.inl p5))), (m6, .inl (cI, 1500, .inl p6)), (m7, .inl (cI, 1500, .inl p7)), (m8, .inl (cI, 50, .inl p8)), (m9, .inl (cI, 50, .inl p9)), (ma, .inl (cI, 1500, .inl pa)), (mb, .inl (cI, 50, .inl pb))]) [0, 1, 2, 3, 4, 5, 6, 7, 8, 9, 10, 11] rfl
        have hD9 := hD.sub (ws' := [(mo, .inr (4, [.int mso, .ref m1, .ref m2, .ref m3, .ref m4, .ref m5, .ref m6, .int mct, .ref m7, .int mfr, .int mcu, .int mth2_19, .ref m8, .ref m9, .ref ma, .ref mb])), (m1, .inl (cL, 1503, .inr (.inl p1))), (m2, .inl (cL, 1503, .inr (.inl p2))), (m3, .inl (cI, 36072, .inl p3)), (m4, .inl (cI, 1503, .inl p4)), (m5, .inl (cL, 1500, .inr (.inl p5))), (m6, .inl (cI, 1500, .inl p6)), (m7, .inl (cI, 1500, .inl p7)), (m8, .inl (cI, 50, .inl p8)), (m9, .inl (cI, 50, .inl p9)), (ma, .inl (cI, 1500, .inl pa)), (mb, .inl (cI, 50, .inl pb))]) [0, 1, 2, 3, 4, 5, 6, 7, 8, 9, 10, 11] (by decide) rfl
        rw [hQ]
        exact W.vret hx hb hr (fun t ht hW => ⟨⟨(mth2_19, mcu, p1, p2, p3, p4), rfl, hpost, by rw [ht]; exact hP9, va_K.moved hW.alike hK, hD9⟩, hS.F ht⟩) hS.2.2 d_Mo_select_25
set_option maxRecDepth 100000 in
set_option maxHeartbeats 4000000 in
theorem c_Mo_range (l : Launch) (D : va_G) (cL cI : ClassId) (mo m1 m2 m3 m4 m5 m6 m7 m8 m9 ma mb : Nat) (mso mct mfr mcu mth : Int32) (p1 p2 p5 : Nat → Int64) (p3 p4 p6 p7 p8 p9 pa pb : Nat → Int32) (w : Nat) (KW : Nat → Nat → Int64) (n : Nat) (sz : Nat) (hws : (mso.toInt = 0 ∧ w = 1) ∨ (mso.toInt = 1 ∧ w = 2) ∨ (mso.toInt = 2 ∧ w = 7)) (hkr : ∀ x, x < 1503 → KR mso.toInt p1 p2 p3 p4 x (KW x)) (hct : mct.toInt = (n : Int)) (hn : n ≤ 1500) (hor : ∀ k, k < n → 0 ≤ (p6 k).toInt ∧ (p6 k).toInt < 1500) (hs : ob_srt w n (fun k => KW (p6 k).toInt.toNat)) : Met l y_Mo_range (Cond.code y_Mo_range prog_6_method_30_code 3 (some .int) :: TW) ({ frames := 4, cells := 0, slots := 0, locals := 112 } : Room) (PM D cL cI [.ref mo] [(mo, .inr (4, [.int mso, .ref m1, .ref m2, .ref m3, .ref m4, .ref m5, .ref m6, .int mct, .ref m7, .int mfr, .int mcu, .int mth, .ref m8, .ref m9, .ref ma, .ref mb])), (m1, .inl (cL, 1503, .inr (.inl p1))), (m2, .inl (cL, 1503, .inr (.inl p2))), (m3, .inl (cI, 36072, .inl p3)), (m4, .inl (cI, 1503, .inl p4)), (m5, .inl (cL, 1500, .inr (.inl p5))), (m6, .inl (cI, 1500, .inl p6)), (m7, .inl (cI, 1500, .inl p7)), (m8, .inl (cI, 50, .inl p8)), (m9, .inl (cI, 50, .inl p9)), (ma, .inl (cI, 1500, .inl pa)), (mb, .inl (cI, 50, .inl pb))] sz) (va_Qi (fun (r : Int32) (u : (Int32)) => u.toInt = 0 ∧ (∃ (q q2 : Nat) (up : Int), ob_isb w n (fun k => KW (p6 k).toInt.toNat) (KW 1500) q ∧ ob_isb w n (fun k => KW (p6 k).toInt.toNat) (KW 1501) q2 ∧ (((q < n ∧ kw_eq w ((fun k => KW (p6 k).toInt.toNat) q) (KW 1500)) ∧ up = (q : Int) + 1) ∨ (¬ (q < n ∧ kw_eq w ((fun k => KW (p6 k).toInt.toNat) q) (KW 1500)) ∧ up = (q : Int))) ∧ r.toInt = if 0 < up - q2 then up - q2 else 0)) (fun (u : (Int32)) (t : State) => va_P D classes [(mo, .inr (4, [.int mso, .ref m1, .ref m2, .ref m3, .ref m4, .ref m5, .ref m6, .int mct, .ref m7, .int mfr, .int mcu, .int u, .ref m8, .ref m9, .ref ma, .ref mb])), (m1, .inl (cL, 1503, .inr (.inl p1))), (m2, .inl (cL, 1503, .inr (.inl p2))), (m3, .inl (cI, 36072, .inl p3)), (m4, .inl (cI, 1503, .inl p4)), (m5, .inl (cL, 1500, .inr (.inl p5))), (m6, .inl (cI, 1500, .inl p6)), (m7, .inl (cI, 1500, .inl p7)), (m8, .inl (cI, 50, .inl p8)), (m9, .inl (cI, 50, .inl p9)), (ma, .inl (cI, 1500, .inl pa)), (mb, .inl (cI, 50, .inl pb))] t.heap ∧ va_K D classes (tyz cL cI) t ∧ va_D (va_A [(mo, .inr (4, [.int mso, .ref m1, .ref m2, .ref m3, .ref m4, .ref m5, .ref m6, .int mct, .ref m7, .int mfr, .int mcu, .int mth, .ref m8, .ref m9, .ref ma, .ref mb])), (m1, .inl (cL, 1503, .inr (.inl p1))), (m2, .inl (cL, 1503, .inr (.inl p2))), (m3, .inl (cI, 36072, .inl p3)), (m4, .inl (cI, 1503, .inl p4)), (m5, .inl (cL, 1500, .inr (.inl p5))), (m6, .inl (cI, 1500, .inl p6)), (m7, .inl (cI, 1500, .inl p7)), (m8, .inl (cI, 50, .inl p8)), (m9, .inl (cI, 50, .inl p9)), (ma, .inl (cI, 1500, .inl pa)), (mb, .inl (cI, 50, .inl pb))] sz) [(mo, .inr (4, [.int mso, .ref m1, .ref m2, .ref m3, .ref m4, .ref m5, .ref m6, .int mct, .ref m7, .int mfr, .int mcu, .int u, .ref m8, .ref m9, .ref ma, .ref mb])), (m1, .inl (cL, 1503, .inr (.inl p1))), (m2, .inl (cL, 1503, .inr (.inl p2))), (m3, .inl (cI, 36072, .inl p3)), (m4, .inl (cI, 1503, .inl p4)), (m5, .inl (cL, 1500, .inr (.inl p5))), (m6, .inl (cI, 1500, .inl p6)), (m7, .inl (cI, 1500, .inl p7)), (m8, .inl (cI, 50, .inl p8)), (m9, .inl (cI, 50, .inl p9)), (ma, .inl (cI, 1500, .inl pa)), (mb, .inl (cI, 50, .inl pb))]) (va_A [(mo, .inr (4, [.int mso, .ref m1, .ref m2, .ref m3, .ref m4, .ref m5, .ref m6, .int mct, .ref m7, .int mfr, .int mcu, .int mth, .ref m8, .ref m9, .ref ma, .ref mb])), (m1, .inl (cL, 1503, .inr (.inl p1))), (m2, .inl (cL, 1503, .inr (.inl p2))), (m3, .inl (cI, 36072, .inl p3)), (m4, .inl (cI, 1503, .inl p4)), (m5, .inl (cL, 1500, .inr (.inl p5))), (m6, .inl (cI, 1500, .inl p6)), (m7, .inl (cI, 1500, .inl p7)), (m8, .inl (cI, 50, .inl p8)), (m9, .inl (cI, 50, .inl p9)), (ma, .inl (cI, 1500, .inl pa)), (mb, .inl (cI, 50, .inl pb))] sz)) 0 0 (va_A [(mo, .inr (4, [.int mso, .ref m1, .ref m2, .ref m3, .ref m4, .ref m5, .ref m6, .int mct, .ref m7, .int mfr, .int mcu, .int mth, .ref m8, .ref m9, .ref ma, .ref mb])), (m1, .inl (cL, 1503, .inr (.inl p1))), (m2, .inl (cL, 1503, .inr (.inl p2))), (m3, .inl (cI, 36072, .inl p3)), (m4, .inl (cI, 1503, .inl p4)), (m5, .inl (cL, 1500, .inr (.inl p5))), (m6, .inl (cI, 1500, .inl p6)), (m7, .inl (cI, 1500, .inl p7)), (m8, .inl (cI, 50, .inl p8)), (m9, .inl (cI, 50, .inl p9)), (ma, .inl (cI, 1500, .inl pa)), (mb, .inl (cI, 50, .inl pb))] sz) := by
  refine xr_met (by decide) ?_
  intro p e s m args below meth c hx hb hr hts hown hlocks hname hml hv
  obtain ⟨rfl, hsz, hP, hK, hD0⟩ := hv
  subst hsz
  have hD := hD0.self (sz := s.heap.size)
  generalize hAe : va_A [(mo, .inr (4, [.int mso, .ref m1, .ref m2, .ref m3, .ref m4, .ref m5, .ref m6, .int mct, .ref m7, .int mfr, .int mcu, .int mth, .ref m8, .ref m9, .ref ma, .ref mb])), (m1, .inl (cL, 1503, .inr (.inl p1))), (m2, .inl (cL, 1503, .inr (.inl p2))), (m3, .inl (cI, 36072, .inl p3)), (m4, .inl (cI, 1503, .inl p4)), (m5, .inl (cL, 1500, .inr (.inl p5))), (m6, .inl (cI, 1500, .inl p6)), (m7, .inl (cI, 1500, .inl p7)), (m8, .inl (cI, 50, .inl p8)), (m9, .inl (cI, 50, .inl p9)), (ma, .inl (cI, 1500, .inl pa)), (mb, .inl (cI, 50, .inl pb))] s.heap.size = A at hD ⊢
  have hA : ∀ q : Nat, s.heap.size ≤ q → A q := fun q h => by rw [← hAe]; exact Or.inr h
  have hS : va_S A s.heap s.heap [] := va_S.rf
  have hD : va_D A [(mo, .inr (4, [.int mso, .ref m1, .ref m2, .ref m3, .ref m4, .ref m5, .ref m6, .int mct, .ref m7, .int mfr, .int mcu, .int mth, .ref m8, .ref m9, .ref ma, .ref mb])), (m1, .inl (cL, 1503, .inr (.inl p1))), (m2, .inl (cL, 1503, .inr (.inl p2))), (m3, .inl (cI, 36072, .inl p3)), (m4, .inl (cI, 1503, .inl p4)), (m5, .inl (cL, 1500, .inr (.inl p5))), (m6, .inl (cI, 1500, .inl p6)), (m7, .inl (cI, 1500, .inl p7)), (m8, .inl (cI, 50, .inl p8)), (m9, .inl (cI, 50, .inl p9)), (ma, .inl (cI, 1500, .inl pa)), (mb, .inl (cI, 50, .inl pb))] := hD
  have hown : s.vm.findClass "BranchStoreModel" = some m.cls := hown
  have hP : va_P D classes [(mo, .inr (4, [.int mso, .ref m1, .ref m2, .ref m3, .ref m4, .ref m5, .ref m6, .int mct, .ref m7, .int mfr, .int mcu, .int mth, .ref m8, .ref m9, .ref ma, .ref mb])), (m1, .inl (cL, 1503, .inr (.inl p1))), (m2, .inl (cL, 1503, .inr (.inl p2))), (m3, .inl (cI, 36072, .inl p3)), (m4, .inl (cI, 1503, .inl p4)), (m5, .inl (cL, 1500, .inr (.inl p5))), (m6, .inl (cI, 1500, .inl p6)), (m7, .inl (cI, 1500, .inl p7)), (m8, .inl (cI, 50, .inl p8)), (m9, .inl (cI, 50, .inl p9)), (ma, .inl (cI, 1500, .inl pa)), (mb, .inl (cI, 50, .inl pb))] s.heap := hP
  have hl := lv_entry ([.ref mo]) (n := 3) (Nat.le_of_ble_eq_true rfl)
  rw [lg_entry_eq]
  generalize (lg_sl ([.ref mo]) ++ List.replicate (3 - (lg_sl ([.ref mo])).length) Slot.unset).toArray = ls at hl ⊢
  have hl : lv_has ls 3 [(0, .ref mo)] := hl
  obtain ⟨Q, hQ⟩ : ∃ Q, Q = MQ below (va_Qi (fun (r : Int32) (u : (Int32)) => u.toInt = 0 ∧ (∃ (q q2 : Nat) (up : Int), ob_isb w n (fun k => KW (p6 k).toInt.toNat) (KW 1500) q ∧ ob_isb w n (fun k => KW (p6 k).toInt.toNat) (KW 1501) q2 ∧ (((q < n ∧ kw_eq w ((fun k => KW (p6 k).toInt.toNat) q) (KW 1500)) ∧ up = (q : Int) + 1) ∨ (¬ (q < n ∧ kw_eq w ((fun k => KW (p6 k).toInt.toNat) q) (KW 1500)) ∧ up = (q : Int))) ∧ r.toInt = if 0 < up - q2 then up - q2 else 0)) (fun (u : (Int32)) (t : State) => va_P D classes [(mo, .inr (4, [.int mso, .ref m1, .ref m2, .ref m3, .ref m4, .ref m5, .ref m6, .int mct, .ref m7, .int mfr, .int mcu, .int u, .ref m8, .ref m9, .ref ma, .ref mb])), (m1, .inl (cL, 1503, .inr (.inl p1))), (m2, .inl (cL, 1503, .inr (.inl p2))), (m3, .inl (cI, 36072, .inl p3)), (m4, .inl (cI, 1503, .inl p4)), (m5, .inl (cL, 1500, .inr (.inl p5))), (m6, .inl (cI, 1500, .inl p6)), (m7, .inl (cI, 1500, .inl p7)), (m8, .inl (cI, 50, .inl p8)), (m9, .inl (cI, 50, .inl p9)), (ma, .inl (cI, 1500, .inl pa)), (mb, .inl (cI, 50, .inl pb))] t.heap ∧ va_K D classes (tyz cL cI) t ∧ va_D (A) [(mo, .inr (4, [.int mso, .ref m1, .ref m2, .ref m3, .ref m4, .ref m5, .ref m6, .int mct, .ref m7, .int mfr, .int mcu, .int u, .ref m8, .ref m9, .ref ma, .ref mb])), (m1, .inl (cL, 1503, .inr (.inl p1))), (m2, .inl (cL, 1503, .inr (.inl p2))), (m3, .inl (cI, 36072, .inl p3)), (m4, .inl (cI, 1503, .inl p4)), (m5, .inl (cL, 1500, .inr (.inl p5))), (m6, .inl (cI, 1500, .inl p6)), (m7, .inl (cI, 1500, .inl p7)), (m8, .inl (cI, 50, .inl p8)), (m9, .inl (cI, 50, .inl p9)), (ma, .inl (cI, 1500, .inl pa)), (mb, .inl (cI, 50, .inl pb))]) (A)) ([.ref mo] : List Value).toArray s 0 0 A := ⟨_, rfl⟩
  rw [← hQ]
  refine lv_aload_n hx hb d_Mo_range_0 rfl (lv_at hl 0 rfl) ?_
  refine lv_iconst (v := 0) hx hb d_Mo_range_1 (by decide) ?_
  refine lv_topi (fun v1 e1 => ?_)
  have t1 : v1.toInt = 0 := by rw [e1]; rfl
  refine va_put (D := D) (ci := 4) (v := .int v1) (ty := .int) (C := R_Mo) (T := F_Mo) (N := 16) hx hb hts in_Mo t_Mo t_Mo_ok n_Mo hown hK hP hD hS 0 rfl rfl 11 (by decide) (hts _ tw_614) (fun _ h9 => h9) rfl (by decide +kernel) rfl rfl (Nat.le_of_ble_eq_true rfl) d_Mo_range_2 (fun H locs hP hD hS => ?_)
  have hP : va_P D classes [(mo, .inr (4, [.int mso, .ref m1, .ref m2, .ref m3, .ref m4, .ref m5, .ref m6, .int mct, .ref m7, .int mfr, .int mcu, .int v1, .ref m8, .ref m9, .ref ma, .ref mb])), (m1, .inl (cL, 1503, .inr (.inl p1))), (m2, .inl (cL, 1503, .inr (.inl p2))), (m3, .inl (cI, 36072, .inl p3)), (m4, .inl (cI, 1503, .inl p4)), (m5, .inl (cL, 1500, .inr (.inl p5))), (m6, .inl (cI, 1500, .inl p6)), (m7, .inl (cI, 1500, .inl p7)), (m8, .inl (cI, 50, .inl p8)), (m9, .inl (cI, 50, .inl p9)), (ma, .inl (cI, 1500, .inl pa)), (mb, .inl (cI, 50, .inl pb))] H := hP
  have hD : va_D A [(mo, .inr (4, [.int mso, .ref m1, .ref m2, .ref m3, .ref m4, .ref m5, .ref m6, .int mct, .ref m7, .int mfr, .int mcu, .int v1, .ref m8, .ref m9, .ref ma, .ref mb])), (m1, .inl (cL, 1503, .inr (.inl p1))), (m2, .inl (cL, 1503, .inr (.inl p2))), (m3, .inl (cI, 36072, .inl p3)), (m4, .inl (cI, 1503, .inl p4)), (m5, .inl (cL, 1500, .inr (.inl p5))), (m6, .inl (cI, 1500, .inl p6)), (m7, .inl (cI, 1500, .inl p7)), (m8, .inl (cI, 50, .inl p8)), (m9, .inl (cI, 50, .inl p9)), (ma, .inl (cI, 1500, .inl pa)), (mb, .inl (cI, 50, .inl pb))] := hD
  refine lv_aload_n hx hb d_Mo_range_5 rfl (lv_at hl 0 rfl) ?_
  refine lv_sipush (v := 1501) hx hb d_Mo_range_6 (by decide) ?_
  refine lv_topi (fun v6 e6 => ?_)
  have t6 : v6.toInt = 1501 := by rw [e6]; rfl
  refine vp_callSi (xr_rv (As := [.int v6]) (rest := []) ⟨hx, hb, hml, hown, hts⟩ (c_Mo_below l D cL cI mo m1 m2 m3 m4 m5 m6 m7 m8 m9 ma mb mso mct mfr mcu v1 p1 p2 p5 p3 p4 p6 p7 p8 p9 pa pb w KW n v6 (by first | omega | exact hws) (by first | omega | exact hkr) (by first | omega | exact hct) (by first | omega | exact hn) (by first | omega | exact hor) (by first | omega | exact hib) (by first | omega | exact hs)) (xr_cv 1 hts tw_700 tw_697 tw_699 tp_13 tw_7 rfl rfl (by decide) ⟨Nat.le_of_ble_eq_true rfl, Nat.le_of_ble_eq_true rfl⟩) hK hP (va_recv hK hP rfl (q0 := 0) (ci := 4) rfl) rfl hl.1 rfl (Nat.le_of_ble_eq_true rfl) d_Mo_range_9 ⟨Nat.le_of_ble_eq_true rfl, Nat.le_of_ble_eq_true rfl⟩) (fun v9 e9 => ?_)
  have e9 : ∃ q : Nat, v9.toInt = (q : Int) ∧ ob_isb w n (fun k => KW (p6 k).toInt.toNat) (KW v6.toInt.toNat) q := e9
  obtain ⟨q2, hq21, hq22⟩ := e9
  rw [show v6.toInt.toNat = 1501 by omega] at hq22
  have hq23 := hq22.1
  refine lv_istore_n (lv' := [(1, .int v9), (0, .ref mo)]) hx hb d_Mo_range_12 rfl hl (by decide) rfl (fun ls hl => ?_)
  refine lv_aload_n hx hb d_Mo_range_13 rfl (lv_at hl 1 rfl) ?_
  refine lv_sipush (v := 1500) hx hb d_Mo_range_14 (by decide) ?_
  refine lv_topi (fun v14 e14 => ?_)
  have t14 : v14.toInt = 1500 := by rw [e14]; rfl
  refine vp_callSi (xr_rv (As := [.int v14]) (rest := []) ⟨hx, hb, hml, hown, hts⟩ (c_Mo_below l D cL cI mo m1 m2 m3 m4 m5 m6 m7 m8 m9 ma mb mso mct mfr mcu v1 p1 p2 p5 p3 p4 p6 p7 p8 p9 pa pb w KW n v14 (by first | omega | exact hws) (by first | omega | exact hkr) (by first | omega | exact hct) (by first | omega | exact hn) (by first | omega | exact hor) (by first | omega | exact hib) (by first | omega | exact hs)) (xr_cv 1 hts tw_700 tw_697 tw_699 tp_13 tw_7 rfl rfl (by decide) ⟨Nat.le_of_ble_eq_true rfl, Nat.le_of_ble_eq_true rfl⟩) hK hP (va_recv hK hP rfl (q0 := 0) (ci := 4) rfl) rfl hl.1 rfl (Nat.le_of_ble_eq_true rfl) d_Mo_range_17 ⟨Nat.le_of_ble_eq_true rfl, Nat.le_of_ble_eq_true rfl⟩) (fun v17 e17 => ?_)
  have e17 : ∃ q : Nat, v17.toInt = (q : Int) ∧ ob_isb w n (fun k => KW (p6 k).toInt.toNat) (KW v14.toInt.toNat) q := e17
  obtain ⟨q, hq1, hq2⟩ := e17
  rw [show v14.toInt.toNat = 1500 by omega] at hq2
  have hq3 := hq2.1
  refine lv_istore_n (lv' := [(2, .int v17), (1, .int v9), (0, .ref mo)]) hx hb d_Mo_range_20 rfl hl (by decide) rfl (fun ls hl => ?_)
  refine lv_iload_n hx hb d_Mo_range_21 rfl (lv_at hl 0 rfl) ?_
  refine lv_aload_n hx hb d_Mo_range_22 rfl (lv_at hl 2 rfl) ?_
  refine lv_iload_n hx hb d_Mo_range_23 rfl (lv_at hl 0 rfl) ?_
  refine lv_sipush (v := 1500) hx hb d_Mo_range_24 (by decide) ?_
  refine lv_topi (fun v24 e24 => ?_)
  have t24 : v24.toInt = 1500 := by rw [e24]; rfl
  refine vp_callSi (xr_rv (As := [.int v17, .int v24]) (rest := [.int v17]) ⟨hx, hb, hml, hown, hts⟩ (c_Mo_isAt l D cL cI mo m1 m2 m3 m4 m5 m6 m7 m8 m9 ma mb mso mct mfr mcu v1 p1 p2 p5 p3 p4 p6 p7 p8 p9 pa pb w KW n v17 v24 (by first | omega | exact hws) (by first | omega | exact hkr) (by first | omega | exact hct) (by first | omega | exact hn) (by first | omega | exact hor) (by first | omega | exact hia) (by first | omega | exact hib)) (xr_cv 2 hts tw_711 tw_708 tw_710 tp_15 tw_7 rfl rfl (by decide) ⟨Nat.le_of_ble_eq_true rfl, Nat.le_of_ble_eq_true rfl⟩) hK hP (va_recv hK hP rfl (q0 := 0) (ci := 4) rfl) rfl hl.1 rfl (Nat.le_of_ble_eq_true rfl) d_Mo_range_27 ⟨Nat.le_of_ble_eq_true rfl, Nat.le_of_ble_eq_true rfl⟩) (fun v27 e27 => ?_)
  have e27 : (v27 = 0 ∨ v27 = 1) ∧ (v27 = 1 ↔ v17.toInt.toNat < n ∧ kw_eq w ((fun k => KW (p6 k).toInt.toNat) v17.toInt.toNat) (KW v24.toInt.toNat)) := e27
  have i3 := b01 e27
  rw [show v17.toInt.toNat = q by omega, show v24.toInt.toNat = 1500 by omega] at i3
  refine lv_if_eq hx hb d_Mo_range_30 (tgt := 37) (by decide) (fun g30 => ?_) (fun g30 => ?_)
  · have g30 := (iz_eq).mp g30
    refine lv_iconst (v := 0) hx hb d_Mo_range_37 (by decide) ?_
    refine lv_topi (fun v37 e37 => ?_)
    have t37 : v37.toInt = 0 := by rw [e37]; rfl
    refine lv_iadd hx hb d_Mo_range_38 ?_
    refine lv_topi (fun v38 e38 => ?_)
    have t38 := ia_add e38 ⟨by omega, by omega⟩
    refine lv_istore_n (lv' := [(2, .int v38), (1, .int v9), (0, .ref mo)]) hx hb d_Mo_range_39 rfl hl (by decide) rfl (fun ls hl => ?_)
    refine lv_iload_n hx hb d_Mo_range_40 rfl (lv_at hl 0 rfl) ?_
    refine lv_iload_n hx hb d_Mo_range_41 rfl (lv_at hl 1 rfl) ?_
    refine lv_icmp_le hx hb d_Mo_range_42 (tgt := 51) (by decide) (fun g42 => ?_) (fun g42 => ?_)
    · have g42 := ic_le.mp g42
      refine lv_iconst (v := 0) hx hb d_Mo_range_51 (by decide) ?_
      refine lv_topi (fun v51 e51 => ?_)
      have t51 : v51.toInt = 0 := by rw [e51]; rfl
      have hpost : v1.toInt = 0 ∧ (∃ (q q2 : Nat) (up : Int), ob_isb w n (fun k => KW (p6 k).toInt.toNat) (KW 1500) q ∧ ob_isb w n (fun k => KW (p6 k).toInt.toNat) (KW 1501) q2 ∧ (((q < n ∧ kw_eq w ((fun k => KW (p6 k).toInt.toNat) q) (KW 1500)) ∧ up = (q : Int) + 1) ∨ (¬ (q < n ∧ kw_eq w ((fun k => KW (p6 k).toInt.toNat) q) (KW 1500)) ∧ up = (q : Int))) ∧ v51.toInt = if 0 < up - q2 then up - q2 else 0) := by
        refine ⟨t1, q, q2, v38.toInt, hq2, hq22, ?_, ?_⟩
        · rcases i3 with ⟨j1, j2⟩ | ⟨j1, j2⟩
          · first
            | (exfalso; omega)
            | exact Or.inl ⟨j2, by omega⟩
          · first
            | (exfalso; omega)
            | exact Or.inr ⟨j2, by omega⟩
        · first
          | (rw [if_pos (by omega)]; omega)
          | (rw [if_neg (by omega)]; omega)
      have hP9 := hP.sub (ws' := [(mo, .inr (4, [.int mso, .ref m1, .ref m2, .ref m3, .ref m4, .ref m5, .ref m6, .int mct, .ref m7, .int mfr, .int mcu, .int v1, .ref m8, .ref m9, .ref ma, .ref mb])), (m1, .inl (cL, 1503, .inr (.inl p1))), (m2, .inl (cL, 1503, .inr (.inl p2))), (m3, .inl (cI, 36072, .inl p3)), (m4, .inl (cI, 1503, .inl p4)), (m5, .inl (cL, 1500, .inr (.inl p5))), (m6, .inl (cI, 1500, .inl p6)), (m7, .inl (cI, 1500, .inl p7)), (m8, .inl (cI, 50, .inl p8)), (m9, .inl (cI, 50, .inl p9)), (ma, .inl (cI, 1500, .inl pa)), (mb, .inl (cI, 50, .inl pb))]) [0, 1, 2, 3, 4, 5, 6, 7, 8, 9, 10, 11] rfl
      have hD9 := hD.sub (ws' := [(mo, .inr (4, [.int mso, .ref m1, .ref m2, .ref m3, .ref m4, .ref m5, .ref m6, .int mct, .ref m7, .int mfr, .int mcu, .int v1, .ref m8, .ref m9, .ref ma, .ref mb])), (m1, .inl (cL, 1503, .inr (.inl p1))), (m2, .inl (cL, 1503, .inr (.inl p2))), (m3, .inl (cI, 36072, .inl p3)), (m4, .inl (cI, 1503, .inl p4)), (m5, .inl (cL, 1500, .inr (.inl p5))), (m6, .inl (cI, 1500, .inl p6)), (m7, .inl (cI, 1500, .inl p7)), (m8, .inl (cI, 50, .inl p8)), (m9, .inl (cI, 50, .inl p9)), (ma, .inl (cI, 1500, .inl pa)), (mb, .inl (cI, 50, .inl pb))]) [0, 1, 2, 3, 4, 5, 6, 7, 8, 9, 10, 11] (by decide) rfl
      rw [hQ]
      exact W.iret (v := v51) hx hb hr (fun t ht hW => ⟨⟨v51, (v1), rfl, hpost, by rw [ht]; exact hP9, va_K.moved hW.alike hK, hD9⟩, hS.F ht⟩) hS.2.2 d_Mo_range_52
    · have g42 := ic_nle.mp g42
      refine lv_iload_n hx hb d_Mo_range_45 rfl (lv_at hl 0 rfl) ?_
      refine lv_iload_n hx hb d_Mo_range_46 rfl (lv_at hl 1 rfl) ?_
      refine lv_isub hx hb d_Mo_range_47 ?_
      refine lv_topi (fun v47 e47 => ?_)
      have t47 := ia_sub e47 ⟨by omega, by omega⟩
      refine lv_goto hx hb d_Mo_range_48 (tgt := 52) (by decide) ?_
      have hpost : v1.toInt = 0 ∧ (∃ (q q2 : Nat) (up : Int), ob_isb w n (fun k => KW (p6 k).toInt.toNat) (KW 1500) q ∧ ob_isb w n (fun k => KW (p6 k).toInt.toNat) (KW 1501) q2 ∧ (((q < n ∧ kw_eq w ((fun k => KW (p6 k).toInt.toNat) q) (KW 1500)) ∧ up = (q : Int) + 1) ∨ (¬ (q < n ∧ kw_eq w ((fun k => KW (p6 k).toInt.toNat) q) (KW 1500)) ∧ up = (q : Int))) ∧ v47.toInt = if 0 < up - q2 then up - q2 else 0) := by
        refine ⟨t1, q, q2, v38.toInt, hq2, hq22, ?_, ?_⟩
        · rcases i3 with ⟨j1, j2⟩ | ⟨j1, j2⟩
          · first
            | (exfalso; omega)
            | exact Or.inl ⟨j2, by omega⟩
          · first
            | (exfalso; omega)
            | exact Or.inr ⟨j2, by omega⟩
        · first
          | (rw [if_pos (by omega)]; omega)
          | (rw [if_neg (by omega)]; omega)
      have hP9 := hP.sub (ws' := [(mo, .inr (4, [.int mso, .ref m1, .ref m2, .ref m3, .ref m4, .ref m5, .ref m6, .int mct, .ref m7, .int mfr, .int mcu, .int v1, .ref m8, .ref m9, .ref ma, .ref mb])), (m1, .inl (cL, 1503, .inr (.inl p1))), (m2, .inl (cL, 1503, .inr (.inl p2))), (m3, .inl (cI, 36072, .inl p3)), (m4, .inl (cI, 1503, .inl p4)), (m5, .inl (cL, 1500, .inr (.inl p5))), (m6, .inl (cI, 1500, .inl p6)), (m7, .inl (cI, 1500, .inl p7)), (m8, .inl (cI, 50, .inl p8)), (m9, .inl (cI, 50, .inl p9)), (ma, .inl (cI, 1500, .inl pa)), (mb, .inl (cI, 50, .inl pb))]) [0, 1, 2, 3, 4, 5, 6, 7, 8, 9, 10, 11] rfl
      have hD9 := hD.sub (ws' := [(mo, .inr (4, [.int mso, .ref m1, .ref m2, .ref m3, .ref m4, .ref m5, .ref m6, .int mct, .ref m7, .int mfr, .int mcu, .int v1, .ref m8, .ref m9, .ref ma, .ref mb])), (m1, .inl (cL, 1503, .inr (.inl p1))), (m2, .inl (cL, 1503, .inr (.inl p2))), (m3, .inl (cI, 36072, .inl p3)), (m4, .inl (cI, 1503, .inl p4)), (m5, .inl (cL, 1500, .inr (.inl p5))), (m6, .inl (cI, 1500, .inl p6)), (m7, .inl (cI, 1500, .inl p7)), (m8, .inl (cI, 50, .inl p8)), (m9, .inl (cI, 50, .inl p9)), (ma, .inl (cI, 1500, .inl pa)), (mb, .inl (cI, 50, .inl pb))]) [0, 1, 2, 3, 4, 5, 6, 7, 8, 9, 10, 11] (by decide) rfl
      rw [hQ]
      exact W.iret (v := v47) hx hb hr (fun t ht hW => ⟨⟨v47, (v1), rfl, hpost, by rw [ht]; exact hP9, va_K.moved hW.alike hK, hD9⟩, hS.F ht⟩) hS.2.2 d_Mo_range_52
  · have g30 := (iz_ne).mp g30
    refine lv_iconst (v := 1) hx hb d_Mo_range_33 (by decide) ?_
    refine lv_topi (fun v33 e33 => ?_)
    have t33 : v33.toInt = 1 := by rw [e33]; rfl
    refine lv_goto hx hb d_Mo_range_34 (tgt := 38) (by decide) ?_
    refine lv_iadd hx hb d_Mo_range_38 ?_
    refine lv_topi (fun v38 e38 => ?_)
    have t38 := ia_add e38 ⟨by omega, by omega⟩
    refine lv_istore_n (lv' := [(2, .int v38), (1, .int v9), (0, .ref mo)]) hx hb d_Mo_range_39 rfl hl (by decide) rfl (fun ls hl => ?_)
    refine lv_iload_n hx hb d_Mo_range_40 rfl (lv_at hl 0 rfl) ?_
    refine lv_iload_n hx hb d_Mo_range_41 rfl (lv_at hl 1 rfl) ?_
    refine lv_icmp_le hx hb d_Mo_range_42 (tgt := 51) (by decide) (fun g42 => ?_) (fun g42 => ?_)
    · have g42 := ic_le.mp g42
      refine lv_iconst (v := 0) hx hb d_Mo_range_51 (by decide) ?_
      refine lv_topi (fun v51 e51 => ?_)
      have t51 : v51.toInt = 0 := by rw [e51]; rfl
      have hpost : v1.toInt = 0 ∧ (∃ (q q2 : Nat) (up : Int), ob_isb w n (fun k => KW (p6 k).toInt.toNat) (KW 1500) q ∧ ob_isb w n (fun k => KW (p6 k).toInt.toNat) (KW 1501) q2 ∧ (((q < n ∧ kw_eq w ((fun k => KW (p6 k).toInt.toNat) q) (KW 1500)) ∧ up = (q : Int) + 1) ∨ (¬ (q < n ∧ kw_eq w ((fun k => KW (p6 k).toInt.toNat) q) (KW 1500)) ∧ up = (q : Int))) ∧ v51.toInt = if 0 < up - q2 then up - q2 else 0) := by
        refine ⟨t1, q, q2, v38.toInt, hq2, hq22, ?_, ?_⟩
        · rcases i3 with ⟨j1, j2⟩ | ⟨j1, j2⟩
          · first
            | (exfalso; omega)
            | exact Or.inl ⟨j2, by omega⟩
          · first
            | (exfalso; omega)
            | exact Or.inr ⟨j2, by omega⟩
        · first
          | (rw [if_pos (by omega)]; omega)
          | (rw [if_neg (by omega)]; omega)
      have hP9 := hP.sub (ws' := [(mo, .inr (4, [.int mso, .ref m1, .ref m2, .ref m3, .ref m4, .ref m5, .ref m6, .int mct, .ref m7, .int mfr, .int mcu, .int v1, .ref m8, .ref m9, .ref ma, .ref mb])), (m1, .inl (cL, 1503, .inr (.inl p1))), (m2, .inl (cL, 1503, .inr (.inl p2))), (m3, .inl (cI, 36072, .inl p3)), (m4, .inl (cI, 1503, .inl p4)), (m5, .inl (cL, 1500, .inr (.inl p5))), (m6, .inl (cI, 1500, .inl p6)), (m7, .inl (cI, 1500, .inl p7)), (m8, .inl (cI, 50, .inl p8)), (m9, .inl (cI, 50, .inl p9)), (ma, .inl (cI, 1500, .inl pa)), (mb, .inl (cI, 50, .inl pb))]) [0, 1, 2, 3, 4, 5, 6, 7, 8, 9, 10, 11] rfl
      have hD9 := hD.sub (ws' := [(mo, .inr (4, [.int mso, .ref m1, .ref m2, .ref m3, .ref m4, .ref m5, .ref m6, .int mct, .ref m7, .int mfr, .int mcu, .int v1, .ref m8, .ref m9, .ref ma, .ref mb])), (m1, .inl (cL, 1503, .inr (.inl p1))), (m2, .inl (cL, 1503, .inr (.inl p2))), (m3, .inl (cI, 36072, .inl p3)), (m4, .inl (cI, 1503, .inl p4)), (m5, .inl (cL, 1500, .inr (.inl p5))), (m6, .inl (cI, 1500, .inl p6)), (m7, .inl (cI, 1500, .inl p7)), (m8, .inl (cI, 50, .inl p8)), (m9, .inl (cI, 50, .inl p9)), (ma, .inl (cI, 1500, .inl pa)), (mb, .inl (cI, 50, .inl pb))]) [0, 1, 2, 3, 4, 5, 6, 7, 8, 9, 10, 11] (by decide) rfl
      rw [hQ]
      exact W.iret (v := v51) hx hb hr (fun t ht hW => ⟨⟨v51, (v1), rfl, hpost, by rw [ht]; exact hP9, va_K.moved hW.alike hK, hD9⟩, hS.F ht⟩) hS.2.2 d_Mo_range_52
    · have g42 := ic_nle.mp g42
      refine lv_iload_n hx hb d_Mo_range_45 rfl (lv_at hl 0 rfl) ?_
      refine lv_iload_n hx hb d_Mo_range_46 rfl (lv_at hl 1 rfl) ?_
      refine lv_isub hx hb d_Mo_range_47 ?_
      refine lv_topi (fun v47 e47 => ?_)
      have t47 := ia_sub e47 ⟨by omega, by omega⟩
      refine lv_goto hx hb d_Mo_range_48 (tgt := 52) (by decide) ?_
      have hpost : v1.toInt = 0 ∧ (∃ (q q2 : Nat) (up : Int), ob_isb w n (fun k => KW (p6 k).toInt.toNat) (KW 1500) q ∧ ob_isb w n (fun k => KW (p6 k).toInt.toNat) (KW 1501) q2 ∧ (((q < n ∧ kw_eq w ((fun k => KW (p6 k).toInt.toNat) q) (KW 1500)) ∧ up = (q : Int) + 1) ∨ (¬ (q < n ∧ kw_eq w ((fun k => KW (p6 k).toInt.toNat) q) (KW 1500)) ∧ up = (q : Int))) ∧ v47.toInt = if 0 < up - q2 then up - q2 else 0) := by
        refine ⟨t1, q, q2, v38.toInt, hq2, hq22, ?_, ?_⟩
        · rcases i3 with ⟨j1, j2⟩ | ⟨j1, j2⟩
          · first
            | (exfalso; omega)
            | exact Or.inl ⟨j2, by omega⟩
          · first
            | (exfalso; omega)
            | exact Or.inr ⟨j2, by omega⟩
        · first
          | (rw [if_pos (by omega)]; omega)
          | (rw [if_neg (by omega)]; omega)
      have hP9 := hP.sub (ws' := [(mo, .inr (4, [.int mso, .ref m1, .ref m2, .ref m3, .ref m4, .ref m5, .ref m6, .int mct, .ref m7, .int mfr, .int mcu, .int v1, .ref m8, .ref m9, .ref ma, .ref mb])), (m1, .inl (cL, 1503, .inr (.inl p1))), (m2, .inl (cL, 1503, .inr (.inl p2))), (m3, .inl (cI, 36072, .inl p3)), (m4, .inl (cI, 1503, .inl p4)), (m5, .inl (cL, 1500, .inr (.inl p5))), (m6, .inl (cI, 1500, .inl p6)), (m7, .inl (cI, 1500, .inl p7)), (m8, .inl (cI, 50, .inl p8)), (m9, .inl (cI, 50, .inl p9)), (ma, .inl (cI, 1500, .inl pa)), (mb, .inl (cI, 50, .inl pb))]) [0, 1, 2, 3, 4, 5, 6, 7, 8, 9, 10, 11] rfl
      have hD9 := hD.sub (ws' := [(mo, .inr (4, [.int mso, .ref m1, .ref m2, .ref m3, .ref m4, .ref m5, .ref m6, .int mct, .ref m7, .int mfr, .int mcu, .int v1, .ref m8, .ref m9, .ref ma, .ref mb])), (m1, .inl (cL, 1503, .inr (.inl p1))), (m2, .inl (cL, 1503, .inr (.inl p2))), (m3, .inl (cI, 36072, .inl p3)), (m4, .inl (cI, 1503, .inl p4)), (m5, .inl (cL, 1500, .inr (.inl p5))), (m6, .inl (cI, 1500, .inl p6)), (m7, .inl (cI, 1500, .inl p7)), (m8, .inl (cI, 50, .inl p8)), (m9, .inl (cI, 50, .inl p9)), (ma, .inl (cI, 1500, .inl pa)), (mb, .inl (cI, 50, .inl pb))]) [0, 1, 2, 3, 4, 5, 6, 7, 8, 9, 10, 11] (by decide) rfl
      rw [hQ]
      exact W.iret (v := v47) hx hb hr (fun t ht hW => ⟨⟨v47, (v1), rfl, hpost, by rw [ht]; exact hP9, va_K.moved hW.alike hK, hD9⟩, hS.F ht⟩) hS.2.2 d_Mo_range_52
set_option maxRecDepth 100000 in
set_option maxHeartbeats 4000000 in
theorem c_Mo_cut (l : Launch) (D : va_G) (cL cI : ClassId) (mo m1 m2 m3 m4 m5 m6 m7 m8 m9 ma mb : Nat) (mso mct mfr mcu mth : Int32) (p1 p2 p5 : Nat → Int64) (p3 p4 p6 p7 p8 p9 pa pb : Nat → Int32) (w : Nat) (KW : Nat → Nat → Int64) (n : Nat) (sz : Nat) (hws : (mso.toInt = 0 ∧ w = 1) ∨ (mso.toInt = 1 ∧ w = 2) ∨ (mso.toInt = 2 ∧ w = 7)) (hkr : ∀ x, x < 1503 → KR mso.toInt p1 p2 p3 p4 x (KW x)) (hct : mct.toInt = (n : Int)) (hn : n ≤ 1500) (hfr : mfr.toInt = 1500 - (n : Int)) (hmi : MI n p6 p7) (hs : ob_srt w n (fun k => KW (p6 k).toInt.toNat)) : Met l y_Mo_cut (Cond.code y_Mo_cut prog_6_method_31_code 4 (some .int) :: TW) ({ frames := 5, cells := 0, slots := 0, locals := 134 } : Room) (PM D cL cI [.ref mo] [(mo, .inr (4, [.int mso, .ref m1, .ref m2, .ref m3, .ref m4, .ref m5, .ref m6, .int mct, .ref m7, .int mfr, .int mcu, .int mth, .ref m8, .ref m9, .ref ma, .ref mb])), (m1, .inl (cL, 1503, .inr (.inl p1))), (m2, .inl (cL, 1503, .inr (.inl p2))), (m3, .inl (cI, 36072, .inl p3)), (m4, .inl (cI, 1503, .inl p4)), (m5, .inl (cL, 1500, .inr (.inl p5))), (m6, .inl (cI, 1500, .inl p6)), (m7, .inl (cI, 1500, .inl p7)), (m8, .inl (cI, 50, .inl p8)), (m9, .inl (cI, 50, .inl p9)), (ma, .inl (cI, 1500, .inl pa)), (mb, .inl (cI, 50, .inl pb))] sz) (va_Qi (fun (r : Int32) (u : (Int32) × (Int32) × (Int32) × (Nat → Int32) × (Nat → Int32)) => u.1.toInt = 0 ∧ ∃ (q q2 : Nat) (up : Int), ob_isb w n (fun k => KW (p6 k).toInt.toNat) (KW 1500) q ∧ ob_isb w n (fun k => KW (p6 k).toInt.toNat) (KW 1501) q2 ∧ (((q < n ∧ kw_eq w ((fun k => KW (p6 k).toInt.toNat) q) (KW 1500)) ∧ up = (q : Int) + 1) ∨ (¬ (q < n ∧ kw_eq w ((fun k => KW (p6 k).toInt.toNat) q) (KW 1500)) ∧ up = (q : Int))) ∧ r.toInt = (if 0 < up - q2 then up - q2 else 0) ∧ u.2.1.toInt = (n : Int) - r.toInt ∧ u.2.2.1.toInt = 1500 - ((n : Int) - r.toInt) ∧ MI (n - r.toInt.toNat) u.2.2.2.1 u.2.2.2.2 ∧ (∀ k, k < n - r.toInt.toNat → u.2.2.2.1 k = if k < q2 then p6 k else p6 (k + r.toInt.toNat))) (fun (u : (Int32) × (Int32) × (Int32) × (Nat → Int32) × (Nat → Int32)) (t : State) => va_P D classes [(mo, .inr (4, [.int mso, .ref m1, .ref m2, .ref m3, .ref m4, .ref m5, .ref m6, .int u.2.1, .ref m7, .int u.2.2.1, .int mcu, .int u.1, .ref m8, .ref m9, .ref ma, .ref mb])), (m1, .inl (cL, 1503, .inr (.inl p1))), (m2, .inl (cL, 1503, .inr (.inl p2))), (m3, .inl (cI, 36072, .inl p3)), (m4, .inl (cI, 1503, .inl p4)), (m5, .inl (cL, 1500, .inr (.inl p5))), (m6, .inl (cI, 1500, .inl u.2.2.2.1)), (m7, .inl (cI, 1500, .inl u.2.2.2.2)), (m8, .inl (cI, 50, .inl p8)), (m9, .inl (cI, 50, .inl p9)), (ma, .inl (cI, 1500, .inl pa)), (mb, .inl (cI, 50, .inl pb))] t.heap ∧ va_K D classes (tyz cL cI) t ∧ va_D (va_A [(mo, .inr (4, [.int mso, .ref m1, .ref m2, .ref m3, .ref m4, .ref m5, .ref m6, .int mct, .ref m7, .int mfr, .int mcu, .int mth, .ref m8, .ref m9, .ref ma, .ref mb])), (m1, .inl (cL, 1503, .inr (.inl p1))), (m2, .inl (cL, 1503, .inr (.inl p2))), (m3, .inl (cI, 36072, .inl p3)), (m4, .inl (cI, 1503, .inl p4)), (m5, .inl (cL, 1500, .inr (.inl p5))), (m6, .inl (cI, 1500, .inl p6)), (m7, .inl (cI, 1500, .inl p7)), (m8, .inl (cI, 50, .inl p8)), (m9, .inl (cI, 50, .inl p9)), (ma, .inl (cI, 1500, .inl pa)), (mb, .inl (cI, 50, .inl pb))] sz) [(mo, .inr (4, [.int mso, .ref m1, .ref m2, .ref m3, .ref m4, .ref m5, .ref m6, .int u.2.1, .ref m7, .int u.2.2.1, .int mcu, .int u.1, .ref m8, .ref m9, .ref ma, .ref mb])), (m1, .inl (cL, 1503, .inr (.inl p1))), (m2, .inl (cL, 1503, .inr (.inl p2))), (m3, .inl (cI, 36072, .inl p3)), (m4, .inl (cI, 1503, .inl p4)), (m5, .inl (cL, 1500, .inr (.inl p5))), (m6, .inl (cI, 1500, .inl u.2.2.2.1)), (m7, .inl (cI, 1500, .inl u.2.2.2.2)), (m8, .inl (cI, 50, .inl p8)), (m9, .inl (cI, 50, .inl p9)), (ma, .inl (cI, 1500, .inl pa)), (mb, .inl (cI, 50, .inl pb))]) (va_A [(mo, .inr (4, [.int mso, .ref m1, .ref m2, .ref m3, .ref m4, .ref m5, .ref m6, .int mct, .ref m7, .int mfr, .int mcu, .int mth, .ref m8, .ref m9, .ref ma, .ref mb])), (m1, .inl (cL, 1503, .inr (.inl p1))), (m2, .inl (cL, 1503, .inr (.inl p2))), (m3, .inl (cI, 36072, .inl p3)), (m4, .inl (cI, 1503, .inl p4)), (m5, .inl (cL, 1500, .inr (.inl p5))), (m6, .inl (cI, 1500, .inl p6)), (m7, .inl (cI, 1500, .inl p7)), (m8, .inl (cI, 50, .inl p8)), (m9, .inl (cI, 50, .inl p9)), (ma, .inl (cI, 1500, .inl pa)), (mb, .inl (cI, 50, .inl pb))] sz)) 0 0 (va_A [(mo, .inr (4, [.int mso, .ref m1, .ref m2, .ref m3, .ref m4, .ref m5, .ref m6, .int mct, .ref m7, .int mfr, .int mcu, .int mth, .ref m8, .ref m9, .ref ma, .ref mb])), (m1, .inl (cL, 1503, .inr (.inl p1))), (m2, .inl (cL, 1503, .inr (.inl p2))), (m3, .inl (cI, 36072, .inl p3)), (m4, .inl (cI, 1503, .inl p4)), (m5, .inl (cL, 1500, .inr (.inl p5))), (m6, .inl (cI, 1500, .inl p6)), (m7, .inl (cI, 1500, .inl p7)), (m8, .inl (cI, 50, .inl p8)), (m9, .inl (cI, 50, .inl p9)), (ma, .inl (cI, 1500, .inl pa)), (mb, .inl (cI, 50, .inl pb))] sz) := by
  refine xr_met (by decide) ?_
  intro p e s m args below meth c hx hb hr hts hown hlocks hname hml hv
  obtain ⟨rfl, hsz, hP, hK, hD0⟩ := hv
  subst hsz
  have hD := hD0.self (sz := s.heap.size)
  generalize hAe : va_A [(mo, .inr (4, [.int mso, .ref m1, .ref m2, .ref m3, .ref m4, .ref m5, .ref m6, .int mct, .ref m7, .int mfr, .int mcu, .int mth, .ref m8, .ref m9, .ref ma, .ref mb])), (m1, .inl (cL, 1503, .inr (.inl p1))), (m2, .inl (cL, 1503, .inr (.inl p2))), (m3, .inl (cI, 36072, .inl p3)), (m4, .inl (cI, 1503, .inl p4)), (m5, .inl (cL, 1500, .inr (.inl p5))), (m6, .inl (cI, 1500, .inl p6)), (m7, .inl (cI, 1500, .inl p7)), (m8, .inl (cI, 50, .inl p8)), (m9, .inl (cI, 50, .inl p9)), (ma, .inl (cI, 1500, .inl pa)), (mb, .inl (cI, 50, .inl pb))] s.heap.size = A at hD ⊢
  have hA : ∀ q : Nat, s.heap.size ≤ q → A q := fun q h => by rw [← hAe]; exact Or.inr h
  have hS : va_S A s.heap s.heap [] := va_S.rf
  have hD : va_D A [(mo, .inr (4, [.int mso, .ref m1, .ref m2, .ref m3, .ref m4, .ref m5, .ref m6, .int mct, .ref m7, .int mfr, .int mcu, .int mth, .ref m8, .ref m9, .ref ma, .ref mb])), (m1, .inl (cL, 1503, .inr (.inl p1))), (m2, .inl (cL, 1503, .inr (.inl p2))), (m3, .inl (cI, 36072, .inl p3)), (m4, .inl (cI, 1503, .inl p4)), (m5, .inl (cL, 1500, .inr (.inl p5))), (m6, .inl (cI, 1500, .inl p6)), (m7, .inl (cI, 1500, .inl p7)), (m8, .inl (cI, 50, .inl p8)), (m9, .inl (cI, 50, .inl p9)), (ma, .inl (cI, 1500, .inl pa)), (mb, .inl (cI, 50, .inl pb))] := hD
  have hown : s.vm.findClass "BranchStoreModel" = some m.cls := hown
  have hP : va_P D classes [(mo, .inr (4, [.int mso, .ref m1, .ref m2, .ref m3, .ref m4, .ref m5, .ref m6, .int mct, .ref m7, .int mfr, .int mcu, .int mth, .ref m8, .ref m9, .ref ma, .ref mb])), (m1, .inl (cL, 1503, .inr (.inl p1))), (m2, .inl (cL, 1503, .inr (.inl p2))), (m3, .inl (cI, 36072, .inl p3)), (m4, .inl (cI, 1503, .inl p4)), (m5, .inl (cL, 1500, .inr (.inl p5))), (m6, .inl (cI, 1500, .inl p6)), (m7, .inl (cI, 1500, .inl p7)), (m8, .inl (cI, 50, .inl p8)), (m9, .inl (cI, 50, .inl p9)), (ma, .inl (cI, 1500, .inl pa)), (mb, .inl (cI, 50, .inl pb))] s.heap := hP
  have hl := lv_entry ([.ref mo]) (n := 4) (Nat.le_of_ble_eq_true rfl)
  rw [lg_entry_eq]
  generalize (lg_sl ([.ref mo]) ++ List.replicate (4 - (lg_sl ([.ref mo])).length) Slot.unset).toArray = ls at hl ⊢
  have hl : lv_has ls 4 [(0, .ref mo)] := hl
  obtain ⟨Q, hQ⟩ : ∃ Q, Q = MQ below (va_Qi (fun (r : Int32) (u : (Int32) × (Int32) × (Int32) × (Nat → Int32) × (Nat → Int32)) => u.1.toInt = 0 ∧ ∃ (q q2 : Nat) (up : Int), ob_isb w n (fun k => KW (p6 k).toInt.toNat) (KW 1500) q ∧ ob_isb w n (fun k => KW (p6 k).toInt.toNat) (KW 1501) q2 ∧ (((q < n ∧ kw_eq w ((fun k => KW (p6 k).toInt.toNat) q) (KW 1500)) ∧ up = (q : Int) + 1) ∨ (¬ (q < n ∧ kw_eq w ((fun k => KW (p6 k).toInt.toNat) q) (KW 1500)) ∧ up = (q : Int))) ∧ r.toInt = (if 0 < up - q2 then up - q2 else 0) ∧ u.2.1.toInt = (n : Int) - r.toInt ∧ u.2.2.1.toInt = 1500 - ((n : Int) - r.toInt) ∧ MI (n - r.toInt.toNat) u.2.2.2.1 u.2.2.2.2 ∧ (∀ k, k < n - r.toInt.toNat → u.2.2.2.1 k = if k < q2 then p6 k else p6 (k + r.toInt.toNat))) (fun (u : (Int32) × (Int32) × (Int32) × (Nat → Int32) × (Nat → Int32)) (t : State) => va_P D classes [(mo, .inr (4, [.int mso, .ref m1, .ref m2, .ref m3, .ref m4, .ref m5, .ref m6, .int u.2.1, .ref m7, .int u.2.2.1, .int mcu, .int u.1, .ref m8, .ref m9, .ref ma, .ref mb])), (m1, .inl (cL, 1503, .inr (.inl p1))), (m2, .inl (cL, 1503, .inr (.inl p2))), (m3, .inl (cI, 36072, .inl p3)), (m4, .inl (cI, 1503, .inl p4)), (m5, .inl (cL, 1500, .inr (.inl p5))), (m6, .inl (cI, 1500, .inl u.2.2.2.1)), (m7, .inl (cI, 1500, .inl u.2.2.2.2)), (m8, .inl (cI, 50, .inl p8)), (m9, .inl (cI, 50, .inl p9)), (ma, .inl (cI, 1500, .inl pa)), (mb, .inl (cI, 50, .inl pb))] t.heap ∧ va_K D classes (tyz cL cI) t ∧ va_D (A) [(mo, .inr (4, [.int mso, .ref m1, .ref m2, .ref m3, .ref m4, .ref m5, .ref m6, .int u.2.1, .ref m7, .int u.2.2.1, .int mcu, .int u.1, .ref m8, .ref m9, .ref ma, .ref mb])), (m1, .inl (cL, 1503, .inr (.inl p1))), (m2, .inl (cL, 1503, .inr (.inl p2))), (m3, .inl (cI, 36072, .inl p3)), (m4, .inl (cI, 1503, .inl p4)), (m5, .inl (cL, 1500, .inr (.inl p5))), (m6, .inl (cI, 1500, .inl u.2.2.2.1)), (m7, .inl (cI, 1500, .inl u.2.2.2.2)), (m8, .inl (cI, 50, .inl p8)), (m9, .inl (cI, 50, .inl p9)), (ma, .inl (cI, 1500, .inl pa)), (mb, .inl (cI, 50, .inl pb))]) (A)) ([.ref mo] : List Value).toArray s 0 0 A := ⟨_, rfl⟩
  rw [← hQ]
  have hor := hmi.1
  have hfe := hmi.2.1
  refine lv_aload_n hx hb d_Mo_cut_0 rfl (lv_at hl 0 rfl) ?_
  have hPc := hP.sub (ws' := [(mo, .inr (4, [.int mso, .ref m1, .ref m2, .ref m3, .ref m4, .ref m5, .ref m6, .int mct, .ref m7, .int mfr, .int mcu, .int mth, .ref m8, .ref m9, .ref ma, .ref mb])), (m1, .inl (cL, 1503, .inr (.inl p1))), (m2, .inl (cL, 1503, .inr (.inl p2))), (m3, .inl (cI, 36072, .inl p3)), (m4, .inl (cI, 1503, .inl p4)), (m5, .inl (cL, 1500, .inr (.inl p5))), (m6, .inl (cI, 1500, .inl p6)), (m7, .inl (cI, 1500, .inl p7)), (m8, .inl (cI, 50, .inl p8)), (m9, .inl (cI, 50, .inl p9)), (ma, .inl (cI, 1500, .inl pa)), (mb, .inl (cI, 50, .inl pb))]) [0, 1, 2, 3, 4, 5, 6, 7, 8, 9, 10, 11] rfl
  have hDc := hD.sub (ws' := [(mo, .inr (4, [.int mso, .ref m1, .ref m2, .ref m3, .ref m4, .ref m5, .ref m6, .int mct, .ref m7, .int mfr, .int mcu, .int mth, .ref m8, .ref m9, .ref ma, .ref mb])), (m1, .inl (cL, 1503, .inr (.inl p1))), (m2, .inl (cL, 1503, .inr (.inl p2))), (m3, .inl (cI, 36072, .inl p3)), (m4, .inl (cI, 1503, .inl p4)), (m5, .inl (cL, 1500, .inr (.inl p5))), (m6, .inl (cI, 1500, .inl p6)), (m7, .inl (cI, 1500, .inl p7)), (m8, .inl (cI, 50, .inl p8)), (m9, .inl (cI, 50, .inl p9)), (ma, .inl (cI, 1500, .inl pa)), (mb, .inl (cI, 50, .inl pb))]) [0, 1, 2, 3, 4, 5, 6, 7, 8, 9, 10, 11] (by decide) rfl
  have hFc := va_free (wc := [(mo, .inr (4, [.int mso, .ref m1, .ref m2, .ref m3, .ref m4, .ref m5, .ref m6, .int mct, .ref m7, .int mfr, .int mcu, .int mth, .ref m8, .ref m9, .ref ma, .ref mb])), (m1, .inl (cL, 1503, .inr (.inl p1))), (m2, .inl (cL, 1503, .inr (.inl p2))), (m3, .inl (cI, 36072, .inl p3)), (m4, .inl (cI, 1503, .inl p4)), (m5, .inl (cL, 1500, .inr (.inl p5))), (m6, .inl (cI, 1500, .inl p6)), (m7, .inl (cI, 1500, .inl p7)), (m8, .inl (cI, 50, .inl p8)), (m9, .inl (cI, 50, .inl p9)), (ma, .inl (cI, 1500, .inl pa)), (mb, .inl (cI, 50, .inl pb))]) hD hS hA [0, 1, 2, 3, 4, 5, 6, 7, 8, 9, 10, 11] rfl
  refine va_calli (xr_mv (As := []) (rest := []) ⟨hx, hb, hml, hown, hts⟩ (c_Mo_range l D cL cI mo m1 m2 m3 m4 m5 m6 m7 m8 m9 ma mb mso mct mfr mcu mth p1 p2 p5 p3 p4 p6 p7 p8 p9 pa pb w KW n s.heap.size (by first | omega | exact hws) (by first | omega | exact hkr) (by first | omega | exact hct) (by first | omega | exact hn) (by first | omega | exact hor) (by first | omega | exact hs)) (xr_cv 0 hts tw_768 tw_773 tw_766 tw_767 tw_7 rfl rfl (by decide) ⟨Nat.le_of_ble_eq_true rfl, Nat.le_of_ble_eq_true rfl⟩) hK hPc (hDc.weaken (fun _ _ _ _ => trivial)) (va_recv hK hP rfl (q0 := 0) (ci := 4) rfl) rfl hl.1 rfl (Nat.le_of_ble_eq_true rfl) d_Mo_cut_1 ⟨Nat.le_of_ble_eq_true rfl, Nat.le_of_ble_eq_true rfl⟩) hS (fun q _ h => hFc q h) hFc (fun v1 u1 tt1 H1 locs ht1 hvm1 e1 hB1 hz1 hk1 hS => ?_)
  obtain ⟨mth2_1, rfl⟩ : ∃ z, z = u1 := ⟨_, rfl⟩
  have e1 : mth2_1.toInt = 0 ∧ (∃ (q q2 : Nat) (up : Int), ob_isb w n (fun k => KW (p6 k).toInt.toNat) (KW 1500) q ∧ ob_isb w n (fun k => KW (p6 k).toInt.toNat) (KW 1501) q2 ∧ (((q < n ∧ kw_eq w ((fun k => KW (p6 k).toInt.toNat) q) (KW 1500)) ∧ up = (q : Int) + 1) ∨ (¬ (q < n ∧ kw_eq w ((fun k => KW (p6 k).toInt.toNat) q) (KW 1500)) ∧ up = (q : Int))) ∧ v1.toInt = if 0 < up - q2 then up - q2 else 0) := e1
  obtain ⟨hP1, hK1, hD1⟩ := hB1
  rw [ht1] at hP1
  obtain ⟨hP, hD⟩ := va_join (wr := []) (w1 := [(mo, .inr (4, [.int mso, .ref m1, .ref m2, .ref m3, .ref m4, .ref m5, .ref m6, .int mct, .ref m7, .int mfr, .int mcu, .int mth2_1, .ref m8, .ref m9, .ref ma, .ref mb])), (m1, .inl (cL, 1503, .inr (.inl p1))), (m2, .inl (cL, 1503, .inr (.inl p2))), (m3, .inl (cI, 36072, .inl p3)), (m4, .inl (cI, 1503, .inl p4)), (m5, .inl (cL, 1500, .inr (.inl p5))), (m6, .inl (cI, 1500, .inl p6)), (m7, .inl (cI, 1500, .inl p7)), (m8, .inl (cI, 50, .inl p8)), (m9, .inl (cI, 50, .inl p9)), (ma, .inl (cI, 1500, .inl pa)), (mb, .inl (cI, 50, .inl pb))]) hP hD [0, 1, 2, 3, 4, 5, 6, 7, 8, 9, 10, 11] [] rfl rfl (by decide) (by decide) hk1 hFc hP1 hD1
  clear hP1 hD1 hPc hDc hFc
  generalize H1 = H at hP hS ⊢
  have hP : va_P D classes [(mo, .inr (4, [.int mso, .ref m1, .ref m2, .ref m3, .ref m4, .ref m5, .ref m6, .int mct, .ref m7, .int mfr, .int mcu, .int mth2_1, .ref m8, .ref m9, .ref ma, .ref mb])), (m1, .inl (cL, 1503, .inr (.inl p1))), (m2, .inl (cL, 1503, .inr (.inl p2))), (m3, .inl (cI, 36072, .inl p3)), (m4, .inl (cI, 1503, .inl p4)), (m5, .inl (cL, 1500, .inr (.inl p5))), (m6, .inl (cI, 1500, .inl p6)), (m7, .inl (cI, 1500, .inl p7)), (m8, .inl (cI, 50, .inl p8)), (m9, .inl (cI, 50, .inl p9)), (ma, .inl (cI, 1500, .inl pa)), (mb, .inl (cI, 50, .inl pb))] H := hP
  have hD : va_D A [(mo, .inr (4, [.int mso, .ref m1, .ref m2, .ref m3, .ref m4, .ref m5, .ref m6, .int mct, .ref m7, .int mfr, .int mcu, .int mth2_1, .ref m8, .ref m9, .ref ma, .ref mb])), (m1, .inl (cL, 1503, .inr (.inl p1))), (m2, .inl (cL, 1503, .inr (.inl p2))), (m3, .inl (cI, 36072, .inl p3)), (m4, .inl (cI, 1503, .inl p4)), (m5, .inl (cL, 1500, .inr (.inl p5))), (m6, .inl (cI, 1500, .inl p6)), (m7, .inl (cI, 1500, .inl p7)), (m8, .inl (cI, 50, .inl p8)), (m9, .inl (cI, 50, .inl p9)), (ma, .inl (cI, 1500, .inl pa)), (mb, .inl (cI, 50, .inl pb))] := hD
  obtain ⟨th0, q, q2, up, a1, a2, a3, a4⟩ := e1
  have a5 := a1.1
  have a6 := a2.1
  have a7 : up ≤ (n : Int) ∧ 0 ≤ up := by
        rcases a3 with h5 | h5
        · have := h5.1.1; omega
        · omega
  have a8 : 0 ≤ v1.toInt ∧ (0 < v1.toInt → (q2 : Int) + v1.toInt ≤ (n : Int)) ∧ v1.toInt ≤ (n : Int) := by split at a4 <;> omega
  refine lv_istore_n (lv' := [(1, .int v1), (0, .ref mo)]) hx hb d_Mo_cut_4 rfl hl (by decide) rfl (fun ls hl => ?_)
  refine lv_aload_n hx hb d_Mo_cut_5 rfl (lv_at hl 1 rfl) ?_
  refine lv_sipush (v := 1501) hx hb d_Mo_cut_6 (by decide) ?_
  refine lv_topi (fun v6 e6 => ?_)
  have t6 : v6.toInt = 1501 := by rw [e6]; rfl
  refine vp_callSi (xr_rv (As := [.int v6]) (rest := []) ⟨hx, hb, hml, hown, hts⟩ (c_Mo_below l D cL cI mo m1 m2 m3 m4 m5 m6 m7 m8 m9 ma mb mso mct mfr mcu mth2_1 p1 p2 p5 p3 p4 p6 p7 p8 p9 pa pb w KW n v6 (by first | omega | exact hws) (by first | omega | exact hkr) (by first | omega | exact hct) (by first | omega | exact hn) (by first | omega | exact hor) (by first | omega | exact hib) (by first | omega | exact hs)) (xr_cv 1 hts tw_700 tw_697 tw_699 tp_13 tw_7 rfl rfl (by decide) ⟨Nat.le_of_ble_eq_true rfl, Nat.le_of_ble_eq_true rfl⟩) hK hP (va_recv hK hP rfl (q0 := 0) (ci := 4) rfl) rfl hl.1 rfl (Nat.le_of_ble_eq_true rfl) d_Mo_cut_9 ⟨Nat.le_of_ble_eq_true rfl, Nat.le_of_ble_eq_true rfl⟩) (fun v9 e9 => ?_)
  have e9 : ∃ q : Nat, v9.toInt = (q : Int) ∧ ob_isb w n (fun k => KW (p6 k).toInt.toNat) (KW v6.toInt.toNat) q := e9
  obtain ⟨q3, hr1, hr2⟩ := e9
  rw [show v6.toInt.toNat = 1501 by omega] at hr2
  have hr3 : q3 = q2 := ob_one hr2 a2
  refine lv_istore_n (lv' := [(2, .int v9), (1, .int v1), (0, .ref mo)]) hx hb d_Mo_cut_12 rfl hl (by decide) rfl (fun ls hl => ?_)
  refine lv_iconst (v := 0) hx hb d_Mo_cut_13 (by decide) ?_
  refine lv_topi (fun v13 e13 => ?_)
  have t13 : v13.toInt = 0 := by rw [e13]; rfl
  refine lv_istore_n (lv' := [(3, .int v13), (2, .int v9), (1, .int v1), (0, .ref mo)]) hx hb d_Mo_cut_14 rfl hl (by decide) rfl (fun ls hl => ?_)
  have lp15 : ∀ (fuel15 : Nat) (kk : Int32) (mctz : Int32) (mfrz : Int32) (f6z : Nat → Int32) (f7z : Nat → Int32) (H : Heap) (locs : List Loc) (ls : Array Slot), lv_has ls 4 [(3, .int kk), (2, .int v9), (1, .int v1), (0, .ref mo)] → va_P D classes [(mo, .inr (4, [.int mso, .ref m1, .ref m2, .ref m3, .ref m4, .ref m5, .ref m6, .int mctz, .ref m7, .int mfrz, .int mcu, .int mth2_1, .ref m8, .ref m9, .ref ma, .ref mb])), (m1, .inl (cL, 1503, .inr (.inl p1))), (m2, .inl (cL, 1503, .inr (.inl p2))), (m3, .inl (cI, 36072, .inl p3)), (m4, .inl (cI, 1503, .inl p4)), (m5, .inl (cL, 1500, .inr (.inl p5))), (m6, .inl (cI, 1500, .inl f6z)), (m7, .inl (cI, 1500, .inl f7z)), (m8, .inl (cI, 50, .inl p8)), (m9, .inl (cI, 50, .inl p9)), (ma, .inl (cI, 1500, .inl pa)), (mb, .inl (cI, 50, .inl pb))] H → va_D A [(mo, .inr (4, [.int mso, .ref m1, .ref m2, .ref m3, .ref m4, .ref m5, .ref m6, .int mctz, .ref m7, .int mfrz, .int mcu, .int mth2_1, .ref m8, .ref m9, .ref ma, .ref mb])), (m1, .inl (cL, 1503, .inr (.inl p1))), (m2, .inl (cL, 1503, .inr (.inl p2))), (m3, .inl (cI, 36072, .inl p3)), (m4, .inl (cI, 1503, .inl p4)), (m5, .inl (cL, 1500, .inr (.inl p5))), (m6, .inl (cI, 1500, .inl f6z)), (m7, .inl (cI, 1500, .inl f7z)), (m8, .inl (cI, 50, .inl p8)), (m9, .inl (cI, 50, .inl p9)), (ma, .inl (cI, 1500, .inl pa)), (mb, .inl (cI, 50, .inl pb))] → va_S A s.heap H locs → (0 ≤ kk.toInt) → (kk.toInt ≤ v1.toInt) → (mctz.toInt = (n : Int) - kk.toInt) → (mfrz.toInt = 1500 - ((n : Int) - kk.toInt)) → (MI (n - kk.toInt.toNat) f6z f7z) → (∀ k, k < n - kk.toInt.toNat → f6z k = if k < q2 + (v1.toInt.toNat - kk.toInt.toNat) then p6 k else p6 (k + kk.toInt.toNat)) → v1.toInt.toNat - kk.toInt.toNat < fuel15 → W p l e ({ frames := 5, cells := 0, slots := 0, locals := 134 } : Room) s m ([.ref mo] : List Value).toArray below meth c H locs 0 0 Q (F0 m 15 ls []) := by
    intro fuel15
    induction fuel15 with
    | zero => intro kk mctz mfrz f6z f7z H locs ls hl hP hD hS h1 h2 h4 h5 h6 h7 hm15; exact absurd hm15 (Nat.not_lt_zero _)
    | succ fuel15 ih15 =>
      intro kk mctz mfrz f6z f7z H locs ls hl hP hD hS h1 h2 h4 h5 h6 h7 hm15
      refine lv_iload_n hx hb d_Mo_cut_15 rfl (lv_at hl 0 rfl) ?_
      refine lv_iload_n hx hb d_Mo_cut_16 rfl (lv_at hl 2 rfl) ?_
      refine lv_icmp_ge hx hb d_Mo_cut_17 (tgt := 37) (by decide) (fun g17 => ?_) (fun g17 => ?_)
      · have g17 := ic_le.mp g17
        refine lv_iload_n hx hb d_Mo_cut_37 rfl (lv_at hl 2 rfl) ?_
        have hpost : mth2_1.toInt = 0 ∧ ∃ (q q2 : Nat) (up : Int), ob_isb w n (fun k => KW (p6 k).toInt.toNat) (KW 1500) q ∧ ob_isb w n (fun k => KW (p6 k).toInt.toNat) (KW 1501) q2 ∧ (((q < n ∧ kw_eq w ((fun k => KW (p6 k).toInt.toNat) q) (KW 1500)) ∧ up = (q : Int) + 1) ∨ (¬ (q < n ∧ kw_eq w ((fun k => KW (p6 k).toInt.toNat) q) (KW 1500)) ∧ up = (q : Int))) ∧ v1.toInt = (if 0 < up - q2 then up - q2 else 0) ∧ mctz.toInt = (n : Int) - v1.toInt ∧ mfrz.toInt = 1500 - ((n : Int) - v1.toInt) ∧ MI (n - v1.toInt.toNat) f6z f7z ∧ (∀ k, k < n - v1.toInt.toNat → f6z k = if k < q2 then p6 k else p6 (k + v1.toInt.toNat)) := by
          have hk : kk.toInt = v1.toInt := by omega
          refine ⟨th0, q, q2, up, a1, a2, a3, a4, by omega, by omega, ?_, fun k hk2 => ?_⟩
          · rw [← hk]; exact h6
          · rw [h7 k (by omega), show v1.toInt.toNat - kk.toInt.toNat = 0 by omega, Nat.add_zero, hk]
        have hP9 := hP.sub (ws' := [(mo, .inr (4, [.int mso, .ref m1, .ref m2, .ref m3, .ref m4, .ref m5, .ref m6, .int mctz, .ref m7, .int mfrz, .int mcu, .int mth2_1, .ref m8, .ref m9, .ref ma, .ref mb])), (m1, .inl (cL, 1503, .inr (.inl p1))), (m2, .inl (cL, 1503, .inr (.inl p2))), (m3, .inl (cI, 36072, .inl p3)), (m4, .inl (cI, 1503, .inl p4)), (m5, .inl (cL, 1500, .inr (.inl p5))), (m6, .inl (cI, 1500, .inl f6z)), (m7, .inl (cI, 1500, .inl f7z)), (m8, .inl (cI, 50, .inl p8)), (m9, .inl (cI, 50, .inl p9)), (ma, .inl (cI, 1500, .inl pa)), (mb, .inl (cI, 50, .inl pb))]) [0, 1, 2, 3, 4, 5, 6, 7, 8, 9, 10, 11] rfl
        have hD9 := hD.sub (ws' := [(mo, .inr (4, [.int mso, .ref m1, .ref m2, .ref m3, .ref m4, .ref m5, .ref m6, .int mctz, .ref m7, .int mfrz, .int mcu, .int mth2_1, .ref m8, .ref m9, .ref ma, .ref mb])), (m1, .inl (cL, 1503, .inr (.inl p1))), (m2, .inl (cL, 1503, .inr (.inl p2))), (m3, .inl (cI, 36072, .inl p3)), (m4, .inl (cI, 1503, .inl p4)), (m5, .inl (cL, 1500, .inr (.inl p5))), (m6, .inl (cI, 1500, .inl f6z)), (m7, .inl (cI, 1500, .inl f7z)), (m8, .inl (cI, 50, .inl p8)), (m9, .inl (cI, 50, .inl p9)), (ma, .inl (cI, 1500, .inl pa)), (mb, .inl (cI, 50, .inl pb))]) [0, 1, 2, 3, 4, 5, 6, 7, 8, 9, 10, 11] (by decide) rfl
        rw [hQ]
        exact W.iret (v := v1) hx hb hr (fun t ht hW => ⟨⟨v1, (mth2_1, mctz, mfrz, f6z, f7z), rfl, hpost, by rw [ht]; exact hP9, va_K.moved hW.alike hK, hD9⟩, hS.F ht⟩) hS.2.2 d_Mo_cut_38
      · have g17 := ic_nle.mp g17
        obtain ⟨n9, hn9⟩ : ∃ z, z = n - kk.toInt.toNat := ⟨_, rfl⟩
        rw [← hn9] at h6
        refine lv_aload_n hx hb d_Mo_cut_20 rfl (lv_at hl 3 rfl) ?_
        refine lv_iload_n hx hb d_Mo_cut_21 rfl (lv_at hl 1 rfl) ?_
        refine lv_iload_n hx hb d_Mo_cut_22 rfl (lv_at hl 2 rfl) ?_
        refine lv_iadd hx hb d_Mo_cut_23 ?_
        refine lv_topi (fun v23 e23 => ?_)
        have t23 := ia_add e23 ⟨by omega, by omega⟩
        refine lv_iconst (v := 1) hx hb d_Mo_cut_24 (by decide) ?_
        refine lv_topi (fun v24 e24 => ?_)
        have t24 : v24.toInt = 1 := by rw [e24]; rfl
        refine lv_isub hx hb d_Mo_cut_25 ?_
        refine lv_topi (fun v25 e25 => ?_)
        have t25 := ia_sub e25 ⟨by omega, by omega⟩
        refine lv_iload_n hx hb d_Mo_cut_26 rfl (lv_at hl 0 rfl) ?_
        refine lv_isub hx hb d_Mo_cut_27 ?_
        refine lv_topi (fun v27 e27 => ?_)
        have t27 := ia_sub e27 ⟨by omega, by omega⟩
        have hPc := hP.sub (ws' := [(mo, .inr (4, [.int mso, .ref m1, .ref m2, .ref m3, .ref m4, .ref m5, .ref m6, .int mctz, .ref m7, .int mfrz, .int mcu, .int mth2_1, .ref m8, .ref m9, .ref ma, .ref mb])), (m1, .inl (cL, 1503, .inr (.inl p1))), (m2, .inl (cL, 1503, .inr (.inl p2))), (m3, .inl (cI, 36072, .inl p3)), (m4, .inl (cI, 1503, .inl p4)), (m5, .inl (cL, 1500, .inr (.inl p5))), (m6, .inl (cI, 1500, .inl f6z)), (m7, .inl (cI, 1500, .inl f7z)), (m8, .inl (cI, 50, .inl p8)), (m9, .inl (cI, 50, .inl p9)), (ma, .inl (cI, 1500, .inl pa)), (mb, .inl (cI, 50, .inl pb))]) [0, 1, 2, 3, 4, 5, 6, 7, 8, 9, 10, 11] rfl
        have hDc := hD.sub (ws' := [(mo, .inr (4, [.int mso, .ref m1, .ref m2, .ref m3, .ref m4, .ref m5, .ref m6, .int mctz, .ref m7, .int mfrz, .int mcu, .int mth2_1, .ref m8, .ref m9, .ref ma, .ref mb])), (m1, .inl (cL, 1503, .inr (.inl p1))), (m2, .inl (cL, 1503, .inr (.inl p2))), (m3, .inl (cI, 36072, .inl p3)), (m4, .inl (cI, 1503, .inl p4)), (m5, .inl (cL, 1500, .inr (.inl p5))), (m6, .inl (cI, 1500, .inl f6z)), (m7, .inl (cI, 1500, .inl f7z)), (m8, .inl (cI, 50, .inl p8)), (m9, .inl (cI, 50, .inl p9)), (ma, .inl (cI, 1500, .inl pa)), (mb, .inl (cI, 50, .inl pb))]) [0, 1, 2, 3, 4, 5, 6, 7, 8, 9, 10, 11] (by decide) rfl
        have hFc := va_free (wc := [(mo, .inr (4, [.int mso, .ref m1, .ref m2, .ref m3, .ref m4, .ref m5, .ref m6, .int mctz, .ref m7, .int mfrz, .int mcu, .int mth2_1, .ref m8, .ref m9, .ref ma, .ref mb])), (m1, .inl (cL, 1503, .inr (.inl p1))), (m2, .inl (cL, 1503, .inr (.inl p2))), (m3, .inl (cI, 36072, .inl p3)), (m4, .inl (cI, 1503, .inl p4)), (m5, .inl (cL, 1500, .inr (.inl p5))), (m6, .inl (cI, 1500, .inl f6z)), (m7, .inl (cI, 1500, .inl f7z)), (m8, .inl (cI, 50, .inl p8)), (m9, .inl (cI, 50, .inl p9)), (ma, .inl (cI, 1500, .inl pa)), (mb, .inl (cI, 50, .inl pb))]) hD hS hA [0, 1, 2, 3, 4, 5, 6, 7, 8, 9, 10, 11] rfl
        refine va_callv (xr_mv (As := [.int v27]) (rest := []) ⟨hx, hb, hml, hown, hts⟩ (c_Mo_delete l D cL cI mo m1 m2 m3 m4 m5 m6 m7 m8 m9 ma mb mso mctz mfrz mcu mth2_1 p1 p2 p5 p3 p4 f6z f7z p8 p9 pa pb n9 v27 H.size (by first | omega | exact hct) (by first | omega | exact hn) (by first | omega | exact hfr) (h6) (by first | omega | exact hpl)) (xr_cv 1 hts tw_727 tw_724 tw_726 tp_17 tw_7 rfl rfl (by decide) ⟨Nat.le_of_ble_eq_true rfl, Nat.le_of_ble_eq_true rfl⟩) hK hPc (hDc.weaken (fun _ _ _ _ => trivial)) (va_recv hK hP rfl (q0 := 0) (ci := 4) rfl) rfl hl.1 rfl (Nat.le_of_ble_eq_true rfl) d_Mo_cut_28 ⟨Nat.le_of_ble_eq_true rfl, Nat.le_of_ble_eq_true rfl⟩) hS (fun q _ h => hFc q h) hFc (fun u28 tt28 H1 locs ht28 hvm28 e28 hB28 hz28 hk28 hS => ?_)
        obtain ⟨mct2_28, mfr2_28, p6b_28, p7b_28⟩ := u28
        have e28 : mct2_28.toInt = (n9 : Int) - 1 ∧ mfr2_28.toInt = 1500 - ((n9 : Int) - 1) ∧ MI (n9 - 1) p6b_28 p7b_28 ∧ (∀ k, k < n9 - 1 → p6b_28 k = if k < v27.toInt.toNat then f6z k else f6z (k + 1)) := e28
        obtain ⟨hP1, hK1, hD1⟩ := hB28
        rw [ht28] at hP1
        obtain ⟨hP, hD⟩ := va_join (wr := []) (w1 := [(mo, .inr (4, [.int mso, .ref m1, .ref m2, .ref m3, .ref m4, .ref m5, .ref m6, .int mct2_28, .ref m7, .int mfr2_28, .int mcu, .int mth2_1, .ref m8, .ref m9, .ref ma, .ref mb])), (m1, .inl (cL, 1503, .inr (.inl p1))), (m2, .inl (cL, 1503, .inr (.inl p2))), (m3, .inl (cI, 36072, .inl p3)), (m4, .inl (cI, 1503, .inl p4)), (m5, .inl (cL, 1500, .inr (.inl p5))), (m6, .inl (cI, 1500, .inl p6b_28)), (m7, .inl (cI, 1500, .inl p7b_28)), (m8, .inl (cI, 50, .inl p8)), (m9, .inl (cI, 50, .inl p9)), (ma, .inl (cI, 1500, .inl pa)), (mb, .inl (cI, 50, .inl pb))]) hP hD [0, 1, 2, 3, 4, 5, 6, 7, 8, 9, 10, 11] [] rfl rfl (by decide) (by decide) hk28 hFc hP1 hD1
        clear hP1 hD1 hPc hDc hFc
        generalize H1 = H at hP hS ⊢
        have hP : va_P D classes [(mo, .inr (4, [.int mso, .ref m1, .ref m2, .ref m3, .ref m4, .ref m5, .ref m6, .int mct2_28, .ref m7, .int mfr2_28, .int mcu, .int mth2_1, .ref m8, .ref m9, .ref ma, .ref mb])), (m1, .inl (cL, 1503, .inr (.inl p1))), (m2, .inl (cL, 1503, .inr (.inl p2))), (m3, .inl (cI, 36072, .inl p3)), (m4, .inl (cI, 1503, .inl p4)), (m5, .inl (cL, 1500, .inr (.inl p5))), (m6, .inl (cI, 1500, .inl p6b_28)), (m7, .inl (cI, 1500, .inl p7b_28)), (m8, .inl (cI, 50, .inl p8)), (m9, .inl (cI, 50, .inl p9)), (ma, .inl (cI, 1500, .inl pa)), (mb, .inl (cI, 50, .inl pb))] H := hP
        have hD : va_D A [(mo, .inr (4, [.int mso, .ref m1, .ref m2, .ref m3, .ref m4, .ref m5, .ref m6, .int mct2_28, .ref m7, .int mfr2_28, .int mcu, .int mth2_1, .ref m8, .ref m9, .ref ma, .ref mb])), (m1, .inl (cL, 1503, .inr (.inl p1))), (m2, .inl (cL, 1503, .inr (.inl p2))), (m3, .inl (cI, 36072, .inl p3)), (m4, .inl (cI, 1503, .inl p4)), (m5, .inl (cL, 1500, .inr (.inl p5))), (m6, .inl (cI, 1500, .inl p6b_28)), (m7, .inl (cI, 1500, .inl p7b_28)), (m8, .inl (cI, 50, .inl p8)), (m9, .inl (cI, 50, .inl p9)), (ma, .inl (cI, 1500, .inl pa)), (mb, .inl (cI, 50, .inl pb))] := hD
        obtain ⟨v31, e31⟩ : ∃ z, z = kk + Int32.ofInt 1 := ⟨_, rfl⟩
        have t31 := ia_inc 1 e31 (by decide) ⟨by omega, by omega⟩
        refine lv_iinc (k := 0) (lv' := [(3, .int v31), (2, .int v9), (1, .int v1), (0, .ref mo)]) hx hb d_Mo_cut_31 hl rfl e31.symm (by decide) rfl (fun ls hl => ?_)
        refine lv_goto hx hb d_Mo_cut_34 (tgt := 15) (by decide) ?_
        exact ih15 v31 mct2_28 mfr2_28 p6b_28 p7b_28 H locs ls hl hP hD hS (by omega) (by omega) (by omega) (by omega) (by rw [show n - v31.toInt.toNat = n9 - 1 by omega]; exact e28.2.2.1) (fun k hk => by
              rw [e28.2.2.2 k (by omega)]
              by_cases h8 : k < v27.toInt.toNat
              · rw [if_pos h8, h7 k (by omega), if_pos (by omega), if_pos (by omega)]
              · rw [if_neg h8, h7 (k + 1) (by omega), if_neg (by omega), if_neg (by omega)]
                congr 1
                omega) (by omega)
  exact lp15 _ v13 mct mfr p6 p7 H locs ls hl hP hD hS (by omega) (by omega) (by omega) (by omega) (by rw [show n - v13.toInt.toNat = n by omega]; exact hmi) (fun k hk => by rw [show v13.toInt.toNat = 0 by omega]; split <;> rfl) (Nat.lt_succ_self _)
set_option maxRecDepth 100000 in
set_option maxHeartbeats 4000000 in
theorem c_Mo_clear (l : Launch) (D : va_G) (cL cI : ClassId) (mo m1 m2 m3 m4 m5 m6 m7 m8 m9 ma mb : Nat) (mso mct mfr mcu mth : Int32) (p1 p2 p5 : Nat → Int64) (p3 p4 p6 p7 p8 p9 pa pb : Nat → Int32) (n : Nat) (sz : Nat) (hct : mct.toInt = (n : Int)) (hn : n ≤ 1500) (hfr : mfr.toInt = 1500 - (n : Int)) (hmi : MI n p6 p7) : Met l y_Mo_clear (Cond.code y_Mo_clear prog_6_method_36_code 3 (some .int) :: TW) ({ frames := 2, cells := 0, slots := 0, locals := 62 } : Room) (PM D cL cI [.ref mo] [(mo, .inr (4, [.int mso, .ref m1, .ref m2, .ref m3, .ref m4, .ref m5, .ref m6, .int mct, .ref m7, .int mfr, .int mcu, .int mth, .ref m8, .ref m9, .ref ma, .ref mb])), (m1, .inl (cL, 1503, .inr (.inl p1))), (m2, .inl (cL, 1503, .inr (.inl p2))), (m3, .inl (cI, 36072, .inl p3)), (m4, .inl (cI, 1503, .inl p4)), (m5, .inl (cL, 1500, .inr (.inl p5))), (m6, .inl (cI, 1500, .inl p6)), (m7, .inl (cI, 1500, .inl p7)), (m8, .inl (cI, 50, .inl p8)), (m9, .inl (cI, 50, .inl p9)), (ma, .inl (cI, 1500, .inl pa)), (mb, .inl (cI, 50, .inl pb))] sz) (va_Qi (fun (r : Int32) (u : (Int32) × (Int32) × (Int32) × (Nat → Int32) × (Nat → Int32)) => u.1.toInt = 0 ∧ r.toInt = (n : Int) ∧ u.2.1.toInt = 0 ∧ u.2.2.1.toInt = 1500 ∧ MI 0 u.2.2.2.1 u.2.2.2.2) (fun (u : (Int32) × (Int32) × (Int32) × (Nat → Int32) × (Nat → Int32)) (t : State) => va_P D classes [(mo, .inr (4, [.int mso, .ref m1, .ref m2, .ref m3, .ref m4, .ref m5, .ref m6, .int u.2.1, .ref m7, .int u.2.2.1, .int mcu, .int u.1, .ref m8, .ref m9, .ref ma, .ref mb])), (m1, .inl (cL, 1503, .inr (.inl p1))), (m2, .inl (cL, 1503, .inr (.inl p2))), (m3, .inl (cI, 36072, .inl p3)), (m4, .inl (cI, 1503, .inl p4)), (m5, .inl (cL, 1500, .inr (.inl p5))), (m6, .inl (cI, 1500, .inl u.2.2.2.1)), (m7, .inl (cI, 1500, .inl u.2.2.2.2)), (m8, .inl (cI, 50, .inl p8)), (m9, .inl (cI, 50, .inl p9)), (ma, .inl (cI, 1500, .inl pa)), (mb, .inl (cI, 50, .inl pb))] t.heap ∧ va_K D classes (tyz cL cI) t ∧ va_D (va_A [(mo, .inr (4, [.int mso, .ref m1, .ref m2, .ref m3, .ref m4, .ref m5, .ref m6, .int mct, .ref m7, .int mfr, .int mcu, .int mth, .ref m8, .ref m9, .ref ma, .ref mb])), (m1, .inl (cL, 1503, .inr (.inl p1))), (m2, .inl (cL, 1503, .inr (.inl p2))), (m3, .inl (cI, 36072, .inl p3)), (m4, .inl (cI, 1503, .inl p4)), (m5, .inl (cL, 1500, .inr (.inl p5))), (m6, .inl (cI, 1500, .inl p6)), (m7, .inl (cI, 1500, .inl p7)), (m8, .inl (cI, 50, .inl p8)), (m9, .inl (cI, 50, .inl p9)), (ma, .inl (cI, 1500, .inl pa)), (mb, .inl (cI, 50, .inl pb))] sz) [(mo, .inr (4, [.int mso, .ref m1, .ref m2, .ref m3, .ref m4, .ref m5, .ref m6, .int u.2.1, .ref m7, .int u.2.2.1, .int mcu, .int u.1, .ref m8, .ref m9, .ref ma, .ref mb])), (m1, .inl (cL, 1503, .inr (.inl p1))), (m2, .inl (cL, 1503, .inr (.inl p2))), (m3, .inl (cI, 36072, .inl p3)), (m4, .inl (cI, 1503, .inl p4)), (m5, .inl (cL, 1500, .inr (.inl p5))), (m6, .inl (cI, 1500, .inl u.2.2.2.1)), (m7, .inl (cI, 1500, .inl u.2.2.2.2)), (m8, .inl (cI, 50, .inl p8)), (m9, .inl (cI, 50, .inl p9)), (ma, .inl (cI, 1500, .inl pa)), (mb, .inl (cI, 50, .inl pb))]) (va_A [(mo, .inr (4, [.int mso, .ref m1, .ref m2, .ref m3, .ref m4, .ref m5, .ref m6, .int mct, .ref m7, .int mfr, .int mcu, .int mth, .ref m8, .ref m9, .ref ma, .ref mb])), (m1, .inl (cL, 1503, .inr (.inl p1))), (m2, .inl (cL, 1503, .inr (.inl p2))), (m3, .inl (cI, 36072, .inl p3)), (m4, .inl (cI, 1503, .inl p4)), (m5, .inl (cL, 1500, .inr (.inl p5))), (m6, .inl (cI, 1500, .inl p6)), (m7, .inl (cI, 1500, .inl p7)), (m8, .inl (cI, 50, .inl p8)), (m9, .inl (cI, 50, .inl p9)), (ma, .inl (cI, 1500, .inl pa)), (mb, .inl (cI, 50, .inl pb))] sz)) 0 0 (va_A [(mo, .inr (4, [.int mso, .ref m1, .ref m2, .ref m3, .ref m4, .ref m5, .ref m6, .int mct, .ref m7, .int mfr, .int mcu, .int mth, .ref m8, .ref m9, .ref ma, .ref mb])), (m1, .inl (cL, 1503, .inr (.inl p1))), (m2, .inl (cL, 1503, .inr (.inl p2))), (m3, .inl (cI, 36072, .inl p3)), (m4, .inl (cI, 1503, .inl p4)), (m5, .inl (cL, 1500, .inr (.inl p5))), (m6, .inl (cI, 1500, .inl p6)), (m7, .inl (cI, 1500, .inl p7)), (m8, .inl (cI, 50, .inl p8)), (m9, .inl (cI, 50, .inl p9)), (ma, .inl (cI, 1500, .inl pa)), (mb, .inl (cI, 50, .inl pb))] sz) := by
  refine xr_met (by decide) ?_
  intro p e s m args below meth c hx hb hr hts hown hlocks hname hml hv
  obtain ⟨rfl, hsz, hP, hK, hD0⟩ := hv
  subst hsz
  have hD := hD0.self (sz := s.heap.size)
  generalize hAe : va_A [(mo, .inr (4, [.int mso, .ref m1, .ref m2, .ref m3, .ref m4, .ref m5, .ref m6, .int mct, .ref m7, .int mfr, .int mcu, .int mth, .ref m8, .ref m9, .ref ma, .ref mb])), (m1, .inl (cL, 1503, .inr (.inl p1))), (m2, .inl (cL, 1503, .inr (.inl p2))), (m3, .inl (cI, 36072, .inl p3)), (m4, .inl (cI, 1503, .inl p4)), (m5, .inl (cL, 1500, .inr (.inl p5))), (m6, .inl (cI, 1500, .inl p6)), (m7, .inl (cI, 1500, .inl p7)), (m8, .inl (cI, 50, .inl p8)), (m9, .inl (cI, 50, .inl p9)), (ma, .inl (cI, 1500, .inl pa)), (mb, .inl (cI, 50, .inl pb))] s.heap.size = A at hD ⊢
  have hA : ∀ q : Nat, s.heap.size ≤ q → A q := fun q h => by rw [← hAe]; exact Or.inr h
  have hS : va_S A s.heap s.heap [] := va_S.rf
  have hD : va_D A [(mo, .inr (4, [.int mso, .ref m1, .ref m2, .ref m3, .ref m4, .ref m5, .ref m6, .int mct, .ref m7, .int mfr, .int mcu, .int mth, .ref m8, .ref m9, .ref ma, .ref mb])), (m1, .inl (cL, 1503, .inr (.inl p1))), (m2, .inl (cL, 1503, .inr (.inl p2))), (m3, .inl (cI, 36072, .inl p3)), (m4, .inl (cI, 1503, .inl p4)), (m5, .inl (cL, 1500, .inr (.inl p5))), (m6, .inl (cI, 1500, .inl p6)), (m7, .inl (cI, 1500, .inl p7)), (m8, .inl (cI, 50, .inl p8)), (m9, .inl (cI, 50, .inl p9)), (ma, .inl (cI, 1500, .inl pa)), (mb, .inl (cI, 50, .inl pb))] := hD
  have hown : s.vm.findClass "BranchStoreModel" = some m.cls := hown
  have hP : va_P D classes [(mo, .inr (4, [.int mso, .ref m1, .ref m2, .ref m3, .ref m4, .ref m5, .ref m6, .int mct, .ref m7, .int mfr, .int mcu, .int mth, .ref m8, .ref m9, .ref ma, .ref mb])), (m1, .inl (cL, 1503, .inr (.inl p1))), (m2, .inl (cL, 1503, .inr (.inl p2))), (m3, .inl (cI, 36072, .inl p3)), (m4, .inl (cI, 1503, .inl p4)), (m5, .inl (cL, 1500, .inr (.inl p5))), (m6, .inl (cI, 1500, .inl p6)), (m7, .inl (cI, 1500, .inl p7)), (m8, .inl (cI, 50, .inl p8)), (m9, .inl (cI, 50, .inl p9)), (ma, .inl (cI, 1500, .inl pa)), (mb, .inl (cI, 50, .inl pb))] s.heap := hP
  have hl := lv_entry ([.ref mo]) (n := 3) (Nat.le_of_ble_eq_true rfl)
  rw [lg_entry_eq]
  generalize (lg_sl ([.ref mo]) ++ List.replicate (3 - (lg_sl ([.ref mo])).length) Slot.unset).toArray = ls at hl ⊢
  have hl : lv_has ls 3 [(0, .ref mo)] := hl
  obtain ⟨Q, hQ⟩ : ∃ Q, Q = MQ below (va_Qi (fun (r : Int32) (u : (Int32) × (Int32) × (Int32) × (Nat → Int32) × (Nat → Int32)) => u.1.toInt = 0 ∧ r.toInt = (n : Int) ∧ u.2.1.toInt = 0 ∧ u.2.2.1.toInt = 1500 ∧ MI 0 u.2.2.2.1 u.2.2.2.2) (fun (u : (Int32) × (Int32) × (Int32) × (Nat → Int32) × (Nat → Int32)) (t : State) => va_P D classes [(mo, .inr (4, [.int mso, .ref m1, .ref m2, .ref m3, .ref m4, .ref m5, .ref m6, .int u.2.1, .ref m7, .int u.2.2.1, .int mcu, .int u.1, .ref m8, .ref m9, .ref ma, .ref mb])), (m1, .inl (cL, 1503, .inr (.inl p1))), (m2, .inl (cL, 1503, .inr (.inl p2))), (m3, .inl (cI, 36072, .inl p3)), (m4, .inl (cI, 1503, .inl p4)), (m5, .inl (cL, 1500, .inr (.inl p5))), (m6, .inl (cI, 1500, .inl u.2.2.2.1)), (m7, .inl (cI, 1500, .inl u.2.2.2.2)), (m8, .inl (cI, 50, .inl p8)), (m9, .inl (cI, 50, .inl p9)), (ma, .inl (cI, 1500, .inl pa)), (mb, .inl (cI, 50, .inl pb))] t.heap ∧ va_K D classes (tyz cL cI) t ∧ va_D (A) [(mo, .inr (4, [.int mso, .ref m1, .ref m2, .ref m3, .ref m4, .ref m5, .ref m6, .int u.2.1, .ref m7, .int u.2.2.1, .int mcu, .int u.1, .ref m8, .ref m9, .ref ma, .ref mb])), (m1, .inl (cL, 1503, .inr (.inl p1))), (m2, .inl (cL, 1503, .inr (.inl p2))), (m3, .inl (cI, 36072, .inl p3)), (m4, .inl (cI, 1503, .inl p4)), (m5, .inl (cL, 1500, .inr (.inl p5))), (m6, .inl (cI, 1500, .inl u.2.2.2.1)), (m7, .inl (cI, 1500, .inl u.2.2.2.2)), (m8, .inl (cI, 50, .inl p8)), (m9, .inl (cI, 50, .inl p9)), (ma, .inl (cI, 1500, .inl pa)), (mb, .inl (cI, 50, .inl pb))]) (A)) ([.ref mo] : List Value).toArray s 0 0 A := ⟨_, rfl⟩
  rw [← hQ]
  refine lv_aload_n hx hb d_Mo_clear_0 rfl (lv_at hl 0 rfl) ?_
  refine lv_iconst (v := 0) hx hb d_Mo_clear_1 (by decide) ?_
  refine lv_topi (fun v1 e1 => ?_)
  have t1 : v1.toInt = 0 := by rw [e1]; rfl
  refine va_put (D := D) (ci := 4) (v := .int v1) (ty := .int) (C := R_Mo) (T := F_Mo) (N := 16) hx hb hts in_Mo t_Mo t_Mo_ok n_Mo hown hK hP hD hS 0 rfl rfl 11 (by decide) (hts _ tw_614) (fun _ h9 => h9) rfl (by decide +kernel) rfl rfl (Nat.le_of_ble_eq_true rfl) d_Mo_clear_2 (fun H locs hP hD hS => ?_)
  have hP : va_P D classes [(mo, .inr (4, [.int mso, .ref m1, .ref m2, .ref m3, .ref m4, .ref m5, .ref m6, .int mct, .ref m7, .int mfr, .int mcu, .int v1, .ref m8, .ref m9, .ref ma, .ref mb])), (m1, .inl (cL, 1503, .inr (.inl p1))), (m2, .inl (cL, 1503, .inr (.inl p2))), (m3, .inl (cI, 36072, .inl p3)), (m4, .inl (cI, 1503, .inl p4)), (m5, .inl (cL, 1500, .inr (.inl p5))), (m6, .inl (cI, 1500, .inl p6)), (m7, .inl (cI, 1500, .inl p7)), (m8, .inl (cI, 50, .inl p8)), (m9, .inl (cI, 50, .inl p9)), (ma, .inl (cI, 1500, .inl pa)), (mb, .inl (cI, 50, .inl pb))] H := hP
  have hD : va_D A [(mo, .inr (4, [.int mso, .ref m1, .ref m2, .ref m3, .ref m4, .ref m5, .ref m6, .int mct, .ref m7, .int mfr, .int mcu, .int v1, .ref m8, .ref m9, .ref ma, .ref mb])), (m1, .inl (cL, 1503, .inr (.inl p1))), (m2, .inl (cL, 1503, .inr (.inl p2))), (m3, .inl (cI, 36072, .inl p3)), (m4, .inl (cI, 1503, .inl p4)), (m5, .inl (cL, 1500, .inr (.inl p5))), (m6, .inl (cI, 1500, .inl p6)), (m7, .inl (cI, 1500, .inl p7)), (m8, .inl (cI, 50, .inl p8)), (m9, .inl (cI, 50, .inl p9)), (ma, .inl (cI, 1500, .inl pa)), (mb, .inl (cI, 50, .inl pb))] := hD
  refine lv_aload_n hx hb d_Mo_clear_5 rfl (lv_at hl 0 rfl) ?_
  refine va_get (D := D) (ci := 4) (v := .int mct) (C := R_Mo) (T := F_Mo) (N := 16) hx hb hts in_Mo hown hK hP 0 rfl rfl 7 (by decide) (hts _ tw_610) (fun _ h9 => h9) rfl d_Mo_clear_6 ?_
  refine lv_istore_n (lv' := [(1, .int mct), (0, .ref mo)]) hx hb d_Mo_clear_9 rfl hl (by decide) rfl (fun ls hl => ?_)
  refine lv_iconst (v := 0) hx hb d_Mo_clear_10 (by decide) ?_
  refine lv_topi (fun v10 e10 => ?_)
  have t10 : v10.toInt = 0 := by rw [e10]; rfl
  refine lv_istore_n (lv' := [(2, .int v10), (1, .int mct), (0, .ref mo)]) hx hb d_Mo_clear_11 rfl hl (by decide) rfl (fun ls hl => ?_)
  have lp12 : ∀ (fuel12 : Nat) (kk : Int32) (mctz : Int32) (mfrz : Int32) (f6z : Nat → Int32) (f7z : Nat → Int32) (H : Heap) (locs : List Loc) (ls : Array Slot), lv_has ls 3 [(2, .int kk), (1, .int mct), (0, .ref mo)] → va_P D classes [(mo, .inr (4, [.int mso, .ref m1, .ref m2, .ref m3, .ref m4, .ref m5, .ref m6, .int mctz, .ref m7, .int mfrz, .int mcu, .int v1, .ref m8, .ref m9, .ref ma, .ref mb])), (m1, .inl (cL, 1503, .inr (.inl p1))), (m2, .inl (cL, 1503, .inr (.inl p2))), (m3, .inl (cI, 36072, .inl p3)), (m4, .inl (cI, 1503, .inl p4)), (m5, .inl (cL, 1500, .inr (.inl p5))), (m6, .inl (cI, 1500, .inl f6z)), (m7, .inl (cI, 1500, .inl f7z)), (m8, .inl (cI, 50, .inl p8)), (m9, .inl (cI, 50, .inl p9)), (ma, .inl (cI, 1500, .inl pa)), (mb, .inl (cI, 50, .inl pb))] H → va_D A [(mo, .inr (4, [.int mso, .ref m1, .ref m2, .ref m3, .ref m4, .ref m5, .ref m6, .int mctz, .ref m7, .int mfrz, .int mcu, .int v1, .ref m8, .ref m9, .ref ma, .ref mb])), (m1, .inl (cL, 1503, .inr (.inl p1))), (m2, .inl (cL, 1503, .inr (.inl p2))), (m3, .inl (cI, 36072, .inl p3)), (m4, .inl (cI, 1503, .inl p4)), (m5, .inl (cL, 1500, .inr (.inl p5))), (m6, .inl (cI, 1500, .inl f6z)), (m7, .inl (cI, 1500, .inl f7z)), (m8, .inl (cI, 50, .inl p8)), (m9, .inl (cI, 50, .inl p9)), (ma, .inl (cI, 1500, .inl pa)), (mb, .inl (cI, 50, .inl pb))] → va_S A s.heap H locs → (0 ≤ kk.toInt) → (kk.toInt ≤ (n : Int)) → (mctz.toInt = (n : Int) - kk.toInt) → (mfrz.toInt = 1500 - ((n : Int) - kk.toInt)) → (MI (n - kk.toInt.toNat) f6z f7z) → n - kk.toInt.toNat < fuel12 → W p l e ({ frames := 2, cells := 0, slots := 0, locals := 62 } : Room) s m ([.ref mo] : List Value).toArray below meth c H locs 0 0 Q (F0 m 12 ls []) := by
    intro fuel12
    induction fuel12 with
    | zero => intro kk mctz mfrz f6z f7z H locs ls hl hP hD hS h1 h2 h4 h5 h6 hm12; exact absurd hm12 (Nat.not_lt_zero _)
    | succ fuel12 ih12 =>
      intro kk mctz mfrz f6z f7z H locs ls hl hP hD hS h1 h2 h4 h5 h6 hm12
      refine lv_iload_n hx hb d_Mo_clear_12 rfl (lv_at hl 0 rfl) ?_
      refine lv_iload_n hx hb d_Mo_clear_13 rfl (lv_at hl 1 rfl) ?_
      refine lv_icmp_ge hx hb d_Mo_clear_14 (tgt := 33) (by decide) (fun g14 => ?_) (fun g14 => ?_)
      · have g14 := ic_le.mp g14
        refine lv_iload_n hx hb d_Mo_clear_33 rfl (lv_at hl 1 rfl) ?_
        have hpost : v1.toInt = 0 ∧ mct.toInt = (n : Int) ∧ mctz.toInt = 0 ∧ mfrz.toInt = 1500 ∧ MI 0 f6z f7z := by
          rw [show n - kk.toInt.toNat = 0 by omega] at h6
          exact ⟨t1, hct, by omega, by omega, h6⟩
        have hP9 := hP.sub (ws' := [(mo, .inr (4, [.int mso, .ref m1, .ref m2, .ref m3, .ref m4, .ref m5, .ref m6, .int mctz, .ref m7, .int mfrz, .int mcu, .int v1, .ref m8, .ref m9, .ref ma, .ref mb])), (m1, .inl (cL, 1503, .inr (.inl p1))), (m2, .inl (cL, 1503, .inr (.inl p2))), (m3, .inl (cI, 36072, .inl p3)), (m4, .inl (cI, 1503, .inl p4)), (m5, .inl (cL, 1500, .inr (.inl p5))), (m6, .inl (cI, 1500, .inl f6z)), (m7, .inl (cI, 1500, .inl f7z)), (m8, .inl (cI, 50, .inl p8)), (m9, .inl (cI, 50, .inl p9)), (ma, .inl (cI, 1500, .inl pa)), (mb, .inl (cI, 50, .inl pb))]) [0, 1, 2, 3, 4, 5, 6, 7, 8, 9, 10, 11] rfl
        have hD9 := hD.sub (ws' := [(mo, .inr (4, [.int mso, .ref m1, .ref m2, .ref m3, .ref m4, .ref m5, .ref m6, .int mctz, .ref m7, .int mfrz, .int mcu, .int v1, .ref m8, .ref m9, .ref ma, .ref mb])), (m1, .inl (cL, 1503, .inr (.inl p1))), (m2, .inl (cL, 1503, .inr (.inl p2))), (m3, .inl (cI, 36072, .inl p3)), (m4, .inl (cI, 1503, .inl p4)), (m5, .inl (cL, 1500, .inr (.inl p5))), (m6, .inl (cI, 1500, .inl f6z)), (m7, .inl (cI, 1500, .inl f7z)), (m8, .inl (cI, 50, .inl p8)), (m9, .inl (cI, 50, .inl p9)), (ma, .inl (cI, 1500, .inl pa)), (mb, .inl (cI, 50, .inl pb))]) [0, 1, 2, 3, 4, 5, 6, 7, 8, 9, 10, 11] (by decide) rfl
        rw [hQ]
        exact W.iret (v := mct) hx hb hr (fun t ht hW => ⟨⟨mct, (v1, mctz, mfrz, f6z, f7z), rfl, hpost, by rw [ht]; exact hP9, va_K.moved hW.alike hK, hD9⟩, hS.F ht⟩) hS.2.2 d_Mo_clear_34
      · have g14 := ic_nle.mp g14
        obtain ⟨n9, hn9⟩ : ∃ z, z = n - kk.toInt.toNat := ⟨_, rfl⟩
        rw [← hn9] at h6
        refine lv_aload_n hx hb d_Mo_clear_17 rfl (lv_at hl 2 rfl) ?_
        refine lv_aload_n hx hb d_Mo_clear_18 rfl (lv_at hl 2 rfl) ?_
        refine va_get (D := D) (ci := 4) (v := .int mctz) (C := R_Mo) (T := F_Mo) (N := 16) hx hb hts in_Mo hown hK hP 0 rfl rfl 7 (by decide) (hts _ tw_610) (fun _ h9 => h9) rfl d_Mo_clear_19 ?_
        refine lv_iconst (v := 1) hx hb d_Mo_clear_22 (by decide) ?_
        refine lv_topi (fun v22 e22 => ?_)
        have t22 : v22.toInt = 1 := by rw [e22]; rfl
        refine lv_isub hx hb d_Mo_clear_23 ?_
        refine lv_topi (fun v23 e23 => ?_)
        have t23 := ia_sub e23 ⟨by omega, by omega⟩
        have hPc := hP.sub (ws' := [(mo, .inr (4, [.int mso, .ref m1, .ref m2, .ref m3, .ref m4, .ref m5, .ref m6, .int mctz, .ref m7, .int mfrz, .int mcu, .int v1, .ref m8, .ref m9, .ref ma, .ref mb])), (m1, .inl (cL, 1503, .inr (.inl p1))), (m2, .inl (cL, 1503, .inr (.inl p2))), (m3, .inl (cI, 36072, .inl p3)), (m4, .inl (cI, 1503, .inl p4)), (m5, .inl (cL, 1500, .inr (.inl p5))), (m6, .inl (cI, 1500, .inl f6z)), (m7, .inl (cI, 1500, .inl f7z)), (m8, .inl (cI, 50, .inl p8)), (m9, .inl (cI, 50, .inl p9)), (ma, .inl (cI, 1500, .inl pa)), (mb, .inl (cI, 50, .inl pb))]) [0, 1, 2, 3, 4, 5, 6, 7, 8, 9, 10, 11] rfl
        have hDc := hD.sub (ws' := [(mo, .inr (4, [.int mso, .ref m1, .ref m2, .ref m3, .ref m4, .ref m5, .ref m6, .int mctz, .ref m7, .int mfrz, .int mcu, .int v1, .ref m8, .ref m9, .ref ma, .ref mb])), (m1, .inl (cL, 1503, .inr (.inl p1))), (m2, .inl (cL, 1503, .inr (.inl p2))), (m3, .inl (cI, 36072, .inl p3)), (m4, .inl (cI, 1503, .inl p4)), (m5, .inl (cL, 1500, .inr (.inl p5))), (m6, .inl (cI, 1500, .inl f6z)), (m7, .inl (cI, 1500, .inl f7z)), (m8, .inl (cI, 50, .inl p8)), (m9, .inl (cI, 50, .inl p9)), (ma, .inl (cI, 1500, .inl pa)), (mb, .inl (cI, 50, .inl pb))]) [0, 1, 2, 3, 4, 5, 6, 7, 8, 9, 10, 11] (by decide) rfl
        have hFc := va_free (wc := [(mo, .inr (4, [.int mso, .ref m1, .ref m2, .ref m3, .ref m4, .ref m5, .ref m6, .int mctz, .ref m7, .int mfrz, .int mcu, .int v1, .ref m8, .ref m9, .ref ma, .ref mb])), (m1, .inl (cL, 1503, .inr (.inl p1))), (m2, .inl (cL, 1503, .inr (.inl p2))), (m3, .inl (cI, 36072, .inl p3)), (m4, .inl (cI, 1503, .inl p4)), (m5, .inl (cL, 1500, .inr (.inl p5))), (m6, .inl (cI, 1500, .inl f6z)), (m7, .inl (cI, 1500, .inl f7z)), (m8, .inl (cI, 50, .inl p8)), (m9, .inl (cI, 50, .inl p9)), (ma, .inl (cI, 1500, .inl pa)), (mb, .inl (cI, 50, .inl pb))]) hD hS hA [0, 1, 2, 3, 4, 5, 6, 7, 8, 9, 10, 11] rfl
        refine va_callv (xr_mv (As := [.int v23]) (rest := []) ⟨hx, hb, hml, hown, hts⟩ (c_Mo_delete l D cL cI mo m1 m2 m3 m4 m5 m6 m7 m8 m9 ma mb mso mctz mfrz mcu v1 p1 p2 p5 p3 p4 f6z f7z p8 p9 pa pb n9 v23 H.size (by first | omega | exact hct) (by first | omega | exact hn) (by first | omega | exact hfr) (h6) (by first | omega | exact hpl)) (xr_cv 1 hts tw_727 tw_724 tw_726 tp_17 tw_7 rfl rfl (by decide) ⟨Nat.le_of_ble_eq_true rfl, Nat.le_of_ble_eq_true rfl⟩) hK hPc (hDc.weaken (fun _ _ _ _ => trivial)) (va_recv hK hP rfl (q0 := 0) (ci := 4) rfl) rfl hl.1 rfl (Nat.le_of_ble_eq_true rfl) d_Mo_clear_24 ⟨Nat.le_of_ble_eq_true rfl, Nat.le_of_ble_eq_true rfl⟩) hS (fun q _ h => hFc q h) hFc (fun u24 tt24 H1 locs ht24 hvm24 e24 hB24 hz24 hk24 hS => ?_)
        obtain ⟨mct2_24, mfr2_24, p6b_24, p7b_24⟩ := u24
        have e24 : mct2_24.toInt = (n9 : Int) - 1 ∧ mfr2_24.toInt = 1500 - ((n9 : Int) - 1) ∧ MI (n9 - 1) p6b_24 p7b_24 ∧ (∀ k, k < n9 - 1 → p6b_24 k = if k < v23.toInt.toNat then f6z k else f6z (k + 1)) := e24
        obtain ⟨hP1, hK1, hD1⟩ := hB24
        rw [ht24] at hP1
        obtain ⟨hP, hD⟩ := va_join (wr := []) (w1 := [(mo, .inr (4, [.int mso, .ref m1, .ref m2, .ref m3, .ref m4, .ref m5, .ref m6, .int mct2_24, .ref m7, .int mfr2_24, .int mcu, .int v1, .ref m8, .ref m9, .ref ma, .ref mb])), (m1, .inl (cL, 1503, .inr (.inl p1))), (m2, .inl (cL, 1503, .inr (.inl p2))), (m3, .inl (cI, 36072, .inl p3)), (m4, .inl (cI, 1503, .inl p4)), (m5, .inl (cL, 1500, .inr (.inl p5))), (m6, .inl (cI, 1500, .inl p6b_24)), (m7, .inl (cI, 1500, .inl p7b_24)), (m8, .inl (cI, 50, .inl p8)), (m9, .inl (cI, 50, .inl p9)), (ma, .inl (cI, 1500, .inl pa)), (mb, .inl (cI, 50, .inl pb))]) hP hD [0, 1, 2, 3, 4, 5, 6, 7, 8, 9, 10, 11] [] rfl rfl (by decide) (by decide) hk24 hFc hP1 hD1
        clear hP1 hD1 hPc hDc hFc
        generalize H1 = H at hP hS ⊢
        have hP : va_P D classes [(mo, .inr (4, [.int mso, .ref m1, .ref m2, .ref m3, .ref m4, .ref m5, .ref m6, .int mct2_24, .ref m7, .int mfr2_24, .int mcu, .int v1, .ref m8, .ref m9, .ref ma, .ref mb])), (m1, .inl (cL, 1503, .inr (.inl p1))), (m2, .inl (cL, 1503, .inr (.inl p2))), (m3, .inl (cI, 36072, .inl p3)), (m4, .inl (cI, 1503, .inl p4)), (m5, .inl (cL, 1500, .inr (.inl p5))), (m6, .inl (cI, 1500, .inl p6b_24)), (m7, .inl (cI, 1500, .inl p7b_24)), (m8, .inl (cI, 50, .inl p8)), (m9, .inl (cI, 50, .inl p9)), (ma, .inl (cI, 1500, .inl pa)), (mb, .inl (cI, 50, .inl pb))] H := hP
        have hD : va_D A [(mo, .inr (4, [.int mso, .ref m1, .ref m2, .ref m3, .ref m4, .ref m5, .ref m6, .int mct2_24, .ref m7, .int mfr2_24, .int mcu, .int v1, .ref m8, .ref m9, .ref ma, .ref mb])), (m1, .inl (cL, 1503, .inr (.inl p1))), (m2, .inl (cL, 1503, .inr (.inl p2))), (m3, .inl (cI, 36072, .inl p3)), (m4, .inl (cI, 1503, .inl p4)), (m5, .inl (cL, 1500, .inr (.inl p5))), (m6, .inl (cI, 1500, .inl p6b_24)), (m7, .inl (cI, 1500, .inl p7b_24)), (m8, .inl (cI, 50, .inl p8)), (m9, .inl (cI, 50, .inl p9)), (ma, .inl (cI, 1500, .inl pa)), (mb, .inl (cI, 50, .inl pb))] := hD
        obtain ⟨v27, e27⟩ : ∃ z, z = kk + Int32.ofInt 1 := ⟨_, rfl⟩
        have t27 := ia_inc 1 e27 (by decide) ⟨by omega, by omega⟩
        refine lv_iinc (k := 0) (lv' := [(2, .int v27), (1, .int mct), (0, .ref mo)]) hx hb d_Mo_clear_27 hl rfl e27.symm (by decide) rfl (fun ls hl => ?_)
        refine lv_goto hx hb d_Mo_clear_30 (tgt := 12) (by decide) ?_
        exact ih12 v27 mct2_24 mfr2_24 p6b_24 p7b_24 H locs ls hl hP hD hS (by omega) (by omega) (by omega) (by omega) (by rw [show n - v27.toInt.toNat = n9 - 1 by omega]; exact e24.2.2.1) (by omega)
  exact lp12 _ v10 mct mfr p6 p7 H locs ls hl hP hD hS (by omega) (by omega) (by omega) (by omega) (by rw [show n - v10.toInt.toNat = n by omega]; exact hmi) (Nat.lt_succ_self _)
set_option maxRecDepth 100000 in
set_option maxHeartbeats 4000000 in
theorem c_Mo_isLonger (l : Launch) (D : va_G) (cL cI : ClassId) (mo m1 m2 m3 m4 m5 m6 m7 m8 m9 ma mb : Nat) (mso mct mfr mcu mth : Int32) (p1 p2 p5 : Nat → Int64) (p3 p4 p6 p7 p8 p9 pa pb : Nat → Int32) (w : Nat) (KW : Nat → Nat → Int64) (ia : Int32) (hws : (mso.toInt = 0 ∧ w = 1) ∨ (mso.toInt = 1 ∧ w = 2) ∨ (mso.toInt = 2 ∧ w = 7)) (hkr : ∀ x, x < 1503 → KR mso.toInt p1 p2 p3 p4 x (KW x)) (hs2 : mso.toInt = 2) (hia : 0 ≤ ia.toInt ∧ ia.toInt < 1503) : Met l y_Mo_isLonger (Cond.code y_Mo_isLonger prog_6_method_32_code 3 (some .boolean) :: TW) ({ frames := 1, cells := 0, slots := 0, locals := 40 } : Room) (PR D cL cI [.ref mo, .int ia] [(mo, .inr (4, [.int mso, .ref m1, .ref m2, .ref m3, .ref m4, .ref m5, .ref m6, .int mct, .ref m7, .int mfr, .int mcu, .int mth, .ref m8, .ref m9, .ref ma, .ref mb])), (m1, .inl (cL, 1503, .inr (.inl p1))), (m2, .inl (cL, 1503, .inr (.inl p2))), (m3, .inl (cI, 36072, .inl p3)), (m4, .inl (cI, 1503, .inl p4)), (m5, .inl (cL, 1500, .inr (.inl p5))), (m6, .inl (cI, 1500, .inl p6)), (m7, .inl (cI, 1500, .inl p7)), (m8, .inl (cI, 50, .inl p8)), (m9, .inl (cI, 50, .inl p9)), (ma, .inl (cI, 1500, .inl pa)), (mb, .inl (cI, 50, .inl pb))]) (vp_Si (fun r => (r = 0 ∨ r = 1) ∧ (r = 1 ↔ rw_n (mk_let p3 p4 1500) ≤ sh_w w (KW ia.toInt.toNat) (KW 1500)))) 0 0 (fun _ => False) := by
  refine xr_met (by decide) ?_
  intro p e s m args below meth c hx hb hr hts hown hlocks hname hml hv
  obtain ⟨rfl, hP, hK⟩ := hv
  have hown : s.vm.findClass "BranchStoreModel" = some m.cls := hown
  have hP : va_P D classes [(mo, .inr (4, [.int mso, .ref m1, .ref m2, .ref m3, .ref m4, .ref m5, .ref m6, .int mct, .ref m7, .int mfr, .int mcu, .int mth, .ref m8, .ref m9, .ref ma, .ref mb])), (m1, .inl (cL, 1503, .inr (.inl p1))), (m2, .inl (cL, 1503, .inr (.inl p2))), (m3, .inl (cI, 36072, .inl p3)), (m4, .inl (cI, 1503, .inl p4)), (m5, .inl (cL, 1500, .inr (.inl p5))), (m6, .inl (cI, 1500, .inl p6)), (m7, .inl (cI, 1500, .inl p7)), (m8, .inl (cI, 50, .inl p8)), (m9, .inl (cI, 50, .inl p9)), (ma, .inl (cI, 1500, .inl pa)), (mb, .inl (cI, 50, .inl pb))] s.heap := hP
  have hl := lv_entry ([.ref mo, .int ia]) (n := 3) (Nat.le_of_ble_eq_true rfl)
  rw [lg_entry_eq]
  generalize (lg_sl ([.ref mo, .int ia]) ++ List.replicate (3 - (lg_sl ([.ref mo, .int ia])).length) Slot.unset).toArray = ls at hl ⊢
  have hl : lv_has ls 3 [(0, .ref mo), (1, .int ia)] := hl
  obtain ⟨Q, hQ⟩ : ∃ Q, Q = MQ below (vp_Si (fun r => (r = 0 ∨ r = 1) ∧ (r = 1 ↔ rw_n (mk_let p3 p4 1500) ≤ sh_w w (KW ia.toInt.toNat) (KW 1500)))) ([.ref mo, .int ia] : List Value).toArray s 0 0 (fun _ => False) := ⟨_, rfl⟩
  rw [← hQ]
  have hrg_ia := ia_rng ia
  have hw7 : w = 7 := by omega
  obtain ⟨a1, a2, a3⟩ : (∀ d, d < 56 → by_w (KW ia.toInt.toNat) d = rw_b (mk_let p3 p4 ia.toInt.toNat) d) ∧ 0 ≤ (p4 ia.toInt.toNat).toInt ∧ (p4 ia.toInt.toNat).toInt ≤ 24 := by
        rcases hkr ia.toInt.toNat (by omega) with h | h | h <;> first | (exfalso; omega) | exact ⟨h.2.1, h.2.2.1, h.2.2.2.1⟩
  obtain ⟨b1, b2, b3⟩ : (∀ d, d < 56 → by_w (KW 1500) d = rw_b (mk_let p3 p4 1500) d) ∧ 0 ≤ (p4 1500).toInt ∧ (p4 1500).toInt ≤ 24 := by
        rcases hkr 1500 (by omega) with h | h | h <;> first | (exfalso; omega) | exact ⟨h.2.1, h.2.2.1, h.2.2.2.1⟩
  have b4 : ∀ k, k < (p4 1500).toInt.toNat → 0 ≤ (p3 (24 * 1500 + k)).toInt ∧ (p3 (24 * 1500 + k)).toInt ≤ 255 := by
        rcases hkr 1500 (by omega) with h | h | h <;> first | (exfalso; omega) | exact h.2.2.2.2
  have a4 : ∀ k, k < (p4 ia.toInt.toNat).toInt.toNat → 0 ≤ (p3 (24 * ia.toInt.toNat + k)).toInt ∧ (p3 (24 * ia.toInt.toNat + k)).toInt ≤ 255 := by
        rcases hkr ia.toInt.toNat (by omega) with h | h | h <;> first | (exfalso; omega) | exact h.2.2.2.2
  have hps := pre_sh (L := mk_let p3 p4 1500) (M := mk_let p3 p4 ia.toInt.toNat) (by unfold mk_let; rw [ml_len]; omega) b1 a1
  unfold mk_let at hps
  rw [ml_pre] at hps
  have hpr : (rw_n (mk_let p3 p4 1500) ≤ sh_w w (KW ia.toInt.toNat) (KW 1500)) ↔ (p4 1500).toInt.toNat ≤ (p4 ia.toInt.toNat).toInt.toNat ∧ ∀ k, k < (p4 1500).toInt.toNat → (p3 (24 * 1500 + k)).toInt.toNat = (p3 (24 * ia.toInt.toNat + k)).toInt.toNat := by rw [hw7]; exact hps.symm
  refine lv_aload_n hx hb d_Mo_isLonger_0 rfl (lv_at hl 0 rfl) ?_
  refine va_get (D := D) (ci := 4) (v := .ref m4) (C := R_Mo) (T := F_Mo) (N := 16) hx hb hts in_Mo hown hK hP 0 rfl rfl 4 (by decide) (hts _ tw_607) (fun _ h9 => h9) rfl d_Mo_isLonger_1 ?_
  refine lv_iload_n hx hb d_Mo_isLonger_4 rfl (lv_at hl 1 rfl) ?_
  refine va_iald hx hb hK hP 4 1 rfl rfl (ia_in ⟨by omega, by omega⟩) d_Mo_isLonger_5 ?_
  refine lv_topi (fun v5 e5 => ?_)
  have e5 : v5 = p4 ia.toInt.toNat := e5
  refine lv_aload_n hx hb d_Mo_isLonger_6 rfl (lv_at hl 0 rfl) ?_
  refine va_get (D := D) (ci := 4) (v := .ref m4) (C := R_Mo) (T := F_Mo) (N := 16) hx hb hts in_Mo hown hK hP 0 rfl rfl 4 (by decide) (hts _ tw_607) (fun _ h9 => h9) rfl d_Mo_isLonger_7 ?_
  refine lv_sipush (v := 1500) hx hb d_Mo_isLonger_10 (by decide) ?_
  refine lv_topi (fun v10 e10 => ?_)
  have t10 : v10.toInt = 1500 := by rw [e10]; rfl
  refine va_iald hx hb hK hP 4 1 rfl rfl (ia_in ⟨by omega, by omega⟩) d_Mo_isLonger_13 ?_
  refine lv_topi (fun v13 e13 => ?_)
  have e13 : v13 = p4 v10.toInt.toNat := e13
  rw [show v10.toInt.toNat = 1500 by omega] at e13
  refine lv_icmp_ge hx hb d_Mo_isLonger_14 (tgt := 19) (by decide) (fun g14 => ?_) (fun g14 => ?_)
  · have g14 := ic_le.mp g14
    rw [e5, e13] at g14
    refine lv_iconst (v := 0) hx hb d_Mo_isLonger_19 (by decide) ?_
    refine lv_topi (fun v19 e19 => ?_)
    have t19 : v19.toInt = 0 := by rw [e19]; rfl
    refine lv_istore_n (lv' := [(2, .int v19), (0, .ref mo), (1, .int ia)]) hx hb d_Mo_isLonger_20 rfl hl (by decide) rfl (fun ls hl => ?_)
    have lp21 : ∀ (fuel21 : Nat) (kk : Int32) (ls : Array Slot), lv_has ls 3 [(2, .int kk), (0, .ref mo), (1, .int ia)] → (0 ≤ kk.toInt) → (kk.toInt ≤ (p4 1500).toInt) → (∀ j, j < kk.toInt.toNat → (p3 (24 * 1500 + j)).toInt.toNat = (p3 (24 * ia.toInt.toNat + j)).toInt.toNat) → (p4 1500).toInt.toNat - kk.toInt.toNat < fuel21 → W p l e ({ frames := 1, cells := 0, slots := 0, locals := 40 } : Room) s m ([.ref mo, .int ia] : List Value).toArray below meth c s.heap [] 0 0 Q (F0 m 21 ls []) := by
      intro fuel21
      induction fuel21 with
      | zero => intro kk ls hl h1 h2 h3 hm21; exact absurd hm21 (Nat.not_lt_zero _)
      | succ fuel21 ih21 =>
        intro kk ls hl h1 h2 h3 hm21
        refine lv_iload_n hx hb d_Mo_isLonger_21 rfl (lv_at hl 0 rfl) ?_
        refine lv_aload_n hx hb d_Mo_isLonger_22 rfl (lv_at hl 1 rfl) ?_
        refine va_get (D := D) (ci := 4) (v := .ref m4) (C := R_Mo) (T := F_Mo) (N := 16) hx hb hts in_Mo hown hK hP 0 rfl rfl 4 (by decide) (hts _ tw_607) (fun _ h9 => h9) rfl d_Mo_isLonger_23 ?_
        refine lv_sipush (v := 1500) hx hb d_Mo_isLonger_26 (by decide) ?_
        refine lv_topi (fun v26 e26 => ?_)
        have t26 : v26.toInt = 1500 := by rw [e26]; rfl
        refine va_iald hx hb hK hP 4 1 rfl rfl (ia_in ⟨by omega, by omega⟩) d_Mo_isLonger_29 ?_
        refine lv_topi (fun v29 e29 => ?_)
        have e29 : v29 = p4 v26.toInt.toNat := e29
        rw [show v26.toInt.toNat = 1500 by omega] at e29
        refine lv_icmp_ge hx hb d_Mo_isLonger_30 (tgt := 64) (by decide) (fun g30 => ?_) (fun g30 => ?_)
        · have g30 := ic_le.mp g30
          refine lv_iconst (v := 1) hx hb d_Mo_isLonger_64 (by decide) ?_
          refine lv_topi (fun v64 e64 => ?_)
          have t64 : v64.toInt = 1 := by rw [e64]; rfl
          have hpost : (v64 = 0 ∨ v64 = 1) ∧ (v64 = 1 ↔ rw_n (mk_let p3 p4 1500) ≤ sh_w w (KW ia.toInt.toNat) (KW 1500)) := by
            rw [e29] at g30
            refine ⟨Or.inr e64, ⟨fun _ => hpr.mpr ⟨by omega, fun k hk => h3 k (by omega)⟩, fun _ => e64⟩⟩
          rw [hQ]
          exact xr_retz (v := v64) hx hb hr hlocks (Or.inr e64) (hpost) d_Mo_isLonger_65
        · have g30 := ic_nle.mp g30
          rw [e29] at g30
          have c1 := a4 kk.toInt.toNat (by omega)
          have c2 := b4 kk.toInt.toNat (by omega)
          refine lv_aload_n hx hb d_Mo_isLonger_33 rfl (lv_at hl 1 rfl) ?_
          refine va_get (D := D) (ci := 4) (v := .ref m3) (C := R_Mo) (T := F_Mo) (N := 16) hx hb hts in_Mo hown hK hP 0 rfl rfl 3 (by decide) (hts _ tw_606) (fun _ h9 => h9) rfl d_Mo_isLonger_34 ?_
          refine lv_bipush (v := 24) hx hb d_Mo_isLonger_37 (by decide) ?_
          refine lv_topi (fun v37 e37 => ?_)
          have t37 : v37.toInt = 24 := by rw [e37]; rfl
          refine lv_iload_n hx hb d_Mo_isLonger_39 rfl (lv_at hl 2 rfl) ?_
          refine lv_imul hx hb d_Mo_isLonger_40 ?_
          refine lv_topi (fun v40 e40 => ?_)
          have t40 := ia_mull 24 e40 (by omega) ⟨by omega, by omega⟩
          refine lv_iload_n hx hb d_Mo_isLonger_41 rfl (lv_at hl 0 rfl) ?_
          refine lv_iadd hx hb d_Mo_isLonger_42 ?_
          refine lv_topi (fun v42 e42 => ?_)
          have t42 := ia_add e42 ⟨by omega, by omega⟩
          refine va_iald hx hb hK hP 3 1 rfl rfl (ia_in ⟨by omega, by omega⟩) d_Mo_isLonger_43 ?_
          refine lv_topi (fun v43 e43 => ?_)
          have e43 : v43 = p3 v42.toInt.toNat := e43
          refine lv_aload_n hx hb d_Mo_isLonger_44 rfl (lv_at hl 1 rfl) ?_
          refine va_get (D := D) (ci := 4) (v := .ref m3) (C := R_Mo) (T := F_Mo) (N := 16) hx hb hts in_Mo hown hK hP 0 rfl rfl 3 (by decide) (hts _ tw_606) (fun _ h9 => h9) rfl d_Mo_isLonger_45 ?_
          refine lv_ldc (v := 36000) hx hb hown (hts _ tw_672) d_Mo_isLonger_48 ?_
          refine lv_topi (fun v48 e48 => ?_)
          have t48 : v48.toInt = 36000 := by rw [e48]; rfl
          refine lv_iload_n hx hb d_Mo_isLonger_50 rfl (lv_at hl 0 rfl) ?_
          refine lv_iadd hx hb d_Mo_isLonger_51 ?_
          refine lv_topi (fun v51 e51 => ?_)
          have t51 := ia_add e51 ⟨by omega, by omega⟩
          refine va_iald hx hb hK hP 3 1 rfl rfl (ia_in ⟨by omega, by omega⟩) d_Mo_isLonger_52 ?_
          refine lv_topi (fun v52 e52 => ?_)
          have e52 : v52 = p3 v51.toInt.toNat := e52
          have hi43 : v43 = p3 (24 * ia.toInt.toNat + kk.toInt.toNat) := by rw [e43]; congr 1; omega
          have hi52 : v52 = p3 (24 * 1500 + kk.toInt.toNat) := by rw [e52]; congr 1; omega
          rw [← hi43] at c1
          rw [← hi52] at c2
          refine lv_icmp_eq hx hb d_Mo_isLonger_53 (tgt := 58) (by decide) (fun g53 => ?_) (fun g53 => ?_)
          · have g53 := ic_eq.mp g53
            obtain ⟨v58, e58⟩ : ∃ z, z = kk + Int32.ofInt 1 := ⟨_, rfl⟩
            have t58 := ia_inc 1 e58 (by decide) ⟨by omega, by omega⟩
            refine lv_iinc (k := 0) (lv' := [(2, .int v58), (0, .ref mo), (1, .int ia)]) hx hb d_Mo_isLonger_58 hl rfl e58.symm (by decide) rfl (fun ls hl => ?_)
            refine lv_goto hx hb d_Mo_isLonger_61 (tgt := 21) (by decide) ?_
            exact ih21 v58 ls hl (by omega) (by omega) (fun j hj => by
                  by_cases h5 : j = kk.toInt.toNat
                  · rw [h5, ← hi43, ← hi52]; omega
                  · exact h3 j (by omega)) (by omega)
          · have g53 := ic_ne.mp g53
            refine lv_iconst (v := 0) hx hb d_Mo_isLonger_56 (by decide) ?_
            refine lv_topi (fun v56 e56 => ?_)
            have t56 : v56.toInt = 0 := by rw [e56]; rfl
            have hpost : (v56 = 0 ∨ v56 = 1) ∧ (v56 = 1 ↔ rw_n (mk_let p3 p4 1500) ≤ sh_w w (KW ia.toInt.toNat) (KW 1500)) := by
              refine ⟨Or.inl e56, ⟨fun h5 => absurd (h5.symm.trans e56) (by decide), fun h5 => ?_⟩⟩
              have h6 := (hpr.mp h5).2 kk.toInt.toNat (by omega)
              rw [← hi43, ← hi52] at h6
              omega
            rw [hQ]
            exact xr_retz (v := v56) hx hb hr hlocks (Or.inl e56) (hpost) d_Mo_isLonger_57
    exact lp21 _ v19  ls hl (by omega) (by omega) (fun j hj => by omega) (Nat.lt_succ_self _)
  · have g14 := ic_nle.mp g14
    refine lv_iconst (v := 0) hx hb d_Mo_isLonger_17 (by decide) ?_
    refine lv_topi (fun v17 e17 => ?_)
    have t17 : v17.toInt = 0 := by rw [e17]; rfl
    have hpost : (v17 = 0 ∨ v17 = 1) ∧ (v17 = 1 ↔ rw_n (mk_let p3 p4 1500) ≤ sh_w w (KW ia.toInt.toNat) (KW 1500)) := by
      rw [e5, e13] at g14
      refine ⟨Or.inl e17, ⟨fun h5 => absurd (h5.symm.trans e17) (by decide), fun h5 => ?_⟩⟩
      have h6 := (hpr.mp h5).1
      omega
    rw [hQ]
    exact xr_retz (v := v17) hx hb hr hlocks (Or.inl e17) (hpost) d_Mo_isLonger_18
set_option maxRecDepth 100000 in
set_option maxHeartbeats 4000000 in
theorem c_Mo_begins (l : Launch) (D : va_G) (cL cI : ClassId) (mo m1 m2 m3 m4 m5 m6 m7 m8 m9 ma mb : Nat) (mso mct mfr mcu mth : Int32) (p1 p2 p5 : Nat → Int64) (p3 p4 p6 p7 p8 p9 pa pb : Nat → Int32) (w : Nat) (KW : Nat → Nat → Int64) (n : Nat) (sz : Nat) (hws : (mso.toInt = 0 ∧ w = 1) ∨ (mso.toInt = 1 ∧ w = 2) ∨ (mso.toInt = 2 ∧ w = 7)) (hkr : ∀ x, x < 1503 → KR mso.toInt p1 p2 p3 p4 x (KW x)) (hct : mct.toInt = (n : Int)) (hn : n ≤ 1500) (hor : ∀ k, k < n → 0 ≤ (p6 k).toInt ∧ (p6 k).toInt < 1500) : Met l y_Mo_begins (Cond.code y_Mo_begins prog_6_method_33_code 3 (some .int) :: TW) ({ frames := 2, cells := 0, slots := 0, locals := 62 } : Room) (PM D cL cI [.ref mo] [(mo, .inr (4, [.int mso, .ref m1, .ref m2, .ref m3, .ref m4, .ref m5, .ref m6, .int mct, .ref m7, .int mfr, .int mcu, .int mth, .ref m8, .ref m9, .ref ma, .ref mb])), (m1, .inl (cL, 1503, .inr (.inl p1))), (m2, .inl (cL, 1503, .inr (.inl p2))), (m3, .inl (cI, 36072, .inl p3)), (m4, .inl (cI, 1503, .inl p4)), (m5, .inl (cL, 1500, .inr (.inl p5))), (m6, .inl (cI, 1500, .inl p6)), (m7, .inl (cI, 1500, .inl p7)), (m8, .inl (cI, 50, .inl p8)), (m9, .inl (cI, 50, .inl p9)), (ma, .inl (cI, 1500, .inl pa)), (mb, .inl (cI, 50, .inl pb))] sz) (va_Qi (fun (r : Int32) (u : (Int32)) => (mso.toInt ≠ 2 ∧ u.toInt = 1) ∨ (mso.toInt = 2 ∧ u.toInt = 0 ∧ r.toInt = (cb_num (fun k => decide (rw_n (mk_let p3 p4 1500) ≤ sh_w w ((fun k => KW (p6 k).toInt.toNat) k) (KW 1500))) n : Int))) (fun (u : (Int32)) (t : State) => va_P D classes [(mo, .inr (4, [.int mso, .ref m1, .ref m2, .ref m3, .ref m4, .ref m5, .ref m6, .int mct, .ref m7, .int mfr, .int mcu, .int u, .ref m8, .ref m9, .ref ma, .ref mb])), (m1, .inl (cL, 1503, .inr (.inl p1))), (m2, .inl (cL, 1503, .inr (.inl p2))), (m3, .inl (cI, 36072, .inl p3)), (m4, .inl (cI, 1503, .inl p4)), (m5, .inl (cL, 1500, .inr (.inl p5))), (m6, .inl (cI, 1500, .inl p6)), (m7, .inl (cI, 1500, .inl p7)), (m8, .inl (cI, 50, .inl p8)), (m9, .inl (cI, 50, .inl p9)), (ma, .inl (cI, 1500, .inl pa)), (mb, .inl (cI, 50, .inl pb))] t.heap ∧ va_K D classes (tyz cL cI) t ∧ va_D (va_A [(mo, .inr (4, [.int mso, .ref m1, .ref m2, .ref m3, .ref m4, .ref m5, .ref m6, .int mct, .ref m7, .int mfr, .int mcu, .int mth, .ref m8, .ref m9, .ref ma, .ref mb])), (m1, .inl (cL, 1503, .inr (.inl p1))), (m2, .inl (cL, 1503, .inr (.inl p2))), (m3, .inl (cI, 36072, .inl p3)), (m4, .inl (cI, 1503, .inl p4)), (m5, .inl (cL, 1500, .inr (.inl p5))), (m6, .inl (cI, 1500, .inl p6)), (m7, .inl (cI, 1500, .inl p7)), (m8, .inl (cI, 50, .inl p8)), (m9, .inl (cI, 50, .inl p9)), (ma, .inl (cI, 1500, .inl pa)), (mb, .inl (cI, 50, .inl pb))] sz) [(mo, .inr (4, [.int mso, .ref m1, .ref m2, .ref m3, .ref m4, .ref m5, .ref m6, .int mct, .ref m7, .int mfr, .int mcu, .int u, .ref m8, .ref m9, .ref ma, .ref mb])), (m1, .inl (cL, 1503, .inr (.inl p1))), (m2, .inl (cL, 1503, .inr (.inl p2))), (m3, .inl (cI, 36072, .inl p3)), (m4, .inl (cI, 1503, .inl p4)), (m5, .inl (cL, 1500, .inr (.inl p5))), (m6, .inl (cI, 1500, .inl p6)), (m7, .inl (cI, 1500, .inl p7)), (m8, .inl (cI, 50, .inl p8)), (m9, .inl (cI, 50, .inl p9)), (ma, .inl (cI, 1500, .inl pa)), (mb, .inl (cI, 50, .inl pb))]) (va_A [(mo, .inr (4, [.int mso, .ref m1, .ref m2, .ref m3, .ref m4, .ref m5, .ref m6, .int mct, .ref m7, .int mfr, .int mcu, .int mth, .ref m8, .ref m9, .ref ma, .ref mb])), (m1, .inl (cL, 1503, .inr (.inl p1))), (m2, .inl (cL, 1503, .inr (.inl p2))), (m3, .inl (cI, 36072, .inl p3)), (m4, .inl (cI, 1503, .inl p4)), (m5, .inl (cL, 1500, .inr (.inl p5))), (m6, .inl (cI, 1500, .inl p6)), (m7, .inl (cI, 1500, .inl p7)), (m8, .inl (cI, 50, .inl p8)), (m9, .inl (cI, 50, .inl p9)), (ma, .inl (cI, 1500, .inl pa)), (mb, .inl (cI, 50, .inl pb))] sz)) 0 0 (va_A [(mo, .inr (4, [.int mso, .ref m1, .ref m2, .ref m3, .ref m4, .ref m5, .ref m6, .int mct, .ref m7, .int mfr, .int mcu, .int mth, .ref m8, .ref m9, .ref ma, .ref mb])), (m1, .inl (cL, 1503, .inr (.inl p1))), (m2, .inl (cL, 1503, .inr (.inl p2))), (m3, .inl (cI, 36072, .inl p3)), (m4, .inl (cI, 1503, .inl p4)), (m5, .inl (cL, 1500, .inr (.inl p5))), (m6, .inl (cI, 1500, .inl p6)), (m7, .inl (cI, 1500, .inl p7)), (m8, .inl (cI, 50, .inl p8)), (m9, .inl (cI, 50, .inl p9)), (ma, .inl (cI, 1500, .inl pa)), (mb, .inl (cI, 50, .inl pb))] sz) := by
  refine xr_met (by decide) ?_
  intro p e s m args below meth c hx hb hr hts hown hlocks hname hml hv
  obtain ⟨rfl, hsz, hP, hK, hD0⟩ := hv
  subst hsz
  have hD := hD0.self (sz := s.heap.size)
  generalize hAe : va_A [(mo, .inr (4, [.int mso, .ref m1, .ref m2, .ref m3, .ref m4, .ref m5, .ref m6, .int mct, .ref m7, .int mfr, .int mcu, .int mth, .ref m8, .ref m9, .ref ma, .ref mb])), (m1, .inl (cL, 1503, .inr (.inl p1))), (m2, .inl (cL, 1503, .inr (.inl p2))), (m3, .inl (cI, 36072, .inl p3)), (m4, .inl (cI, 1503, .inl p4)), (m5, .inl (cL, 1500, .inr (.inl p5))), (m6, .inl (cI, 1500, .inl p6)), (m7, .inl (cI, 1500, .inl p7)), (m8, .inl (cI, 50, .inl p8)), (m9, .inl (cI, 50, .inl p9)), (ma, .inl (cI, 1500, .inl pa)), (mb, .inl (cI, 50, .inl pb))] s.heap.size = A at hD ⊢
  have hA : ∀ q : Nat, s.heap.size ≤ q → A q := fun q h => by rw [← hAe]; exact Or.inr h
  have hS : va_S A s.heap s.heap [] := va_S.rf
  have hD : va_D A [(mo, .inr (4, [.int mso, .ref m1, .ref m2, .ref m3, .ref m4, .ref m5, .ref m6, .int mct, .ref m7, .int mfr, .int mcu, .int mth, .ref m8, .ref m9, .ref ma, .ref mb])), (m1, .inl (cL, 1503, .inr (.inl p1))), (m2, .inl (cL, 1503, .inr (.inl p2))), (m3, .inl (cI, 36072, .inl p3)), (m4, .inl (cI, 1503, .inl p4)), (m5, .inl (cL, 1500, .inr (.inl p5))), (m6, .inl (cI, 1500, .inl p6)), (m7, .inl (cI, 1500, .inl p7)), (m8, .inl (cI, 50, .inl p8)), (m9, .inl (cI, 50, .inl p9)), (ma, .inl (cI, 1500, .inl pa)), (mb, .inl (cI, 50, .inl pb))] := hD
  have hown : s.vm.findClass "BranchStoreModel" = some m.cls := hown
  have hP : va_P D classes [(mo, .inr (4, [.int mso, .ref m1, .ref m2, .ref m3, .ref m4, .ref m5, .ref m6, .int mct, .ref m7, .int mfr, .int mcu, .int mth, .ref m8, .ref m9, .ref ma, .ref mb])), (m1, .inl (cL, 1503, .inr (.inl p1))), (m2, .inl (cL, 1503, .inr (.inl p2))), (m3, .inl (cI, 36072, .inl p3)), (m4, .inl (cI, 1503, .inl p4)), (m5, .inl (cL, 1500, .inr (.inl p5))), (m6, .inl (cI, 1500, .inl p6)), (m7, .inl (cI, 1500, .inl p7)), (m8, .inl (cI, 50, .inl p8)), (m9, .inl (cI, 50, .inl p9)), (ma, .inl (cI, 1500, .inl pa)), (mb, .inl (cI, 50, .inl pb))] s.heap := hP
  have hl := lv_entry ([.ref mo]) (n := 3) (Nat.le_of_ble_eq_true rfl)
  rw [lg_entry_eq]
  generalize (lg_sl ([.ref mo]) ++ List.replicate (3 - (lg_sl ([.ref mo])).length) Slot.unset).toArray = ls at hl ⊢
  have hl : lv_has ls 3 [(0, .ref mo)] := hl
  obtain ⟨Q, hQ⟩ : ∃ Q, Q = MQ below (va_Qi (fun (r : Int32) (u : (Int32)) => (mso.toInt ≠ 2 ∧ u.toInt = 1) ∨ (mso.toInt = 2 ∧ u.toInt = 0 ∧ r.toInt = (cb_num (fun k => decide (rw_n (mk_let p3 p4 1500) ≤ sh_w w ((fun k => KW (p6 k).toInt.toNat) k) (KW 1500))) n : Int))) (fun (u : (Int32)) (t : State) => va_P D classes [(mo, .inr (4, [.int mso, .ref m1, .ref m2, .ref m3, .ref m4, .ref m5, .ref m6, .int mct, .ref m7, .int mfr, .int mcu, .int u, .ref m8, .ref m9, .ref ma, .ref mb])), (m1, .inl (cL, 1503, .inr (.inl p1))), (m2, .inl (cL, 1503, .inr (.inl p2))), (m3, .inl (cI, 36072, .inl p3)), (m4, .inl (cI, 1503, .inl p4)), (m5, .inl (cL, 1500, .inr (.inl p5))), (m6, .inl (cI, 1500, .inl p6)), (m7, .inl (cI, 1500, .inl p7)), (m8, .inl (cI, 50, .inl p8)), (m9, .inl (cI, 50, .inl p9)), (ma, .inl (cI, 1500, .inl pa)), (mb, .inl (cI, 50, .inl pb))] t.heap ∧ va_K D classes (tyz cL cI) t ∧ va_D (A) [(mo, .inr (4, [.int mso, .ref m1, .ref m2, .ref m3, .ref m4, .ref m5, .ref m6, .int mct, .ref m7, .int mfr, .int mcu, .int u, .ref m8, .ref m9, .ref ma, .ref mb])), (m1, .inl (cL, 1503, .inr (.inl p1))), (m2, .inl (cL, 1503, .inr (.inl p2))), (m3, .inl (cI, 36072, .inl p3)), (m4, .inl (cI, 1503, .inl p4)), (m5, .inl (cL, 1500, .inr (.inl p5))), (m6, .inl (cI, 1500, .inl p6)), (m7, .inl (cI, 1500, .inl p7)), (m8, .inl (cI, 50, .inl p8)), (m9, .inl (cI, 50, .inl p9)), (ma, .inl (cI, 1500, .inl pa)), (mb, .inl (cI, 50, .inl pb))]) (A)) ([.ref mo] : List Value).toArray s 0 0 A := ⟨_, rfl⟩
  rw [← hQ]
  refine lv_aload_n hx hb d_Mo_begins_0 rfl (lv_at hl 0 rfl) ?_
  refine lv_aload_n hx hb d_Mo_begins_1 rfl (lv_at hl 0 rfl) ?_
  refine va_get (D := D) (ci := 4) (v := .int mso) (C := R_Mo) (T := F_Mo) (N := 16) hx hb hts in_Mo hown hK hP 0 rfl rfl 0 (by decide) (hts _ tw_603) (fun _ h9 => h9) rfl d_Mo_begins_2 ?_
  refine lv_iconst (v := 2) hx hb d_Mo_begins_5 (by decide) ?_
  refine lv_topi (fun v5 e5 => ?_)
  have t5 : v5.toInt = 2 := by rw [e5]; rfl
  refine lv_icmp_eq hx hb d_Mo_begins_6 (tgt := 13) (by decide) (fun g6 => ?_) (fun g6 => ?_)
  · have g6 := ic_eq.mp g6
    refine lv_iconst (v := 0) hx hb d_Mo_begins_13 (by decide) ?_
    refine lv_topi (fun v13 e13 => ?_)
    have t13 : v13.toInt = 0 := by rw [e13]; rfl
    refine lv_iconst (v := 1) hx hb d_Mo_begins_14 (by decide) ?_
    refine lv_topi (fun v14 e14 => ?_)
    have t14 : v14.toInt = 1 := by rw [e14]; rfl
    have hPc := hP.sub (ws' := [(mo, .inr (4, [.int mso, .ref m1, .ref m2, .ref m3, .ref m4, .ref m5, .ref m6, .int mct, .ref m7, .int mfr, .int mcu, .int mth, .ref m8, .ref m9, .ref ma, .ref mb])), (m1, .inl (cL, 1503, .inr (.inl p1))), (m2, .inl (cL, 1503, .inr (.inl p2))), (m3, .inl (cI, 36072, .inl p3)), (m4, .inl (cI, 1503, .inl p4)), (m5, .inl (cL, 1500, .inr (.inl p5))), (m6, .inl (cI, 1500, .inl p6)), (m7, .inl (cI, 1500, .inl p7)), (m8, .inl (cI, 50, .inl p8)), (m9, .inl (cI, 50, .inl p9)), (ma, .inl (cI, 1500, .inl pa)), (mb, .inl (cI, 50, .inl pb))]) [0, 1, 2, 3, 4, 5, 6, 7, 8, 9, 10, 11] rfl
    have hDc := hD.sub (ws' := [(mo, .inr (4, [.int mso, .ref m1, .ref m2, .ref m3, .ref m4, .ref m5, .ref m6, .int mct, .ref m7, .int mfr, .int mcu, .int mth, .ref m8, .ref m9, .ref ma, .ref mb])), (m1, .inl (cL, 1503, .inr (.inl p1))), (m2, .inl (cL, 1503, .inr (.inl p2))), (m3, .inl (cI, 36072, .inl p3)), (m4, .inl (cI, 1503, .inl p4)), (m5, .inl (cL, 1500, .inr (.inl p5))), (m6, .inl (cI, 1500, .inl p6)), (m7, .inl (cI, 1500, .inl p7)), (m8, .inl (cI, 50, .inl p8)), (m9, .inl (cI, 50, .inl p9)), (ma, .inl (cI, 1500, .inl pa)), (mb, .inl (cI, 50, .inl pb))]) [0, 1, 2, 3, 4, 5, 6, 7, 8, 9, 10, 11] (by decide) rfl
    have hFc := va_free (wc := [(mo, .inr (4, [.int mso, .ref m1, .ref m2, .ref m3, .ref m4, .ref m5, .ref m6, .int mct, .ref m7, .int mfr, .int mcu, .int mth, .ref m8, .ref m9, .ref ma, .ref mb])), (m1, .inl (cL, 1503, .inr (.inl p1))), (m2, .inl (cL, 1503, .inr (.inl p2))), (m3, .inl (cI, 36072, .inl p3)), (m4, .inl (cI, 1503, .inl p4)), (m5, .inl (cL, 1500, .inr (.inl p5))), (m6, .inl (cI, 1500, .inl p6)), (m7, .inl (cI, 1500, .inl p7)), (m8, .inl (cI, 50, .inl p8)), (m9, .inl (cI, 50, .inl p9)), (ma, .inl (cI, 1500, .inl pa)), (mb, .inl (cI, 50, .inl pb))]) hD hS hA [0, 1, 2, 3, 4, 5, 6, 7, 8, 9, 10, 11] rfl
    refine va_calli (xr_mv (As := [.int v13, .int v14]) (rest := []) ⟨hx, hb, hml, hown, hts⟩ (c_Mo_fails l D cL cI mo m1 m2 m3 m4 m5 m6 m7 m8 m9 ma mb mso mct mfr mcu mth p1 p2 p5 p3 p4 p6 p7 p8 p9 pa pb v13 v14 s.heap.size (by first | omega | exact hso)) (xr_cv 2 hts tw_663 tw_660 tw_662 tp_10 tw_7 rfl rfl (by decide) ⟨Nat.le_of_ble_eq_true rfl, Nat.le_of_ble_eq_true rfl⟩) hK hPc (hDc.weaken (fun _ _ _ _ => trivial)) (va_recv hK hP rfl (q0 := 0) (ci := 4) rfl) rfl hl.1 rfl (Nat.le_of_ble_eq_true rfl) d_Mo_begins_15 ⟨Nat.le_of_ble_eq_true rfl, Nat.le_of_ble_eq_true rfl⟩) hS (fun q _ h => hFc q h) hFc (fun v15 u15 tt15 H1 locs ht15 hvm15 e15 hB15 hz15 hk15 hS => ?_)
    obtain ⟨mth2_15, rfl⟩ : ∃ z, z = u15 := ⟨_, rfl⟩
    have e15 : v15.toInt = v13.toInt ∧ ((v13.toInt = 0 ∧ mth2_15.toInt = 0) ∨ (v13.toInt ≠ 0 ∧ mth2_15.toInt = v14.toInt)) := e15
    obtain ⟨hP1, hK1, hD1⟩ := hB15
    rw [ht15] at hP1
    obtain ⟨hP, hD⟩ := va_join (wr := []) (w1 := [(mo, .inr (4, [.int mso, .ref m1, .ref m2, .ref m3, .ref m4, .ref m5, .ref m6, .int mct, .ref m7, .int mfr, .int mcu, .int mth2_15, .ref m8, .ref m9, .ref ma, .ref mb])), (m1, .inl (cL, 1503, .inr (.inl p1))), (m2, .inl (cL, 1503, .inr (.inl p2))), (m3, .inl (cI, 36072, .inl p3)), (m4, .inl (cI, 1503, .inl p4)), (m5, .inl (cL, 1500, .inr (.inl p5))), (m6, .inl (cI, 1500, .inl p6)), (m7, .inl (cI, 1500, .inl p7)), (m8, .inl (cI, 50, .inl p8)), (m9, .inl (cI, 50, .inl p9)), (ma, .inl (cI, 1500, .inl pa)), (mb, .inl (cI, 50, .inl pb))]) hP hD [0, 1, 2, 3, 4, 5, 6, 7, 8, 9, 10, 11] [] rfl rfl (by decide) (by decide) hk15 hFc hP1 hD1
    clear hP1 hD1 hPc hDc hFc
    generalize H1 = H at hP hS ⊢
    have hP : va_P D classes [(mo, .inr (4, [.int mso, .ref m1, .ref m2, .ref m3, .ref m4, .ref m5, .ref m6, .int mct, .ref m7, .int mfr, .int mcu, .int mth2_15, .ref m8, .ref m9, .ref ma, .ref mb])), (m1, .inl (cL, 1503, .inr (.inl p1))), (m2, .inl (cL, 1503, .inr (.inl p2))), (m3, .inl (cI, 36072, .inl p3)), (m4, .inl (cI, 1503, .inl p4)), (m5, .inl (cL, 1500, .inr (.inl p5))), (m6, .inl (cI, 1500, .inl p6)), (m7, .inl (cI, 1500, .inl p7)), (m8, .inl (cI, 50, .inl p8)), (m9, .inl (cI, 50, .inl p9)), (ma, .inl (cI, 1500, .inl pa)), (mb, .inl (cI, 50, .inl pb))] H := hP
    have hD : va_D A [(mo, .inr (4, [.int mso, .ref m1, .ref m2, .ref m3, .ref m4, .ref m5, .ref m6, .int mct, .ref m7, .int mfr, .int mcu, .int mth2_15, .ref m8, .ref m9, .ref ma, .ref mb])), (m1, .inl (cL, 1503, .inr (.inl p1))), (m2, .inl (cL, 1503, .inr (.inl p2))), (m3, .inl (cI, 36072, .inl p3)), (m4, .inl (cI, 1503, .inl p4)), (m5, .inl (cL, 1500, .inr (.inl p5))), (m6, .inl (cI, 1500, .inl p6)), (m7, .inl (cI, 1500, .inl p7)), (m8, .inl (cI, 50, .inl p8)), (m9, .inl (cI, 50, .inl p9)), (ma, .inl (cI, 1500, .inl pa)), (mb, .inl (cI, 50, .inl pb))] := hD
    refine lv_if_eq hx hb d_Mo_begins_18 (tgt := 23) (by decide) (fun g18 => ?_) (fun g18 => ?_)
    · have g18 := (iz_eq).mp g18
      refine lv_iconst (v := 0) hx hb d_Mo_begins_23 (by decide) ?_
      refine lv_topi (fun v23 e23 => ?_)
      have t23 : v23.toInt = 0 := by rw [e23]; rfl
      refine lv_istore_n (lv' := [(1, .int v23), (0, .ref mo)]) hx hb d_Mo_begins_24 rfl hl (by decide) rfl (fun ls hl => ?_)
      refine lv_iconst (v := 0) hx hb d_Mo_begins_25 (by decide) ?_
      refine lv_topi (fun v25 e25 => ?_)
      have t25 : v25.toInt = 0 := by rw [e25]; rfl
      refine lv_istore_n (lv' := [(2, .int v25), (1, .int v23), (0, .ref mo)]) hx hb d_Mo_begins_26 rfl hl (by decide) rfl (fun ls hl => ?_)
      have lp27 : ∀ (fuel27 : Nat) (kk : Int32) (nn : Int32) (ls : Array Slot), lv_has ls 3 [(2, .int kk), (1, .int nn), (0, .ref mo)] → (0 ≤ kk.toInt) → (kk.toInt ≤ (n : Int)) → (0 ≤ nn.toInt ∧ nn.toInt ≤ kk.toInt) → (nn.toInt = (cb_num (fun k => decide (rw_n (mk_let p3 p4 1500) ≤ sh_w w ((fun k => KW (p6 k).toInt.toNat) k) (KW 1500))) kk.toInt.toNat : Int)) → n - kk.toInt.toNat < fuel27 → W p l e ({ frames := 2, cells := 0, slots := 0, locals := 62 } : Room) s m ([.ref mo] : List Value).toArray below meth c H locs 0 0 Q (F0 m 27 ls []) := by
        intro fuel27
        induction fuel27 with
        | zero => intro kk nn ls hl h1 h2 h3 h4 hm27; exact absurd hm27 (Nat.not_lt_zero _)
        | succ fuel27 ih27 =>
          intro kk nn ls hl h1 h2 h3 h4 hm27
          refine lv_iload_n hx hb d_Mo_begins_27 rfl (lv_at hl 0 rfl) ?_
          refine lv_aload_n hx hb d_Mo_begins_28 rfl (lv_at hl 2 rfl) ?_
          refine va_get (D := D) (ci := 4) (v := .int mct) (C := R_Mo) (T := F_Mo) (N := 16) hx hb hts in_Mo hown hK hP 0 rfl rfl 7 (by decide) (hts _ tw_610) (fun _ h9 => h9) rfl d_Mo_begins_29 ?_
          refine lv_icmp_ge hx hb d_Mo_begins_32 (tgt := 62) (by decide) (fun g32 => ?_) (fun g32 => ?_)
          · have g32 := ic_le.mp g32
            refine lv_iload_n hx hb d_Mo_begins_62 rfl (lv_at hl 1 rfl) ?_
            have hpost : (mso.toInt ≠ 2 ∧ mth2_15.toInt = 1) ∨ (mso.toInt = 2 ∧ mth2_15.toInt = 0 ∧ nn.toInt = (cb_num (fun k => decide (rw_n (mk_let p3 p4 1500) ≤ sh_w w ((fun k => KW (p6 k).toInt.toNat) k) (KW 1500))) n : Int)) := by
              first
              | (exfalso; omega)
              | (rw [show kk.toInt.toNat = n by omega] at h4
                 exact Or.inr ⟨by omega, by omega, h4⟩)
            have hP9 := hP.sub (ws' := [(mo, .inr (4, [.int mso, .ref m1, .ref m2, .ref m3, .ref m4, .ref m5, .ref m6, .int mct, .ref m7, .int mfr, .int mcu, .int mth2_15, .ref m8, .ref m9, .ref ma, .ref mb])), (m1, .inl (cL, 1503, .inr (.inl p1))), (m2, .inl (cL, 1503, .inr (.inl p2))), (m3, .inl (cI, 36072, .inl p3)), (m4, .inl (cI, 1503, .inl p4)), (m5, .inl (cL, 1500, .inr (.inl p5))), (m6, .inl (cI, 1500, .inl p6)), (m7, .inl (cI, 1500, .inl p7)), (m8, .inl (cI, 50, .inl p8)), (m9, .inl (cI, 50, .inl p9)), (ma, .inl (cI, 1500, .inl pa)), (mb, .inl (cI, 50, .inl pb))]) [0, 1, 2, 3, 4, 5, 6, 7, 8, 9, 10, 11] rfl
            have hD9 := hD.sub (ws' := [(mo, .inr (4, [.int mso, .ref m1, .ref m2, .ref m3, .ref m4, .ref m5, .ref m6, .int mct, .ref m7, .int mfr, .int mcu, .int mth2_15, .ref m8, .ref m9, .ref ma, .ref mb])), (m1, .inl (cL, 1503, .inr (.inl p1))), (m2, .inl (cL, 1503, .inr (.inl p2))), (m3, .inl (cI, 36072, .inl p3)), (m4, .inl (cI, 1503, .inl p4)), (m5, .inl (cL, 1500, .inr (.inl p5))), (m6, .inl (cI, 1500, .inl p6)), (m7, .inl (cI, 1500, .inl p7)), (m8, .inl (cI, 50, .inl p8)), (m9, .inl (cI, 50, .inl p9)), (ma, .inl (cI, 1500, .inl pa)), (mb, .inl (cI, 50, .inl pb))]) [0, 1, 2, 3, 4, 5, 6, 7, 8, 9, 10, 11] (by decide) rfl
            rw [hQ]
            exact W.iret (v := nn) hx hb hr (fun t ht hW => ⟨⟨nn, (mth2_15), rfl, hpost, by rw [ht]; exact hP9, va_K.moved hW.alike hK, hD9⟩, hS.F ht⟩) hS.2.2 d_Mo_begins_63
          · have g32 := ic_nle.mp g32
            refine lv_iload_n hx hb d_Mo_begins_35 rfl (lv_at hl 1 rfl) ?_
            refine lv_aload_n hx hb d_Mo_begins_36 rfl (lv_at hl 2 rfl) ?_
            refine lv_aload_n hx hb d_Mo_begins_37 rfl (lv_at hl 2 rfl) ?_
            refine va_get (D := D) (ci := 4) (v := .ref m6) (C := R_Mo) (T := F_Mo) (N := 16) hx hb hts in_Mo hown hK hP 0 rfl rfl 6 (by decide) (hts _ tw_609) (fun _ h9 => h9) rfl d_Mo_begins_38 ?_
            refine lv_iload_n hx hb d_Mo_begins_41 rfl (lv_at hl 0 rfl) ?_
            refine va_iald hx hb hK hP 6 1 rfl rfl (ia_in ⟨by omega, by omega⟩) d_Mo_begins_42 ?_
            refine lv_topi (fun v42 e42 => ?_)
            have e42 : v42 = p6 kk.toInt.toNat := e42
            have hord := hor kk.toInt.toNat (by omega)
            rw [← e42] at hord
            refine vp_callSi (xr_rv (As := [.int v42]) (rest := [.int nn]) ⟨hx, hb, hml, hown, hts⟩ (c_Mo_isLonger l D cL cI mo m1 m2 m3 m4 m5 m6 m7 m8 m9 ma mb mso mct mfr mcu mth2_15 p1 p2 p5 p3 p4 p6 p7 p8 p9 pa pb w KW v42 (by first | omega | exact hws) (by first | omega | exact hkr) (by omega) (by first | omega | exact hia)) (xr_cv 1 hts tw_781 tw_778 tw_780 tp_19 tw_7 rfl rfl (by decide) ⟨Nat.le_of_ble_eq_true rfl, Nat.le_of_ble_eq_true rfl⟩) hK hP (va_recv hK hP rfl (q0 := 0) (ci := 4) rfl) rfl hl.1 rfl (Nat.le_of_ble_eq_true rfl) d_Mo_begins_43 ⟨Nat.le_of_ble_eq_true rfl, Nat.le_of_ble_eq_true rfl⟩) (fun v43 e43 => ?_)
            have e43 : (v43 = 0 ∨ v43 = 1) ∧ (v43 = 1 ↔ rw_n (mk_let p3 p4 1500) ≤ sh_w w (KW v42.toInt.toNat) (KW 1500)) := e43
            have i3 := b01 e43
            rw [e42] at i3
            refine lv_if_eq hx hb d_Mo_begins_46 (tgt := 53) (by decide) (fun g46 => ?_) (fun g46 => ?_)
            · have g46 := (iz_eq).mp g46
              refine lv_iconst (v := 0) hx hb d_Mo_begins_53 (by decide) ?_
              refine lv_topi (fun v53 e53 => ?_)
              have t53 : v53.toInt = 0 := by rw [e53]; rfl
              refine lv_iadd hx hb d_Mo_begins_54 ?_
              refine lv_topi (fun v54 e54 => ?_)
              have t54 := ia_add e54 ⟨by omega, by omega⟩
              refine lv_istore_n (lv' := [(1, .int v54), (2, .int kk), (0, .ref mo)]) hx hb d_Mo_begins_55 rfl hl (by decide) rfl (fun ls hl => ?_)
              obtain ⟨v56, e56⟩ : ∃ z, z = kk + Int32.ofInt 1 := ⟨_, rfl⟩
              have t56 := ia_inc 1 e56 (by decide) ⟨by omega, by omega⟩
              refine lv_iinc (k := 1) (lv' := [(2, .int v56), (1, .int v54), (0, .ref mo)]) hx hb d_Mo_begins_56 hl rfl e56.symm (by decide) rfl (fun ls hl => ?_)
              refine lv_goto hx hb d_Mo_begins_59 (tgt := 27) (by decide) ?_
              have hcn : cb_num (fun k => decide (rw_n (mk_let p3 p4 1500) ≤ sh_w w ((fun k => KW (p6 k).toInt.toNat) k) (KW 1500))) (kk.toInt.toNat + 1) = cb_num (fun k => decide (rw_n (mk_let p3 p4 1500) ≤ sh_w w ((fun k => KW (p6 k).toInt.toNat) k) (KW 1500))) kk.toInt.toNat + (if decide (rw_n (mk_let p3 p4 1500) ≤ sh_w w ((fun k => KW (p6 k).toInt.toNat) kk.toInt.toNat) (KW 1500)) = true then 1 else 0) := rfl
              exact ih27 v56 v54 ls hl (by omega) (by omega) (by omega) (by
                    rw [show v56.toInt.toNat = kk.toInt.toNat + 1 by omega, hcn]
                    rcases i3 with ⟨j1, j2⟩ | ⟨j1, j2⟩
                    · first
                      | (exfalso; omega)
                      | (rw [if_pos (decide_eq_true j2)]; omega)
                    · first
                      | (exfalso; omega)
                      | (rw [if_neg (by rw [decide_eq_false j2]; decide)]; omega)) (by omega)
            · have g46 := (iz_ne).mp g46
              refine lv_iconst (v := 1) hx hb d_Mo_begins_49 (by decide) ?_
              refine lv_topi (fun v49 e49 => ?_)
              have t49 : v49.toInt = 1 := by rw [e49]; rfl
              refine lv_goto hx hb d_Mo_begins_50 (tgt := 54) (by decide) ?_
              refine lv_iadd hx hb d_Mo_begins_54 ?_
              refine lv_topi (fun v54 e54 => ?_)
              have t54 := ia_add e54 ⟨by omega, by omega⟩
              refine lv_istore_n (lv' := [(1, .int v54), (2, .int kk), (0, .ref mo)]) hx hb d_Mo_begins_55 rfl hl (by decide) rfl (fun ls hl => ?_)
              obtain ⟨v56, e56⟩ : ∃ z, z = kk + Int32.ofInt 1 := ⟨_, rfl⟩
              have t56 := ia_inc 1 e56 (by decide) ⟨by omega, by omega⟩
              refine lv_iinc (k := 1) (lv' := [(2, .int v56), (1, .int v54), (0, .ref mo)]) hx hb d_Mo_begins_56 hl rfl e56.symm (by decide) rfl (fun ls hl => ?_)
              refine lv_goto hx hb d_Mo_begins_59 (tgt := 27) (by decide) ?_
              have hcn : cb_num (fun k => decide (rw_n (mk_let p3 p4 1500) ≤ sh_w w ((fun k => KW (p6 k).toInt.toNat) k) (KW 1500))) (kk.toInt.toNat + 1) = cb_num (fun k => decide (rw_n (mk_let p3 p4 1500) ≤ sh_w w ((fun k => KW (p6 k).toInt.toNat) k) (KW 1500))) kk.toInt.toNat + (if decide (rw_n (mk_let p3 p4 1500) ≤ sh_w w ((fun k => KW (p6 k).toInt.toNat) kk.toInt.toNat) (KW 1500)) = true then 1 else 0) := rfl
              exact ih27 v56 v54 ls hl (by omega) (by omega) (by omega) (by
                    rw [show v56.toInt.toNat = kk.toInt.toNat + 1 by omega, hcn]
                    rcases i3 with ⟨j1, j2⟩ | ⟨j1, j2⟩
                    · first
                      | (exfalso; omega)
                      | (rw [if_pos (decide_eq_true j2)]; omega)
                    · first
                      | (exfalso; omega)
                      | (rw [if_neg (by rw [decide_eq_false j2]; decide)]; omega)) (by omega)
      exact lp27 _ v25 v23  ls hl (by omega) (by omega) (by omega) (by rw [show v25.toInt.toNat = 0 by omega]; exact t23) (Nat.lt_succ_self _)
    · have g18 := (iz_ne).mp g18
      exfalso; omega
  · have g6 := ic_ne.mp g6
    refine lv_iconst (v := 1) hx hb d_Mo_begins_9 (by decide) ?_
    refine lv_topi (fun v9 e9 => ?_)
    have t9 : v9.toInt = 1 := by rw [e9]; rfl
    refine lv_goto hx hb d_Mo_begins_10 (tgt := 14) (by decide) ?_
    refine lv_iconst (v := 1) hx hb d_Mo_begins_14 (by decide) ?_
    refine lv_topi (fun v14 e14 => ?_)
    have t14 : v14.toInt = 1 := by rw [e14]; rfl
    have hPc := hP.sub (ws' := [(mo, .inr (4, [.int mso, .ref m1, .ref m2, .ref m3, .ref m4, .ref m5, .ref m6, .int mct, .ref m7, .int mfr, .int mcu, .int mth, .ref m8, .ref m9, .ref ma, .ref mb])), (m1, .inl (cL, 1503, .inr (.inl p1))), (m2, .inl (cL, 1503, .inr (.inl p2))), (m3, .inl (cI, 36072, .inl p3)), (m4, .inl (cI, 1503, .inl p4)), (m5, .inl (cL, 1500, .inr (.inl p5))), (m6, .inl (cI, 1500, .inl p6)), (m7, .inl (cI, 1500, .inl p7)), (m8, .inl (cI, 50, .inl p8)), (m9, .inl (cI, 50, .inl p9)), (ma, .inl (cI, 1500, .inl pa)), (mb, .inl (cI, 50, .inl pb))]) [0, 1, 2, 3, 4, 5, 6, 7, 8, 9, 10, 11] rfl
    have hDc := hD.sub (ws' := [(mo, .inr (4, [.int mso, .ref m1, .ref m2, .ref m3, .ref m4, .ref m5, .ref m6, .int mct, .ref m7, .int mfr, .int mcu, .int mth, .ref m8, .ref m9, .ref ma, .ref mb])), (m1, .inl (cL, 1503, .inr (.inl p1))), (m2, .inl (cL, 1503, .inr (.inl p2))), (m3, .inl (cI, 36072, .inl p3)), (m4, .inl (cI, 1503, .inl p4)), (m5, .inl (cL, 1500, .inr (.inl p5))), (m6, .inl (cI, 1500, .inl p6)), (m7, .inl (cI, 1500, .inl p7)), (m8, .inl (cI, 50, .inl p8)), (m9, .inl (cI, 50, .inl p9)), (ma, .inl (cI, 1500, .inl pa)), (mb, .inl (cI, 50, .inl pb))]) [0, 1, 2, 3, 4, 5, 6, 7, 8, 9, 10, 11] (by decide) rfl
    have hFc := va_free (wc := [(mo, .inr (4, [.int mso, .ref m1, .ref m2, .ref m3, .ref m4, .ref m5, .ref m6, .int mct, .ref m7, .int mfr, .int mcu, .int mth, .ref m8, .ref m9, .ref ma, .ref mb])), (m1, .inl (cL, 1503, .inr (.inl p1))), (m2, .inl (cL, 1503, .inr (.inl p2))), (m3, .inl (cI, 36072, .inl p3)), (m4, .inl (cI, 1503, .inl p4)), (m5, .inl (cL, 1500, .inr (.inl p5))), (m6, .inl (cI, 1500, .inl p6)), (m7, .inl (cI, 1500, .inl p7)), (m8, .inl (cI, 50, .inl p8)), (m9, .inl (cI, 50, .inl p9)), (ma, .inl (cI, 1500, .inl pa)), (mb, .inl (cI, 50, .inl pb))]) hD hS hA [0, 1, 2, 3, 4, 5, 6, 7, 8, 9, 10, 11] rfl
    refine va_calli (xr_mv (As := [.int v9, .int v14]) (rest := []) ⟨hx, hb, hml, hown, hts⟩ (c_Mo_fails l D cL cI mo m1 m2 m3 m4 m5 m6 m7 m8 m9 ma mb mso mct mfr mcu mth p1 p2 p5 p3 p4 p6 p7 p8 p9 pa pb v9 v14 s.heap.size (by first | omega | exact hso)) (xr_cv 2 hts tw_663 tw_660 tw_662 tp_10 tw_7 rfl rfl (by decide) ⟨Nat.le_of_ble_eq_true rfl, Nat.le_of_ble_eq_true rfl⟩) hK hPc (hDc.weaken (fun _ _ _ _ => trivial)) (va_recv hK hP rfl (q0 := 0) (ci := 4) rfl) rfl hl.1 rfl (Nat.le_of_ble_eq_true rfl) d_Mo_begins_15 ⟨Nat.le_of_ble_eq_true rfl, Nat.le_of_ble_eq_true rfl⟩) hS (fun q _ h => hFc q h) hFc (fun v15 u15 tt15 H1 locs ht15 hvm15 e15 hB15 hz15 hk15 hS => ?_)
    obtain ⟨mth2_15, rfl⟩ : ∃ z, z = u15 := ⟨_, rfl⟩
    have e15 : v15.toInt = v9.toInt ∧ ((v9.toInt = 0 ∧ mth2_15.toInt = 0) ∨ (v9.toInt ≠ 0 ∧ mth2_15.toInt = v14.toInt)) := e15
    obtain ⟨hP1, hK1, hD1⟩ := hB15
    rw [ht15] at hP1
    obtain ⟨hP, hD⟩ := va_join (wr := []) (w1 := [(mo, .inr (4, [.int mso, .ref m1, .ref m2, .ref m3, .ref m4, .ref m5, .ref m6, .int mct, .ref m7, .int mfr, .int mcu, .int mth2_15, .ref m8, .ref m9, .ref ma, .ref mb])), (m1, .inl (cL, 1503, .inr (.inl p1))), (m2, .inl (cL, 1503, .inr (.inl p2))), (m3, .inl (cI, 36072, .inl p3)), (m4, .inl (cI, 1503, .inl p4)), (m5, .inl (cL, 1500, .inr (.inl p5))), (m6, .inl (cI, 1500, .inl p6)), (m7, .inl (cI, 1500, .inl p7)), (m8, .inl (cI, 50, .inl p8)), (m9, .inl (cI, 50, .inl p9)), (ma, .inl (cI, 1500, .inl pa)), (mb, .inl (cI, 50, .inl pb))]) hP hD [0, 1, 2, 3, 4, 5, 6, 7, 8, 9, 10, 11] [] rfl rfl (by decide) (by decide) hk15 hFc hP1 hD1
    clear hP1 hD1 hPc hDc hFc
    generalize H1 = H at hP hS ⊢
    have hP : va_P D classes [(mo, .inr (4, [.int mso, .ref m1, .ref m2, .ref m3, .ref m4, .ref m5, .ref m6, .int mct, .ref m7, .int mfr, .int mcu, .int mth2_15, .ref m8, .ref m9, .ref ma, .ref mb])), (m1, .inl (cL, 1503, .inr (.inl p1))), (m2, .inl (cL, 1503, .inr (.inl p2))), (m3, .inl (cI, 36072, .inl p3)), (m4, .inl (cI, 1503, .inl p4)), (m5, .inl (cL, 1500, .inr (.inl p5))), (m6, .inl (cI, 1500, .inl p6)), (m7, .inl (cI, 1500, .inl p7)), (m8, .inl (cI, 50, .inl p8)), (m9, .inl (cI, 50, .inl p9)), (ma, .inl (cI, 1500, .inl pa)), (mb, .inl (cI, 50, .inl pb))] H := hP
    have hD : va_D A [(mo, .inr (4, [.int mso, .ref m1, .ref m2, .ref m3, .ref m4, .ref m5, .ref m6, .int mct, .ref m7, .int mfr, .int mcu, .int mth2_15, .ref m8, .ref m9, .ref ma, .ref mb])), (m1, .inl (cL, 1503, .inr (.inl p1))), (m2, .inl (cL, 1503, .inr (.inl p2))), (m3, .inl (cI, 36072, .inl p3)), (m4, .inl (cI, 1503, .inl p4)), (m5, .inl (cL, 1500, .inr (.inl p5))), (m6, .inl (cI, 1500, .inl p6)), (m7, .inl (cI, 1500, .inl p7)), (m8, .inl (cI, 50, .inl p8)), (m9, .inl (cI, 50, .inl p9)), (ma, .inl (cI, 1500, .inl pa)), (mb, .inl (cI, 50, .inl pb))] := hD
    refine lv_if_eq hx hb d_Mo_begins_18 (tgt := 23) (by decide) (fun g18 => ?_) (fun g18 => ?_)
    · have g18 := (iz_eq).mp g18
      exfalso; omega
    · have g18 := (iz_ne).mp g18
      refine lv_iconst (v := 0) hx hb d_Mo_begins_21 (by decide) ?_
      refine lv_topi (fun v21 e21 => ?_)
      have t21 : v21.toInt = 0 := by rw [e21]; rfl
      have hpost : (mso.toInt ≠ 2 ∧ mth2_15.toInt = 1) ∨ (mso.toInt = 2 ∧ mth2_15.toInt = 0 ∧ v21.toInt = (cb_num (fun k => decide (rw_n (mk_let p3 p4 1500) ≤ sh_w w ((fun k => KW (p6 k).toInt.toNat) k) (KW 1500))) n : Int)) := by
        first
        | (exfalso; omega)
        | exact Or.inl ⟨by omega, by omega⟩
      have hP9 := hP.sub (ws' := [(mo, .inr (4, [.int mso, .ref m1, .ref m2, .ref m3, .ref m4, .ref m5, .ref m6, .int mct, .ref m7, .int mfr, .int mcu, .int mth2_15, .ref m8, .ref m9, .ref ma, .ref mb])), (m1, .inl (cL, 1503, .inr (.inl p1))), (m2, .inl (cL, 1503, .inr (.inl p2))), (m3, .inl (cI, 36072, .inl p3)), (m4, .inl (cI, 1503, .inl p4)), (m5, .inl (cL, 1500, .inr (.inl p5))), (m6, .inl (cI, 1500, .inl p6)), (m7, .inl (cI, 1500, .inl p7)), (m8, .inl (cI, 50, .inl p8)), (m9, .inl (cI, 50, .inl p9)), (ma, .inl (cI, 1500, .inl pa)), (mb, .inl (cI, 50, .inl pb))]) [0, 1, 2, 3, 4, 5, 6, 7, 8, 9, 10, 11] rfl
      have hD9 := hD.sub (ws' := [(mo, .inr (4, [.int mso, .ref m1, .ref m2, .ref m3, .ref m4, .ref m5, .ref m6, .int mct, .ref m7, .int mfr, .int mcu, .int mth2_15, .ref m8, .ref m9, .ref ma, .ref mb])), (m1, .inl (cL, 1503, .inr (.inl p1))), (m2, .inl (cL, 1503, .inr (.inl p2))), (m3, .inl (cI, 36072, .inl p3)), (m4, .inl (cI, 1503, .inl p4)), (m5, .inl (cL, 1500, .inr (.inl p5))), (m6, .inl (cI, 1500, .inl p6)), (m7, .inl (cI, 1500, .inl p7)), (m8, .inl (cI, 50, .inl p8)), (m9, .inl (cI, 50, .inl p9)), (ma, .inl (cI, 1500, .inl pa)), (mb, .inl (cI, 50, .inl pb))]) [0, 1, 2, 3, 4, 5, 6, 7, 8, 9, 10, 11] (by decide) rfl
      rw [hQ]
      exact W.iret (v := v21) hx hb hr (fun t ht hW => ⟨⟨v21, (mth2_15), rfl, hpost, by rw [ht]; exact hP9, va_K.moved hW.alike hK, hD9⟩, hS.F ht⟩) hS.2.2 d_Mo_begins_22
