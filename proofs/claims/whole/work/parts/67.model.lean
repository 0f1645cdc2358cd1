set_option maxRecDepth 100000 in
set_option maxHeartbeats 4000000 in
theorem c_Mo_compact (l : Launch) (D : va_G) (cL cI : ClassId) (mo m1 m2 m3 m4 m5 m6 m7 m8 m9 ma mb : Nat) (mso mct mfr mcu mth : Int32) (p1 p2 p5 : Nat → Int64) (p3 p4 p6 p7 p8 p9 pa pb : Nat → Int32) (w : Nat) (KW : Nat → Nat → Int64) (n : Nat) (sz : Nat) (hws : (mso.toInt = 0 ∧ w = 1) ∨ (mso.toInt = 1 ∧ w = 2) ∨ (mso.toInt = 2 ∧ w = 7)) (hkr : ∀ x, x < 1503 → KR mso.toInt p1 p2 p3 p4 x (KW x)) (hct : mct.toInt = (n : Int)) (hn : n ≤ 1500) (hor : ∀ k, k < n → 0 ≤ (p6 k).toInt ∧ (p6 k).toInt < 1500) (hs : ob_srt w n (fun k => KW (p6 k).toInt.toNat)) : Met l y_Mo_compact (Cond.code y_Mo_compact prog_6_method_43_code 4 (some .int) :: TW) ({ frames := 3, cells := 0, slots := 0, locals := 89 } : Room) (PM D cL cI [.ref mo] [(mo, .inr (4, [.int mso, .ref m1, .ref m2, .ref m3, .ref m4, .ref m5, .ref m6, .int mct, .ref m7, .int mfr, .int mcu, .int mth, .ref m8, .ref m9, .ref ma, .ref mb])), (m1, .inl (cL, 1503, .inr (.inl p1))), (m2, .inl (cL, 1503, .inr (.inl p2))), (m3, .inl (cI, 36072, .inl p3)), (m4, .inl (cI, 1503, .inl p4)), (m5, .inl (cL, 1500, .inr (.inl p5))), (m6, .inl (cI, 1500, .inl p6)), (m7, .inl (cI, 1500, .inl p7)), (m8, .inl (cI, 50, .inl p8)), (m9, .inl (cI, 50, .inl p9)), (ma, .inl (cI, 1500, .inl pa)), (mb, .inl (cI, 50, .inl pb))] sz) (va_Qi (fun (r : Int32) (u : (Int32) × (Nat → Int32) × (Nat → Int32) × (Nat → Int32)) => u.1.toInt = 0 ∧ r.toInt = (cp_k (fun k => cl mso.toInt w p3 p4 (p6 k).toInt.toNat) n : Int) + ((cb_end (fun k => sh_w w ((fun k => KW (p6 k).toInt.toNat) (k + 1)) ((fun k => KW (p6 k).toInt.toNat) k)) (n - 1)).2.1 0 * 9 + (cb_end (fun k => sh_w w ((fun k => KW (p6 k).toInt.toNat) (k + 1)) ((fun k => KW (p6 k).toInt.toNat) k)) (n - 1)).2.1 1 * 24 + (cb_end (fun k => sh_w w ((fun k => KW (p6 k).toInt.toNat) (k + 1)) ((fun k => KW (p6 k).toInt.toNat) k)) (n - 1)).2.1 2 * 116 + (cb_end (fun k => sh_w w ((fun k => KW (p6 k).toInt.toNat) (k + 1)) ((fun k => KW (p6 k).toInt.toNat) k)) (n - 1)).2.1 3 * 260 : Nat)) (fun (u : (Int32) × (Nat → Int32) × (Nat → Int32) × (Nat → Int32)) (t : State) => va_P D classes [(mo, .inr (4, [.int mso, .ref m1, .ref m2, .ref m3, .ref m4, .ref m5, .ref m6, .int mct, .ref m7, .int mfr, .int mcu, .int u.1, .ref m8, .ref m9, .ref ma, .ref mb])), (m1, .inl (cL, 1503, .inr (.inl p1))), (m2, .inl (cL, 1503, .inr (.inl p2))), (m3, .inl (cI, 36072, .inl p3)), (m4, .inl (cI, 1503, .inl p4)), (m5, .inl (cL, 1500, .inr (.inl p5))), (m6, .inl (cI, 1500, .inl p6)), (m7, .inl (cI, 1500, .inl p7)), (m8, .inl (cI, 50, .inl u.2.1)), (m9, .inl (cI, 50, .inl u.2.2.1)), (ma, .inl (cI, 1500, .inl u.2.2.2)), (mb, .inl (cI, 50, .inl pb))] t.heap ∧ va_K D classes (tyz cL cI) t ∧ va_D (va_A [(mo, .inr (4, [.int mso, .ref m1, .ref m2, .ref m3, .ref m4, .ref m5, .ref m6, .int mct, .ref m7, .int mfr, .int mcu, .int mth, .ref m8, .ref m9, .ref ma, .ref mb])), (m1, .inl (cL, 1503, .inr (.inl p1))), (m2, .inl (cL, 1503, .inr (.inl p2))), (m3, .inl (cI, 36072, .inl p3)), (m4, .inl (cI, 1503, .inl p4)), (m5, .inl (cL, 1500, .inr (.inl p5))), (m6, .inl (cI, 1500, .inl p6)), (m7, .inl (cI, 1500, .inl p7)), (m8, .inl (cI, 50, .inl p8)), (m9, .inl (cI, 50, .inl p9)), (ma, .inl (cI, 1500, .inl pa)), (mb, .inl (cI, 50, .inl pb))] sz) [(mo, .inr (4, [.int mso, .ref m1, .ref m2, .ref m3, .ref m4, .ref m5, .ref m6, .int mct, .ref m7, .int mfr, .int mcu, .int u.1, .ref m8, .ref m9, .ref ma, .ref mb])), (m1, .inl (cL, 1503, .inr (.inl p1))), (m2, .inl (cL, 1503, .inr (.inl p2))), (m3, .inl (cI, 36072, .inl p3)), (m4, .inl (cI, 1503, .inl p4)), (m5, .inl (cL, 1500, .inr (.inl p5))), (m6, .inl (cI, 1500, .inl p6)), (m7, .inl (cI, 1500, .inl p7)), (m8, .inl (cI, 50, .inl u.2.1)), (m9, .inl (cI, 50, .inl u.2.2.1)), (ma, .inl (cI, 1500, .inl u.2.2.2)), (mb, .inl (cI, 50, .inl pb))]) (va_A [(mo, .inr (4, [.int mso, .ref m1, .ref m2, .ref m3, .ref m4, .ref m5, .ref m6, .int mct, .ref m7, .int mfr, .int mcu, .int mth, .ref m8, .ref m9, .ref ma, .ref mb])), (m1, .inl (cL, 1503, .inr (.inl p1))), (m2, .inl (cL, 1503, .inr (.inl p2))), (m3, .inl (cI, 36072, .inl p3)), (m4, .inl (cI, 1503, .inl p4)), (m5, .inl (cL, 1500, .inr (.inl p5))), (m6, .inl (cI, 1500, .inl p6)), (m7, .inl (cI, 1500, .inl p7)), (m8, .inl (cI, 50, .inl p8)), (m9, .inl (cI, 50, .inl p9)), (ma, .inl (cI, 1500, .inl pa)), (mb, .inl (cI, 50, .inl pb))] sz)) 0 0 (va_A [(mo, .inr (4, [.int mso, .ref m1, .ref m2, .ref m3, .ref m4, .ref m5, .ref m6, .int mct, .ref m7, .int mfr, .int mcu, .int mth, .ref m8, .ref m9, .ref ma, .ref mb])), (m1, .inl (cL, 1503, .inr (.inl p1))), (m2, .inl (cL, 1503, .inr (.inl p2))), (m3, .inl (cI, 36072, .inl p3)), (m4, .inl (cI, 1503, .inl p4)), (m5, .inl (cL, 1500, .inr (.inl p5))), (m6, .inl (cI, 1500, .inl p6)), (m7, .inl (cI, 1500, .inl p7)), (m8, .inl (cI, 50, .inl p8)), (m9, .inl (cI, 50, .inl p9)), (ma, .inl (cI, 1500, .inl pa)), (mb, .inl (cI, 50, .inl pb))] sz) := by
  refine xr_met (by decide) ?_
  intro p e s m args below meth c hx hb hr hts hown hlocks hname hml hv
  obtain ⟨rfl, hsz, hP, hK, hD0⟩ := hv
  subst hsz
  have hD := hD0.self (sz := s.heap.size)
  generalize hAe : va_A [(mo, .inr (4, [.int mso, .ref m1, .ref m2, .ref m3, .ref m4, .ref m5, .ref m6, .int mct, .ref m7, .int mfr, .int mcu, .int mth, .ref m8, .ref m9, .ref ma, .ref mb])), (m1, .inl (cL, 1503, .inr (.inl p1))), (m2, .inl (cL, 1503, .inr (.inl p2))), (m3, .inl (cI, 36072, .inl p3)), (m4, .inl (cI, 1503, .inl p4)), (m5, .inl (cL, 1500, .inr (.inl p5))), (m6, .inl (cI, 1500, .inl p6)), (m7, .inl (cI, 1500, .inl p7)), (m8, .inl (cI, 50, .inl p8)), (m9, .inl (cI, 50, .inl p9)), (ma, .inl (cI, 1500, .inl pa)), (mb, .inl (cI, 50, .inl pb))] s.heap.size = A at hD ⊢
  have hA : ∀ q : Nat, s.heap.size ≤ q → A q := fun q h => by rw [← hAe]; exact Or.inr h
  have hS : va_S A s.heap s.heap [] := va_S.rf
  have hD : va_D A [(mo, .inr (4, [.int mso, .ref m1, .ref m2, .ref m3, .ref m4, .ref m5, .ref m6, .int mct, .ref m7, .int mfr, .int mcu, .int mth, .ref m8, .ref m9, .ref ma, .ref mb])), (m1, .inl (cL, 1503, .inr (.inl p1))), (m2, .inl (cL, 1503, .inr (.inl p2))), (m3, .inl (cI, 36072, .inl p3)), (m4, .inl (cI, 1503, .inl p4)), (m5, .inl (cL, 1500, .inr (.inl p5))), (m6, .inl (cI, 1500, .inl p6)), (m7, .inl (cI, 1500, .inl p7)), (m8, .inl (cI, 50, .inl p8)), (m9, .inl (cI, 50, .inl p9)), (ma, .inl (cI, 1500, .inl pa)), (mb, .inl (cI, 50, .inl pb))] := hD
  have hown : s.vm.findClass "BranchStoreModel" = some m.cls := hown
  have hP : va_P D classes [(mo, .inr (4, [.int mso, .ref m1, .ref m2, .ref m3, .ref m4, .ref m5, .ref m6, .int mct, .ref m7, .int mfr, .int mcu, .int mth, .ref m8, .ref m9, .ref ma, .ref mb])), (m1, .inl (cL, 1503, .inr (.inl p1))), (m2, .inl (cL, 1503, .inr (.inl p2))), (m3, .inl (cI, 36072, .inl p3)), (m4, .inl (cI, 1503, .inl p4)), (m5, .inl (cL, 1500, .inr (.inl p5))), (m6, .inl (cI, 1500, .inl p6)), (m7, .inl (cI, 1500, .inl p7)), (m8, .inl (cI, 50, .inl p8)), (m9, .inl (cI, 50, .inl p9)), (ma, .inl (cI, 1500, .inl pa)), (mb, .inl (cI, 50, .inl pb))] s.heap := hP
  have hl := lv_entry ([.ref mo]) (n := 4) (Nat.le_of_ble_eq_true rfl)
  rw [lg_entry_eq]
  generalize (lg_sl ([.ref mo]) ++ List.replicate (4 - (lg_sl ([.ref mo])).length) Slot.unset).toArray = ls at hl ⊢
  have hl : lv_has ls 4 [(0, .ref mo)] := hl
  obtain ⟨Q, hQ⟩ : ∃ Q, Q = MQ below (va_Qi (fun (r : Int32) (u : (Int32) × (Nat → Int32) × (Nat → Int32) × (Nat → Int32)) => u.1.toInt = 0 ∧ r.toInt = (cp_k (fun k => cl mso.toInt w p3 p4 (p6 k).toInt.toNat) n : Int) + ((cb_end (fun k => sh_w w ((fun k => KW (p6 k).toInt.toNat) (k + 1)) ((fun k => KW (p6 k).toInt.toNat) k)) (n - 1)).2.1 0 * 9 + (cb_end (fun k => sh_w w ((fun k => KW (p6 k).toInt.toNat) (k + 1)) ((fun k => KW (p6 k).toInt.toNat) k)) (n - 1)).2.1 1 * 24 + (cb_end (fun k => sh_w w ((fun k => KW (p6 k).toInt.toNat) (k + 1)) ((fun k => KW (p6 k).toInt.toNat) k)) (n - 1)).2.1 2 * 116 + (cb_end (fun k => sh_w w ((fun k => KW (p6 k).toInt.toNat) (k + 1)) ((fun k => KW (p6 k).toInt.toNat) k)) (n - 1)).2.1 3 * 260 : Nat)) (fun (u : (Int32) × (Nat → Int32) × (Nat → Int32) × (Nat → Int32)) (t : State) => va_P D classes [(mo, .inr (4, [.int mso, .ref m1, .ref m2, .ref m3, .ref m4, .ref m5, .ref m6, .int mct, .ref m7, .int mfr, .int mcu, .int u.1, .ref m8, .ref m9, .ref ma, .ref mb])), (m1, .inl (cL, 1503, .inr (.inl p1))), (m2, .inl (cL, 1503, .inr (.inl p2))), (m3, .inl (cI, 36072, .inl p3)), (m4, .inl (cI, 1503, .inl p4)), (m5, .inl (cL, 1500, .inr (.inl p5))), (m6, .inl (cI, 1500, .inl p6)), (m7, .inl (cI, 1500, .inl p7)), (m8, .inl (cI, 50, .inl u.2.1)), (m9, .inl (cI, 50, .inl u.2.2.1)), (ma, .inl (cI, 1500, .inl u.2.2.2)), (mb, .inl (cI, 50, .inl pb))] t.heap ∧ va_K D classes (tyz cL cI) t ∧ va_D (A) [(mo, .inr (4, [.int mso, .ref m1, .ref m2, .ref m3, .ref m4, .ref m5, .ref m6, .int mct, .ref m7, .int mfr, .int mcu, .int u.1, .ref m8, .ref m9, .ref ma, .ref mb])), (m1, .inl (cL, 1503, .inr (.inl p1))), (m2, .inl (cL, 1503, .inr (.inl p2))), (m3, .inl (cI, 36072, .inl p3)), (m4, .inl (cI, 1503, .inl p4)), (m5, .inl (cL, 1500, .inr (.inl p5))), (m6, .inl (cI, 1500, .inl p6)), (m7, .inl (cI, 1500, .inl p7)), (m8, .inl (cI, 50, .inl u.2.1)), (m9, .inl (cI, 50, .inl u.2.2.1)), (ma, .inl (cI, 1500, .inl u.2.2.2)), (mb, .inl (cI, 50, .inl pb))]) (A)) ([.ref mo] : List Value).toArray s 0 0 A := ⟨_, rfl⟩
  rw [← hQ]
  refine lv_aload_n hx hb d_Mo_compact_0 rfl (lv_at hl 0 rfl) ?_
  refine lv_iconst (v := 0) hx hb d_Mo_compact_1 (by decide) ?_
  refine lv_topi (fun v1 e1 => ?_)
  have t1 : v1.toInt = 0 := by rw [e1]; rfl
  refine va_put (D := D) (ci := 4) (v := .int v1) (ty := .int) (C := R_Mo) (T := F_Mo) (N := 16) hx hb hts in_Mo t_Mo t_Mo_ok n_Mo hown hK hP hD hS 0 rfl rfl 11 (by decide) (hts _ tw_614) (fun _ h9 => h9) rfl (by decide +kernel) rfl rfl (Nat.le_of_ble_eq_true rfl) d_Mo_compact_2 (fun H locs hP hD hS => ?_)
  have hP : va_P D classes [(mo, .inr (4, [.int mso, .ref m1, .ref m2, .ref m3, .ref m4, .ref m5, .ref m6, .int mct, .ref m7, .int mfr, .int mcu, .int v1, .ref m8, .ref m9, .ref ma, .ref mb])), (m1, .inl (cL, 1503, .inr (.inl p1))), (m2, .inl (cL, 1503, .inr (.inl p2))), (m3, .inl (cI, 36072, .inl p3)), (m4, .inl (cI, 1503, .inl p4)), (m5, .inl (cL, 1500, .inr (.inl p5))), (m6, .inl (cI, 1500, .inl p6)), (m7, .inl (cI, 1500, .inl p7)), (m8, .inl (cI, 50, .inl p8)), (m9, .inl (cI, 50, .inl p9)), (ma, .inl (cI, 1500, .inl pa)), (mb, .inl (cI, 50, .inl pb))] H := hP
  have hD : va_D A [(mo, .inr (4, [.int mso, .ref m1, .ref m2, .ref m3, .ref m4, .ref m5, .ref m6, .int mct, .ref m7, .int mfr, .int mcu, .int v1, .ref m8, .ref m9, .ref ma, .ref mb])), (m1, .inl (cL, 1503, .inr (.inl p1))), (m2, .inl (cL, 1503, .inr (.inl p2))), (m3, .inl (cI, 36072, .inl p3)), (m4, .inl (cI, 1503, .inl p4)), (m5, .inl (cL, 1500, .inr (.inl p5))), (m6, .inl (cI, 1500, .inl p6)), (m7, .inl (cI, 1500, .inl p7)), (m8, .inl (cI, 50, .inl p8)), (m9, .inl (cI, 50, .inl p9)), (ma, .inl (cI, 1500, .inl pa)), (mb, .inl (cI, 50, .inl pb))] := hD
  refine lv_aload_n hx hb d_Mo_compact_5 rfl (lv_at hl 0 rfl) ?_
  have hPc := hP.sub (ws' := [(mo, .inr (4, [.int mso, .ref m1, .ref m2, .ref m3, .ref m4, .ref m5, .ref m6, .int mct, .ref m7, .int mfr, .int mcu, .int v1, .ref m8, .ref m9, .ref ma, .ref mb])), (m1, .inl (cL, 1503, .inr (.inl p1))), (m2, .inl (cL, 1503, .inr (.inl p2))), (m3, .inl (cI, 36072, .inl p3)), (m4, .inl (cI, 1503, .inl p4)), (m5, .inl (cL, 1500, .inr (.inl p5))), (m6, .inl (cI, 1500, .inl p6)), (m7, .inl (cI, 1500, .inl p7)), (m8, .inl (cI, 50, .inl p8)), (m9, .inl (cI, 50, .inl p9)), (ma, .inl (cI, 1500, .inl pa)), (mb, .inl (cI, 50, .inl pb))]) [0, 1, 2, 3, 4, 5, 6, 7, 8, 9, 10, 11] rfl
  have hDc := hD.sub (ws' := [(mo, .inr (4, [.int mso, .ref m1, .ref m2, .ref m3, .ref m4, .ref m5, .ref m6, .int mct, .ref m7, .int mfr, .int mcu, .int v1, .ref m8, .ref m9, .ref ma, .ref mb])), (m1, .inl (cL, 1503, .inr (.inl p1))), (m2, .inl (cL, 1503, .inr (.inl p2))), (m3, .inl (cI, 36072, .inl p3)), (m4, .inl (cI, 1503, .inl p4)), (m5, .inl (cL, 1500, .inr (.inl p5))), (m6, .inl (cI, 1500, .inl p6)), (m7, .inl (cI, 1500, .inl p7)), (m8, .inl (cI, 50, .inl p8)), (m9, .inl (cI, 50, .inl p9)), (ma, .inl (cI, 1500, .inl pa)), (mb, .inl (cI, 50, .inl pb))]) [0, 1, 2, 3, 4, 5, 6, 7, 8, 9, 10, 11] (by decide) rfl
  have hFc := va_free (wc := [(mo, .inr (4, [.int mso, .ref m1, .ref m2, .ref m3, .ref m4, .ref m5, .ref m6, .int mct, .ref m7, .int mfr, .int mcu, .int v1, .ref m8, .ref m9, .ref ma, .ref mb])), (m1, .inl (cL, 1503, .inr (.inl p1))), (m2, .inl (cL, 1503, .inr (.inl p2))), (m3, .inl (cI, 36072, .inl p3)), (m4, .inl (cI, 1503, .inl p4)), (m5, .inl (cL, 1500, .inr (.inl p5))), (m6, .inl (cI, 1500, .inl p6)), (m7, .inl (cI, 1500, .inl p7)), (m8, .inl (cI, 50, .inl p8)), (m9, .inl (cI, 50, .inl p9)), (ma, .inl (cI, 1500, .inl pa)), (mb, .inl (cI, 50, .inl pb))]) hD hS hA [0, 1, 2, 3, 4, 5, 6, 7, 8, 9, 10, 11] rfl
  refine va_callv (xr_mv (As := []) (rest := []) ⟨hx, hb, hml, hown, hts⟩ (c_Mo_look l D cL cI mo m1 m2 m3 m4 m5 m6 m7 m8 m9 ma mb mso mct mfr mcu v1 p1 p2 p5 p3 p4 p6 p7 p8 p9 pa pb w KW n H.size (by first | omega | exact hws) (by first | omega | exact hkr) (by first | omega | exact hct) (by first | omega | exact hn) (by first | omega | exact hor) (by first | omega | exact hs)) (xr_cv 0 hts tw_802 tw_799 tw_801 tp_20 tw_7 rfl rfl (by decide) ⟨Nat.le_of_ble_eq_true rfl, Nat.le_of_ble_eq_true rfl⟩) hK hPc (hDc.weaken (fun _ _ _ _ => trivial)) (va_recv hK hP rfl (q0 := 0) (ci := 4) rfl) rfl hl.1 rfl (Nat.le_of_ble_eq_true rfl) d_Mo_compact_6 ⟨Nat.le_of_ble_eq_true rfl, Nat.le_of_ble_eq_true rfl⟩) hS (fun q _ h => hFc q h) hFc (fun u6 tt6 H1 locs ht6 hvm6 e6 hB6 hz6 hk6 hS => ?_)
  obtain ⟨p8b_6, p9b_6, pab_6⟩ := u6
  have e6 : ∀ k, k + 1 < n → (pab_6 k).toInt = ((fun k => sh_w w ((fun k => KW (p6 k).toInt.toNat) (k + 1)) ((fun k => KW (p6 k).toInt.toNat) k)) k : Int) ∧ (pab_6 k).toInt < 50 := e6
  obtain ⟨hP1, hK1, hD1⟩ := hB6
  rw [ht6] at hP1
  obtain ⟨hP, hD⟩ := va_join (wr := []) (w1 := [(mo, .inr (4, [.int mso, .ref m1, .ref m2, .ref m3, .ref m4, .ref m5, .ref m6, .int mct, .ref m7, .int mfr, .int mcu, .int v1, .ref m8, .ref m9, .ref ma, .ref mb])), (m1, .inl (cL, 1503, .inr (.inl p1))), (m2, .inl (cL, 1503, .inr (.inl p2))), (m3, .inl (cI, 36072, .inl p3)), (m4, .inl (cI, 1503, .inl p4)), (m5, .inl (cL, 1500, .inr (.inl p5))), (m6, .inl (cI, 1500, .inl p6)), (m7, .inl (cI, 1500, .inl p7)), (m8, .inl (cI, 50, .inl p8b_6)), (m9, .inl (cI, 50, .inl p9b_6)), (ma, .inl (cI, 1500, .inl pab_6)), (mb, .inl (cI, 50, .inl pb))]) hP hD [0, 1, 2, 3, 4, 5, 6, 7, 8, 9, 10, 11] [] rfl rfl (by decide) (by decide) hk6 hFc hP1 hD1
  clear hP1 hD1 hPc hDc hFc
  generalize H1 = H at hP hS ⊢
  have hP : va_P D classes [(mo, .inr (4, [.int mso, .ref m1, .ref m2, .ref m3, .ref m4, .ref m5, .ref m6, .int mct, .ref m7, .int mfr, .int mcu, .int v1, .ref m8, .ref m9, .ref ma, .ref mb])), (m1, .inl (cL, 1503, .inr (.inl p1))), (m2, .inl (cL, 1503, .inr (.inl p2))), (m3, .inl (cI, 36072, .inl p3)), (m4, .inl (cI, 1503, .inl p4)), (m5, .inl (cL, 1500, .inr (.inl p5))), (m6, .inl (cI, 1500, .inl p6)), (m7, .inl (cI, 1500, .inl p7)), (m8, .inl (cI, 50, .inl p8b_6)), (m9, .inl (cI, 50, .inl p9b_6)), (ma, .inl (cI, 1500, .inl pab_6)), (mb, .inl (cI, 50, .inl pb))] H := hP
  have hD : va_D A [(mo, .inr (4, [.int mso, .ref m1, .ref m2, .ref m3, .ref m4, .ref m5, .ref m6, .int mct, .ref m7, .int mfr, .int mcu, .int v1, .ref m8, .ref m9, .ref ma, .ref mb])), (m1, .inl (cL, 1503, .inr (.inl p1))), (m2, .inl (cL, 1503, .inr (.inl p2))), (m3, .inl (cI, 36072, .inl p3)), (m4, .inl (cI, 1503, .inl p4)), (m5, .inl (cL, 1500, .inr (.inl p5))), (m6, .inl (cI, 1500, .inl p6)), (m7, .inl (cI, 1500, .inl p7)), (m8, .inl (cI, 50, .inl p8b_6)), (m9, .inl (cI, 50, .inl p9b_6)), (ma, .inl (cI, 1500, .inl pab_6)), (mb, .inl (cI, 50, .inl pb))] := hD
  have hpa9 : ∀ k, k + 1 < n → 0 ≤ (pab_6 k).toInt ∧ (pab_6 k).toInt < 50 := fun k hk => ⟨by rw [(e6 k hk).1]; exact Int.natCast_nonneg _, (e6 k hk).2⟩
  have hcg : ∀ i, i < n - 1 → (fun k => (pab_6 k).toInt.toNat) i = (fun k => sh_w w ((fun k => KW (p6 k).toInt.toNat) (k + 1)) ((fun k => KW (p6 k).toInt.toNat) k)) i := fun i hi => by
        have h9 := (e6 i (by omega)).1
        show (pab_6 i).toInt.toNat = _
        rw [h9]
        exact Int.toNat_natCast _
  refine lv_iconst (v := 0) hx hb d_Mo_compact_9 (by decide) ?_
  refine lv_topi (fun v9 e9 => ?_)
  have t9 : v9.toInt = 0 := by rw [e9]; rfl
  refine lv_istore_n (lv' := [(1, .int v9), (0, .ref mo)]) hx hb d_Mo_compact_10 rfl hl (by decide) rfl (fun ls hl => ?_)
  refine lv_iconst (v := 0) hx hb d_Mo_compact_11 (by decide) ?_
  refine lv_topi (fun v11 e11 => ?_)
  have t11 : v11.toInt = 0 := by rw [e11]; rfl
  refine lv_istore_n (lv' := [(2, .int v11), (1, .int v9), (0, .ref mo)]) hx hb d_Mo_compact_12 rfl hl (by decide) rfl (fun ls hl => ?_)
  have lp13 : ∀ (fuel13 : Nat) (kk : Int32) (nn : Int32) (f8z : Nat → Int32) (H : Heap) (locs : List Loc) (ls : Array Slot), lv_has ls 4 [(2, .int kk), (1, .int nn), (0, .ref mo)] → va_P D classes [(mo, .inr (4, [.int mso, .ref m1, .ref m2, .ref m3, .ref m4, .ref m5, .ref m6, .int mct, .ref m7, .int mfr, .int mcu, .int v1, .ref m8, .ref m9, .ref ma, .ref mb])), (m1, .inl (cL, 1503, .inr (.inl p1))), (m2, .inl (cL, 1503, .inr (.inl p2))), (m3, .inl (cI, 36072, .inl p3)), (m4, .inl (cI, 1503, .inl p4)), (m5, .inl (cL, 1500, .inr (.inl p5))), (m6, .inl (cI, 1500, .inl p6)), (m7, .inl (cI, 1500, .inl p7)), (m8, .inl (cI, 50, .inl f8z)), (m9, .inl (cI, 50, .inl p9b_6)), (ma, .inl (cI, 1500, .inl pab_6)), (mb, .inl (cI, 50, .inl pb))] H → va_D A [(mo, .inr (4, [.int mso, .ref m1, .ref m2, .ref m3, .ref m4, .ref m5, .ref m6, .int mct, .ref m7, .int mfr, .int mcu, .int v1, .ref m8, .ref m9, .ref ma, .ref mb])), (m1, .inl (cL, 1503, .inr (.inl p1))), (m2, .inl (cL, 1503, .inr (.inl p2))), (m3, .inl (cI, 36072, .inl p3)), (m4, .inl (cI, 1503, .inl p4)), (m5, .inl (cL, 1500, .inr (.inl p5))), (m6, .inl (cI, 1500, .inl p6)), (m7, .inl (cI, 1500, .inl p7)), (m8, .inl (cI, 50, .inl f8z)), (m9, .inl (cI, 50, .inl p9b_6)), (ma, .inl (cI, 1500, .inl pab_6)), (mb, .inl (cI, 50, .inl pb))] → va_S A s.heap H locs → (0 ≤ kk.toInt) → (kk.toInt ≤ (n : Int)) → (0 ≤ nn.toInt ∧ nn.toInt ≤ 300 * kk.toInt) → (nn.toInt = (cp_k (fun k => cl mso.toInt w p3 p4 (p6 k).toInt.toNat) kk.toInt.toNat : Int) + (cp_b (fun k => (pab_6 k).toInt.toNat) (n - 1) (if kk.toInt.toNat < n then kk.toInt.toNat else n - 1) : Nat)) → n - kk.toInt.toNat < fuel13 → W p l e ({ frames := 3, cells := 0, slots := 0, locals := 89 } : Room) s m ([.ref mo] : List Value).toArray below meth c H locs 0 0 Q (F0 m 13 ls []) := by
    intro fuel13
    induction fuel13 with
    | zero => intro kk nn f8z H locs ls hl hP hD hS h1 h2 h3 h4 hm13; exact absurd hm13 (Nat.not_lt_zero _)
    | succ fuel13 ih13 =>
      intro kk nn f8z H locs ls hl hP hD hS h1 h2 h3 h4 hm13
      refine lv_iload_n hx hb d_Mo_compact_13 rfl (lv_at hl 0 rfl) ?_
      refine lv_aload_n hx hb d_Mo_compact_14 rfl (lv_at hl 2 rfl) ?_
      refine va_get (D := D) (ci := 4) (v := .int mct) (C := R_Mo) (T := F_Mo) (N := 16) hx hb hts in_Mo hown hK hP 0 rfl rfl 7 (by decide) (hts _ tw_610) (fun _ h9 => h9) rfl d_Mo_compact_15 ?_
      refine lv_icmp_ge hx hb d_Mo_compact_18 (tgt := 115) (by decide) (fun g18 => ?_) (fun g18 => ?_)
      · have g18 := ic_le.mp g18
        refine lv_iload_n hx hb d_Mo_compact_115 rfl (lv_at hl 1 rfl) ?_
        have hpost : v1.toInt = 0 ∧ nn.toInt = (cp_k (fun k => cl mso.toInt w p3 p4 (p6 k).toInt.toNat) n : Int) + ((cb_end (fun k => sh_w w ((fun k => KW (p6 k).toInt.toNat) (k + 1)) ((fun k => KW (p6 k).toInt.toNat) k)) (n - 1)).2.1 0 * 9 + (cb_end (fun k => sh_w w ((fun k => KW (p6 k).toInt.toNat) (k + 1)) ((fun k => KW (p6 k).toInt.toNat) k)) (n - 1)).2.1 1 * 24 + (cb_end (fun k => sh_w w ((fun k => KW (p6 k).toInt.toNat) (k + 1)) ((fun k => KW (p6 k).toInt.toNat) k)) (n - 1)).2.1 2 * 116 + (cb_end (fun k => sh_w w ((fun k => KW (p6 k).toInt.toNat) (k + 1)) ((fun k => KW (p6 k).toInt.toNat) k)) (n - 1)).2.1 3 * 260 : Nat) := by
          refine ⟨t1, ?_⟩
          rw [h4, show kk.toInt.toNat = n by omega, if_neg (by omega), cp_sum]
          rw [← cb_end_congr hcg]
          have hz : ∀ s, cp_n (fun k => (pab_6 k).toInt.toNat) (n - 1) s (n - 1) = (cb_end (fun k => (pab_6 k).toInt.toNat) (n - 1)).2.1 s := fun s => (cb_end_sizes _ _ _).symm
          rw [hz, hz, hz, hz]
        have hP9 := hP.sub (ws' := [(mo, .inr (4, [.int mso, .ref m1, .ref m2, .ref m3, .ref m4, .ref m5, .ref m6, .int mct, .ref m7, .int mfr, .int mcu, .int v1, .ref m8, .ref m9, .ref ma, .ref mb])), (m1, .inl (cL, 1503, .inr (.inl p1))), (m2, .inl (cL, 1503, .inr (.inl p2))), (m3, .inl (cI, 36072, .inl p3)), (m4, .inl (cI, 1503, .inl p4)), (m5, .inl (cL, 1500, .inr (.inl p5))), (m6, .inl (cI, 1500, .inl p6)), (m7, .inl (cI, 1500, .inl p7)), (m8, .inl (cI, 50, .inl f8z)), (m9, .inl (cI, 50, .inl p9b_6)), (ma, .inl (cI, 1500, .inl pab_6)), (mb, .inl (cI, 50, .inl pb))]) [0, 1, 2, 3, 4, 5, 6, 7, 8, 9, 10, 11] rfl
        have hD9 := hD.sub (ws' := [(mo, .inr (4, [.int mso, .ref m1, .ref m2, .ref m3, .ref m4, .ref m5, .ref m6, .int mct, .ref m7, .int mfr, .int mcu, .int v1, .ref m8, .ref m9, .ref ma, .ref mb])), (m1, .inl (cL, 1503, .inr (.inl p1))), (m2, .inl (cL, 1503, .inr (.inl p2))), (m3, .inl (cI, 36072, .inl p3)), (m4, .inl (cI, 1503, .inl p4)), (m5, .inl (cL, 1500, .inr (.inl p5))), (m6, .inl (cI, 1500, .inl p6)), (m7, .inl (cI, 1500, .inl p7)), (m8, .inl (cI, 50, .inl f8z)), (m9, .inl (cI, 50, .inl p9b_6)), (ma, .inl (cI, 1500, .inl pab_6)), (mb, .inl (cI, 50, .inl pb))]) [0, 1, 2, 3, 4, 5, 6, 7, 8, 9, 10, 11] (by decide) rfl
        rw [hQ]
        exact W.iret (v := nn) hx hb hr (fun t ht hW => ⟨⟨nn, (v1, f8z, p9b_6, pab_6), rfl, hpost, by rw [ht]; exact hP9, va_K.moved hW.alike hK, hD9⟩, hS.F ht⟩) hS.2.2 d_Mo_compact_116
      · have g18 := ic_nle.mp g18
        refine lv_iload_n hx hb d_Mo_compact_21 rfl (lv_at hl 1 rfl) ?_
        refine lv_iconst (v := 4) hx hb d_Mo_compact_22 (by decide) ?_
        refine lv_topi (fun v22 e22 => ?_)
        have t22 : v22.toInt = 4 := by rw [e22]; rfl
        refine lv_aload_n hx hb d_Mo_compact_23 rfl (lv_at hl 2 rfl) ?_
        refine lv_aload_n hx hb d_Mo_compact_24 rfl (lv_at hl 2 rfl) ?_
        refine va_get (D := D) (ci := 4) (v := .ref m8) (C := R_Mo) (T := F_Mo) (N := 16) hx hb hts in_Mo hown hK hP 0 rfl rfl 12 (by decide) (hts _ tw_615) (fun _ h9 => h9) rfl d_Mo_compact_25 ?_
        refine lv_aload_n hx hb d_Mo_compact_28 rfl (lv_at hl 2 rfl) ?_
        refine va_get (D := D) (ci := 4) (v := .ref m6) (C := R_Mo) (T := F_Mo) (N := 16) hx hb hts in_Mo hown hK hP 0 rfl rfl 6 (by decide) (hts _ tw_609) (fun _ h9 => h9) rfl d_Mo_compact_29 ?_
        refine lv_iload_n hx hb d_Mo_compact_32 rfl (lv_at hl 0 rfl) ?_
        refine va_iald hx hb hK hP 6 1 rfl rfl (ia_in ⟨by omega, by omega⟩) d_Mo_compact_33 ?_
        refine lv_topi (fun v33 e33 => ?_)
        have e33 : v33 = p6 kk.toInt.toNat := e33
        have ho3 := hor kk.toInt.toNat (by omega)
        rw [← e33] at ho3
        have hx1 := hkr v33.toInt.toNat (by omega)
        have hc1 := cl_le hws hx1
        have hkst : cp_k (fun k => cl mso.toInt w p3 p4 (p6 k).toInt.toNat) (kk.toInt.toNat + 1) = cp_k (fun k => cl mso.toInt w p3 p4 (p6 k).toInt.toNat) kk.toInt.toNat + (4 + ((fun k => cl mso.toInt w p3 p4 (p6 k).toInt.toNat) kk.toInt.toNat + 3) / 4) := rfl
        have hPc := hP.sub (ws' := [(mo, .inr (4, [.int mso, .ref m1, .ref m2, .ref m3, .ref m4, .ref m5, .ref m6, .int mct, .ref m7, .int mfr, .int mcu, .int v1, .ref m8, .ref m9, .ref ma, .ref mb])), (m1, .inl (cL, 1503, .inr (.inl p1))), (m2, .inl (cL, 1503, .inr (.inl p2))), (m3, .inl (cI, 36072, .inl p3)), (m4, .inl (cI, 1503, .inl p4)), (m8, .inl (cI, 50, .inl f8z))]) [0, 1, 2, 3, 4, 8] rfl
        have hDc := hD.sub (ws' := [(mo, .inr (4, [.int mso, .ref m1, .ref m2, .ref m3, .ref m4, .ref m5, .ref m6, .int mct, .ref m7, .int mfr, .int mcu, .int v1, .ref m8, .ref m9, .ref ma, .ref mb])), (m1, .inl (cL, 1503, .inr (.inl p1))), (m2, .inl (cL, 1503, .inr (.inl p2))), (m3, .inl (cI, 36072, .inl p3)), (m4, .inl (cI, 1503, .inl p4)), (m8, .inl (cI, 50, .inl f8z))]) [0, 1, 2, 3, 4, 8] (by decide) rfl
        have hFc := va_free (wc := [(mo, .inr (4, [.int mso, .ref m1, .ref m2, .ref m3, .ref m4, .ref m5, .ref m6, .int mct, .ref m7, .int mfr, .int mcu, .int v1, .ref m8, .ref m9, .ref ma, .ref mb])), (m1, .inl (cL, 1503, .inr (.inl p1))), (m2, .inl (cL, 1503, .inr (.inl p2))), (m3, .inl (cI, 36072, .inl p3)), (m4, .inl (cI, 1503, .inl p4)), (m8, .inl (cI, 50, .inl f8z))]) hD hS hA [0, 1, 2, 3, 4, 8] rfl
        refine va_calli (xr_mv (As := [.ref m8, .int v33]) (rest := [.int v22, .int nn]) ⟨hx, hb, hml, hown, hts⟩ (c_Mo_encode l D cL cI mo m1 m2 m3 m4 m5 m6 m7 m8 m9 ma mb mso mct mfr mcu v1 p1 p2 p5 p3 p4 p6 p7 p8 p9 pa pb w KW m8 f8z v33 H.size (by first | omega | exact hws) (by first | omega | exact hkr) (by omega)) (xr_cv 2 hts tw_806 tw_803 tw_805 tp_21 tw_7 rfl rfl (by decide) ⟨Nat.le_of_ble_eq_true rfl, Nat.le_of_ble_eq_true rfl⟩) hK hPc (hDc.weaken (fun _ _ _ _ => trivial)) (va_recv hK hP rfl (q0 := 0) (ci := 4) rfl) rfl hl.1 rfl (Nat.le_of_ble_eq_true rfl) d_Mo_compact_34 ⟨Nat.le_of_ble_eq_true rfl, Nat.le_of_ble_eq_true rfl⟩) hS (fun q _ h => hFc q h) hFc (fun v34 u34 tt34 H1 locs ht34 hvm34 e34 hB34 hz34 hk34 hS => ?_)
        obtain ⟨ftb_34, rfl⟩ : ∃ z, z = u34 := ⟨_, rfl⟩
        have e34 : v34.toInt = (cl mso.toInt w p3 p4 v33.toInt.toNat : Int) ∧ ∀ d, d < cl mso.toInt w p3 p4 v33.toInt.toNat → (ftb_34 d).toInt = (by_w (KW v33.toInt.toNat) d : Int) := e34
        obtain ⟨hP1, hK1, hD1⟩ := hB34
        rw [ht34] at hP1
        obtain ⟨hP, hD⟩ := va_join (wr := [(m5, .inl (cL, 1500, .inr (.inl p5))), (m6, .inl (cI, 1500, .inl p6)), (m7, .inl (cI, 1500, .inl p7)), (m9, .inl (cI, 50, .inl p9b_6)), (ma, .inl (cI, 1500, .inl pab_6)), (mb, .inl (cI, 50, .inl pb))]) (w1 := [(mo, .inr (4, [.int mso, .ref m1, .ref m2, .ref m3, .ref m4, .ref m5, .ref m6, .int mct, .ref m7, .int mfr, .int mcu, .int v1, .ref m8, .ref m9, .ref ma, .ref mb])), (m1, .inl (cL, 1503, .inr (.inl p1))), (m2, .inl (cL, 1503, .inr (.inl p2))), (m3, .inl (cI, 36072, .inl p3)), (m4, .inl (cI, 1503, .inl p4)), (m8, .inl (cI, 50, .inl ftb_34))]) hP hD [0, 1, 2, 3, 4, 8] [5, 6, 7, 9, 10, 11] rfl rfl (by decide) (by decide) hk34 hFc hP1 hD1
        clear hP1 hD1 hPc hDc hFc
        generalize H1 = H at hP hS ⊢
        have hP : va_P D classes [(m5, .inl (cL, 1500, .inr (.inl p5))), (m6, .inl (cI, 1500, .inl p6)), (m7, .inl (cI, 1500, .inl p7)), (m9, .inl (cI, 50, .inl p9b_6)), (ma, .inl (cI, 1500, .inl pab_6)), (mb, .inl (cI, 50, .inl pb)), (mo, .inr (4, [.int mso, .ref m1, .ref m2, .ref m3, .ref m4, .ref m5, .ref m6, .int mct, .ref m7, .int mfr, .int mcu, .int v1, .ref m8, .ref m9, .ref ma, .ref mb])), (m1, .inl (cL, 1503, .inr (.inl p1))), (m2, .inl (cL, 1503, .inr (.inl p2))), (m3, .inl (cI, 36072, .inl p3)), (m4, .inl (cI, 1503, .inl p4)), (m8, .inl (cI, 50, .inl ftb_34))] H := hP
        have hD : va_D A [(m5, .inl (cL, 1500, .inr (.inl p5))), (m6, .inl (cI, 1500, .inl p6)), (m7, .inl (cI, 1500, .inl p7)), (m9, .inl (cI, 50, .inl p9b_6)), (ma, .inl (cI, 1500, .inl pab_6)), (mb, .inl (cI, 50, .inl pb)), (mo, .inr (4, [.int mso, .ref m1, .ref m2, .ref m3, .ref m4, .ref m5, .ref m6, .int mct, .ref m7, .int mfr, .int mcu, .int v1, .ref m8, .ref m9, .ref ma, .ref mb])), (m1, .inl (cL, 1503, .inr (.inl p1))), (m2, .inl (cL, 1503, .inr (.inl p2))), (m3, .inl (cI, 36072, .inl p3)), (m4, .inl (cI, 1503, .inl p4)), (m8, .inl (cI, 50, .inl ftb_34))] := hD
        have hce : (cl mso.toInt w p3 p4 v33.toInt.toNat) = (fun k => cl mso.toInt w p3 p4 (p6 k).toInt.toNat) kk.toInt.toNat := by show _ = cl mso.toInt w p3 p4 (p6 kk.toInt.toNat).toInt.toNat; rw [← e33]
        refine lv_iconst (v := 3) hx hb d_Mo_compact_37 (by decide) ?_
        refine lv_topi (fun v37 e37 => ?_)
        have t37 : v37.toInt = 3 := by rw [e37]; rfl
        refine lv_iadd hx hb d_Mo_compact_38 ?_
        refine lv_topi (fun v38 e38 => ?_)
        have t38 := ia_add e38 ⟨by omega, by omega⟩
        refine lv_iconst (v := 4) hx hb d_Mo_compact_39 (by decide) ?_
        refine lv_topi (fun v39 e39 => ?_)
        have t39 : v39.toInt = 4 := by rw [e39]; rfl
        refine lv_idiv hx hb d_Mo_compact_40 (ia_ne0 (by omega)) ?_
        refine lv_topi (fun v40 e40 => ?_)
        have t40 := ia_div 4 e40 (by omega) (by omega) (by omega)
        refine lv_iadd hx hb d_Mo_compact_41 ?_
        refine lv_topi (fun v41 e41 => ?_)
        have t41 := ia_add e41 ⟨by omega, by omega⟩
        refine lv_iadd hx hb d_Mo_compact_42 ?_
        refine lv_topi (fun v42 e42 => ?_)
        have t42 := ia_add e42 ⟨by omega, by omega⟩
        refine lv_istore_n (lv' := [(1, .int v42), (2, .int kk), (0, .ref mo)]) hx hb d_Mo_compact_43 rfl hl (by decide) rfl (fun ls hl => ?_)
        refine lv_iload_n hx hb d_Mo_compact_44 rfl (lv_at hl 1 rfl) ?_
        refine lv_iconst (v := 1) hx hb d_Mo_compact_45 (by decide) ?_
        refine lv_topi (fun v45 e45 => ?_)
        have t45 : v45.toInt = 1 := by rw [e45]; rfl
        refine lv_iadd hx hb d_Mo_compact_46 ?_
        refine lv_topi (fun v46 e46 => ?_)
        have t46 := ia_add e46 ⟨by omega, by omega⟩
        refine lv_aload_n hx hb d_Mo_compact_47 rfl (lv_at hl 2 rfl) ?_
        refine va_get (D := D) (ci := 4) (v := .int mct) (C := R_Mo) (T := F_Mo) (N := 16) hx hb hts in_Mo hown hK hP 6 rfl rfl 7 (by decide) (hts _ tw_610) (fun _ h9 => h9) rfl d_Mo_compact_48 ?_
        refine lv_icmp_eq hx hb d_Mo_compact_51 (tgt := 109) (by decide) (fun g51 => ?_) (fun g51 => ?_)
        · have g51 := ic_eq.mp g51
          obtain ⟨v109, e109⟩ : ∃ z, z = kk + Int32.ofInt 1 := ⟨_, rfl⟩
          have t109 := ia_inc 1 e109 (by decide) ⟨by omega, by omega⟩
          refine lv_iinc (k := 1) (lv' := [(2, .int v109), (1, .int v42), (0, .ref mo)]) hx hb d_Mo_compact_109 hl rfl e109.symm (by decide) rfl (fun ls hl => ?_)
          refine lv_goto hx hb d_Mo_compact_112 (tgt := 13) (by decide) ?_
          have hPz := hP.sub (ws' := [(mo, .inr (4, [.int mso, .ref m1, .ref m2, .ref m3, .ref m4, .ref m5, .ref m6, .int mct, .ref m7, .int mfr, .int mcu, .int v1, .ref m8, .ref m9, .ref ma, .ref mb])), (m1, .inl (cL, 1503, .inr (.inl p1))), (m2, .inl (cL, 1503, .inr (.inl p2))), (m3, .inl (cI, 36072, .inl p3)), (m4, .inl (cI, 1503, .inl p4)), (m5, .inl (cL, 1500, .inr (.inl p5))), (m6, .inl (cI, 1500, .inl p6)), (m7, .inl (cI, 1500, .inl p7)), (m8, .inl (cI, 50, .inl ftb_34)), (m9, .inl (cI, 50, .inl p9b_6)), (ma, .inl (cI, 1500, .inl pab_6)), (mb, .inl (cI, 50, .inl pb))]) [6, 7, 8, 9, 10, 0, 1, 2, 11, 3, 4, 5] rfl
          have hDz := hD.sub (ws' := [(mo, .inr (4, [.int mso, .ref m1, .ref m2, .ref m3, .ref m4, .ref m5, .ref m6, .int mct, .ref m7, .int mfr, .int mcu, .int v1, .ref m8, .ref m9, .ref ma, .ref mb])), (m1, .inl (cL, 1503, .inr (.inl p1))), (m2, .inl (cL, 1503, .inr (.inl p2))), (m3, .inl (cI, 36072, .inl p3)), (m4, .inl (cI, 1503, .inl p4)), (m5, .inl (cL, 1500, .inr (.inl p5))), (m6, .inl (cI, 1500, .inl p6)), (m7, .inl (cI, 1500, .inl p7)), (m8, .inl (cI, 50, .inl ftb_34)), (m9, .inl (cI, 50, .inl p9b_6)), (ma, .inl (cI, 1500, .inl pab_6)), (mb, .inl (cI, 50, .inl pb))]) [6, 7, 8, 9, 10, 0, 1, 2, 11, 3, 4, 5] (by decide) rfl
          exact ih13 v109 v42 ftb_34 H locs ls hl hPz hDz hS (by omega) (by omega) (by omega) (by
                rw [if_pos (by omega)] at h4
                rw [show v109.toInt.toNat = kk.toInt.toNat + 1 by omega, hkst]
                first
                | (rw [if_neg (by omega), show n - 1 = kk.toInt.toNat by omega]; rw [show n - 1 = kk.toInt.toNat by omega] at h4; omega)
                | (rw [if_pos (by omega), hbst]
                   rcases i3 with ⟨j1, j2⟩ | ⟨j1, j2⟩
                   · first
                     | (exfalso; omega)
                     | (rw [if_pos j2]
                        unfold bcell
                        first
                        | (rw [if_pos (by omega)]; omega)
                        | (rw [if_neg (by omega), if_pos (by omega)]; omega)
                        | (rw [if_neg (by omega), if_neg (by omega), if_pos (by omega)]; omega)
                        | (rw [if_neg (by omega), if_neg (by omega), if_neg (by omega)]; omega))
                   · first
                     | (exfalso; omega)
                     | (rw [if_neg j2]; omega))) (by omega)
        · have g51 := ic_ne.mp g51
          refine lv_aload_n hx hb d_Mo_compact_54 rfl (lv_at hl 2 rfl) ?_
          refine lv_iload_n hx hb d_Mo_compact_55 rfl (lv_at hl 1 rfl) ?_
          refine vp_callSi (xr_rv (As := [.int kk]) (rest := []) ⟨hx, hb, hml, hown, hts⟩ (c_Mo_isFirst l D cL cI mo m1 m2 m3 m4 m5 m6 m7 m8 m9 ma mb mso mct mfr mcu v1 p1 p2 p5 p3 p4 p6 p7 ftb_34 p9b_6 pab_6 pb n kk (by first | omega | exact hct) (by first | omega | exact hn) (hpa9) (by first | omega | exact hka)) (xr_cv 1 hts tw_811 tw_808 tw_810 tp_22 tw_7 rfl rfl (by decide) ⟨Nat.le_of_ble_eq_true rfl, Nat.le_of_ble_eq_true rfl⟩) hK (hP.sub (ws' := [(mo, .inr (4, [.int mso, .ref m1, .ref m2, .ref m3, .ref m4, .ref m5, .ref m6, .int mct, .ref m7, .int mfr, .int mcu, .int v1, .ref m8, .ref m9, .ref ma, .ref mb])), (m1, .inl (cL, 1503, .inr (.inl p1))), (m2, .inl (cL, 1503, .inr (.inl p2))), (m3, .inl (cI, 36072, .inl p3)), (m4, .inl (cI, 1503, .inl p4)), (m5, .inl (cL, 1500, .inr (.inl p5))), (m6, .inl (cI, 1500, .inl p6)), (m7, .inl (cI, 1500, .inl p7)), (m8, .inl (cI, 50, .inl ftb_34)), (m9, .inl (cI, 50, .inl p9b_6)), (ma, .inl (cI, 1500, .inl pab_6)), (mb, .inl (cI, 50, .inl pb))]) [6, 7, 8, 9, 10, 0, 1, 2, 11, 3, 4, 5] rfl) (va_recv hK hP rfl (q0 := 6) (ci := 4) rfl) rfl hl.1 rfl (Nat.le_of_ble_eq_true rfl) d_Mo_compact_56 ⟨Nat.le_of_ble_eq_true rfl, Nat.le_of_ble_eq_true rfl⟩) (fun v56 e56 => ?_)
          have e56 : (v56 = 0 ∨ v56 = 1) ∧ (v56 = 1 ↔ cb_first (fun k => (pab_6 k).toInt.toNat) kk.toInt.toNat = true) := e56
          have i3 := b01 e56
          have hbst : cp_b (fun k => (pab_6 k).toInt.toNat) (n - 1) (kk.toInt.toNat + 1) = cp_b (fun k => (pab_6 k).toInt.toNat) (n - 1) kk.toInt.toNat + (if cb_first (fun k => (pab_6 k).toInt.toNat) kk.toInt.toNat = true then bcell (cb_size (cb_ch (fun k => (pab_6 k).toInt.toNat) (n - 1) kk.toInt.toNat)) else 0) := rfl
          refine lv_if_ne hx hb d_Mo_compact_59 (tgt := 65) (by decide) (fun g59 => ?_) (fun g59 => ?_)
          · have g59 := (iz_ne).mp g59
            refine lv_aload_n hx hb d_Mo_compact_65 rfl (lv_at hl 2 rfl) ?_
            refine lv_iload_n hx hb d_Mo_compact_66 rfl (lv_at hl 1 rfl) ?_
            refine vp_callSi (xr_rv (As := [.int kk]) (rest := []) ⟨hx, hb, hml, hown, hts⟩ (c_Mo_children l D cL cI mo m1 m2 m3 m4 m5 m6 m7 m8 m9 ma mb mso mct mfr mcu v1 p1 p2 p5 p3 p4 p6 p7 ftb_34 p9b_6 pab_6 pb n kk (by first | omega | exact hct) (by first | omega | exact hn) (hpa9) (by first | omega | exact hka)) (xr_cv 1 hts tw_815 tw_812 tw_814 tp_23 tw_7 rfl rfl (by decide) ⟨Nat.le_of_ble_eq_true rfl, Nat.le_of_ble_eq_true rfl⟩) hK (hP.sub (ws' := [(mo, .inr (4, [.int mso, .ref m1, .ref m2, .ref m3, .ref m4, .ref m5, .ref m6, .int mct, .ref m7, .int mfr, .int mcu, .int v1, .ref m8, .ref m9, .ref ma, .ref mb])), (m1, .inl (cL, 1503, .inr (.inl p1))), (m2, .inl (cL, 1503, .inr (.inl p2))), (m3, .inl (cI, 36072, .inl p3)), (m4, .inl (cI, 1503, .inl p4)), (m5, .inl (cL, 1500, .inr (.inl p5))), (m6, .inl (cI, 1500, .inl p6)), (m7, .inl (cI, 1500, .inl p7)), (m8, .inl (cI, 50, .inl ftb_34)), (m9, .inl (cI, 50, .inl p9b_6)), (ma, .inl (cI, 1500, .inl pab_6)), (mb, .inl (cI, 50, .inl pb))]) [6, 7, 8, 9, 10, 0, 1, 2, 11, 3, 4, 5] rfl) (va_recv hK hP rfl (q0 := 6) (ci := 4) rfl) rfl hl.1 rfl (Nat.le_of_ble_eq_true rfl) d_Mo_compact_67 ⟨Nat.le_of_ble_eq_true rfl, Nat.le_of_ble_eq_true rfl⟩) (fun v67 e67 => ?_)
            have e67 : v67.toInt = (cb_ch (fun k => (pab_6 k).toInt.toNat) (n - 1) kk.toInt.toNat : Int) ∧ 0 ≤ v67.toInt := e67
            refine vp_callSi (xr_rs (As := [.int v67]) (rest := []) ⟨hx, hb, hml, hown, hts⟩ (c_Mo_sizeOf l D cL cI v67 (e67.2)) (xr_cs 1 hts tw_818 tw_816 tw_817 tw_7 rfl rfl (by decide) ⟨Nat.le_of_ble_eq_true rfl, Nat.le_of_ble_eq_true rfl⟩) hK (hP.sub (ws' := []) [] rfl) rfl hl.1 rfl (Nat.le_of_ble_eq_true rfl) d_Mo_compact_70 ⟨Nat.le_of_ble_eq_true rfl, Nat.le_of_ble_eq_true rfl⟩) (fun v70 e70 => ?_)
            have e70 : v70.toInt = (cb_size v67.toInt.toNat : Int) ∧ 0 ≤ v70.toInt ∧ v70.toInt < 4 := e70
            have hsz := e70.1
            rw [show v67.toInt.toNat = cb_ch (fun k => (pab_6 k).toInt.toNat) (n - 1) kk.toInt.toNat by omega] at hsz
            refine lv_istore_n (lv' := [(3, .int v70), (1, .int v42), (2, .int kk), (0, .ref mo)]) hx hb d_Mo_compact_73 rfl hl (by decide) rfl (fun ls hl => ?_)
            refine lv_iload_n hx hb d_Mo_compact_74 rfl (lv_at hl 1 rfl) ?_
            refine lv_iload_n hx hb d_Mo_compact_75 rfl (lv_at hl 0 rfl) ?_
            refine lv_if_ne hx hb d_Mo_compact_76 (tgt := 84) (by decide) (fun g76 => ?_) (fun g76 => ?_)
            · have g76 := (iz_ne).mp g76
              refine lv_iload_n hx hb d_Mo_compact_84 rfl (lv_at hl 0 rfl) ?_
              refine lv_iconst (v := 1) hx hb d_Mo_compact_85 (by decide) ?_
              refine lv_topi (fun v85 e85 => ?_)
              have t85 : v85.toInt = 1 := by rw [e85]; rfl
              refine lv_icmp_ne hx hb d_Mo_compact_86 (tgt := 94) (by decide) (fun g86 => ?_) (fun g86 => ?_)
              · have g86 := ic_ne.mp g86
                refine lv_iload_n hx hb d_Mo_compact_94 rfl (lv_at hl 0 rfl) ?_
                refine lv_iconst (v := 2) hx hb d_Mo_compact_95 (by decide) ?_
                refine lv_topi (fun v95 e95 => ?_)
                have t95 : v95.toInt = 2 := by rw [e95]; rfl
                refine lv_icmp_ne hx hb d_Mo_compact_96 (tgt := 104) (by decide) (fun g96 => ?_) (fun g96 => ?_)
                · have g96 := ic_ne.mp g96
                  refine lv_sipush (v := 260) hx hb d_Mo_compact_104 (by decide) ?_
                  refine lv_topi (fun v104 e104 => ?_)
                  have t104 : v104.toInt = 260 := by rw [e104]; rfl
                  refine lv_iadd hx hb d_Mo_compact_107 ?_
                  refine lv_topi (fun v107 e107 => ?_)
                  have t107 := ia_add e107 ⟨by omega, by omega⟩
                  refine lv_istore_n (lv' := [(1, .int v107), (3, .int v70), (2, .int kk), (0, .ref mo)]) hx hb d_Mo_compact_108 rfl hl (by decide) rfl (fun ls hl => ?_)
                  obtain ⟨v109, e109⟩ : ∃ z, z = kk + Int32.ofInt 1 := ⟨_, rfl⟩
                  have t109 := ia_inc 1 e109 (by decide) ⟨by omega, by omega⟩
                  refine lv_iinc (k := 2) (lv' := [(2, .int v109), (1, .int v107), (3, .int v70), (0, .ref mo)]) hx hb d_Mo_compact_109 hl rfl e109.symm (by decide) rfl (fun ls hl => ?_)
                  refine lv_goto hx hb d_Mo_compact_112 (tgt := 13) (by decide) ?_
                  have hPz := hP.sub (ws' := [(mo, .inr (4, [.int mso, .ref m1, .ref m2, .ref m3, .ref m4, .ref m5, .ref m6, .int mct, .ref m7, .int mfr, .int mcu, .int v1, .ref m8, .ref m9, .ref ma, .ref mb])), (m1, .inl (cL, 1503, .inr (.inl p1))), (m2, .inl (cL, 1503, .inr (.inl p2))), (m3, .inl (cI, 36072, .inl p3)), (m4, .inl (cI, 1503, .inl p4)), (m5, .inl (cL, 1500, .inr (.inl p5))), (m6, .inl (cI, 1500, .inl p6)), (m7, .inl (cI, 1500, .inl p7)), (m8, .inl (cI, 50, .inl ftb_34)), (m9, .inl (cI, 50, .inl p9b_6)), (ma, .inl (cI, 1500, .inl pab_6)), (mb, .inl (cI, 50, .inl pb))]) [6, 7, 8, 9, 10, 0, 1, 2, 11, 3, 4, 5] rfl
                  have hDz := hD.sub (ws' := [(mo, .inr (4, [.int mso, .ref m1, .ref m2, .ref m3, .ref m4, .ref m5, .ref m6, .int mct, .ref m7, .int mfr, .int mcu, .int v1, .ref m8, .ref m9, .ref ma, .ref mb])), (m1, .inl (cL, 1503, .inr (.inl p1))), (m2, .inl (cL, 1503, .inr (.inl p2))), (m3, .inl (cI, 36072, .inl p3)), (m4, .inl (cI, 1503, .inl p4)), (m5, .inl (cL, 1500, .inr (.inl p5))), (m6, .inl (cI, 1500, .inl p6)), (m7, .inl (cI, 1500, .inl p7)), (m8, .inl (cI, 50, .inl ftb_34)), (m9, .inl (cI, 50, .inl p9b_6)), (ma, .inl (cI, 1500, .inl pab_6)), (mb, .inl (cI, 50, .inl pb))]) [6, 7, 8, 9, 10, 0, 1, 2, 11, 3, 4, 5] (by decide) rfl
                  exact ih13 v109 v107 ftb_34 H locs ls (lv_sub hl [0, 1, 3] rfl) hPz hDz hS (by omega) (by omega) (by omega) (by
                        rw [if_pos (by omega)] at h4
                        rw [show v109.toInt.toNat = kk.toInt.toNat + 1 by omega, hkst]
                        first
                        | (rw [if_neg (by omega), show n - 1 = kk.toInt.toNat by omega]; rw [show n - 1 = kk.toInt.toNat by omega] at h4; omega)
                        | (rw [if_pos (by omega), hbst]
                           rcases i3 with ⟨j1, j2⟩ | ⟨j1, j2⟩
                           · first
                             | (exfalso; omega)
                             | (rw [if_pos j2]
                                unfold bcell
                                first
                                | (rw [if_pos (by omega)]; omega)
                                | (rw [if_neg (by omega), if_pos (by omega)]; omega)
                                | (rw [if_neg (by omega), if_neg (by omega), if_pos (by omega)]; omega)
                                | (rw [if_neg (by omega), if_neg (by omega), if_neg (by omega)]; omega))
                           · first
                             | (exfalso; omega)
                             | (rw [if_neg j2]; omega))) (by omega)
                · have g96 := ic_eq.mp g96
                  refine lv_bipush (v := 116) hx hb d_Mo_compact_99 (by decide) ?_
                  refine lv_topi (fun v99 e99 => ?_)
                  have t99 : v99.toInt = 116 := by rw [e99]; rfl
                  refine lv_goto hx hb d_Mo_compact_101 (tgt := 107) (by decide) ?_
                  refine lv_iadd hx hb d_Mo_compact_107 ?_
                  refine lv_topi (fun v107 e107 => ?_)
                  have t107 := ia_add e107 ⟨by omega, by omega⟩
                  refine lv_istore_n (lv' := [(1, .int v107), (3, .int v70), (2, .int kk), (0, .ref mo)]) hx hb d_Mo_compact_108 rfl hl (by decide) rfl (fun ls hl => ?_)
                  obtain ⟨v109, e109⟩ : ∃ z, z = kk + Int32.ofInt 1 := ⟨_, rfl⟩
                  have t109 := ia_inc 1 e109 (by decide) ⟨by omega, by omega⟩
                  refine lv_iinc (k := 2) (lv' := [(2, .int v109), (1, .int v107), (3, .int v70), (0, .ref mo)]) hx hb d_Mo_compact_109 hl rfl e109.symm (by decide) rfl (fun ls hl => ?_)
                  refine lv_goto hx hb d_Mo_compact_112 (tgt := 13) (by decide) ?_
                  have hPz := hP.sub (ws' := [(mo, .inr (4, [.int mso, .ref m1, .ref m2, .ref m3, .ref m4, .ref m5, .ref m6, .int mct, .ref m7, .int mfr, .int mcu, .int v1, .ref m8, .ref m9, .ref ma, .ref mb])), (m1, .inl (cL, 1503, .inr (.inl p1))), (m2, .inl (cL, 1503, .inr (.inl p2))), (m3, .inl (cI, 36072, .inl p3)), (m4, .inl (cI, 1503, .inl p4)), (m5, .inl (cL, 1500, .inr (.inl p5))), (m6, .inl (cI, 1500, .inl p6)), (m7, .inl (cI, 1500, .inl p7)), (m8, .inl (cI, 50, .inl ftb_34)), (m9, .inl (cI, 50, .inl p9b_6)), (ma, .inl (cI, 1500, .inl pab_6)), (mb, .inl (cI, 50, .inl pb))]) [6, 7, 8, 9, 10, 0, 1, 2, 11, 3, 4, 5] rfl
                  have hDz := hD.sub (ws' := [(mo, .inr (4, [.int mso, .ref m1, .ref m2, .ref m3, .ref m4, .ref m5, .ref m6, .int mct, .ref m7, .int mfr, .int mcu, .int v1, .ref m8, .ref m9, .ref ma, .ref mb])), (m1, .inl (cL, 1503, .inr (.inl p1))), (m2, .inl (cL, 1503, .inr (.inl p2))), (m3, .inl (cI, 36072, .inl p3)), (m4, .inl (cI, 1503, .inl p4)), (m5, .inl (cL, 1500, .inr (.inl p5))), (m6, .inl (cI, 1500, .inl p6)), (m7, .inl (cI, 1500, .inl p7)), (m8, .inl (cI, 50, .inl ftb_34)), (m9, .inl (cI, 50, .inl p9b_6)), (ma, .inl (cI, 1500, .inl pab_6)), (mb, .inl (cI, 50, .inl pb))]) [6, 7, 8, 9, 10, 0, 1, 2, 11, 3, 4, 5] (by decide) rfl
                  exact ih13 v109 v107 ftb_34 H locs ls (lv_sub hl [0, 1, 3] rfl) hPz hDz hS (by omega) (by omega) (by omega) (by
                        rw [if_pos (by omega)] at h4
                        rw [show v109.toInt.toNat = kk.toInt.toNat + 1 by omega, hkst]
                        first
                        | (rw [if_neg (by omega), show n - 1 = kk.toInt.toNat by omega]; rw [show n - 1 = kk.toInt.toNat by omega] at h4; omega)
                        | (rw [if_pos (by omega), hbst]
                           rcases i3 with ⟨j1, j2⟩ | ⟨j1, j2⟩
                           · first
                             | (exfalso; omega)
                             | (rw [if_pos j2]
                                unfold bcell
                                first
                                | (rw [if_pos (by omega)]; omega)
                                | (rw [if_neg (by omega), if_pos (by omega)]; omega)
                                | (rw [if_neg (by omega), if_neg (by omega), if_pos (by omega)]; omega)
                                | (rw [if_neg (by omega), if_neg (by omega), if_neg (by omega)]; omega))
                           · first
                             | (exfalso; omega)
                             | (rw [if_neg j2]; omega))) (by omega)
              · have g86 := ic_eq.mp g86
                refine lv_bipush (v := 24) hx hb d_Mo_compact_89 (by decide) ?_
                refine lv_topi (fun v89 e89 => ?_)
                have t89 : v89.toInt = 24 := by rw [e89]; rfl
                refine lv_goto hx hb d_Mo_compact_91 (tgt := 107) (by decide) ?_
                refine lv_iadd hx hb d_Mo_compact_107 ?_
                refine lv_topi (fun v107 e107 => ?_)
                have t107 := ia_add e107 ⟨by omega, by omega⟩
                refine lv_istore_n (lv' := [(1, .int v107), (3, .int v70), (2, .int kk), (0, .ref mo)]) hx hb d_Mo_compact_108 rfl hl (by decide) rfl (fun ls hl => ?_)
                obtain ⟨v109, e109⟩ : ∃ z, z = kk + Int32.ofInt 1 := ⟨_, rfl⟩
                have t109 := ia_inc 1 e109 (by decide) ⟨by omega, by omega⟩
                refine lv_iinc (k := 2) (lv' := [(2, .int v109), (1, .int v107), (3, .int v70), (0, .ref mo)]) hx hb d_Mo_compact_109 hl rfl e109.symm (by decide) rfl (fun ls hl => ?_)
                refine lv_goto hx hb d_Mo_compact_112 (tgt := 13) (by decide) ?_
                have hPz := hP.sub (ws' := [(mo, .inr (4, [.int mso, .ref m1, .ref m2, .ref m3, .ref m4, .ref m5, .ref m6, .int mct, .ref m7, .int mfr, .int mcu, .int v1, .ref m8, .ref m9, .ref ma, .ref mb])), (m1, .inl (cL, 1503, .inr (.inl p1))), (m2, .inl (cL, 1503, .inr (.inl p2))), (m3, .inl (cI, 36072, .inl p3)), (m4, .inl (cI, 1503, .inl p4)), (m5, .inl (cL, 1500, .inr (.inl p5))), (m6, .inl (cI, 1500, .inl p6)), (m7, .inl (cI, 1500, .inl p7)), (m8, .inl (cI, 50, .inl ftb_34)), (m9, .inl (cI, 50, .inl p9b_6)), (ma, .inl (cI, 1500, .inl pab_6)), (mb, .inl (cI, 50, .inl pb))]) [6, 7, 8, 9, 10, 0, 1, 2, 11, 3, 4, 5] rfl
                have hDz := hD.sub (ws' := [(mo, .inr (4, [.int mso, .ref m1, .ref m2, .ref m3, .ref m4, .ref m5, .ref m6, .int mct, .ref m7, .int mfr, .int mcu, .int v1, .ref m8, .ref m9, .ref ma, .ref mb])), (m1, .inl (cL, 1503, .inr (.inl p1))), (m2, .inl (cL, 1503, .inr (.inl p2))), (m3, .inl (cI, 36072, .inl p3)), (m4, .inl (cI, 1503, .inl p4)), (m5, .inl (cL, 1500, .inr (.inl p5))), (m6, .inl (cI, 1500, .inl p6)), (m7, .inl (cI, 1500, .inl p7)), (m8, .inl (cI, 50, .inl ftb_34)), (m9, .inl (cI, 50, .inl p9b_6)), (ma, .inl (cI, 1500, .inl pab_6)), (mb, .inl (cI, 50, .inl pb))]) [6, 7, 8, 9, 10, 0, 1, 2, 11, 3, 4, 5] (by decide) rfl
                exact ih13 v109 v107 ftb_34 H locs ls (lv_sub hl [0, 1, 3] rfl) hPz hDz hS (by omega) (by omega) (by omega) (by
                      rw [if_pos (by omega)] at h4
                      rw [show v109.toInt.toNat = kk.toInt.toNat + 1 by omega, hkst]
                      first
                      | (rw [if_neg (by omega), show n - 1 = kk.toInt.toNat by omega]; rw [show n - 1 = kk.toInt.toNat by omega] at h4; omega)
                      | (rw [if_pos (by omega), hbst]
                         rcases i3 with ⟨j1, j2⟩ | ⟨j1, j2⟩
                         · first
                           | (exfalso; omega)
                           | (rw [if_pos j2]
                              unfold bcell
                              first
                              | (rw [if_pos (by omega)]; omega)
                              | (rw [if_neg (by omega), if_pos (by omega)]; omega)
                              | (rw [if_neg (by omega), if_neg (by omega), if_pos (by omega)]; omega)
                              | (rw [if_neg (by omega), if_neg (by omega), if_neg (by omega)]; omega))
                         · first
                           | (exfalso; omega)
                           | (rw [if_neg j2]; omega))) (by omega)
            · have g76 := (iz_eq).mp g76
              refine lv_bipush (v := 9) hx hb d_Mo_compact_79 (by decide) ?_
              refine lv_topi (fun v79 e79 => ?_)
              have t79 : v79.toInt = 9 := by rw [e79]; rfl
              refine lv_goto hx hb d_Mo_compact_81 (tgt := 107) (by decide) ?_
              refine lv_iadd hx hb d_Mo_compact_107 ?_
              refine lv_topi (fun v107 e107 => ?_)
              have t107 := ia_add e107 ⟨by omega, by omega⟩
              refine lv_istore_n (lv' := [(1, .int v107), (3, .int v70), (2, .int kk), (0, .ref mo)]) hx hb d_Mo_compact_108 rfl hl (by decide) rfl (fun ls hl => ?_)
              obtain ⟨v109, e109⟩ : ∃ z, z = kk + Int32.ofInt 1 := ⟨_, rfl⟩
              have t109 := ia_inc 1 e109 (by decide) ⟨by omega, by omega⟩
              refine lv_iinc (k := 2) (lv' := [(2, .int v109), (1, .int v107), (3, .int v70), (0, .ref mo)]) hx hb d_Mo_compact_109 hl rfl e109.symm (by decide) rfl (fun ls hl => ?_)
              refine lv_goto hx hb d_Mo_compact_112 (tgt := 13) (by decide) ?_
              have hPz := hP.sub (ws' := [(mo, .inr (4, [.int mso, .ref m1, .ref m2, .ref m3, .ref m4, .ref m5, .ref m6, .int mct, .ref m7, .int mfr, .int mcu, .int v1, .ref m8, .ref m9, .ref ma, .ref mb])), (m1, .inl (cL, 1503, .inr (.inl p1))), (m2, .inl (cL, 1503, .inr (.inl p2))), (m3, .inl (cI, 36072, .inl p3)), (m4, .inl (cI, 1503, .inl p4)), (m5, .inl (cL, 1500, .inr (.inl p5))), (m6, .inl (cI, 1500, .inl p6)), (m7, .inl (cI, 1500, .inl p7)), (m8, .inl (cI, 50, .inl ftb_34)), (m9, .inl (cI, 50, .inl p9b_6)), (ma, .inl (cI, 1500, .inl pab_6)), (mb, .inl (cI, 50, .inl pb))]) [6, 7, 8, 9, 10, 0, 1, 2, 11, 3, 4, 5] rfl
              have hDz := hD.sub (ws' := [(mo, .inr (4, [.int mso, .ref m1, .ref m2, .ref m3, .ref m4, .ref m5, .ref m6, .int mct, .ref m7, .int mfr, .int mcu, .int v1, .ref m8, .ref m9, .ref ma, .ref mb])), (m1, .inl (cL, 1503, .inr (.inl p1))), (m2, .inl (cL, 1503, .inr (.inl p2))), (m3, .inl (cI, 36072, .inl p3)), (m4, .inl (cI, 1503, .inl p4)), (m5, .inl (cL, 1500, .inr (.inl p5))), (m6, .inl (cI, 1500, .inl p6)), (m7, .inl (cI, 1500, .inl p7)), (m8, .inl (cI, 50, .inl ftb_34)), (m9, .inl (cI, 50, .inl p9b_6)), (ma, .inl (cI, 1500, .inl pab_6)), (mb, .inl (cI, 50, .inl pb))]) [6, 7, 8, 9, 10, 0, 1, 2, 11, 3, 4, 5] (by decide) rfl
              exact ih13 v109 v107 ftb_34 H locs ls (lv_sub hl [0, 1, 3] rfl) hPz hDz hS (by omega) (by omega) (by omega) (by
                    rw [if_pos (by omega)] at h4
                    rw [show v109.toInt.toNat = kk.toInt.toNat + 1 by omega, hkst]
                    first
                    | (rw [if_neg (by omega), show n - 1 = kk.toInt.toNat by omega]; rw [show n - 1 = kk.toInt.toNat by omega] at h4; omega)
                    | (rw [if_pos (by omega), hbst]
                       rcases i3 with ⟨j1, j2⟩ | ⟨j1, j2⟩
                       · first
                         | (exfalso; omega)
                         | (rw [if_pos j2]
                            unfold bcell
                            first
                            | (rw [if_pos (by omega)]; omega)
                            | (rw [if_neg (by omega), if_pos (by omega)]; omega)
                            | (rw [if_neg (by omega), if_neg (by omega), if_pos (by omega)]; omega)
                            | (rw [if_neg (by omega), if_neg (by omega), if_neg (by omega)]; omega))
                       · first
                         | (exfalso; omega)
                         | (rw [if_neg j2]; omega))) (by omega)
          · have g59 := (iz_eq).mp g59
            refine lv_goto hx hb d_Mo_compact_62 (tgt := 109) (by decide) ?_
            obtain ⟨v109, e109⟩ : ∃ z, z = kk + Int32.ofInt 1 := ⟨_, rfl⟩
            have t109 := ia_inc 1 e109 (by decide) ⟨by omega, by omega⟩
            refine lv_iinc (k := 1) (lv' := [(2, .int v109), (1, .int v42), (0, .ref mo)]) hx hb d_Mo_compact_109 hl rfl e109.symm (by decide) rfl (fun ls hl => ?_)
            refine lv_goto hx hb d_Mo_compact_112 (tgt := 13) (by decide) ?_
            have hPz := hP.sub (ws' := [(mo, .inr (4, [.int mso, .ref m1, .ref m2, .ref m3, .ref m4, .ref m5, .ref m6, .int mct, .ref m7, .int mfr, .int mcu, .int v1, .ref m8, .ref m9, .ref ma, .ref mb])), (m1, .inl (cL, 1503, .inr (.inl p1))), (m2, .inl (cL, 1503, .inr (.inl p2))), (m3, .inl (cI, 36072, .inl p3)), (m4, .inl (cI, 1503, .inl p4)), (m5, .inl (cL, 1500, .inr (.inl p5))), (m6, .inl (cI, 1500, .inl p6)), (m7, .inl (cI, 1500, .inl p7)), (m8, .inl (cI, 50, .inl ftb_34)), (m9, .inl (cI, 50, .inl p9b_6)), (ma, .inl (cI, 1500, .inl pab_6)), (mb, .inl (cI, 50, .inl pb))]) [6, 7, 8, 9, 10, 0, 1, 2, 11, 3, 4, 5] rfl
            have hDz := hD.sub (ws' := [(mo, .inr (4, [.int mso, .ref m1, .ref m2, .ref m3, .ref m4, .ref m5, .ref m6, .int mct, .ref m7, .int mfr, .int mcu, .int v1, .ref m8, .ref m9, .ref ma, .ref mb])), (m1, .inl (cL, 1503, .inr (.inl p1))), (m2, .inl (cL, 1503, .inr (.inl p2))), (m3, .inl (cI, 36072, .inl p3)), (m4, .inl (cI, 1503, .inl p4)), (m5, .inl (cL, 1500, .inr (.inl p5))), (m6, .inl (cI, 1500, .inl p6)), (m7, .inl (cI, 1500, .inl p7)), (m8, .inl (cI, 50, .inl ftb_34)), (m9, .inl (cI, 50, .inl p9b_6)), (ma, .inl (cI, 1500, .inl pab_6)), (mb, .inl (cI, 50, .inl pb))]) [6, 7, 8, 9, 10, 0, 1, 2, 11, 3, 4, 5] (by decide) rfl
            exact ih13 v109 v42 ftb_34 H locs ls hl hPz hDz hS (by omega) (by omega) (by omega) (by
                  rw [if_pos (by omega)] at h4
                  rw [show v109.toInt.toNat = kk.toInt.toNat + 1 by omega, hkst]
                  first
                  | (rw [if_neg (by omega), show n - 1 = kk.toInt.toNat by omega]; rw [show n - 1 = kk.toInt.toNat by omega] at h4; omega)
                  | (rw [if_pos (by omega), hbst]
                     rcases i3 with ⟨j1, j2⟩ | ⟨j1, j2⟩
                     · first
                       | (exfalso; omega)
                       | (rw [if_pos j2]
                          unfold bcell
                          first
                          | (rw [if_pos (by omega)]; omega)
                          | (rw [if_neg (by omega), if_pos (by omega)]; omega)
                          | (rw [if_neg (by omega), if_neg (by omega), if_pos (by omega)]; omega)
                          | (rw [if_neg (by omega), if_neg (by omega), if_neg (by omega)]; omega))
                     · first
                       | (exfalso; omega)
                       | (rw [if_neg j2]; omega))) (by omega)
  exact lp13 _ v11 v9 p8b_6 H locs ls hl hP hD hS (by omega) (by omega) (by omega) (by rw [show v11.toInt.toNat = 0 by omega, show (if 0 < n then 0 else n - 1) = 0 by split <;> omega, t9]; rfl) (Nat.lt_succ_self _)
set_option maxRecDepth 100000 in
set_option maxHeartbeats 4000000 in
theorem c_Mo_about (l : Launch) (D : va_G) (cL cI : ClassId) (mo m1 m2 m3 m4 m5 m6 m7 m8 m9 ma mb : Nat) (mso mct mfr mcu mth : Int32) (p1 p2 p5 : Nat → Int64) (p3 p4 p6 p7 p8 p9 pa pb : Nat → Int32) (w : Nat) (KW : Nat → Nat → Int64) (n : Nat) (wh : Int32) (sz : Nat) (hws : (mso.toInt = 0 ∧ w = 1) ∨ (mso.toInt = 1 ∧ w = 2) ∨ (mso.toInt = 2 ∧ w = 7)) (hkr : ∀ x, x < 1503 → KR mso.toInt p1 p2 p3 p4 x (KW x)) (hct : mct.toInt = (n : Int)) (hn : n ≤ 1500) (hor : ∀ k, k < n → 0 ≤ (p6 k).toInt ∧ (p6 k).toInt < 1500) (hs : ob_srt w n (fun k => KW (p6 k).toInt.toNat)) : Met l y_Mo_about (Cond.code y_Mo_about prog_6_method_46_code 5 (some .int) :: TW) ({ frames := 4, cells := 0, slots := 0, locals := 112 } : Room) (PM D cL cI [.ref mo, .int wh] [(mo, .inr (4, [.int mso, .ref m1, .ref m2, .ref m3, .ref m4, .ref m5, .ref m6, .int mct, .ref m7, .int mfr, .int mcu, .int mth, .ref m8, .ref m9, .ref ma, .ref mb])), (m1, .inl (cL, 1503, .inr (.inl p1))), (m2, .inl (cL, 1503, .inr (.inl p2))), (m3, .inl (cI, 36072, .inl p3)), (m4, .inl (cI, 1503, .inl p4)), (m5, .inl (cL, 1500, .inr (.inl p5))), (m6, .inl (cI, 1500, .inl p6)), (m7, .inl (cI, 1500, .inl p7)), (m8, .inl (cI, 50, .inl p8)), (m9, .inl (cI, 50, .inl p9)), (ma, .inl (cI, 1500, .inl pa)), (mb, .inl (cI, 50, .inl pb))] sz) (va_Qi (fun (r : Int32) (u : (Int32) × (Nat → Int32) × (Nat → Int32) × (Nat → Int32) × (Nat → Int32)) => ((wh.toInt < 0 ∨ 7 < wh.toInt) ∧ u.1.toInt = 1) ∨ (0 ≤ wh.toInt ∧ wh.toInt ≤ 7 ∧ u.1.toInt = 0 ∧ ((wh.toInt = 0 ∧ r.toInt = (n : Int)) ∨ (1 ≤ wh.toInt ∧ wh.toInt ≤ 4 ∧ r.toInt = ((cb_end (fun k => sh_w w ((fun k => KW (p6 k).toInt.toNat) (k + 1)) ((fun k => KW (p6 k).toInt.toNat) k)) (n - 1)).2.1 (wh.toInt.toNat - 1) : Int)) ∨ (wh.toInt = 5 ∧ r.toInt = ((cb_end (fun k => sh_w w ((fun k => KW (p6 k).toInt.toNat) (k + 1)) ((fun k => KW (p6 k).toInt.toNat) k)) (n - 1)).1 : Int)) ∨ (wh.toInt = 6 ∧ ∃ q : Nat, ob_isb w n (fun k => KW (p6 k).toInt.toNat) (KW 1500) q ∧ (((q < n ∧ kw_eq w ((fun k => KW (p6 k).toInt.toNat) q) (KW 1500)) ∧ r.toInt = (cb_N (fun k => sh_w w ((fun k => KW (p6 k).toInt.toNat) (k + 1)) ((fun k => KW (p6 k).toInt.toNat) k)) 64 (n - 1) q 0 : Int)) ∨ (¬ (q < n ∧ kw_eq w ((fun k => KW (p6 k).toInt.toNat) q) (KW 1500)) ∧ r.toInt = -1))) ∨ (wh.toInt = 7 ∧ r.toInt = ((cb_end (fun k => sh_w w ((fun k => KW (p6 k).toInt.toNat) (k + 1)) ((fun k => KW (p6 k).toInt.toNat) k)) (n - 1)).2.2 : Int))))) (fun (u : (Int32) × (Nat → Int32) × (Nat → Int32) × (Nat → Int32) × (Nat → Int32)) (t : State) => va_P D classes [(mo, .inr (4, [.int mso, .ref m1, .ref m2, .ref m3, .ref m4, .ref m5, .ref m6, .int mct, .ref m7, .int mfr, .int mcu, .int u.1, .ref m8, .ref m9, .ref ma, .ref mb])), (m1, .inl (cL, 1503, .inr (.inl p1))), (m2, .inl (cL, 1503, .inr (.inl p2))), (m3, .inl (cI, 36072, .inl p3)), (m4, .inl (cI, 1503, .inl p4)), (m5, .inl (cL, 1500, .inr (.inl p5))), (m6, .inl (cI, 1500, .inl p6)), (m7, .inl (cI, 1500, .inl p7)), (m8, .inl (cI, 50, .inl u.2.1)), (m9, .inl (cI, 50, .inl u.2.2.1)), (ma, .inl (cI, 1500, .inl u.2.2.2.1)), (mb, .inl (cI, 50, .inl u.2.2.2.2))] t.heap ∧ va_K D classes (tyz cL cI) t ∧ va_D (va_A [(mo, .inr (4, [.int mso, .ref m1, .ref m2, .ref m3, .ref m4, .ref m5, .ref m6, .int mct, .ref m7, .int mfr, .int mcu, .int mth, .ref m8, .ref m9, .ref ma, .ref mb])), (m1, .inl (cL, 1503, .inr (.inl p1))), (m2, .inl (cL, 1503, .inr (.inl p2))), (m3, .inl (cI, 36072, .inl p3)), (m4, .inl (cI, 1503, .inl p4)), (m5, .inl (cL, 1500, .inr (.inl p5))), (m6, .inl (cI, 1500, .inl p6)), (m7, .inl (cI, 1500, .inl p7)), (m8, .inl (cI, 50, .inl p8)), (m9, .inl (cI, 50, .inl p9)), (ma, .inl (cI, 1500, .inl pa)), (mb, .inl (cI, 50, .inl pb))] sz) [(mo, .inr (4, [.int mso, .ref m1, .ref m2, .ref m3, .ref m4, .ref m5, .ref m6, .int mct, .ref m7, .int mfr, .int mcu, .int u.1, .ref m8, .ref m9, .ref ma, .ref mb])), (m1, .inl (cL, 1503, .inr (.inl p1))), (m2, .inl (cL, 1503, .inr (.inl p2))), (m3, .inl (cI, 36072, .inl p3)), (m4, .inl (cI, 1503, .inl p4)), (m5, .inl (cL, 1500, .inr (.inl p5))), (m6, .inl (cI, 1500, .inl p6)), (m7, .inl (cI, 1500, .inl p7)), (m8, .inl (cI, 50, .inl u.2.1)), (m9, .inl (cI, 50, .inl u.2.2.1)), (ma, .inl (cI, 1500, .inl u.2.2.2.1)), (mb, .inl (cI, 50, .inl u.2.2.2.2))]) (va_A [(mo, .inr (4, [.int mso, .ref m1, .ref m2, .ref m3, .ref m4, .ref m5, .ref m6, .int mct, .ref m7, .int mfr, .int mcu, .int mth, .ref m8, .ref m9, .ref ma, .ref mb])), (m1, .inl (cL, 1503, .inr (.inl p1))), (m2, .inl (cL, 1503, .inr (.inl p2))), (m3, .inl (cI, 36072, .inl p3)), (m4, .inl (cI, 1503, .inl p4)), (m5, .inl (cL, 1500, .inr (.inl p5))), (m6, .inl (cI, 1500, .inl p6)), (m7, .inl (cI, 1500, .inl p7)), (m8, .inl (cI, 50, .inl p8)), (m9, .inl (cI, 50, .inl p9)), (ma, .inl (cI, 1500, .inl pa)), (mb, .inl (cI, 50, .inl pb))] sz)) 0 0 (va_A [(mo, .inr (4, [.int mso, .ref m1, .ref m2, .ref m3, .ref m4, .ref m5, .ref m6, .int mct, .ref m7, .int mfr, .int mcu, .int mth, .ref m8, .ref m9, .ref ma, .ref mb])), (m1, .inl (cL, 1503, .inr (.inl p1))), (m2, .inl (cL, 1503, .inr (.inl p2))), (m3, .inl (cI, 36072, .inl p3)), (m4, .inl (cI, 1503, .inl p4)), (m5, .inl (cL, 1500, .inr (.inl p5))), (m6, .inl (cI, 1500, .inl p6)), (m7, .inl (cI, 1500, .inl p7)), (m8, .inl (cI, 50, .inl p8)), (m9, .inl (cI, 50, .inl p9)), (ma, .inl (cI, 1500, .inl pa)), (mb, .inl (cI, 50, .inl pb))] sz) := by
  refine xr_met (by decide) ?_
  intro p e s m args below meth c hx hb hr hts hown hlocks hname hml hv
  obtain ⟨rfl, hsz, hP, hK, hD0⟩ := hv
  subst hsz
  have hD := hD0.self (sz := s.heap.size)
  generalize hAe : va_A [(mo, .inr (4, [.int mso, .ref m1, .ref m2, .ref m3, .ref m4, .ref m5, .ref m6, .int mct, .ref m7, .int mfr, .int mcu, .int mth, .ref m8, .ref m9, .ref ma, .ref mb])), (m1, .inl (cL, 1503, .inr (.inl p1))), (m2, .inl (cL, 1503, .inr (.inl p2))), (m3, .inl (cI, 36072, .inl p3)), (m4, .inl (cI, 1503, .inl p4)), (m5, .inl (cL, 1500, .inr (.inl p5))), (m6, .inl (cI, 1500, .inl p6)), (m7, .inl (cI, 1500, .inl p7)), (m8, .inl (cI, 50, .inl p8)), (m9, .inl (cI, 50, .inl p9)), (ma, .inl (cI, 1500, .inl pa)), (mb, .inl (cI, 50, .inl pb))] s.heap.size = A at hD ⊢
  have hA : ∀ q : Nat, s.heap.size ≤ q → A q := fun q h => by rw [← hAe]; exact Or.inr h
  have hS : va_S A s.heap s.heap [] := va_S.rf
  have hD : va_D A [(mo, .inr (4, [.int mso, .ref m1, .ref m2, .ref m3, .ref m4, .ref m5, .ref m6, .int mct, .ref m7, .int mfr, .int mcu, .int mth, .ref m8, .ref m9, .ref ma, .ref mb])), (m1, .inl (cL, 1503, .inr (.inl p1))), (m2, .inl (cL, 1503, .inr (.inl p2))), (m3, .inl (cI, 36072, .inl p3)), (m4, .inl (cI, 1503, .inl p4)), (m5, .inl (cL, 1500, .inr (.inl p5))), (m6, .inl (cI, 1500, .inl p6)), (m7, .inl (cI, 1500, .inl p7)), (m8, .inl (cI, 50, .inl p8)), (m9, .inl (cI, 50, .inl p9)), (ma, .inl (cI, 1500, .inl pa)), (mb, .inl (cI, 50, .inl pb))] := hD
  have hown : s.vm.findClass "BranchStoreModel" = some m.cls := hown
  have hP : va_P D classes [(mo, .inr (4, [.int mso, .ref m1, .ref m2, .ref m3, .ref m4, .ref m5, .ref m6, .int mct, .ref m7, .int mfr, .int mcu, .int mth, .ref m8, .ref m9, .ref ma, .ref mb])), (m1, .inl (cL, 1503, .inr (.inl p1))), (m2, .inl (cL, 1503, .inr (.inl p2))), (m3, .inl (cI, 36072, .inl p3)), (m4, .inl (cI, 1503, .inl p4)), (m5, .inl (cL, 1500, .inr (.inl p5))), (m6, .inl (cI, 1500, .inl p6)), (m7, .inl (cI, 1500, .inl p7)), (m8, .inl (cI, 50, .inl p8)), (m9, .inl (cI, 50, .inl p9)), (ma, .inl (cI, 1500, .inl pa)), (mb, .inl (cI, 50, .inl pb))] s.heap := hP
  have hl := lv_entry ([.ref mo, .int wh]) (n := 5) (Nat.le_of_ble_eq_true rfl)
  rw [lg_entry_eq]
  generalize (lg_sl ([.ref mo, .int wh]) ++ List.replicate (5 - (lg_sl ([.ref mo, .int wh])).length) Slot.unset).toArray = ls at hl ⊢
  have hl : lv_has ls 5 [(0, .ref mo), (1, .int wh)] := hl
  obtain ⟨Q, hQ⟩ : ∃ Q, Q = MQ below (va_Qi (fun (r : Int32) (u : (Int32) × (Nat → Int32) × (Nat → Int32) × (Nat → Int32) × (Nat → Int32)) => ((wh.toInt < 0 ∨ 7 < wh.toInt) ∧ u.1.toInt = 1) ∨ (0 ≤ wh.toInt ∧ wh.toInt ≤ 7 ∧ u.1.toInt = 0 ∧ ((wh.toInt = 0 ∧ r.toInt = (n : Int)) ∨ (1 ≤ wh.toInt ∧ wh.toInt ≤ 4 ∧ r.toInt = ((cb_end (fun k => sh_w w ((fun k => KW (p6 k).toInt.toNat) (k + 1)) ((fun k => KW (p6 k).toInt.toNat) k)) (n - 1)).2.1 (wh.toInt.toNat - 1) : Int)) ∨ (wh.toInt = 5 ∧ r.toInt = ((cb_end (fun k => sh_w w ((fun k => KW (p6 k).toInt.toNat) (k + 1)) ((fun k => KW (p6 k).toInt.toNat) k)) (n - 1)).1 : Int)) ∨ (wh.toInt = 6 ∧ ∃ q : Nat, ob_isb w n (fun k => KW (p6 k).toInt.toNat) (KW 1500) q ∧ (((q < n ∧ kw_eq w ((fun k => KW (p6 k).toInt.toNat) q) (KW 1500)) ∧ r.toInt = (cb_N (fun k => sh_w w ((fun k => KW (p6 k).toInt.toNat) (k + 1)) ((fun k => KW (p6 k).toInt.toNat) k)) 64 (n - 1) q 0 : Int)) ∨ (¬ (q < n ∧ kw_eq w ((fun k => KW (p6 k).toInt.toNat) q) (KW 1500)) ∧ r.toInt = -1))) ∨ (wh.toInt = 7 ∧ r.toInt = ((cb_end (fun k => sh_w w ((fun k => KW (p6 k).toInt.toNat) (k + 1)) ((fun k => KW (p6 k).toInt.toNat) k)) (n - 1)).2.2 : Int))))) (fun (u : (Int32) × (Nat → Int32) × (Nat → Int32) × (Nat → Int32) × (Nat → Int32)) (t : State) => va_P D classes [(mo, .inr (4, [.int mso, .ref m1, .ref m2, .ref m3, .ref m4, .ref m5, .ref m6, .int mct, .ref m7, .int mfr, .int mcu, .int u.1, .ref m8, .ref m9, .ref ma, .ref mb])), (m1, .inl (cL, 1503, .inr (.inl p1))), (m2, .inl (cL, 1503, .inr (.inl p2))), (m3, .inl (cI, 36072, .inl p3)), (m4, .inl (cI, 1503, .inl p4)), (m5, .inl (cL, 1500, .inr (.inl p5))), (m6, .inl (cI, 1500, .inl p6)), (m7, .inl (cI, 1500, .inl p7)), (m8, .inl (cI, 50, .inl u.2.1)), (m9, .inl (cI, 50, .inl u.2.2.1)), (ma, .inl (cI, 1500, .inl u.2.2.2.1)), (mb, .inl (cI, 50, .inl u.2.2.2.2))] t.heap ∧ va_K D classes (tyz cL cI) t ∧ va_D (A) [(mo, .inr (4, [.int mso, .ref m1, .ref m2, .ref m3, .ref m4, .ref m5, .ref m6, .int mct, .ref m7, .int mfr, .int mcu, .int u.1, .ref m8, .ref m9, .ref ma, .ref mb])), (m1, .inl (cL, 1503, .inr (.inl p1))), (m2, .inl (cL, 1503, .inr (.inl p2))), (m3, .inl (cI, 36072, .inl p3)), (m4, .inl (cI, 1503, .inl p4)), (m5, .inl (cL, 1500, .inr (.inl p5))), (m6, .inl (cI, 1500, .inl p6)), (m7, .inl (cI, 1500, .inl p7)), (m8, .inl (cI, 50, .inl u.2.1)), (m9, .inl (cI, 50, .inl u.2.2.1)), (ma, .inl (cI, 1500, .inl u.2.2.2.1)), (mb, .inl (cI, 50, .inl u.2.2.2.2))]) (A)) ([.ref mo, .int wh] : List Value).toArray s 0 0 A := ⟨_, rfl⟩
  rw [← hQ]
  have hrg_wh := ia_rng wh
  refine lv_aload_n hx hb d_Mo_about_0 rfl (lv_at hl 0 rfl) ?_
  refine lv_iload_n hx hb d_Mo_about_1 rfl (lv_at hl 1 rfl) ?_
  refine lv_if_lt hx hb d_Mo_about_2 (tgt := 11) (by decide) (fun g2 => ?_) (fun g2 => ?_)
  · have g2 := (iz_lt).mp g2
    refine lv_iconst (v := 1) hx hb d_Mo_about_11 (by decide) ?_
    refine lv_topi (fun v11 e11 => ?_)
    have t11 : v11.toInt = 1 := by rw [e11]; rfl
    refine lv_goto hx hb d_Mo_about_12 (tgt := 16) (by decide) ?_
    refine lv_iconst (v := 1) hx hb d_Mo_about_16 (by decide) ?_
    refine lv_topi (fun v16 e16 => ?_)
    have t16 : v16.toInt = 1 := by rw [e16]; rfl
    have hPc := hP.sub (ws' := [(mo, .inr (4, [.int mso, .ref m1, .ref m2, .ref m3, .ref m4, .ref m5, .ref m6, .int mct, .ref m7, .int mfr, .int mcu, .int mth, .ref m8, .ref m9, .ref ma, .ref mb])), (m1, .inl (cL, 1503, .inr (.inl p1))), (m2, .inl (cL, 1503, .inr (.inl p2))), (m3, .inl (cI, 36072, .inl p3)), (m4, .inl (cI, 1503, .inl p4)), (m5, .inl (cL, 1500, .inr (.inl p5))), (m6, .inl (cI, 1500, .inl p6)), (m7, .inl (cI, 1500, .inl p7)), (m8, .inl (cI, 50, .inl p8)), (m9, .inl (cI, 50, .inl p9)), (ma, .inl (cI, 1500, .inl pa)), (mb, .inl (cI, 50, .inl pb))]) [0, 1, 2, 3, 4, 5, 6, 7, 8, 9, 10, 11] rfl
    have hDc := hD.sub (ws' := [(mo, .inr (4, [.int mso, .ref m1, .ref m2, .ref m3, .ref m4, .ref m5, .ref m6, .int mct, .ref m7, .int mfr, .int mcu, .int mth, .ref m8, .ref m9, .ref ma, .ref mb])), (m1, .inl (cL, 1503, .inr (.inl p1))), (m2, .inl (cL, 1503, .inr (.inl p2))), (m3, .inl (cI, 36072, .inl p3)), (m4, .inl (cI, 1503, .inl p4)), (m5, .inl (cL, 1500, .inr (.inl p5))), (m6, .inl (cI, 1500, .inl p6)), (m7, .inl (cI, 1500, .inl p7)), (m8, .inl (cI, 50, .inl p8)), (m9, .inl (cI, 50, .inl p9)), (ma, .inl (cI, 1500, .inl pa)), (mb, .inl (cI, 50, .inl pb))]) [0, 1, 2, 3, 4, 5, 6, 7, 8, 9, 10, 11] (by decide) rfl
    have hFc := va_free (wc := [(mo, .inr (4, [.int mso, .ref m1, .ref m2, .ref m3, .ref m4, .ref m5, .ref m6, .int mct, .ref m7, .int mfr, .int mcu, .int mth, .ref m8, .ref m9, .ref ma, .ref mb])), (m1, .inl (cL, 1503, .inr (.inl p1))), (m2, .inl (cL, 1503, .inr (.inl p2))), (m3, .inl (cI, 36072, .inl p3)), (m4, .inl (cI, 1503, .inl p4)), (m5, .inl (cL, 1500, .inr (.inl p5))), (m6, .inl (cI, 1500, .inl p6)), (m7, .inl (cI, 1500, .inl p7)), (m8, .inl (cI, 50, .inl p8)), (m9, .inl (cI, 50, .inl p9)), (ma, .inl (cI, 1500, .inl pa)), (mb, .inl (cI, 50, .inl pb))]) hD hS hA [0, 1, 2, 3, 4, 5, 6, 7, 8, 9, 10, 11] rfl
    refine va_calli (xr_mv (As := [.int v11, .int v16]) (rest := []) ⟨hx, hb, hml, hown, hts⟩ (c_Mo_fails l D cL cI mo m1 m2 m3 m4 m5 m6 m7 m8 m9 ma mb mso mct mfr mcu mth p1 p2 p5 p3 p4 p6 p7 p8 p9 pa pb v11 v16 s.heap.size (by first | omega | exact hso)) (xr_cv 2 hts tw_663 tw_660 tw_662 tp_10 tw_7 rfl rfl (by decide) ⟨Nat.le_of_ble_eq_true rfl, Nat.le_of_ble_eq_true rfl⟩) hK hPc (hDc.weaken (fun _ _ _ _ => trivial)) (va_recv hK hP rfl (q0 := 0) (ci := 4) rfl) rfl hl.1 rfl (Nat.le_of_ble_eq_true rfl) d_Mo_about_17 ⟨Nat.le_of_ble_eq_true rfl, Nat.le_of_ble_eq_true rfl⟩) hS (fun q _ h => hFc q h) hFc (fun v17 u17 tt17 H1 locs ht17 hvm17 e17 hB17 hz17 hk17 hS => ?_)
    obtain ⟨mth2_17, rfl⟩ : ∃ z, z = u17 := ⟨_, rfl⟩
    have e17 : v17.toInt = v11.toInt ∧ ((v11.toInt = 0 ∧ mth2_17.toInt = 0) ∨ (v11.toInt ≠ 0 ∧ mth2_17.toInt = v16.toInt)) := e17
    obtain ⟨hP1, hK1, hD1⟩ := hB17
    rw [ht17] at hP1
    obtain ⟨hP, hD⟩ := va_join (wr := []) (w1 := [(mo, .inr (4, [.int mso, .ref m1, .ref m2, .ref m3, .ref m4, .ref m5, .ref m6, .int mct, .ref m7, .int mfr, .int mcu, .int mth2_17, .ref m8, .ref m9, .ref ma, .ref mb])), (m1, .inl (cL, 1503, .inr (.inl p1))), (m2, .inl (cL, 1503, .inr (.inl p2))), (m3, .inl (cI, 36072, .inl p3)), (m4, .inl (cI, 1503, .inl p4)), (m5, .inl (cL, 1500, .inr (.inl p5))), (m6, .inl (cI, 1500, .inl p6)), (m7, .inl (cI, 1500, .inl p7)), (m8, .inl (cI, 50, .inl p8)), (m9, .inl (cI, 50, .inl p9)), (ma, .inl (cI, 1500, .inl pa)), (mb, .inl (cI, 50, .inl pb))]) hP hD [0, 1, 2, 3, 4, 5, 6, 7, 8, 9, 10, 11] [] rfl rfl (by decide) (by decide) hk17 hFc hP1 hD1
    clear hP1 hD1 hPc hDc hFc
    generalize H1 = H at hP hS ⊢
    have hP : va_P D classes [(mo, .inr (4, [.int mso, .ref m1, .ref m2, .ref m3, .ref m4, .ref m5, .ref m6, .int mct, .ref m7, .int mfr, .int mcu, .int mth2_17, .ref m8, .ref m9, .ref ma, .ref mb])), (m1, .inl (cL, 1503, .inr (.inl p1))), (m2, .inl (cL, 1503, .inr (.inl p2))), (m3, .inl (cI, 36072, .inl p3)), (m4, .inl (cI, 1503, .inl p4)), (m5, .inl (cL, 1500, .inr (.inl p5))), (m6, .inl (cI, 1500, .inl p6)), (m7, .inl (cI, 1500, .inl p7)), (m8, .inl (cI, 50, .inl p8)), (m9, .inl (cI, 50, .inl p9)), (ma, .inl (cI, 1500, .inl pa)), (mb, .inl (cI, 50, .inl pb))] H := hP
    have hD : va_D A [(mo, .inr (4, [.int mso, .ref m1, .ref m2, .ref m3, .ref m4, .ref m5, .ref m6, .int mct, .ref m7, .int mfr, .int mcu, .int mth2_17, .ref m8, .ref m9, .ref ma, .ref mb])), (m1, .inl (cL, 1503, .inr (.inl p1))), (m2, .inl (cL, 1503, .inr (.inl p2))), (m3, .inl (cI, 36072, .inl p3)), (m4, .inl (cI, 1503, .inl p4)), (m5, .inl (cL, 1500, .inr (.inl p5))), (m6, .inl (cI, 1500, .inl p6)), (m7, .inl (cI, 1500, .inl p7)), (m8, .inl (cI, 50, .inl p8)), (m9, .inl (cI, 50, .inl p9)), (ma, .inl (cI, 1500, .inl pa)), (mb, .inl (cI, 50, .inl pb))] := hD
    refine lv_if_eq hx hb d_Mo_about_20 (tgt := 25) (by decide) (fun g20 => ?_) (fun g20 => ?_)
    · have g20 := (iz_eq).mp g20
      exfalso; omega
    · have g20 := (iz_ne).mp g20
      refine lv_iconst (v := 0) hx hb d_Mo_about_23 (by decide) ?_
      refine lv_topi (fun v23 e23 => ?_)
      have t23 : v23.toInt = 0 := by rw [e23]; rfl
      have hpost : ((wh.toInt < 0 ∨ 7 < wh.toInt) ∧ mth2_17.toInt = 1) ∨ (0 ≤ wh.toInt ∧ wh.toInt ≤ 7 ∧ mth2_17.toInt = 0 ∧ ((wh.toInt = 0 ∧ v23.toInt = (n : Int)) ∨ (1 ≤ wh.toInt ∧ wh.toInt ≤ 4 ∧ v23.toInt = ((cb_end (fun k => sh_w w ((fun k => KW (p6 k).toInt.toNat) (k + 1)) ((fun k => KW (p6 k).toInt.toNat) k)) (n - 1)).2.1 (wh.toInt.toNat - 1) : Int)) ∨ (wh.toInt = 5 ∧ v23.toInt = ((cb_end (fun k => sh_w w ((fun k => KW (p6 k).toInt.toNat) (k + 1)) ((fun k => KW (p6 k).toInt.toNat) k)) (n - 1)).1 : Int)) ∨ (wh.toInt = 6 ∧ ∃ q : Nat, ob_isb w n (fun k => KW (p6 k).toInt.toNat) (KW 1500) q ∧ (((q < n ∧ kw_eq w ((fun k => KW (p6 k).toInt.toNat) q) (KW 1500)) ∧ v23.toInt = (cb_N (fun k => sh_w w ((fun k => KW (p6 k).toInt.toNat) (k + 1)) ((fun k => KW (p6 k).toInt.toNat) k)) 64 (n - 1) q 0 : Int)) ∨ (¬ (q < n ∧ kw_eq w ((fun k => KW (p6 k).toInt.toNat) q) (KW 1500)) ∧ v23.toInt = -1))) ∨ (wh.toInt = 7 ∧ v23.toInt = ((cb_end (fun k => sh_w w ((fun k => KW (p6 k).toInt.toNat) (k + 1)) ((fun k => KW (p6 k).toInt.toNat) k)) (n - 1)).2.2 : Int)))) := by
        first
        | (exfalso; omega)
        | exact Or.inl ⟨by omega, by omega⟩
      have hP9 := hP.sub (ws' := [(mo, .inr (4, [.int mso, .ref m1, .ref m2, .ref m3, .ref m4, .ref m5, .ref m6, .int mct, .ref m7, .int mfr, .int mcu, .int mth2_17, .ref m8, .ref m9, .ref ma, .ref mb])), (m1, .inl (cL, 1503, .inr (.inl p1))), (m2, .inl (cL, 1503, .inr (.inl p2))), (m3, .inl (cI, 36072, .inl p3)), (m4, .inl (cI, 1503, .inl p4)), (m5, .inl (cL, 1500, .inr (.inl p5))), (m6, .inl (cI, 1500, .inl p6)), (m7, .inl (cI, 1500, .inl p7)), (m8, .inl (cI, 50, .inl p8)), (m9, .inl (cI, 50, .inl p9)), (ma, .inl (cI, 1500, .inl pa)), (mb, .inl (cI, 50, .inl pb))]) [0, 1, 2, 3, 4, 5, 6, 7, 8, 9, 10, 11] rfl
      have hD9 := hD.sub (ws' := [(mo, .inr (4, [.int mso, .ref m1, .ref m2, .ref m3, .ref m4, .ref m5, .ref m6, .int mct, .ref m7, .int mfr, .int mcu, .int mth2_17, .ref m8, .ref m9, .ref ma, .ref mb])), (m1, .inl (cL, 1503, .inr (.inl p1))), (m2, .inl (cL, 1503, .inr (.inl p2))), (m3, .inl (cI, 36072, .inl p3)), (m4, .inl (cI, 1503, .inl p4)), (m5, .inl (cL, 1500, .inr (.inl p5))), (m6, .inl (cI, 1500, .inl p6)), (m7, .inl (cI, 1500, .inl p7)), (m8, .inl (cI, 50, .inl p8)), (m9, .inl (cI, 50, .inl p9)), (ma, .inl (cI, 1500, .inl pa)), (mb, .inl (cI, 50, .inl pb))]) [0, 1, 2, 3, 4, 5, 6, 7, 8, 9, 10, 11] (by decide) rfl
      rw [hQ]
      exact W.iret (v := v23) hx hb hr (fun t ht hW => ⟨⟨v23, (mth2_17, p8, p9, pa, pb), rfl, hpost, by rw [ht]; exact hP9, va_K.moved hW.alike hK, hD9⟩, hS.F ht⟩) hS.2.2 d_Mo_about_24
  · have g2 := (iz_nlt).mp g2
    refine lv_iload_n hx hb d_Mo_about_5 rfl (lv_at hl 1 rfl) ?_
    refine lv_bipush (v := 7) hx hb d_Mo_about_6 (by decide) ?_
    refine lv_topi (fun v6 e6 => ?_)
    have t6 : v6.toInt = 7 := by rw [e6]; rfl
    refine lv_icmp_le hx hb d_Mo_about_8 (tgt := 15) (by decide) (fun g8 => ?_) (fun g8 => ?_)
    · have g8 := ic_le.mp g8
      refine lv_iconst (v := 0) hx hb d_Mo_about_15 (by decide) ?_
      refine lv_topi (fun v15 e15 => ?_)
      have t15 : v15.toInt = 0 := by rw [e15]; rfl
      refine lv_iconst (v := 1) hx hb d_Mo_about_16 (by decide) ?_
      refine lv_topi (fun v16 e16 => ?_)
      have t16 : v16.toInt = 1 := by rw [e16]; rfl
      have hPc := hP.sub (ws' := [(mo, .inr (4, [.int mso, .ref m1, .ref m2, .ref m3, .ref m4, .ref m5, .ref m6, .int mct, .ref m7, .int mfr, .int mcu, .int mth, .ref m8, .ref m9, .ref ma, .ref mb])), (m1, .inl (cL, 1503, .inr (.inl p1))), (m2, .inl (cL, 1503, .inr (.inl p2))), (m3, .inl (cI, 36072, .inl p3)), (m4, .inl (cI, 1503, .inl p4)), (m5, .inl (cL, 1500, .inr (.inl p5))), (m6, .inl (cI, 1500, .inl p6)), (m7, .inl (cI, 1500, .inl p7)), (m8, .inl (cI, 50, .inl p8)), (m9, .inl (cI, 50, .inl p9)), (ma, .inl (cI, 1500, .inl pa)), (mb, .inl (cI, 50, .inl pb))]) [0, 1, 2, 3, 4, 5, 6, 7, 8, 9, 10, 11] rfl
      have hDc := hD.sub (ws' := [(mo, .inr (4, [.int mso, .ref m1, .ref m2, .ref m3, .ref m4, .ref m5, .ref m6, .int mct, .ref m7, .int mfr, .int mcu, .int mth, .ref m8, .ref m9, .ref ma, .ref mb])), (m1, .inl (cL, 1503, .inr (.inl p1))), (m2, .inl (cL, 1503, .inr (.inl p2))), (m3, .inl (cI, 36072, .inl p3)), (m4, .inl (cI, 1503, .inl p4)), (m5, .inl (cL, 1500, .inr (.inl p5))), (m6, .inl (cI, 1500, .inl p6)), (m7, .inl (cI, 1500, .inl p7)), (m8, .inl (cI, 50, .inl p8)), (m9, .inl (cI, 50, .inl p9)), (ma, .inl (cI, 1500, .inl pa)), (mb, .inl (cI, 50, .inl pb))]) [0, 1, 2, 3, 4, 5, 6, 7, 8, 9, 10, 11] (by decide) rfl
      have hFc := va_free (wc := [(mo, .inr (4, [.int mso, .ref m1, .ref m2, .ref m3, .ref m4, .ref m5, .ref m6, .int mct, .ref m7, .int mfr, .int mcu, .int mth, .ref m8, .ref m9, .ref ma, .ref mb])), (m1, .inl (cL, 1503, .inr (.inl p1))), (m2, .inl (cL, 1503, .inr (.inl p2))), (m3, .inl (cI, 36072, .inl p3)), (m4, .inl (cI, 1503, .inl p4)), (m5, .inl (cL, 1500, .inr (.inl p5))), (m6, .inl (cI, 1500, .inl p6)), (m7, .inl (cI, 1500, .inl p7)), (m8, .inl (cI, 50, .inl p8)), (m9, .inl (cI, 50, .inl p9)), (ma, .inl (cI, 1500, .inl pa)), (mb, .inl (cI, 50, .inl pb))]) hD hS hA [0, 1, 2, 3, 4, 5, 6, 7, 8, 9, 10, 11] rfl
      refine va_calli (xr_mv (As := [.int v15, .int v16]) (rest := []) ⟨hx, hb, hml, hown, hts⟩ (c_Mo_fails l D cL cI mo m1 m2 m3 m4 m5 m6 m7 m8 m9 ma mb mso mct mfr mcu mth p1 p2 p5 p3 p4 p6 p7 p8 p9 pa pb v15 v16 s.heap.size (by first | omega | exact hso)) (xr_cv 2 hts tw_663 tw_660 tw_662 tp_10 tw_7 rfl rfl (by decide) ⟨Nat.le_of_ble_eq_true rfl, Nat.le_of_ble_eq_true rfl⟩) hK hPc (hDc.weaken (fun _ _ _ _ => trivial)) (va_recv hK hP rfl (q0 := 0) (ci := 4) rfl) rfl hl.1 rfl (Nat.le_of_ble_eq_true rfl) d_Mo_about_17 ⟨Nat.le_of_ble_eq_true rfl, Nat.le_of_ble_eq_true rfl⟩) hS (fun q _ h => hFc q h) hFc (fun v17 u17 tt17 H1 locs ht17 hvm17 e17 hB17 hz17 hk17 hS => ?_)
      obtain ⟨mth2_17, rfl⟩ : ∃ z, z = u17 := ⟨_, rfl⟩
      have e17 : v17.toInt = v15.toInt ∧ ((v15.toInt = 0 ∧ mth2_17.toInt = 0) ∨ (v15.toInt ≠ 0 ∧ mth2_17.toInt = v16.toInt)) := e17
      obtain ⟨hP1, hK1, hD1⟩ := hB17
      rw [ht17] at hP1
      obtain ⟨hP, hD⟩ := va_join (wr := []) (w1 := [(mo, .inr (4, [.int mso, .ref m1, .ref m2, .ref m3, .ref m4, .ref m5, .ref m6, .int mct, .ref m7, .int mfr, .int mcu, .int mth2_17, .ref m8, .ref m9, .ref ma, .ref mb])), (m1, .inl (cL, 1503, .inr (.inl p1))), (m2, .inl (cL, 1503, .inr (.inl p2))), (m3, .inl (cI, 36072, .inl p3)), (m4, .inl (cI, 1503, .inl p4)), (m5, .inl (cL, 1500, .inr (.inl p5))), (m6, .inl (cI, 1500, .inl p6)), (m7, .inl (cI, 1500, .inl p7)), (m8, .inl (cI, 50, .inl p8)), (m9, .inl (cI, 50, .inl p9)), (ma, .inl (cI, 1500, .inl pa)), (mb, .inl (cI, 50, .inl pb))]) hP hD [0, 1, 2, 3, 4, 5, 6, 7, 8, 9, 10, 11] [] rfl rfl (by decide) (by decide) hk17 hFc hP1 hD1
      clear hP1 hD1 hPc hDc hFc
      generalize H1 = H at hP hS ⊢
      have hP : va_P D classes [(mo, .inr (4, [.int mso, .ref m1, .ref m2, .ref m3, .ref m4, .ref m5, .ref m6, .int mct, .ref m7, .int mfr, .int mcu, .int mth2_17, .ref m8, .ref m9, .ref ma, .ref mb])), (m1, .inl (cL, 1503, .inr (.inl p1))), (m2, .inl (cL, 1503, .inr (.inl p2))), (m3, .inl (cI, 36072, .inl p3)), (m4, .inl (cI, 1503, .inl p4)), (m5, .inl (cL, 1500, .inr (.inl p5))), (m6, .inl (cI, 1500, .inl p6)), (m7, .inl (cI, 1500, .inl p7)), (m8, .inl (cI, 50, .inl p8)), (m9, .inl (cI, 50, .inl p9)), (ma, .inl (cI, 1500, .inl pa)), (mb, .inl (cI, 50, .inl pb))] H := hP
      have hD : va_D A [(mo, .inr (4, [.int mso, .ref m1, .ref m2, .ref m3, .ref m4, .ref m5, .ref m6, .int mct, .ref m7, .int mfr, .int mcu, .int mth2_17, .ref m8, .ref m9, .ref ma, .ref mb])), (m1, .inl (cL, 1503, .inr (.inl p1))), (m2, .inl (cL, 1503, .inr (.inl p2))), (m3, .inl (cI, 36072, .inl p3)), (m4, .inl (cI, 1503, .inl p4)), (m5, .inl (cL, 1500, .inr (.inl p5))), (m6, .inl (cI, 1500, .inl p6)), (m7, .inl (cI, 1500, .inl p7)), (m8, .inl (cI, 50, .inl p8)), (m9, .inl (cI, 50, .inl p9)), (ma, .inl (cI, 1500, .inl pa)), (mb, .inl (cI, 50, .inl pb))] := hD
      refine lv_if_eq hx hb d_Mo_about_20 (tgt := 25) (by decide) (fun g20 => ?_) (fun g20 => ?_)
      · have g20 := (iz_eq).mp g20
        refine lv_iload_n hx hb d_Mo_about_25 rfl (lv_at hl 1 rfl) ?_
        refine lv_if_ne hx hb d_Mo_about_26 (tgt := 34) (by decide) (fun g26 => ?_) (fun g26 => ?_)
        · have g26 := (iz_ne).mp g26
          refine lv_aload_n hx hb d_Mo_about_34 rfl (lv_at hl 0 rfl) ?_
          have hPc := hP.sub (ws' := [(mo, .inr (4, [.int mso, .ref m1, .ref m2, .ref m3, .ref m4, .ref m5, .ref m6, .int mct, .ref m7, .int mfr, .int mcu, .int mth2_17, .ref m8, .ref m9, .ref ma, .ref mb])), (m1, .inl (cL, 1503, .inr (.inl p1))), (m2, .inl (cL, 1503, .inr (.inl p2))), (m3, .inl (cI, 36072, .inl p3)), (m4, .inl (cI, 1503, .inl p4)), (m5, .inl (cL, 1500, .inr (.inl p5))), (m6, .inl (cI, 1500, .inl p6)), (m7, .inl (cI, 1500, .inl p7)), (m8, .inl (cI, 50, .inl p8)), (m9, .inl (cI, 50, .inl p9)), (ma, .inl (cI, 1500, .inl pa)), (mb, .inl (cI, 50, .inl pb))]) [0, 1, 2, 3, 4, 5, 6, 7, 8, 9, 10, 11] rfl
          have hDc := hD.sub (ws' := [(mo, .inr (4, [.int mso, .ref m1, .ref m2, .ref m3, .ref m4, .ref m5, .ref m6, .int mct, .ref m7, .int mfr, .int mcu, .int mth2_17, .ref m8, .ref m9, .ref ma, .ref mb])), (m1, .inl (cL, 1503, .inr (.inl p1))), (m2, .inl (cL, 1503, .inr (.inl p2))), (m3, .inl (cI, 36072, .inl p3)), (m4, .inl (cI, 1503, .inl p4)), (m5, .inl (cL, 1500, .inr (.inl p5))), (m6, .inl (cI, 1500, .inl p6)), (m7, .inl (cI, 1500, .inl p7)), (m8, .inl (cI, 50, .inl p8)), (m9, .inl (cI, 50, .inl p9)), (ma, .inl (cI, 1500, .inl pa)), (mb, .inl (cI, 50, .inl pb))]) [0, 1, 2, 3, 4, 5, 6, 7, 8, 9, 10, 11] (by decide) rfl
          have hFc := va_free (wc := [(mo, .inr (4, [.int mso, .ref m1, .ref m2, .ref m3, .ref m4, .ref m5, .ref m6, .int mct, .ref m7, .int mfr, .int mcu, .int mth2_17, .ref m8, .ref m9, .ref ma, .ref mb])), (m1, .inl (cL, 1503, .inr (.inl p1))), (m2, .inl (cL, 1503, .inr (.inl p2))), (m3, .inl (cI, 36072, .inl p3)), (m4, .inl (cI, 1503, .inl p4)), (m5, .inl (cL, 1500, .inr (.inl p5))), (m6, .inl (cI, 1500, .inl p6)), (m7, .inl (cI, 1500, .inl p7)), (m8, .inl (cI, 50, .inl p8)), (m9, .inl (cI, 50, .inl p9)), (ma, .inl (cI, 1500, .inl pa)), (mb, .inl (cI, 50, .inl pb))]) hD hS hA [0, 1, 2, 3, 4, 5, 6, 7, 8, 9, 10, 11] rfl
          refine va_callv (xr_mv (As := []) (rest := []) ⟨hx, hb, hml, hown, hts⟩ (c_Mo_look l D cL cI mo m1 m2 m3 m4 m5 m6 m7 m8 m9 ma mb mso mct mfr mcu mth2_17 p1 p2 p5 p3 p4 p6 p7 p8 p9 pa pb w KW n H.size (by first | omega | exact hws) (by first | omega | exact hkr) (by first | omega | exact hct) (by first | omega | exact hn) (by first | omega | exact hor) (by first | omega | exact hs)) (xr_cv 0 hts tw_802 tw_799 tw_801 tp_20 tw_7 rfl rfl (by decide) ⟨Nat.le_of_ble_eq_true rfl, Nat.le_of_ble_eq_true rfl⟩) hK hPc (hDc.weaken (fun _ _ _ _ => trivial)) (va_recv hK hP rfl (q0 := 0) (ci := 4) rfl) rfl hl.1 rfl (Nat.le_of_ble_eq_true rfl) d_Mo_about_35 ⟨Nat.le_of_ble_eq_true rfl, Nat.le_of_ble_eq_true rfl⟩) hS (fun q _ h => hFc q h) hFc (fun u35 tt35 H1 locs ht35 hvm35 e35 hB35 hz35 hk35 hS => ?_)
          obtain ⟨p8b_35, p9b_35, pab_35⟩ := u35
          have e35 : ∀ k, k + 1 < n → (pab_35 k).toInt = ((fun k => sh_w w ((fun k => KW (p6 k).toInt.toNat) (k + 1)) ((fun k => KW (p6 k).toInt.toNat) k)) k : Int) ∧ (pab_35 k).toInt < 50 := e35
          obtain ⟨hP1, hK1, hD1⟩ := hB35
          rw [ht35] at hP1
          obtain ⟨hP, hD⟩ := va_join (wr := []) (w1 := [(mo, .inr (4, [.int mso, .ref m1, .ref m2, .ref m3, .ref m4, .ref m5, .ref m6, .int mct, .ref m7, .int mfr, .int mcu, .int mth2_17, .ref m8, .ref m9, .ref ma, .ref mb])), (m1, .inl (cL, 1503, .inr (.inl p1))), (m2, .inl (cL, 1503, .inr (.inl p2))), (m3, .inl (cI, 36072, .inl p3)), (m4, .inl (cI, 1503, .inl p4)), (m5, .inl (cL, 1500, .inr (.inl p5))), (m6, .inl (cI, 1500, .inl p6)), (m7, .inl (cI, 1500, .inl p7)), (m8, .inl (cI, 50, .inl p8b_35)), (m9, .inl (cI, 50, .inl p9b_35)), (ma, .inl (cI, 1500, .inl pab_35)), (mb, .inl (cI, 50, .inl pb))]) hP hD [0, 1, 2, 3, 4, 5, 6, 7, 8, 9, 10, 11] [] rfl rfl (by decide) (by decide) hk35 hFc hP1 hD1
          clear hP1 hD1 hPc hDc hFc
          generalize H1 = H at hP hS ⊢
          have hP : va_P D classes [(mo, .inr (4, [.int mso, .ref m1, .ref m2, .ref m3, .ref m4, .ref m5, .ref m6, .int mct, .ref m7, .int mfr, .int mcu, .int mth2_17, .ref m8, .ref m9, .ref ma, .ref mb])), (m1, .inl (cL, 1503, .inr (.inl p1))), (m2, .inl (cL, 1503, .inr (.inl p2))), (m3, .inl (cI, 36072, .inl p3)), (m4, .inl (cI, 1503, .inl p4)), (m5, .inl (cL, 1500, .inr (.inl p5))), (m6, .inl (cI, 1500, .inl p6)), (m7, .inl (cI, 1500, .inl p7)), (m8, .inl (cI, 50, .inl p8b_35)), (m9, .inl (cI, 50, .inl p9b_35)), (ma, .inl (cI, 1500, .inl pab_35)), (mb, .inl (cI, 50, .inl pb))] H := hP
          have hD : va_D A [(mo, .inr (4, [.int mso, .ref m1, .ref m2, .ref m3, .ref m4, .ref m5, .ref m6, .int mct, .ref m7, .int mfr, .int mcu, .int mth2_17, .ref m8, .ref m9, .ref ma, .ref mb])), (m1, .inl (cL, 1503, .inr (.inl p1))), (m2, .inl (cL, 1503, .inr (.inl p2))), (m3, .inl (cI, 36072, .inl p3)), (m4, .inl (cI, 1503, .inl p4)), (m5, .inl (cL, 1500, .inr (.inl p5))), (m6, .inl (cI, 1500, .inl p6)), (m7, .inl (cI, 1500, .inl p7)), (m8, .inl (cI, 50, .inl p8b_35)), (m9, .inl (cI, 50, .inl p9b_35)), (ma, .inl (cI, 1500, .inl pab_35)), (mb, .inl (cI, 50, .inl pb))] := hD
          have hpa9 : ∀ k, k + 1 < n → 0 ≤ (pab_35 k).toInt ∧ (pab_35 k).toInt < 50 := fun k hk => ⟨by rw [(e35 k hk).1]; exact Int.natCast_nonneg _, (e35 k hk).2⟩
          have hcg : ∀ i, i < n - 1 → (fun k => (pab_35 k).toInt.toNat) i = (fun k => sh_w w ((fun k => KW (p6 k).toInt.toNat) (k + 1)) ((fun k => KW (p6 k).toInt.toNat) k)) i := fun i hi => by
                have h9 := (e35 i (by omega)).1
                show (pab_35 i).toInt.toNat = _
                rw [h9]
                exact Int.toNat_natCast _
          refine lv_iload_n hx hb d_Mo_about_38 rfl (lv_at hl 1 rfl) ?_
          refine lv_iconst (v := 5) hx hb d_Mo_about_39 (by decide) ?_
          refine lv_topi (fun v39 e39 => ?_)
          have t39 : v39.toInt = 5 := by rw [e39]; rfl
          refine lv_icmp_ge hx hb d_Mo_about_40 (tgt := 51) (by decide) (fun g40 => ?_) (fun g40 => ?_)
          · have g40 := ic_le.mp g40
            refine lv_iload_n hx hb d_Mo_about_51 rfl (lv_at hl 1 rfl) ?_
            refine lv_iconst (v := 5) hx hb d_Mo_about_52 (by decide) ?_
            refine lv_topi (fun v52 e52 => ?_)
            have t52 : v52.toInt = 5 := by rw [e52]; rfl
            refine lv_icmp_ne hx hb d_Mo_about_53 (tgt := 61) (by decide) (fun g53 => ?_) (fun g53 => ?_)
            · have g53 := ic_ne.mp g53
              refine lv_aload_n hx hb d_Mo_about_61 rfl (lv_at hl 0 rfl) ?_
              refine lv_sipush (v := 1500) hx hb d_Mo_about_62 (by decide) ?_
              refine lv_topi (fun v62 e62 => ?_)
              have t62 : v62.toInt = 1500 := by rw [e62]; rfl
              refine vp_callSi (xr_rv (As := [.int v62]) (rest := []) ⟨hx, hb, hml, hown, hts⟩ (c_Mo_below l D cL cI mo m1 m2 m3 m4 m5 m6 m7 m8 m9 ma mb mso mct mfr mcu mth2_17 p1 p2 p5 p3 p4 p6 p7 p8b_35 p9b_35 pab_35 pb w KW n v62 (by first | omega | exact hws) (by first | omega | exact hkr) (by first | omega | exact hct) (by first | omega | exact hn) (by first | omega | exact hor) (by first | omega | exact hib) (by first | omega | exact hs)) (xr_cv 1 hts tw_700 tw_697 tw_699 tp_13 tw_7 rfl rfl (by decide) ⟨Nat.le_of_ble_eq_true rfl, Nat.le_of_ble_eq_true rfl⟩) hK hP (va_recv hK hP rfl (q0 := 0) (ci := 4) rfl) rfl hl.1 rfl (Nat.le_of_ble_eq_true rfl) d_Mo_about_65 ⟨Nat.le_of_ble_eq_true rfl, Nat.le_of_ble_eq_true rfl⟩) (fun v65 e65 => ?_)
              have e65 : ∃ q : Nat, v65.toInt = (q : Int) ∧ ob_isb w n (fun k => KW (p6 k).toInt.toNat) (KW v62.toInt.toNat) q := e65
              obtain ⟨q, hq1, hq2⟩ := e65
              rw [show v62.toInt.toNat = 1500 by omega] at hq2
              have hq3 := hq2.1
              refine lv_istore_n (lv' := [(2, .int v65), (0, .ref mo), (1, .int wh)]) hx hb d_Mo_about_68 rfl hl (by decide) rfl (fun ls hl => ?_)
              refine lv_iload_n hx hb d_Mo_about_69 rfl (lv_at hl 2 rfl) ?_
              refine lv_bipush (v := 6) hx hb d_Mo_about_70 (by decide) ?_
              refine lv_topi (fun v70 e70 => ?_)
              have t70 : v70.toInt = 6 := by rw [e70]; rfl
              refine lv_icmp_ne hx hb d_Mo_about_72 (tgt := 96) (by decide) (fun g72 => ?_) (fun g72 => ?_)
              · have g72 := ic_ne.mp g72
                refine lv_iconst (v := 0) hx hb d_Mo_about_96 (by decide) ?_
                refine lv_topi (fun v96 e96 => ?_)
                have t96 : v96.toInt = 0 := by rw [e96]; rfl
                refine lv_istore_n (lv' := [(3, .int v96), (2, .int v65), (0, .ref mo), (1, .int wh)]) hx hb d_Mo_about_97 rfl hl (by decide) rfl (fun ls hl => ?_)
                refine lv_iconst (v := 0) hx hb d_Mo_about_98 (by decide) ?_
                refine lv_topi (fun v98 e98 => ?_)
                have t98 : v98.toInt = 0 := by rw [e98]; rfl
                refine lv_istore (lv' := [(4, .int v98), (3, .int v96), (2, .int v65), (0, .ref mo), (1, .int wh)]) hx hb d_Mo_about_99 hl (by decide) rfl (fun ls hl => ?_)
                have lp101 : ∀ (fuel101 : Nat) (kk : Int32) (nn : Int32) (ls : Array Slot), lv_has ls 5 [(4, .int kk), (3, .int nn), (2, .int v65), (0, .ref mo), (1, .int wh)] → (0 ≤ kk.toInt) → (kk.toInt.toNat ≤ n - 1) → (0 ≤ nn.toInt ∧ nn.toInt ≤ kk.toInt) → (nn.toInt = (cb_num (fun i => (fun k => (pab_35 k).toInt.toNat) i == 0) kk.toInt.toNat : Int)) → n - kk.toInt.toNat < fuel101 → W p l e ({ frames := 4, cells := 0, slots := 0, locals := 112 } : Room) s m ([.ref mo, .int wh] : List Value).toArray below meth c H locs 0 0 Q (F0 m 101 ls []) := by
                  intro fuel101
                  induction fuel101 with
                  | zero => intro kk nn ls hl h1 h2 h3 h4 hm101; exact absurd hm101 (Nat.not_lt_zero _)
                  | succ fuel101 ih101 =>
                    intro kk nn ls hl h1 h2 h3 h4 hm101
                    refine lv_iload hx hb d_Mo_about_101 (lv_at hl 0 rfl) ?_
                    refine lv_iconst (v := 1) hx hb d_Mo_about_103 (by decide) ?_
                    refine lv_topi (fun v103 e103 => ?_)
                    have t103 : v103.toInt = 1 := by rw [e103]; rfl
                    refine lv_iadd hx hb d_Mo_about_104 ?_
                    refine lv_topi (fun v104 e104 => ?_)
                    have t104 := ia_add e104 ⟨by omega, by omega⟩
                    refine lv_aload_n hx hb d_Mo_about_105 rfl (lv_at hl 3 rfl) ?_
                    refine va_get (D := D) (ci := 4) (v := .int mct) (C := R_Mo) (T := F_Mo) (N := 16) hx hb hts in_Mo hown hK hP 0 rfl rfl 7 (by decide) (hts _ tw_610) (fun _ h9 => h9) rfl d_Mo_about_106 ?_
                    refine lv_icmp_ge hx hb d_Mo_about_109 (tgt := 136) (by decide) (fun g109 => ?_) (fun g109 => ?_)
                    · have g109 := ic_le.mp g109
                      refine lv_iload_n hx hb d_Mo_about_136 rfl (lv_at hl 1 rfl) ?_
                      refine lv_if_le hx hb d_Mo_about_137 (tgt := 146) (by decide) (fun g137 => ?_) (fun g137 => ?_)
                      · have g137 := (iz_le).mp g137
                        refine lv_iconst (v := 0) hx hb d_Mo_about_146 (by decide) ?_
                        refine lv_topi (fun v146 e146 => ?_)
                        have t146 : v146.toInt = 0 := by rw [e146]; rfl
                        have hpost : ((wh.toInt < 0 ∨ 7 < wh.toInt) ∧ mth2_17.toInt = 1) ∨ (0 ≤ wh.toInt ∧ wh.toInt ≤ 7 ∧ mth2_17.toInt = 0 ∧ ((wh.toInt = 0 ∧ v146.toInt = (n : Int)) ∨ (1 ≤ wh.toInt ∧ wh.toInt ≤ 4 ∧ v146.toInt = ((cb_end (fun k => sh_w w ((fun k => KW (p6 k).toInt.toNat) (k + 1)) ((fun k => KW (p6 k).toInt.toNat) k)) (n - 1)).2.1 (wh.toInt.toNat - 1) : Int)) ∨ (wh.toInt = 5 ∧ v146.toInt = ((cb_end (fun k => sh_w w ((fun k => KW (p6 k).toInt.toNat) (k + 1)) ((fun k => KW (p6 k).toInt.toNat) k)) (n - 1)).1 : Int)) ∨ (wh.toInt = 6 ∧ ∃ q : Nat, ob_isb w n (fun k => KW (p6 k).toInt.toNat) (KW 1500) q ∧ (((q < n ∧ kw_eq w ((fun k => KW (p6 k).toInt.toNat) q) (KW 1500)) ∧ v146.toInt = (cb_N (fun k => sh_w w ((fun k => KW (p6 k).toInt.toNat) (k + 1)) ((fun k => KW (p6 k).toInt.toNat) k)) 64 (n - 1) q 0 : Int)) ∨ (¬ (q < n ∧ kw_eq w ((fun k => KW (p6 k).toInt.toNat) q) (KW 1500)) ∧ v146.toInt = -1))) ∨ (wh.toInt = 7 ∧ v146.toInt = ((cb_end (fun k => sh_w w ((fun k => KW (p6 k).toInt.toNat) (k + 1)) ((fun k => KW (p6 k).toInt.toNat) k)) (n - 1)).2.2 : Int)))) := by
                          first
                          | (exfalso; omega)
                          | (refine Or.inr ⟨by omega, by omega, by omega, Or.inr (Or.inr (Or.inr (Or.inr ⟨by omega, ?_⟩)))⟩
                             rw [show kk.toInt.toNat = n - 1 by omega] at h4
                             rw [← cb_end_congr hcg, cb_end_root]
                             unfold cb_zeros
                             first
                             | (rw [if_pos (by omega)]; omega)
                             | (rw [if_neg (by omega)]; omega))
                        have hP9 := hP.sub (ws' := [(mo, .inr (4, [.int mso, .ref m1, .ref m2, .ref m3, .ref m4, .ref m5, .ref m6, .int mct, .ref m7, .int mfr, .int mcu, .int mth2_17, .ref m8, .ref m9, .ref ma, .ref mb])), (m1, .inl (cL, 1503, .inr (.inl p1))), (m2, .inl (cL, 1503, .inr (.inl p2))), (m3, .inl (cI, 36072, .inl p3)), (m4, .inl (cI, 1503, .inl p4)), (m5, .inl (cL, 1500, .inr (.inl p5))), (m6, .inl (cI, 1500, .inl p6)), (m7, .inl (cI, 1500, .inl p7)), (m8, .inl (cI, 50, .inl p8b_35)), (m9, .inl (cI, 50, .inl p9b_35)), (ma, .inl (cI, 1500, .inl pab_35)), (mb, .inl (cI, 50, .inl pb))]) [0, 1, 2, 3, 4, 5, 6, 7, 8, 9, 10, 11] rfl
                        have hD9 := hD.sub (ws' := [(mo, .inr (4, [.int mso, .ref m1, .ref m2, .ref m3, .ref m4, .ref m5, .ref m6, .int mct, .ref m7, .int mfr, .int mcu, .int mth2_17, .ref m8, .ref m9, .ref ma, .ref mb])), (m1, .inl (cL, 1503, .inr (.inl p1))), (m2, .inl (cL, 1503, .inr (.inl p2))), (m3, .inl (cI, 36072, .inl p3)), (m4, .inl (cI, 1503, .inl p4)), (m5, .inl (cL, 1500, .inr (.inl p5))), (m6, .inl (cI, 1500, .inl p6)), (m7, .inl (cI, 1500, .inl p7)), (m8, .inl (cI, 50, .inl p8b_35)), (m9, .inl (cI, 50, .inl p9b_35)), (ma, .inl (cI, 1500, .inl pab_35)), (mb, .inl (cI, 50, .inl pb))]) [0, 1, 2, 3, 4, 5, 6, 7, 8, 9, 10, 11] (by decide) rfl
                        rw [hQ]
                        exact W.iret (v := v146) hx hb hr (fun t ht hW => ⟨⟨v146, (mth2_17, p8b_35, p9b_35, pab_35, pb), rfl, hpost, by rw [ht]; exact hP9, va_K.moved hW.alike hK, hD9⟩, hS.F ht⟩) hS.2.2 d_Mo_about_147
                      · have g137 := (iz_nle).mp g137
                        refine lv_iload_n hx hb d_Mo_about_140 rfl (lv_at hl 1 rfl) ?_
                        refine lv_iconst (v := 1) hx hb d_Mo_about_141 (by decide) ?_
                        refine lv_topi (fun v141 e141 => ?_)
                        have t141 : v141.toInt = 1 := by rw [e141]; rfl
                        refine lv_iadd hx hb d_Mo_about_142 ?_
                        refine lv_topi (fun v142 e142 => ?_)
                        have t142 := ia_add e142 ⟨by omega, by omega⟩
                        refine lv_goto hx hb d_Mo_about_143 (tgt := 147) (by decide) ?_
                        have hpost : ((wh.toInt < 0 ∨ 7 < wh.toInt) ∧ mth2_17.toInt = 1) ∨ (0 ≤ wh.toInt ∧ wh.toInt ≤ 7 ∧ mth2_17.toInt = 0 ∧ ((wh.toInt = 0 ∧ v142.toInt = (n : Int)) ∨ (1 ≤ wh.toInt ∧ wh.toInt ≤ 4 ∧ v142.toInt = ((cb_end (fun k => sh_w w ((fun k => KW (p6 k).toInt.toNat) (k + 1)) ((fun k => KW (p6 k).toInt.toNat) k)) (n - 1)).2.1 (wh.toInt.toNat - 1) : Int)) ∨ (wh.toInt = 5 ∧ v142.toInt = ((cb_end (fun k => sh_w w ((fun k => KW (p6 k).toInt.toNat) (k + 1)) ((fun k => KW (p6 k).toInt.toNat) k)) (n - 1)).1 : Int)) ∨ (wh.toInt = 6 ∧ ∃ q : Nat, ob_isb w n (fun k => KW (p6 k).toInt.toNat) (KW 1500) q ∧ (((q < n ∧ kw_eq w ((fun k => KW (p6 k).toInt.toNat) q) (KW 1500)) ∧ v142.toInt = (cb_N (fun k => sh_w w ((fun k => KW (p6 k).toInt.toNat) (k + 1)) ((fun k => KW (p6 k).toInt.toNat) k)) 64 (n - 1) q 0 : Int)) ∨ (¬ (q < n ∧ kw_eq w ((fun k => KW (p6 k).toInt.toNat) q) (KW 1500)) ∧ v142.toInt = -1))) ∨ (wh.toInt = 7 ∧ v142.toInt = ((cb_end (fun k => sh_w w ((fun k => KW (p6 k).toInt.toNat) (k + 1)) ((fun k => KW (p6 k).toInt.toNat) k)) (n - 1)).2.2 : Int)))) := by
                          first
                          | (exfalso; omega)
                          | (refine Or.inr ⟨by omega, by omega, by omega, Or.inr (Or.inr (Or.inr (Or.inr ⟨by omega, ?_⟩)))⟩
                             rw [show kk.toInt.toNat = n - 1 by omega] at h4
                             rw [← cb_end_congr hcg, cb_end_root]
                             unfold cb_zeros
                             first
                             | (rw [if_pos (by omega)]; omega)
                             | (rw [if_neg (by omega)]; omega))
                        have hP9 := hP.sub (ws' := [(mo, .inr (4, [.int mso, .ref m1, .ref m2, .ref m3, .ref m4, .ref m5, .ref m6, .int mct, .ref m7, .int mfr, .int mcu, .int mth2_17, .ref m8, .ref m9, .ref ma, .ref mb])), (m1, .inl (cL, 1503, .inr (.inl p1))), (m2, .inl (cL, 1503, .inr (.inl p2))), (m3, .inl (cI, 36072, .inl p3)), (m4, .inl (cI, 1503, .inl p4)), (m5, .inl (cL, 1500, .inr (.inl p5))), (m6, .inl (cI, 1500, .inl p6)), (m7, .inl (cI, 1500, .inl p7)), (m8, .inl (cI, 50, .inl p8b_35)), (m9, .inl (cI, 50, .inl p9b_35)), (ma, .inl (cI, 1500, .inl pab_35)), (mb, .inl (cI, 50, .inl pb))]) [0, 1, 2, 3, 4, 5, 6, 7, 8, 9, 10, 11] rfl
                        have hD9 := hD.sub (ws' := [(mo, .inr (4, [.int mso, .ref m1, .ref m2, .ref m3, .ref m4, .ref m5, .ref m6, .int mct, .ref m7, .int mfr, .int mcu, .int mth2_17, .ref m8, .ref m9, .ref ma, .ref mb])), (m1, .inl (cL, 1503, .inr (.inl p1))), (m2, .inl (cL, 1503, .inr (.inl p2))), (m3, .inl (cI, 36072, .inl p3)), (m4, .inl (cI, 1503, .inl p4)), (m5, .inl (cL, 1500, .inr (.inl p5))), (m6, .inl (cI, 1500, .inl p6)), (m7, .inl (cI, 1500, .inl p7)), (m8, .inl (cI, 50, .inl p8b_35)), (m9, .inl (cI, 50, .inl p9b_35)), (ma, .inl (cI, 1500, .inl pab_35)), (mb, .inl (cI, 50, .inl pb))]) [0, 1, 2, 3, 4, 5, 6, 7, 8, 9, 10, 11] (by decide) rfl
                        rw [hQ]
                        exact W.iret (v := v142) hx hb hr (fun t ht hW => ⟨⟨v142, (mth2_17, p8b_35, p9b_35, pab_35, pb), rfl, hpost, by rw [ht]; exact hP9, va_K.moved hW.alike hK, hD9⟩, hS.F ht⟩) hS.2.2 d_Mo_about_147
                    · have g109 := ic_nle.mp g109
                      have pk := hpa9 kk.toInt.toNat (by omega)
                      refine lv_iload_n hx hb d_Mo_about_112 rfl (lv_at hl 1 rfl) ?_
                      refine lv_aload_n hx hb d_Mo_about_113 rfl (lv_at hl 3 rfl) ?_
                      refine va_get (D := D) (ci := 4) (v := .ref ma) (C := R_Mo) (T := F_Mo) (N := 16) hx hb hts in_Mo hown hK hP 0 rfl rfl 14 (by decide) (hts _ tw_617) (fun _ h9 => h9) rfl d_Mo_about_114 ?_
                      refine lv_iload hx hb d_Mo_about_117 (lv_at hl 0 rfl) ?_
                      refine va_iald hx hb hK hP 10 1 rfl rfl (ia_in ⟨by omega, by omega⟩) d_Mo_about_119 ?_
                      refine lv_topi (fun v119 e119 => ?_)
                      have e119 : v119 = pab_35 kk.toInt.toNat := e119
                      have t119 : v119.toInt = (pab_35 kk.toInt.toNat).toInt := by rw [e119]
                      refine lv_if_ne hx hb d_Mo_about_120 (tgt := 127) (by decide) (fun g120 => ?_) (fun g120 => ?_)
                      · have g120 := (iz_ne).mp g120
                        refine lv_iconst (v := 0) hx hb d_Mo_about_127 (by decide) ?_
                        refine lv_topi (fun v127 e127 => ?_)
                        have t127 : v127.toInt = 0 := by rw [e127]; rfl
                        refine lv_iadd hx hb d_Mo_about_128 ?_
                        refine lv_topi (fun v128 e128 => ?_)
                        have t128 := ia_add e128 ⟨by omega, by omega⟩
                        refine lv_istore_n (lv' := [(3, .int v128), (4, .int kk), (2, .int v65), (0, .ref mo), (1, .int wh)]) hx hb d_Mo_about_129 rfl hl (by decide) rfl (fun ls hl => ?_)
                        obtain ⟨v130, e130⟩ : ∃ z, z = kk + Int32.ofInt 1 := ⟨_, rfl⟩
                        have t130 := ia_inc 1 e130 (by decide) ⟨by omega, by omega⟩
                        refine lv_iinc (k := 1) (lv' := [(4, .int v130), (3, .int v128), (2, .int v65), (0, .ref mo), (1, .int wh)]) hx hb d_Mo_about_130 hl rfl e130.symm (by decide) rfl (fun ls hl => ?_)
                        refine lv_goto hx hb d_Mo_about_133 (tgt := 101) (by decide) ?_
                        have hcn : cb_num (fun i => (fun k => (pab_35 k).toInt.toNat) i == 0) (kk.toInt.toNat + 1) = cb_num (fun i => (fun k => (pab_35 k).toInt.toNat) i == 0) kk.toInt.toNat + (if ((fun k => (pab_35 k).toInt.toNat) kk.toInt.toNat == 0) = true then 1 else 0) := rfl
                        exact ih101 v130 v128 ls hl (by omega) (by omega) (by omega) (by
                              rw [show v130.toInt.toNat = kk.toInt.toNat + 1 by omega, hcn]
                              first
                              | (rw [if_pos (by rw [beq_iff_eq]; show (pab_35 kk.toInt.toNat).toInt.toNat = 0; omega)]; omega)
                              | (rw [if_neg (by rw [beq_iff_eq]; show ¬ (pab_35 kk.toInt.toNat).toInt.toNat = 0; omega)]; omega)) (by omega)
                      · have g120 := (iz_eq).mp g120
                        refine lv_iconst (v := 1) hx hb d_Mo_about_123 (by decide) ?_
                        refine lv_topi (fun v123 e123 => ?_)
                        have t123 : v123.toInt = 1 := by rw [e123]; rfl
                        refine lv_goto hx hb d_Mo_about_124 (tgt := 128) (by decide) ?_
                        refine lv_iadd hx hb d_Mo_about_128 ?_
                        refine lv_topi (fun v128 e128 => ?_)
                        have t128 := ia_add e128 ⟨by omega, by omega⟩
                        refine lv_istore_n (lv' := [(3, .int v128), (4, .int kk), (2, .int v65), (0, .ref mo), (1, .int wh)]) hx hb d_Mo_about_129 rfl hl (by decide) rfl (fun ls hl => ?_)
                        obtain ⟨v130, e130⟩ : ∃ z, z = kk + Int32.ofInt 1 := ⟨_, rfl⟩
                        have t130 := ia_inc 1 e130 (by decide) ⟨by omega, by omega⟩
                        refine lv_iinc (k := 1) (lv' := [(4, .int v130), (3, .int v128), (2, .int v65), (0, .ref mo), (1, .int wh)]) hx hb d_Mo_about_130 hl rfl e130.symm (by decide) rfl (fun ls hl => ?_)
                        refine lv_goto hx hb d_Mo_about_133 (tgt := 101) (by decide) ?_
                        have hcn : cb_num (fun i => (fun k => (pab_35 k).toInt.toNat) i == 0) (kk.toInt.toNat + 1) = cb_num (fun i => (fun k => (pab_35 k).toInt.toNat) i == 0) kk.toInt.toNat + (if ((fun k => (pab_35 k).toInt.toNat) kk.toInt.toNat == 0) = true then 1 else 0) := rfl
                        exact ih101 v130 v128 ls hl (by omega) (by omega) (by omega) (by
                              rw [show v130.toInt.toNat = kk.toInt.toNat + 1 by omega, hcn]
                              first
                              | (rw [if_pos (by rw [beq_iff_eq]; show (pab_35 kk.toInt.toNat).toInt.toNat = 0; omega)]; omega)
                              | (rw [if_neg (by rw [beq_iff_eq]; show ¬ (pab_35 kk.toInt.toNat).toInt.toNat = 0; omega)]; omega)) (by omega)
                exact lp101 _ v98 v96  ls hl (by omega) (by omega) (by omega) (by rw [show v98.toInt.toNat = 0 by omega]; exact t96) (Nat.lt_succ_self _)
              · have g72 := ic_eq.mp g72
                refine lv_aload_n hx hb d_Mo_about_75 rfl (lv_at hl 1 rfl) ?_
                refine lv_iload_n hx hb d_Mo_about_76 rfl (lv_at hl 0 rfl) ?_
                refine lv_sipush (v := 1500) hx hb d_Mo_about_77 (by decide) ?_
                refine lv_topi (fun v77 e77 => ?_)
                have t77 : v77.toInt = 1500 := by rw [e77]; rfl
                refine vp_callSi (xr_rv (As := [.int v65, .int v77]) (rest := []) ⟨hx, hb, hml, hown, hts⟩ (c_Mo_isAt l D cL cI mo m1 m2 m3 m4 m5 m6 m7 m8 m9 ma mb mso mct mfr mcu mth2_17 p1 p2 p5 p3 p4 p6 p7 p8b_35 p9b_35 pab_35 pb w KW n v65 v77 (by first | omega | exact hws) (by first | omega | exact hkr) (by first | omega | exact hct) (by first | omega | exact hn) (by first | omega | exact hor) (by first | omega | exact hia) (by first | omega | exact hib)) (xr_cv 2 hts tw_711 tw_708 tw_710 tp_15 tw_7 rfl rfl (by decide) ⟨Nat.le_of_ble_eq_true rfl, Nat.le_of_ble_eq_true rfl⟩) hK hP (va_recv hK hP rfl (q0 := 0) (ci := 4) rfl) rfl hl.1 rfl (Nat.le_of_ble_eq_true rfl) d_Mo_about_80 ⟨Nat.le_of_ble_eq_true rfl, Nat.le_of_ble_eq_true rfl⟩) (fun v80 e80 => ?_)
                have e80 : (v80 = 0 ∨ v80 = 1) ∧ (v80 = 1 ↔ v65.toInt.toNat < n ∧ kw_eq w ((fun k => KW (p6 k).toInt.toNat) v65.toInt.toNat) (KW v77.toInt.toNat)) := e80
                have i3 := b01 e80
                rw [show v65.toInt.toNat = q by omega, show v77.toInt.toNat = 1500 by omega] at i3
                refine lv_if_eq hx hb d_Mo_about_83 (tgt := 94) (by decide) (fun g83 => ?_) (fun g83 => ?_)
                · have g83 := (iz_eq).mp g83
                  refine lv_iconst (v := (-1)) hx hb d_Mo_about_94 (by decide) ?_
                  refine lv_topi (fun v94 e94 => ?_)
                  have t94 : v94.toInt = (-1) := by rw [e94]; rfl
                  have hpost : ((wh.toInt < 0 ∨ 7 < wh.toInt) ∧ mth2_17.toInt = 1) ∨ (0 ≤ wh.toInt ∧ wh.toInt ≤ 7 ∧ mth2_17.toInt = 0 ∧ ((wh.toInt = 0 ∧ v94.toInt = (n : Int)) ∨ (1 ≤ wh.toInt ∧ wh.toInt ≤ 4 ∧ v94.toInt = ((cb_end (fun k => sh_w w ((fun k => KW (p6 k).toInt.toNat) (k + 1)) ((fun k => KW (p6 k).toInt.toNat) k)) (n - 1)).2.1 (wh.toInt.toNat - 1) : Int)) ∨ (wh.toInt = 5 ∧ v94.toInt = ((cb_end (fun k => sh_w w ((fun k => KW (p6 k).toInt.toNat) (k + 1)) ((fun k => KW (p6 k).toInt.toNat) k)) (n - 1)).1 : Int)) ∨ (wh.toInt = 6 ∧ ∃ q : Nat, ob_isb w n (fun k => KW (p6 k).toInt.toNat) (KW 1500) q ∧ (((q < n ∧ kw_eq w ((fun k => KW (p6 k).toInt.toNat) q) (KW 1500)) ∧ v94.toInt = (cb_N (fun k => sh_w w ((fun k => KW (p6 k).toInt.toNat) (k + 1)) ((fun k => KW (p6 k).toInt.toNat) k)) 64 (n - 1) q 0 : Int)) ∨ (¬ (q < n ∧ kw_eq w ((fun k => KW (p6 k).toInt.toNat) q) (KW 1500)) ∧ v94.toInt = -1))) ∨ (wh.toInt = 7 ∧ v94.toInt = ((cb_end (fun k => sh_w w ((fun k => KW (p6 k).toInt.toNat) (k + 1)) ((fun k => KW (p6 k).toInt.toNat) k)) (n - 1)).2.2 : Int)))) := by
                    first
                    | (exfalso; omega)
                    | (refine Or.inr ⟨by omega, by omega, by omega, Or.inr (Or.inr (Or.inr (Or.inl ⟨by omega, q, hq2, ?_⟩)))⟩
                       first
                       | (rw [show v65.toInt.toNat = q by omega, cb_N_congr (by omega) hcg] at e88
                          exact Or.inl ⟨hin, e88⟩)
                       | (rcases i3 with ⟨j1, j2⟩ | ⟨j1, j2⟩
                          · exfalso; omega
                          · exact Or.inr ⟨j2, t94⟩))
                  have hP9 := hP.sub (ws' := [(mo, .inr (4, [.int mso, .ref m1, .ref m2, .ref m3, .ref m4, .ref m5, .ref m6, .int mct, .ref m7, .int mfr, .int mcu, .int mth2_17, .ref m8, .ref m9, .ref ma, .ref mb])), (m1, .inl (cL, 1503, .inr (.inl p1))), (m2, .inl (cL, 1503, .inr (.inl p2))), (m3, .inl (cI, 36072, .inl p3)), (m4, .inl (cI, 1503, .inl p4)), (m5, .inl (cL, 1500, .inr (.inl p5))), (m6, .inl (cI, 1500, .inl p6)), (m7, .inl (cI, 1500, .inl p7)), (m8, .inl (cI, 50, .inl p8b_35)), (m9, .inl (cI, 50, .inl p9b_35)), (ma, .inl (cI, 1500, .inl pab_35)), (mb, .inl (cI, 50, .inl pb))]) [0, 1, 2, 3, 4, 5, 6, 7, 8, 9, 10, 11] rfl
                  have hD9 := hD.sub (ws' := [(mo, .inr (4, [.int mso, .ref m1, .ref m2, .ref m3, .ref m4, .ref m5, .ref m6, .int mct, .ref m7, .int mfr, .int mcu, .int mth2_17, .ref m8, .ref m9, .ref ma, .ref mb])), (m1, .inl (cL, 1503, .inr (.inl p1))), (m2, .inl (cL, 1503, .inr (.inl p2))), (m3, .inl (cI, 36072, .inl p3)), (m4, .inl (cI, 1503, .inl p4)), (m5, .inl (cL, 1500, .inr (.inl p5))), (m6, .inl (cI, 1500, .inl p6)), (m7, .inl (cI, 1500, .inl p7)), (m8, .inl (cI, 50, .inl p8b_35)), (m9, .inl (cI, 50, .inl p9b_35)), (ma, .inl (cI, 1500, .inl pab_35)), (mb, .inl (cI, 50, .inl pb))]) [0, 1, 2, 3, 4, 5, 6, 7, 8, 9, 10, 11] (by decide) rfl
                  rw [hQ]
                  exact W.iret (v := v94) hx hb hr (fun t ht hW => ⟨⟨v94, (mth2_17, p8b_35, p9b_35, pab_35, pb), rfl, hpost, by rw [ht]; exact hP9, va_K.moved hW.alike hK, hD9⟩, hS.F ht⟩) hS.2.2 d_Mo_about_95
                · have g83 := (iz_ne).mp g83
                  have hin : (q < n ∧ kw_eq w ((fun k => KW (p6 k).toInt.toNat) q) (KW 1500)) := by
                        rcases i3 with ⟨j1, j2⟩ | ⟨j1, j2⟩
                        · exact j2
                        · exfalso; omega
                  have hin1 := hin.1
                  refine lv_aload_n hx hb d_Mo_about_86 rfl (lv_at hl 1 rfl) ?_
                  refine lv_iload_n hx hb d_Mo_about_87 rfl (lv_at hl 0 rfl) ?_
                  have hPc := hP.sub (ws' := [(mo, .inr (4, [.int mso, .ref m1, .ref m2, .ref m3, .ref m4, .ref m5, .ref m6, .int mct, .ref m7, .int mfr, .int mcu, .int mth2_17, .ref m8, .ref m9, .ref ma, .ref mb])), (m1, .inl (cL, 1503, .inr (.inl p1))), (m2, .inl (cL, 1503, .inr (.inl p2))), (m3, .inl (cI, 36072, .inl p3)), (m4, .inl (cI, 1503, .inl p4)), (m5, .inl (cL, 1500, .inr (.inl p5))), (m6, .inl (cI, 1500, .inl p6)), (m7, .inl (cI, 1500, .inl p7)), (m8, .inl (cI, 50, .inl p8b_35)), (m9, .inl (cI, 50, .inl p9b_35)), (ma, .inl (cI, 1500, .inl pab_35)), (mb, .inl (cI, 50, .inl pb))]) [0, 1, 2, 3, 4, 5, 6, 7, 8, 9, 10, 11] rfl
                  have hDc := hD.sub (ws' := [(mo, .inr (4, [.int mso, .ref m1, .ref m2, .ref m3, .ref m4, .ref m5, .ref m6, .int mct, .ref m7, .int mfr, .int mcu, .int mth2_17, .ref m8, .ref m9, .ref ma, .ref mb])), (m1, .inl (cL, 1503, .inr (.inl p1))), (m2, .inl (cL, 1503, .inr (.inl p2))), (m3, .inl (cI, 36072, .inl p3)), (m4, .inl (cI, 1503, .inl p4)), (m5, .inl (cL, 1500, .inr (.inl p5))), (m6, .inl (cI, 1500, .inl p6)), (m7, .inl (cI, 1500, .inl p7)), (m8, .inl (cI, 50, .inl p8b_35)), (m9, .inl (cI, 50, .inl p9b_35)), (ma, .inl (cI, 1500, .inl pab_35)), (mb, .inl (cI, 50, .inl pb))]) [0, 1, 2, 3, 4, 5, 6, 7, 8, 9, 10, 11] (by decide) rfl
                  have hFc := va_free (wc := [(mo, .inr (4, [.int mso, .ref m1, .ref m2, .ref m3, .ref m4, .ref m5, .ref m6, .int mct, .ref m7, .int mfr, .int mcu, .int mth2_17, .ref m8, .ref m9, .ref ma, .ref mb])), (m1, .inl (cL, 1503, .inr (.inl p1))), (m2, .inl (cL, 1503, .inr (.inl p2))), (m3, .inl (cI, 36072, .inl p3)), (m4, .inl (cI, 1503, .inl p4)), (m5, .inl (cL, 1500, .inr (.inl p5))), (m6, .inl (cI, 1500, .inl p6)), (m7, .inl (cI, 1500, .inl p7)), (m8, .inl (cI, 50, .inl p8b_35)), (m9, .inl (cI, 50, .inl p9b_35)), (ma, .inl (cI, 1500, .inl pab_35)), (mb, .inl (cI, 50, .inl pb))]) hD hS hA [0, 1, 2, 3, 4, 5, 6, 7, 8, 9, 10, 11] rfl
                  refine va_calli (xr_mv (As := [.int v65]) (rest := []) ⟨hx, hb, hml, hown, hts⟩ (c_Mo_depth l D cL cI mo m1 m2 m3 m4 m5 m6 m7 m8 m9 ma mb mso mct mfr mcu mth2_17 p1 p2 p5 p3 p4 p6 p7 p8b_35 p9b_35 pab_35 pb n v65 H.size (by first | omega | exact hct) (by first | omega | exact hn) (hpa9) (by first | omega | exact hpl)) (xr_cv 1 hts tw_834 tw_831 tw_833 tp_26 tw_7 rfl rfl (by decide) ⟨Nat.le_of_ble_eq_true rfl, Nat.le_of_ble_eq_true rfl⟩) hK hPc (hDc.weaken (fun _ _ _ _ => trivial)) (va_recv hK hP rfl (q0 := 0) (ci := 4) rfl) rfl hl.1 rfl (Nat.le_of_ble_eq_true rfl) d_Mo_about_88 ⟨Nat.le_of_ble_eq_true rfl, Nat.le_of_ble_eq_true rfl⟩) hS (fun q _ h => hFc q h) hFc (fun v88 u88 tt88 H1 locs ht88 hvm88 e88 hB88 hz88 hk88 hS => ?_)
                  obtain ⟨pbb_88, rfl⟩ : ∃ z, z = u88 := ⟨_, rfl⟩
                  have e88 : v88.toInt = (cb_N (fun k => (pab_35 k).toInt.toNat) 64 (n - 1) v65.toInt.toNat 0 : Int) := e88
                  obtain ⟨hP1, hK1, hD1⟩ := hB88
                  rw [ht88] at hP1
                  obtain ⟨hP, hD⟩ := va_join (wr := []) (w1 := [(mo, .inr (4, [.int mso, .ref m1, .ref m2, .ref m3, .ref m4, .ref m5, .ref m6, .int mct, .ref m7, .int mfr, .int mcu, .int mth2_17, .ref m8, .ref m9, .ref ma, .ref mb])), (m1, .inl (cL, 1503, .inr (.inl p1))), (m2, .inl (cL, 1503, .inr (.inl p2))), (m3, .inl (cI, 36072, .inl p3)), (m4, .inl (cI, 1503, .inl p4)), (m5, .inl (cL, 1500, .inr (.inl p5))), (m6, .inl (cI, 1500, .inl p6)), (m7, .inl (cI, 1500, .inl p7)), (m8, .inl (cI, 50, .inl p8b_35)), (m9, .inl (cI, 50, .inl p9b_35)), (ma, .inl (cI, 1500, .inl pab_35)), (mb, .inl (cI, 50, .inl pbb_88))]) hP hD [0, 1, 2, 3, 4, 5, 6, 7, 8, 9, 10, 11] [] rfl rfl (by decide) (by decide) hk88 hFc hP1 hD1
                  clear hP1 hD1 hPc hDc hFc
                  generalize H1 = H at hP hS ⊢
                  have hP : va_P D classes [(mo, .inr (4, [.int mso, .ref m1, .ref m2, .ref m3, .ref m4, .ref m5, .ref m6, .int mct, .ref m7, .int mfr, .int mcu, .int mth2_17, .ref m8, .ref m9, .ref ma, .ref mb])), (m1, .inl (cL, 1503, .inr (.inl p1))), (m2, .inl (cL, 1503, .inr (.inl p2))), (m3, .inl (cI, 36072, .inl p3)), (m4, .inl (cI, 1503, .inl p4)), (m5, .inl (cL, 1500, .inr (.inl p5))), (m6, .inl (cI, 1500, .inl p6)), (m7, .inl (cI, 1500, .inl p7)), (m8, .inl (cI, 50, .inl p8b_35)), (m9, .inl (cI, 50, .inl p9b_35)), (ma, .inl (cI, 1500, .inl pab_35)), (mb, .inl (cI, 50, .inl pbb_88))] H := hP
                  have hD : va_D A [(mo, .inr (4, [.int mso, .ref m1, .ref m2, .ref m3, .ref m4, .ref m5, .ref m6, .int mct, .ref m7, .int mfr, .int mcu, .int mth2_17, .ref m8, .ref m9, .ref ma, .ref mb])), (m1, .inl (cL, 1503, .inr (.inl p1))), (m2, .inl (cL, 1503, .inr (.inl p2))), (m3, .inl (cI, 36072, .inl p3)), (m4, .inl (cI, 1503, .inl p4)), (m5, .inl (cL, 1500, .inr (.inl p5))), (m6, .inl (cI, 1500, .inl p6)), (m7, .inl (cI, 1500, .inl p7)), (m8, .inl (cI, 50, .inl p8b_35)), (m9, .inl (cI, 50, .inl p9b_35)), (ma, .inl (cI, 1500, .inl pab_35)), (mb, .inl (cI, 50, .inl pbb_88))] := hD
                  refine lv_goto hx hb d_Mo_about_91 (tgt := 95) (by decide) ?_
                  have hpost : ((wh.toInt < 0 ∨ 7 < wh.toInt) ∧ mth2_17.toInt = 1) ∨ (0 ≤ wh.toInt ∧ wh.toInt ≤ 7 ∧ mth2_17.toInt = 0 ∧ ((wh.toInt = 0 ∧ v88.toInt = (n : Int)) ∨ (1 ≤ wh.toInt ∧ wh.toInt ≤ 4 ∧ v88.toInt = ((cb_end (fun k => sh_w w ((fun k => KW (p6 k).toInt.toNat) (k + 1)) ((fun k => KW (p6 k).toInt.toNat) k)) (n - 1)).2.1 (wh.toInt.toNat - 1) : Int)) ∨ (wh.toInt = 5 ∧ v88.toInt = ((cb_end (fun k => sh_w w ((fun k => KW (p6 k).toInt.toNat) (k + 1)) ((fun k => KW (p6 k).toInt.toNat) k)) (n - 1)).1 : Int)) ∨ (wh.toInt = 6 ∧ ∃ q : Nat, ob_isb w n (fun k => KW (p6 k).toInt.toNat) (KW 1500) q ∧ (((q < n ∧ kw_eq w ((fun k => KW (p6 k).toInt.toNat) q) (KW 1500)) ∧ v88.toInt = (cb_N (fun k => sh_w w ((fun k => KW (p6 k).toInt.toNat) (k + 1)) ((fun k => KW (p6 k).toInt.toNat) k)) 64 (n - 1) q 0 : Int)) ∨ (¬ (q < n ∧ kw_eq w ((fun k => KW (p6 k).toInt.toNat) q) (KW 1500)) ∧ v88.toInt = -1))) ∨ (wh.toInt = 7 ∧ v88.toInt = ((cb_end (fun k => sh_w w ((fun k => KW (p6 k).toInt.toNat) (k + 1)) ((fun k => KW (p6 k).toInt.toNat) k)) (n - 1)).2.2 : Int)))) := by
                    first
                    | (exfalso; omega)
                    | (refine Or.inr ⟨by omega, by omega, by omega, Or.inr (Or.inr (Or.inr (Or.inl ⟨by omega, q, hq2, ?_⟩)))⟩
                       first
                       | (rw [show v65.toInt.toNat = q by omega, cb_N_congr (by omega) hcg] at e88
                          exact Or.inl ⟨hin, e88⟩)
                       | (rcases i3 with ⟨j1, j2⟩ | ⟨j1, j2⟩
                          · exfalso; omega
                          · exact Or.inr ⟨j2, t94⟩))
                  have hP9 := hP.sub (ws' := [(mo, .inr (4, [.int mso, .ref m1, .ref m2, .ref m3, .ref m4, .ref m5, .ref m6, .int mct, .ref m7, .int mfr, .int mcu, .int mth2_17, .ref m8, .ref m9, .ref ma, .ref mb])), (m1, .inl (cL, 1503, .inr (.inl p1))), (m2, .inl (cL, 1503, .inr (.inl p2))), (m3, .inl (cI, 36072, .inl p3)), (m4, .inl (cI, 1503, .inl p4)), (m5, .inl (cL, 1500, .inr (.inl p5))), (m6, .inl (cI, 1500, .inl p6)), (m7, .inl (cI, 1500, .inl p7)), (m8, .inl (cI, 50, .inl p8b_35)), (m9, .inl (cI, 50, .inl p9b_35)), (ma, .inl (cI, 1500, .inl pab_35)), (mb, .inl (cI, 50, .inl pbb_88))]) [0, 1, 2, 3, 4, 5, 6, 7, 8, 9, 10, 11] rfl
                  have hD9 := hD.sub (ws' := [(mo, .inr (4, [.int mso, .ref m1, .ref m2, .ref m3, .ref m4, .ref m5, .ref m6, .int mct, .ref m7, .int mfr, .int mcu, .int mth2_17, .ref m8, .ref m9, .ref ma, .ref mb])), (m1, .inl (cL, 1503, .inr (.inl p1))), (m2, .inl (cL, 1503, .inr (.inl p2))), (m3, .inl (cI, 36072, .inl p3)), (m4, .inl (cI, 1503, .inl p4)), (m5, .inl (cL, 1500, .inr (.inl p5))), (m6, .inl (cI, 1500, .inl p6)), (m7, .inl (cI, 1500, .inl p7)), (m8, .inl (cI, 50, .inl p8b_35)), (m9, .inl (cI, 50, .inl p9b_35)), (ma, .inl (cI, 1500, .inl pab_35)), (mb, .inl (cI, 50, .inl pbb_88))]) [0, 1, 2, 3, 4, 5, 6, 7, 8, 9, 10, 11] (by decide) rfl
                  rw [hQ]
                  exact W.iret (v := v88) hx hb hr (fun t ht hW => ⟨⟨v88, (mth2_17, p8b_35, p9b_35, pab_35, pbb_88), rfl, hpost, by rw [ht]; exact hP9, va_K.moved hW.alike hK, hD9⟩, hS.F ht⟩) hS.2.2 d_Mo_about_95
            · have g53 := ic_eq.mp g53
              refine lv_aload_n hx hb d_Mo_about_56 rfl (lv_at hl 0 rfl) ?_
              have hPc := hP.sub (ws' := [(mo, .inr (4, [.int mso, .ref m1, .ref m2, .ref m3, .ref m4, .ref m5, .ref m6, .int mct, .ref m7, .int mfr, .int mcu, .int mth2_17, .ref m8, .ref m9, .ref ma, .ref mb])), (m1, .inl (cL, 1503, .inr (.inl p1))), (m2, .inl (cL, 1503, .inr (.inl p2))), (m3, .inl (cI, 36072, .inl p3)), (m4, .inl (cI, 1503, .inl p4)), (m5, .inl (cL, 1500, .inr (.inl p5))), (m6, .inl (cI, 1500, .inl p6)), (m7, .inl (cI, 1500, .inl p7)), (m8, .inl (cI, 50, .inl p8b_35)), (m9, .inl (cI, 50, .inl p9b_35)), (ma, .inl (cI, 1500, .inl pab_35)), (mb, .inl (cI, 50, .inl pb))]) [0, 1, 2, 3, 4, 5, 6, 7, 8, 9, 10, 11] rfl
              have hDc := hD.sub (ws' := [(mo, .inr (4, [.int mso, .ref m1, .ref m2, .ref m3, .ref m4, .ref m5, .ref m6, .int mct, .ref m7, .int mfr, .int mcu, .int mth2_17, .ref m8, .ref m9, .ref ma, .ref mb])), (m1, .inl (cL, 1503, .inr (.inl p1))), (m2, .inl (cL, 1503, .inr (.inl p2))), (m3, .inl (cI, 36072, .inl p3)), (m4, .inl (cI, 1503, .inl p4)), (m5, .inl (cL, 1500, .inr (.inl p5))), (m6, .inl (cI, 1500, .inl p6)), (m7, .inl (cI, 1500, .inl p7)), (m8, .inl (cI, 50, .inl p8b_35)), (m9, .inl (cI, 50, .inl p9b_35)), (ma, .inl (cI, 1500, .inl pab_35)), (mb, .inl (cI, 50, .inl pb))]) [0, 1, 2, 3, 4, 5, 6, 7, 8, 9, 10, 11] (by decide) rfl
              have hFc := va_free (wc := [(mo, .inr (4, [.int mso, .ref m1, .ref m2, .ref m3, .ref m4, .ref m5, .ref m6, .int mct, .ref m7, .int mfr, .int mcu, .int mth2_17, .ref m8, .ref m9, .ref ma, .ref mb])), (m1, .inl (cL, 1503, .inr (.inl p1))), (m2, .inl (cL, 1503, .inr (.inl p2))), (m3, .inl (cI, 36072, .inl p3)), (m4, .inl (cI, 1503, .inl p4)), (m5, .inl (cL, 1500, .inr (.inl p5))), (m6, .inl (cI, 1500, .inl p6)), (m7, .inl (cI, 1500, .inl p7)), (m8, .inl (cI, 50, .inl p8b_35)), (m9, .inl (cI, 50, .inl p9b_35)), (ma, .inl (cI, 1500, .inl pab_35)), (mb, .inl (cI, 50, .inl pb))]) hD hS hA [0, 1, 2, 3, 4, 5, 6, 7, 8, 9, 10, 11] rfl
              refine va_calli (xr_mv (As := []) (rest := []) ⟨hx, hb, hml, hown, hts⟩ (c_Mo_deepest l D cL cI mo m1 m2 m3 m4 m5 m6 m7 m8 m9 ma mb mso mct mfr mcu mth2_17 p1 p2 p5 p3 p4 p6 p7 p8b_35 p9b_35 pab_35 pb n H.size (by first | omega | exact hct) (by first | omega | exact hn) (hpa9)) (xr_cv 0 hts tw_830 tw_827 tw_829 tp_25 tw_7 rfl rfl (by decide) ⟨Nat.le_of_ble_eq_true rfl, Nat.le_of_ble_eq_true rfl⟩) hK hPc (hDc.weaken (fun _ _ _ _ => trivial)) (va_recv hK hP rfl (q0 := 0) (ci := 4) rfl) rfl hl.1 rfl (Nat.le_of_ble_eq_true rfl) d_Mo_about_57 ⟨Nat.le_of_ble_eq_true rfl, Nat.le_of_ble_eq_true rfl⟩) hS (fun q _ h => hFc q h) hFc (fun v57 u57 tt57 H1 locs ht57 hvm57 e57 hB57 hz57 hk57 hS => ?_)
              obtain ⟨pbb_57, rfl⟩ : ∃ z, z = u57 := ⟨_, rfl⟩
              have e57 : v57.toInt = ((cb_end (fun k => (pab_35 k).toInt.toNat) (n - 1)).1 : Int) := e57
              obtain ⟨hP1, hK1, hD1⟩ := hB57
              rw [ht57] at hP1
              obtain ⟨hP, hD⟩ := va_join (wr := []) (w1 := [(mo, .inr (4, [.int mso, .ref m1, .ref m2, .ref m3, .ref m4, .ref m5, .ref m6, .int mct, .ref m7, .int mfr, .int mcu, .int mth2_17, .ref m8, .ref m9, .ref ma, .ref mb])), (m1, .inl (cL, 1503, .inr (.inl p1))), (m2, .inl (cL, 1503, .inr (.inl p2))), (m3, .inl (cI, 36072, .inl p3)), (m4, .inl (cI, 1503, .inl p4)), (m5, .inl (cL, 1500, .inr (.inl p5))), (m6, .inl (cI, 1500, .inl p6)), (m7, .inl (cI, 1500, .inl p7)), (m8, .inl (cI, 50, .inl p8b_35)), (m9, .inl (cI, 50, .inl p9b_35)), (ma, .inl (cI, 1500, .inl pab_35)), (mb, .inl (cI, 50, .inl pbb_57))]) hP hD [0, 1, 2, 3, 4, 5, 6, 7, 8, 9, 10, 11] [] rfl rfl (by decide) (by decide) hk57 hFc hP1 hD1
              clear hP1 hD1 hPc hDc hFc
              generalize H1 = H at hP hS ⊢
              have hP : va_P D classes [(mo, .inr (4, [.int mso, .ref m1, .ref m2, .ref m3, .ref m4, .ref m5, .ref m6, .int mct, .ref m7, .int mfr, .int mcu, .int mth2_17, .ref m8, .ref m9, .ref ma, .ref mb])), (m1, .inl (cL, 1503, .inr (.inl p1))), (m2, .inl (cL, 1503, .inr (.inl p2))), (m3, .inl (cI, 36072, .inl p3)), (m4, .inl (cI, 1503, .inl p4)), (m5, .inl (cL, 1500, .inr (.inl p5))), (m6, .inl (cI, 1500, .inl p6)), (m7, .inl (cI, 1500, .inl p7)), (m8, .inl (cI, 50, .inl p8b_35)), (m9, .inl (cI, 50, .inl p9b_35)), (ma, .inl (cI, 1500, .inl pab_35)), (mb, .inl (cI, 50, .inl pbb_57))] H := hP
              have hD : va_D A [(mo, .inr (4, [.int mso, .ref m1, .ref m2, .ref m3, .ref m4, .ref m5, .ref m6, .int mct, .ref m7, .int mfr, .int mcu, .int mth2_17, .ref m8, .ref m9, .ref ma, .ref mb])), (m1, .inl (cL, 1503, .inr (.inl p1))), (m2, .inl (cL, 1503, .inr (.inl p2))), (m3, .inl (cI, 36072, .inl p3)), (m4, .inl (cI, 1503, .inl p4)), (m5, .inl (cL, 1500, .inr (.inl p5))), (m6, .inl (cI, 1500, .inl p6)), (m7, .inl (cI, 1500, .inl p7)), (m8, .inl (cI, 50, .inl p8b_35)), (m9, .inl (cI, 50, .inl p9b_35)), (ma, .inl (cI, 1500, .inl pab_35)), (mb, .inl (cI, 50, .inl pbb_57))] := hD
              have hpost : ((wh.toInt < 0 ∨ 7 < wh.toInt) ∧ mth2_17.toInt = 1) ∨ (0 ≤ wh.toInt ∧ wh.toInt ≤ 7 ∧ mth2_17.toInt = 0 ∧ ((wh.toInt = 0 ∧ v57.toInt = (n : Int)) ∨ (1 ≤ wh.toInt ∧ wh.toInt ≤ 4 ∧ v57.toInt = ((cb_end (fun k => sh_w w ((fun k => KW (p6 k).toInt.toNat) (k + 1)) ((fun k => KW (p6 k).toInt.toNat) k)) (n - 1)).2.1 (wh.toInt.toNat - 1) : Int)) ∨ (wh.toInt = 5 ∧ v57.toInt = ((cb_end (fun k => sh_w w ((fun k => KW (p6 k).toInt.toNat) (k + 1)) ((fun k => KW (p6 k).toInt.toNat) k)) (n - 1)).1 : Int)) ∨ (wh.toInt = 6 ∧ ∃ q : Nat, ob_isb w n (fun k => KW (p6 k).toInt.toNat) (KW 1500) q ∧ (((q < n ∧ kw_eq w ((fun k => KW (p6 k).toInt.toNat) q) (KW 1500)) ∧ v57.toInt = (cb_N (fun k => sh_w w ((fun k => KW (p6 k).toInt.toNat) (k + 1)) ((fun k => KW (p6 k).toInt.toNat) k)) 64 (n - 1) q 0 : Int)) ∨ (¬ (q < n ∧ kw_eq w ((fun k => KW (p6 k).toInt.toNat) q) (KW 1500)) ∧ v57.toInt = -1))) ∨ (wh.toInt = 7 ∧ v57.toInt = ((cb_end (fun k => sh_w w ((fun k => KW (p6 k).toInt.toNat) (k + 1)) ((fun k => KW (p6 k).toInt.toNat) k)) (n - 1)).2.2 : Int)))) := by
                first
                | (exfalso; omega)
                | (rw [cb_end_congr hcg] at e57
                   exact Or.inr ⟨by omega, by omega, by omega, Or.inr (Or.inr (Or.inl ⟨by omega, e57⟩))⟩)
              have hP9 := hP.sub (ws' := [(mo, .inr (4, [.int mso, .ref m1, .ref m2, .ref m3, .ref m4, .ref m5, .ref m6, .int mct, .ref m7, .int mfr, .int mcu, .int mth2_17, .ref m8, .ref m9, .ref ma, .ref mb])), (m1, .inl (cL, 1503, .inr (.inl p1))), (m2, .inl (cL, 1503, .inr (.inl p2))), (m3, .inl (cI, 36072, .inl p3)), (m4, .inl (cI, 1503, .inl p4)), (m5, .inl (cL, 1500, .inr (.inl p5))), (m6, .inl (cI, 1500, .inl p6)), (m7, .inl (cI, 1500, .inl p7)), (m8, .inl (cI, 50, .inl p8b_35)), (m9, .inl (cI, 50, .inl p9b_35)), (ma, .inl (cI, 1500, .inl pab_35)), (mb, .inl (cI, 50, .inl pbb_57))]) [0, 1, 2, 3, 4, 5, 6, 7, 8, 9, 10, 11] rfl
              have hD9 := hD.sub (ws' := [(mo, .inr (4, [.int mso, .ref m1, .ref m2, .ref m3, .ref m4, .ref m5, .ref m6, .int mct, .ref m7, .int mfr, .int mcu, .int mth2_17, .ref m8, .ref m9, .ref ma, .ref mb])), (m1, .inl (cL, 1503, .inr (.inl p1))), (m2, .inl (cL, 1503, .inr (.inl p2))), (m3, .inl (cI, 36072, .inl p3)), (m4, .inl (cI, 1503, .inl p4)), (m5, .inl (cL, 1500, .inr (.inl p5))), (m6, .inl (cI, 1500, .inl p6)), (m7, .inl (cI, 1500, .inl p7)), (m8, .inl (cI, 50, .inl p8b_35)), (m9, .inl (cI, 50, .inl p9b_35)), (ma, .inl (cI, 1500, .inl pab_35)), (mb, .inl (cI, 50, .inl pbb_57))]) [0, 1, 2, 3, 4, 5, 6, 7, 8, 9, 10, 11] (by decide) rfl
              rw [hQ]
              exact W.iret (v := v57) hx hb hr (fun t ht hW => ⟨⟨v57, (mth2_17, p8b_35, p9b_35, pab_35, pbb_57), rfl, hpost, by rw [ht]; exact hP9, va_K.moved hW.alike hK, hD9⟩, hS.F ht⟩) hS.2.2 d_Mo_about_60
          · have g40 := ic_nle.mp g40
            refine lv_aload_n hx hb d_Mo_about_43 rfl (lv_at hl 0 rfl) ?_
            refine lv_iload_n hx hb d_Mo_about_44 rfl (lv_at hl 1 rfl) ?_
            refine lv_iconst (v := 1) hx hb d_Mo_about_45 (by decide) ?_
            refine lv_topi (fun v45 e45 => ?_)
            have t45 : v45.toInt = 1 := by rw [e45]; rfl
            refine lv_isub hx hb d_Mo_about_46 ?_
            refine lv_topi (fun v46 e46 => ?_)
            have t46 := ia_sub e46 ⟨by omega, by omega⟩
            refine vp_callSi (xr_rv (As := [.int v46]) (rest := []) ⟨hx, hb, hml, hown, hts⟩ (c_Mo_branches l D cL cI mo m1 m2 m3 m4 m5 m6 m7 m8 m9 ma mb mso mct mfr mcu mth2_17 p1 p2 p5 p3 p4 p6 p7 p8b_35 p9b_35 pab_35 pb n v46 (by first | omega | exact hct) (by first | omega | exact hn) (hpa9) (by first | omega | exact hs0)) (xr_cv 1 hts tw_826 tw_823 tw_825 tp_24 tw_7 rfl rfl (by decide) ⟨Nat.le_of_ble_eq_true rfl, Nat.le_of_ble_eq_true rfl⟩) hK hP (va_recv hK hP rfl (q0 := 0) (ci := 4) rfl) rfl hl.1 rfl (Nat.le_of_ble_eq_true rfl) d_Mo_about_47 ⟨Nat.le_of_ble_eq_true rfl, Nat.le_of_ble_eq_true rfl⟩) (fun v47 e47 => ?_)
            have e47 : v47.toInt = ((cb_end (fun k => (pab_35 k).toInt.toNat) (n - 1)).2.1 v46.toInt.toNat : Int) := e47
            have hpost : ((wh.toInt < 0 ∨ 7 < wh.toInt) ∧ mth2_17.toInt = 1) ∨ (0 ≤ wh.toInt ∧ wh.toInt ≤ 7 ∧ mth2_17.toInt = 0 ∧ ((wh.toInt = 0 ∧ v47.toInt = (n : Int)) ∨ (1 ≤ wh.toInt ∧ wh.toInt ≤ 4 ∧ v47.toInt = ((cb_end (fun k => sh_w w ((fun k => KW (p6 k).toInt.toNat) (k + 1)) ((fun k => KW (p6 k).toInt.toNat) k)) (n - 1)).2.1 (wh.toInt.toNat - 1) : Int)) ∨ (wh.toInt = 5 ∧ v47.toInt = ((cb_end (fun k => sh_w w ((fun k => KW (p6 k).toInt.toNat) (k + 1)) ((fun k => KW (p6 k).toInt.toNat) k)) (n - 1)).1 : Int)) ∨ (wh.toInt = 6 ∧ ∃ q : Nat, ob_isb w n (fun k => KW (p6 k).toInt.toNat) (KW 1500) q ∧ (((q < n ∧ kw_eq w ((fun k => KW (p6 k).toInt.toNat) q) (KW 1500)) ∧ v47.toInt = (cb_N (fun k => sh_w w ((fun k => KW (p6 k).toInt.toNat) (k + 1)) ((fun k => KW (p6 k).toInt.toNat) k)) 64 (n - 1) q 0 : Int)) ∨ (¬ (q < n ∧ kw_eq w ((fun k => KW (p6 k).toInt.toNat) q) (KW 1500)) ∧ v47.toInt = -1))) ∨ (wh.toInt = 7 ∧ v47.toInt = ((cb_end (fun k => sh_w w ((fun k => KW (p6 k).toInt.toNat) (k + 1)) ((fun k => KW (p6 k).toInt.toNat) k)) (n - 1)).2.2 : Int)))) := by
              first
              | (exfalso; omega)
              | (rw [cb_end_congr hcg, show v46.toInt.toNat = wh.toInt.toNat - 1 by omega] at e47
                 exact Or.inr ⟨by omega, by omega, by omega, Or.inr (Or.inl ⟨by omega, by omega, e47⟩)⟩)
            have hP9 := hP.sub (ws' := [(mo, .inr (4, [.int mso, .ref m1, .ref m2, .ref m3, .ref m4, .ref m5, .ref m6, .int mct, .ref m7, .int mfr, .int mcu, .int mth2_17, .ref m8, .ref m9, .ref ma, .ref mb])), (m1, .inl (cL, 1503, .inr (.inl p1))), (m2, .inl (cL, 1503, .inr (.inl p2))), (m3, .inl (cI, 36072, .inl p3)), (m4, .inl (cI, 1503, .inl p4)), (m5, .inl (cL, 1500, .inr (.inl p5))), (m6, .inl (cI, 1500, .inl p6)), (m7, .inl (cI, 1500, .inl p7)), (m8, .inl (cI, 50, .inl p8b_35)), (m9, .inl (cI, 50, .inl p9b_35)), (ma, .inl (cI, 1500, .inl pab_35)), (mb, .inl (cI, 50, .inl pb))]) [0, 1, 2, 3, 4, 5, 6, 7, 8, 9, 10, 11] rfl
            have hD9 := hD.sub (ws' := [(mo, .inr (4, [.int mso, .ref m1, .ref m2, .ref m3, .ref m4, .ref m5, .ref m6, .int mct, .ref m7, .int mfr, .int mcu, .int mth2_17, .ref m8, .ref m9, .ref ma, .ref mb])), (m1, .inl (cL, 1503, .inr (.inl p1))), (m2, .inl (cL, 1503, .inr (.inl p2))), (m3, .inl (cI, 36072, .inl p3)), (m4, .inl (cI, 1503, .inl p4)), (m5, .inl (cL, 1500, .inr (.inl p5))), (m6, .inl (cI, 1500, .inl p6)), (m7, .inl (cI, 1500, .inl p7)), (m8, .inl (cI, 50, .inl p8b_35)), (m9, .inl (cI, 50, .inl p9b_35)), (ma, .inl (cI, 1500, .inl pab_35)), (mb, .inl (cI, 50, .inl pb))]) [0, 1, 2, 3, 4, 5, 6, 7, 8, 9, 10, 11] (by decide) rfl
            rw [hQ]
            exact W.iret (v := v47) hx hb hr (fun t ht hW => ⟨⟨v47, (mth2_17, p8b_35, p9b_35, pab_35, pb), rfl, hpost, by rw [ht]; exact hP9, va_K.moved hW.alike hK, hD9⟩, hS.F ht⟩) hS.2.2 d_Mo_about_50
        · have g26 := (iz_eq).mp g26
          refine lv_aload_n hx hb d_Mo_about_29 rfl (lv_at hl 0 rfl) ?_
          refine va_get (D := D) (ci := 4) (v := .int mct) (C := R_Mo) (T := F_Mo) (N := 16) hx hb hts in_Mo hown hK hP 0 rfl rfl 7 (by decide) (hts _ tw_610) (fun _ h9 => h9) rfl d_Mo_about_30 ?_
          have hpost : ((wh.toInt < 0 ∨ 7 < wh.toInt) ∧ mth2_17.toInt = 1) ∨ (0 ≤ wh.toInt ∧ wh.toInt ≤ 7 ∧ mth2_17.toInt = 0 ∧ ((wh.toInt = 0 ∧ mct.toInt = (n : Int)) ∨ (1 ≤ wh.toInt ∧ wh.toInt ≤ 4 ∧ mct.toInt = ((cb_end (fun k => sh_w w ((fun k => KW (p6 k).toInt.toNat) (k + 1)) ((fun k => KW (p6 k).toInt.toNat) k)) (n - 1)).2.1 (wh.toInt.toNat - 1) : Int)) ∨ (wh.toInt = 5 ∧ mct.toInt = ((cb_end (fun k => sh_w w ((fun k => KW (p6 k).toInt.toNat) (k + 1)) ((fun k => KW (p6 k).toInt.toNat) k)) (n - 1)).1 : Int)) ∨ (wh.toInt = 6 ∧ ∃ q : Nat, ob_isb w n (fun k => KW (p6 k).toInt.toNat) (KW 1500) q ∧ (((q < n ∧ kw_eq w ((fun k => KW (p6 k).toInt.toNat) q) (KW 1500)) ∧ mct.toInt = (cb_N (fun k => sh_w w ((fun k => KW (p6 k).toInt.toNat) (k + 1)) ((fun k => KW (p6 k).toInt.toNat) k)) 64 (n - 1) q 0 : Int)) ∨ (¬ (q < n ∧ kw_eq w ((fun k => KW (p6 k).toInt.toNat) q) (KW 1500)) ∧ mct.toInt = -1))) ∨ (wh.toInt = 7 ∧ mct.toInt = ((cb_end (fun k => sh_w w ((fun k => KW (p6 k).toInt.toNat) (k + 1)) ((fun k => KW (p6 k).toInt.toNat) k)) (n - 1)).2.2 : Int)))) := by
            first
            | (exfalso; omega)
            | exact Or.inr ⟨by omega, by omega, by omega, Or.inl ⟨by omega, hct⟩⟩
          have hP9 := hP.sub (ws' := [(mo, .inr (4, [.int mso, .ref m1, .ref m2, .ref m3, .ref m4, .ref m5, .ref m6, .int mct, .ref m7, .int mfr, .int mcu, .int mth2_17, .ref m8, .ref m9, .ref ma, .ref mb])), (m1, .inl (cL, 1503, .inr (.inl p1))), (m2, .inl (cL, 1503, .inr (.inl p2))), (m3, .inl (cI, 36072, .inl p3)), (m4, .inl (cI, 1503, .inl p4)), (m5, .inl (cL, 1500, .inr (.inl p5))), (m6, .inl (cI, 1500, .inl p6)), (m7, .inl (cI, 1500, .inl p7)), (m8, .inl (cI, 50, .inl p8)), (m9, .inl (cI, 50, .inl p9)), (ma, .inl (cI, 1500, .inl pa)), (mb, .inl (cI, 50, .inl pb))]) [0, 1, 2, 3, 4, 5, 6, 7, 8, 9, 10, 11] rfl
          have hD9 := hD.sub (ws' := [(mo, .inr (4, [.int mso, .ref m1, .ref m2, .ref m3, .ref m4, .ref m5, .ref m6, .int mct, .ref m7, .int mfr, .int mcu, .int mth2_17, .ref m8, .ref m9, .ref ma, .ref mb])), (m1, .inl (cL, 1503, .inr (.inl p1))), (m2, .inl (cL, 1503, .inr (.inl p2))), (m3, .inl (cI, 36072, .inl p3)), (m4, .inl (cI, 1503, .inl p4)), (m5, .inl (cL, 1500, .inr (.inl p5))), (m6, .inl (cI, 1500, .inl p6)), (m7, .inl (cI, 1500, .inl p7)), (m8, .inl (cI, 50, .inl p8)), (m9, .inl (cI, 50, .inl p9)), (ma, .inl (cI, 1500, .inl pa)), (mb, .inl (cI, 50, .inl pb))]) [0, 1, 2, 3, 4, 5, 6, 7, 8, 9, 10, 11] (by decide) rfl
          rw [hQ]
          exact W.iret (v := mct) hx hb hr (fun t ht hW => ⟨⟨mct, (mth2_17, p8, p9, pa, pb), rfl, hpost, by rw [ht]; exact hP9, va_K.moved hW.alike hK, hD9⟩, hS.F ht⟩) hS.2.2 d_Mo_about_33
      · have g20 := (iz_ne).mp g20
        exfalso; omega
    · have g8 := ic_nle.mp g8
      refine lv_iconst (v := 1) hx hb d_Mo_about_11 (by decide) ?_
      refine lv_topi (fun v11 e11 => ?_)
      have t11 : v11.toInt = 1 := by rw [e11]; rfl
      refine lv_goto hx hb d_Mo_about_12 (tgt := 16) (by decide) ?_
      refine lv_iconst (v := 1) hx hb d_Mo_about_16 (by decide) ?_
      refine lv_topi (fun v16 e16 => ?_)
      have t16 : v16.toInt = 1 := by rw [e16]; rfl
      have hPc := hP.sub (ws' := [(mo, .inr (4, [.int mso, .ref m1, .ref m2, .ref m3, .ref m4, .ref m5, .ref m6, .int mct, .ref m7, .int mfr, .int mcu, .int mth, .ref m8, .ref m9, .ref ma, .ref mb])), (m1, .inl (cL, 1503, .inr (.inl p1))), (m2, .inl (cL, 1503, .inr (.inl p2))), (m3, .inl (cI, 36072, .inl p3)), (m4, .inl (cI, 1503, .inl p4)), (m5, .inl (cL, 1500, .inr (.inl p5))), (m6, .inl (cI, 1500, .inl p6)), (m7, .inl (cI, 1500, .inl p7)), (m8, .inl (cI, 50, .inl p8)), (m9, .inl (cI, 50, .inl p9)), (ma, .inl (cI, 1500, .inl pa)), (mb, .inl (cI, 50, .inl pb))]) [0, 1, 2, 3, 4, 5, 6, 7, 8, 9, 10, 11] rfl
      have hDc := hD.sub (ws' := [(mo, .inr (4, [.int mso, .ref m1, .ref m2, .ref m3, .ref m4, .ref m5, .ref m6, .int mct, .ref m7, .int mfr, .int mcu, .int mth, .ref m8, .ref m9, .ref ma, .ref mb])), (m1, .inl (cL, 1503, .inr (.inl p1))), (m2, .inl (cL, 1503, .inr (.inl p2))), (m3, .inl (cI, 36072, .inl p3)), (m4, .inl (cI, 1503, .inl p4)), (m5, .inl (cL, 1500, .inr (.inl p5))), (m6, .inl (cI, 1500, .inl p6)), (m7, .inl (cI, 1500, .inl p7)), (m8, .inl (cI, 50, .inl p8)), (m9, .inl (cI, 50, .inl p9)), (ma, .inl (cI, 1500, .inl pa)), (mb, .inl (cI, 50, .inl pb))]) [0, 1, 2, 3, 4, 5, 6, 7, 8, 9, 10, 11] (by decide) rfl
      have hFc := va_free (wc := [(mo, .inr (4, [.int mso, .ref m1, .ref m2, .ref m3, .ref m4, .ref m5, .ref m6, .int mct, .ref m7, .int mfr, .int mcu, .int mth, .ref m8, .ref m9, .ref ma, .ref mb])), (m1, .inl (cL, 1503, .inr (.inl p1))), (m2, .inl (cL, 1503, .inr (.inl p2))), (m3, .inl (cI, 36072, .inl p3)), (m4, .inl (cI, 1503, .inl p4)), (m5, .inl (cL, 1500, .inr (.inl p5))), (m6, .inl (cI, 1500, .inl p6)), (m7, .inl (cI, 1500, .inl p7)), (m8, .inl (cI, 50, .inl p8)), (m9, .inl (cI, 50, .inl p9)), (ma, .inl (cI, 1500, .inl pa)), (mb, .inl (cI, 50, .inl pb))]) hD hS hA [0, 1, 2, 3, 4, 5, 6, 7, 8, 9, 10, 11] rfl
      refine va_calli (xr_mv (As := [.int v11, .int v16]) (rest := []) ⟨hx, hb, hml, hown, hts⟩ (c_Mo_fails l D cL cI mo m1 m2 m3 m4 m5 m6 m7 m8 m9 ma mb mso mct mfr mcu mth p1 p2 p5 p3 p4 p6 p7 p8 p9 pa pb v11 v16 s.heap.size (by first | omega | exact hso)) (xr_cv 2 hts tw_663 tw_660 tw_662 tp_10 tw_7 rfl rfl (by decide) ⟨Nat.le_of_ble_eq_true rfl, Nat.le_of_ble_eq_true rfl⟩) hK hPc (hDc.weaken (fun _ _ _ _ => trivial)) (va_recv hK hP rfl (q0 := 0) (ci := 4) rfl) rfl hl.1 rfl (Nat.le_of_ble_eq_true rfl) d_Mo_about_17 ⟨Nat.le_of_ble_eq_true rfl, Nat.le_of_ble_eq_true rfl⟩) hS (fun q _ h => hFc q h) hFc (fun v17 u17 tt17 H1 locs ht17 hvm17 e17 hB17 hz17 hk17 hS => ?_)
      obtain ⟨mth2_17, rfl⟩ : ∃ z, z = u17 := ⟨_, rfl⟩
      have e17 : v17.toInt = v11.toInt ∧ ((v11.toInt = 0 ∧ mth2_17.toInt = 0) ∨ (v11.toInt ≠ 0 ∧ mth2_17.toInt = v16.toInt)) := e17
      obtain ⟨hP1, hK1, hD1⟩ := hB17
      rw [ht17] at hP1
      obtain ⟨hP, hD⟩ := va_join (wr := []) (w1 := [(mo, .inr (4, [.int mso, .ref m1, .ref m2, .ref m3, .ref m4, .ref m5, .ref m6, .int mct, .ref m7, .int mfr, .int mcu, .int mth2_17, .ref m8, .ref m9, .ref ma, .ref mb])), (m1, .inl (cL, 1503, .inr (.inl p1))), (m2, .inl (cL, 1503, .inr (.inl p2))), (m3, .inl (cI, 36072, .inl p3)), (m4, .inl (cI, 1503, .inl p4)), (m5, .inl (cL, 1500, .inr (.inl p5))), (m6, .inl (cI, 1500, .inl p6)), (m7, .inl (cI, 1500, .inl p7)), (m8, .inl (cI, 50, .inl p8)), (m9, .inl (cI, 50, .inl p9)), (ma, .inl (cI, 1500, .inl pa)), (mb, .inl (cI, 50, .inl pb))]) hP hD [0, 1, 2, 3, 4, 5, 6, 7, 8, 9, 10, 11] [] rfl rfl (by decide) (by decide) hk17 hFc hP1 hD1
      clear hP1 hD1 hPc hDc hFc
      generalize H1 = H at hP hS ⊢
      have hP : va_P D classes [(mo, .inr (4, [.int mso, .ref m1, .ref m2, .ref m3, .ref m4, .ref m5, .ref m6, .int mct, .ref m7, .int mfr, .int mcu, .int mth2_17, .ref m8, .ref m9, .ref ma, .ref mb])), (m1, .inl (cL, 1503, .inr (.inl p1))), (m2, .inl (cL, 1503, .inr (.inl p2))), (m3, .inl (cI, 36072, .inl p3)), (m4, .inl (cI, 1503, .inl p4)), (m5, .inl (cL, 1500, .inr (.inl p5))), (m6, .inl (cI, 1500, .inl p6)), (m7, .inl (cI, 1500, .inl p7)), (m8, .inl (cI, 50, .inl p8)), (m9, .inl (cI, 50, .inl p9)), (ma, .inl (cI, 1500, .inl pa)), (mb, .inl (cI, 50, .inl pb))] H := hP
      have hD : va_D A [(mo, .inr (4, [.int mso, .ref m1, .ref m2, .ref m3, .ref m4, .ref m5, .ref m6, .int mct, .ref m7, .int mfr, .int mcu, .int mth2_17, .ref m8, .ref m9, .ref ma, .ref mb])), (m1, .inl (cL, 1503, .inr (.inl p1))), (m2, .inl (cL, 1503, .inr (.inl p2))), (m3, .inl (cI, 36072, .inl p3)), (m4, .inl (cI, 1503, .inl p4)), (m5, .inl (cL, 1500, .inr (.inl p5))), (m6, .inl (cI, 1500, .inl p6)), (m7, .inl (cI, 1500, .inl p7)), (m8, .inl (cI, 50, .inl p8)), (m9, .inl (cI, 50, .inl p9)), (ma, .inl (cI, 1500, .inl pa)), (mb, .inl (cI, 50, .inl pb))] := hD
      refine lv_if_eq hx hb d_Mo_about_20 (tgt := 25) (by decide) (fun g20 => ?_) (fun g20 => ?_)
      · have g20 := (iz_eq).mp g20
        exfalso; omega
      · have g20 := (iz_ne).mp g20
        refine lv_iconst (v := 0) hx hb d_Mo_about_23 (by decide) ?_
        refine lv_topi (fun v23 e23 => ?_)
        have t23 : v23.toInt = 0 := by rw [e23]; rfl
        have hpost : ((wh.toInt < 0 ∨ 7 < wh.toInt) ∧ mth2_17.toInt = 1) ∨ (0 ≤ wh.toInt ∧ wh.toInt ≤ 7 ∧ mth2_17.toInt = 0 ∧ ((wh.toInt = 0 ∧ v23.toInt = (n : Int)) ∨ (1 ≤ wh.toInt ∧ wh.toInt ≤ 4 ∧ v23.toInt = ((cb_end (fun k => sh_w w ((fun k => KW (p6 k).toInt.toNat) (k + 1)) ((fun k => KW (p6 k).toInt.toNat) k)) (n - 1)).2.1 (wh.toInt.toNat - 1) : Int)) ∨ (wh.toInt = 5 ∧ v23.toInt = ((cb_end (fun k => sh_w w ((fun k => KW (p6 k).toInt.toNat) (k + 1)) ((fun k => KW (p6 k).toInt.toNat) k)) (n - 1)).1 : Int)) ∨ (wh.toInt = 6 ∧ ∃ q : Nat, ob_isb w n (fun k => KW (p6 k).toInt.toNat) (KW 1500) q ∧ (((q < n ∧ kw_eq w ((fun k => KW (p6 k).toInt.toNat) q) (KW 1500)) ∧ v23.toInt = (cb_N (fun k => sh_w w ((fun k => KW (p6 k).toInt.toNat) (k + 1)) ((fun k => KW (p6 k).toInt.toNat) k)) 64 (n - 1) q 0 : Int)) ∨ (¬ (q < n ∧ kw_eq w ((fun k => KW (p6 k).toInt.toNat) q) (KW 1500)) ∧ v23.toInt = -1))) ∨ (wh.toInt = 7 ∧ v23.toInt = ((cb_end (fun k => sh_w w ((fun k => KW (p6 k).toInt.toNat) (k + 1)) ((fun k => KW (p6 k).toInt.toNat) k)) (n - 1)).2.2 : Int)))) := by
          first
          | (exfalso; omega)
          | exact Or.inl ⟨by omega, by omega⟩
        have hP9 := hP.sub (ws' := [(mo, .inr (4, [.int mso, .ref m1, .ref m2, .ref m3, .ref m4, .ref m5, .ref m6, .int mct, .ref m7, .int mfr, .int mcu, .int mth2_17, .ref m8, .ref m9, .ref ma, .ref mb])), (m1, .inl (cL, 1503, .inr (.inl p1))), (m2, .inl (cL, 1503, .inr (.inl p2))), (m3, .inl (cI, 36072, .inl p3)), (m4, .inl (cI, 1503, .inl p4)), (m5, .inl (cL, 1500, .inr (.inl p5))), (m6, .inl (cI, 1500, .inl p6)), (m7, .inl (cI, 1500, .inl p7)), (m8, .inl (cI, 50, .inl p8)), (m9, .inl (cI, 50, .inl p9)), (ma, .inl (cI, 1500, .inl pa)), (mb, .inl (cI, 50, .inl pb))]) [0, 1, 2, 3, 4, 5, 6, 7, 8, 9, 10, 11] rfl
        have hD9 := hD.sub (ws' := [(mo, .inr (4, [.int mso, .ref m1, .ref m2, .ref m3, .ref m4, .ref m5, .ref m6, .int mct, .ref m7, .int mfr, .int mcu, .int mth2_17, .ref m8, .ref m9, .ref ma, .ref mb])), (m1, .inl (cL, 1503, .inr (.inl p1))), (m2, .inl (cL, 1503, .inr (.inl p2))), (m3, .inl (cI, 36072, .inl p3)), (m4, .inl (cI, 1503, .inl p4)), (m5, .inl (cL, 1500, .inr (.inl p5))), (m6, .inl (cI, 1500, .inl p6)), (m7, .inl (cI, 1500, .inl p7)), (m8, .inl (cI, 50, .inl p8)), (m9, .inl (cI, 50, .inl p9)), (ma, .inl (cI, 1500, .inl pa)), (mb, .inl (cI, 50, .inl pb))]) [0, 1, 2, 3, 4, 5, 6, 7, 8, 9, 10, 11] (by decide) rfl
        rw [hQ]
        exact W.iret (v := v23) hx hb hr (fun t ht hW => ⟨⟨v23, (mth2_17, p8, p9, pa, pb), rfl, hpost, by rw [ht]; exact hP9, va_K.moved hW.alike hK, hD9⟩, hS.F ht⟩) hS.2.2 d_Mo_about_24
set_option maxRecDepth 100000 in
set_option maxHeartbeats 4000000 in
theorem c_Mo_steps (l : Launch) (D : va_G) (cL cI : ClassId) (x0 y0 : Int64) (hy : 1 ≤ y0.toInt) : Met l y_Mo_steps (Cond.code y_Mo_steps prog_6_method_35_code 8 (some .long) :: TW) ({ frames := 1, cells := 0, slots := 0, locals := 40 } : Room) (PR D cL cI [.long x0, .long y0] []) (vp_Sl (fun r => r.toInt = ((uN x0 / uN y0 : Nat) : Int) ∨ (r.toInt = 9223372036854775807 ∧ 9223372036854775807 ≤ uN x0 / uN y0))) 0 0 (fun _ => False) := by
  refine xr_met (by decide) ?_
  intro p e s m args below meth c hx hb hr hts hown hlocks hname hml hv
  obtain ⟨rfl, hP, hK⟩ := hv
  have hown : s.vm.findClass "BranchStoreModel" = some m.cls := hown
  have hl := lv_entry ([.long x0, .long y0]) (n := 8) (Nat.le_of_ble_eq_true rfl)
  rw [lg_entry_eq]
  generalize (lg_sl ([.long x0, .long y0]) ++ List.replicate (8 - (lg_sl ([.long x0, .long y0])).length) Slot.unset).toArray = ls at hl ⊢
  have hl : lv_has ls 8 [(0, .long x0), (2, .long y0)] := hl
  obtain ⟨Q, hQ⟩ : ∃ Q, Q = MQ below (vp_Sl (fun r => r.toInt = ((uN x0 / uN y0 : Nat) : Int) ∨ (r.toInt = 9223372036854775807 ∧ 9223372036854775807 ≤ uN x0 / uN y0))) ([.long x0, .long y0] : List Value).toArray s 0 0 (fun _ => False) := ⟨_, rfl⟩
  rw [← hQ]
  have hst := uN_pos (x := y0) (by omega)
  have hry := il_rng y0
  have hrx := uN_lt x0
  have ft := fit_nat (W := uN x0) (st := uN y0) (by omega)
  refine lv_lload_n hx hb d_Mo_steps_0 rfl (lv_at hl 0 rfl) ?_
  refine lv_lconst (v := 0) hx hb d_Mo_steps_1 (by decide) ?_
  refine lv_topl (fun v1 e1 => ?_)
  refine W.lcmp hx hb d_Mo_steps_2 ?_
  refine lv_topi (fun v2 e2 => ?_)
  refine lv_if_lt hx hb d_Mo_steps_3 (tgt := 10) (by decide) (fun g3 => ?_) (fun g3 => ?_)
  · have g3 := (lc_lt e2).mp g3
    refine lv_lload_n hx hb d_Mo_steps_10 rfl (lv_at hl 1 rfl) ?_
    refine lv_lconst (v := 1) hx hb d_Mo_steps_11 (by decide) ?_
    refine lv_topl (fun v11 e11 => ?_)
    refine W.lcmp hx hb d_Mo_steps_12 ?_
    refine lv_topi (fun v12 e12 => ?_)
    refine lv_if_ne hx hb d_Mo_steps_13 (tgt := 20) (by decide) (fun g13 => ?_) (fun g13 => ?_)
    · have g13 := (lc_ne e12).mp g13
      refine lv_lload_n hx hb d_Mo_steps_20 rfl (lv_at hl 0 rfl) ?_
      refine lv_iconst (v := 1) hx hb d_Mo_steps_21 (by decide) ?_
      refine lv_topi (fun v21 e21 => ?_)
      have t21 : v21.toInt = 1 := by rw [e21]; rfl
      refine lv_lushr hx hb d_Mo_steps_22 rfl ?_
      refine lv_topl (fun v22 e22 => ?_)
      refine lv_lload_n hx hb d_Mo_steps_23 rfl (lv_at hl 1 rfl) ?_
      refine lv_ldiv hx hb d_Mo_steps_24 (fun h5 => by rw [h5] at hy; exact absurd hy (by decide)) ?_
      refine lv_topl (fun v24 e24 => ?_)
      refine lv_ldc2 (v := 2) hx hb hown (hts _ tw_790) d_Mo_steps_25 ?_
      refine lv_topl (fun v25 e25 => ?_)
      refine lv_lmul hx hb d_Mo_steps_28 ?_
      refine lv_topl (fun v28 e28 => ?_)
      refine lv_lstore (lv' := [(4, .long v28), (0, .long x0), (2, .long y0)]) hx hb d_Mo_steps_29 hl (by decide) rfl (fun ls hl => ?_)
      refine lv_lload_n hx hb d_Mo_steps_31 rfl (lv_at hl 1 rfl) ?_
      refine lv_lload hx hb d_Mo_steps_32 (lv_at hl 0 rfl) ?_
      refine lv_lload_n hx hb d_Mo_steps_34 rfl (lv_at hl 2 rfl) ?_
      refine lv_lmul hx hb d_Mo_steps_35 ?_
      refine lv_topl (fun v35 e35 => ?_)
      refine lv_lsub hx hb d_Mo_steps_36 ?_
      refine lv_topl (fun v36 e36 => ?_)
      refine lv_lstore (lv' := [(6, .long v36), (4, .long v28), (0, .long x0), (2, .long y0)]) hx hb d_Mo_steps_37 hl (by decide) rfl (fun ls hl => ?_)
      have u22 : uN v22 = uN x0 / 2 := by rw [e22, uN_sh x0 (k := 1) t21 (by decide)]
      have i22 : v22.toInt = ((uN x0 / 2 : Nat) : Int) := by
            have h5 := uN_int v22
            rw [u22, if_pos (by omega)] at h5
            exact h5
      have i24 : v24.toInt = ((uN x0 / 2 / uN y0 : Nat) : Int) := by
            rw [e24, Jvm.Kit.i64_div (by omega), i22, ← hst, Int.tdiv_eq_ediv_of_nonneg (by omega)]
            rfl
      have hle : uN x0 / 2 / uN y0 ≤ uN x0 / 2 := Nat.div_le_self _ _
      have u24 : uN v24 = uN x0 / 2 / uN y0 := by have h5 := uN_pos (x := v24) (by omega); omega
      have u28 : uN v28 = 2 * (uN x0 / 2 / uN y0) := by rw [e28, uN_mul, u24, e25, show uN 2 = 2 from rfl]; omega
      have u35 : uN v35 = 2 * (uN x0 / 2 / uN y0) * uN y0 := by
            rw [e35, uN_mul, u28]
            exact Nat.mod_eq_of_lt (by omega)
      have u36 : uN v36 = uN x0 - 2 * (uN x0 / 2 / uN y0) * uN y0 := by rw [e36, uN_sub _ _ (by omega), u35]
      have hst2 : 2 ≤ uN y0 := by
            have h6 : ¬ y0.toInt = 1 := fun h7 => g13 (Int64.toInt_inj.mp (h7.trans (by rw [e11]; rfl)))
            omega
      have hq2 : uN x0 / uN y0 ≤ uN x0 / 2 := Nat.div_le_div_left hst2 (by decide)
      refine lv_lload hx hb d_Mo_steps_39 (lv_at hl 0 rfl) ?_
      refine lv_lconst (v := 0) hx hb d_Mo_steps_41 (by decide) ?_
      refine lv_topl (fun v41 e41 => ?_)
      refine W.lcmp hx hb d_Mo_steps_42 ?_
      refine lv_topi (fun v42 e42 => ?_)
      refine lv_if_lt hx hb d_Mo_steps_43 (tgt := 53) (by decide) (fun g43 => ?_) (fun g43 => ?_)
      · have g43 := (lc_lt e42).mp g43
        have hge : uN y0 ≤ uN v36 := by
              first
              | (have h5 := il_lt.mp g43
                 rw [e41] at h5
                 have h6 := uN_neg.mp h5
                 omega)
              | (have hp : 0 ≤ v36.toInt := by
                   rcases Int.lt_or_le v36.toInt 0 with h5 | h5
                   · exact absurd (il_lt.mpr (by rw [e41]; exact h5)) g43
                   · exact h5
                 have hu := uN_pos hp
                 rcases Int.lt_or_le v36.toInt y0.toInt with h5 | h5
                 · exact absurd (il_lt.mpr h5) g50
                 · omega)
        refine lv_lload hx hb d_Mo_steps_53 (lv_at hl 1 rfl) ?_
        refine lv_lconst (v := 1) hx hb d_Mo_steps_55 (by decide) ?_
        refine lv_topl (fun v55 e55 => ?_)
        refine lv_ladd hx hb d_Mo_steps_56 ?_
        refine lv_topl (fun v56 e56 => ?_)
        refine lv_goto hx hb d_Mo_steps_57 (tgt := 62) (by decide) ?_
        have hpost : v56.toInt = ((uN x0 / uN y0 : Nat) : Int) ∨ (v56.toInt = 9223372036854775807 ∧ 9223372036854775807 ≤ uN x0 / uN y0) := by
          refine Or.inl ?_
          first
          | (have u56 : uN v56 = uN x0 / uN y0 := by
               rw [e56, uN_add, u28, e55, show uN 1 = 1 from rfl, ft.2.2, if_pos (by rw [← u36]; exact hge)]
               rw [ft.2.2, if_pos (by rw [← u36]; exact hge)] at hq2
               exact Nat.mod_eq_of_lt (by omega)
             have h5 := uN_int v56
             rw [u56, if_pos (by omega)] at h5
             exact h5)
          | (have u57 : uN v28 = uN x0 / uN y0 := by rw [u28, ft.2.2, if_neg (by rw [← u36]; omega), Nat.add_zero]
             have h5 := uN_int v28
             rw [u57, if_pos (by omega)] at h5
             exact h5)
        rw [hQ]
        exact xr_retl (v := v56) hx hb hr hlocks (hpost) d_Mo_steps_62
      · have g43 := (lc_nlt e42).mp g43
        refine lv_lload hx hb d_Mo_steps_46 (lv_at hl 0 rfl) ?_
        refine lv_lload_n hx hb d_Mo_steps_48 rfl (lv_at hl 3 rfl) ?_
        refine W.lcmp hx hb d_Mo_steps_49 ?_
        refine lv_topi (fun v49 e49 => ?_)
        refine lv_if_lt hx hb d_Mo_steps_50 (tgt := 60) (by decide) (fun g50 => ?_) (fun g50 => ?_)
        · have g50 := (lc_lt e49).mp g50
          have hlt : uN v36 < uN y0 := by
                have hp : 0 ≤ v36.toInt := by
                  rcases Int.lt_or_le v36.toInt 0 with h5 | h5
                  · exact absurd (il_lt.mpr (by rw [e41]; exact h5)) g43
                  · exact h5
                have hu := uN_pos hp
                have h5 := il_lt.mp g50
                omega
          refine lv_lload hx hb d_Mo_steps_60 (lv_at hl 1 rfl) ?_
          have hpost : v28.toInt = ((uN x0 / uN y0 : Nat) : Int) ∨ (v28.toInt = 9223372036854775807 ∧ 9223372036854775807 ≤ uN x0 / uN y0) := by
            refine Or.inl ?_
            first
            | (have u56 : uN v56 = uN x0 / uN y0 := by
                 rw [e56, uN_add, u28, e55, show uN 1 = 1 from rfl, ft.2.2, if_pos (by rw [← u36]; exact hge)]
                 rw [ft.2.2, if_pos (by rw [← u36]; exact hge)] at hq2
                 exact Nat.mod_eq_of_lt (by omega)
               have h5 := uN_int v56
               rw [u56, if_pos (by omega)] at h5
               exact h5)
            | (have u57 : uN v28 = uN x0 / uN y0 := by rw [u28, ft.2.2, if_neg (by rw [← u36]; omega), Nat.add_zero]
               have h5 := uN_int v28
               rw [u57, if_pos (by omega)] at h5
               exact h5)
          rw [hQ]
          exact xr_retl (v := v28) hx hb hr hlocks (hpost) d_Mo_steps_62
        · have g50 := (lc_nlt e49).mp g50
          have hge : uN y0 ≤ uN v36 := by
                first
                | (have h5 := il_lt.mp g43
                   rw [e41] at h5
                   have h6 := uN_neg.mp h5
                   omega)
                | (have hp : 0 ≤ v36.toInt := by
                     rcases Int.lt_or_le v36.toInt 0 with h5 | h5
                     · exact absurd (il_lt.mpr (by rw [e41]; exact h5)) g43
                     · exact h5
                   have hu := uN_pos hp
                   rcases Int.lt_or_le v36.toInt y0.toInt with h5 | h5
                   · exact absurd (il_lt.mpr h5) g50
                   · omega)
          refine lv_lload hx hb d_Mo_steps_53 (lv_at hl 1 rfl) ?_
          refine lv_lconst (v := 1) hx hb d_Mo_steps_55 (by decide) ?_
          refine lv_topl (fun v55 e55 => ?_)
          refine lv_ladd hx hb d_Mo_steps_56 ?_
          refine lv_topl (fun v56 e56 => ?_)
          refine lv_goto hx hb d_Mo_steps_57 (tgt := 62) (by decide) ?_
          have hpost : v56.toInt = ((uN x0 / uN y0 : Nat) : Int) ∨ (v56.toInt = 9223372036854775807 ∧ 9223372036854775807 ≤ uN x0 / uN y0) := by
            refine Or.inl ?_
            first
            | (have u56 : uN v56 = uN x0 / uN y0 := by
                 rw [e56, uN_add, u28, e55, show uN 1 = 1 from rfl, ft.2.2, if_pos (by rw [← u36]; exact hge)]
                 rw [ft.2.2, if_pos (by rw [← u36]; exact hge)] at hq2
                 exact Nat.mod_eq_of_lt (by omega)
               have h5 := uN_int v56
               rw [u56, if_pos (by omega)] at h5
               exact h5)
            | (have u57 : uN v28 = uN x0 / uN y0 := by rw [u28, ft.2.2, if_neg (by rw [← u36]; omega), Nat.add_zero]
               have h5 := uN_int v28
               rw [u57, if_pos (by omega)] at h5
               exact h5)
          rw [hQ]
          exact xr_retl (v := v56) hx hb hr hlocks (hpost) d_Mo_steps_62
    · have g13 := (lc_eq e12).mp g13
      refine lv_ldc2 (v := 9223372036854775807) hx hb hown (hts _ tw_786) d_Mo_steps_16 ?_
      refine lv_topl (fun v16 e16 => ?_)
      have hpost : v16.toInt = ((uN x0 / uN y0 : Nat) : Int) ∨ (v16.toInt = 9223372036854775807 ∧ 9223372036854775807 ≤ uN x0 / uN y0) := by
        have hn : x0.toInt < 0 := by
          have h5 := il_lt.mp g3
          rw [e1] at h5
          exact h5
        have hy1 : uN y0 = 1 := by
          rw [g13, e11]; rfl
        have h6 := uN_neg.mp hn
        rw [hy1, Nat.div_one]
        exact Or.inr ⟨by rw [e16]; rfl, by omega⟩
      rw [hQ]
      exact xr_retl (v := v16) hx hb hr hlocks (hpost) d_Mo_steps_19
  · have g3 := (lc_nlt e2).mp g3
    refine lv_lload_n hx hb d_Mo_steps_6 rfl (lv_at hl 0 rfl) ?_
    refine lv_lload_n hx hb d_Mo_steps_7 rfl (lv_at hl 1 rfl) ?_
    refine lv_ldiv hx hb d_Mo_steps_8 (fun h5 => by rw [h5] at hy; exact absurd hy (by decide)) ?_
    refine lv_topl (fun v8 e8 => ?_)
    have h0 : 0 ≤ x0.toInt := by
          rcases Int.lt_or_le x0.toInt 0 with h5 | h5
          · exact absurd (il_lt.mpr (by rw [e1]; exact h5)) g3
          · exact h5
    have hxu := uN_pos h0
    have i8 : v8.toInt = ((uN x0 / uN y0 : Nat) : Int) := by
          rw [e8, Jvm.Kit.i64_div (by omega), ← hxu, ← hst, Int.tdiv_eq_ediv_of_nonneg (by omega)]
          rfl
    rw [hQ]
    exact xr_retl (v := v8) hx hb hr hlocks (Or.inl i8) d_Mo_steps_9
