set_option maxRecDepth 100000 in
set_option maxHeartbeats 4000000 in
theorem c_Mo_thrown (l : Launch) (D : va_G) (cL cI : ClassId) (mo m1 m2 m3 m4 m5 m6 m7 m8 m9 ma mb : Nat) (mso mct mfr mcu mth : Int32) (p1 p2 p5 : Nat → Int64) (p3 p4 p6 p7 p8 p9 pa pb : Nat → Int32)  : Met l y_Mo_thrown (Cond.code y_Mo_thrown prog_6_method_2_code 1 (some .int) :: TW) ({ frames := 1, cells := 0, slots := 0, locals := 40 } : Room) (PR D cL cI [.ref mo] [(mo, .inr (4, [.int mso, .ref m1, .ref m2, .ref m3, .ref m4, .ref m5, .ref m6, .int mct, .ref m7, .int mfr, .int mcu, .int mth, .ref m8, .ref m9, .ref ma, .ref mb])), (m1, .inl (cL, 1503, .inr (.inl p1))), (m2, .inl (cL, 1503, .inr (.inl p2))), (m3, .inl (cI, 36072, .inl p3)), (m4, .inl (cI, 1503, .inl p4)), (m5, .inl (cL, 1500, .inr (.inl p5))), (m6, .inl (cI, 1500, .inl p6)), (m7, .inl (cI, 1500, .inl p7)), (m8, .inl (cI, 50, .inl p8)), (m9, .inl (cI, 50, .inl p9)), (ma, .inl (cI, 1500, .inl pa)), (mb, .inl (cI, 50, .inl pb))]) (vp_Si (fun r => r = mth)) 0 0 (fun _ => False) := by
  refine xr_met (by decide) ?_
  intro p e s m args below meth c hx hb hr hts hown hlocks hname hml hv
  obtain ⟨rfl, hP, hK⟩ := hv
  have hown : s.vm.findClass "BranchStoreModel" = some m.cls := hown
  have hP : va_P D classes [(mo, .inr (4, [.int mso, .ref m1, .ref m2, .ref m3, .ref m4, .ref m5, .ref m6, .int mct, .ref m7, .int mfr, .int mcu, .int mth, .ref m8, .ref m9, .ref ma, .ref mb])), (m1, .inl (cL, 1503, .inr (.inl p1))), (m2, .inl (cL, 1503, .inr (.inl p2))), (m3, .inl (cI, 36072, .inl p3)), (m4, .inl (cI, 1503, .inl p4)), (m5, .inl (cL, 1500, .inr (.inl p5))), (m6, .inl (cI, 1500, .inl p6)), (m7, .inl (cI, 1500, .inl p7)), (m8, .inl (cI, 50, .inl p8)), (m9, .inl (cI, 50, .inl p9)), (ma, .inl (cI, 1500, .inl pa)), (mb, .inl (cI, 50, .inl pb))] s.heap := hP
  have hl := lv_entry ([.ref mo]) (n := 1) (Nat.le_of_ble_eq_true rfl)
  rw [lg_entry_eq]
  generalize (lg_sl ([.ref mo]) ++ List.replicate (1 - (lg_sl ([.ref mo])).length) Slot.unset).toArray = ls at hl ⊢
  have hl : lv_has ls 1 [(0, .ref mo)] := hl
  obtain ⟨Q, hQ⟩ : ∃ Q, Q = MQ below (vp_Si (fun r => r = mth)) ([.ref mo] : List Value).toArray s 0 0 (fun _ => False) := ⟨_, rfl⟩
  rw [← hQ]
  refine lv_aload_n hx hb d_Mo_thrown_0 rfl (lv_at hl 0 rfl) ?_
  refine va_get (D := D) (ci := 4) (v := .int mth) (C := R_Mo) (T := F_Mo) (N := 16) hx hb hts in_Mo hown hK hP 0 rfl rfl 11 (by decide) (hts _ tw_614) (fun _ h9 => h9) rfl d_Mo_thrown_1 ?_
  rw [hQ]
  exact xr_reti (v := mth) hx hb hr hlocks (rfl) d_Mo_thrown_4
set_option maxRecDepth 100000 in
set_option maxHeartbeats 4000000 in
theorem c_Mo_byOrder (l : Launch) (D : va_G) (cL cI : ClassId) (x0 y0 : Int64)  : Met l y_Mo_byOrder (Cond.code y_Mo_byOrder prog_6_method_4_code 4 (some .int) :: TW) ({ frames := 1, cells := 0, slots := 0, locals := 40 } : Room) (PR D cL cI [.long x0, .long y0] []) (vp_Si (fun r => (r.toInt < 0 ↔ x0.toInt < y0.toInt) ∧ (r.toInt = 0 ↔ x0 = y0))) 0 0 (fun _ => False) := by
  refine xr_met (by decide) ?_
  intro p e s m args below meth c hx hb hr hts hown hlocks hname hml hv
  obtain ⟨rfl, hP, hK⟩ := hv
  have hown : s.vm.findClass "BranchStoreModel" = some m.cls := hown
  have hl := lv_entry ([.long x0, .long y0]) (n := 4) (Nat.le_of_ble_eq_true rfl)
  rw [lg_entry_eq]
  generalize (lg_sl ([.long x0, .long y0]) ++ List.replicate (4 - (lg_sl ([.long x0, .long y0])).length) Slot.unset).toArray = ls at hl ⊢
  have hl : lv_has ls 4 [(0, .long x0), (2, .long y0)] := hl
  obtain ⟨Q, hQ⟩ : ∃ Q, Q = MQ below (vp_Si (fun r => (r.toInt < 0 ↔ x0.toInt < y0.toInt) ∧ (r.toInt = 0 ↔ x0 = y0))) ([.long x0, .long y0] : List Value).toArray s 0 0 (fun _ => False) := ⟨_, rfl⟩
  rw [← hQ]
  refine lv_lload_n hx hb d_Mo_byOrder_0 rfl (lv_at hl 0 rfl) ?_
  refine lv_lload_n hx hb d_Mo_byOrder_1 rfl (lv_at hl 1 rfl) ?_
  refine W.lcmp hx hb d_Mo_byOrder_2 ?_
  refine lv_topi (fun v2 e2 => ?_)
  refine lv_if_ge hx hb d_Mo_byOrder_3 (tgt := 10) (by decide) (fun g3 => ?_) (fun g3 => ?_)
  · have g3 := (lc_ge e2).mp g3
    refine lv_lload_n hx hb d_Mo_byOrder_10 rfl (lv_at hl 0 rfl) ?_
    refine lv_lload_n hx hb d_Mo_byOrder_11 rfl (lv_at hl 1 rfl) ?_
    refine W.lcmp hx hb d_Mo_byOrder_12 ?_
    refine lv_topi (fun v12 e12 => ?_)
    refine lv_if_le hx hb d_Mo_byOrder_13 (tgt := 20) (by decide) (fun g13 => ?_) (fun g13 => ?_)
    · have g13 := (lc_le e12).mp g13
      refine lv_iconst (v := 0) hx hb d_Mo_byOrder_20 (by decide) ?_
      refine lv_topi (fun v20 e20 => ?_)
      have t20 : v20.toInt = 0 := by rw [e20]; rfl
      have hpost : (v20.toInt < 0 ↔ x0.toInt < y0.toInt) ∧ (v20.toInt = 0 ↔ x0 = y0) := by
        first
        | (rw [il_le] at g3
           have h5 : x0.toInt < y0.toInt := by omega
           exact ⟨⟨fun _ => h5, fun _ => by omega⟩, ⟨fun h6 => by omega, fun h6 => by rw [h6] at h5; omega⟩⟩)
        | (have h5 : ¬ x0 ≤ y0 := g13
           rw [il_le] at h5
           exact ⟨⟨fun h6 => by omega, fun h6 => by omega⟩, ⟨fun h6 => by omega, fun h6 => by rw [h6] at h5; omega⟩⟩)
        | (have h5 := il_le.mp g13
           have h6 := il_le.mp g3
           have h7 : x0.toInt = y0.toInt := by omega
           exact ⟨⟨fun h8 => by omega, fun h8 => by omega⟩, ⟨fun _ => Int64.toInt_inj.mp h7, fun _ => by omega⟩⟩)
      rw [hQ]
      exact xr_reti (v := v20) hx hb hr hlocks (hpost) d_Mo_byOrder_21
    · have g13 := (lc_nle e12).mp g13
      refine lv_iconst (v := 1) hx hb d_Mo_byOrder_16 (by decide) ?_
      refine lv_topi (fun v16 e16 => ?_)
      have t16 : v16.toInt = 1 := by rw [e16]; rfl
      refine lv_goto hx hb d_Mo_byOrder_17 (tgt := 21) (by decide) ?_
      have hpost : (v16.toInt < 0 ↔ x0.toInt < y0.toInt) ∧ (v16.toInt = 0 ↔ x0 = y0) := by
        first
        | (rw [il_le] at g3
           have h5 : x0.toInt < y0.toInt := by omega
           exact ⟨⟨fun _ => h5, fun _ => by omega⟩, ⟨fun h6 => by omega, fun h6 => by rw [h6] at h5; omega⟩⟩)
        | (have h5 : ¬ x0 ≤ y0 := g13
           rw [il_le] at h5
           exact ⟨⟨fun h6 => by omega, fun h6 => by omega⟩, ⟨fun h6 => by omega, fun h6 => by rw [h6] at h5; omega⟩⟩)
        | (have h5 := il_le.mp g13
           have h6 := il_le.mp g3
           have h7 : x0.toInt = y0.toInt := by omega
           exact ⟨⟨fun h8 => by omega, fun h8 => by omega⟩, ⟨fun _ => Int64.toInt_inj.mp h7, fun _ => by omega⟩⟩)
      rw [hQ]
      exact xr_reti (v := v16) hx hb hr hlocks (hpost) d_Mo_byOrder_21
  · have g3 := (lc_nge e2).mp g3
    refine lv_iconst (v := (-1)) hx hb d_Mo_byOrder_6 (by decide) ?_
    refine lv_topi (fun v6 e6 => ?_)
    have t6 : v6.toInt = (-1) := by rw [e6]; rfl
    refine lv_goto hx hb d_Mo_byOrder_7 (tgt := 21) (by decide) ?_
    have hpost : (v6.toInt < 0 ↔ x0.toInt < y0.toInt) ∧ (v6.toInt = 0 ↔ x0 = y0) := by
      first
      | (rw [il_le] at g3
         have h5 : x0.toInt < y0.toInt := by omega
         exact ⟨⟨fun _ => h5, fun _ => by omega⟩, ⟨fun h6 => by omega, fun h6 => by rw [h6] at h5; omega⟩⟩)
      | (have h5 : ¬ x0 ≤ y0 := g13
         rw [il_le] at h5
         exact ⟨⟨fun h6 => by omega, fun h6 => by omega⟩, ⟨fun h6 => by omega, fun h6 => by rw [h6] at h5; omega⟩⟩)
      | (have h5 := il_le.mp g13
         have h6 := il_le.mp g3
         have h7 : x0.toInt = y0.toInt := by omega
         exact ⟨⟨fun h8 => by omega, fun h8 => by omega⟩, ⟨fun _ => Int64.toInt_inj.mp h7, fun _ => by omega⟩⟩)
    rw [hQ]
    exact xr_reti (v := v6) hx hb hr hlocks (hpost) d_Mo_byOrder_21
set_option maxRecDepth 100000 in
set_option maxHeartbeats 4000000 in
theorem c_Mo_compare (l : Launch) (D : va_G) (cL cI : ClassId) (mo m1 m2 m3 m4 m5 m6 m7 m8 m9 ma mb : Nat) (mso mct mfr mcu mth : Int32) (p1 p2 p5 : Nat → Int64) (p3 p4 p6 p7 p8 p9 pa pb : Nat → Int32) (w : Nat) (KW : Nat → Nat → Int64) (ia ib : Int32) (hws : (mso.toInt = 0 ∧ w = 1) ∨ (mso.toInt = 1 ∧ w = 2) ∨ (mso.toInt = 2 ∧ w = 7)) (hkr : ∀ x, x < 1503 → KR mso.toInt p1 p2 p3 p4 x (KW x)) (hia : 0 ≤ ia.toInt ∧ ia.toInt < 1503) (hib : 0 ≤ ib.toInt ∧ ib.toInt < 1503) : Met l y_Mo_compare (Cond.code y_Mo_compare prog_6_method_5_code 6 (some .int) :: TW) ({ frames := 2, cells := 0, slots := 0, locals := 63 } : Room) (PR D cL cI [.ref mo, .int ia, .int ib] [(mo, .inr (4, [.int mso, .ref m1, .ref m2, .ref m3, .ref m4, .ref m5, .ref m6, .int mct, .ref m7, .int mfr, .int mcu, .int mth, .ref m8, .ref m9, .ref ma, .ref mb])), (m1, .inl (cL, 1503, .inr (.inl p1))), (m2, .inl (cL, 1503, .inr (.inl p2))), (m3, .inl (cI, 36072, .inl p3)), (m4, .inl (cI, 1503, .inl p4)), (m5, .inl (cL, 1500, .inr (.inl p5))), (m6, .inl (cI, 1500, .inl p6)), (m7, .inl (cI, 1500, .inl p7)), (m8, .inl (cI, 50, .inl p8)), (m9, .inl (cI, 50, .inl p9)), (ma, .inl (cI, 1500, .inl pa)), (mb, .inl (cI, 50, .inl pb))]) (vp_Si (fun r => (r.toInt < 0 ↔ kw_lt w (KW ia.toInt.toNat) (KW ib.toInt.toNat)) ∧ (r.toInt = 0 ↔ kw_eq w (KW ia.toInt.toNat) (KW ib.toInt.toNat)))) 0 0 (fun _ => False) := by
  refine xr_met (by decide) ?_
  intro p e s m args below meth c hx hb hr hts hown hlocks hname hml hv
  obtain ⟨rfl, hP, hK⟩ := hv
  have hown : s.vm.findClass "BranchStoreModel" = some m.cls := hown
  have hP : va_P D classes [(mo, .inr (4, [.int mso, .ref m1, .ref m2, .ref m3, .ref m4, .ref m5, .ref m6, .int mct, .ref m7, .int mfr, .int mcu, .int mth, .ref m8, .ref m9, .ref ma, .ref mb])), (m1, .inl (cL, 1503, .inr (.inl p1))), (m2, .inl (cL, 1503, .inr (.inl p2))), (m3, .inl (cI, 36072, .inl p3)), (m4, .inl (cI, 1503, .inl p4)), (m5, .inl (cL, 1500, .inr (.inl p5))), (m6, .inl (cI, 1500, .inl p6)), (m7, .inl (cI, 1500, .inl p7)), (m8, .inl (cI, 50, .inl p8)), (m9, .inl (cI, 50, .inl p9)), (ma, .inl (cI, 1500, .inl pa)), (mb, .inl (cI, 50, .inl pb))] s.heap := hP
  have hl := lv_entry ([.ref mo, .int ia, .int ib]) (n := 6) (Nat.le_of_ble_eq_true rfl)
  rw [lg_entry_eq]
  generalize (lg_sl ([.ref mo, .int ia, .int ib]) ++ List.replicate (6 - (lg_sl ([.ref mo, .int ia, .int ib])).length) Slot.unset).toArray = ls at hl ⊢
  have hl : lv_has ls 6 [(0, .ref mo), (1, .int ia), (2, .int ib)] := hl
  obtain ⟨Q, hQ⟩ : ∃ Q, Q = MQ below (vp_Si (fun r => (r.toInt < 0 ↔ kw_lt w (KW ia.toInt.toNat) (KW ib.toInt.toNat)) ∧ (r.toInt = 0 ↔ kw_eq w (KW ia.toInt.toNat) (KW ib.toInt.toNat)))) ([.ref mo, .int ia, .int ib] : List Value).toArray s 0 0 (fun _ => False) := ⟨_, rfl⟩
  rw [← hQ]
  have hrg_ia := ia_rng ia
  have hrg_ib := ia_rng ib
  have ka := hkr ia.toInt.toNat (by omega)
  have kb := hkr ib.toInt.toNat (by omega)
  refine lv_aload_n hx hb d_Mo_compare_0 rfl (lv_at hl 0 rfl) ?_
  refine va_get (D := D) (ci := 4) (v := .int mso) (C := R_Mo) (T := F_Mo) (N := 16) hx hb hts in_Mo hown hK hP 0 rfl rfl 0 (by decide) (hts _ tw_603) (fun _ h9 => h9) rfl d_Mo_compare_1 ?_
  refine lv_iconst (v := 2) hx hb d_Mo_compare_4 (by decide) ?_
  refine lv_topi (fun v4 e4 => ?_)
  have t4 : v4.toInt = 2 := by rw [e4]; rfl
  refine lv_icmp_ge hx hb d_Mo_compare_5 (tgt := 55) (by decide) (fun g5 => ?_) (fun g5 => ?_)
  · have g5 := ic_le.mp g5
    refine lv_iconst (v := 0) hx hb d_Mo_compare_55 (by decide) ?_
    refine lv_topi (fun v55 e55 => ?_)
    have t55 : v55.toInt = 0 := by rw [e55]; rfl
    refine lv_istore_n (lv' := [(3, .int v55), (0, .ref mo), (1, .int ia), (2, .int ib)]) hx hb d_Mo_compare_56 rfl hl (by decide) rfl (fun ls hl => ?_)
    have hs2 : mso.toInt = 2 ∧ w = 7 := by omega
    obtain ⟨a1, a2, a3, a4⟩ : (∀ d, d < 56 → by_w (KW ia.toInt.toNat) d = rw_b (mk_let p3 p4 ia.toInt.toNat) d) ∧ 0 ≤ (p4 ia.toInt.toNat).toInt ∧ (p4 ia.toInt.toNat).toInt ≤ 24 ∧ ∀ k, k < (p4 ia.toInt.toNat).toInt.toNat → 0 ≤ (p3 (24 * ia.toInt.toNat + k)).toInt ∧ (p3 (24 * ia.toInt.toNat + k)).toInt ≤ 255 := by rcases ka with h | h | h <;> first | (exfalso; omega) | exact h.2
    obtain ⟨b1, b2, b3, b4⟩ : (∀ d, d < 56 → by_w (KW ib.toInt.toNat) d = rw_b (mk_let p3 p4 ib.toInt.toNat) d) ∧ 0 ≤ (p4 ib.toInt.toNat).toInt ∧ (p4 ib.toInt.toNat).toInt ≤ 24 ∧ ∀ k, k < (p4 ib.toInt.toNat).toInt.toNat → 0 ≤ (p3 (24 * ib.toInt.toNat + k)).toInt ∧ (p3 (24 * ib.toInt.toNat + k)).toInt ≤ 255 := by rcases kb with h | h | h <;> first | (exfalso; omega) | exact h.2
    have hrw := kr_rows (L := mk_let p3 p4 ia.toInt.toNat) (M := mk_let p3 p4 ib.toInt.toNat) (by unfold mk_let; rw [ml_len]; omega) (by unfold mk_let; rw [ml_len]; omega) a1 b1
    have hrw2 := kr_rows (L := mk_let p3 p4 ib.toInt.toNat) (M := mk_let p3 p4 ia.toInt.toNat) (by unfold mk_let; rw [ml_len]; omega) (by unfold mk_let; rw [ml_len]; omega) b1 a1
    have lp57 : ∀ (fuel57 : Nat) (kk : Int32) (ls : Array Slot), lv_has ls 6 [(3, .int kk), (0, .ref mo), (1, .int ia), (2, .int ib)] → (0 ≤ kk.toInt) → (kk.toInt ≤ (p4 ia.toInt.toNat).toInt ∧ kk.toInt ≤ (p4 ib.toInt.toNat).toInt) → (∀ j, j < kk.toInt.toNat → (p3 (24 * ia.toInt.toNat + j)).toInt.toNat = (p3 (24 * ib.toInt.toNat + j)).toInt.toNat) → (p4 ia.toInt.toNat).toInt.toNat - kk.toInt.toNat < fuel57 → W p l e ({ frames := 2, cells := 0, slots := 0, locals := 63 } : Room) s m ([.ref mo, .int ia, .int ib] : List Value).toArray below meth c s.heap [] 0 0 Q (F0 m 57 ls []) := by
      intro fuel57
      induction fuel57 with
      | zero => intro kk ls hl h1 h2 h3 hm57; exact absurd hm57 (Nat.not_lt_zero _)
      | succ fuel57 ih57 =>
        intro kk ls hl h1 h2 h3 hm57
        refine lv_iload_n hx hb d_Mo_compare_57 rfl (lv_at hl 0 rfl) ?_
        refine lv_aload_n hx hb d_Mo_compare_58 rfl (lv_at hl 1 rfl) ?_
        refine va_get (D := D) (ci := 4) (v := .ref m4) (C := R_Mo) (T := F_Mo) (N := 16) hx hb hts in_Mo hown hK hP 0 rfl rfl 4 (by decide) (hts _ tw_607) (fun _ h9 => h9) rfl d_Mo_compare_59 ?_
        refine lv_iload_n hx hb d_Mo_compare_62 rfl (lv_at hl 2 rfl) ?_
        refine va_iald hx hb hK hP 4 1 rfl rfl (ia_in ⟨by omega, by omega⟩) d_Mo_compare_63 ?_
        refine lv_topi (fun v63 e63 => ?_)
        have e63 : v63 = p4 ia.toInt.toNat := e63
        refine lv_icmp_ge hx hb d_Mo_compare_64 (tgt := 129) (by decide) (fun g64 => ?_) (fun g64 => ?_)
        · have g64 := ic_le.mp g64
          have hend : (p4 ia.toInt.toNat).toInt ≤ kk.toInt ∨ (p4 ib.toInt.toNat).toInt ≤ kk.toInt := by
                first
                | (rw [e63] at g64; exact Or.inl g64)
                | (rw [e73] at g74; exact Or.inr g74)
          refine lv_aload_n hx hb d_Mo_compare_129 rfl (lv_at hl 1 rfl) ?_
          refine va_get (D := D) (ci := 4) (v := .ref m4) (C := R_Mo) (T := F_Mo) (N := 16) hx hb hts in_Mo hown hK hP 0 rfl rfl 4 (by decide) (hts _ tw_607) (fun _ h9 => h9) rfl d_Mo_compare_130 ?_
          refine lv_iload_n hx hb d_Mo_compare_133 rfl (lv_at hl 2 rfl) ?_
          refine va_iald hx hb hK hP 4 1 rfl rfl (ia_in ⟨by omega, by omega⟩) d_Mo_compare_134 ?_
          refine lv_topi (fun v134 e134 => ?_)
          have e134 : v134 = p4 ia.toInt.toNat := e134
          refine lv_aload_n hx hb d_Mo_compare_135 rfl (lv_at hl 1 rfl) ?_
          refine va_get (D := D) (ci := 4) (v := .ref m4) (C := R_Mo) (T := F_Mo) (N := 16) hx hb hts in_Mo hown hK hP 0 rfl rfl 4 (by decide) (hts _ tw_607) (fun _ h9 => h9) rfl d_Mo_compare_136 ?_
          refine lv_iload_n hx hb d_Mo_compare_139 rfl (lv_at hl 3 rfl) ?_
          refine va_iald hx hb hK hP 4 1 rfl rfl (ia_in ⟨by omega, by omega⟩) d_Mo_compare_140 ?_
          refine lv_topi (fun v140 e140 => ?_)
          have e140 : v140 = p4 ib.toInt.toNat := e140
          refine lv_icmp_ge hx hb d_Mo_compare_141 (tgt := 148) (by decide) (fun g141 => ?_) (fun g141 => ?_)
          · have g141 := ic_le.mp g141
            refine lv_aload_n hx hb d_Mo_compare_148 rfl (lv_at hl 1 rfl) ?_
            refine va_get (D := D) (ci := 4) (v := .ref m4) (C := R_Mo) (T := F_Mo) (N := 16) hx hb hts in_Mo hown hK hP 0 rfl rfl 4 (by decide) (hts _ tw_607) (fun _ h9 => h9) rfl d_Mo_compare_149 ?_
            refine lv_iload_n hx hb d_Mo_compare_152 rfl (lv_at hl 2 rfl) ?_
            refine va_iald hx hb hK hP 4 1 rfl rfl (ia_in ⟨by omega, by omega⟩) d_Mo_compare_153 ?_
            refine lv_topi (fun v153 e153 => ?_)
            have e153 : v153 = p4 ia.toInt.toNat := e153
            refine lv_aload_n hx hb d_Mo_compare_154 rfl (lv_at hl 1 rfl) ?_
            refine va_get (D := D) (ci := 4) (v := .ref m4) (C := R_Mo) (T := F_Mo) (N := 16) hx hb hts in_Mo hown hK hP 0 rfl rfl 4 (by decide) (hts _ tw_607) (fun _ h9 => h9) rfl d_Mo_compare_155 ?_
            refine lv_iload_n hx hb d_Mo_compare_158 rfl (lv_at hl 3 rfl) ?_
            refine va_iald hx hb hK hP 4 1 rfl rfl (ia_in ⟨by omega, by omega⟩) d_Mo_compare_159 ?_
            refine lv_topi (fun v159 e159 => ?_)
            have e159 : v159 = p4 ib.toInt.toNat := e159
            refine lv_icmp_le hx hb d_Mo_compare_160 (tgt := 167) (by decide) (fun g160 => ?_) (fun g160 => ?_)
            · have g160 := ic_le.mp g160
              refine lv_iconst (v := 0) hx hb d_Mo_compare_167 (by decide) ?_
              refine lv_topi (fun v167 e167 => ?_)
              have t167 : v167.toInt = 0 := by rw [e167]; rfl
              have hpost : (v167.toInt < 0 ↔ kw_lt w (KW ia.toInt.toNat) (KW ib.toInt.toNat)) ∧ (v167.toInt = 0 ↔ kw_eq w (KW ia.toInt.toNat) (KW ib.toInt.toNat)) := by
                rw [hs2.2]
                rw [e134, e140] at g141
                first
                | (have hlt : rw_lt (mk_let p3 p4 ia.toInt.toNat) (mk_let p3 p4 ib.toInt.toNat) := ml_lt2 _ _ _ _ (fun j hj => h3 j (by omega)) (by omega)
                   have hk := hrw.1.mpr hlt
                   exact ⟨⟨fun _ => hk, fun _ => by omega⟩, ⟨fun h5 => by omega, fun h5 => absurd hk (kw_irr h5)⟩⟩)
                | (rw [e153, e159] at g160
                   have hlt : rw_lt (mk_let p3 p4 ib.toInt.toNat) (mk_let p3 p4 ia.toInt.toNat) := ml_lt2 _ _ _ _ (fun j hj => (h3 j (by omega)).symm) (by omega)
                   have hk := hrw2.1.mpr hlt
                   exact ⟨⟨fun h5 => by omega, fun h5 => (kw_asym hk h5).elim⟩, ⟨fun h5 => by omega, fun h5 => absurd hk (kw_irr (kw_eq_symm h5))⟩⟩)
                | (rw [e153, e159] at g160
                   have heq : mk_let p3 p4 ia.toInt.toNat = mk_let p3 p4 ib.toInt.toNat := by
                     unfold mk_let
                     rw [show (p4 ia.toInt.toNat).toInt.toNat = (p4 ib.toInt.toNat).toInt.toNat by omega]
                     exact ml_congr _ _ _ (fun j hj => h3 j (by omega))
                   have hk := hrw.2.mpr heq
                   exact ⟨⟨fun h5 => by omega, fun h5 => absurd h5 (kw_irr hk)⟩, ⟨fun _ => hk, fun _ => by omega⟩⟩)
              rw [hQ]
              exact xr_reti (v := v167) hx hb hr hlocks (hpost) d_Mo_compare_168
            · have g160 := ic_nle.mp g160
              refine lv_iconst (v := 1) hx hb d_Mo_compare_163 (by decide) ?_
              refine lv_topi (fun v163 e163 => ?_)
              have t163 : v163.toInt = 1 := by rw [e163]; rfl
              refine lv_goto hx hb d_Mo_compare_164 (tgt := 168) (by decide) ?_
              have hpost : (v163.toInt < 0 ↔ kw_lt w (KW ia.toInt.toNat) (KW ib.toInt.toNat)) ∧ (v163.toInt = 0 ↔ kw_eq w (KW ia.toInt.toNat) (KW ib.toInt.toNat)) := by
                rw [hs2.2]
                rw [e134, e140] at g141
                first
                | (have hlt : rw_lt (mk_let p3 p4 ia.toInt.toNat) (mk_let p3 p4 ib.toInt.toNat) := ml_lt2 _ _ _ _ (fun j hj => h3 j (by omega)) (by omega)
                   have hk := hrw.1.mpr hlt
                   exact ⟨⟨fun _ => hk, fun _ => by omega⟩, ⟨fun h5 => by omega, fun h5 => absurd hk (kw_irr h5)⟩⟩)
                | (rw [e153, e159] at g160
                   have hlt : rw_lt (mk_let p3 p4 ib.toInt.toNat) (mk_let p3 p4 ia.toInt.toNat) := ml_lt2 _ _ _ _ (fun j hj => (h3 j (by omega)).symm) (by omega)
                   have hk := hrw2.1.mpr hlt
                   exact ⟨⟨fun h5 => by omega, fun h5 => (kw_asym hk h5).elim⟩, ⟨fun h5 => by omega, fun h5 => absurd hk (kw_irr (kw_eq_symm h5))⟩⟩)
                | (rw [e153, e159] at g160
                   have heq : mk_let p3 p4 ia.toInt.toNat = mk_let p3 p4 ib.toInt.toNat := by
                     unfold mk_let
                     rw [show (p4 ia.toInt.toNat).toInt.toNat = (p4 ib.toInt.toNat).toInt.toNat by omega]
                     exact ml_congr _ _ _ (fun j hj => h3 j (by omega))
                   have hk := hrw.2.mpr heq
                   exact ⟨⟨fun h5 => by omega, fun h5 => absurd h5 (kw_irr hk)⟩, ⟨fun _ => hk, fun _ => by omega⟩⟩)
              rw [hQ]
              exact xr_reti (v := v163) hx hb hr hlocks (hpost) d_Mo_compare_168
          · have g141 := ic_nle.mp g141
            refine lv_iconst (v := (-1)) hx hb d_Mo_compare_144 (by decide) ?_
            refine lv_topi (fun v144 e144 => ?_)
            have t144 : v144.toInt = (-1) := by rw [e144]; rfl
            refine lv_goto hx hb d_Mo_compare_145 (tgt := 168) (by decide) ?_
            have hpost : (v144.toInt < 0 ↔ kw_lt w (KW ia.toInt.toNat) (KW ib.toInt.toNat)) ∧ (v144.toInt = 0 ↔ kw_eq w (KW ia.toInt.toNat) (KW ib.toInt.toNat)) := by
              rw [hs2.2]
              rw [e134, e140] at g141
              first
              | (have hlt : rw_lt (mk_let p3 p4 ia.toInt.toNat) (mk_let p3 p4 ib.toInt.toNat) := ml_lt2 _ _ _ _ (fun j hj => h3 j (by omega)) (by omega)
                 have hk := hrw.1.mpr hlt
                 exact ⟨⟨fun _ => hk, fun _ => by omega⟩, ⟨fun h5 => by omega, fun h5 => absurd hk (kw_irr h5)⟩⟩)
              | (rw [e153, e159] at g160
                 have hlt : rw_lt (mk_let p3 p4 ib.toInt.toNat) (mk_let p3 p4 ia.toInt.toNat) := ml_lt2 _ _ _ _ (fun j hj => (h3 j (by omega)).symm) (by omega)
                 have hk := hrw2.1.mpr hlt
                 exact ⟨⟨fun h5 => by omega, fun h5 => (kw_asym hk h5).elim⟩, ⟨fun h5 => by omega, fun h5 => absurd hk (kw_irr (kw_eq_symm h5))⟩⟩)
              | (rw [e153, e159] at g160
                 have heq : mk_let p3 p4 ia.toInt.toNat = mk_let p3 p4 ib.toInt.toNat := by
                   unfold mk_let
                   rw [show (p4 ia.toInt.toNat).toInt.toNat = (p4 ib.toInt.toNat).toInt.toNat by omega]
                   exact ml_congr _ _ _ (fun j hj => h3 j (by omega))
                 have hk := hrw.2.mpr heq
                 exact ⟨⟨fun h5 => by omega, fun h5 => absurd h5 (kw_irr hk)⟩, ⟨fun _ => hk, fun _ => by omega⟩⟩)
            rw [hQ]
            exact xr_reti (v := v144) hx hb hr hlocks (hpost) d_Mo_compare_168
        · have g64 := ic_nle.mp g64
          rw [e63] at g64
          refine lv_iload_n hx hb d_Mo_compare_67 rfl (lv_at hl 0 rfl) ?_
          refine lv_aload_n hx hb d_Mo_compare_68 rfl (lv_at hl 1 rfl) ?_
          refine va_get (D := D) (ci := 4) (v := .ref m4) (C := R_Mo) (T := F_Mo) (N := 16) hx hb hts in_Mo hown hK hP 0 rfl rfl 4 (by decide) (hts _ tw_607) (fun _ h9 => h9) rfl d_Mo_compare_69 ?_
          refine lv_iload_n hx hb d_Mo_compare_72 rfl (lv_at hl 3 rfl) ?_
          refine va_iald hx hb hK hP 4 1 rfl rfl (ia_in ⟨by omega, by omega⟩) d_Mo_compare_73 ?_
          refine lv_topi (fun v73 e73 => ?_)
          have e73 : v73 = p4 ib.toInt.toNat := e73
          refine lv_icmp_ge hx hb d_Mo_compare_74 (tgt := 129) (by decide) (fun g74 => ?_) (fun g74 => ?_)
          · have g74 := ic_le.mp g74
            have hend : (p4 ia.toInt.toNat).toInt ≤ kk.toInt ∨ (p4 ib.toInt.toNat).toInt ≤ kk.toInt := by
                  first
                  | (rw [e63] at g64; exact Or.inl g64)
                  | (rw [e73] at g74; exact Or.inr g74)
            refine lv_aload_n hx hb d_Mo_compare_129 rfl (lv_at hl 1 rfl) ?_
            refine va_get (D := D) (ci := 4) (v := .ref m4) (C := R_Mo) (T := F_Mo) (N := 16) hx hb hts in_Mo hown hK hP 0 rfl rfl 4 (by decide) (hts _ tw_607) (fun _ h9 => h9) rfl d_Mo_compare_130 ?_
            refine lv_iload_n hx hb d_Mo_compare_133 rfl (lv_at hl 2 rfl) ?_
            refine va_iald hx hb hK hP 4 1 rfl rfl (ia_in ⟨by omega, by omega⟩) d_Mo_compare_134 ?_
            refine lv_topi (fun v134 e134 => ?_)
            have e134 : v134 = p4 ia.toInt.toNat := e134
            refine lv_aload_n hx hb d_Mo_compare_135 rfl (lv_at hl 1 rfl) ?_
            refine va_get (D := D) (ci := 4) (v := .ref m4) (C := R_Mo) (T := F_Mo) (N := 16) hx hb hts in_Mo hown hK hP 0 rfl rfl 4 (by decide) (hts _ tw_607) (fun _ h9 => h9) rfl d_Mo_compare_136 ?_
            refine lv_iload_n hx hb d_Mo_compare_139 rfl (lv_at hl 3 rfl) ?_
            refine va_iald hx hb hK hP 4 1 rfl rfl (ia_in ⟨by omega, by omega⟩) d_Mo_compare_140 ?_
            refine lv_topi (fun v140 e140 => ?_)
            have e140 : v140 = p4 ib.toInt.toNat := e140
            refine lv_icmp_ge hx hb d_Mo_compare_141 (tgt := 148) (by decide) (fun g141 => ?_) (fun g141 => ?_)
            · have g141 := ic_le.mp g141
              refine lv_aload_n hx hb d_Mo_compare_148 rfl (lv_at hl 1 rfl) ?_
              refine va_get (D := D) (ci := 4) (v := .ref m4) (C := R_Mo) (T := F_Mo) (N := 16) hx hb hts in_Mo hown hK hP 0 rfl rfl 4 (by decide) (hts _ tw_607) (fun _ h9 => h9) rfl d_Mo_compare_149 ?_
              refine lv_iload_n hx hb d_Mo_compare_152 rfl (lv_at hl 2 rfl) ?_
              refine va_iald hx hb hK hP 4 1 rfl rfl (ia_in ⟨by omega, by omega⟩) d_Mo_compare_153 ?_
              refine lv_topi (fun v153 e153 => ?_)
              have e153 : v153 = p4 ia.toInt.toNat := e153
              refine lv_aload_n hx hb d_Mo_compare_154 rfl (lv_at hl 1 rfl) ?_
              refine va_get (D := D) (ci := 4) (v := .ref m4) (C := R_Mo) (T := F_Mo) (N := 16) hx hb hts in_Mo hown hK hP 0 rfl rfl 4 (by decide) (hts _ tw_607) (fun _ h9 => h9) rfl d_Mo_compare_155 ?_
              refine lv_iload_n hx hb d_Mo_compare_158 rfl (lv_at hl 3 rfl) ?_
              refine va_iald hx hb hK hP 4 1 rfl rfl (ia_in ⟨by omega, by omega⟩) d_Mo_compare_159 ?_
              refine lv_topi (fun v159 e159 => ?_)
              have e159 : v159 = p4 ib.toInt.toNat := e159
              refine lv_icmp_le hx hb d_Mo_compare_160 (tgt := 167) (by decide) (fun g160 => ?_) (fun g160 => ?_)
              · have g160 := ic_le.mp g160
                refine lv_iconst (v := 0) hx hb d_Mo_compare_167 (by decide) ?_
                refine lv_topi (fun v167 e167 => ?_)
                have t167 : v167.toInt = 0 := by rw [e167]; rfl
                have hpost : (v167.toInt < 0 ↔ kw_lt w (KW ia.toInt.toNat) (KW ib.toInt.toNat)) ∧ (v167.toInt = 0 ↔ kw_eq w (KW ia.toInt.toNat) (KW ib.toInt.toNat)) := by
                  rw [hs2.2]
                  rw [e134, e140] at g141
                  first
                  | (have hlt : rw_lt (mk_let p3 p4 ia.toInt.toNat) (mk_let p3 p4 ib.toInt.toNat) := ml_lt2 _ _ _ _ (fun j hj => h3 j (by omega)) (by omega)
                     have hk := hrw.1.mpr hlt
                     exact ⟨⟨fun _ => hk, fun _ => by omega⟩, ⟨fun h5 => by omega, fun h5 => absurd hk (kw_irr h5)⟩⟩)
                  | (rw [e153, e159] at g160
                     have hlt : rw_lt (mk_let p3 p4 ib.toInt.toNat) (mk_let p3 p4 ia.toInt.toNat) := ml_lt2 _ _ _ _ (fun j hj => (h3 j (by omega)).symm) (by omega)
                     have hk := hrw2.1.mpr hlt
                     exact ⟨⟨fun h5 => by omega, fun h5 => (kw_asym hk h5).elim⟩, ⟨fun h5 => by omega, fun h5 => absurd hk (kw_irr (kw_eq_symm h5))⟩⟩)
                  | (rw [e153, e159] at g160
                     have heq : mk_let p3 p4 ia.toInt.toNat = mk_let p3 p4 ib.toInt.toNat := by
                       unfold mk_let
                       rw [show (p4 ia.toInt.toNat).toInt.toNat = (p4 ib.toInt.toNat).toInt.toNat by omega]
                       exact ml_congr _ _ _ (fun j hj => h3 j (by omega))
                     have hk := hrw.2.mpr heq
                     exact ⟨⟨fun h5 => by omega, fun h5 => absurd h5 (kw_irr hk)⟩, ⟨fun _ => hk, fun _ => by omega⟩⟩)
                rw [hQ]
                exact xr_reti (v := v167) hx hb hr hlocks (hpost) d_Mo_compare_168
              · have g160 := ic_nle.mp g160
                refine lv_iconst (v := 1) hx hb d_Mo_compare_163 (by decide) ?_
                refine lv_topi (fun v163 e163 => ?_)
                have t163 : v163.toInt = 1 := by rw [e163]; rfl
                refine lv_goto hx hb d_Mo_compare_164 (tgt := 168) (by decide) ?_
                have hpost : (v163.toInt < 0 ↔ kw_lt w (KW ia.toInt.toNat) (KW ib.toInt.toNat)) ∧ (v163.toInt = 0 ↔ kw_eq w (KW ia.toInt.toNat) (KW ib.toInt.toNat)) := by
                  rw [hs2.2]
                  rw [e134, e140] at g141
                  first
                  | (have hlt : rw_lt (mk_let p3 p4 ia.toInt.toNat) (mk_let p3 p4 ib.toInt.toNat) := ml_lt2 _ _ _ _ (fun j hj => h3 j (by omega)) (by omega)
                     have hk := hrw.1.mpr hlt
                     exact ⟨⟨fun _ => hk, fun _ => by omega⟩, ⟨fun h5 => by omega, fun h5 => absurd hk (kw_irr h5)⟩⟩)
                  | (rw [e153, e159] at g160
                     have hlt : rw_lt (mk_let p3 p4 ib.toInt.toNat) (mk_let p3 p4 ia.toInt.toNat) := ml_lt2 _ _ _ _ (fun j hj => (h3 j (by omega)).symm) (by omega)
                     have hk := hrw2.1.mpr hlt
                     exact ⟨⟨fun h5 => by omega, fun h5 => (kw_asym hk h5).elim⟩, ⟨fun h5 => by omega, fun h5 => absurd hk (kw_irr (kw_eq_symm h5))⟩⟩)
                  | (rw [e153, e159] at g160
                     have heq : mk_let p3 p4 ia.toInt.toNat = mk_let p3 p4 ib.toInt.toNat := by
                       unfold mk_let
                       rw [show (p4 ia.toInt.toNat).toInt.toNat = (p4 ib.toInt.toNat).toInt.toNat by omega]
                       exact ml_congr _ _ _ (fun j hj => h3 j (by omega))
                     have hk := hrw.2.mpr heq
                     exact ⟨⟨fun h5 => by omega, fun h5 => absurd h5 (kw_irr hk)⟩, ⟨fun _ => hk, fun _ => by omega⟩⟩)
                rw [hQ]
                exact xr_reti (v := v163) hx hb hr hlocks (hpost) d_Mo_compare_168
            · have g141 := ic_nle.mp g141
              refine lv_iconst (v := (-1)) hx hb d_Mo_compare_144 (by decide) ?_
              refine lv_topi (fun v144 e144 => ?_)
              have t144 : v144.toInt = (-1) := by rw [e144]; rfl
              refine lv_goto hx hb d_Mo_compare_145 (tgt := 168) (by decide) ?_
              have hpost : (v144.toInt < 0 ↔ kw_lt w (KW ia.toInt.toNat) (KW ib.toInt.toNat)) ∧ (v144.toInt = 0 ↔ kw_eq w (KW ia.toInt.toNat) (KW ib.toInt.toNat)) := by
                rw [hs2.2]
                rw [e134, e140] at g141
                first
                | (have hlt : rw_lt (mk_let p3 p4 ia.toInt.toNat) (mk_let p3 p4 ib.toInt.toNat) := ml_lt2 _ _ _ _ (fun j hj => h3 j (by omega)) (by omega)
                   have hk := hrw.1.mpr hlt
                   exact ⟨⟨fun _ => hk, fun _ => by omega⟩, ⟨fun h5 => by omega, fun h5 => absurd hk (kw_irr h5)⟩⟩)
                | (rw [e153, e159] at g160
                   have hlt : rw_lt (mk_let p3 p4 ib.toInt.toNat) (mk_let p3 p4 ia.toInt.toNat) := ml_lt2 _ _ _ _ (fun j hj => (h3 j (by omega)).symm) (by omega)
                   have hk := hrw2.1.mpr hlt
                   exact ⟨⟨fun h5 => by omega, fun h5 => (kw_asym hk h5).elim⟩, ⟨fun h5 => by omega, fun h5 => absurd hk (kw_irr (kw_eq_symm h5))⟩⟩)
                | (rw [e153, e159] at g160
                   have heq : mk_let p3 p4 ia.toInt.toNat = mk_let p3 p4 ib.toInt.toNat := by
                     unfold mk_let
                     rw [show (p4 ia.toInt.toNat).toInt.toNat = (p4 ib.toInt.toNat).toInt.toNat by omega]
                     exact ml_congr _ _ _ (fun j hj => h3 j (by omega))
                   have hk := hrw.2.mpr heq
                   exact ⟨⟨fun h5 => by omega, fun h5 => absurd h5 (kw_irr hk)⟩, ⟨fun _ => hk, fun _ => by omega⟩⟩)
              rw [hQ]
              exact xr_reti (v := v144) hx hb hr hlocks (hpost) d_Mo_compare_168
          · have g74 := ic_nle.mp g74
            rw [e73] at g74
            refine lv_aload_n hx hb d_Mo_compare_77 rfl (lv_at hl 1 rfl) ?_
            refine va_get (D := D) (ci := 4) (v := .ref m3) (C := R_Mo) (T := F_Mo) (N := 16) hx hb hts in_Mo hown hK hP 0 rfl rfl 3 (by decide) (hts _ tw_606) (fun _ h9 => h9) rfl d_Mo_compare_78 ?_
            refine lv_bipush (v := 24) hx hb d_Mo_compare_81 (by decide) ?_
            refine lv_topi (fun v81 e81 => ?_)
            have t81 : v81.toInt = 24 := by rw [e81]; rfl
            refine lv_iload_n hx hb d_Mo_compare_83 rfl (lv_at hl 2 rfl) ?_
            refine lv_imul hx hb d_Mo_compare_84 ?_
            refine lv_topi (fun v84 e84 => ?_)
            have t84 := ia_mull 24 e84 (by omega) ⟨by omega, by omega⟩
            refine lv_iload_n hx hb d_Mo_compare_85 rfl (lv_at hl 0 rfl) ?_
            refine lv_iadd hx hb d_Mo_compare_86 ?_
            refine lv_topi (fun v86 e86 => ?_)
            have t86 := ia_add e86 ⟨by omega, by omega⟩
            refine va_iald hx hb hK hP 3 1 rfl rfl (ia_in ⟨by omega, by omega⟩) d_Mo_compare_87 ?_
            refine lv_topi (fun v87 e87 => ?_)
            have e87 : v87 = p3 v86.toInt.toNat := e87
            have hi87 : v87 = p3 (24 * ia.toInt.toNat + kk.toInt.toNat) := by rw [e87]; congr 1; omega
            refine lv_istore (lv' := [(4, .int v87), (3, .int kk), (0, .ref mo), (1, .int ia), (2, .int ib)]) hx hb d_Mo_compare_88 hl (by decide) rfl (fun ls hl => ?_)
            refine lv_aload_n hx hb d_Mo_compare_90 rfl (lv_at hl 2 rfl) ?_
            refine va_get (D := D) (ci := 4) (v := .ref m3) (C := R_Mo) (T := F_Mo) (N := 16) hx hb hts in_Mo hown hK hP 0 rfl rfl 3 (by decide) (hts _ tw_606) (fun _ h9 => h9) rfl d_Mo_compare_91 ?_
            refine lv_bipush (v := 24) hx hb d_Mo_compare_94 (by decide) ?_
            refine lv_topi (fun v94 e94 => ?_)
            have t94 : v94.toInt = 24 := by rw [e94]; rfl
            refine lv_iload_n hx hb d_Mo_compare_96 rfl (lv_at hl 4 rfl) ?_
            refine lv_imul hx hb d_Mo_compare_97 ?_
            refine lv_topi (fun v97 e97 => ?_)
            have t97 := ia_mull 24 e97 (by omega) ⟨by omega, by omega⟩
            refine lv_iload_n hx hb d_Mo_compare_98 rfl (lv_at hl 1 rfl) ?_
            refine lv_iadd hx hb d_Mo_compare_99 ?_
            refine lv_topi (fun v99 e99 => ?_)
            have t99 := ia_add e99 ⟨by omega, by omega⟩
            refine va_iald hx hb hK hP 3 1 rfl rfl (ia_in ⟨by omega, by omega⟩) d_Mo_compare_100 ?_
            refine lv_topi (fun v100 e100 => ?_)
            have e100 : v100 = p3 v99.toInt.toNat := e100
            have hi100 : v100 = p3 (24 * ib.toInt.toNat + kk.toInt.toNat) := by rw [e100]; congr 1; omega
            refine lv_istore (lv' := [(5, .int v100), (4, .int v87), (3, .int kk), (0, .ref mo), (1, .int ia), (2, .int ib)]) hx hb d_Mo_compare_101 hl (by decide) rfl (fun ls hl => ?_)
            refine lv_iload hx hb d_Mo_compare_103 (lv_at hl 1 rfl) ?_
            refine lv_iload hx hb d_Mo_compare_105 (lv_at hl 0 rfl) ?_
            refine lv_icmp_eq hx hb d_Mo_compare_107 (tgt := 123) (by decide) (fun g107 => ?_) (fun g107 => ?_)
            · have g107 := ic_eq.mp g107
              obtain ⟨v123, e123⟩ : ∃ z, z = kk + Int32.ofInt 1 := ⟨_, rfl⟩
              have t123 := ia_inc 1 e123 (by decide) ⟨by omega, by omega⟩
              refine lv_iinc (k := 2) (lv' := [(3, .int v123), (5, .int v100), (4, .int v87), (0, .ref mo), (1, .int ia), (2, .int ib)]) hx hb d_Mo_compare_123 hl rfl e123.symm (by decide) rfl (fun ls hl => ?_)
              refine lv_goto hx hb d_Mo_compare_126 (tgt := 57) (by decide) ?_
              exact ih57 v123 ls (lv_sub hl [0, 3, 4, 5] rfl) (by omega) (by omega) (fun j hj => by
                    by_cases h5 : j = kk.toInt.toNat
                    · rw [h5, ← hi87, ← hi100, g107]
                    · exact h3 j (by omega)) (by omega)
            · have g107 := ic_ne.mp g107
              refine lv_iload hx hb d_Mo_compare_110 (lv_at hl 1 rfl) ?_
              refine lv_iload hx hb d_Mo_compare_112 (lv_at hl 0 rfl) ?_
              refine lv_icmp_ge hx hb d_Mo_compare_114 (tgt := 121) (by decide) (fun g114 => ?_) (fun g114 => ?_)
              · have g114 := ic_le.mp g114
                refine lv_iconst (v := 1) hx hb d_Mo_compare_121 (by decide) ?_
                refine lv_topi (fun v121 e121 => ?_)
                have t121 : v121.toInt = 1 := by rw [e121]; rfl
                have hpost : (v121.toInt < 0 ↔ kw_lt w (KW ia.toInt.toNat) (KW ib.toInt.toNat)) ∧ (v121.toInt = 0 ↔ kw_eq w (KW ia.toInt.toNat) (KW ib.toInt.toNat)) := by
                  have q1 := a4 kk.toInt.toNat (by omega)
                  have q2 := b4 kk.toInt.toNat (by omega)
                  rw [← hi87] at q1
                  rw [← hi100] at q2
                  rw [hs2.2]
                  first
                  | (have hlt : rw_lt (mk_let p3 p4 ia.toInt.toNat) (mk_let p3 p4 ib.toInt.toNat) := ml_lt1 kk.toInt.toNat _ _ _ _ h3 (by omega) (by omega) (by show (p3 _).toInt.toNat < (p3 _).toInt.toNat; rw [← hi87, ← hi100]; omega)
                     have hk := hrw.1.mpr hlt
                     exact ⟨⟨fun _ => hk, fun _ => by omega⟩, ⟨fun h5 => by omega, fun h5 => absurd hk (kw_irr h5)⟩⟩)
                  | (have hlt : rw_lt (mk_let p3 p4 ib.toInt.toNat) (mk_let p3 p4 ia.toInt.toNat) := ml_lt1 kk.toInt.toNat _ _ _ _ (fun j hj => (h3 j hj).symm) (by omega) (by omega) (by show (p3 _).toInt.toNat < (p3 _).toInt.toNat; rw [← hi87, ← hi100]; omega)
                     have hk := hrw2.1.mpr hlt
                     exact ⟨⟨fun h5 => by omega, fun h5 => (kw_asym hk h5).elim⟩, ⟨fun h5 => by omega, fun h5 => absurd hk (kw_irr (kw_eq_symm h5))⟩⟩)
                rw [hQ]
                exact xr_reti (v := v121) hx hb hr hlocks (hpost) d_Mo_compare_122
              · have g114 := ic_nle.mp g114
                refine lv_iconst (v := (-1)) hx hb d_Mo_compare_117 (by decide) ?_
                refine lv_topi (fun v117 e117 => ?_)
                have t117 : v117.toInt = (-1) := by rw [e117]; rfl
                refine lv_goto hx hb d_Mo_compare_118 (tgt := 122) (by decide) ?_
                have hpost : (v117.toInt < 0 ↔ kw_lt w (KW ia.toInt.toNat) (KW ib.toInt.toNat)) ∧ (v117.toInt = 0 ↔ kw_eq w (KW ia.toInt.toNat) (KW ib.toInt.toNat)) := by
                  have q1 := a4 kk.toInt.toNat (by omega)
                  have q2 := b4 kk.toInt.toNat (by omega)
                  rw [← hi87] at q1
                  rw [← hi100] at q2
                  rw [hs2.2]
                  first
                  | (have hlt : rw_lt (mk_let p3 p4 ia.toInt.toNat) (mk_let p3 p4 ib.toInt.toNat) := ml_lt1 kk.toInt.toNat _ _ _ _ h3 (by omega) (by omega) (by show (p3 _).toInt.toNat < (p3 _).toInt.toNat; rw [← hi87, ← hi100]; omega)
                     have hk := hrw.1.mpr hlt
                     exact ⟨⟨fun _ => hk, fun _ => by omega⟩, ⟨fun h5 => by omega, fun h5 => absurd hk (kw_irr h5)⟩⟩)
                  | (have hlt : rw_lt (mk_let p3 p4 ib.toInt.toNat) (mk_let p3 p4 ia.toInt.toNat) := ml_lt1 kk.toInt.toNat _ _ _ _ (fun j hj => (h3 j hj).symm) (by omega) (by omega) (by show (p3 _).toInt.toNat < (p3 _).toInt.toNat; rw [← hi87, ← hi100]; omega)
                     have hk := hrw2.1.mpr hlt
                     exact ⟨⟨fun h5 => by omega, fun h5 => (kw_asym hk h5).elim⟩, ⟨fun h5 => by omega, fun h5 => absurd hk (kw_irr (kw_eq_symm h5))⟩⟩)
                rw [hQ]
                exact xr_reti (v := v117) hx hb hr hlocks (hpost) d_Mo_compare_122
    exact lp57 _ v55  ls hl (by omega) (by omega) (fun j hj => by omega) (Nat.lt_succ_self _)
  · have g5 := ic_nle.mp g5
    refine lv_aload_n hx hb d_Mo_compare_8 rfl (lv_at hl 0 rfl) ?_
    refine va_get (D := D) (ci := 4) (v := .ref m1) (C := R_Mo) (T := F_Mo) (N := 16) hx hb hts in_Mo hown hK hP 0 rfl rfl 1 (by decide) (hts _ tw_604) (fun _ h9 => h9) rfl d_Mo_compare_9 ?_
    refine lv_iload_n hx hb d_Mo_compare_12 rfl (lv_at hl 1 rfl) ?_
    refine va_lald hx hb hK hP 1 0 rfl rfl (ia_in ⟨by omega, by omega⟩) d_Mo_compare_13 ?_
    refine lv_topl (fun v13 e13 => ?_)
    have e13 : v13 = p1 ia.toInt.toNat := e13
    refine lv_aload_n hx hb d_Mo_compare_14 rfl (lv_at hl 0 rfl) ?_
    refine va_get (D := D) (ci := 4) (v := .ref m1) (C := R_Mo) (T := F_Mo) (N := 16) hx hb hts in_Mo hown hK hP 0 rfl rfl 1 (by decide) (hts _ tw_604) (fun _ h9 => h9) rfl d_Mo_compare_15 ?_
    refine lv_iload_n hx hb d_Mo_compare_18 rfl (lv_at hl 2 rfl) ?_
    refine va_lald hx hb hK hP 1 0 rfl rfl (ia_in ⟨by omega, by omega⟩) d_Mo_compare_19 ?_
    refine lv_topl (fun v19 e19 => ?_)
    have e19 : v19 = p1 ib.toInt.toNat := e19
    refine vp_callSi (xr_rs (As := [.long v13, .long v19]) (rest := []) ⟨hx, hb, hml, hown, hts⟩ (c_Mo_byOrder l D cL cI v13 v19 ) (xr_cs 2 hts tw_707 tw_705 tw_706 tw_7 rfl rfl (by decide) ⟨Nat.le_of_ble_eq_true rfl, Nat.le_of_ble_eq_true rfl⟩) hK (hP.sub (ws' := []) [] rfl) rfl hl.1 rfl (Nat.le_of_ble_eq_true rfl) d_Mo_compare_20 ⟨Nat.le_refl _, Nat.le_refl _⟩) (fun v20 e20 => ?_)
    have e20 : (v20.toInt < 0 ↔ v13.toInt < v19.toInt) ∧ (v20.toInt = 0 ↔ v13 = v19) := e20
    refine lv_istore_n (lv' := [(3, .int v20), (0, .ref mo), (1, .int ia), (2, .int ib)]) hx hb d_Mo_compare_23 rfl hl (by decide) rfl (fun ls hl => ?_)
    refine lv_iload_n hx hb d_Mo_compare_24 rfl (lv_at hl 0 rfl) ?_
    refine lv_if_ne hx hb d_Mo_compare_25 (tgt := 35) (by decide) (fun g25 => ?_) (fun g25 => ?_)
    · have g25 := (iz_ne).mp g25
      refine lv_iload_n hx hb d_Mo_compare_35 rfl (lv_at hl 0 rfl) ?_
      refine lv_goto hx hb d_Mo_compare_36 (tgt := 54) (by decide) ?_
      have hpost : (v20.toInt < 0 ↔ kw_lt w (KW ia.toInt.toNat) (KW ib.toInt.toNat)) ∧ (v20.toInt = 0 ↔ kw_eq w (KW ia.toInt.toNat) (KW ib.toInt.toNat)) := by
        rcases hws with h | h | h
        · first
          | (exfalso; omega)
          | (rcases ka with k1 | k1 | k1 <;> first | (exfalso; omega) | skip
             rcases kb with k2 | k2 | k2 <;> first | (exfalso; omega) | skip
             have hz := kr_num k1.2 k2.2
             rw [h.2, hz.1, hz.2]
             rw [e13, e19] at e20
             exact e20)
        · first
          | (exfalso; omega)
          | (rcases ka with k1 | k1 | k1 <;> first | (exfalso; omega) | skip
             rcases kb with k2 | k2 | k2 <;> first | (exfalso; omega) | skip
             have hz := kr_pair k1.2.1 k2.2.1 k1.2.2 k2.2.2
             rw [h.2, hz.1, hz.2]
             rw [e13, e19] at e20
             first
             | (rw [e44, e50] at e51
                have h6 := e20.2.mp g25
                refine ⟨⟨fun h5 => Or.inr ⟨h6, e51.1.mp h5⟩, fun h5 => ?_⟩, ⟨fun h5 => ⟨h6, e51.2.mp h5⟩, fun h5 => e51.2.mpr h5.2⟩⟩
                rcases h5 with h5 | h5
                · rw [h6] at h5; omega
                · exact e51.1.mpr h5.2)
             | (refine ⟨⟨fun h5 => Or.inl (e20.1.mp h5), fun h5 => ?_⟩, ⟨fun h5 => absurd h5 g25, fun h5 => e20.2.mpr h5.1⟩⟩
                rcases h5 with h5 | h5
                · exact e20.1.mpr h5
                · exact absurd (e20.2.mpr h5.1) g25))
        · exfalso; omega
      rw [hQ]
      exact xr_reti (v := v20) hx hb hr hlocks (hpost) d_Mo_compare_54
    · have g25 := (iz_eq).mp g25
      refine lv_aload_n hx hb d_Mo_compare_28 rfl (lv_at hl 1 rfl) ?_
      refine va_get (D := D) (ci := 4) (v := .int mso) (C := R_Mo) (T := F_Mo) (N := 16) hx hb hts in_Mo hown hK hP 0 rfl rfl 0 (by decide) (hts _ tw_603) (fun _ h9 => h9) rfl d_Mo_compare_29 ?_
      refine lv_if_ne hx hb d_Mo_compare_32 (tgt := 39) (by decide) (fun g32 => ?_) (fun g32 => ?_)
      · have g32 := (iz_ne).mp g32
        refine lv_aload_n hx hb d_Mo_compare_39 rfl (lv_at hl 1 rfl) ?_
        refine va_get (D := D) (ci := 4) (v := .ref m2) (C := R_Mo) (T := F_Mo) (N := 16) hx hb hts in_Mo hown hK hP 0 rfl rfl 2 (by decide) (hts _ tw_605) (fun _ h9 => h9) rfl d_Mo_compare_40 ?_
        refine lv_iload_n hx hb d_Mo_compare_43 rfl (lv_at hl 2 rfl) ?_
        refine va_lald hx hb hK hP 2 0 rfl rfl (ia_in ⟨by omega, by omega⟩) d_Mo_compare_44 ?_
        refine lv_topl (fun v44 e44 => ?_)
        have e44 : v44 = p2 ia.toInt.toNat := e44
        refine lv_aload_n hx hb d_Mo_compare_45 rfl (lv_at hl 1 rfl) ?_
        refine va_get (D := D) (ci := 4) (v := .ref m2) (C := R_Mo) (T := F_Mo) (N := 16) hx hb hts in_Mo hown hK hP 0 rfl rfl 2 (by decide) (hts _ tw_605) (fun _ h9 => h9) rfl d_Mo_compare_46 ?_
        refine lv_iload_n hx hb d_Mo_compare_49 rfl (lv_at hl 3 rfl) ?_
        refine va_lald hx hb hK hP 2 0 rfl rfl (ia_in ⟨by omega, by omega⟩) d_Mo_compare_50 ?_
        refine lv_topl (fun v50 e50 => ?_)
        have e50 : v50 = p2 ib.toInt.toNat := e50
        refine vp_callSi (xr_rs (As := [.long v44, .long v50]) (rest := []) ⟨hx, hb, hml, hown, hts⟩ (c_Mo_byOrder l D cL cI v44 v50 ) (xr_cs 2 hts tw_707 tw_705 tw_706 tw_7 rfl rfl (by decide) ⟨Nat.le_of_ble_eq_true rfl, Nat.le_of_ble_eq_true rfl⟩) hK (hP.sub (ws' := []) [] rfl) rfl hl.1 rfl (Nat.le_of_ble_eq_true rfl) d_Mo_compare_51 ⟨Nat.le_refl _, Nat.le_refl _⟩) (fun v51 e51 => ?_)
        have e51 : (v51.toInt < 0 ↔ v44.toInt < v50.toInt) ∧ (v51.toInt = 0 ↔ v44 = v50) := e51
        have hpost : (v51.toInt < 0 ↔ kw_lt w (KW ia.toInt.toNat) (KW ib.toInt.toNat)) ∧ (v51.toInt = 0 ↔ kw_eq w (KW ia.toInt.toNat) (KW ib.toInt.toNat)) := by
          rcases hws with h | h | h
          · first
            | (exfalso; omega)
            | (rcases ka with k1 | k1 | k1 <;> first | (exfalso; omega) | skip
               rcases kb with k2 | k2 | k2 <;> first | (exfalso; omega) | skip
               have hz := kr_num k1.2 k2.2
               rw [h.2, hz.1, hz.2]
               rw [e13, e19] at e20
               exact e20)
          · first
            | (exfalso; omega)
            | (rcases ka with k1 | k1 | k1 <;> first | (exfalso; omega) | skip
               rcases kb with k2 | k2 | k2 <;> first | (exfalso; omega) | skip
               have hz := kr_pair k1.2.1 k2.2.1 k1.2.2 k2.2.2
               rw [h.2, hz.1, hz.2]
               rw [e13, e19] at e20
               first
               | (rw [e44, e50] at e51
                  have h6 := e20.2.mp g25
                  refine ⟨⟨fun h5 => Or.inr ⟨h6, e51.1.mp h5⟩, fun h5 => ?_⟩, ⟨fun h5 => ⟨h6, e51.2.mp h5⟩, fun h5 => e51.2.mpr h5.2⟩⟩
                  rcases h5 with h5 | h5
                  · rw [h6] at h5; omega
                  · exact e51.1.mpr h5.2)
               | (refine ⟨⟨fun h5 => Or.inl (e20.1.mp h5), fun h5 => ?_⟩, ⟨fun h5 => absurd h5 g25, fun h5 => e20.2.mpr h5.1⟩⟩
                  rcases h5 with h5 | h5
                  · exact e20.1.mpr h5
                  · exact absurd (e20.2.mpr h5.1) g25))
          · exfalso; omega
        rw [hQ]
        exact xr_reti (v := v51) hx hb hr hlocks (hpost) d_Mo_compare_54
      · have g32 := (iz_eq).mp g32
        refine lv_iload_n hx hb d_Mo_compare_35 rfl (lv_at hl 0 rfl) ?_
        refine lv_goto hx hb d_Mo_compare_36 (tgt := 54) (by decide) ?_
        have hpost : (v20.toInt < 0 ↔ kw_lt w (KW ia.toInt.toNat) (KW ib.toInt.toNat)) ∧ (v20.toInt = 0 ↔ kw_eq w (KW ia.toInt.toNat) (KW ib.toInt.toNat)) := by
          rcases hws with h | h | h
          · first
            | (exfalso; omega)
            | (rcases ka with k1 | k1 | k1 <;> first | (exfalso; omega) | skip
               rcases kb with k2 | k2 | k2 <;> first | (exfalso; omega) | skip
               have hz := kr_num k1.2 k2.2
               rw [h.2, hz.1, hz.2]
               rw [e13, e19] at e20
               exact e20)
          · first
            | (exfalso; omega)
            | (rcases ka with k1 | k1 | k1 <;> first | (exfalso; omega) | skip
               rcases kb with k2 | k2 | k2 <;> first | (exfalso; omega) | skip
               have hz := kr_pair k1.2.1 k2.2.1 k1.2.2 k2.2.2
               rw [h.2, hz.1, hz.2]
               rw [e13, e19] at e20
               first
               | (rw [e44, e50] at e51
                  have h6 := e20.2.mp g25
                  refine ⟨⟨fun h5 => Or.inr ⟨h6, e51.1.mp h5⟩, fun h5 => ?_⟩, ⟨fun h5 => ⟨h6, e51.2.mp h5⟩, fun h5 => e51.2.mpr h5.2⟩⟩
                  rcases h5 with h5 | h5
                  · rw [h6] at h5; omega
                  · exact e51.1.mpr h5.2)
               | (refine ⟨⟨fun h5 => Or.inl (e20.1.mp h5), fun h5 => ?_⟩, ⟨fun h5 => absurd h5 g25, fun h5 => e20.2.mpr h5.1⟩⟩
                  rcases h5 with h5 | h5
                  · exact e20.1.mpr h5
                  · exact absurd (e20.2.mpr h5.1) g25))
          · exfalso; omega
        rw [hQ]
        exact xr_reti (v := v20) hx hb hr hlocks (hpost) d_Mo_compare_54
set_option maxRecDepth 100000 in
set_option maxHeartbeats 4000000 in
theorem c_Mo_below (l : Launch) (D : va_G) (cL cI : ClassId) (mo m1 m2 m3 m4 m5 m6 m7 m8 m9 ma mb : Nat) (mso mct mfr mcu mth : Int32) (p1 p2 p5 : Nat → Int64) (p3 p4 p6 p7 p8 p9 pa pb : Nat → Int32) (w : Nat) (KW : Nat → Nat → Int64) (n : Nat) (ib : Int32) (hws : (mso.toInt = 0 ∧ w = 1) ∨ (mso.toInt = 1 ∧ w = 2) ∨ (mso.toInt = 2 ∧ w = 7)) (hkr : ∀ x, x < 1503 → KR mso.toInt p1 p2 p3 p4 x (KW x)) (hct : mct.toInt = (n : Int)) (hn : n ≤ 1500) (hor : ∀ k, k < n → 0 ≤ (p6 k).toInt ∧ (p6 k).toInt < 1500) (hib : 0 ≤ ib.toInt ∧ ib.toInt < 1503) (hs : ob_srt w n (fun k => KW (p6 k).toInt.toNat)) : Met l y_Mo_below (Cond.code y_Mo_below prog_6_method_8_code 5 (some .int) :: TW) ({ frames := 3, cells := 0, slots := 0, locals := 88 } : Room) (PR D cL cI [.ref mo, .int ib] [(mo, .inr (4, [.int mso, .ref m1, .ref m2, .ref m3, .ref m4, .ref m5, .ref m6, .int mct, .ref m7, .int mfr, .int mcu, .int mth, .ref m8, .ref m9, .ref ma, .ref mb])), (m1, .inl (cL, 1503, .inr (.inl p1))), (m2, .inl (cL, 1503, .inr (.inl p2))), (m3, .inl (cI, 36072, .inl p3)), (m4, .inl (cI, 1503, .inl p4)), (m5, .inl (cL, 1500, .inr (.inl p5))), (m6, .inl (cI, 1500, .inl p6)), (m7, .inl (cI, 1500, .inl p7)), (m8, .inl (cI, 50, .inl p8)), (m9, .inl (cI, 50, .inl p9)), (ma, .inl (cI, 1500, .inl pa)), (mb, .inl (cI, 50, .inl pb))]) (vp_Si (fun r => ∃ q : Nat, r.toInt = (q : Int) ∧ ob_isb w n (fun k => KW (p6 k).toInt.toNat) (KW ib.toInt.toNat) q)) 0 0 (fun _ => False) := by
  refine xr_met (by decide) ?_
  intro p e s m args below meth c hx hb hr hts hown hlocks hname hml hv
  obtain ⟨rfl, hP, hK⟩ := hv
  have hown : s.vm.findClass "BranchStoreModel" = some m.cls := hown
  have hP : va_P D classes [(mo, .inr (4, [.int mso, .ref m1, .ref m2, .ref m3, .ref m4, .ref m5, .ref m6, .int mct, .ref m7, .int mfr, .int mcu, .int mth, .ref m8, .ref m9, .ref ma, .ref mb])), (m1, .inl (cL, 1503, .inr (.inl p1))), (m2, .inl (cL, 1503, .inr (.inl p2))), (m3, .inl (cI, 36072, .inl p3)), (m4, .inl (cI, 1503, .inl p4)), (m5, .inl (cL, 1500, .inr (.inl p5))), (m6, .inl (cI, 1500, .inl p6)), (m7, .inl (cI, 1500, .inl p7)), (m8, .inl (cI, 50, .inl p8)), (m9, .inl (cI, 50, .inl p9)), (ma, .inl (cI, 1500, .inl pa)), (mb, .inl (cI, 50, .inl pb))] s.heap := hP
  have hl := lv_entry ([.ref mo, .int ib]) (n := 5) (Nat.le_of_ble_eq_true rfl)
  rw [lg_entry_eq]
  generalize (lg_sl ([.ref mo, .int ib]) ++ List.replicate (5 - (lg_sl ([.ref mo, .int ib])).length) Slot.unset).toArray = ls at hl ⊢
  have hl : lv_has ls 5 [(0, .ref mo), (1, .int ib)] := hl
  obtain ⟨Q, hQ⟩ : ∃ Q, Q = MQ below (vp_Si (fun r => ∃ q : Nat, r.toInt = (q : Int) ∧ ob_isb w n (fun k => KW (p6 k).toInt.toNat) (KW ib.toInt.toNat) q)) ([.ref mo, .int ib] : List Value).toArray s 0 0 (fun _ => False) := ⟨_, rfl⟩
  rw [← hQ]
  have hrg_ib := ia_rng ib
  refine lv_iconst (v := 0) hx hb d_Mo_below_0 (by decide) ?_
  refine lv_topi (fun v0 e0 => ?_)
  have t0 : v0.toInt = 0 := by rw [e0]; rfl
  refine lv_istore_n (lv' := [(2, .int v0), (0, .ref mo), (1, .int ib)]) hx hb d_Mo_below_1 rfl hl (by decide) rfl (fun ls hl => ?_)
  refine lv_aload_n hx hb d_Mo_below_2 rfl (lv_at hl 1 rfl) ?_
  refine va_get (D := D) (ci := 4) (v := .int mct) (C := R_Mo) (T := F_Mo) (N := 16) hx hb hts in_Mo hown hK hP 0 rfl rfl 7 (by decide) (hts _ tw_610) (fun _ h9 => h9) rfl d_Mo_below_3 ?_
  refine lv_istore_n (lv' := [(3, .int mct), (2, .int v0), (0, .ref mo), (1, .int ib)]) hx hb d_Mo_below_6 rfl hl (by decide) rfl (fun ls hl => ?_)
  have lp7 : ∀ (fuel7 : Nat) (hi : Int32) (lo : Int32) (ls : Array Slot), lv_has ls 5 [(3, .int hi), (2, .int lo), (0, .ref mo), (1, .int ib)] → (0 ≤ lo.toInt) → (lo.toInt ≤ hi.toInt) → (hi.toInt ≤ (n : Int)) → (∀ k, k < lo.toInt.toNat → kw_lt w ((fun k => KW (p6 k).toInt.toNat) k) (KW ib.toInt.toNat)) → (∀ k, hi.toInt.toNat ≤ k → k < n → ¬ kw_lt w ((fun k => KW (p6 k).toInt.toNat) k) (KW ib.toInt.toNat)) → hi.toInt.toNat - lo.toInt.toNat < fuel7 → W p l e ({ frames := 3, cells := 0, slots := 0, locals := 88 } : Room) s m ([.ref mo, .int ib] : List Value).toArray below meth c s.heap [] 0 0 Q (F0 m 7 ls []) := by
    intro fuel7
    induction fuel7 with
    | zero => intro hi lo ls hl h1 h2 h3 h4 h5 hm7; exact absurd hm7 (Nat.not_lt_zero _)
    | succ fuel7 ih7 =>
      intro hi lo ls hl h1 h2 h3 h4 h5 hm7
      refine lv_iload_n hx hb d_Mo_below_7 rfl (lv_at hl 1 rfl) ?_
      refine lv_iload_n hx hb d_Mo_below_8 rfl (lv_at hl 0 rfl) ?_
      refine lv_icmp_ge hx hb d_Mo_below_9 (tgt := 48) (by decide) (fun g9 => ?_) (fun g9 => ?_)
      · have g9 := ic_le.mp g9
        refine lv_iload_n hx hb d_Mo_below_48 rfl (lv_at hl 1 rfl) ?_
        rw [hQ]
        exact xr_reti (v := lo) hx hb hr hlocks (⟨lo.toInt.toNat, by omega, by omega, h4, fun k hk1 hk2 => h5 k (by omega) hk2⟩) d_Mo_below_49
      · have g9 := ic_nle.mp g9
        refine lv_iload_n hx hb d_Mo_below_12 rfl (lv_at hl 1 rfl) ?_
        refine lv_iload_n hx hb d_Mo_below_13 rfl (lv_at hl 0 rfl) ?_
        refine lv_iadd hx hb d_Mo_below_14 ?_
        refine lv_topi (fun v14 e14 => ?_)
        have t14 := ia_add e14 ⟨by omega, by omega⟩
        refine lv_iconst (v := 2) hx hb d_Mo_below_15 (by decide) ?_
        refine lv_topi (fun v15 e15 => ?_)
        have t15 : v15.toInt = 2 := by rw [e15]; rfl
        refine lv_idiv hx hb d_Mo_below_16 (ia_ne0 (by omega)) ?_
        refine lv_topi (fun v16 e16 => ?_)
        have t16 := ia_div 2 e16 (by omega) (by omega) (by omega)
        refine lv_istore (lv' := [(4, .int v16), (3, .int hi), (2, .int lo), (0, .ref mo), (1, .int ib)]) hx hb d_Mo_below_17 hl (by decide) rfl (fun ls hl => ?_)
        refine lv_aload_n hx hb d_Mo_below_19 rfl (lv_at hl 3 rfl) ?_
        refine lv_aload_n hx hb d_Mo_below_20 rfl (lv_at hl 3 rfl) ?_
        refine va_get (D := D) (ci := 4) (v := .ref m6) (C := R_Mo) (T := F_Mo) (N := 16) hx hb hts in_Mo hown hK hP 0 rfl rfl 6 (by decide) (hts _ tw_609) (fun _ h9 => h9) rfl d_Mo_below_21 ?_
        refine lv_iload hx hb d_Mo_below_24 (lv_at hl 0 rfl) ?_
        refine va_iald hx hb hK hP 6 1 rfl rfl (ia_in ⟨by omega, by omega⟩) d_Mo_below_26 ?_
        refine lv_topi (fun v26 e26 => ?_)
        have e26 : v26 = p6 v16.toInt.toNat := e26
        have hord := hor v16.toInt.toNat (by omega)
        rw [← e26] at hord
        refine lv_iload_n hx hb d_Mo_below_27 rfl (lv_at hl 4 rfl) ?_
        refine vp_callSi (xr_rv (As := [.int v26, .int ib]) (rest := []) ⟨hx, hb, hml, hown, hts⟩ (c_Mo_compare l D cL cI mo m1 m2 m3 m4 m5 m6 m7 m8 m9 ma mb mso mct mfr mcu mth p1 p2 p5 p3 p4 p6 p7 p8 p9 pa pb w KW v26 ib (by first | omega | exact hws) (by first | omega | exact hkr) (by first | omega | exact hia) (by first | omega | exact hib)) (xr_cv 2 hts tw_704 tw_701 tw_703 tp_14 tw_7 rfl rfl (by decide) ⟨Nat.le_of_ble_eq_true rfl, Nat.le_of_ble_eq_true rfl⟩) hK hP (va_recv hK hP rfl (q0 := 0) (ci := 4) rfl) rfl hl.1 rfl (Nat.le_of_ble_eq_true rfl) d_Mo_below_28 ⟨Nat.le_refl _, Nat.le_refl _⟩) (fun v28 e28 => ?_)
        have e28 : (v28.toInt < 0 ↔ kw_lt w (KW v26.toInt.toNat) (KW ib.toInt.toNat)) ∧ (v28.toInt = 0 ↔ kw_eq w (KW v26.toInt.toNat) (KW ib.toInt.toNat)) := e28
        have hrk : KW v26.toInt.toNat = (fun k => KW (p6 k).toInt.toNat) v16.toInt.toNat := by rw [e26]
        rw [hrk] at e28
        refine lv_if_ge hx hb d_Mo_below_31 (tgt := 42) (by decide) (fun g31 => ?_) (fun g31 => ?_)
        · have g31 := (iz_ge).mp g31
          refine lv_iload hx hb d_Mo_below_42 (lv_at hl 0 rfl) ?_
          refine lv_istore_n (lv' := [(3, .int v16), (4, .int v16), (2, .int lo), (0, .ref mo), (1, .int ib)]) hx hb d_Mo_below_44 rfl hl (by decide) rfl (fun ls hl => ?_)
          refine lv_goto hx hb d_Mo_below_45 (tgt := 7) (by decide) ?_
          exact ih7 v16 lo ls (lv_sub hl [0, 2, 3, 4] rfl) (by omega) (by omega) (by omega) (by first
                | exact h4
                | exact fun k hk => ob_up (Rw := fun k => KW (p6 k).toInt.toNat) (md := v16.toInt.toNat) (k := k) hs (by omega) (e28.1.mp g31) (show k ≤ v16.toInt.toNat by omega)) (by first
                | exact h5
                | exact fun k hk1 hk2 => ob_dn (Rw := fun k => KW (p6 k).toInt.toNat) (md := v16.toInt.toNat) (k := k) hs hk2 (fun h9 => by have h10 := e28.1.mpr h9; omega) hk1) (by omega)
        · have g31 := (iz_nge).mp g31
          refine lv_iload hx hb d_Mo_below_34 (lv_at hl 0 rfl) ?_
          refine lv_iconst (v := 1) hx hb d_Mo_below_36 (by decide) ?_
          refine lv_topi (fun v36 e36 => ?_)
          have t36 : v36.toInt = 1 := by rw [e36]; rfl
          refine lv_iadd hx hb d_Mo_below_37 ?_
          refine lv_topi (fun v37 e37 => ?_)
          have t37 := ia_add e37 ⟨by omega, by omega⟩
          refine lv_istore_n (lv' := [(2, .int v37), (4, .int v16), (3, .int hi), (0, .ref mo), (1, .int ib)]) hx hb d_Mo_below_38 rfl hl (by decide) rfl (fun ls hl => ?_)
          refine lv_goto hx hb d_Mo_below_39 (tgt := 45) (by decide) ?_
          refine lv_goto hx hb d_Mo_below_45 (tgt := 7) (by decide) ?_
          exact ih7 hi v37 ls (lv_sub hl [2, 0, 3, 4] rfl) (by omega) (by omega) (by omega) (by first
                | exact h4
                | exact fun k hk => ob_up (Rw := fun k => KW (p6 k).toInt.toNat) (md := v16.toInt.toNat) (k := k) hs (by omega) (e28.1.mp g31) (show k ≤ v16.toInt.toNat by omega)) (by first
                | exact h5
                | exact fun k hk1 hk2 => ob_dn (Rw := fun k => KW (p6 k).toInt.toNat) (md := v16.toInt.toNat) (k := k) hs hk2 (fun h9 => by have h10 := e28.1.mpr h9; omega) hk1) (by omega)
  exact lp7 _ mct v0  ls hl (by omega) (by omega) (by omega) (fun k hk => by omega) (fun k hk1 hk2 => by omega) (Nat.lt_succ_self _)
set_option maxRecDepth 100000 in
set_option maxHeartbeats 4000000 in
theorem c_Mo_isAt (l : Launch) (D : va_G) (cL cI : ClassId) (mo m1 m2 m3 m4 m5 m6 m7 m8 m9 ma mb : Nat) (mso mct mfr mcu mth : Int32) (p1 p2 p5 : Nat → Int64) (p3 p4 p6 p7 p8 p9 pa pb : Nat → Int32) (w : Nat) (KW : Nat → Nat → Int64) (n : Nat) (ia ib : Int32) (hws : (mso.toInt = 0 ∧ w = 1) ∨ (mso.toInt = 1 ∧ w = 2) ∨ (mso.toInt = 2 ∧ w = 7)) (hkr : ∀ x, x < 1503 → KR mso.toInt p1 p2 p3 p4 x (KW x)) (hct : mct.toInt = (n : Int)) (hn : n ≤ 1500) (hor : ∀ k, k < n → 0 ≤ (p6 k).toInt ∧ (p6 k).toInt < 1500) (hia : 0 ≤ ia.toInt) (hib : 0 ≤ ib.toInt ∧ ib.toInt < 1503) : Met l y_Mo_isAt (Cond.code y_Mo_isAt prog_6_method_9_code 3 (some .boolean) :: TW) ({ frames := 3, cells := 0, slots := 0, locals := 88 } : Room) (PR D cL cI [.ref mo, .int ia, .int ib] [(mo, .inr (4, [.int mso, .ref m1, .ref m2, .ref m3, .ref m4, .ref m5, .ref m6, .int mct, .ref m7, .int mfr, .int mcu, .int mth, .ref m8, .ref m9, .ref ma, .ref mb])), (m1, .inl (cL, 1503, .inr (.inl p1))), (m2, .inl (cL, 1503, .inr (.inl p2))), (m3, .inl (cI, 36072, .inl p3)), (m4, .inl (cI, 1503, .inl p4)), (m5, .inl (cL, 1500, .inr (.inl p5))), (m6, .inl (cI, 1500, .inl p6)), (m7, .inl (cI, 1500, .inl p7)), (m8, .inl (cI, 50, .inl p8)), (m9, .inl (cI, 50, .inl p9)), (ma, .inl (cI, 1500, .inl pa)), (mb, .inl (cI, 50, .inl pb))]) (vp_Si (fun r => (r = 0 ∨ r = 1) ∧ (r = 1 ↔ ia.toInt.toNat < n ∧ kw_eq w ((fun k => KW (p6 k).toInt.toNat) ia.toInt.toNat) (KW ib.toInt.toNat)))) 0 0 (fun _ => False) := by
  refine xr_met (by decide) ?_
  intro p e s m args below meth c hx hb hr hts hown hlocks hname hml hv
  obtain ⟨rfl, hP, hK⟩ := hv
  have hown : s.vm.findClass "BranchStoreModel" = some m.cls := hown
  have hP : va_P D classes [(mo, .inr (4, [.int mso, .ref m1, .ref m2, .ref m3, .ref m4, .ref m5, .ref m6, .int mct, .ref m7, .int mfr, .int mcu, .int mth, .ref m8, .ref m9, .ref ma, .ref mb])), (m1, .inl (cL, 1503, .inr (.inl p1))), (m2, .inl (cL, 1503, .inr (.inl p2))), (m3, .inl (cI, 36072, .inl p3)), (m4, .inl (cI, 1503, .inl p4)), (m5, .inl (cL, 1500, .inr (.inl p5))), (m6, .inl (cI, 1500, .inl p6)), (m7, .inl (cI, 1500, .inl p7)), (m8, .inl (cI, 50, .inl p8)), (m9, .inl (cI, 50, .inl p9)), (ma, .inl (cI, 1500, .inl pa)), (mb, .inl (cI, 50, .inl pb))] s.heap := hP
  have hl := lv_entry ([.ref mo, .int ia, .int ib]) (n := 3) (Nat.le_of_ble_eq_true rfl)
  rw [lg_entry_eq]
  generalize (lg_sl ([.ref mo, .int ia, .int ib]) ++ List.replicate (3 - (lg_sl ([.ref mo, .int ia, .int ib])).length) Slot.unset).toArray = ls at hl ⊢
  have hl : lv_has ls 3 [(0, .ref mo), (1, .int ia), (2, .int ib)] := hl
  obtain ⟨Q, hQ⟩ : ∃ Q, Q = MQ below (vp_Si (fun r => (r = 0 ∨ r = 1) ∧ (r = 1 ↔ ia.toInt.toNat < n ∧ kw_eq w ((fun k => KW (p6 k).toInt.toNat) ia.toInt.toNat) (KW ib.toInt.toNat)))) ([.ref mo, .int ia, .int ib] : List Value).toArray s 0 0 (fun _ => False) := ⟨_, rfl⟩
  rw [← hQ]
  have hrg_ia := ia_rng ia
  have hrg_ib := ia_rng ib
  refine lv_iload_n hx hb d_Mo_isAt_0 rfl (lv_at hl 1 rfl) ?_
  refine lv_aload_n hx hb d_Mo_isAt_1 rfl (lv_at hl 0 rfl) ?_
  refine va_get (D := D) (ci := 4) (v := .int mct) (C := R_Mo) (T := F_Mo) (N := 16) hx hb hts in_Mo hown hK hP 0 rfl rfl 7 (by decide) (hts _ tw_610) (fun _ h9 => h9) rfl d_Mo_isAt_2 ?_
  refine lv_icmp_ge hx hb d_Mo_isAt_5 (tgt := 26) (by decide) (fun g5 => ?_) (fun g5 => ?_)
  · have g5 := ic_le.mp g5
    refine lv_iconst (v := 0) hx hb d_Mo_isAt_26 (by decide) ?_
    refine lv_topi (fun v26 e26 => ?_)
    have t26 : v26.toInt = 0 := by rw [e26]; rfl
    have hpost : (v26 = 0 ∨ v26 = 1) ∧ (v26 = 1 ↔ ia.toInt.toNat < n ∧ kw_eq w ((fun k => KW (p6 k).toInt.toNat) ia.toInt.toNat) (KW ib.toInt.toNat)) := by
      first
      | exact ⟨Or.inr e22, ⟨fun _ => ⟨by omega, e16.2.mp g19⟩, fun _ => e22⟩⟩
      | exact ⟨Or.inl e26, ⟨fun h5 => absurd (h5.symm.trans e26) (by decide), fun h5 => absurd (e16.2.mpr h5.2) g19⟩⟩
      | exact ⟨Or.inl e26, ⟨fun h5 => absurd (h5.symm.trans e26) (by decide), fun h5 => by have h6 := h5.1; omega⟩⟩
    rw [hQ]
    exact xr_retz (v := v26) hx hb hr hlocks (Or.inl e26) (hpost) d_Mo_isAt_27
  · have g5 := ic_nle.mp g5
    refine lv_aload_n hx hb d_Mo_isAt_8 rfl (lv_at hl 0 rfl) ?_
    refine lv_aload_n hx hb d_Mo_isAt_9 rfl (lv_at hl 0 rfl) ?_
    refine va_get (D := D) (ci := 4) (v := .ref m6) (C := R_Mo) (T := F_Mo) (N := 16) hx hb hts in_Mo hown hK hP 0 rfl rfl 6 (by decide) (hts _ tw_609) (fun _ h9 => h9) rfl d_Mo_isAt_10 ?_
    refine lv_iload_n hx hb d_Mo_isAt_13 rfl (lv_at hl 1 rfl) ?_
    refine va_iald hx hb hK hP 6 1 rfl rfl (ia_in ⟨by omega, by omega⟩) d_Mo_isAt_14 ?_
    refine lv_topi (fun v14 e14 => ?_)
    have e14 : v14 = p6 ia.toInt.toNat := e14
    have hord := hor ia.toInt.toNat (by omega)
    rw [← e14] at hord
    refine lv_iload_n hx hb d_Mo_isAt_15 rfl (lv_at hl 2 rfl) ?_
    refine vp_callSi (xr_rv (As := [.int v14, .int ib]) (rest := []) ⟨hx, hb, hml, hown, hts⟩ (c_Mo_compare l D cL cI mo m1 m2 m3 m4 m5 m6 m7 m8 m9 ma mb mso mct mfr mcu mth p1 p2 p5 p3 p4 p6 p7 p8 p9 pa pb w KW v14 ib (by first | omega | exact hws) (by first | omega | exact hkr) (by first | omega | exact hia) (by first | omega | exact hib)) (xr_cv 2 hts tw_704 tw_701 tw_703 tp_14 tw_7 rfl rfl (by decide) ⟨Nat.le_of_ble_eq_true rfl, Nat.le_of_ble_eq_true rfl⟩) hK hP (va_recv hK hP rfl (q0 := 0) (ci := 4) rfl) rfl hl.1 rfl (Nat.le_of_ble_eq_true rfl) d_Mo_isAt_16 ⟨Nat.le_refl _, Nat.le_refl _⟩) (fun v16 e16 => ?_)
    have e16 : (v16.toInt < 0 ↔ kw_lt w (KW v14.toInt.toNat) (KW ib.toInt.toNat)) ∧ (v16.toInt = 0 ↔ kw_eq w (KW v14.toInt.toNat) (KW ib.toInt.toNat)) := e16
    have hrk : KW v14.toInt.toNat = (fun k => KW (p6 k).toInt.toNat) ia.toInt.toNat := by rw [e14]
    rw [hrk] at e16
    refine lv_if_ne hx hb d_Mo_isAt_19 (tgt := 26) (by decide) (fun g19 => ?_) (fun g19 => ?_)
    · have g19 := (iz_ne).mp g19
      refine lv_iconst (v := 0) hx hb d_Mo_isAt_26 (by decide) ?_
      refine lv_topi (fun v26 e26 => ?_)
      have t26 : v26.toInt = 0 := by rw [e26]; rfl
      have hpost : (v26 = 0 ∨ v26 = 1) ∧ (v26 = 1 ↔ ia.toInt.toNat < n ∧ kw_eq w ((fun k => KW (p6 k).toInt.toNat) ia.toInt.toNat) (KW ib.toInt.toNat)) := by
        first
        | exact ⟨Or.inr e22, ⟨fun _ => ⟨by omega, e16.2.mp g19⟩, fun _ => e22⟩⟩
        | exact ⟨Or.inl e26, ⟨fun h5 => absurd (h5.symm.trans e26) (by decide), fun h5 => absurd (e16.2.mpr h5.2) g19⟩⟩
        | exact ⟨Or.inl e26, ⟨fun h5 => absurd (h5.symm.trans e26) (by decide), fun h5 => by have h6 := h5.1; omega⟩⟩
      rw [hQ]
      exact xr_retz (v := v26) hx hb hr hlocks (Or.inl e26) (hpost) d_Mo_isAt_27
    · have g19 := (iz_eq).mp g19
      refine lv_iconst (v := 1) hx hb d_Mo_isAt_22 (by decide) ?_
      refine lv_topi (fun v22 e22 => ?_)
      have t22 : v22.toInt = 1 := by rw [e22]; rfl
      refine lv_goto hx hb d_Mo_isAt_23 (tgt := 27) (by decide) ?_
      have hpost : (v22 = 0 ∨ v22 = 1) ∧ (v22 = 1 ↔ ia.toInt.toNat < n ∧ kw_eq w ((fun k => KW (p6 k).toInt.toNat) ia.toInt.toNat) (KW ib.toInt.toNat)) := by
        first
        | exact ⟨Or.inr e22, ⟨fun _ => ⟨by omega, e16.2.mp g19⟩, fun _ => e22⟩⟩
        | exact ⟨Or.inl e26, ⟨fun h5 => absurd (h5.symm.trans e26) (by decide), fun h5 => absurd (e16.2.mpr h5.2) g19⟩⟩
        | exact ⟨Or.inl e26, ⟨fun h5 => absurd (h5.symm.trans e26) (by decide), fun h5 => by have h6 := h5.1; omega⟩⟩
      rw [hQ]
      exact xr_retz (v := v22) hx hb hr hlocks (Or.inr e22) (hpost) d_Mo_isAt_27
