set_option maxRecDepth 100000 in
set_option maxHeartbeats 4000000 in
theorem c_Mo_sizeOf (l : Launch) (D : va_G) (cL cI : ClassId) (x0 : Int32) (h0 : 0 ≤ x0.toInt) : Met l y_Mo_sizeOf (Cond.code y_Mo_sizeOf prog_6_method_41_code 1 (some .int) :: TW) ({ frames := 1, cells := 0, slots := 0, locals := 40 } : Room) (PR D cL cI [.int x0] []) (vp_Si (fun r => r.toInt = (cb_size x0.toInt.toNat : Int) ∧ 0 ≤ r.toInt ∧ r.toInt < 4)) 0 0 (fun _ => False) := by
  refine xr_met (by decide) ?_
  intro p e s m args below meth c hx hb hr hts hown hlocks hname hml hv
  obtain ⟨rfl, hP, hK⟩ := hv
  have hown : s.vm.findClass "BranchStoreModel" = some m.cls := hown
  have hl := lv_entry ([.int x0]) (n := 1) (Nat.le_of_ble_eq_true rfl)
  rw [lg_entry_eq]
  generalize (lg_sl ([.int x0]) ++ List.replicate (1 - (lg_sl ([.int x0])).length) Slot.unset).toArray = ls at hl ⊢
  have hl : lv_has ls 1 [(0, .int x0)] := hl
  obtain ⟨Q, hQ⟩ : ∃ Q, Q = MQ below (vp_Si (fun r => r.toInt = (cb_size x0.toInt.toNat : Int) ∧ 0 ≤ r.toInt ∧ r.toInt < 4)) ([.int x0] : List Value).toArray s 0 0 (fun _ => False) := ⟨_, rfl⟩
  rw [← hQ]
  have hrg_x0 := ia_rng x0
  refine lv_iload_n hx hb d_Mo_sizeOf_0 rfl (lv_at hl 0 rfl) ?_
  refine lv_iconst (v := 5) hx hb d_Mo_sizeOf_1 (by decide) ?_
  refine lv_topi (fun v1 e1 => ?_)
  have t1 : v1.toInt = 5 := by rw [e1]; rfl
  refine lv_icmp_ge hx hb d_Mo_sizeOf_2 (tgt := 9) (by decide) (fun g2 => ?_) (fun g2 => ?_)
  · have g2 := ic_le.mp g2
    refine lv_iload_n hx hb d_Mo_sizeOf_9 rfl (lv_at hl 0 rfl) ?_
    refine lv_bipush (v := 17) hx hb d_Mo_sizeOf_10 (by decide) ?_
    refine lv_topi (fun v10 e10 => ?_)
    have t10 : v10.toInt = 17 := by rw [e10]; rfl
    refine lv_icmp_ge hx hb d_Mo_sizeOf_12 (tgt := 19) (by decide) (fun g12 => ?_) (fun g12 => ?_)
    · have g12 := ic_le.mp g12
      refine lv_iload_n hx hb d_Mo_sizeOf_19 rfl (lv_at hl 0 rfl) ?_
      refine lv_bipush (v := 49) hx hb d_Mo_sizeOf_20 (by decide) ?_
      refine lv_topi (fun v20 e20 => ?_)
      have t20 : v20.toInt = 49 := by rw [e20]; rfl
      refine lv_icmp_ge hx hb d_Mo_sizeOf_22 (tgt := 29) (by decide) (fun g22 => ?_) (fun g22 => ?_)
      · have g22 := ic_le.mp g22
        refine lv_iconst (v := 3) hx hb d_Mo_sizeOf_29 (by decide) ?_
        refine lv_topi (fun v29 e29 => ?_)
        have t29 : v29.toInt = 3 := by rw [e29]; rfl
        have hpost : v29.toInt = (cb_size x0.toInt.toNat : Int) ∧ 0 ≤ v29.toInt ∧ v29.toInt < 4 := by
          unfold cb_size
          have a1 : (x0.toInt.toNat < 5) = (x0.toInt < 5) := by apply propext; omega
          have a2 : (x0.toInt.toNat < 17) = (x0.toInt < 17) := by apply propext; omega
          have a3 : (x0.toInt.toNat < 49) = (x0.toInt < 49) := by apply propext; omega
          simp only [a1, a2, a3]
          first
          | (rw [if_pos (by omega)]; omega)
          | (rw [if_neg (by omega), if_pos (by omega)]; omega)
          | (rw [if_neg (by omega), if_neg (by omega), if_pos (by omega)]; omega)
          | (rw [if_neg (by omega), if_neg (by omega), if_neg (by omega)]; omega)
        rw [hQ]
        exact xr_reti (v := v29) hx hb hr hlocks (hpost) d_Mo_sizeOf_30
      · have g22 := ic_nle.mp g22
        refine lv_iconst (v := 2) hx hb d_Mo_sizeOf_25 (by decide) ?_
        refine lv_topi (fun v25 e25 => ?_)
        have t25 : v25.toInt = 2 := by rw [e25]; rfl
        refine lv_goto hx hb d_Mo_sizeOf_26 (tgt := 30) (by decide) ?_
        have hpost : v25.toInt = (cb_size x0.toInt.toNat : Int) ∧ 0 ≤ v25.toInt ∧ v25.toInt < 4 := by
          unfold cb_size
          have a1 : (x0.toInt.toNat < 5) = (x0.toInt < 5) := by apply propext; omega
          have a2 : (x0.toInt.toNat < 17) = (x0.toInt < 17) := by apply propext; omega
          have a3 : (x0.toInt.toNat < 49) = (x0.toInt < 49) := by apply propext; omega
          simp only [a1, a2, a3]
          first
          | (rw [if_pos (by omega)]; omega)
          | (rw [if_neg (by omega), if_pos (by omega)]; omega)
          | (rw [if_neg (by omega), if_neg (by omega), if_pos (by omega)]; omega)
          | (rw [if_neg (by omega), if_neg (by omega), if_neg (by omega)]; omega)
        rw [hQ]
        exact xr_reti (v := v25) hx hb hr hlocks (hpost) d_Mo_sizeOf_30
    · have g12 := ic_nle.mp g12
      refine lv_iconst (v := 1) hx hb d_Mo_sizeOf_15 (by decide) ?_
      refine lv_topi (fun v15 e15 => ?_)
      have t15 : v15.toInt = 1 := by rw [e15]; rfl
      refine lv_goto hx hb d_Mo_sizeOf_16 (tgt := 30) (by decide) ?_
      have hpost : v15.toInt = (cb_size x0.toInt.toNat : Int) ∧ 0 ≤ v15.toInt ∧ v15.toInt < 4 := by
        unfold cb_size
        have a1 : (x0.toInt.toNat < 5) = (x0.toInt < 5) := by apply propext; omega
        have a2 : (x0.toInt.toNat < 17) = (x0.toInt < 17) := by apply propext; omega
        have a3 : (x0.toInt.toNat < 49) = (x0.toInt < 49) := by apply propext; omega
        simp only [a1, a2, a3]
        first
        | (rw [if_pos (by omega)]; omega)
        | (rw [if_neg (by omega), if_pos (by omega)]; omega)
        | (rw [if_neg (by omega), if_neg (by omega), if_pos (by omega)]; omega)
        | (rw [if_neg (by omega), if_neg (by omega), if_neg (by omega)]; omega)
      rw [hQ]
      exact xr_reti (v := v15) hx hb hr hlocks (hpost) d_Mo_sizeOf_30
  · have g2 := ic_nle.mp g2
    refine lv_iconst (v := 0) hx hb d_Mo_sizeOf_5 (by decide) ?_
    refine lv_topi (fun v5 e5 => ?_)
    have t5 : v5.toInt = 0 := by rw [e5]; rfl
    refine lv_goto hx hb d_Mo_sizeOf_6 (tgt := 30) (by decide) ?_
    have hpost : v5.toInt = (cb_size x0.toInt.toNat : Int) ∧ 0 ≤ v5.toInt ∧ v5.toInt < 4 := by
      unfold cb_size
      have a1 : (x0.toInt.toNat < 5) = (x0.toInt < 5) := by apply propext; omega
      have a2 : (x0.toInt.toNat < 17) = (x0.toInt < 17) := by apply propext; omega
      have a3 : (x0.toInt.toNat < 49) = (x0.toInt < 49) := by apply propext; omega
      simp only [a1, a2, a3]
      first
      | (rw [if_pos (by omega)]; omega)
      | (rw [if_neg (by omega), if_pos (by omega)]; omega)
      | (rw [if_neg (by omega), if_neg (by omega), if_pos (by omega)]; omega)
      | (rw [if_neg (by omega), if_neg (by omega), if_neg (by omega)]; omega)
    rw [hQ]
    exact xr_reti (v := v5) hx hb hr hlocks (hpost) d_Mo_sizeOf_30
set_option maxRecDepth 100000 in
set_option maxHeartbeats 4000000 in
theorem c_Mo_isFirst (l : Launch) (D : va_G) (cL cI : ClassId) (mo m1 m2 m3 m4 m5 m6 m7 m8 m9 ma mb : Nat) (mso mct mfr mcu mth : Int32) (p1 p2 p5 : Nat → Int64) (p3 p4 p6 p7 p8 p9 pa pb : Nat → Int32) (n : Nat) (ka : Int32) (hct : mct.toInt = (n : Int)) (hn : n ≤ 1500) (hpa : ∀ k, k + 1 < n → 0 ≤ (pa k).toInt ∧ (pa k).toInt < 50) (hka : 0 ≤ ka.toInt ∧ ka.toInt + 1 < (n : Int)) : Met l y_Mo_isFirst (Cond.code y_Mo_isFirst prog_6_method_39_code 3 (some .boolean) :: TW) ({ frames := 1, cells := 0, slots := 0, locals := 40 } : Room) (PR D cL cI [.ref mo, .int ka] [(mo, .inr (4, [.int mso, .ref m1, .ref m2, .ref m3, .ref m4, .ref m5, .ref m6, .int mct, .ref m7, .int mfr, .int mcu, .int mth, .ref m8, .ref m9, .ref ma, .ref mb])), (m1, .inl (cL, 1503, .inr (.inl p1))), (m2, .inl (cL, 1503, .inr (.inl p2))), (m3, .inl (cI, 36072, .inl p3)), (m4, .inl (cI, 1503, .inl p4)), (m5, .inl (cL, 1500, .inr (.inl p5))), (m6, .inl (cI, 1500, .inl p6)), (m7, .inl (cI, 1500, .inl p7)), (m8, .inl (cI, 50, .inl p8)), (m9, .inl (cI, 50, .inl p9)), (ma, .inl (cI, 1500, .inl pa)), (mb, .inl (cI, 50, .inl pb))]) (vp_Si (fun r => (r = 0 ∨ r = 1) ∧ (r = 1 ↔ cb_first (fun k => (pa k).toInt.toNat) ka.toInt.toNat = true))) 0 0 (fun _ => False) := by
  refine xr_met (by decide) ?_
  intro p e s m args below meth c hx hb hr hts hown hlocks hname hml hv
  obtain ⟨rfl, hP, hK⟩ := hv
  have hown : s.vm.findClass "BranchStoreModel" = some m.cls := hown
  have hP : va_P D classes [(mo, .inr (4, [.int mso, .ref m1, .ref m2, .ref m3, .ref m4, .ref m5, .ref m6, .int mct, .ref m7, .int mfr, .int mcu, .int mth, .ref m8, .ref m9, .ref ma, .ref mb])), (m1, .inl (cL, 1503, .inr (.inl p1))), (m2, .inl (cL, 1503, .inr (.inl p2))), (m3, .inl (cI, 36072, .inl p3)), (m4, .inl (cI, 1503, .inl p4)), (m5, .inl (cL, 1500, .inr (.inl p5))), (m6, .inl (cI, 1500, .inl p6)), (m7, .inl (cI, 1500, .inl p7)), (m8, .inl (cI, 50, .inl p8)), (m9, .inl (cI, 50, .inl p9)), (ma, .inl (cI, 1500, .inl pa)), (mb, .inl (cI, 50, .inl pb))] s.heap := hP
  have hl := lv_entry ([.ref mo, .int ka]) (n := 3) (Nat.le_of_ble_eq_true rfl)
  rw [lg_entry_eq]
  generalize (lg_sl ([.ref mo, .int ka]) ++ List.replicate (3 - (lg_sl ([.ref mo, .int ka])).length) Slot.unset).toArray = ls at hl ⊢
  have hl : lv_has ls 3 [(0, .ref mo), (1, .int ka)] := hl
  obtain ⟨Q, hQ⟩ : ∃ Q, Q = MQ below (vp_Si (fun r => (r = 0 ∨ r = 1) ∧ (r = 1 ↔ cb_first (fun k => (pa k).toInt.toNat) ka.toInt.toNat = true))) ([.ref mo, .int ka] : List Value).toArray s 0 0 (fun _ => False) := ⟨_, rfl⟩
  rw [← hQ]
  have hrg_ka := ia_rng ka
  have pk := hpa ka.toInt.toNat (by omega)
  refine lv_iload_n hx hb d_Mo_isFirst_0 rfl (lv_at hl 1 rfl) ?_
  refine lv_iconst (v := 1) hx hb d_Mo_isFirst_1 (by decide) ?_
  refine lv_topi (fun v1 e1 => ?_)
  have t1 : v1.toInt = 1 := by rw [e1]; rfl
  refine lv_isub hx hb d_Mo_isFirst_2 ?_
  refine lv_topi (fun v2 e2 => ?_)
  have t2 := ia_sub e2 ⟨by omega, by omega⟩
  refine lv_istore_n (lv' := [(2, .int v2), (0, .ref mo), (1, .int ka)]) hx hb d_Mo_isFirst_3 rfl hl (by decide) rfl (fun ls hl => ?_)
  have lp4 : ∀ (fuel4 : Nat) (ii : Int32) (ls : Array Slot), lv_has ls 3 [(2, .int ii), (0, .ref mo), (1, .int ka)] → (-1 ≤ ii.toInt) → (ii.toInt < ka.toInt) → (cb_fst (fun k => (pa k).toInt.toNat) ((fun k => (pa k).toInt.toNat) ka.toInt.toNat) (ii.toInt + 1).toNat = cb_first (fun k => (pa k).toInt.toNat) ka.toInt.toNat) → (ii.toInt + 1).toNat < fuel4 → W p l e ({ frames := 1, cells := 0, slots := 0, locals := 40 } : Room) s m ([.ref mo, .int ka] : List Value).toArray below meth c s.heap [] 0 0 Q (F0 m 4 ls []) := by
    intro fuel4
    induction fuel4 with
    | zero => intro ii ls hl h1 h2 h3 hm4; exact absurd hm4 (Nat.not_lt_zero _)
    | succ fuel4 ih4 =>
      intro ii ls hl h1 h2 h3 hm4
      refine lv_iload_n hx hb d_Mo_isFirst_4 rfl (lv_at hl 0 rfl) ?_
      refine lv_if_lt hx hb d_Mo_isFirst_5 (tgt := 46) (by decide) (fun g5 => ?_) (fun g5 => ?_)
      · have g5 := (iz_lt).mp g5
        refine lv_iconst (v := 1) hx hb d_Mo_isFirst_46 (by decide) ?_
        refine lv_topi (fun v46 e46 => ?_)
        have t46 : v46.toInt = 1 := by rw [e46]; rfl
        have hpost : (v46 = 0 ∨ v46 = 1) ∧ (v46 = 1 ↔ cb_first (fun k => (pa k).toInt.toNat) ka.toInt.toNat = true) := by
          refine ⟨Or.inr e46, ⟨fun _ => ?_, fun _ => e46⟩⟩
          rw [← h3]
          first
          | (rw [show (ii.toInt + 1).toNat = 0 by omega]; rfl)
          | (rw [hst, if_neg (by show ¬ (pa ka.toInt.toNat).toInt.toNat ≤ (pa ii.toInt.toNat).toInt.toNat; omega)])
        rw [hQ]
        exact xr_retz (v := v46) hx hb hr hlocks (Or.inr e46) (hpost) d_Mo_isFirst_47
      · have g5 := (iz_nlt).mp g5
        have pi := hpa ii.toInt.toNat (by omega)
        have hst : cb_fst (fun k => (pa k).toInt.toNat) ((fun k => (pa k).toInt.toNat) ka.toInt.toNat) (ii.toInt.toNat + 1) = if ((fun k => (pa k).toInt.toNat) ka.toInt.toNat) ≤ ((fun k => (pa k).toInt.toNat) ii.toInt.toNat) then (if (fun k => (pa k).toInt.toNat) ii.toInt.toNat = (fun k => (pa k).toInt.toNat) ka.toInt.toNat then false else cb_fst (fun k => (pa k).toInt.toNat) ((fun k => (pa k).toInt.toNat) ka.toInt.toNat) ii.toInt.toNat) else true := rfl
        rw [show (ii.toInt + 1).toNat = ii.toInt.toNat + 1 by omega] at h3
        refine lv_aload_n hx hb d_Mo_isFirst_8 rfl (lv_at hl 1 rfl) ?_
        refine va_get (D := D) (ci := 4) (v := .ref ma) (C := R_Mo) (T := F_Mo) (N := 16) hx hb hts in_Mo hown hK hP 0 rfl rfl 14 (by decide) (hts _ tw_617) (fun _ h9 => h9) rfl d_Mo_isFirst_9 ?_
        refine lv_iload_n hx hb d_Mo_isFirst_12 rfl (lv_at hl 0 rfl) ?_
        refine va_iald hx hb hK hP 10 1 rfl rfl (ia_in ⟨by omega, by omega⟩) d_Mo_isFirst_13 ?_
        refine lv_topi (fun v13 e13 => ?_)
        have e13 : v13 = pa ii.toInt.toNat := e13
        have t13 : v13.toInt = (pa ii.toInt.toNat).toInt := by rw [e13]
        refine lv_aload_n hx hb d_Mo_isFirst_14 rfl (lv_at hl 1 rfl) ?_
        refine va_get (D := D) (ci := 4) (v := .ref ma) (C := R_Mo) (T := F_Mo) (N := 16) hx hb hts in_Mo hown hK hP 0 rfl rfl 14 (by decide) (hts _ tw_617) (fun _ h9 => h9) rfl d_Mo_isFirst_15 ?_
        refine lv_iload_n hx hb d_Mo_isFirst_18 rfl (lv_at hl 2 rfl) ?_
        refine va_iald hx hb hK hP 10 1 rfl rfl (ia_in ⟨by omega, by omega⟩) d_Mo_isFirst_19 ?_
        refine lv_topi (fun v19 e19 => ?_)
        have e19 : v19 = pa ka.toInt.toNat := e19
        have t19 : v19.toInt = (pa ka.toInt.toNat).toInt := by rw [e19]
        refine lv_icmp_lt hx hb d_Mo_isFirst_20 (tgt := 46) (by decide) (fun g20 => ?_) (fun g20 => ?_)
        · have g20 := ic_lt.mp g20
          refine lv_iconst (v := 1) hx hb d_Mo_isFirst_46 (by decide) ?_
          refine lv_topi (fun v46 e46 => ?_)
          have t46 : v46.toInt = 1 := by rw [e46]; rfl
          have hpost : (v46 = 0 ∨ v46 = 1) ∧ (v46 = 1 ↔ cb_first (fun k => (pa k).toInt.toNat) ka.toInt.toNat = true) := by
            refine ⟨Or.inr e46, ⟨fun _ => ?_, fun _ => e46⟩⟩
            rw [← h3]
            first
            | (rw [show (ii.toInt + 1).toNat = 0 by omega]; rfl)
            | (rw [hst, if_neg (by show ¬ (pa ka.toInt.toNat).toInt.toNat ≤ (pa ii.toInt.toNat).toInt.toNat; omega)])
          rw [hQ]
          exact xr_retz (v := v46) hx hb hr hlocks (Or.inr e46) (hpost) d_Mo_isFirst_47
        · have g20 := ic_nlt.mp g20
          refine lv_aload_n hx hb d_Mo_isFirst_23 rfl (lv_at hl 1 rfl) ?_
          refine va_get (D := D) (ci := 4) (v := .ref ma) (C := R_Mo) (T := F_Mo) (N := 16) hx hb hts in_Mo hown hK hP 0 rfl rfl 14 (by decide) (hts _ tw_617) (fun _ h9 => h9) rfl d_Mo_isFirst_24 ?_
          refine lv_iload_n hx hb d_Mo_isFirst_27 rfl (lv_at hl 0 rfl) ?_
          refine va_iald hx hb hK hP 10 1 rfl rfl (ia_in ⟨by omega, by omega⟩) d_Mo_isFirst_28 ?_
          refine lv_topi (fun v28 e28 => ?_)
          have e28 : v28 = pa ii.toInt.toNat := e28
          have t28 : v28.toInt = (pa ii.toInt.toNat).toInt := by rw [e28]
          refine lv_aload_n hx hb d_Mo_isFirst_29 rfl (lv_at hl 1 rfl) ?_
          refine va_get (D := D) (ci := 4) (v := .ref ma) (C := R_Mo) (T := F_Mo) (N := 16) hx hb hts in_Mo hown hK hP 0 rfl rfl 14 (by decide) (hts _ tw_617) (fun _ h9 => h9) rfl d_Mo_isFirst_30 ?_
          refine lv_iload_n hx hb d_Mo_isFirst_33 rfl (lv_at hl 2 rfl) ?_
          refine va_iald hx hb hK hP 10 1 rfl rfl (ia_in ⟨by omega, by omega⟩) d_Mo_isFirst_34 ?_
          refine lv_topi (fun v34 e34 => ?_)
          have e34 : v34 = pa ka.toInt.toNat := e34
          have t34 : v34.toInt = (pa ka.toInt.toNat).toInt := by rw [e34]
          refine lv_icmp_ne hx hb d_Mo_isFirst_35 (tgt := 40) (by decide) (fun g35 => ?_) (fun g35 => ?_)
          · have g35 := ic_ne.mp g35
            obtain ⟨v40, e40⟩ : ∃ z, z = ii + Int32.ofInt (-1) := ⟨_, rfl⟩
            have t40 := ia_inc (-1) e40 (by decide) ⟨by omega, by omega⟩
            refine lv_iinc (k := 0) (lv' := [(2, .int v40), (0, .ref mo), (1, .int ka)]) hx hb d_Mo_isFirst_40 hl rfl e40.symm (by decide) rfl (fun ls hl => ?_)
            refine lv_goto hx hb d_Mo_isFirst_43 (tgt := 4) (by decide) ?_
            exact ih4 v40 ls hl (by omega) (by omega) (by
                  rw [show (v40.toInt + 1).toNat = ii.toInt.toNat by omega, ← h3, hst, if_pos (by show (pa ka.toInt.toNat).toInt.toNat ≤ (pa ii.toInt.toNat).toInt.toNat; omega), if_neg (by show ¬ (pa ii.toInt.toNat).toInt.toNat = (pa ka.toInt.toNat).toInt.toNat; omega)]) (by omega)
          · have g35 := ic_eq.mp g35
            refine lv_iconst (v := 0) hx hb d_Mo_isFirst_38 (by decide) ?_
            refine lv_topi (fun v38 e38 => ?_)
            have t38 : v38.toInt = 0 := by rw [e38]; rfl
            have hpost : (v38 = 0 ∨ v38 = 1) ∧ (v38 = 1 ↔ cb_first (fun k => (pa k).toInt.toNat) ka.toInt.toNat = true) := by
              rw [hst, if_pos (by show (pa ka.toInt.toNat).toInt.toNat ≤ (pa ii.toInt.toNat).toInt.toNat; omega), if_pos (by show (pa ii.toInt.toNat).toInt.toNat = (pa ka.toInt.toNat).toInt.toNat; omega)] at h3
              refine ⟨Or.inl e38, ⟨fun h5 => absurd (h5.symm.trans e38) (by decide), fun h5 => ?_⟩⟩
              rw [← h3] at h5
              exact absurd h5 (by decide)
            rw [hQ]
            exact xr_retz (v := v38) hx hb hr hlocks (Or.inl e38) (hpost) d_Mo_isFirst_39
  exact lp4 _ v2  ls hl (by omega) (by omega) (by rw [show (v2.toInt + 1).toNat = ka.toInt.toNat by omega]; rfl) (Nat.lt_succ_self _)
set_option maxRecDepth 100000 in
set_option maxHeartbeats 4000000 in
theorem c_Mo_children (l : Launch) (D : va_G) (cL cI : ClassId) (mo m1 m2 m3 m4 m5 m6 m7 m8 m9 ma mb : Nat) (mso mct mfr mcu mth : Int32) (p1 p2 p5 : Nat → Int64) (p3 p4 p6 p7 p8 p9 pa pb : Nat → Int32) (n : Nat) (ka : Int32) (hct : mct.toInt = (n : Int)) (hn : n ≤ 1500) (hpa : ∀ k, k + 1 < n → 0 ≤ (pa k).toInt ∧ (pa k).toInt < 50) (hka : 0 ≤ ka.toInt ∧ ka.toInt + 1 < (n : Int)) : Met l y_Mo_children (Cond.code y_Mo_children prog_6_method_40_code 4 (some .int) :: TW) ({ frames := 1, cells := 0, slots := 0, locals := 40 } : Room) (PR D cL cI [.ref mo, .int ka] [(mo, .inr (4, [.int mso, .ref m1, .ref m2, .ref m3, .ref m4, .ref m5, .ref m6, .int mct, .ref m7, .int mfr, .int mcu, .int mth, .ref m8, .ref m9, .ref ma, .ref mb])), (m1, .inl (cL, 1503, .inr (.inl p1))), (m2, .inl (cL, 1503, .inr (.inl p2))), (m3, .inl (cI, 36072, .inl p3)), (m4, .inl (cI, 1503, .inl p4)), (m5, .inl (cL, 1500, .inr (.inl p5))), (m6, .inl (cI, 1500, .inl p6)), (m7, .inl (cI, 1500, .inl p7)), (m8, .inl (cI, 50, .inl p8)), (m9, .inl (cI, 50, .inl p9)), (ma, .inl (cI, 1500, .inl pa)), (mb, .inl (cI, 50, .inl pb))]) (vp_Si (fun r => r.toInt = (cb_ch (fun k => (pa k).toInt.toNat) (n - 1) ka.toInt.toNat : Int) ∧ 0 ≤ r.toInt)) 0 0 (fun _ => False) := by
  refine xr_met (by decide) ?_
  intro p e s m args below meth c hx hb hr hts hown hlocks hname hml hv
  obtain ⟨rfl, hP, hK⟩ := hv
  have hown : s.vm.findClass "BranchStoreModel" = some m.cls := hown
  have hP : va_P D classes [(mo, .inr (4, [.int mso, .ref m1, .ref m2, .ref m3, .ref m4, .ref m5, .ref m6, .int mct, .ref m7, .int mfr, .int mcu, .int mth, .ref m8, .ref m9, .ref ma, .ref mb])), (m1, .inl (cL, 1503, .inr (.inl p1))), (m2, .inl (cL, 1503, .inr (.inl p2))), (m3, .inl (cI, 36072, .inl p3)), (m4, .inl (cI, 1503, .inl p4)), (m5, .inl (cL, 1500, .inr (.inl p5))), (m6, .inl (cI, 1500, .inl p6)), (m7, .inl (cI, 1500, .inl p7)), (m8, .inl (cI, 50, .inl p8)), (m9, .inl (cI, 50, .inl p9)), (ma, .inl (cI, 1500, .inl pa)), (mb, .inl (cI, 50, .inl pb))] s.heap := hP
  have hl := lv_entry ([.ref mo, .int ka]) (n := 4) (Nat.le_of_ble_eq_true rfl)
  rw [lg_entry_eq]
  generalize (lg_sl ([.ref mo, .int ka]) ++ List.replicate (4 - (lg_sl ([.ref mo, .int ka])).length) Slot.unset).toArray = ls at hl ⊢
  have hl : lv_has ls 4 [(0, .ref mo), (1, .int ka)] := hl
  obtain ⟨Q, hQ⟩ : ∃ Q, Q = MQ below (vp_Si (fun r => r.toInt = (cb_ch (fun k => (pa k).toInt.toNat) (n - 1) ka.toInt.toNat : Int) ∧ 0 ≤ r.toInt)) ([.ref mo, .int ka] : List Value).toArray s 0 0 (fun _ => False) := ⟨_, rfl⟩
  rw [← hQ]
  have hrg_ka := ia_rng ka
  have pk := hpa ka.toInt.toNat (by omega)
  refine lv_iconst (v := 2) hx hb d_Mo_children_0 (by decide) ?_
  refine lv_topi (fun v0 e0 => ?_)
  have t0 : v0.toInt = 2 := by rw [e0]; rfl
  refine lv_istore_n (lv' := [(2, .int v0), (0, .ref mo), (1, .int ka)]) hx hb d_Mo_children_1 rfl hl (by decide) rfl (fun ls hl => ?_)
  refine lv_iload_n hx hb d_Mo_children_2 rfl (lv_at hl 2 rfl) ?_
  refine lv_iconst (v := 1) hx hb d_Mo_children_3 (by decide) ?_
  refine lv_topi (fun v3 e3 => ?_)
  have t3 : v3.toInt = 1 := by rw [e3]; rfl
  refine lv_iadd hx hb d_Mo_children_4 ?_
  refine lv_topi (fun v4 e4 => ?_)
  have t4 := ia_add e4 ⟨by omega, by omega⟩
  refine lv_istore_n (lv' := [(3, .int v4), (2, .int v0), (0, .ref mo), (1, .int ka)]) hx hb d_Mo_children_5 rfl hl (by decide) rfl (fun ls hl => ?_)
  have lp6 : ∀ (fuel6 : Nat) (ii : Int32) (nn : Int32) (ls : Array Slot), lv_has ls 4 [(3, .int ii), (2, .int nn), (0, .ref mo), (1, .int ka)] → (ka.toInt + 1 ≤ ii.toInt) → (ii.toInt + 1 ≤ (n : Int)) → (2 ≤ nn.toInt ∧ nn.toInt ≤ 2 + ii.toInt) → (nn.toInt + (cb_kids (fun k => (pa k).toInt.toNat) ((fun k => (pa k).toInt.toNat) ka.toInt.toNat) (n - 1 - ii.toInt.toNat) ii.toInt.toNat : Int) = (cb_ch (fun k => (pa k).toInt.toNat) (n - 1) ka.toInt.toNat : Int)) → n - ii.toInt.toNat < fuel6 → W p l e ({ frames := 1, cells := 0, slots := 0, locals := 40 } : Room) s m ([.ref mo, .int ka] : List Value).toArray below meth c s.heap [] 0 0 Q (F0 m 6 ls []) := by
    intro fuel6
    induction fuel6 with
    | zero => intro ii nn ls hl h1 h2 h3 h4 hm6; exact absurd hm6 (Nat.not_lt_zero _)
    | succ fuel6 ih6 =>
      intro ii nn ls hl h1 h2 h3 h4 hm6
      refine lv_iload_n hx hb d_Mo_children_6 rfl (lv_at hl 0 rfl) ?_
      refine lv_iconst (v := 1) hx hb d_Mo_children_7 (by decide) ?_
      refine lv_topi (fun v7 e7 => ?_)
      have t7 : v7.toInt = 1 := by rw [e7]; rfl
      refine lv_iadd hx hb d_Mo_children_8 ?_
      refine lv_topi (fun v8 e8 => ?_)
      have t8 := ia_add e8 ⟨by omega, by omega⟩
      refine lv_aload_n hx hb d_Mo_children_9 rfl (lv_at hl 2 rfl) ?_
      refine va_get (D := D) (ci := 4) (v := .int mct) (C := R_Mo) (T := F_Mo) (N := 16) hx hb hts in_Mo hown hK hP 0 rfl rfl 7 (by decide) (hts _ tw_610) (fun _ h9 => h9) rfl d_Mo_children_10 ?_
      refine lv_icmp_ge hx hb d_Mo_children_13 (tgt := 60) (by decide) (fun g13 => ?_) (fun g13 => ?_)
      · have g13 := ic_le.mp g13
        refine lv_iload_n hx hb d_Mo_children_60 rfl (lv_at hl 1 rfl) ?_
        have hpost : nn.toInt = (cb_ch (fun k => (pa k).toInt.toNat) (n - 1) ka.toInt.toNat : Int) ∧ 0 ≤ nn.toInt := by
          refine ⟨?_, by omega⟩
          first
          | (have h5 : cb_kids (fun k => (pa k).toInt.toNat) ((fun k => (pa k).toInt.toNat) ka.toInt.toNat) (n - 1 - ii.toInt.toNat) ii.toInt.toNat = 0 := by rw [show n - 1 - ii.toInt.toNat = 0 by omega]; rfl
             rw [h5] at h4
             omega)
          | (rw [if_neg (by show ¬ (pa ka.toInt.toNat).toInt.toNat ≤ (pa ii.toInt.toNat).toInt.toNat; omega)] at h4
             omega)
        rw [hQ]
        exact xr_reti (v := nn) hx hb hr hlocks (hpost) d_Mo_children_61
      · have g13 := ic_nle.mp g13
        have pi := hpa ii.toInt.toNat (by omega)
        have hst : cb_kids (fun k => (pa k).toInt.toNat) ((fun k => (pa k).toInt.toNat) ka.toInt.toNat) ((n - 1 - (ii.toInt.toNat + 1)) + 1) ii.toInt.toNat = if (fun k => (pa k).toInt.toNat) ka.toInt.toNat ≤ (fun k => (pa k).toInt.toNat) ii.toInt.toNat then (if (fun k => (pa k).toInt.toNat) ii.toInt.toNat = (fun k => (pa k).toInt.toNat) ka.toInt.toNat then 1 else 0) + cb_kids (fun k => (pa k).toInt.toNat) ((fun k => (pa k).toInt.toNat) ka.toInt.toNat) (n - 1 - (ii.toInt.toNat + 1)) (ii.toInt.toNat + 1) else 0 := rfl
        rw [show n - 1 - ii.toInt.toNat = (n - 1 - (ii.toInt.toNat + 1)) + 1 by omega, hst] at h4
        refine lv_aload_n hx hb d_Mo_children_16 rfl (lv_at hl 2 rfl) ?_
        refine va_get (D := D) (ci := 4) (v := .ref ma) (C := R_Mo) (T := F_Mo) (N := 16) hx hb hts in_Mo hown hK hP 0 rfl rfl 14 (by decide) (hts _ tw_617) (fun _ h9 => h9) rfl d_Mo_children_17 ?_
        refine lv_iload_n hx hb d_Mo_children_20 rfl (lv_at hl 0 rfl) ?_
        refine va_iald hx hb hK hP 10 1 rfl rfl (ia_in ⟨by omega, by omega⟩) d_Mo_children_21 ?_
        refine lv_topi (fun v21 e21 => ?_)
        have e21 : v21 = pa ii.toInt.toNat := e21
        have t21 : v21.toInt = (pa ii.toInt.toNat).toInt := by rw [e21]
        refine lv_aload_n hx hb d_Mo_children_22 rfl (lv_at hl 2 rfl) ?_
        refine va_get (D := D) (ci := 4) (v := .ref ma) (C := R_Mo) (T := F_Mo) (N := 16) hx hb hts in_Mo hown hK hP 0 rfl rfl 14 (by decide) (hts _ tw_617) (fun _ h9 => h9) rfl d_Mo_children_23 ?_
        refine lv_iload_n hx hb d_Mo_children_26 rfl (lv_at hl 3 rfl) ?_
        refine va_iald hx hb hK hP 10 1 rfl rfl (ia_in ⟨by omega, by omega⟩) d_Mo_children_27 ?_
        refine lv_topi (fun v27 e27 => ?_)
        have e27 : v27 = pa ka.toInt.toNat := e27
        have t27 : v27.toInt = (pa ka.toInt.toNat).toInt := by rw [e27]
        refine lv_icmp_lt hx hb d_Mo_children_28 (tgt := 60) (by decide) (fun g28 => ?_) (fun g28 => ?_)
        · have g28 := ic_lt.mp g28
          refine lv_iload_n hx hb d_Mo_children_60 rfl (lv_at hl 1 rfl) ?_
          have hpost : nn.toInt = (cb_ch (fun k => (pa k).toInt.toNat) (n - 1) ka.toInt.toNat : Int) ∧ 0 ≤ nn.toInt := by
            refine ⟨?_, by omega⟩
            first
            | (have h5 : cb_kids (fun k => (pa k).toInt.toNat) ((fun k => (pa k).toInt.toNat) ka.toInt.toNat) (n - 1 - ii.toInt.toNat) ii.toInt.toNat = 0 := by rw [show n - 1 - ii.toInt.toNat = 0 by omega]; rfl
               rw [h5] at h4
               omega)
            | (rw [if_neg (by show ¬ (pa ka.toInt.toNat).toInt.toNat ≤ (pa ii.toInt.toNat).toInt.toNat; omega)] at h4
               omega)
          rw [hQ]
          exact xr_reti (v := nn) hx hb hr hlocks (hpost) d_Mo_children_61
        · have g28 := ic_nlt.mp g28
          refine lv_iload_n hx hb d_Mo_children_31 rfl (lv_at hl 1 rfl) ?_
          refine lv_aload_n hx hb d_Mo_children_32 rfl (lv_at hl 2 rfl) ?_
          refine va_get (D := D) (ci := 4) (v := .ref ma) (C := R_Mo) (T := F_Mo) (N := 16) hx hb hts in_Mo hown hK hP 0 rfl rfl 14 (by decide) (hts _ tw_617) (fun _ h9 => h9) rfl d_Mo_children_33 ?_
          refine lv_iload_n hx hb d_Mo_children_36 rfl (lv_at hl 0 rfl) ?_
          refine va_iald hx hb hK hP 10 1 rfl rfl (ia_in ⟨by omega, by omega⟩) d_Mo_children_37 ?_
          refine lv_topi (fun v37 e37 => ?_)
          have e37 : v37 = pa ii.toInt.toNat := e37
          have t37 : v37.toInt = (pa ii.toInt.toNat).toInt := by rw [e37]
          refine lv_aload_n hx hb d_Mo_children_38 rfl (lv_at hl 2 rfl) ?_
          refine va_get (D := D) (ci := 4) (v := .ref ma) (C := R_Mo) (T := F_Mo) (N := 16) hx hb hts in_Mo hown hK hP 0 rfl rfl 14 (by decide) (hts _ tw_617) (fun _ h9 => h9) rfl d_Mo_children_39 ?_
          refine lv_iload_n hx hb d_Mo_children_42 rfl (lv_at hl 3 rfl) ?_
          refine va_iald hx hb hK hP 10 1 rfl rfl (ia_in ⟨by omega, by omega⟩) d_Mo_children_43 ?_
          refine lv_topi (fun v43 e43 => ?_)
          have e43 : v43 = pa ka.toInt.toNat := e43
          have t43 : v43.toInt = (pa ka.toInt.toNat).toInt := by rw [e43]
          refine lv_icmp_ne hx hb d_Mo_children_44 (tgt := 51) (by decide) (fun g44 => ?_) (fun g44 => ?_)
          · have g44 := ic_ne.mp g44
            refine lv_iconst (v := 0) hx hb d_Mo_children_51 (by decide) ?_
            refine lv_topi (fun v51 e51 => ?_)
            have t51 : v51.toInt = 0 := by rw [e51]; rfl
            refine lv_iadd hx hb d_Mo_children_52 ?_
            refine lv_topi (fun v52 e52 => ?_)
            have t52 := ia_add e52 ⟨by omega, by omega⟩
            refine lv_istore_n (lv' := [(2, .int v52), (3, .int ii), (0, .ref mo), (1, .int ka)]) hx hb d_Mo_children_53 rfl hl (by decide) rfl (fun ls hl => ?_)
            obtain ⟨v54, e54⟩ : ∃ z, z = ii + Int32.ofInt 1 := ⟨_, rfl⟩
            have t54 := ia_inc 1 e54 (by decide) ⟨by omega, by omega⟩
            refine lv_iinc (k := 1) (lv' := [(3, .int v54), (2, .int v52), (0, .ref mo), (1, .int ka)]) hx hb d_Mo_children_54 hl rfl e54.symm (by decide) rfl (fun ls hl => ?_)
            refine lv_goto hx hb d_Mo_children_57 (tgt := 6) (by decide) ?_
            exact ih6 v54 v52 ls hl (by omega) (by omega) (by omega) (by
                  rw [if_pos (by show (pa ka.toInt.toNat).toInt.toNat ≤ (pa ii.toInt.toNat).toInt.toNat; omega)] at h4
                  rw [show v54.toInt.toNat = ii.toInt.toNat + 1 by omega]
                  first
                  | (rw [if_pos (by show (pa ii.toInt.toNat).toInt.toNat = (pa ka.toInt.toNat).toInt.toNat; omega)] at h4; omega)
                  | (rw [if_neg (by show ¬ (pa ii.toInt.toNat).toInt.toNat = (pa ka.toInt.toNat).toInt.toNat; omega)] at h4; omega)) (by omega)
          · have g44 := ic_eq.mp g44
            refine lv_iconst (v := 1) hx hb d_Mo_children_47 (by decide) ?_
            refine lv_topi (fun v47 e47 => ?_)
            have t47 : v47.toInt = 1 := by rw [e47]; rfl
            refine lv_goto hx hb d_Mo_children_48 (tgt := 52) (by decide) ?_
            refine lv_iadd hx hb d_Mo_children_52 ?_
            refine lv_topi (fun v52 e52 => ?_)
            have t52 := ia_add e52 ⟨by omega, by omega⟩
            refine lv_istore_n (lv' := [(2, .int v52), (3, .int ii), (0, .ref mo), (1, .int ka)]) hx hb d_Mo_children_53 rfl hl (by decide) rfl (fun ls hl => ?_)
            obtain ⟨v54, e54⟩ : ∃ z, z = ii + Int32.ofInt 1 := ⟨_, rfl⟩
            have t54 := ia_inc 1 e54 (by decide) ⟨by omega, by omega⟩
            refine lv_iinc (k := 1) (lv' := [(3, .int v54), (2, .int v52), (0, .ref mo), (1, .int ka)]) hx hb d_Mo_children_54 hl rfl e54.symm (by decide) rfl (fun ls hl => ?_)
            refine lv_goto hx hb d_Mo_children_57 (tgt := 6) (by decide) ?_
            exact ih6 v54 v52 ls hl (by omega) (by omega) (by omega) (by
                  rw [if_pos (by show (pa ka.toInt.toNat).toInt.toNat ≤ (pa ii.toInt.toNat).toInt.toNat; omega)] at h4
                  rw [show v54.toInt.toNat = ii.toInt.toNat + 1 by omega]
                  first
                  | (rw [if_pos (by show (pa ii.toInt.toNat).toInt.toNat = (pa ka.toInt.toNat).toInt.toNat; omega)] at h4; omega)
                  | (rw [if_neg (by show ¬ (pa ii.toInt.toNat).toInt.toNat = (pa ka.toInt.toNat).toInt.toNat; omega)] at h4; omega)) (by omega)
  exact lp6 _ v4 v0  ls hl (by omega) (by omega) (by omega) (by rw [show v4.toInt.toNat = ka.toInt.toNat + 1 by omega, t0]; unfold cb_ch; omega) (Nat.lt_succ_self _)
set_option maxRecDepth 100000 in
set_option maxHeartbeats 4000000 in
theorem c_Mo_branches (l : Launch) (D : va_G) (cL cI : ClassId) (mo m1 m2 m3 m4 m5 m6 m7 m8 m9 ma mb : Nat) (mso mct mfr mcu mth : Int32) (p1 p2 p5 : Nat → Int64) (p3 p4 p6 p7 p8 p9 pa pb : Nat → Int32) (n : Nat) (s0 : Int32) (hct : mct.toInt = (n : Int)) (hn : n ≤ 1500) (hpa : ∀ k, k + 1 < n → 0 ≤ (pa k).toInt ∧ (pa k).toInt < 50) (hs0 : 0 ≤ s0.toInt ∧ s0.toInt < 4) : Met l y_Mo_branches (Cond.code y_Mo_branches prog_6_method_44_code 4 (some .int) :: TW) ({ frames := 2, cells := 0, slots := 0, locals := 63 } : Room) (PR D cL cI [.ref mo, .int s0] [(mo, .inr (4, [.int mso, .ref m1, .ref m2, .ref m3, .ref m4, .ref m5, .ref m6, .int mct, .ref m7, .int mfr, .int mcu, .int mth, .ref m8, .ref m9, .ref ma, .ref mb])), (m1, .inl (cL, 1503, .inr (.inl p1))), (m2, .inl (cL, 1503, .inr (.inl p2))), (m3, .inl (cI, 36072, .inl p3)), (m4, .inl (cI, 1503, .inl p4)), (m5, .inl (cL, 1500, .inr (.inl p5))), (m6, .inl (cI, 1500, .inl p6)), (m7, .inl (cI, 1500, .inl p7)), (m8, .inl (cI, 50, .inl p8)), (m9, .inl (cI, 50, .inl p9)), (ma, .inl (cI, 1500, .inl pa)), (mb, .inl (cI, 50, .inl pb))]) (vp_Si (fun r => r.toInt = ((cb_end (fun k => (pa k).toInt.toNat) (n - 1)).2.1 s0.toInt.toNat : Int))) 0 0 (fun _ => False) := by
  refine xr_met (by decide) ?_
  intro p e s m args below meth c hx hb hr hts hown hlocks hname hml hv
  obtain ⟨rfl, hP, hK⟩ := hv
  have hown : s.vm.findClass "BranchStoreModel" = some m.cls := hown
  have hP : va_P D classes [(mo, .inr (4, [.int mso, .ref m1, .ref m2, .ref m3, .ref m4, .ref m5, .ref m6, .int mct, .ref m7, .int mfr, .int mcu, .int mth, .ref m8, .ref m9, .ref ma, .ref mb])), (m1, .inl (cL, 1503, .inr (.inl p1))), (m2, .inl (cL, 1503, .inr (.inl p2))), (m3, .inl (cI, 36072, .inl p3)), (m4, .inl (cI, 1503, .inl p4)), (m5, .inl (cL, 1500, .inr (.inl p5))), (m6, .inl (cI, 1500, .inl p6)), (m7, .inl (cI, 1500, .inl p7)), (m8, .inl (cI, 50, .inl p8)), (m9, .inl (cI, 50, .inl p9)), (ma, .inl (cI, 1500, .inl pa)), (mb, .inl (cI, 50, .inl pb))] s.heap := hP
  have hl := lv_entry ([.ref mo, .int s0]) (n := 4) (Nat.le_of_ble_eq_true rfl)
  rw [lg_entry_eq]
  generalize (lg_sl ([.ref mo, .int s0]) ++ List.replicate (4 - (lg_sl ([.ref mo, .int s0])).length) Slot.unset).toArray = ls at hl ⊢
  have hl : lv_has ls 4 [(0, .ref mo), (1, .int s0)] := hl
  obtain ⟨Q, hQ⟩ : ∃ Q, Q = MQ below (vp_Si (fun r => r.toInt = ((cb_end (fun k => (pa k).toInt.toNat) (n - 1)).2.1 s0.toInt.toNat : Int))) ([.ref mo, .int s0] : List Value).toArray s 0 0 (fun _ => False) := ⟨_, rfl⟩
  rw [← hQ]
  have hrg_s0 := ia_rng s0
  refine lv_iconst (v := 0) hx hb d_Mo_branches_0 (by decide) ?_
  refine lv_topi (fun v0 e0 => ?_)
  have t0 : v0.toInt = 0 := by rw [e0]; rfl
  refine lv_istore_n (lv' := [(2, .int v0), (0, .ref mo), (1, .int s0)]) hx hb d_Mo_branches_1 rfl hl (by decide) rfl (fun ls hl => ?_)
  refine lv_iconst (v := 0) hx hb d_Mo_branches_2 (by decide) ?_
  refine lv_topi (fun v2 e2 => ?_)
  have t2 : v2.toInt = 0 := by rw [e2]; rfl
  refine lv_istore_n (lv' := [(3, .int v2), (2, .int v0), (0, .ref mo), (1, .int s0)]) hx hb d_Mo_branches_3 rfl hl (by decide) rfl (fun ls hl => ?_)
  have lp4 : ∀ (fuel4 : Nat) (kk : Int32) (nn : Int32) (ls : Array Slot), lv_has ls 4 [(3, .int kk), (2, .int nn), (0, .ref mo), (1, .int s0)] → (0 ≤ kk.toInt) → (kk.toInt.toNat ≤ n - 1) → (0 ≤ nn.toInt ∧ nn.toInt ≤ kk.toInt) → (nn.toInt = (cb_num (fun i => cb_first (fun k => (pa k).toInt.toNat) i && (cb_size (cb_ch (fun k => (pa k).toInt.toNat) (n - 1) i) == s0.toInt.toNat)) kk.toInt.toNat : Int)) → n - kk.toInt.toNat < fuel4 → W p l e ({ frames := 2, cells := 0, slots := 0, locals := 63 } : Room) s m ([.ref mo, .int s0] : List Value).toArray below meth c s.heap [] 0 0 Q (F0 m 4 ls []) := by
    intro fuel4
    induction fuel4 with
    | zero => intro kk nn ls hl h1 h2 h3 h4 hm4; exact absurd hm4 (Nat.not_lt_zero _)
    | succ fuel4 ih4 =>
      intro kk nn ls hl h1 h2 h3 h4 hm4
      refine lv_iload_n hx hb d_Mo_branches_4 rfl (lv_at hl 0 rfl) ?_
      refine lv_iconst (v := 1) hx hb d_Mo_branches_5 (by decide) ?_
      refine lv_topi (fun v5 e5 => ?_)
      have t5 : v5.toInt = 1 := by rw [e5]; rfl
      refine lv_iadd hx hb d_Mo_branches_6 ?_
      refine lv_topi (fun v6 e6 => ?_)
      have t6 := ia_add e6 ⟨by omega, by omega⟩
      refine lv_aload_n hx hb d_Mo_branches_7 rfl (lv_at hl 2 rfl) ?_
      refine va_get (D := D) (ci := 4) (v := .int mct) (C := R_Mo) (T := F_Mo) (N := 16) hx hb hts in_Mo hown hK hP 0 rfl rfl 7 (by decide) (hts _ tw_610) (fun _ h9 => h9) rfl d_Mo_branches_8 ?_
      refine lv_icmp_ge hx hb d_Mo_branches_11 (tgt := 48) (by decide) (fun g11 => ?_) (fun g11 => ?_)
      · have g11 := ic_le.mp g11
        refine lv_iload_n hx hb d_Mo_branches_48 rfl (lv_at hl 1 rfl) ?_
        have hpost : nn.toInt = ((cb_end (fun k => (pa k).toInt.toNat) (n - 1)).2.1 s0.toInt.toNat : Int) := by
          rw [cb_end_sizes, h4, show kk.toInt.toNat = n - 1 by omega]
        rw [hQ]
        exact xr_reti (v := nn) hx hb hr hlocks (hpost) d_Mo_branches_49
      · have g11 := ic_nle.mp g11
        refine lv_iload_n hx hb d_Mo_branches_14 rfl (lv_at hl 1 rfl) ?_
        refine lv_aload_n hx hb d_Mo_branches_15 rfl (lv_at hl 2 rfl) ?_
        refine lv_iload_n hx hb d_Mo_branches_16 rfl (lv_at hl 0 rfl) ?_
        refine vp_callSi (xr_rv (As := [.int kk]) (rest := [.int nn]) ⟨hx, hb, hml, hown, hts⟩ (c_Mo_isFirst l D cL cI mo m1 m2 m3 m4 m5 m6 m7 m8 m9 ma mb mso mct mfr mcu mth p1 p2 p5 p3 p4 p6 p7 p8 p9 pa pb n kk (by first | omega | exact hct) (by first | omega | exact hn) (by first | omega | exact hpa) (by first | omega | exact hka)) (xr_cv 1 hts tw_811 tw_808 tw_810 tp_22 tw_7 rfl rfl (by decide) ⟨Nat.le_of_ble_eq_true rfl, Nat.le_of_ble_eq_true rfl⟩) hK hP (va_recv hK hP rfl (q0 := 0) (ci := 4) rfl) rfl hl.1 rfl (Nat.le_of_ble_eq_true rfl) d_Mo_branches_17 ⟨Nat.le_refl _, Nat.le_refl _⟩) (fun v17 e17 => ?_)
        have e17 : (v17 = 0 ∨ v17 = 1) ∧ (v17 = 1 ↔ cb_first (fun k => (pa k).toInt.toNat) kk.toInt.toNat = true) := e17
        have i3 := b01 e17
        refine lv_if_eq hx hb d_Mo_branches_20 (tgt := 39) (by decide) (fun g20 => ?_) (fun g20 => ?_)
        · have g20 := (iz_eq).mp g20
          refine lv_iconst (v := 0) hx hb d_Mo_branches_39 (by decide) ?_
          refine lv_topi (fun v39 e39 => ?_)
          have t39 : v39.toInt = 0 := by rw [e39]; rfl
          refine lv_iadd hx hb d_Mo_branches_40 ?_
          refine lv_topi (fun v40 e40 => ?_)
          have t40 := ia_add e40 ⟨by omega, by omega⟩
          refine lv_istore_n (lv' := [(2, .int v40), (3, .int kk), (0, .ref mo), (1, .int s0)]) hx hb d_Mo_branches_41 rfl hl (by decide) rfl (fun ls hl => ?_)
          obtain ⟨v42, e42⟩ : ∃ z, z = kk + Int32.ofInt 1 := ⟨_, rfl⟩
          have t42 := ia_inc 1 e42 (by decide) ⟨by omega, by omega⟩
          refine lv_iinc (k := 1) (lv' := [(3, .int v42), (2, .int v40), (0, .ref mo), (1, .int s0)]) hx hb d_Mo_branches_42 hl rfl e42.symm (by decide) rfl (fun ls hl => ?_)
          refine lv_goto hx hb d_Mo_branches_45 (tgt := 4) (by decide) ?_
          have hcn : cb_num (fun i => cb_first (fun k => (pa k).toInt.toNat) i && (cb_size (cb_ch (fun k => (pa k).toInt.toNat) (n - 1) i) == s0.toInt.toNat)) (kk.toInt.toNat + 1) = cb_num (fun i => cb_first (fun k => (pa k).toInt.toNat) i && (cb_size (cb_ch (fun k => (pa k).toInt.toNat) (n - 1) i) == s0.toInt.toNat)) kk.toInt.toNat + (if (cb_first (fun k => (pa k).toInt.toNat) kk.toInt.toNat && (cb_size (cb_ch (fun k => (pa k).toInt.toNat) (n - 1) kk.toInt.toNat) == s0.toInt.toNat)) = true then 1 else 0) := rfl
          exact ih4 v42 v40 ls hl (by omega) (by omega) (by omega) (by
                rw [show v42.toInt.toNat = kk.toInt.toNat + 1 by omega, hcn]
                rcases i3 with ⟨j1, j2⟩ | ⟨j1, j2⟩
                · first
                  | (exfalso; omega)
                  | (rw [if_pos (by rw [j2, Bool.true_and, beq_iff_eq]; omega)]; omega)
                  | (rw [if_neg (by rw [j2, Bool.true_and, beq_iff_eq]; omega)]; omega)
                · first
                  | (exfalso; omega)
                  | (rw [if_neg (by rw [Bool.eq_false_iff.mpr j2, Bool.false_and]; decide)]; omega)) (by omega)
        · have g20 := (iz_ne).mp g20
          refine lv_aload_n hx hb d_Mo_branches_23 rfl (lv_at hl 2 rfl) ?_
          refine lv_iload_n hx hb d_Mo_branches_24 rfl (lv_at hl 0 rfl) ?_
          refine vp_callSi (xr_rv (As := [.int kk]) (rest := [.int nn]) ⟨hx, hb, hml, hown, hts⟩ (c_Mo_children l D cL cI mo m1 m2 m3 m4 m5 m6 m7 m8 m9 ma mb mso mct mfr mcu mth p1 p2 p5 p3 p4 p6 p7 p8 p9 pa pb n kk (by first | omega | exact hct) (by first | omega | exact hn) (by first | omega | exact hpa) (by first | omega | exact hka)) (xr_cv 1 hts tw_815 tw_812 tw_814 tp_23 tw_7 rfl rfl (by decide) ⟨Nat.le_of_ble_eq_true rfl, Nat.le_of_ble_eq_true rfl⟩) hK hP (va_recv hK hP rfl (q0 := 0) (ci := 4) rfl) rfl hl.1 rfl (Nat.le_of_ble_eq_true rfl) d_Mo_branches_25 ⟨Nat.le_refl _, Nat.le_refl _⟩) (fun v25 e25 => ?_)
          have e25 : v25.toInt = (cb_ch (fun k => (pa k).toInt.toNat) (n - 1) kk.toInt.toNat : Int) ∧ 0 ≤ v25.toInt := e25
          refine vp_callSi (xr_rs (As := [.int v25]) (rest := [.int nn]) ⟨hx, hb, hml, hown, hts⟩ (c_Mo_sizeOf l D cL cI v25 (e25.2)) (xr_cs 1 hts tw_818 tw_816 tw_817 tw_7 rfl rfl (by decide) ⟨Nat.le_of_ble_eq_true rfl, Nat.le_of_ble_eq_true rfl⟩) hK (hP.sub (ws' := []) [] rfl) rfl hl.1 rfl (Nat.le_of_ble_eq_true rfl) d_Mo_branches_28 ⟨Nat.le_refl _, Nat.le_refl _⟩) (fun v28 e28 => ?_)
          have e28 : v28.toInt = (cb_size v25.toInt.toNat : Int) ∧ 0 ≤ v28.toInt ∧ v28.toInt < 4 := e28
          have hsz := e28.1
          rw [show v25.toInt.toNat = cb_ch (fun k => (pa k).toInt.toNat) (n - 1) kk.toInt.toNat by omega] at hsz
          refine lv_iload_n hx hb d_Mo_branches_31 rfl (lv_at hl 3 rfl) ?_
          refine lv_icmp_ne hx hb d_Mo_branches_32 (tgt := 39) (by decide) (fun g32 => ?_) (fun g32 => ?_)
          · have g32 := ic_ne.mp g32
            refine lv_iconst (v := 0) hx hb d_Mo_branches_39 (by decide) ?_
            refine lv_topi (fun v39 e39 => ?_)
            have t39 : v39.toInt = 0 := by rw [e39]; rfl
            refine lv_iadd hx hb d_Mo_branches_40 ?_
            refine lv_topi (fun v40 e40 => ?_)
            have t40 := ia_add e40 ⟨by omega, by omega⟩
            refine lv_istore_n (lv' := [(2, .int v40), (3, .int kk), (0, .ref mo), (1, .int s0)]) hx hb d_Mo_branches_41 rfl hl (by decide) rfl (fun ls hl => ?_)
            obtain ⟨v42, e42⟩ : ∃ z, z = kk + Int32.ofInt 1 := ⟨_, rfl⟩
            have t42 := ia_inc 1 e42 (by decide) ⟨by omega, by omega⟩
            refine lv_iinc (k := 1) (lv' := [(3, .int v42), (2, .int v40), (0, .ref mo), (1, .int s0)]) hx hb d_Mo_branches_42 hl rfl e42.symm (by decide) rfl (fun ls hl => ?_)
            refine lv_goto hx hb d_Mo_branches_45 (tgt := 4) (by decide) ?_
            have hcn : cb_num (fun i => cb_first (fun k => (pa k).toInt.toNat) i && (cb_size (cb_ch (fun k => (pa k).toInt.toNat) (n - 1) i) == s0.toInt.toNat)) (kk.toInt.toNat + 1) = cb_num (fun i => cb_first (fun k => (pa k).toInt.toNat) i && (cb_size (cb_ch (fun k => (pa k).toInt.toNat) (n - 1) i) == s0.toInt.toNat)) kk.toInt.toNat + (if (cb_first (fun k => (pa k).toInt.toNat) kk.toInt.toNat && (cb_size (cb_ch (fun k => (pa k).toInt.toNat) (n - 1) kk.toInt.toNat) == s0.toInt.toNat)) = true then 1 else 0) := rfl
            exact ih4 v42 v40 ls hl (by omega) (by omega) (by omega) (by
                  rw [show v42.toInt.toNat = kk.toInt.toNat + 1 by omega, hcn]
                  rcases i3 with ⟨j1, j2⟩ | ⟨j1, j2⟩
                  · first
                    | (exfalso; omega)
                    | (rw [if_pos (by rw [j2, Bool.true_and, beq_iff_eq]; omega)]; omega)
                    | (rw [if_neg (by rw [j2, Bool.true_and, beq_iff_eq]; omega)]; omega)
                  · first
                    | (exfalso; omega)
                    | (rw [if_neg (by rw [Bool.eq_false_iff.mpr j2, Bool.false_and]; decide)]; omega)) (by omega)
          · have g32 := ic_eq.mp g32
            refine lv_iconst (v := 1) hx hb d_Mo_branches_35 (by decide) ?_
            refine lv_topi (fun v35 e35 => ?_)
            have t35 : v35.toInt = 1 := by rw [e35]; rfl
            refine lv_goto hx hb d_Mo_branches_36 (tgt := 40) (by decide) ?_
            refine lv_iadd hx hb d_Mo_branches_40 ?_
            refine lv_topi (fun v40 e40 => ?_)
            have t40 := ia_add e40 ⟨by omega, by omega⟩
            refine lv_istore_n (lv' := [(2, .int v40), (3, .int kk), (0, .ref mo), (1, .int s0)]) hx hb d_Mo_branches_41 rfl hl (by decide) rfl (fun ls hl => ?_)
            obtain ⟨v42, e42⟩ : ∃ z, z = kk + Int32.ofInt 1 := ⟨_, rfl⟩
            have t42 := ia_inc 1 e42 (by decide) ⟨by omega, by omega⟩
            refine lv_iinc (k := 1) (lv' := [(3, .int v42), (2, .int v40), (0, .ref mo), (1, .int s0)]) hx hb d_Mo_branches_42 hl rfl e42.symm (by decide) rfl (fun ls hl => ?_)
            refine lv_goto hx hb d_Mo_branches_45 (tgt := 4) (by decide) ?_
            have hcn : cb_num (fun i => cb_first (fun k => (pa k).toInt.toNat) i && (cb_size (cb_ch (fun k => (pa k).toInt.toNat) (n - 1) i) == s0.toInt.toNat)) (kk.toInt.toNat + 1) = cb_num (fun i => cb_first (fun k => (pa k).toInt.toNat) i && (cb_size (cb_ch (fun k => (pa k).toInt.toNat) (n - 1) i) == s0.toInt.toNat)) kk.toInt.toNat + (if (cb_first (fun k => (pa k).toInt.toNat) kk.toInt.toNat && (cb_size (cb_ch (fun k => (pa k).toInt.toNat) (n - 1) kk.toInt.toNat) == s0.toInt.toNat)) = true then 1 else 0) := rfl
            exact ih4 v42 v40 ls hl (by omega) (by omega) (by omega) (by
                  rw [show v42.toInt.toNat = kk.toInt.toNat + 1 by omega, hcn]
                  rcases i3 with ⟨j1, j2⟩ | ⟨j1, j2⟩
                  · first
                    | (exfalso; omega)
                    | (rw [if_pos (by rw [j2, Bool.true_and, beq_iff_eq]; omega)]; omega)
                    | (rw [if_neg (by rw [j2, Bool.true_and, beq_iff_eq]; omega)]; omega)
                  · first
                    | (exfalso; omega)
                    | (rw [if_neg (by rw [Bool.eq_false_iff.mpr j2, Bool.false_and]; decide)]; omega)) (by omega)
  exact lp4 _ v2 v0  ls hl (by omega) (by omega) (by omega) (by rw [show v2.toInt.toNat = 0 by omega]; exact t0) (Nat.lt_succ_self _)
set_option maxRecDepth 100000 in
set_option maxHeartbeats 4000000 in
theorem c_Mo_depth (l : Launch) (D : va_G) (cL cI : ClassId) (mo m1 m2 m3 m4 m5 m6 m7 m8 m9 ma mb : Nat) (mso mct mfr mcu mth : Int32) (p1 p2 p5 : Nat → Int64) (p3 p4 p6 p7 p8 p9 pa pb : Nat → Int32) (n : Nat) (pl : Int32) (sz : Nat) (hct : mct.toInt = (n : Int)) (hn : n ≤ 1500) (hpa : ∀ k, k + 1 < n → 0 ≤ (pa k).toInt ∧ (pa k).toInt < 50) (hpl : 0 ≤ pl.toInt ∧ pl.toInt < (n : Int)) : Met l y_Mo_depth (Cond.code y_Mo_depth prog_6_method_42_code 5 (some .int) :: TW) ({ frames := 1, cells := 0, slots := 0, locals := 40 } : Room) (PM D cL cI [.ref mo, .int pl] [(mo, .inr (4, [.int mso, .ref m1, .ref m2, .ref m3, .ref m4, .ref m5, .ref m6, .int mct, .ref m7, .int mfr, .int mcu, .int mth, .ref m8, .ref m9, .ref ma, .ref mb])), (m1, .inl (cL, 1503, .inr (.inl p1))), (m2, .inl (cL, 1503, .inr (.inl p2))), (m3, .inl (cI, 36072, .inl p3)), (m4, .inl (cI, 1503, .inl p4)), (m5, .inl (cL, 1500, .inr (.inl p5))), (m6, .inl (cI, 1500, .inl p6)), (m7, .inl (cI, 1500, .inl p7)), (m8, .inl (cI, 50, .inl p8)), (m9, .inl (cI, 50, .inl p9)), (ma, .inl (cI, 1500, .inl pa)), (mb, .inl (cI, 50, .inl pb))] sz) (va_Qi (fun (r : Int32) (u : (Nat → Int32)) => r.toInt = (cb_N (fun k => (pa k).toInt.toNat) 64 (n - 1) pl.toInt.toNat 0 : Int)) (fun (u : (Nat → Int32)) (t : State) => va_P D classes [(mo, .inr (4, [.int mso, .ref m1, .ref m2, .ref m3, .ref m4, .ref m5, .ref m6, .int mct, .ref m7, .int mfr, .int mcu, .int mth, .ref m8, .ref m9, .ref ma, .ref mb])), (m1, .inl (cL, 1503, .inr (.inl p1))), (m2, .inl (cL, 1503, .inr (.inl p2))), (m3, .inl (cI, 36072, .inl p3)), (m4, .inl (cI, 1503, .inl p4)), (m5, .inl (cL, 1500, .inr (.inl p5))), (m6, .inl (cI, 1500, .inl p6)), (m7, .inl (cI, 1500, .inl p7)), (m8, .inl (cI, 50, .inl p8)), (m9, .inl (cI, 50, .inl p9)), (ma, .inl (cI, 1500, .inl pa)), (mb, .inl (cI, 50, .inl u))] t.heap ∧ va_K D classes (tyz cL cI) t ∧ va_D (va_A [(mo, .inr (4, [.int mso, .ref m1, .ref m2, .ref m3, .ref m4, .ref m5, .ref m6, .int mct, .ref m7, .int mfr, .int mcu, .int mth, .ref m8, .ref m9, .ref ma, .ref mb])), (m1, .inl (cL, 1503, .inr (.inl p1))), (m2, .inl (cL, 1503, .inr (.inl p2))), (m3, .inl (cI, 36072, .inl p3)), (m4, .inl (cI, 1503, .inl p4)), (m5, .inl (cL, 1500, .inr (.inl p5))), (m6, .inl (cI, 1500, .inl p6)), (m7, .inl (cI, 1500, .inl p7)), (m8, .inl (cI, 50, .inl p8)), (m9, .inl (cI, 50, .inl p9)), (ma, .inl (cI, 1500, .inl pa)), (mb, .inl (cI, 50, .inl pb))] sz) [(mo, .inr (4, [.int mso, .ref m1, .ref m2, .ref m3, .ref m4, .ref m5, .ref m6, .int mct, .ref m7, .int mfr, .int mcu, .int mth, .ref m8, .ref m9, .ref ma, .ref mb])), (m1, .inl (cL, 1503, .inr (.inl p1))), (m2, .inl (cL, 1503, .inr (.inl p2))), (m3, .inl (cI, 36072, .inl p3)), (m4, .inl (cI, 1503, .inl p4)), (m5, .inl (cL, 1500, .inr (.inl p5))), (m6, .inl (cI, 1500, .inl p6)), (m7, .inl (cI, 1500, .inl p7)), (m8, .inl (cI, 50, .inl p8)), (m9, .inl (cI, 50, .inl p9)), (ma, .inl (cI, 1500, .inl pa)), (mb, .inl (cI, 50, .inl u))]) (va_A [(mo, .inr (4, [.int mso, .ref m1, .ref m2, .ref m3, .ref m4, .ref m5, .ref m6, .int mct, .ref m7, .int mfr, .int mcu, .int mth, .ref m8, .ref m9, .ref ma, .ref mb])), (m1, .inl (cL, 1503, .inr (.inl p1))), (m2, .inl (cL, 1503, .inr (.inl p2))), (m3, .inl (cI, 36072, .inl p3)), (m4, .inl (cI, 1503, .inl p4)), (m5, .inl (cL, 1500, .inr (.inl p5))), (m6, .inl (cI, 1500, .inl p6)), (m7, .inl (cI, 1500, .inl p7)), (m8, .inl (cI, 50, .inl p8)), (m9, .inl (cI, 50, .inl p9)), (ma, .inl (cI, 1500, .inl pa)), (mb, .inl (cI, 50, .inl pb))] sz)) 0 0 (va_A [(mo, .inr (4, [.int mso, .ref m1, .ref m2, .ref m3, .ref m4, .ref m5, .ref m6, .int mct, .ref m7, .int mfr, .int mcu, .int mth, .ref m8, .ref m9, .ref ma, .ref mb])), (m1, .inl (cL, 1503, .inr (.inl p1))), (m2, .inl (cL, 1503, .inr (.inl p2))), (m3, .inl (cI, 36072, .inl p3)), (m4, .inl (cI, 1503, .inl p4)), (m5, .inl (cL, 1500, .inr (.inl p5))), (m6, .inl (cI, 1500, .inl p6)), (m7, .inl (cI, 1500, .inl p7)), (m8, .inl (cI, 50, .inl p8)), (m9, .inl (cI, 50, .inl p9)), (ma, .inl (cI, 1500, .inl pa)), (mb, .inl (cI, 50, .inl pb))] sz) := by
  refine xr_met (by decide) ?_
  intro p e s m args below meth c hx hb hr hts hown hlocks hname hml hv
  obtain ⟨rfl, hsz, hP, hK, hD0⟩ := hv
  subst hsz
  have hD := hD0.self (sz := s.heap.size)
  generalize hAe : va_A [(mo, .inr (4, [.int mso, .ref m1, .ref m2, .ref m3, .ref m4, .ref m5, .ref m6, .int mct, .ref m7, .int mfr, .int mcu, .int mth, .ref m8, .ref m9, .ref ma, .ref mb])), (m1, .inl (cL, 1503, .inr (.inl p1))), (m2, .inl (cL, 1503, .inr (.inl p2))), (m3, .inl (cI, 36072, .inl p3)), (m4, .inl (cI, 1503, .inl p4)), (m5, .inl (cL, 1500, .inr (.inl p5))), (m6, .inl (cI, 1500, .inl p6)), (m7, .inl (cI, 1500, .inl p7)), (m8, .inl (cI, 50, .inl p8)), (m9, .inl (cI, 50, .inl p9)), (ma, .inl (cI, 1500, .inl pa)), (mb, .inl (cI, 50, .inl pb))] s.heap.size = A at hD ⊢
  have hA : ∀ q : Nat, s.heap.size ≤ q → A q := fun q h => by rw [← hAe]; exact Or.inr h
  have hS : va_S A s.heap s.heap [] := va_S.rf
  have hD : va_D A [(mo, .inr (4, [.int mso, .ref m1, .ref m2, .ref m3, .ref m4, .ref m5, .ref m6, .int mct, .ref m7, .int mfr, .int mcu, .int mth, .ref m8, .ref m9, .ref ma, .ref mb])), (m1, .inl (cL, 1503, .inr (.inl p1))), (m2, .inl (cL, 1503, .inr (.inl p2))), (m3, .inl (cI, 36072, .inl p3)), (m4, .inl (cI, 1503, .inl p4)), (m5, .inl (cL, 1500, .inr (.inl p5))), (m6, .inl (cI, 1500, .inl p6)), (m7, .inl (cI, 1500, .inl p7)), (m8, .inl (cI, 50, .inl p8)), (m9, .inl (cI, 50, .inl p9)), (ma, .inl (cI, 1500, .inl pa)), (mb, .inl (cI, 50, .inl pb))] := hD
  have hown : s.vm.findClass "BranchStoreModel" = some m.cls := hown
  have hP : va_P D classes [(mo, .inr (4, [.int mso, .ref m1, .ref m2, .ref m3, .ref m4, .ref m5, .ref m6, .int mct, .ref m7, .int mfr, .int mcu, .int mth, .ref m8, .ref m9, .ref ma, .ref mb])), (m1, .inl (cL, 1503, .inr (.inl p1))), (m2, .inl (cL, 1503, .inr (.inl p2))), (m3, .inl (cI, 36072, .inl p3)), (m4, .inl (cI, 1503, .inl p4)), (m5, .inl (cL, 1500, .inr (.inl p5))), (m6, .inl (cI, 1500, .inl p6)), (m7, .inl (cI, 1500, .inl p7)), (m8, .inl (cI, 50, .inl p8)), (m9, .inl (cI, 50, .inl p9)), (ma, .inl (cI, 1500, .inl pa)), (mb, .inl (cI, 50, .inl pb))] s.heap := hP
  have hl := lv_entry ([.ref mo, .int pl]) (n := 5) (Nat.le_of_ble_eq_true rfl)
  rw [lg_entry_eq]
  generalize (lg_sl ([.ref mo, .int pl]) ++ List.replicate (5 - (lg_sl ([.ref mo, .int pl])).length) Slot.unset).toArray = ls at hl ⊢
  have hl : lv_has ls 5 [(0, .ref mo), (1, .int pl)] := hl
  obtain ⟨Q, hQ⟩ : ∃ Q, Q = MQ below (va_Qi (fun (r : Int32) (u : (Nat → Int32)) => r.toInt = (cb_N (fun k => (pa k).toInt.toNat) 64 (n - 1) pl.toInt.toNat 0 : Int)) (fun (u : (Nat → Int32)) (t : State) => va_P D classes [(mo, .inr (4, [.int mso, .ref m1, .ref m2, .ref m3, .ref m4, .ref m5, .ref m6, .int mct, .ref m7, .int mfr, .int mcu, .int mth, .ref m8, .ref m9, .ref ma, .ref mb])), (m1, .inl (cL, 1503, .inr (.inl p1))), (m2, .inl (cL, 1503, .inr (.inl p2))), (m3, .inl (cI, 36072, .inl p3)), (m4, .inl (cI, 1503, .inl p4)), (m5, .inl (cL, 1500, .inr (.inl p5))), (m6, .inl (cI, 1500, .inl p6)), (m7, .inl (cI, 1500, .inl p7)), (m8, .inl (cI, 50, .inl p8)), (m9, .inl (cI, 50, .inl p9)), (ma, .inl (cI, 1500, .inl pa)), (mb, .inl (cI, 50, .inl u))] t.heap ∧ va_K D classes (tyz cL cI) t ∧ va_D (A) [(mo, .inr (4, [.int mso, .ref m1, .ref m2, .ref m3, .ref m4, .ref m5, .ref m6, .int mct, .ref m7, .int mfr, .int mcu, .int mth, .ref m8, .ref m9, .ref ma, .ref mb])), (m1, .inl (cL, 1503, .inr (.inl p1))), (m2, .inl (cL, 1503, .inr (.inl p2))), (m3, .inl (cI, 36072, .inl p3)), (m4, .inl (cI, 1503, .inl p4)), (m5, .inl (cL, 1500, .inr (.inl p5))), (m6, .inl (cI, 1500, .inl p6)), (m7, .inl (cI, 1500, .inl p7)), (m8, .inl (cI, 50, .inl p8)), (m9, .inl (cI, 50, .inl p9)), (ma, .inl (cI, 1500, .inl pa)), (mb, .inl (cI, 50, .inl u))]) (A)) ([.ref mo, .int pl] : List Value).toArray s 0 0 A := ⟨_, rfl⟩
  rw [← hQ]
  have hrg_pl := ia_rng pl
  refine lv_iconst (v := 0) hx hb d_Mo_depth_0 (by decide) ?_
  refine lv_topi (fun v0 e0 => ?_)
  have t0 : v0.toInt = 0 := by rw [e0]; rfl
  refine lv_istore_n (lv' := [(2, .int v0), (0, .ref mo), (1, .int pl)]) hx hb d_Mo_depth_1 rfl hl (by decide) rfl (fun ls hl => ?_)
  have lp2 : ∀ (fuel2 : Nat) (kk : Int32) (fz : Nat → Int32) (H : Heap) (locs : List Loc) (ls : Array Slot), lv_has ls 5 [(2, .int kk), (0, .ref mo), (1, .int pl)] → va_P D classes [(mo, .inr (4, [.int mso, .ref m1, .ref m2, .ref m3, .ref m4, .ref m5, .ref m6, .int mct, .ref m7, .int mfr, .int mcu, .int mth, .ref m8, .ref m9, .ref ma, .ref mb])), (m1, .inl (cL, 1503, .inr (.inl p1))), (m2, .inl (cL, 1503, .inr (.inl p2))), (m3, .inl (cI, 36072, .inl p3)), (m4, .inl (cI, 1503, .inl p4)), (m5, .inl (cL, 1500, .inr (.inl p5))), (m6, .inl (cI, 1500, .inl p6)), (m7, .inl (cI, 1500, .inl p7)), (m8, .inl (cI, 50, .inl p8)), (m9, .inl (cI, 50, .inl p9)), (ma, .inl (cI, 1500, .inl pa)), (mb, .inl (cI, 50, .inl fz))] H → va_D A [(mo, .inr (4, [.int mso, .ref m1, .ref m2, .ref m3, .ref m4, .ref m5, .ref m6, .int mct, .ref m7, .int mfr, .int mcu, .int mth, .ref m8, .ref m9, .ref ma, .ref mb])), (m1, .inl (cL, 1503, .inr (.inl p1))), (m2, .inl (cL, 1503, .inr (.inl p2))), (m3, .inl (cI, 36072, .inl p3)), (m4, .inl (cI, 1503, .inl p4)), (m5, .inl (cL, 1500, .inr (.inl p5))), (m6, .inl (cI, 1500, .inl p6)), (m7, .inl (cI, 1500, .inl p7)), (m8, .inl (cI, 50, .inl p8)), (m9, .inl (cI, 50, .inl p9)), (ma, .inl (cI, 1500, .inl pa)), (mb, .inl (cI, 50, .inl fz))] → va_S A s.heap H locs → (0 ≤ kk.toInt) → (kk.toInt ≤ 50) → (∀ j, j < kk.toInt.toNat → (fz j).toInt = 0) → 50 - kk.toInt.toNat < fuel2 → W p l e ({ frames := 1, cells := 0, slots := 0, locals := 40 } : Room) s m ([.ref mo, .int pl] : List Value).toArray below meth c H locs 0 0 Q (F0 m 2 ls []) := by
    intro fuel2
    induction fuel2 with
    | zero => intro kk fz H locs ls hl hP hD hS h1 h2 h3 hm2; exact absurd hm2 (Nat.not_lt_zero _)
    | succ fuel2 ih2 =>
      intro kk fz H locs ls hl hP hD hS h1 h2 h3 hm2
      refine lv_iload_n hx hb d_Mo_depth_2 rfl (lv_at hl 0 rfl) ?_
      refine lv_bipush (v := 50) hx hb d_Mo_depth_3 (by decide) ?_
      refine lv_topi (fun v3 e3 => ?_)
      have t3 : v3.toInt = 50 := by rw [e3]; rfl
      refine lv_icmp_ge hx hb d_Mo_depth_5 (tgt := 21) (by decide) (fun g5 => ?_) (fun g5 => ?_)
      · have g5 := ic_le.mp g5
        refine lv_bipush (v := 50) hx hb d_Mo_depth_21 (by decide) ?_
        refine lv_topi (fun v21 e21 => ?_)
        have t21 : v21.toInt = 50 := by rw [e21]; rfl
        refine lv_istore_n (lv' := [(2, .int v21), (0, .ref mo), (1, .int pl)]) hx hb d_Mo_depth_23 rfl hl (by decide) rfl (fun ls hl => ?_)
        refine lv_iload_n hx hb d_Mo_depth_24 rfl (lv_at hl 2 rfl) ?_
        refine lv_istore_n (lv' := [(3, .int pl), (2, .int v21), (0, .ref mo), (1, .int pl)]) hx hb d_Mo_depth_25 rfl hl (by decide) rfl (fun ls hl => ?_)
        have lp26 : ∀ (fuel26 : Nat) (jj : Int32) (le : Int32) (fy : Nat → Int32) (H : Heap) (locs : List Loc) (ls : Array Slot), lv_has ls 5 [(3, .int jj), (2, .int le), (0, .ref mo), (1, .int pl)] → va_P D classes [(mo, .inr (4, [.int mso, .ref m1, .ref m2, .ref m3, .ref m4, .ref m5, .ref m6, .int mct, .ref m7, .int mfr, .int mcu, .int mth, .ref m8, .ref m9, .ref ma, .ref mb])), (m1, .inl (cL, 1503, .inr (.inl p1))), (m2, .inl (cL, 1503, .inr (.inl p2))), (m3, .inl (cI, 36072, .inl p3)), (m4, .inl (cI, 1503, .inl p4)), (m5, .inl (cL, 1500, .inr (.inl p5))), (m6, .inl (cI, 1500, .inl p6)), (m7, .inl (cI, 1500, .inl p7)), (m8, .inl (cI, 50, .inl p8)), (m9, .inl (cI, 50, .inl p9)), (ma, .inl (cI, 1500, .inl pa)), (mb, .inl (cI, 50, .inl fy))] H → va_D A [(mo, .inr (4, [.int mso, .ref m1, .ref m2, .ref m3, .ref m4, .ref m5, .ref m6, .int mct, .ref m7, .int mfr, .int mcu, .int mth, .ref m8, .ref m9, .ref ma, .ref mb])), (m1, .inl (cL, 1503, .inr (.inl p1))), (m2, .inl (cL, 1503, .inr (.inl p2))), (m3, .inl (cI, 36072, .inl p3)), (m4, .inl (cI, 1503, .inl p4)), (m5, .inl (cL, 1500, .inr (.inl p5))), (m6, .inl (cI, 1500, .inl p6)), (m7, .inl (cI, 1500, .inl p7)), (m8, .inl (cI, 50, .inl p8)), (m9, .inl (cI, 50, .inl p9)), (ma, .inl (cI, 1500, .inl pa)), (mb, .inl (cI, 50, .inl fy))] → va_S A s.heap H locs → (pl.toInt ≤ jj.toInt) → (jj.toInt.toNat ≤ n - 1 ∧ jj.toInt < (n : Int)) → (0 ≤ le.toInt ∧ le.toInt ≤ 50) → (dm_ok (fun k => (pa k).toInt.toNat) 50 pl.toInt.toNat jj.toInt.toNat le.toInt.toNat) → (∀ v, v < 50 → ((fy v).toInt = 1 ∧ dr_in (fun k => (pa k).toInt.toNat) pl.toInt.toNat jj.toInt.toNat v) ∨ ((fy v).toInt = 0 ∧ ¬ dr_in (fun k => (pa k).toInt.toNat) pl.toInt.toNat jj.toInt.toNat v)) → n - jj.toInt.toNat < fuel26 → W p l e ({ frames := 1, cells := 0, slots := 0, locals := 40 } : Room) s m ([.ref mo, .int pl] : List Value).toArray below meth c H locs 0 0 Q (F0 m 26 ls []) := by
          intro fuel26
          induction fuel26 with
          | zero => intro jj le fy H locs ls hl hP hD hS h1 h2 h4 h5 h6 hm26; exact absurd hm26 (Nat.not_lt_zero _)
          | succ fuel26 ih26 =>
            intro jj le fy H locs ls hl hP hD hS h1 h2 h4 h5 h6 hm26
            refine lv_iload_n hx hb d_Mo_depth_26 rfl (lv_at hl 0 rfl) ?_
            refine lv_iconst (v := 1) hx hb d_Mo_depth_27 (by decide) ?_
            refine lv_topi (fun v27 e27 => ?_)
            have t27 : v27.toInt = 1 := by rw [e27]; rfl
            refine lv_iadd hx hb d_Mo_depth_28 ?_
            refine lv_topi (fun v28 e28 => ?_)
            have t28 := ia_add e28 ⟨by omega, by omega⟩
            refine lv_aload_n hx hb d_Mo_depth_29 rfl (lv_at hl 2 rfl) ?_
            refine va_get (D := D) (ci := 4) (v := .int mct) (C := R_Mo) (T := F_Mo) (N := 16) hx hb hts in_Mo hown hK hP 0 rfl rfl 7 (by decide) (hts _ tw_610) (fun _ h9 => h9) rfl d_Mo_depth_30 ?_
            refine lv_icmp_ge hx hb d_Mo_depth_33 (tgt := 74) (by decide) (fun g33 => ?_) (fun g33 => ?_)
            · have g33 := ic_le.mp g33
              have hdr : ∀ v, v < 50 → ((fy v).toInt = 1 ∧ dr_in (fun k => (pa k).toInt.toNat) pl.toInt.toNat (n - 1) v) ∨ ((fy v).toInt = 0 ∧ ¬ dr_in (fun k => (pa k).toInt.toNat) pl.toInt.toNat (n - 1) v) := by
                    first
                    | (rw [show n - 1 = jj.toInt.toNat by omega]; exact h6)
                    | (intro v hv
                       rw [show le.toInt.toNat = 0 by omega] at h5
                       rw [dr_stop (by decide) h5 (by omega)]
                       exact h6 v hv)
              refine lv_bipush (v := 50) hx hb d_Mo_depth_74 (by decide) ?_
              refine lv_topi (fun v74 e74 => ?_)
              have t74 : v74.toInt = 50 := by rw [e74]; rfl
              refine lv_istore_n (lv' := [(2, .int v74), (3, .int jj), (0, .ref mo), (1, .int pl)]) hx hb d_Mo_depth_76 rfl hl (by decide) rfl (fun ls hl => ?_)
              refine lv_iload_n hx hb d_Mo_depth_77 rfl (lv_at hl 3 rfl) ?_
              refine lv_iconst (v := 1) hx hb d_Mo_depth_78 (by decide) ?_
              refine lv_topi (fun v78 e78 => ?_)
              have t78 : v78.toInt = 1 := by rw [e78]; rfl
              refine lv_isub hx hb d_Mo_depth_79 ?_
              refine lv_topi (fun v79 e79 => ?_)
              have t79 := ia_sub e79 ⟨by omega, by omega⟩
              refine lv_istore_n (lv' := [(3, .int v79), (2, .int v74), (0, .ref mo), (1, .int pl)]) hx hb d_Mo_depth_80 rfl hl (by decide) rfl (fun ls hl => ?_)
              have lp81 : ∀ (fuel81 : Nat) (ii : Int32) (lf : Int32) (fx : Nat → Int32) (H : Heap) (locs : List Loc) (ls : Array Slot), lv_has ls 5 [(3, .int ii), (2, .int lf), (0, .ref mo), (1, .int pl)] → va_P D classes [(mo, .inr (4, [.int mso, .ref m1, .ref m2, .ref m3, .ref m4, .ref m5, .ref m6, .int mct, .ref m7, .int mfr, .int mcu, .int mth, .ref m8, .ref m9, .ref ma, .ref mb])), (m1, .inl (cL, 1503, .inr (.inl p1))), (m2, .inl (cL, 1503, .inr (.inl p2))), (m3, .inl (cI, 36072, .inl p3)), (m4, .inl (cI, 1503, .inl p4)), (m5, .inl (cL, 1500, .inr (.inl p5))), (m6, .inl (cI, 1500, .inl p6)), (m7, .inl (cI, 1500, .inl p7)), (m8, .inl (cI, 50, .inl p8)), (m9, .inl (cI, 50, .inl p9)), (ma, .inl (cI, 1500, .inl pa)), (mb, .inl (cI, 50, .inl fx))] H → va_D A [(mo, .inr (4, [.int mso, .ref m1, .ref m2, .ref m3, .ref m4, .ref m5, .ref m6, .int mct, .ref m7, .int mfr, .int mcu, .int mth, .ref m8, .ref m9, .ref ma, .ref mb])), (m1, .inl (cL, 1503, .inr (.inl p1))), (m2, .inl (cL, 1503, .inr (.inl p2))), (m3, .inl (cI, 36072, .inl p3)), (m4, .inl (cI, 1503, .inl p4)), (m5, .inl (cL, 1500, .inr (.inl p5))), (m6, .inl (cI, 1500, .inl p6)), (m7, .inl (cI, 1500, .inl p7)), (m8, .inl (cI, 50, .inl p8)), (m9, .inl (cI, 50, .inl p9)), (ma, .inl (cI, 1500, .inl pa)), (mb, .inl (cI, 50, .inl fx))] → va_S A s.heap H locs → (-1 ≤ ii.toInt) → (ii.toInt < pl.toInt) → (0 ≤ lf.toInt ∧ lf.toInt ≤ 50) → (dm_ok (fun k => (pa k).toInt.toNat) 50 (ii.toInt + 1).toNat pl.toInt.toNat lf.toInt.toNat) → (∀ v, v < 50 → ((fx v).toInt = 1 ∧ (dr_in (fun k => (pa k).toInt.toNat) pl.toInt.toNat (n - 1) v ∨ dl_in (fun k => (pa k).toInt.toNat) pl.toInt.toNat (ii.toInt + 1).toNat v)) ∨ ((fx v).toInt = 0 ∧ ¬ (dr_in (fun k => (pa k).toInt.toNat) pl.toInt.toNat (n - 1) v ∨ dl_in (fun k => (pa k).toInt.toNat) pl.toInt.toNat (ii.toInt + 1).toNat v))) → (ii.toInt + 1).toNat < fuel81 → W p l e ({ frames := 1, cells := 0, slots := 0, locals := 40 } : Room) s m ([.ref mo, .int pl] : List Value).toArray below meth c H locs 0 0 Q (F0 m 81 ls []) := by
                intro fuel81
                induction fuel81 with
                | zero => intro ii lf fx H locs ls hl hP hD hS k1 k2 k4 k5 k6 hm81; exact absurd hm81 (Nat.not_lt_zero _)
                | succ fuel81 ih81 =>
                  intro ii lf fx H locs ls hl hP hD hS k1 k2 k4 k5 k6 hm81
                  refine lv_iload_n hx hb d_Mo_depth_81 rfl (lv_at hl 0 rfl) ?_
                  refine lv_if_lt hx hb d_Mo_depth_82 (tgt := 123) (by decide) (fun g82 => ?_) (fun g82 => ?_)
                  · have g82 := (iz_lt).mp g82
                    have hml : ∀ v, v < 50 → ((fx v).toInt = 1 ∧ cb_in (fun k => (pa k).toInt.toNat) (n - 1) pl.toInt.toNat v) ∨ ((fx v).toInt = 0 ∧ ¬ cb_in (fun k => (pa k).toInt.toNat) (n - 1) pl.toInt.toNat v) := by
                          intro v hv
                          rw [dl_all]
                          first
                          | (rw [show (0 : Nat) = (ii.toInt + 1).toNat by omega]; exact k6 v hv)
                          | (rw [show lf.toInt.toNat = 0 by omega] at k5
                             rw [dl_stop (by decide) k5]
                             exact k6 v hv)
                    refine lv_iconst (v := 0) hx hb d_Mo_depth_123 (by decide) ?_
                    refine lv_topi (fun v123 e123 => ?_)
                    have t123 : v123.toInt = 0 := by rw [e123]; rfl
                    refine lv_istore_n (lv' := [(3, .int v123), (2, .int lf), (0, .ref mo), (1, .int pl)]) hx hb d_Mo_depth_124 rfl hl (by decide) rfl (fun ls hl => ?_)
                    refine lv_iconst (v := 0) hx hb d_Mo_depth_125 (by decide) ?_
                    refine lv_topi (fun v125 e125 => ?_)
                    have t125 : v125.toInt = 0 := by rw [e125]; rfl
                    refine lv_istore (lv' := [(4, .int v125), (3, .int v123), (2, .int lf), (0, .ref mo), (1, .int pl)]) hx hb d_Mo_depth_126 hl (by decide) rfl (fun ls hl => ?_)
                    have lp128 : ∀ (fuel128 : Nat) (kc : Int32) (nn : Int32) (ls : Array Slot), lv_has ls 5 [(4, .int kc), (3, .int nn), (2, .int lf), (0, .ref mo), (1, .int pl)] → (0 ≤ kc.toInt) → (kc.toInt ≤ 50) → (0 ≤ nn.toInt ∧ nn.toInt ≤ kc.toInt) → (nn.toInt = (cb_num (fun v => decide (0 ≤ v) && cb_inb (fun k => (pa k).toInt.toNat) (n - 1) pl.toInt.toNat v) kc.toInt.toNat : Int)) → 50 - kc.toInt.toNat < fuel128 → W p l e ({ frames := 1, cells := 0, slots := 0, locals := 40 } : Room) s m ([.ref mo, .int pl] : List Value).toArray below meth c H locs 0 0 Q (F0 m 128 ls []) := by
                      intro fuel128
                      induction fuel128 with
                      | zero => intro kc nn ls hl l1 l2 l3 l4 hm128; exact absurd hm128 (Nat.not_lt_zero _)
                      | succ fuel128 ih128 =>
                        intro kc nn ls hl l1 l2 l3 l4 hm128
                        refine lv_iload hx hb d_Mo_depth_128 (lv_at hl 0 rfl) ?_
                        refine lv_bipush (v := 50) hx hb d_Mo_depth_130 (by decide) ?_
                        refine lv_topi (fun v130 e130 => ?_)
                        have t130 : v130.toInt = 50 := by rw [e130]; rfl
                        refine lv_icmp_ge hx hb d_Mo_depth_132 (tgt := 151) (by decide) (fun g132 => ?_) (fun g132 => ?_)
                        · have g132 := ic_le.mp g132
                          refine lv_iload_n hx hb d_Mo_depth_151 rfl (lv_at hl 1 rfl) ?_
                          have hpost : nn.toInt = (cb_N (fun k => (pa k).toInt.toNat) 64 (n - 1) pl.toInt.toNat 0 : Int) := by
                            rw [l4, show kc.toInt.toNat = 50 by omega]
                            unfold cb_N
                            rw [cb_num_cut (m := 50) 64 (by decide)]
                            intro v h9 h10
                            rw [decide_eq_true (Nat.zero_le _), Bool.true_and, Bool.eq_false_iff]
                            intro h11
                            rcases cb_inb_iff.mp h11 with ⟨j, a1, a2, a3, _⟩ | ⟨j, a2, a3, _⟩
                            · have := hpa j (by omega)
                              have a3 : (pa j).toInt.toNat = v := a3
                              omega
                            · have := hpa j (by omega)
                              have a3 : (pa j).toInt.toNat = v := a3
                              omega
                          have hP9 := hP.sub (ws' := [(mo, .inr (4, [.int mso, .ref m1, .ref m2, .ref m3, .ref m4, .ref m5, .ref m6, .int mct, .ref m7, .int mfr, .int mcu, .int mth, .ref m8, .ref m9, .ref ma, .ref mb])), (m1, .inl (cL, 1503, .inr (.inl p1))), (m2, .inl (cL, 1503, .inr (.inl p2))), (m3, .inl (cI, 36072, .inl p3)), (m4, .inl (cI, 1503, .inl p4)), (m5, .inl (cL, 1500, .inr (.inl p5))), (m6, .inl (cI, 1500, .inl p6)), (m7, .inl (cI, 1500, .inl p7)), (m8, .inl (cI, 50, .inl p8)), (m9, .inl (cI, 50, .inl p9)), (ma, .inl (cI, 1500, .inl pa)), (mb, .inl (cI, 50, .inl fx))]) [0, 1, 2, 3, 4, 5, 6, 7, 8, 9, 10, 11] rfl
                          have hD9 := hD.sub (ws' := [(mo, .inr (4, [.int mso, .ref m1, .ref m2, .ref m3, .ref m4, .ref m5, .ref m6, .int mct, .ref m7, .int mfr, .int mcu, .int mth, .ref m8, .ref m9, .ref ma, .ref mb])), (m1, .inl (cL, 1503, .inr (.inl p1))), (m2, .inl (cL, 1503, .inr (.inl p2))), (m3, .inl (cI, 36072, .inl p3)), (m4, .inl (cI, 1503, .inl p4)), (m5, .inl (cL, 1500, .inr (.inl p5))), (m6, .inl (cI, 1500, .inl p6)), (m7, .inl (cI, 1500, .inl p7)), (m8, .inl (cI, 50, .inl p8)), (m9, .inl (cI, 50, .inl p9)), (ma, .inl (cI, 1500, .inl pa)), (mb, .inl (cI, 50, .inl fx))]) [0, 1, 2, 3, 4, 5, 6, 7, 8, 9, 10, 11] (by decide) rfl
                          rw [hQ]
                          exact W.iret (v := nn) hx hb hr (fun t ht hW => ⟨⟨nn, (fx), rfl, hpost, by rw [ht]; exact hP9, va_K.moved hW.alike hK, hD9⟩, hS.F ht⟩) hS.2.2 d_Mo_depth_152
                        · have g132 := ic_nle.mp g132
                          refine lv_iload_n hx hb d_Mo_depth_135 rfl (lv_at hl 1 rfl) ?_
                          refine lv_aload_n hx hb d_Mo_depth_136 rfl (lv_at hl 3 rfl) ?_
                          refine va_get (D := D) (ci := 4) (v := .ref mb) (C := R_Mo) (T := F_Mo) (N := 16) hx hb hts in_Mo hown hK hP 0 rfl rfl 15 (by decide) (hts _ tw_618) (fun _ h9 => h9) rfl d_Mo_depth_137 ?_
                          refine lv_iload hx hb d_Mo_depth_140 (lv_at hl 0 rfl) ?_
                          refine va_iald hx hb hK hP 11 1 rfl rfl (ia_in ⟨by omega, by omega⟩) d_Mo_depth_142 ?_
                          refine lv_topi (fun v142 e142 => ?_)
                          have e142 : v142 = fx kc.toInt.toNat := e142
                          have h142 : 0 ≤ v142.toInt ∧ v142.toInt ≤ 1 := by
                                rcases hml kc.toInt.toNat (by omega) with h10 | h10
                                · rw [← e142] at h10; omega
                                · rw [← e142] at h10; omega
                          refine lv_iadd hx hb d_Mo_depth_143 ?_
                          refine lv_topi (fun v143 e143 => ?_)
                          have t143 := ia_add e143 ⟨by omega, by omega⟩
                          refine lv_istore_n (lv' := [(3, .int v143), (4, .int kc), (2, .int lf), (0, .ref mo), (1, .int pl)]) hx hb d_Mo_depth_144 rfl hl (by decide) rfl (fun ls hl => ?_)
                          obtain ⟨v145, e145⟩ : ∃ z, z = kc + Int32.ofInt 1 := ⟨_, rfl⟩
                          have t145 := ia_inc 1 e145 (by decide) ⟨by omega, by omega⟩
                          refine lv_iinc (k := 1) (lv' := [(4, .int v145), (3, .int v143), (2, .int lf), (0, .ref mo), (1, .int pl)]) hx hb d_Mo_depth_145 hl rfl e145.symm (by decide) rfl (fun ls hl => ?_)
                          refine lv_goto hx hb d_Mo_depth_148 (tgt := 128) (by decide) ?_
                          exact ih128 v145 v143 ls hl (by omega) (by omega) (by have h9 := h142; omega) (by
                                rw [show v145.toInt.toNat = kc.toInt.toNat + 1 by omega, cb_num, decide_eq_true (Nat.zero_le _), Bool.true_and]
                                rcases hml kc.toInt.toNat (by omega) with h10 | h10
                                · rw [if_pos (cb_inb_iff.mpr h10.2)]; rw [← e142] at h10; omega
                                · rw [if_neg (fun h11 => h10.2 (cb_inb_iff.mp h11))]; rw [← e142] at h10; omega) (by omega)
                    exact lp128 _ v125 v123  ls hl (by omega) (by omega) (by omega) (by rw [show v125.toInt.toNat = 0 by omega]; exact t123) (Nat.lt_succ_self _)
                  · have g82 := (iz_nlt).mp g82
                    refine lv_iload_n hx hb d_Mo_depth_85 rfl (lv_at hl 1 rfl) ?_
                    refine lv_if_le hx hb d_Mo_depth_86 (tgt := 123) (by decide) (fun g86 => ?_) (fun g86 => ?_)
                    · have g86 := (iz_le).mp g86
                      have hml : ∀ v, v < 50 → ((fx v).toInt = 1 ∧ cb_in (fun k => (pa k).toInt.toNat) (n - 1) pl.toInt.toNat v) ∨ ((fx v).toInt = 0 ∧ ¬ cb_in (fun k => (pa k).toInt.toNat) (n - 1) pl.toInt.toNat v) := by
                            intro v hv
                            rw [dl_all]
                            first
                            | (rw [show (0 : Nat) = (ii.toInt + 1).toNat by omega]; exact k6 v hv)
                            | (rw [show lf.toInt.toNat = 0 by omega] at k5
                               rw [dl_stop (by decide) k5]
                               exact k6 v hv)
                      refine lv_iconst (v := 0) hx hb d_Mo_depth_123 (by decide) ?_
                      refine lv_topi (fun v123 e123 => ?_)
                      have t123 : v123.toInt = 0 := by rw [e123]; rfl
                      refine lv_istore_n (lv' := [(3, .int v123), (2, .int lf), (0, .ref mo), (1, .int pl)]) hx hb d_Mo_depth_124 rfl hl (by decide) rfl (fun ls hl => ?_)
                      refine lv_iconst (v := 0) hx hb d_Mo_depth_125 (by decide) ?_
                      refine lv_topi (fun v125 e125 => ?_)
                      have t125 : v125.toInt = 0 := by rw [e125]; rfl
                      refine lv_istore (lv' := [(4, .int v125), (3, .int v123), (2, .int lf), (0, .ref mo), (1, .int pl)]) hx hb d_Mo_depth_126 hl (by decide) rfl (fun ls hl => ?_)
                      have lp128 : ∀ (fuel128 : Nat) (kc : Int32) (nn : Int32) (ls : Array Slot), lv_has ls 5 [(4, .int kc), (3, .int nn), (2, .int lf), (0, .ref mo), (1, .int pl)] → (0 ≤ kc.toInt) → (kc.toInt ≤ 50) → (0 ≤ nn.toInt ∧ nn.toInt ≤ kc.toInt) → (nn.toInt = (cb_num (fun v => decide (0 ≤ v) && cb_inb (fun k => (pa k).toInt.toNat) (n - 1) pl.toInt.toNat v) kc.toInt.toNat : Int)) → 50 - kc.toInt.toNat < fuel128 → W p l e ({ frames := 1, cells := 0, slots := 0, locals := 40 } : Room) s m ([.ref mo, .int pl] : List Value).toArray below meth c H locs 0 0 Q (F0 m 128 ls []) := by
                        intro fuel128
                        induction fuel128 with
                        | zero => intro kc nn ls hl l1 l2 l3 l4 hm128; exact absurd hm128 (Nat.not_lt_zero _)
                        | succ fuel128 ih128 =>
                          intro kc nn ls hl l1 l2 l3 l4 hm128
                          refine lv_iload hx hb d_Mo_depth_128 (lv_at hl 0 rfl) ?_
                          refine lv_bipush (v := 50) hx hb d_Mo_depth_130 (by decide) ?_
                          refine lv_topi (fun v130 e130 => ?_)
                          have t130 : v130.toInt = 50 := by rw [e130]; rfl
                          refine lv_icmp_ge hx hb d_Mo_depth_132 (tgt := 151) (by decide) (fun g132 => ?_) (fun g132 => ?_)
                          · have g132 := ic_le.mp g132
                            refine lv_iload_n hx hb d_Mo_depth_151 rfl (lv_at hl 1 rfl) ?_
                            have hpost : nn.toInt = (cb_N (fun k => (pa k).toInt.toNat) 64 (n - 1) pl.toInt.toNat 0 : Int) := by
                              rw [l4, show kc.toInt.toNat = 50 by omega]
                              unfold cb_N
                              rw [cb_num_cut (m := 50) 64 (by decide)]
                              intro v h9 h10
                              rw [decide_eq_true (Nat.zero_le _), Bool.true_and, Bool.eq_false_iff]
                              intro h11
                              rcases cb_inb_iff.mp h11 with ⟨j, a1, a2, a3, _⟩ | ⟨j, a2, a3, _⟩
                              · have := hpa j (by omega)
                                have a3 : (pa j).toInt.toNat = v := a3
                                omega
                              · have := hpa j (by omega)
                                have a3 : (pa j).toInt.toNat = v := a3
                                omega
                            have hP9 := hP.sub (ws' := [(mo, .inr (4, [.int mso, .ref m1, .ref m2, .ref m3, .ref m4, .ref m5, .ref m6, .int mct, .ref m7, .int mfr, .int mcu, .int mth, .ref m8, .ref m9, .ref ma, .ref mb])), (m1, .inl (cL, 1503, .inr (.inl p1))), (m2, .inl (cL, 1503, .inr (.inl p2))), (m3, .inl (cI, 36072, .inl p3)), (m4, .inl (cI, 1503, .inl p4)), (m5, .inl (cL, 1500, .inr (.inl p5))), (m6, .inl (cI, 1500, .inl p6)), (m7, .inl (cI, 1500, .inl p7)), (m8, .inl (cI, 50, .inl p8)), (m9, .inl (cI, 50, .inl p9)), (ma, .inl (cI, 1500, .inl pa)), (mb, .inl (cI, 50, .inl fx))]) [0, 1, 2, 3, 4, 5, 6, 7, 8, 9, 10, 11] rfl
                            have hD9 := hD.sub (ws' := [(mo, .inr (4, [.int mso, .ref m1, .ref m2, .ref m3, .ref m4, .ref m5, .ref m6, .int mct, .ref m7, .int mfr, .int mcu, .int mth, .ref m8, .ref m9, .ref ma, .ref mb])), (m1, .inl (cL, 1503, .inr (.inl p1))), (m2, .inl (cL, 1503, .inr (.inl p2))), (m3, .inl (cI, 36072, .inl p3)), (m4, .inl (cI, 1503, .inl p4)), (m5, .inl (cL, 1500, .inr (.inl p5))), (m6, .inl (cI, 1500, .inl p6)), (m7, .inl (cI, 1500, .inl p7)), (m8, .inl (cI, 50, .inl p8)), (m9, .inl (cI, 50, .inl p9)), (ma, .inl (cI, 1500, .inl pa)), (mb, .inl (cI, 50, .inl fx))]) [0, 1, 2, 3, 4, 5, 6, 7, 8, 9, 10, 11] (by decide) rfl
                            rw [hQ]
                            exact W.iret (v := nn) hx hb hr (fun t ht hW => ⟨⟨nn, (fx), rfl, hpost, by rw [ht]; exact hP9, va_K.moved hW.alike hK, hD9⟩, hS.F ht⟩) hS.2.2 d_Mo_depth_152
                          · have g132 := ic_nle.mp g132
                            refine lv_iload_n hx hb d_Mo_depth_135 rfl (lv_at hl 1 rfl) ?_
                            refine lv_aload_n hx hb d_Mo_depth_136 rfl (lv_at hl 3 rfl) ?_
                            refine va_get (D := D) (ci := 4) (v := .ref mb) (C := R_Mo) (T := F_Mo) (N := 16) hx hb hts in_Mo hown hK hP 0 rfl rfl 15 (by decide) (hts _ tw_618) (fun _ h9 => h9) rfl d_Mo_depth_137 ?_
                            refine lv_iload hx hb d_Mo_depth_140 (lv_at hl 0 rfl) ?_
                            refine va_iald hx hb hK hP 11 1 rfl rfl (ia_in ⟨by omega, by omega⟩) d_Mo_depth_142 ?_
                            refine lv_topi (fun v142 e142 => ?_)
                            have e142 : v142 = fx kc.toInt.toNat := e142
                            have h142 : 0 ≤ v142.toInt ∧ v142.toInt ≤ 1 := by
                                  rcases hml kc.toInt.toNat (by omega) with h10 | h10
                                  · rw [← e142] at h10; omega
                                  · rw [← e142] at h10; omega
                            refine lv_iadd hx hb d_Mo_depth_143 ?_
                            refine lv_topi (fun v143 e143 => ?_)
                            have t143 := ia_add e143 ⟨by omega, by omega⟩
                            refine lv_istore_n (lv' := [(3, .int v143), (4, .int kc), (2, .int lf), (0, .ref mo), (1, .int pl)]) hx hb d_Mo_depth_144 rfl hl (by decide) rfl (fun ls hl => ?_)
                            obtain ⟨v145, e145⟩ : ∃ z, z = kc + Int32.ofInt 1 := ⟨_, rfl⟩
                            have t145 := ia_inc 1 e145 (by decide) ⟨by omega, by omega⟩
                            refine lv_iinc (k := 1) (lv' := [(4, .int v145), (3, .int v143), (2, .int lf), (0, .ref mo), (1, .int pl)]) hx hb d_Mo_depth_145 hl rfl e145.symm (by decide) rfl (fun ls hl => ?_)
                            refine lv_goto hx hb d_Mo_depth_148 (tgt := 128) (by decide) ?_
                            exact ih128 v145 v143 ls hl (by omega) (by omega) (by have h9 := h142; omega) (by
                                  rw [show v145.toInt.toNat = kc.toInt.toNat + 1 by omega, cb_num, decide_eq_true (Nat.zero_le _), Bool.true_and]
                                  rcases hml kc.toInt.toNat (by omega) with h10 | h10
                                  · rw [if_pos (cb_inb_iff.mpr h10.2)]; rw [← e142] at h10; omega
                                  · rw [if_neg (fun h11 => h10.2 (cb_inb_iff.mp h11))]; rw [← e142] at h10; omega) (by omega)
                      exact lp128 _ v125 v123  ls hl (by omega) (by omega) (by omega) (by rw [show v125.toInt.toNat = 0 by omega]; exact t123) (Nat.lt_succ_self _)
                    · have g86 := (iz_nle).mp g86
                      have pj := hpa ii.toInt.toNat (by omega)
                      refine lv_aload_n hx hb d_Mo_depth_89 rfl (lv_at hl 2 rfl) ?_
                      refine va_get (D := D) (ci := 4) (v := .ref ma) (C := R_Mo) (T := F_Mo) (N := 16) hx hb hts in_Mo hown hK hP 0 rfl rfl 14 (by decide) (hts _ tw_617) (fun _ h9 => h9) rfl d_Mo_depth_90 ?_
                      refine lv_iload_n hx hb d_Mo_depth_93 rfl (lv_at hl 0 rfl) ?_
                      refine va_iald hx hb hK hP 10 1 rfl rfl (ia_in ⟨by omega, by omega⟩) d_Mo_depth_94 ?_
                      refine lv_topi (fun v94 e94 => ?_)
                      have e94 : v94 = pa ii.toInt.toNat := e94
                      have t94 : v94.toInt = (pa ii.toInt.toNat).toInt := by rw [e94]
                      refine lv_iload_n hx hb d_Mo_depth_95 rfl (lv_at hl 1 rfl) ?_
                      refine lv_icmp_ge hx hb d_Mo_depth_96 (tgt := 108) (by decide) (fun g96 => ?_) (fun g96 => ?_)
                      · have g96 := ic_le.mp g96
                        refine lv_iload_n hx hb d_Mo_depth_108 rfl (lv_at hl 1 rfl) ?_
                        refine lv_istore_n (lv' := [(2, .int lf), (3, .int ii), (0, .ref mo), (1, .int pl)]) hx hb d_Mo_depth_109 rfl hl (by decide) rfl (fun ls hl => ?_)
                        refine lv_aload_n hx hb d_Mo_depth_110 rfl (lv_at hl 2 rfl) ?_
                        refine va_get (D := D) (ci := 4) (v := .ref mb) (C := R_Mo) (T := F_Mo) (N := 16) hx hb hts in_Mo hown hK hP 0 rfl rfl 15 (by decide) (hts _ tw_618) (fun _ h9 => h9) rfl d_Mo_depth_111 ?_
                        refine lv_iload_n hx hb d_Mo_depth_114 rfl (lv_at hl 0 rfl) ?_
                        refine lv_iconst (v := 1) hx hb d_Mo_depth_115 (by decide) ?_
                        refine lv_topi (fun v115 e115 => ?_)
                        have t115 : v115.toInt = 1 := by rw [e115]; rfl
                        refine va_iast hx hb hK hP hD hS 11 1 rfl rfl (ia_in ⟨by omega, by omega⟩) d_Mo_depth_116 (fun H locs hP hD hS => ?_)
                        obtain ⟨f116, q116⟩ : ∃ z, z = upd fx lf.toInt.toNat v115 := ⟨_, rfl⟩
                        have hP : va_P D classes [(mo, .inr (4, [.int mso, .ref m1, .ref m2, .ref m3, .ref m4, .ref m5, .ref m6, .int mct, .ref m7, .int mfr, .int mcu, .int mth, .ref m8, .ref m9, .ref ma, .ref mb])), (m1, .inl (cL, 1503, .inr (.inl p1))), (m2, .inl (cL, 1503, .inr (.inl p2))), (m3, .inl (cI, 36072, .inl p3)), (m4, .inl (cI, 1503, .inl p4)), (m5, .inl (cL, 1500, .inr (.inl p5))), (m6, .inl (cI, 1500, .inl p6)), (m7, .inl (cI, 1500, .inl p7)), (m8, .inl (cI, 50, .inl p8)), (m9, .inl (cI, 50, .inl p9)), (ma, .inl (cI, 1500, .inl pa)), (mb, .inl (cI, 50, .inl (upd fx lf.toInt.toNat v115)))] H := hP
                        have hD : va_D A [(mo, .inr (4, [.int mso, .ref m1, .ref m2, .ref m3, .ref m4, .ref m5, .ref m6, .int mct, .ref m7, .int mfr, .int mcu, .int mth, .ref m8, .ref m9, .ref ma, .ref mb])), (m1, .inl (cL, 1503, .inr (.inl p1))), (m2, .inl (cL, 1503, .inr (.inl p2))), (m3, .inl (cI, 36072, .inl p3)), (m4, .inl (cI, 1503, .inl p4)), (m5, .inl (cL, 1500, .inr (.inl p5))), (m6, .inl (cI, 1500, .inl p6)), (m7, .inl (cI, 1500, .inl p7)), (m8, .inl (cI, 50, .inl p8)), (m9, .inl (cI, 50, .inl p9)), (ma, .inl (cI, 1500, .inl pa)), (mb, .inl (cI, 50, .inl (upd fx lf.toInt.toNat v115)))] := hD
                        rw [← q116] at hP hD
                        obtain ⟨v117, e117⟩ : ∃ z, z = ii + Int32.ofInt (-1) := ⟨_, rfl⟩
                        have t117 := ia_inc (-1) e117 (by decide) ⟨by omega, by omega⟩
                        refine lv_iinc (k := 1) (lv' := [(3, .int v117), (2, .int lf), (0, .ref mo), (1, .int pl)]) hx hb d_Mo_depth_117 hl rfl e117.symm (by decide) rfl (fun ls hl => ?_)
                        refine lv_goto hx hb d_Mo_depth_120 (tgt := 81) (by decide) ?_
                        have hmin : lf.toInt.toNat = if (fun k => (pa k).toInt.toNat) ii.toInt.toNat < lf.toInt.toNat then (fun k => (pa k).toInt.toNat) ii.toInt.toNat else lf.toInt.toNat := by
                              first
                              | (rw [if_pos (show (pa ii.toInt.toNat).toInt.toNat < lf.toInt.toNat by omega)]; show _ = (pa ii.toInt.toNat).toInt.toNat; omega)
                              | (rw [if_neg (show ¬ (pa ii.toInt.toNat).toInt.toNat < lf.toInt.toNat by omega)])
                        have hst := dl_step (c := (fun k => (pa k).toInt.toNat)) (M := 50) (q := pl.toInt.toNat) (a := ii.toInt.toNat) (s2 := lf.toInt.toNat) (by omega) (by rw [show ii.toInt.toNat + 1 = (ii.toInt + 1).toNat by omega]; exact k5) (show (pa ii.toInt.toNat).toInt.toNat < 50 by omega) hmin
                        exact ih81 v117 lf f116 H locs ls hl hP hD hS (by omega) (by omega) (by omega) (by rw [show (v117.toInt + 1).toNat = ii.toInt.toNat by omega]; exact hst.1) (fun v hv => by
                              rw [show (v117.toInt + 1).toNat = ii.toInt.toNat by omega, hst.2 v, show ii.toInt.toNat + 1 = (ii.toInt + 1).toNat by omega, q116]
                              unfold upd
                              by_cases h9 : v = lf.toInt.toNat
                              · rw [if_pos h9]; exact Or.inl ⟨t115, Or.inr (Or.inr h9)⟩
                              · rw [if_neg h9]
                                rcases k6 v hv with h10 | h10
                                · exact Or.inl ⟨h10.1, h10.2.elim Or.inl (fun h11 => Or.inr (Or.inl h11))⟩
                                · exact Or.inr ⟨h10.1, fun h11 => h11.elim (fun h12 => h10.2 (Or.inl h12)) (fun h12 => h12.elim (fun h13 => h10.2 (Or.inr h13)) h9)⟩) (by omega)
                      · have g96 := ic_nle.mp g96
                        refine lv_aload_n hx hb d_Mo_depth_99 rfl (lv_at hl 2 rfl) ?_
                        refine va_get (D := D) (ci := 4) (v := .ref ma) (C := R_Mo) (T := F_Mo) (N := 16) hx hb hts in_Mo hown hK hP 0 rfl rfl 14 (by decide) (hts _ tw_617) (fun _ h9 => h9) rfl d_Mo_depth_100 ?_
                        refine lv_iload_n hx hb d_Mo_depth_103 rfl (lv_at hl 0 rfl) ?_
                        refine va_iald hx hb hK hP 10 1 rfl rfl (ia_in ⟨by omega, by omega⟩) d_Mo_depth_104 ?_
                        refine lv_topi (fun v104 e104 => ?_)
                        have e104 : v104 = pa ii.toInt.toNat := e104
                        have t104 : v104.toInt = (pa ii.toInt.toNat).toInt := by rw [e104]
                        refine lv_goto hx hb d_Mo_depth_105 (tgt := 109) (by decide) ?_
                        refine lv_istore_n (lv' := [(2, .int v104), (3, .int ii), (0, .ref mo), (1, .int pl)]) hx hb d_Mo_depth_109 rfl hl (by decide) rfl (fun ls hl => ?_)
                        refine lv_aload_n hx hb d_Mo_depth_110 rfl (lv_at hl 2 rfl) ?_
                        refine va_get (D := D) (ci := 4) (v := .ref mb) (C := R_Mo) (T := F_Mo) (N := 16) hx hb hts in_Mo hown hK hP 0 rfl rfl 15 (by decide) (hts _ tw_618) (fun _ h9 => h9) rfl d_Mo_depth_111 ?_
                        refine lv_iload_n hx hb d_Mo_depth_114 rfl (lv_at hl 0 rfl) ?_
                        refine lv_iconst (v := 1) hx hb d_Mo_depth_115 (by decide) ?_
                        refine lv_topi (fun v115 e115 => ?_)
                        have t115 : v115.toInt = 1 := by rw [e115]; rfl
                        refine va_iast hx hb hK hP hD hS 11 1 rfl rfl (ia_in ⟨by omega, by omega⟩) d_Mo_depth_116 (fun H locs hP hD hS => ?_)
                        obtain ⟨f116, q116⟩ : ∃ z, z = upd fx v104.toInt.toNat v115 := ⟨_, rfl⟩
                        have hP : va_P D classes [(mo, .inr (4, [.int mso, .ref m1, .ref m2, .ref m3, .ref m4, .ref m5, .ref m6, .int mct, .ref m7, .int mfr, .int mcu, .int mth, .ref m8, .ref m9, .ref ma, .ref mb])), (m1, .inl (cL, 1503, .inr (.inl p1))), (m2, .inl (cL, 1503, .inr (.inl p2))), (m3, .inl (cI, 36072, .inl p3)), (m4, .inl (cI, 1503, .inl p4)), (m5, .inl (cL, 1500, .inr (.inl p5))), (m6, .inl (cI, 1500, .inl p6)), (m7, .inl (cI, 1500, .inl p7)), (m8, .inl (cI, 50, .inl p8)), (m9, .inl (cI, 50, .inl p9)), (ma, .inl (cI, 1500, .inl pa)), (mb, .inl (cI, 50, .inl (upd fx v104.toInt.toNat v115)))] H := hP
                        have hD : va_D A [(mo, .inr (4, [.int mso, .ref m1, .ref m2, .ref m3, .ref m4, .ref m5, .ref m6, .int mct, .ref m7, .int mfr, .int mcu, .int mth, .ref m8, .ref m9, .ref ma, .ref mb])), (m1, .inl (cL, 1503, .inr (.inl p1))), (m2, .inl (cL, 1503, .inr (.inl p2))), (m3, .inl (cI, 36072, .inl p3)), (m4, .inl (cI, 1503, .inl p4)), (m5, .inl (cL, 1500, .inr (.inl p5))), (m6, .inl (cI, 1500, .inl p6)), (m7, .inl (cI, 1500, .inl p7)), (m8, .inl (cI, 50, .inl p8)), (m9, .inl (cI, 50, .inl p9)), (ma, .inl (cI, 1500, .inl pa)), (mb, .inl (cI, 50, .inl (upd fx v104.toInt.toNat v115)))] := hD
                        rw [← q116] at hP hD
                        obtain ⟨v117, e117⟩ : ∃ z, z = ii + Int32.ofInt (-1) := ⟨_, rfl⟩
                        have t117 := ia_inc (-1) e117 (by decide) ⟨by omega, by omega⟩
                        refine lv_iinc (k := 1) (lv' := [(3, .int v117), (2, .int v104), (0, .ref mo), (1, .int pl)]) hx hb d_Mo_depth_117 hl rfl e117.symm (by decide) rfl (fun ls hl => ?_)
                        refine lv_goto hx hb d_Mo_depth_120 (tgt := 81) (by decide) ?_
                        have hmin : v104.toInt.toNat = if (fun k => (pa k).toInt.toNat) ii.toInt.toNat < lf.toInt.toNat then (fun k => (pa k).toInt.toNat) ii.toInt.toNat else lf.toInt.toNat := by
                              first
                              | (rw [if_pos (show (pa ii.toInt.toNat).toInt.toNat < lf.toInt.toNat by omega)]; show _ = (pa ii.toInt.toNat).toInt.toNat; omega)
                              | (rw [if_neg (show ¬ (pa ii.toInt.toNat).toInt.toNat < lf.toInt.toNat by omega)])
                        have hst := dl_step (c := (fun k => (pa k).toInt.toNat)) (M := 50) (q := pl.toInt.toNat) (a := ii.toInt.toNat) (s2 := v104.toInt.toNat) (by omega) (by rw [show ii.toInt.toNat + 1 = (ii.toInt + 1).toNat by omega]; exact k5) (show (pa ii.toInt.toNat).toInt.toNat < 50 by omega) hmin
                        exact ih81 v117 v104 f116 H locs ls hl hP hD hS (by omega) (by omega) (by omega) (by rw [show (v117.toInt + 1).toNat = ii.toInt.toNat by omega]; exact hst.1) (fun v hv => by
                              rw [show (v117.toInt + 1).toNat = ii.toInt.toNat by omega, hst.2 v, show ii.toInt.toNat + 1 = (ii.toInt + 1).toNat by omega, q116]
                              unfold upd
                              by_cases h9 : v = v104.toInt.toNat
                              · rw [if_pos h9]; exact Or.inl ⟨t115, Or.inr (Or.inr h9)⟩
                              · rw [if_neg h9]
                                rcases k6 v hv with h10 | h10
                                · exact Or.inl ⟨h10.1, h10.2.elim Or.inl (fun h11 => Or.inr (Or.inl h11))⟩
                                · exact Or.inr ⟨h10.1, fun h11 => h11.elim (fun h12 => h10.2 (Or.inl h12)) (fun h12 => h12.elim (fun h13 => h10.2 (Or.inr h13)) h9)⟩) (by omega)
              exact lp81 _ v79 v74 fy H locs ls hl hP hD hS (by omega) (by omega) (by omega) (by rw [show v74.toInt.toNat = 50 by omega, show (v79.toInt + 1).toNat = pl.toInt.toNat by omega]; exact dm_0 _ _ _) (fun v hv => by
                    rw [show (v79.toInt + 1).toNat = pl.toInt.toNat by omega]
                    rcases hdr v hv with h10 | h10
                    · exact Or.inl ⟨h10.1, Or.inl h10.2⟩
                    · exact Or.inr ⟨h10.1, fun h11 => h11.elim h10.2 (fun ⟨j, a1, a2, _⟩ => by omega)⟩) (Nat.lt_succ_self _)
            · have g33 := ic_nle.mp g33
              refine lv_iload_n hx hb d_Mo_depth_36 rfl (lv_at hl 1 rfl) ?_
              refine lv_if_le hx hb d_Mo_depth_37 (tgt := 74) (by decide) (fun g37 => ?_) (fun g37 => ?_)
              · have g37 := (iz_le).mp g37
                have hdr : ∀ v, v < 50 → ((fy v).toInt = 1 ∧ dr_in (fun k => (pa k).toInt.toNat) pl.toInt.toNat (n - 1) v) ∨ ((fy v).toInt = 0 ∧ ¬ dr_in (fun k => (pa k).toInt.toNat) pl.toInt.toNat (n - 1) v) := by
                      first
                      | (rw [show n - 1 = jj.toInt.toNat by omega]; exact h6)
                      | (intro v hv
                         rw [show le.toInt.toNat = 0 by omega] at h5
                         rw [dr_stop (by decide) h5 (by omega)]
                         exact h6 v hv)
                refine lv_bipush (v := 50) hx hb d_Mo_depth_74 (by decide) ?_
                refine lv_topi (fun v74 e74 => ?_)
                have t74 : v74.toInt = 50 := by rw [e74]; rfl
                refine lv_istore_n (lv' := [(2, .int v74), (3, .int jj), (0, .ref mo), (1, .int pl)]) hx hb d_Mo_depth_76 rfl hl (by decide) rfl (fun ls hl => ?_)
                refine lv_iload_n hx hb d_Mo_depth_77 rfl (lv_at hl 3 rfl) ?_
                refine lv_iconst (v := 1) hx hb d_Mo_depth_78 (by decide) ?_
                refine lv_topi (fun v78 e78 => ?_)
                have t78 : v78.toInt = 1 := by rw [e78]; rfl
                refine lv_isub hx hb d_Mo_depth_79 ?_
                refine lv_topi (fun v79 e79 => ?_)
                have t79 := ia_sub e79 ⟨by omega, by omega⟩
                refine lv_istore_n (lv' := [(3, .int v79), (2, .int v74), (0, .ref mo), (1, .int pl)]) hx hb d_Mo_depth_80 rfl hl (by decide) rfl (fun ls hl => ?_)
                have lp81 : ∀ (fuel81 : Nat) (ii : Int32) (lf : Int32) (fx : Nat → Int32) (H : Heap) (locs : List Loc) (ls : Array Slot), lv_has ls 5 [(3, .int ii), (2, .int lf), (0, .ref mo), (1, .int pl)] → va_P D classes [(mo, .inr (4, [.int mso, .ref m1, .ref m2, .ref m3, .ref m4, .ref m5, .ref m6, .int mct, .ref m7, .int mfr, .int mcu, .int mth, .ref m8, .ref m9, .ref ma, .ref mb])), (m1, .inl (cL, 1503, .inr (.inl p1))), (m2, .inl (cL, 1503, .inr (.inl p2))), (m3, .inl (cI, 36072, .inl p3)), (m4, .inl (cI, 1503, .inl p4)), (m5, .inl (cL, 1500, .inr (.inl p5))), (m6, .inl (cI, 1500, .inl p6)), (m7, .inl (cI, 1500, .inl p7)), (m8, .inl (cI, 50, .inl p8)), (m9, .inl (cI, 50, .inl p9)), (ma, .inl (cI, 1500, .inl pa)), (mb, .inl (cI, 50, .inl fx))] H → va_D A [(mo, .inr (4, [.int mso, .ref m1, .ref m2, .ref m3, .ref m4, .ref m5, .ref m6, .int mct, .ref m7, .int mfr, .int mcu, .int mth, .ref m8, .ref m9, .ref ma, .ref mb])), (m1, .inl (cL, 1503, .inr (.inl p1))), (m2, .inl (cL, 1503, .inr (.inl p2))), (m3, .inl (cI, 36072, .inl p3)), (m4, .inl (cI, 1503, .inl p4)), (m5, .inl (cL, 1500, .inr (.inl p5))), (m6, .inl (cI, 1500, .inl p6)), (m7, .inl (cI, 1500, .inl p7)), (m8, .inl (cI, 50, .inl p8)), (m9, .inl (cI, 50, .inl p9)), (ma, .inl (cI, 1500, .inl pa)), (mb, .inl (cI, 50, .inl fx))] → va_S A s.heap H locs → (-1 ≤ ii.toInt) → (ii.toInt < pl.toInt) → (0 ≤ lf.toInt ∧ lf.toInt ≤ 50) → (dm_ok (fun k => (pa k).toInt.toNat) 50 (ii.toInt + 1).toNat pl.toInt.toNat lf.toInt.toNat) → (∀ v, v < 50 → ((fx v).toInt = 1 ∧ (dr_in (fun k => (pa k).toInt.toNat) pl.toInt.toNat (n - 1) v ∨ dl_in (fun k => (pa k).toInt.toNat) pl.toInt.toNat (ii.toInt + 1).toNat v)) ∨ ((fx v).toInt = 0 ∧ ¬ (dr_in (fun k => (pa k).toInt.toNat) pl.toInt.toNat (n - 1) v ∨ dl_in (fun k => (pa k).toInt.toNat) pl.toInt.toNat (ii.toInt + 1).toNat v))) → (ii.toInt + 1).toNat < fuel81 → W p l e ({ frames := 1, cells := 0, slots := 0, locals := 40 } : Room) s m ([.ref mo, .int pl] : List Value).toArray below meth c H locs 0 0 Q (F0 m 81 ls []) := by
                  intro fuel81
                  induction fuel81 with
                  | zero => intro ii lf fx H locs ls hl hP hD hS k1 k2 k4 k5 k6 hm81; exact absurd hm81 (Nat.not_lt_zero _)
                  | succ fuel81 ih81 =>
                    intro ii lf fx H locs ls hl hP hD hS k1 k2 k4 k5 k6 hm81
                    refine lv_iload_n hx hb d_Mo_depth_81 rfl (lv_at hl 0 rfl) ?_
                    refine lv_if_lt hx hb d_Mo_depth_82 (tgt := 123) (by decide) (fun g82 => ?_) (fun g82 => ?_)
                    · have g82 := (iz_lt).mp g82
                      have hml : ∀ v, v < 50 → ((fx v).toInt = 1 ∧ cb_in (fun k => (pa k).toInt.toNat) (n - 1) pl.toInt.toNat v) ∨ ((fx v).toInt = 0 ∧ ¬ cb_in (fun k => (pa k).toInt.toNat) (n - 1) pl.toInt.toNat v) := by
                            intro v hv
                            rw [dl_all]
                            first
                            | (rw [show (0 : Nat) = (ii.toInt + 1).toNat by omega]; exact k6 v hv)
                            | (rw [show lf.toInt.toNat = 0 by omega] at k5
                               rw [dl_stop (by decide) k5]
                               exact k6 v hv)
                      refine lv_iconst (v := 0) hx hb d_Mo_depth_123 (by decide) ?_
                      refine lv_topi (fun v123 e123 => ?_)
                      have t123 : v123.toInt = 0 := by rw [e123]; rfl
                      refine lv_istore_n (lv' := [(3, .int v123), (2, .int lf), (0, .ref mo), (1, .int pl)]) hx hb d_Mo_depth_124 rfl hl (by decide) rfl (fun ls hl => ?_)
                      refine lv_iconst (v := 0) hx hb d_Mo_depth_125 (by decide) ?_
                      refine lv_topi (fun v125 e125 => ?_)
                      have t125 : v125.toInt = 0 := by rw [e125]; rfl
                      refine lv_istore (lv' := [(4, .int v125), (3, .int v123), (2, .int lf), (0, .ref mo), (1, .int pl)]) hx hb d_Mo_depth_126 hl (by decide) rfl (fun ls hl => ?_)
                      have lp128 : ∀ (fuel128 : Nat) (kc : Int32) (nn : Int32) (ls : Array Slot), lv_has ls 5 [(4, .int kc), (3, .int nn), (2, .int lf), (0, .ref mo), (1, .int pl)] → (0 ≤ kc.toInt) → (kc.toInt ≤ 50) → (0 ≤ nn.toInt ∧ nn.toInt ≤ kc.toInt) → (nn.toInt = (cb_num (fun v => decide (0 ≤ v) && cb_inb (fun k => (pa k).toInt.toNat) (n - 1) pl.toInt.toNat v) kc.toInt.toNat : Int)) → 50 - kc.toInt.toNat < fuel128 → W p l e ({ frames := 1, cells := 0, slots := 0, locals := 40 } : Room) s m ([.ref mo, .int pl] : List Value).toArray below meth c H locs 0 0 Q (F0 m 128 ls []) := by
                        intro fuel128
                        induction fuel128 with
                        | zero => intro kc nn ls hl l1 l2 l3 l4 hm128; exact absurd hm128 (Nat.not_lt_zero _)
                        | succ fuel128 ih128 =>
                          intro kc nn ls hl l1 l2 l3 l4 hm128
                          refine lv_iload hx hb d_Mo_depth_128 (lv_at hl 0 rfl) ?_
                          refine lv_bipush (v := 50) hx hb d_Mo_depth_130 (by decide) ?_
                          refine lv_topi (fun v130 e130 => ?_)
                          have t130 : v130.toInt = 50 := by rw [e130]; rfl
                          refine lv_icmp_ge hx hb d_Mo_depth_132 (tgt := 151) (by decide) (fun g132 => ?_) (fun g132 => ?_)
                          · have g132 := ic_le.mp g132
                            refine lv_iload_n hx hb d_Mo_depth_151 rfl (lv_at hl 1 rfl) ?_
                            have hpost : nn.toInt = (cb_N (fun k => (pa k).toInt.toNat) 64 (n - 1) pl.toInt.toNat 0 : Int) := by
                              rw [l4, show kc.toInt.toNat = 50 by omega]
                              unfold cb_N
                              rw [cb_num_cut (m := 50) 64 (by decide)]
                              intro v h9 h10
                              rw [decide_eq_true (Nat.zero_le _), Bool.true_and, Bool.eq_false_iff]
                              intro h11
                              rcases cb_inb_iff.mp h11 with ⟨j, a1, a2, a3, _⟩ | ⟨j, a2, a3, _⟩
                              · have := hpa j (by omega)
                                have a3 : (pa j).toInt.toNat = v := a3
                                omega
                              · have := hpa j (by omega)
                                have a3 : (pa j).toInt.toNat = v := a3
                                omega
                            have hP9 := hP.sub (ws' := [(mo, .inr (4, [.int mso, .ref m1, .ref m2, .ref m3, .ref m4, .ref m5, .ref m6, .int mct, .ref m7, .int mfr, .int mcu, .int mth, .ref m8, .ref m9, .ref ma, .ref mb])), (m1, .inl (cL, 1503, .inr (.inl p1))), (m2, .inl (cL, 1503, .inr (.inl p2))), (m3, .inl (cI, 36072, .inl p3)), (m4, .inl (cI, 1503, .inl p4)), (m5, .inl (cL, 1500, .inr (.inl p5))), (m6, .inl (cI, 1500, .inl p6)), (m7, .inl (cI, 1500, .inl p7)), (m8, .inl (cI, 50, .inl p8)), (m9, .inl (cI, 50, .inl p9)), (ma, .inl (cI, 1500, .inl pa)), (mb, .inl (cI, 50, .inl fx))]) [0, 1, 2, 3, 4, 5, 6, 7, 8, 9, 10, 11] rfl
                            have hD9 := hD.sub (ws' := [(mo, .inr (4, [.int mso, .ref m1, .ref m2, .ref m3, .ref m4, .ref m5, .ref m6, .int mct, .ref m7, .int mfr, .int mcu, .int mth, .ref m8, .ref m9, .ref ma, .ref mb])), (m1, .inl (cL, 1503, .inr (.inl p1))), (m2, .inl (cL, 1503, .inr (.inl p2))), (m3, .inl (cI, 36072, .inl p3)), (m4, .inl (cI, 1503, .inl p4)), (m5, .inl (cL, 1500, .inr (.inl p5))), (m6, .inl (cI, 1500, .inl p6)), (m7, .inl (cI, 1500, .inl p7)), (m8, .inl (cI, 50, .inl p8)), (m9, .inl (cI, 50, .inl p9)), (ma, .inl (cI, 1500, .inl pa)), (mb, .inl (cI, 50, .inl fx))]) [0, 1, 2, 3, 4, 5, 6, 7, 8, 9, 10, 11] (by decide) rfl
                            rw [hQ]
                            exact W.iret (v := nn) hx hb hr (fun t ht hW => ⟨⟨nn, (fx), rfl, hpost, by rw [ht]; exact hP9, va_K.moved hW.alike hK, hD9⟩, hS.F ht⟩) hS.2.2 d_Mo_depth_152
                          · have g132 := ic_nle.mp g132
                            refine lv_iload_n hx hb d_Mo_depth_135 rfl (lv_at hl 1 rfl) ?_
                            refine lv_aload_n hx hb d_Mo_depth_136 rfl (lv_at hl 3 rfl) ?_
                            refine va_get (D := D) (ci := 4) (v := .ref mb) (C := R_Mo) (T := F_Mo) (N := 16) hx hb hts in_Mo hown hK hP 0 rfl rfl 15 (by decide) (hts _ tw_618) (fun _ h9 => h9) rfl d_Mo_depth_137 ?_
                            refine lv_iload hx hb d_Mo_depth_140 (lv_at hl 0 rfl) ?_
                            refine va_iald hx hb hK hP 11 1 rfl rfl (ia_in ⟨by omega, by omega⟩) d_Mo_depth_142 ?_
                            refine lv_topi (fun v142 e142 => ?_)
                            have e142 : v142 = fx kc.toInt.toNat := e142
                            have h142 : 0 ≤ v142.toInt ∧ v142.toInt ≤ 1 := by
                                  rcases hml kc.toInt.toNat (by omega) with h10 | h10
                                  · rw [← e142] at h10; omega
                                  · rw [← e142] at h10; omega
                            refine lv_iadd hx hb d_Mo_depth_143 ?_
                            refine lv_topi (fun v143 e143 => ?_)
                            have t143 := ia_add e143 ⟨by omega, by omega⟩
                            refine lv_istore_n (lv' := [(3, .int v143), (4, .int kc), (2, .int lf), (0, .ref mo), (1, .int pl)]) hx hb d_Mo_depth_144 rfl hl (by decide) rfl (fun ls hl => ?_)
                            obtain ⟨v145, e145⟩ : ∃ z, z = kc + Int32.ofInt 1 := ⟨_, rfl⟩
                            have t145 := ia_inc 1 e145 (by decide) ⟨by omega, by omega⟩
                            refine lv_iinc (k := 1) (lv' := [(4, .int v145), (3, .int v143), (2, .int lf), (0, .ref mo), (1, .int pl)]) hx hb d_Mo_depth_145 hl rfl e145.symm (by decide) rfl (fun ls hl => ?_)
                            refine lv_goto hx hb d_Mo_depth_148 (tgt := 128) (by decide) ?_
                            exact ih128 v145 v143 ls hl (by omega) (by omega) (by have h9 := h142; omega) (by
                                  rw [show v145.toInt.toNat = kc.toInt.toNat + 1 by omega, cb_num, decide_eq_true (Nat.zero_le _), Bool.true_and]
                                  rcases hml kc.toInt.toNat (by omega) with h10 | h10
                                  · rw [if_pos (cb_inb_iff.mpr h10.2)]; rw [← e142] at h10; omega
                                  · rw [if_neg (fun h11 => h10.2 (cb_inb_iff.mp h11))]; rw [← e142] at h10; omega) (by omega)
                      exact lp128 _ v125 v123  ls hl (by omega) (by omega) (by omega) (by rw [show v125.toInt.toNat = 0 by omega]; exact t123) (Nat.lt_succ_self _)
                    · have g82 := (iz_nlt).mp g82
                      refine lv_iload_n hx hb d_Mo_depth_85 rfl (lv_at hl 1 rfl) ?_
                      refine lv_if_le hx hb d_Mo_depth_86 (tgt := 123) (by decide) (fun g86 => ?_) (fun g86 => ?_)
                      · have g86 := (iz_le).mp g86
                        have hml : ∀ v, v < 50 → ((fx v).toInt = 1 ∧ cb_in (fun k => (pa k).toInt.toNat) (n - 1) pl.toInt.toNat v) ∨ ((fx v).toInt = 0 ∧ ¬ cb_in (fun k => (pa k).toInt.toNat) (n - 1) pl.toInt.toNat v) := by
                              intro v hv
                              rw [dl_all]
                              first
                              | (rw [show (0 : Nat) = (ii.toInt + 1).toNat by omega]; exact k6 v hv)
                              | (rw [show lf.toInt.toNat = 0 by omega] at k5
                                 rw [dl_stop (by decide) k5]
                                 exact k6 v hv)
                        refine lv_iconst (v := 0) hx hb d_Mo_depth_123 (by decide) ?_
                        refine lv_topi (fun v123 e123 => ?_)
                        have t123 : v123.toInt = 0 := by rw [e123]; rfl
                        refine lv_istore_n (lv' := [(3, .int v123), (2, .int lf), (0, .ref mo), (1, .int pl)]) hx hb d_Mo_depth_124 rfl hl (by decide) rfl (fun ls hl => ?_)
                        refine lv_iconst (v := 0) hx hb d_Mo_depth_125 (by decide) ?_
                        refine lv_topi (fun v125 e125 => ?_)
                        have t125 : v125.toInt = 0 := by rw [e125]; rfl
                        refine lv_istore (lv' := [(4, .int v125), (3, .int v123), (2, .int lf), (0, .ref mo), (1, .int pl)]) hx hb d_Mo_depth_126 hl (by decide) rfl (fun ls hl => ?_)
                        have lp128 : ∀ (fuel128 : Nat) (kc : Int32) (nn : Int32) (ls : Array Slot), lv_has ls 5 [(4, .int kc), (3, .int nn), (2, .int lf), (0, .ref mo), (1, .int pl)] → (0 ≤ kc.toInt) → (kc.toInt ≤ 50) → (0 ≤ nn.toInt ∧ nn.toInt ≤ kc.toInt) → (nn.toInt = (cb_num (fun v => decide (0 ≤ v) && cb_inb (fun k => (pa k).toInt.toNat) (n - 1) pl.toInt.toNat v) kc.toInt.toNat : Int)) → 50 - kc.toInt.toNat < fuel128 → W p l e ({ frames := 1, cells := 0, slots := 0, locals := 40 } : Room) s m ([.ref mo, .int pl] : List Value).toArray below meth c H locs 0 0 Q (F0 m 128 ls []) := by
                          intro fuel128
                          induction fuel128 with
                          | zero => intro kc nn ls hl l1 l2 l3 l4 hm128; exact absurd hm128 (Nat.not_lt_zero _)
                          | succ fuel128 ih128 =>
                            intro kc nn ls hl l1 l2 l3 l4 hm128
                            refine lv_iload hx hb d_Mo_depth_128 (lv_at hl 0 rfl) ?_
                            refine lv_bipush (v := 50) hx hb d_Mo_depth_130 (by decide) ?_
                            refine lv_topi (fun v130 e130 => ?_)
                            have t130 : v130.toInt = 50 := by rw [e130]; rfl
                            refine lv_icmp_ge hx hb d_Mo_depth_132 (tgt := 151) (by decide) (fun g132 => ?_) (fun g132 => ?_)
                            · have g132 := ic_le.mp g132
                              refine lv_iload_n hx hb d_Mo_depth_151 rfl (lv_at hl 1 rfl) ?_
                              have hpost : nn.toInt = (cb_N (fun k => (pa k).toInt.toNat) 64 (n - 1) pl.toInt.toNat 0 : Int) := by
                                rw [l4, show kc.toInt.toNat = 50 by omega]
                                unfold cb_N
                                rw [cb_num_cut (m := 50) 64 (by decide)]
                                intro v h9 h10
                                rw [decide_eq_true (Nat.zero_le _), Bool.true_and, Bool.eq_false_iff]
                                intro h11
                                rcases cb_inb_iff.mp h11 with ⟨j, a1, a2, a3, _⟩ | ⟨j, a2, a3, _⟩
                                · have := hpa j (by omega)
                                  have a3 : (pa j).toInt.toNat = v := a3
                                  omega
                                · have := hpa j (by omega)
                                  have a3 : (pa j).toInt.toNat = v := a3
                                  omega
                              have hP9 := hP.sub (ws' := [(mo, .inr (4, [.int mso, .ref m1, .ref m2, .ref m3, .ref m4, .ref m5, .ref m6, .int mct, .ref m7, .int mfr, .int mcu, .int mth, .ref m8, .ref m9, .ref ma, .ref mb])), (m1, .inl (cL, 1503, .inr (.inl p1))), (m2, .inl (cL, 1503, .inr (.inl p2))), (m3, .inl (cI, 36072, .inl p3)), (m4, .inl (cI, 1503, .inl p4)), (m5, .inl (cL, 1500, .inr (.inl p5))), (m6, .inl (cI, 1500, .inl p6)), (m7, .inl (cI, 1500, .inl p7)), (m8, .inl (cI, 50, .inl p8)), (m9, .inl (cI, 50, .inl p9)), (ma, .inl (cI, 1500, .inl pa)), (mb, .inl (cI, 50, .inl fx))]) [0, 1, 2, 3, 4, 5, 6, 7, 8, 9, 10, 11] rfl
                              have hD9 := hD.sub (ws' := [(mo, .inr (4, [.int mso, .ref m1, .ref m2, .ref m3, .ref m4, .ref m5, .ref m6, .int mct, .ref m7, .int mfr, .int mcu, .int mth, .ref m8, .ref m9, .ref ma, .ref mb])), (m1, .inl (cL, 1503, .inr (.inl p1))), (m2, .inl (cL, 1503, .inr (.inl p2))), (m3, .inl (cI, 36072, .inl p3)), (m4, .inl (cI, 1503, .inl p4)), (m5, .inl (cL, 1500, .inr (.inl p5))), (m6, .inl (cI, 1500, .inl p6)), (m7, .inl (cI, 1500, .inl p7)), (m8, .inl (cI, 50, .inl p8)), (m9, .inl (cI, 50, .inl p9)), (ma, .inl (cI, 1500, .inl pa)), (mb, .inl (cI, 50, .inl fx))]) [0, 1, 2, 3, 4, 5, 6, 7, 8, 9, 10, 11] (by decide) rfl
                              rw [hQ]
                              exact W.iret (v := nn) hx hb hr (fun t ht hW => ⟨⟨nn, (fx), rfl, hpost, by rw [ht]; exact hP9, va_K.moved hW.alike hK, hD9⟩, hS.F ht⟩) hS.2.2 d_Mo_depth_152
                            · have g132 := ic_nle.mp g132
                              refine lv_iload_n hx hb d_Mo_depth_135 rfl (lv_at hl 1 rfl) ?_
                              refine lv_aload_n hx hb d_Mo_depth_136 rfl (lv_at hl 3 rfl) ?_
                              refine va_get (D := D) (ci := 4) (v := .ref mb) (C := R_Mo) (T := F_Mo) (N := 16) hx hb hts in_Mo hown hK hP 0 rfl rfl 15 (by decide) (hts _ tw_618) (fun _ h9 => h9) rfl d_Mo_depth_137 ?_
                              refine lv_iload hx hb d_Mo_depth_140 (lv_at hl 0 rfl) ?_
                              refine va_iald hx hb hK hP 11 1 rfl rfl (ia_in ⟨by omega, by omega⟩) d_Mo_depth_142 ?_
                              refine lv_topi (fun v142 e142 => ?_)
                              have e142 : v142 = fx kc.toInt.toNat := e142
                              have h142 : 0 ≤ v142.toInt ∧ v142.toInt ≤ 1 := by
                                    rcases hml kc.toInt.toNat (by omega) with h10 | h10
                                    · rw [← e142] at h10; omega
                                    · rw [← e142] at h10; omega
                              refine lv_iadd hx hb d_Mo_depth_143 ?_
                              refine lv_topi (fun v143 e143 => ?_)
                              have t143 := ia_add e143 ⟨by omega, by omega⟩
                              refine lv_istore_n (lv' := [(3, .int v143), (4, .int kc), (2, .int lf), (0, .ref mo), (1, .int pl)]) hx hb d_Mo_depth_144 rfl hl (by decide) rfl (fun ls hl => ?_)
                              obtain ⟨v145, e145⟩ : ∃ z, z = kc + Int32.ofInt 1 := ⟨_, rfl⟩
                              have t145 := ia_inc 1 e145 (by decide) ⟨by omega, by omega⟩
                              refine lv_iinc (k := 1) (lv' := [(4, .int v145), (3, .int v143), (2, .int lf), (0, .ref mo), (1, .int pl)]) hx hb d_Mo_depth_145 hl rfl e145.symm (by decide) rfl (fun ls hl => ?_)
                              refine lv_goto hx hb d_Mo_depth_148 (tgt := 128) (by decide) ?_
                              exact ih128 v145 v143 ls hl (by omega) (by omega) (by have h9 := h142; omega) (by
                                    rw [show v145.toInt.toNat = kc.toInt.toNat + 1 by omega, cb_num, decide_eq_true (Nat.zero_le _), Bool.true_and]
                                    rcases hml kc.toInt.toNat (by omega) with h10 | h10
                                    · rw [if_pos (cb_inb_iff.mpr h10.2)]; rw [← e142] at h10; omega
                                    · rw [if_neg (fun h11 => h10.2 (cb_inb_iff.mp h11))]; rw [← e142] at h10; omega) (by omega)
                        exact lp128 _ v125 v123  ls hl (by omega) (by omega) (by omega) (by rw [show v125.toInt.toNat = 0 by omega]; exact t123) (Nat.lt_succ_self _)
                      · have g86 := (iz_nle).mp g86
                        have pj := hpa ii.toInt.toNat (by omega)
                        refine lv_aload_n hx hb d_Mo_depth_89 rfl (lv_at hl 2 rfl) ?_
                        refine va_get (D := D) (ci := 4) (v := .ref ma) (C := R_Mo) (T := F_Mo) (N := 16) hx hb hts in_Mo hown hK hP 0 rfl rfl 14 (by decide) (hts _ tw_617) (fun _ h9 => h9) rfl d_Mo_depth_90 ?_
                        refine lv_iload_n hx hb d_Mo_depth_93 rfl (lv_at hl 0 rfl) ?_
                        refine va_iald hx hb hK hP 10 1 rfl rfl (ia_in ⟨by omega, by omega⟩) d_Mo_depth_94 ?_
                        refine lv_topi (fun v94 e94 => ?_)
                        have e94 : v94 = pa ii.toInt.toNat := e94
                        have t94 : v94.toInt = (pa ii.toInt.toNat).toInt := by rw [e94]
                        refine lv_iload_n hx hb d_Mo_depth_95 rfl (lv_at hl 1 rfl) ?_
                        refine lv_icmp_ge hx hb d_Mo_depth_96 (tgt := 108) (by decide) (fun g96 => ?_) (fun g96 => ?_)
                        · have g96 := ic_le.mp g96
                          refine lv_iload_n hx hb d_Mo_depth_108 rfl (lv_at hl 1 rfl) ?_
                          refine lv_istore_n (lv' := [(2, .int lf), (3, .int ii), (0, .ref mo), (1, .int pl)]) hx hb d_Mo_depth_109 rfl hl (by decide) rfl (fun ls hl => ?_)
                          refine lv_aload_n hx hb d_Mo_depth_110 rfl (lv_at hl 2 rfl) ?_
                          refine va_get (D := D) (ci := 4) (v := .ref mb) (C := R_Mo) (T := F_Mo) (N := 16) hx hb hts in_Mo hown hK hP 0 rfl rfl 15 (by decide) (hts _ tw_618) (fun _ h9 => h9) rfl d_Mo_depth_111 ?_
                          refine lv_iload_n hx hb d_Mo_depth_114 rfl (lv_at hl 0 rfl) ?_
                          refine lv_iconst (v := 1) hx hb d_Mo_depth_115 (by decide) ?_
                          refine lv_topi (fun v115 e115 => ?_)
                          have t115 : v115.toInt = 1 := by rw [e115]; rfl
                          refine va_iast hx hb hK hP hD hS 11 1 rfl rfl (ia_in ⟨by omega, by omega⟩) d_Mo_depth_116 (fun H locs hP hD hS => ?_)
                          obtain ⟨f116, q116⟩ : ∃ z, z = upd fx lf.toInt.toNat v115 := ⟨_, rfl⟩
                          have hP : va_P D classes [(mo, .inr (4, [.int mso, .ref m1, .ref m2, .ref m3, .ref m4, .ref m5, .ref m6, .int mct, .ref m7, .int mfr, .int mcu, .int mth, .ref m8, .ref m9, .ref ma, .ref mb])), (m1, .inl (cL, 1503, .inr (.inl p1))), (m2, .inl (cL, 1503, .inr (.inl p2))), (m3, .inl (cI, 36072, .inl p3)), (m4, .inl (cI, 1503, .inl p4)), (m5, .inl (cL, 1500, .inr (.inl p5))), (m6, .inl (cI, 1500, .inl p6)), (m7, .inl (cI, 1500, .inl p7)), (m8, .inl (cI, 50, .inl p8)), (m9, .inl (cI, 50, .inl p9)), (ma, .inl (cI, 1500, .inl pa)), (mb, .inl (cI, 50, .inl (upd fx lf.toInt.toNat v115)))] H := hP
                          have hD : va_D A [(mo, .inr (4, [.int mso, .ref m1, .ref m2, .ref m3, .ref m4, .ref m5, .ref m6, .int mct, .ref m7, .int mfr, .int mcu, .int mth, .ref m8, .ref m9, .ref ma, .ref mb])), (m1, .inl (cL, 1503, .inr (.inl p1))), (m2, .inl (cL, 1503, .inr (.inl p2))), (m3, .inl (cI, 36072, .inl p3)), (m4, .inl (cI, 1503, .inl p4)), (m5, .inl (cL, 1500, .inr (.inl p5))), (m6, .inl (cI, 1500, .inl p6)), (m7, .inl (cI, 1500, .inl p7)), (m8, .inl (cI, 50, .inl p8)), (m9, .inl (cI, 50, .inl p9)), (ma, .inl (cI, 1500, .inl pa)), (mb, .inl (cI, 50, .inl (upd fx lf.toInt.toNat v115)))] := hD
                          rw [← q116] at hP hD
                          obtain ⟨v117, e117⟩ : ∃ z, z = ii + Int32.ofInt (-1) := ⟨_, rfl⟩
                          have t117 := ia_inc (-1) e117 (by decide) ⟨by omega, by omega⟩
                          refine lv_iinc (k := 1) (lv' := [(3, .int v117), (2, .int lf), (0, .ref mo), (1, .int pl)]) hx hb d_Mo_depth_117 hl rfl e117.symm (by decide) rfl (fun ls hl => ?_)
                          refine lv_goto hx hb d_Mo_depth_120 (tgt := 81) (by decide) ?_
                          have hmin : lf.toInt.toNat = if (fun k => (pa k).toInt.toNat) ii.toInt.toNat < lf.toInt.toNat then (fun k => (pa k).toInt.toNat) ii.toInt.toNat else lf.toInt.toNat := by
                                first
                                | (rw [if_pos (show (pa ii.toInt.toNat).toInt.toNat < lf.toInt.toNat by omega)]; show _ = (pa ii.toInt.toNat).toInt.toNat; omega)
                                | (rw [if_neg (show ¬ (pa ii.toInt.toNat).toInt.toNat < lf.toInt.toNat by omega)])
                          have hst := dl_step (c := (fun k => (pa k).toInt.toNat)) (M := 50) (q := pl.toInt.toNat) (a := ii.toInt.toNat) (s2 := lf.toInt.toNat) (by omega) (by rw [show ii.toInt.toNat + 1 = (ii.toInt + 1).toNat by omega]; exact k5) (show (pa ii.toInt.toNat).toInt.toNat < 50 by omega) hmin
                          exact ih81 v117 lf f116 H locs ls hl hP hD hS (by omega) (by omega) (by omega) (by rw [show (v117.toInt + 1).toNat = ii.toInt.toNat by omega]; exact hst.1) (fun v hv => by
                                rw [show (v117.toInt + 1).toNat = ii.toInt.toNat by omega, hst.2 v, show ii.toInt.toNat + 1 = (ii.toInt + 1).toNat by omega, q116]
                                unfold upd
                                by_cases h9 : v = lf.toInt.toNat
                                · rw [if_pos h9]; exact Or.inl ⟨t115, Or.inr (Or.inr h9)⟩
                                · rw [if_neg h9]
                                  rcases k6 v hv with h10 | h10
                                  · exact Or.inl ⟨h10.1, h10.2.elim Or.inl (fun h11 => Or.inr (Or.inl h11))⟩
                                  · exact Or.inr ⟨h10.1, fun h11 => h11.elim (fun h12 => h10.2 (Or.inl h12)) (fun h12 => h12.elim (fun h13 => h10.2 (Or.inr h13)) h9)⟩) (by omega)
                        · have g96 := ic_nle.mp g96
                          refine lv_aload_n hx hb d_Mo_depth_99 rfl (lv_at hl 2 rfl) ?_
                          refine va_get (D := D) (ci := 4) (v := .ref ma) (C := R_Mo) (T := F_Mo) (N := 16) hx hb hts in_Mo hown hK hP 0 rfl rfl 14 (by decide) (hts _ tw_617) (fun _ h9 => h9) rfl d_Mo_depth_100 ?_
                          refine lv_iload_n hx hb d_Mo_depth_103 rfl (lv_at hl 0 rfl) ?_
                          refine va_iald hx hb hK hP 10 1 rfl rfl (ia_in ⟨by omega, by omega⟩) d_Mo_depth_104 ?_
                          refine lv_topi (fun v104 e104 => ?_)
                          have e104 : v104 = pa ii.toInt.toNat := e104
                          have t104 : v104.toInt = (pa ii.toInt.toNat).toInt := by rw [e104]
                          refine lv_goto hx hb d_Mo_depth_105 (tgt := 109) (by decide) ?_
                          refine lv_istore_n (lv' := [(2, .int v104), (3, .int ii), (0, .ref mo), (1, .int pl)]) hx hb d_Mo_depth_109 rfl hl (by decide) rfl (fun ls hl => ?_)
                          refine lv_aload_n hx hb d_Mo_depth_110 rfl (lv_at hl 2 rfl) ?_
                          refine va_get (D := D) (ci := 4) (v := .ref mb) (C := R_Mo) (T := F_Mo) (N := 16) hx hb hts in_Mo hown hK hP 0 rfl rfl 15 (by decide) (hts _ tw_618) (fun _ h9 => h9) rfl d_Mo_depth_111 ?_
                          refine lv_iload_n hx hb d_Mo_depth_114 rfl (lv_at hl 0 rfl) ?_
                          refine lv_iconst (v := 1) hx hb d_Mo_depth_115 (by decide) ?_
                          refine lv_topi (fun v115 e115 => ?_)
                          have t115 : v115.toInt = 1 := by rw [e115]; rfl
                          refine va_iast hx hb hK hP hD hS 11 1 rfl rfl (ia_in ⟨by omega, by omega⟩) d_Mo_depth_116 (fun H locs hP hD hS => ?_)
                          obtain ⟨f116, q116⟩ : ∃ z, z = upd fx v104.toInt.toNat v115 := ⟨_, rfl⟩
                          have hP : va_P D classes [(mo, .inr (4, [.int mso, .ref m1, .ref m2, .ref m3, .ref m4, .ref m5, .ref m6, .int mct, .ref m7, .int mfr, .int mcu, .int mth, .ref m8, .ref m9, .ref ma, .ref mb])), (m1, .inl (cL, 1503, .inr (.inl p1))), (m2, .inl (cL, 1503, .inr (.inl p2))), (m3, .inl (cI, 36072, .inl p3)), (m4, .inl (cI, 1503, .inl p4)), (m5, .inl (cL, 1500, .inr (.inl p5))), (m6, .inl (cI, 1500, .inl p6)), (m7, .inl (cI, 1500, .inl p7)), (m8, .inl (cI, 50, .inl p8)), (m9, .inl (cI, 50, .inl p9)), (ma, .inl (cI, 1500, .inl pa)), (mb, .inl (cI, 50, .inl (upd fx v104.toInt.toNat v115)))] H := hP
                          have hD : va_D A [(mo, .inr (4, [.int mso, .ref m1, .ref m2, .ref m3, .ref m4, .ref m5, .ref m6, .int mct, .ref m7, .int mfr, .int mcu, .int mth, .ref m8, .ref m9, .ref ma, .ref mb])), (m1, .inl (cL, 1503, .inr (.inl p1))), (m2, .inl (cL, 1503, .inr (.inl p2))), (m3, .inl (cI, 36072, .inl p3)), (m4, .inl (cI, 1503, .inl p4)), (m5, .inl (cL, 1500, .inr (.inl p5))), (m6, .inl (cI, 1500, .inl p6)), (m7, .inl (cI, 1500, .inl p7)), (m8, .inl (cI, 50, .inl p8)), (m9, .inl (cI, 50, .inl p9)), (ma, .inl (cI, 1500, .inl pa)), (mb, .inl (cI, 50, .inl (upd fx v104.toInt.toNat v115)))] := hD
                          rw [← q116] at hP hD
                          obtain ⟨v117, e117⟩ : ∃ z, z = ii + Int32.ofInt (-1) := ⟨_, rfl⟩
                          have t117 := ia_inc (-1) e117 (by decide) ⟨by omega, by omega⟩
                          refine lv_iinc (k := 1) (lv' := [(3, .int v117), (2, .int v104), (0, .ref mo), (1, .int pl)]) hx hb d_Mo_depth_117 hl rfl e117.symm (by decide) rfl (fun ls hl => ?_)
                          refine lv_goto hx hb d_Mo_depth_120 (tgt := 81) (by decide) ?_
                          have hmin : v104.toInt.toNat = if (fun k => (pa k).toInt.toNat) ii.toInt.toNat < lf.toInt.toNat then (fun k => (pa k).toInt.toNat) ii.toInt.toNat else lf.toInt.toNat := by
                                first
                                | (rw [if_pos (show (pa ii.toInt.toNat).toInt.toNat < lf.toInt.toNat by omega)]; show _ = (pa ii.toInt.toNat).toInt.toNat; omega)
                                | (rw [if_neg (show ¬ (pa ii.toInt.toNat).toInt.toNat < lf.toInt.toNat by omega)])
                          have hst := dl_step (c := (fun k => (pa k).toInt.toNat)) (M := 50) (q := pl.toInt.toNat) (a := ii.toInt.toNat) (s2 := v104.toInt.toNat) (by omega) (by rw [show ii.toInt.toNat + 1 = (ii.toInt + 1).toNat by omega]; exact k5) (show (pa ii.toInt.toNat).toInt.toNat < 50 by omega) hmin
                          exact ih81 v117 v104 f116 H locs ls hl hP hD hS (by omega) (by omega) (by omega) (by rw [show (v117.toInt + 1).toNat = ii.toInt.toNat by omega]; exact hst.1) (fun v hv => by
                                rw [show (v117.toInt + 1).toNat = ii.toInt.toNat by omega, hst.2 v, show ii.toInt.toNat + 1 = (ii.toInt + 1).toNat by omega, q116]
                                unfold upd
                                by_cases h9 : v = v104.toInt.toNat
                                · rw [if_pos h9]; exact Or.inl ⟨t115, Or.inr (Or.inr h9)⟩
                                · rw [if_neg h9]
                                  rcases k6 v hv with h10 | h10
                                  · exact Or.inl ⟨h10.1, h10.2.elim Or.inl (fun h11 => Or.inr (Or.inl h11))⟩
                                  · exact Or.inr ⟨h10.1, fun h11 => h11.elim (fun h12 => h10.2 (Or.inl h12)) (fun h12 => h12.elim (fun h13 => h10.2 (Or.inr h13)) h9)⟩) (by omega)
                exact lp81 _ v79 v74 fy H locs ls hl hP hD hS (by omega) (by omega) (by omega) (by rw [show v74.toInt.toNat = 50 by omega, show (v79.toInt + 1).toNat = pl.toInt.toNat by omega]; exact dm_0 _ _ _) (fun v hv => by
                      rw [show (v79.toInt + 1).toNat = pl.toInt.toNat by omega]
                      rcases hdr v hv with h10 | h10
                      · exact Or.inl ⟨h10.1, Or.inl h10.2⟩
                      · exact Or.inr ⟨h10.1, fun h11 => h11.elim h10.2 (fun ⟨j, a1, a2, _⟩ => by omega)⟩) (Nat.lt_succ_self _)
              · have g37 := (iz_nle).mp g37
                have pj := hpa jj.toInt.toNat (by omega)
                refine lv_aload_n hx hb d_Mo_depth_40 rfl (lv_at hl 2 rfl) ?_
                refine va_get (D := D) (ci := 4) (v := .ref ma) (C := R_Mo) (T := F_Mo) (N := 16) hx hb hts in_Mo hown hK hP 0 rfl rfl 14 (by decide) (hts _ tw_617) (fun _ h9 => h9) rfl d_Mo_depth_41 ?_
                refine lv_iload_n hx hb d_Mo_depth_44 rfl (lv_at hl 0 rfl) ?_
                refine va_iald hx hb hK hP 10 1 rfl rfl (ia_in ⟨by omega, by omega⟩) d_Mo_depth_45 ?_
                refine lv_topi (fun v45 e45 => ?_)
                have e45 : v45 = pa jj.toInt.toNat := e45
                have t45 : v45.toInt = (pa jj.toInt.toNat).toInt := by rw [e45]
                refine lv_iload_n hx hb d_Mo_depth_46 rfl (lv_at hl 1 rfl) ?_
                refine lv_icmp_ge hx hb d_Mo_depth_47 (tgt := 59) (by decide) (fun g47 => ?_) (fun g47 => ?_)
                · have g47 := ic_le.mp g47
                  refine lv_iload_n hx hb d_Mo_depth_59 rfl (lv_at hl 1 rfl) ?_
                  refine lv_istore_n (lv' := [(2, .int le), (3, .int jj), (0, .ref mo), (1, .int pl)]) hx hb d_Mo_depth_60 rfl hl (by decide) rfl (fun ls hl => ?_)
                  refine lv_aload_n hx hb d_Mo_depth_61 rfl (lv_at hl 2 rfl) ?_
                  refine va_get (D := D) (ci := 4) (v := .ref mb) (C := R_Mo) (T := F_Mo) (N := 16) hx hb hts in_Mo hown hK hP 0 rfl rfl 15 (by decide) (hts _ tw_618) (fun _ h9 => h9) rfl d_Mo_depth_62 ?_
                  refine lv_iload_n hx hb d_Mo_depth_65 rfl (lv_at hl 0 rfl) ?_
                  refine lv_iconst (v := 1) hx hb d_Mo_depth_66 (by decide) ?_
                  refine lv_topi (fun v66 e66 => ?_)
                  have t66 : v66.toInt = 1 := by rw [e66]; rfl
                  refine va_iast hx hb hK hP hD hS 11 1 rfl rfl (ia_in ⟨by omega, by omega⟩) d_Mo_depth_67 (fun H locs hP hD hS => ?_)
                  obtain ⟨f67, q67⟩ : ∃ z, z = upd fy le.toInt.toNat v66 := ⟨_, rfl⟩
                  have hP : va_P D classes [(mo, .inr (4, [.int mso, .ref m1, .ref m2, .ref m3, .ref m4, .ref m5, .ref m6, .int mct, .ref m7, .int mfr, .int mcu, .int mth, .ref m8, .ref m9, .ref ma, .ref mb])), (m1, .inl (cL, 1503, .inr (.inl p1))), (m2, .inl (cL, 1503, .inr (.inl p2))), (m3, .inl (cI, 36072, .inl p3)), (m4, .inl (cI, 1503, .inl p4)), (m5, .inl (cL, 1500, .inr (.inl p5))), (m6, .inl (cI, 1500, .inl p6)), (m7, .inl (cI, 1500, .inl p7)), (m8, .inl (cI, 50, .inl p8)), (m9, .inl (cI, 50, .inl p9)), (ma, .inl (cI, 1500, .inl pa)), (mb, .inl (cI, 50, .inl (upd fy le.toInt.toNat v66)))] H := hP
                  have hD : va_D A [(mo, .inr (4, [.int mso, .ref m1, .ref m2, .ref m3, .ref m4, .ref m5, .ref m6, .int mct, .ref m7, .int mfr, .int mcu, .int mth, .ref m8, .ref m9, .ref ma, .ref mb])), (m1, .inl (cL, 1503, .inr (.inl p1))), (m2, .inl (cL, 1503, .inr (.inl p2))), (m3, .inl (cI, 36072, .inl p3)), (m4, .inl (cI, 1503, .inl p4)), (m5, .inl (cL, 1500, .inr (.inl p5))), (m6, .inl (cI, 1500, .inl p6)), (m7, .inl (cI, 1500, .inl p7)), (m8, .inl (cI, 50, .inl p8)), (m9, .inl (cI, 50, .inl p9)), (ma, .inl (cI, 1500, .inl pa)), (mb, .inl (cI, 50, .inl (upd fy le.toInt.toNat v66)))] := hD
                  rw [← q67] at hP hD
                  obtain ⟨v68, e68⟩ : ∃ z, z = jj + Int32.ofInt 1 := ⟨_, rfl⟩
                  have t68 := ia_inc 1 e68 (by decide) ⟨by omega, by omega⟩
                  refine lv_iinc (k := 1) (lv' := [(3, .int v68), (2, .int le), (0, .ref mo), (1, .int pl)]) hx hb d_Mo_depth_68 hl rfl e68.symm (by decide) rfl (fun ls hl => ?_)
                  refine lv_goto hx hb d_Mo_depth_71 (tgt := 26) (by decide) ?_
                  have hmin : le.toInt.toNat = if (fun k => (pa k).toInt.toNat) jj.toInt.toNat < le.toInt.toNat then (fun k => (pa k).toInt.toNat) jj.toInt.toNat else le.toInt.toNat := by
                        first
                        | (rw [if_pos (show (pa jj.toInt.toNat).toInt.toNat < le.toInt.toNat by omega)]; show _ = (pa jj.toInt.toNat).toInt.toNat; omega)
                        | (rw [if_neg (show ¬ (pa jj.toInt.toNat).toInt.toNat < le.toInt.toNat by omega)])
                  have hst := dr_step (c := (fun k => (pa k).toInt.toNat)) (M := 50) (q := pl.toInt.toNat) (b := jj.toInt.toNat) (s2 := le.toInt.toNat) (by omega) h5 (show (pa jj.toInt.toNat).toInt.toNat < 50 by omega) hmin
                  exact ih26 v68 le f67 H locs ls hl hP hD hS (by omega) (by omega) (by omega) (by rw [show v68.toInt.toNat = jj.toInt.toNat + 1 by omega]; exact hst.1) (fun v hv => by
                        rw [show v68.toInt.toNat = jj.toInt.toNat + 1 by omega, hst.2 v, q67]
                        unfold upd
                        by_cases h9 : v = le.toInt.toNat
                        · rw [if_pos h9]; exact Or.inl ⟨t66, Or.inr h9⟩
                        · rw [if_neg h9]
                          rcases h6 v hv with h10 | h10
                          · exact Or.inl ⟨h10.1, Or.inl h10.2⟩
                          · exact Or.inr ⟨h10.1, fun h11 => h11.elim h10.2 h9⟩) (by omega)
                · have g47 := ic_nle.mp g47
                  refine lv_aload_n hx hb d_Mo_depth_50 rfl (lv_at hl 2 rfl) ?_
                  refine va_get (D := D) (ci := 4) (v := .ref ma) (C := R_Mo) (T := F_Mo) (N := 16) hx hb hts in_Mo hown hK hP 0 rfl rfl 14 (by decide) (hts _ tw_617) (fun _ h9 => h9) rfl d_Mo_depth_51 ?_
                  refine lv_iload_n hx hb d_Mo_depth_54 rfl (lv_at hl 0 rfl) ?_
                  refine va_iald hx hb hK hP 10 1 rfl rfl (ia_in ⟨by omega, by omega⟩) d_Mo_depth_55 ?_
                  refine lv_topi (fun v55 e55 => ?_)
                  have e55 : v55 = pa jj.toInt.toNat := e55
                  have t55 : v55.toInt = (pa jj.toInt.toNat).toInt := by rw [e55]
                  refine lv_goto hx hb d_Mo_depth_56 (tgt := 60) (by decide) ?_
                  refine lv_istore_n (lv' := [(2, .int v55), (3, .int jj), (0, .ref mo), (1, .int pl)]) hx hb d_Mo_depth_60 rfl hl (by decide) rfl (fun ls hl => ?_)
                  refine lv_aload_n hx hb d_Mo_depth_61 rfl (lv_at hl 2 rfl) ?_
                  refine va_get (D := D) (ci := 4) (v := .ref mb) (C := R_Mo) (T := F_Mo) (N := 16) hx hb hts in_Mo hown hK hP 0 rfl rfl 15 (by decide) (hts _ tw_618) (fun _ h9 => h9) rfl d_Mo_depth_62 ?_
                  refine lv_iload_n hx hb d_Mo_depth_65 rfl (lv_at hl 0 rfl) ?_
                  refine lv_iconst (v := 1) hx hb d_Mo_depth_66 (by decide) ?_
                  refine lv_topi (fun v66 e66 => ?_)
                  have t66 : v66.toInt = 1 := by rw [e66]; rfl
                  refine va_iast hx hb hK hP hD hS 11 1 rfl rfl (ia_in ⟨by omega, by omega⟩) d_Mo_depth_67 (fun H locs hP hD hS => ?_)
                  obtain ⟨f67, q67⟩ : ∃ z, z = upd fy v55.toInt.toNat v66 := ⟨_, rfl⟩
                  have hP : va_P D classes [(mo, .inr (4, [.int mso, .ref m1, .ref m2, .ref m3, .ref m4, .ref m5, .ref m6, .int mct, .ref m7, .int mfr, .int mcu, .int mth, .ref m8, .ref m9, .ref ma, .ref mb])), (m1, .inl (cL, 1503, .inr (.inl p1))), (m2, .inl (cL, 1503, .inr (.inl p2))), (m3, .inl (cI, 36072, .inl p3)), (m4, .inl (cI, 1503, .inl p4)), (m5, .inl (cL, 1500, .inr (.inl p5))), (m6, .inl (cI, 1500, .inl p6)), (m7, .inl (cI, 1500, .inl p7)), (m8, .inl (cI, 50, .inl p8)), (m9, .inl (cI, 50, .inl p9)), (ma, .inl (cI, 1500, .inl pa)), (mb, .inl (cI, 50, .inl (upd fy v55.toInt.toNat v66)))] H := hP
                  have hD : va_D A [(mo, .inr (4, [.int mso, .ref m1, .ref m2, .ref m3, .ref m4, .ref m5, .ref m6, .int mct, .ref m7, .int mfr, .int mcu, .int mth, .ref m8, .ref m9, .ref ma, .ref mb])), (m1, .inl (cL, 1503, .inr (.inl p1))), (m2, .inl (cL, 1503, .inr (.inl p2))), (m3, .inl (cI, 36072, .inl p3)), (m4, .inl (cI, 1503, .inl p4)), (m5, .inl (cL, 1500, .inr (.inl p5))), (m6, .inl (cI, 1500, .inl p6)), (m7, .inl (cI, 1500, .inl p7)), (m8, .inl (cI, 50, .inl p8)), (m9, .inl (cI, 50, .inl p9)), (ma, .inl (cI, 1500, .inl pa)), (mb, .inl (cI, 50, .inl (upd fy v55.toInt.toNat v66)))] := hD
                  rw [← q67] at hP hD
                  obtain ⟨v68, e68⟩ : ∃ z, z = jj + Int32.ofInt 1 := ⟨_, rfl⟩
                  have t68 := ia_inc 1 e68 (by decide) ⟨by omega, by omega⟩
                  refine lv_iinc (k := 1) (lv' := [(3, .int v68), (2, .int v55), (0, .ref mo), (1, .int pl)]) hx hb d_Mo_depth_68 hl rfl e68.symm (by decide) rfl (fun ls hl => ?_)
                  refine lv_goto hx hb d_Mo_depth_71 (tgt := 26) (by decide) ?_
                  have hmin : v55.toInt.toNat = if (fun k => (pa k).toInt.toNat) jj.toInt.toNat < le.toInt.toNat then (fun k => (pa k).toInt.toNat) jj.toInt.toNat else le.toInt.toNat := by
                        first
                        | (rw [if_pos (show (pa jj.toInt.toNat).toInt.toNat < le.toInt.toNat by omega)]; show _ = (pa jj.toInt.toNat).toInt.toNat; omega)
                        | (rw [if_neg (show ¬ (pa jj.toInt.toNat).toInt.toNat < le.toInt.toNat by omega)])
                  have hst := dr_step (c := (fun k => (pa k).toInt.toNat)) (M := 50) (q := pl.toInt.toNat) (b := jj.toInt.toNat) (s2 := v55.toInt.toNat) (by omega) h5 (show (pa jj.toInt.toNat).toInt.toNat < 50 by omega) hmin
                  exact ih26 v68 v55 f67 H locs ls hl hP hD hS (by omega) (by omega) (by omega) (by rw [show v68.toInt.toNat = jj.toInt.toNat + 1 by omega]; exact hst.1) (fun v hv => by
                        rw [show v68.toInt.toNat = jj.toInt.toNat + 1 by omega, hst.2 v, q67]
                        unfold upd
                        by_cases h9 : v = v55.toInt.toNat
                        · rw [if_pos h9]; exact Or.inl ⟨t66, Or.inr h9⟩
                        · rw [if_neg h9]
                          rcases h6 v hv with h10 | h10
                          · exact Or.inl ⟨h10.1, Or.inl h10.2⟩
                          · exact Or.inr ⟨h10.1, fun h11 => h11.elim h10.2 h9⟩) (by omega)
        exact lp26 _ pl v21 fz H locs ls hl hP hD hS (by omega) (by omega) (by omega) (by rw [show v21.toInt.toNat = 50 by omega]; exact dm_0 _ _ _) (fun v hv => Or.inr ⟨h3 v (by omega), fun ⟨j, a1, a2, _⟩ => by omega⟩) (Nat.lt_succ_self _)
      · have g5 := ic_nle.mp g5
        refine lv_aload_n hx hb d_Mo_depth_8 rfl (lv_at hl 1 rfl) ?_
        refine va_get (D := D) (ci := 4) (v := .ref mb) (C := R_Mo) (T := F_Mo) (N := 16) hx hb hts in_Mo hown hK hP 0 rfl rfl 15 (by decide) (hts _ tw_618) (fun _ h9 => h9) rfl d_Mo_depth_9 ?_
        refine lv_iload_n hx hb d_Mo_depth_12 rfl (lv_at hl 0 rfl) ?_
        refine lv_iconst (v := 0) hx hb d_Mo_depth_13 (by decide) ?_
        refine lv_topi (fun v13 e13 => ?_)
        have t13 : v13.toInt = 0 := by rw [e13]; rfl
        refine va_iast hx hb hK hP hD hS 11 1 rfl rfl (ia_in ⟨by omega, by omega⟩) d_Mo_depth_14 (fun H locs hP hD hS => ?_)
        obtain ⟨f14, q14⟩ : ∃ z, z = upd fz kk.toInt.toNat v13 := ⟨_, rfl⟩
        have hP : va_P D classes [(mo, .inr (4, [.int mso, .ref m1, .ref m2, .ref m3, .ref m4, .ref m5, .ref m6, .int mct, .ref m7, .int mfr, .int mcu, .int mth, .ref m8, .ref m9, .ref ma, .ref mb])), (m1, .inl (cL, 1503, .inr (.inl p1))), (m2, .inl (cL, 1503, .inr (.inl p2))), (m3, .inl (cI, 36072, .inl p3)), (m4, .inl (cI, 1503, .inl p4)), (m5, .inl (cL, 1500, .inr (.inl p5))), (m6, .inl (cI, 1500, .inl p6)), (m7, .inl (cI, 1500, .inl p7)), (m8, .inl (cI, 50, .inl p8)), (m9, .inl (cI, 50, .inl p9)), (ma, .inl (cI, 1500, .inl pa)), (mb, .inl (cI, 50, .inl (upd fz kk.toInt.toNat v13)))] H := hP
        have hD : va_D A [(mo, .inr (4, [.int mso, .ref m1, .ref m2, .ref m3, .ref m4, .ref m5, .ref m6, .int mct, .ref m7, .int mfr, .int mcu, .int mth, .ref m8, .ref m9, .ref ma, .ref mb])), (m1, .inl (cL, 1503, .inr (.inl p1))), (m2, .inl (cL, 1503, .inr (.inl p2))), (m3, .inl (cI, 36072, .inl p3)), (m4, .inl (cI, 1503, .inl p4)), (m5, .inl (cL, 1500, .inr (.inl p5))), (m6, .inl (cI, 1500, .inl p6)), (m7, .inl (cI, 1500, .inl p7)), (m8, .inl (cI, 50, .inl p8)), (m9, .inl (cI, 50, .inl p9)), (ma, .inl (cI, 1500, .inl pa)), (mb, .inl (cI, 50, .inl (upd fz kk.toInt.toNat v13)))] := hD
        rw [← q14] at hP hD
        obtain ⟨v15, e15⟩ : ∃ z, z = kk + Int32.ofInt 1 := ⟨_, rfl⟩
        have t15 := ia_inc 1 e15 (by decide) ⟨by omega, by omega⟩
        refine lv_iinc (k := 0) (lv' := [(2, .int v15), (0, .ref mo), (1, .int pl)]) hx hb d_Mo_depth_15 hl rfl e15.symm (by decide) rfl (fun ls hl => ?_)
        refine lv_goto hx hb d_Mo_depth_18 (tgt := 2) (by decide) ?_
        exact ih2 v15 f14 H locs ls hl hP hD hS (by omega) (by omega) (fun j hj => by
              rw [q14]
              unfold upd
              by_cases h9 : j = kk.toInt.toNat
              · rw [if_pos h9]; exact t13
              · rw [if_neg h9]; exact h3 j (by omega)) (by omega)
  exact lp2 _ v0 pb s.heap [] ls hl hP hD hS (by omega) (by omega) (fun j hj => by omega) (Nat.lt_succ_self _)
set_option maxRecDepth 100000 in
set_option maxHeartbeats 4000000 in
theorem c_Mo_deepest (l : Launch) (D : va_G) (cL cI : ClassId) (mo m1 m2 m3 m4 m5 m6 m7 m8 m9 ma mb : Nat) (mso mct mfr mcu mth : Int32) (p1 p2 p5 : Nat → Int64) (p3 p4 p6 p7 p8 p9 pa pb : Nat → Int32) (n : Nat) (sz : Nat) (hct : mct.toInt = (n : Int)) (hn : n ≤ 1500) (hpa : ∀ k, k + 1 < n → 0 ≤ (pa k).toInt ∧ (pa k).toInt < 50) : Met l y_Mo_deepest (Cond.code y_Mo_deepest prog_6_method_45_code 4 (some .int) :: TW) ({ frames := 2, cells := 0, slots := 0, locals := 64 } : Room) (PM D cL cI [.ref mo] [(mo, .inr (4, [.int mso, .ref m1, .ref m2, .ref m3, .ref m4, .ref m5, .ref m6, .int mct, .ref m7, .int mfr, .int mcu, .int mth, .ref m8, .ref m9, .ref ma, .ref mb])), (m1, .inl (cL, 1503, .inr (.inl p1))), (m2, .inl (cL, 1503, .inr (.inl p2))), (m3, .inl (cI, 36072, .inl p3)), (m4, .inl (cI, 1503, .inl p4)), (m5, .inl (cL, 1500, .inr (.inl p5))), (m6, .inl (cI, 1500, .inl p6)), (m7, .inl (cI, 1500, .inl p7)), (m8, .inl (cI, 50, .inl p8)), (m9, .inl (cI, 50, .inl p9)), (ma, .inl (cI, 1500, .inl pa)), (mb, .inl (cI, 50, .inl pb))] sz) (va_Qi (fun (r : Int32) (u : (Nat → Int32)) => r.toInt = ((cb_end (fun k => (pa k).toInt.toNat) (n - 1)).1 : Int)) (fun (u : (Nat → Int32)) (t : State) => va_P D classes [(mo, .inr (4, [.int mso, .ref m1, .ref m2, .ref m3, .ref m4, .ref m5, .ref m6, .int mct, .ref m7, .int mfr, .int mcu, .int mth, .ref m8, .ref m9, .ref ma, .ref mb])), (m1, .inl (cL, 1503, .inr (.inl p1))), (m2, .inl (cL, 1503, .inr (.inl p2))), (m3, .inl (cI, 36072, .inl p3)), (m4, .inl (cI, 1503, .inl p4)), (m5, .inl (cL, 1500, .inr (.inl p5))), (m6, .inl (cI, 1500, .inl p6)), (m7, .inl (cI, 1500, .inl p7)), (m8, .inl (cI, 50, .inl p8)), (m9, .inl (cI, 50, .inl p9)), (ma, .inl (cI, 1500, .inl pa)), (mb, .inl (cI, 50, .inl u))] t.heap ∧ va_K D classes (tyz cL cI) t ∧ va_D (va_A [(mo, .inr (4, [.int mso, .ref m1, .ref m2, .ref m3, .ref m4, .ref m5, .ref m6, .int mct, .ref m7, .int mfr, .int mcu, .int mth, .ref m8, .ref m9, .ref ma, .ref mb])), (m1, .inl (cL, 1503, .inr (.inl p1))), (m2, .inl (cL, 1503, .inr (.inl p2))), (m3, .inl (cI, 36072, .inl p3)), (m4, .inl (cI, 1503, .inl p4)), (m5, .inl (cL, 1500, .inr (.inl p5))), (m6, .inl (cI, 1500, .inl p6)), (m7, .inl (cI, 1500, .inl p7)), (m8, .inl (cI, 50, .inl p8)), (m9, .inl (cI, 50, .inl p9)), (ma, .inl (cI, 1500, .inl pa)), (mb, .inl (cI, 50, .inl pb))] sz) [(mo, .inr (4, [.int mso, .ref m1, .ref m2, .ref m3, .ref m4, .ref m5, .ref m6, .int mct, .ref m7, .int mfr, .int mcu, .int mth, .ref m8, .ref m9, .ref ma, .ref mb])), (m1, .inl (cL, 1503, .inr (.inl p1))), (m2, .inl (cL, 1503, .inr (.inl p2))), (m3, .inl (cI, 36072, .inl p3)), (m4, .inl (cI, 1503, .inl p4)), (m5, .inl (cL, 1500, .inr (.inl p5))), (m6, .inl (cI, 1500, .inl p6)), (m7, .inl (cI, 1500, .inl p7)), (m8, .inl (cI, 50, .inl p8)), (m9, .inl (cI, 50, .inl p9)), (ma, .inl (cI, 1500, .inl pa)), (mb, .inl (cI, 50, .inl u))]) (va_A [(mo, .inr (4, [.int mso, .ref m1, .ref m2, .ref m3, .ref m4, .ref m5, .ref m6, .int mct, .ref m7, .int mfr, .int mcu, .int mth, .ref m8, .ref m9, .ref ma, .ref mb])), (m1, .inl (cL, 1503, .inr (.inl p1))), (m2, .inl (cL, 1503, .inr (.inl p2))), (m3, .inl (cI, 36072, .inl p3)), (m4, .inl (cI, 1503, .inl p4)), (m5, .inl (cL, 1500, .inr (.inl p5))), (m6, .inl (cI, 1500, .inl p6)), (m7, .inl (cI, 1500, .inl p7)), (m8, .inl (cI, 50, .inl p8)), (m9, .inl (cI, 50, .inl p9)), (ma, .inl (cI, 1500, .inl pa)), (mb, .inl (cI, 50, .inl pb))] sz)) 0 0 (va_A [(mo, .inr (4, [.int mso, .ref m1, .ref m2, .ref m3, .ref m4, .ref m5, .ref m6, .int mct, .ref m7, .int mfr, .int mcu, .int mth, .ref m8, .ref m9, .ref ma, .ref mb])), (m1, .inl (cL, 1503, .inr (.inl p1))), (m2, .inl (cL, 1503, .inr (.inl p2))), (m3, .inl (cI, 36072, .inl p3)), (m4, .inl (cI, 1503, .inl p4)), (m5, .inl (cL, 1500, .inr (.inl p5))), (m6, .inl (cI, 1500, .inl p6)), (m7, .inl (cI, 1500, .inl p7)), (m8, .inl (cI, 50, .inl p8)), (m9, .inl (cI, 50, .inl p9)), (ma, .inl (cI, 1500, .inl pa)), (mb, .inl (cI, 50, .inl pb))] sz) := by
  refine xr_met (by decide) ?_
  intro p e s m args below meth c hx hb hr hts hown hlocks hname hml hv
  obtain ⟨rfl, hsz, hP, hK, hD0⟩ := hv
  subst hsz
  have hD := hD0.self (sz := s.heap.size)
  generalize hAe : va_A [(mo, .inr (4, [.int mso, .ref m1, .ref m2, .ref m3, .ref m4, .ref m5, .ref m6, .int mct, .ref m7, .int mfr, .int mcu, .int mth, .ref m8, .ref m9, .ref ma, .ref mb])), (m1, .inl (cL, 1503, .inr (.inl p1))), (m2, .inl (cL, 1503, .inr (.inl p2))), (m3, .inl (cI, 36072, .inl p3)), (m4, .inl (cI, 1503, .inl p4)), (m5, .inl (cL, 1500, .inr (.inl p5))), (m6, .inl (cI, 1500, .inl p6)), (m7, .inl (cI, 1500, .inl p7)), (m8, .inl (cI, 50, .inl p8)), (m9, .inl (cI, 50, .inl p9)), (ma, .inl (cI, 1500, .inl pa)), (mb, .inl (cI, 50, .inl pb))] s.heap.size = A at hD ⊢
  have hA : ∀ q : Nat, s.heap.size ≤ q → A q := fun q h => by rw [← hAe]; exact Or.inr h
  have hS : va_S A s.heap s.heap [] := va_S.rf
  have hD : va_D A [(mo, .inr (4, [.int mso, .ref m1, .ref m2, .ref m3, .ref m4, .ref m5, .ref m6, .int mct, .ref m7, .int mfr, .int mcu, .int mth, .ref m8, .ref m9, .ref ma, .ref mb])), (m1, .inl (cL, 1503, .inr (.inl p1))), (m2, .inl (cL, 1503, .inr (.inl p2))), (m3, .inl (cI, 36072, .inl p3)), (m4, .inl (cI, 1503, .inl p4)), (m5, .inl (cL, 1500, .inr (.inl p5))), (m6, .inl (cI, 1500, .inl p6)), (m7, .inl (cI, 1500, .inl p7)), (m8, .inl (cI, 50, .inl p8)), (m9, .inl (cI, 50, .inl p9)), (ma, .inl (cI, 1500, .inl pa)), (mb, .inl (cI, 50, .inl pb))] := hD
  have hown : s.vm.findClass "BranchStoreModel" = some m.cls := hown
  have hP : va_P D classes [(mo, .inr (4, [.int mso, .ref m1, .ref m2, .ref m3, .ref m4, .ref m5, .ref m6, .int mct, .ref m7, .int mfr, .int mcu, .int mth, .ref m8, .ref m9, .ref ma, .ref mb])), (m1, .inl (cL, 1503, .inr (.inl p1))), (m2, .inl (cL, 1503, .inr (.inl p2))), (m3, .inl (cI, 36072, .inl p3)), (m4, .inl (cI, 1503, .inl p4)), (m5, .inl (cL, 1500, .inr (.inl p5))), (m6, .inl (cI, 1500, .inl p6)), (m7, .inl (cI, 1500, .inl p7)), (m8, .inl (cI, 50, .inl p8)), (m9, .inl (cI, 50, .inl p9)), (ma, .inl (cI, 1500, .inl pa)), (mb, .inl (cI, 50, .inl pb))] s.heap := hP
  have hl := lv_entry ([.ref mo]) (n := 4) (Nat.le_of_ble_eq_true rfl)
  rw [lg_entry_eq]
  generalize (lg_sl ([.ref mo]) ++ List.replicate (4 - (lg_sl ([.ref mo])).length) Slot.unset).toArray = ls at hl ⊢
  have hl : lv_has ls 4 [(0, .ref mo)] := hl
  obtain ⟨Q, hQ⟩ : ∃ Q, Q = MQ below (va_Qi (fun (r : Int32) (u : (Nat → Int32)) => r.toInt = ((cb_end (fun k => (pa k).toInt.toNat) (n - 1)).1 : Int)) (fun (u : (Nat → Int32)) (t : State) => va_P D classes [(mo, .inr (4, [.int mso, .ref m1, .ref m2, .ref m3, .ref m4, .ref m5, .ref m6, .int mct, .ref m7, .int mfr, .int mcu, .int mth, .ref m8, .ref m9, .ref ma, .ref mb])), (m1, .inl (cL, 1503, .inr (.inl p1))), (m2, .inl (cL, 1503, .inr (.inl p2))), (m3, .inl (cI, 36072, .inl p3)), (m4, .inl (cI, 1503, .inl p4)), (m5, .inl (cL, 1500, .inr (.inl p5))), (m6, .inl (cI, 1500, .inl p6)), (m7, .inl (cI, 1500, .inl p7)), (m8, .inl (cI, 50, .inl p8)), (m9, .inl (cI, 50, .inl p9)), (ma, .inl (cI, 1500, .inl pa)), (mb, .inl (cI, 50, .inl u))] t.heap ∧ va_K D classes (tyz cL cI) t ∧ va_D (A) [(mo, .inr (4, [.int mso, .ref m1, .ref m2, .ref m3, .ref m4, .ref m5, .ref m6, .int mct, .ref m7, .int mfr, .int mcu, .int mth, .ref m8, .ref m9, .ref ma, .ref mb])), (m1, .inl (cL, 1503, .inr (.inl p1))), (m2, .inl (cL, 1503, .inr (.inl p2))), (m3, .inl (cI, 36072, .inl p3)), (m4, .inl (cI, 1503, .inl p4)), (m5, .inl (cL, 1500, .inr (.inl p5))), (m6, .inl (cI, 1500, .inl p6)), (m7, .inl (cI, 1500, .inl p7)), (m8, .inl (cI, 50, .inl p8)), (m9, .inl (cI, 50, .inl p9)), (ma, .inl (cI, 1500, .inl pa)), (mb, .inl (cI, 50, .inl u))]) (A)) ([.ref mo] : List Value).toArray s 0 0 A := ⟨_, rfl⟩
  rw [← hQ]
  refine lv_iconst (v := 0) hx hb d_Mo_deepest_0 (by decide) ?_
  refine lv_topi (fun v0 e0 => ?_)
  have t0 : v0.toInt = 0 := by rw [e0]; rfl
  refine lv_istore_n (lv' := [(1, .int v0), (0, .ref mo)]) hx hb d_Mo_deepest_1 rfl hl (by decide) rfl (fun ls hl => ?_)
  refine lv_iconst (v := 0) hx hb d_Mo_deepest_2 (by decide) ?_
  refine lv_topi (fun v2 e2 => ?_)
  have t2 : v2.toInt = 0 := by rw [e2]; rfl
  refine lv_istore_n (lv' := [(2, .int v2), (1, .int v0), (0, .ref mo)]) hx hb d_Mo_deepest_3 rfl hl (by decide) rfl (fun ls hl => ?_)
  have lp4 : ∀ (fuel4 : Nat) (kk : Int32) (nn : Int32) (fz : Nat → Int32) (H : Heap) (locs : List Loc) (ls : Array Slot), lv_has ls 4 [(2, .int kk), (1, .int nn), (0, .ref mo)] → va_P D classes [(mo, .inr (4, [.int mso, .ref m1, .ref m2, .ref m3, .ref m4, .ref m5, .ref m6, .int mct, .ref m7, .int mfr, .int mcu, .int mth, .ref m8, .ref m9, .ref ma, .ref mb])), (m1, .inl (cL, 1503, .inr (.inl p1))), (m2, .inl (cL, 1503, .inr (.inl p2))), (m3, .inl (cI, 36072, .inl p3)), (m4, .inl (cI, 1503, .inl p4)), (m5, .inl (cL, 1500, .inr (.inl p5))), (m6, .inl (cI, 1500, .inl p6)), (m7, .inl (cI, 1500, .inl p7)), (m8, .inl (cI, 50, .inl p8)), (m9, .inl (cI, 50, .inl p9)), (ma, .inl (cI, 1500, .inl pa)), (mb, .inl (cI, 50, .inl fz))] H → va_D A [(mo, .inr (4, [.int mso, .ref m1, .ref m2, .ref m3, .ref m4, .ref m5, .ref m6, .int mct, .ref m7, .int mfr, .int mcu, .int mth, .ref m8, .ref m9, .ref ma, .ref mb])), (m1, .inl (cL, 1503, .inr (.inl p1))), (m2, .inl (cL, 1503, .inr (.inl p2))), (m3, .inl (cI, 36072, .inl p3)), (m4, .inl (cI, 1503, .inl p4)), (m5, .inl (cL, 1500, .inr (.inl p5))), (m6, .inl (cI, 1500, .inl p6)), (m7, .inl (cI, 1500, .inl p7)), (m8, .inl (cI, 50, .inl p8)), (m9, .inl (cI, 50, .inl p9)), (ma, .inl (cI, 1500, .inl pa)), (mb, .inl (cI, 50, .inl fz))] → va_S A s.heap H locs → (0 ≤ kk.toInt) → (kk.toInt ≤ (n : Int)) → (0 ≤ nn.toInt) → (∀ k, k < kk.toInt.toNat → cb_N (fun k => (pa k).toInt.toNat) 64 (n - 1) k 0 ≤ nn.toInt.toNat) → (nn.toInt = 0 ∨ ∃ k, k < kk.toInt.toNat ∧ nn.toInt = (cb_N (fun k => (pa k).toInt.toNat) 64 (n - 1) k 0 : Int)) → n - kk.toInt.toNat < fuel4 → W p l e ({ frames := 2, cells := 0, slots := 0, locals := 64 } : Room) s m ([.ref mo] : List Value).toArray below meth c H locs 0 0 Q (F0 m 4 ls []) := by
    intro fuel4
    induction fuel4 with
    | zero => intro kk nn fz H locs ls hl hP hD hS h1 h2 h3 h4 h5 hm4; exact absurd hm4 (Nat.not_lt_zero _)
    | succ fuel4 ih4 =>
      intro kk nn fz H locs ls hl hP hD hS h1 h2 h3 h4 h5 hm4
      refine lv_iload_n hx hb d_Mo_deepest_4 rfl (lv_at hl 0 rfl) ?_
      refine lv_aload_n hx hb d_Mo_deepest_5 rfl (lv_at hl 2 rfl) ?_
      refine va_get (D := D) (ci := 4) (v := .int mct) (C := R_Mo) (T := F_Mo) (N := 16) hx hb hts in_Mo hown hK hP 0 rfl rfl 7 (by decide) (hts _ tw_610) (fun _ h9 => h9) rfl d_Mo_deepest_6 ?_
      refine lv_icmp_ge hx hb d_Mo_deepest_9 (tgt := 35) (by decide) (fun g9 => ?_) (fun g9 => ?_)
      · have g9 := ic_le.mp g9
        refine lv_iload_n hx hb d_Mo_deepest_35 rfl (lv_at hl 1 rfl) ?_
        have hpost : nn.toInt = ((cb_end (fun k => (pa k).toInt.toNat) (n - 1)).1 : Int) := by
          obtain ⟨⟨q, hq1, hq2⟩, hmx⟩ := cb_end_deep (fun k => (pa k).toInt.toNat) 64 (n - 1) (fun i hi => by have := hpa i (by omega); show (pa i).toInt.toNat < 64; omega)
          have hq2 : cb_N (fun k => (pa k).toInt.toNat) 64 (n - 1) q 0 = (cb_end (fun k => (pa k).toInt.toNat) (n - 1)).1 := hq2
          have hmx : ∀ q, q ≤ n - 1 → cb_N (fun k => (pa k).toInt.toNat) 64 (n - 1) q 0 ≤ (cb_end (fun k => (pa k).toInt.toNat) (n - 1)).1 := hmx
          by_cases h0 : n = 0
          · have h9 : nn.toInt = 0 := by
              rcases h5 with h9 | ⟨k, h9, _⟩
              · exact h9
              · omega
            rw [← hq2, show q = 0 by omega, show n - 1 = 0 by omega, cb_N_zero, h9]
            rfl
          · have h9 := h4 q (by omega)
            rcases h5 with h10 | ⟨k, h10, h11⟩
            · omega
            · have h12 := hmx k (by omega)
              omega
        have hP9 := hP.sub (ws' := [(mo, .inr (4, [.int mso, .ref m1, .ref m2, .ref m3, .ref m4, .ref m5, .ref m6, .int mct, .ref m7, .int mfr, .int mcu, .int mth, .ref m8, .ref m9, .ref ma, .ref mb])), (m1, .inl (cL, 1503, .inr (.inl p1))), (m2, .inl (cL, 1503, .inr (.inl p2))), (m3, .inl (cI, 36072, .inl p3)), (m4, .inl (cI, 1503, .inl p4)), (m5, .inl (cL, 1500, .inr (.inl p5))), (m6, .inl (cI, 1500, .inl p6)), (m7, .inl (cI, 1500, .inl p7)), (m8, .inl (cI, 50, .inl p8)), (m9, .inl (cI, 50, .inl p9)), (ma, .inl (cI, 1500, .inl pa)), (mb, .inl (cI, 50, .inl fz))]) [0, 1, 2, 3, 4, 5, 6, 7, 8, 9, 10, 11] rfl
        have hD9 := hD.sub (ws' := [(mo, .inr (4, [.int mso, .ref m1, .ref m2, .ref m3, .ref m4, .ref m5, .ref m6, .int mct, .ref m7, .int mfr, .int mcu, .int mth, .ref m8, .ref m9, .ref ma, .ref mb])), (m1, .inl (cL, 1503, .inr (.inl p1))), (m2, .inl (cL, 1503, .inr (.inl p2))), (m3, .inl (cI, 36072, .inl p3)), (m4, .inl (cI, 1503, .inl p4)), (m5, .inl (cL, 1500, .inr (.inl p5))), (m6, .inl (cI, 1500, .inl p6)), (m7, .inl (cI, 1500, .inl p7)), (m8, .inl (cI, 50, .inl p8)), (m9, .inl (cI, 50, .inl p9)), (ma, .inl (cI, 1500, .inl pa)), (mb, .inl (cI, 50, .inl fz))]) [0, 1, 2, 3, 4, 5, 6, 7, 8, 9, 10, 11] (by decide) rfl
        rw [hQ]
        exact W.iret (v := nn) hx hb hr (fun t ht hW => ⟨⟨nn, (fz), rfl, hpost, by rw [ht]; exact hP9, va_K.moved hW.alike hK, hD9⟩, hS.F ht⟩) hS.2.2 d_Mo_deepest_36
      · have g9 := ic_nle.mp g9
        refine lv_aload_n hx hb d_Mo_deepest_12 rfl (lv_at hl 2 rfl) ?_
        refine lv_iload_n hx hb d_Mo_deepest_13 rfl (lv_at hl 0 rfl) ?_
        have hPc := hP.sub (ws' := [(mo, .inr (4, [.int mso, .ref m1, .ref m2, .ref m3, .ref m4, .ref m5, .ref m6, .int mct, .ref m7, .int mfr, .int mcu, .int mth, .ref m8, .ref m9, .ref ma, .ref mb])), (m1, .inl (cL, 1503, .inr (.inl p1))), (m2, .inl (cL, 1503, .inr (.inl p2))), (m3, .inl (cI, 36072, .inl p3)), (m4, .inl (cI, 1503, .inl p4)), (m5, .inl (cL, 1500, .inr (.inl p5))), (m6, .inl (cI, 1500, .inl p6)), (m7, .inl (cI, 1500, .inl p7)), (m8, .inl (cI, 50, .inl p8)), (m9, .inl (cI, 50, .inl p9)), (ma, .inl (cI, 1500, .inl pa)), (mb, .inl (cI, 50, .inl fz))]) [0, 1, 2, 3, 4, 5, 6, 7, 8, 9, 10, 11] rfl
        have hDc := hD.sub (ws' := [(mo, .inr (4, [.int mso, .ref m1, .ref m2, .ref m3, .ref m4, .ref m5, .ref m6, .int mct, .ref m7, .int mfr, .int mcu, .int mth, .ref m8, .ref m9, .ref ma, .ref mb])), (m1, .inl (cL, 1503, .inr (.inl p1))), (m2, .inl (cL, 1503, .inr (.inl p2))), (m3, .inl (cI, 36072, .inl p3)), (m4, .inl (cI, 1503, .inl p4)), (m5, .inl (cL, 1500, .inr (.inl p5))), (m6, .inl (cI, 1500, .inl p6)), (m7, .inl (cI, 1500, .inl p7)), (m8, .inl (cI, 50, .inl p8)), (m9, .inl (cI, 50, .inl p9)), (ma, .inl (cI, 1500, .inl pa)), (mb, .inl (cI, 50, .inl fz))]) [0, 1, 2, 3, 4, 5, 6, 7, 8, 9, 10, 11] (by decide) rfl
        have hFc := va_free (wc := [(mo, .inr (4, [.int mso, .ref m1, .ref m2, .ref m3, .ref m4, .ref m5, .ref m6, .int mct, .ref m7, .int mfr, .int mcu, .int mth, .ref m8, .ref m9, .ref ma, .ref mb])), (m1, .inl (cL, 1503, .inr (.inl p1))), (m2, .inl (cL, 1503, .inr (.inl p2))), (m3, .inl (cI, 36072, .inl p3)), (m4, .inl (cI, 1503, .inl p4)), (m5, .inl (cL, 1500, .inr (.inl p5))), (m6, .inl (cI, 1500, .inl p6)), (m7, .inl (cI, 1500, .inl p7)), (m8, .inl (cI, 50, .inl p8)), (m9, .inl (cI, 50, .inl p9)), (ma, .inl (cI, 1500, .inl pa)), (mb, .inl (cI, 50, .inl fz))]) hD hS hA [0, 1, 2, 3, 4, 5, 6, 7, 8, 9, 10, 11] rfl
        refine va_calli (xr_mv (As := [.int kk]) (rest := []) ⟨hx, hb, hml, hown, hts⟩ (c_Mo_depth l D cL cI mo m1 m2 m3 m4 m5 m6 m7 m8 m9 ma mb mso mct mfr mcu mth p1 p2 p5 p3 p4 p6 p7 p8 p9 pa fz n kk H.size (by first | omega | exact hct) (by first | omega | exact hn) (by first | omega | exact hpa) (by first | omega | exact hpl)) (xr_cv 1 hts tw_834 tw_831 tw_833 tp_26 tw_7 rfl rfl (by decide) ⟨Nat.le_of_ble_eq_true rfl, Nat.le_of_ble_eq_true rfl⟩) hK hPc (hDc.weaken (fun _ _ _ _ => trivial)) (va_recv hK hP rfl (q0 := 0) (ci := 4) rfl) rfl hl.1 rfl (Nat.le_of_ble_eq_true rfl) d_Mo_deepest_14 ⟨Nat.le_of_ble_eq_true rfl, Nat.le_of_ble_eq_true rfl⟩) hS (fun q _ h => hFc q h) hFc (fun v14 u14 tt14 H1 locs ht14 hvm14 e14 hB14 hz14 hk14 hS => ?_)
        obtain ⟨pbb_14, rfl⟩ : ∃ z, z = u14 := ⟨_, rfl⟩
        have e14 : v14.toInt = (cb_N (fun k => (pa k).toInt.toNat) 64 (n - 1) kk.toInt.toNat 0 : Int) := e14
        obtain ⟨hP1, hK1, hD1⟩ := hB14
        rw [ht14] at hP1
        obtain ⟨hP, hD⟩ := va_join (wr := []) (w1 := [(mo, .inr (4, [.int mso, .ref m1, .ref m2, .ref m3, .ref m4, .ref m5, .ref m6, .int mct, .ref m7, .int mfr, .int mcu, .int mth, .ref m8, .ref m9, .ref ma, .ref mb])), (m1, .inl (cL, 1503, .inr (.inl p1))), (m2, .inl (cL, 1503, .inr (.inl p2))), (m3, .inl (cI, 36072, .inl p3)), (m4, .inl (cI, 1503, .inl p4)), (m5, .inl (cL, 1500, .inr (.inl p5))), (m6, .inl (cI, 1500, .inl p6)), (m7, .inl (cI, 1500, .inl p7)), (m8, .inl (cI, 50, .inl p8)), (m9, .inl (cI, 50, .inl p9)), (ma, .inl (cI, 1500, .inl pa)), (mb, .inl (cI, 50, .inl pbb_14))]) hP hD [0, 1, 2, 3, 4, 5, 6, 7, 8, 9, 10, 11] [] rfl rfl (by decide) (by decide) hk14 hFc hP1 hD1
        clear hP1 hD1 hPc hDc hFc
        generalize H1 = H at hP hS ⊢
        have hP : va_P D classes [(mo, .inr (4, [.int mso, .ref m1, .ref m2, .ref m3, .ref m4, .ref m5, .ref m6, .int mct, .ref m7, .int mfr, .int mcu, .int mth, .ref m8, .ref m9, .ref ma, .ref mb])), (m1, .inl (cL, 1503, .inr (.inl p1))), (m2, .inl (cL, 1503, .inr (.inl p2))), (m3, .inl (cI, 36072, .inl p3)), (m4, .inl (cI, 1503, .inl p4)), (m5, .inl (cL, 1500, .inr (.inl p5))), (m6, .inl (cI, 1500, .inl p6)), (m7, .inl (cI, 1500, .inl p7)), (m8, .inl (cI, 50, .inl p8)), (m9, .inl (cI, 50, .inl p9)), (ma, .inl (cI, 1500, .inl pa)), (mb, .inl (cI, 50, .inl pbb_14))] H := hP
        have hD : va_D A [(mo, .inr (4, [.int mso, .ref m1, .ref m2, .ref m3, .ref m4, .ref m5, .ref m6, .int mct, .ref m7, .int mfr, .int mcu, .int mth, .ref m8, .ref m9, .ref ma, .ref mb])), (m1, .inl (cL, 1503, .inr (.inl p1))), (m2, .inl (cL, 1503, .inr (.inl p2))), (m3, .inl (cI, 36072, .inl p3)), (m4, .inl (cI, 1503, .inl p4)), (m5, .inl (cL, 1500, .inr (.inl p5))), (m6, .inl (cI, 1500, .inl p6)), (m7, .inl (cI, 1500, .inl p7)), (m8, .inl (cI, 50, .inl p8)), (m9, .inl (cI, 50, .inl p9)), (ma, .inl (cI, 1500, .inl pa)), (mb, .inl (cI, 50, .inl pbb_14))] := hD
        refine lv_istore_n (lv' := [(3, .int v14), (2, .int kk), (1, .int nn), (0, .ref mo)]) hx hb d_Mo_deepest_17 rfl hl (by decide) rfl (fun ls hl => ?_)
        refine lv_iload_n hx hb d_Mo_deepest_18 rfl (lv_at hl 0 rfl) ?_
        refine lv_iload_n hx hb d_Mo_deepest_19 rfl (lv_at hl 2 rfl) ?_
        refine lv_icmp_le hx hb d_Mo_deepest_20 (tgt := 27) (by decide) (fun g20 => ?_) (fun g20 => ?_)
        · have g20 := ic_le.mp g20
          refine lv_iload_n hx hb d_Mo_deepest_27 rfl (lv_at hl 2 rfl) ?_
          refine lv_istore_n (lv' := [(1, .int nn), (3, .int v14), (2, .int kk), (0, .ref mo)]) hx hb d_Mo_deepest_28 rfl hl (by decide) rfl (fun ls hl => ?_)
          obtain ⟨v29, e29⟩ : ∃ z, z = kk + Int32.ofInt 1 := ⟨_, rfl⟩
          have t29 := ia_inc 1 e29 (by decide) ⟨by omega, by omega⟩
          refine lv_iinc (k := 2) (lv' := [(2, .int v29), (1, .int nn), (3, .int v14), (0, .ref mo)]) hx hb d_Mo_deepest_29 hl rfl e29.symm (by decide) rfl (fun ls hl => ?_)
          refine lv_goto hx hb d_Mo_deepest_32 (tgt := 4) (by decide) ?_
          exact ih4 v29 nn pbb_14 H locs ls (lv_sub hl [0, 1, 3] rfl) hP hD hS (by omega) (by omega) (by omega) (fun k hk => by
                by_cases h9 : k = kk.toInt.toNat
                · rw [h9]; omega
                · have := h4 k (by omega); omega) (by
                first
                | (rcases h5 with h9 | ⟨k, h9, h10⟩
                   · exact Or.inl h9
                   · exact Or.inr ⟨k, by omega, h10⟩)
                | exact Or.inr ⟨kk.toInt.toNat, by omega, e14⟩) (by omega)
        · have g20 := ic_nle.mp g20
          refine lv_iload_n hx hb d_Mo_deepest_23 rfl (lv_at hl 0 rfl) ?_
          refine lv_goto hx hb d_Mo_deepest_24 (tgt := 28) (by decide) ?_
          refine lv_istore_n (lv' := [(1, .int v14), (3, .int v14), (2, .int kk), (0, .ref mo)]) hx hb d_Mo_deepest_28 rfl hl (by decide) rfl (fun ls hl => ?_)
          obtain ⟨v29, e29⟩ : ∃ z, z = kk + Int32.ofInt 1 := ⟨_, rfl⟩
          have t29 := ia_inc 1 e29 (by decide) ⟨by omega, by omega⟩
          refine lv_iinc (k := 2) (lv' := [(2, .int v29), (1, .int v14), (3, .int v14), (0, .ref mo)]) hx hb d_Mo_deepest_29 hl rfl e29.symm (by decide) rfl (fun ls hl => ?_)
          refine lv_goto hx hb d_Mo_deepest_32 (tgt := 4) (by decide) ?_
          exact ih4 v29 v14 pbb_14 H locs ls (lv_sub hl [0, 1, 3] rfl) hP hD hS (by omega) (by omega) (by omega) (fun k hk => by
                by_cases h9 : k = kk.toInt.toNat
                · rw [h9]; omega
                · have := h4 k (by omega); omega) (by
                first
                | (rcases h5 with h9 | ⟨k, h9, h10⟩
                   · exact Or.inl h9
                   · exact Or.inr ⟨k, by omega, h10⟩)
                | exact Or.inr ⟨kk.toInt.toNat, by omega, e14⟩) (by omega)
  exact lp4 _ v2 v0 pb s.heap [] ls hl hP hD hS (by omega) (by omega) (by omega) (fun k hk => by omega) (by omega) (Nat.lt_succ_self _)
