set_option maxRecDepth 100000 in
set_option maxHeartbeats 4000000 in
theorem c_Ta_mostShared (l : Launch) (D : va_G) (cL cI : ClassId) (tb cd vl w : Nat) (wd cnt chg : Int32) (hw : wd.toInt = (w : Int)) (hw7 : 1 ≤ w ∧ w ≤ 7) : Met l y_Ta_mostShared (Cond.code y_Ta_mostShared prog_4_method_8_code 1 (some .int) :: TW) ({ frames := 1, cells := 0, slots := 0, locals := 40 } : Room) (PR D cL cI [.ref tb] [(tb, .inr (2, [.int wd, .ref cd, .ref vl, .int cnt, .int chg]))]) (vp_Si (fun r => r.toInt = 8 * (w : Int))) 0 0 (fun _ => False) := by
  refine xr_met (by decide) ?_
  intro p e s m args below meth c hx hb hr hts hown hlocks hname hml hv
  obtain ⟨rfl, hP, hK⟩ := hv
  have hown : s.vm.findClass "BranchStore$Table" = some m.cls := hown
  have hP : va_P D classes [(tb, .inr (2, [.int wd, .ref cd, .ref vl, .int cnt, .int chg]))] s.heap := hP
  have hl := lv_entry ([.ref tb]) (n := 1) (Nat.le_of_ble_eq_true rfl)
  rw [lg_entry_eq]
  generalize (lg_sl ([.ref tb]) ++ List.replicate (1 - (lg_sl ([.ref tb])).length) Slot.unset).toArray = ls at hl ⊢
  have hl : lv_has ls 1 [(0, .ref tb)] := hl
  obtain ⟨Q, hQ⟩ : ∃ Q, Q = MQ below (vp_Si (fun r => r.toInt = 8 * (w : Int))) ([.ref tb] : List Value).toArray s 0 0 (fun _ => False) := ⟨_, rfl⟩
  rw [← hQ]
  refine lv_bipush (v := 8) hx hb d_Ta_mostShared_0 (by decide) ?_
  refine lv_topi (fun v0 e0 => ?_)
  have t0 : v0.toInt = 8 := by rw [e0]; rfl
  refine lv_aload_n hx hb d_Ta_mostShared_2 rfl (lv_at hl 0 rfl) ?_
  refine va_get (D := D) (ci := 2) (v := .int wd) (C := R_Ta) (T := F_Ta) (N := 5) hx hb hts in_Ta hown hK hP 0 rfl rfl 0 (by decide) (hts _ tw_59) (fun _ h9 => h9) rfl d_Ta_mostShared_3 ?_
  refine lv_imul hx hb d_Ta_mostShared_6 ?_
  refine lv_topi (fun v6 e6 => ?_)
  have t6 := ia_mull 8 e6 (by omega) ⟨by omega, by omega⟩
  rw [hQ]
  exact xr_reti (v := v6) hx hb hr hlocks (by omega) d_Ta_mostShared_7
set_option maxRecDepth 100000 in
set_option maxHeartbeats 4000000 in
theorem c_Ke_shiftOf (l : Launch) (D : va_G) (cL cI : ClassId) (i0 : Int32) (hi : 0 ≤ i0.toInt) : Met l y_Ke_shiftOf (Cond.code y_Ke_shiftOf prog_2_method_12_code 1 (some .int) :: TW) ({ frames := 1, cells := 0, slots := 0, locals := 40 } : Room) (PR D cL cI [.int i0] []) (vp_Si (fun r => r.toInt = 56 - 8 * (i0.toInt % 8))) 0 0 (fun _ => False) := by
  refine xr_met (by decide) ?_
  intro p e s m args below meth c hx hb hr hts hown hlocks hname hml hv
  obtain ⟨rfl, hP, hK⟩ := hv
  have hown : s.vm.findClass "BranchStore$Key" = some m.cls := hown
  have hl := lv_entry ([.int i0]) (n := 1) (Nat.le_of_ble_eq_true rfl)
  rw [lg_entry_eq]
  generalize (lg_sl ([.int i0]) ++ List.replicate (1 - (lg_sl ([.int i0])).length) Slot.unset).toArray = ls at hl ⊢
  have hl : lv_has ls 1 [(0, .int i0)] := hl
  obtain ⟨Q, hQ⟩ : ∃ Q, Q = MQ below (vp_Si (fun r => r.toInt = 56 - 8 * (i0.toInt % 8))) ([.int i0] : List Value).toArray s 0 0 (fun _ => False) := ⟨_, rfl⟩
  rw [← hQ]
  have hrg_i0 := ia_rng i0
  refine lv_bipush (v := 56) hx hb d_Ke_shiftOf_0 (by decide) ?_
  refine lv_topi (fun v0 e0 => ?_)
  have t0 : v0.toInt = 56 := by rw [e0]; rfl
  refine lv_bipush (v := 8) hx hb d_Ke_shiftOf_2 (by decide) ?_
  refine lv_topi (fun v2 e2 => ?_)
  have t2 : v2.toInt = 8 := by rw [e2]; rfl
  refine lv_iload_n hx hb d_Ke_shiftOf_4 rfl (lv_at hl 0 rfl) ?_
  refine lv_bipush (v := 8) hx hb d_Ke_shiftOf_5 (by decide) ?_
  refine lv_topi (fun v5 e5 => ?_)
  have t5 : v5.toInt = 8 := by rw [e5]; rfl
  refine lv_irem hx hb d_Ke_shiftOf_7 (ia_ne0 (by omega)) ?_
  refine lv_topi (fun v7 e7 => ?_)
  have t7 := ia_rem 8 e7 (by omega) (by omega) (by omega)
  refine lv_imul hx hb d_Ke_shiftOf_8 ?_
  refine lv_topi (fun v8 e8 => ?_)
  have t8 := ia_mull 8 e8 (by omega) ⟨by omega, by omega⟩
  refine lv_isub hx hb d_Ke_shiftOf_9 ?_
  refine lv_topi (fun v9 e9 => ?_)
  have t9 := ia_sub e9 ⟨by omega, by omega⟩
  rw [hQ]
  exact xr_reti (v := v9) hx hb hr hlocks (by omega) d_Ke_shiftOf_10
set_option maxRecDepth 100000 in
set_option maxHeartbeats 4000000 in
theorem c_Ke_byteAt (l : Launch) (D : va_G) (cL cI : ClassId) (k0 kw kn : Nat) (isr : Int32) (kf : Nat → Int64) (i0 : Int32) (hi : 0 ≤ i0.toInt) (hi2 : i0.toInt < 8 * (kn : Int)) (hkn : kn ≤ 7) : Met l y_Ke_byteAt (Cond.code y_Ke_byteAt prog_2_method_10_code 2 (some .int) :: TW) ({ frames := 2, cells := 0, slots := 0, locals := 60 } : Room) (PR D cL cI [.ref k0, .int i0] [(k0, .inr (0, [.int isr, .ref kw])), (kw, .inl (cL, kn, .inr (.inl kf)))]) (vp_Si (fun r => r.toInt = (by_w kf i0.toInt.toNat : Int))) 0 0 (fun _ => False) := by
  refine xr_met (by decide) ?_
  intro p e s m args below meth c hx hb hr hts hown hlocks hname hml hv
  obtain ⟨rfl, hP, hK⟩ := hv
  have hown : s.vm.findClass "BranchStore$Key" = some m.cls := hown
  have hP : va_P D classes [(k0, .inr (0, [.int isr, .ref kw])), (kw, .inl (cL, kn, .inr (.inl kf)))] s.heap := hP
  have hl := lv_entry ([.ref k0, .int i0]) (n := 2) (Nat.le_of_ble_eq_true rfl)
  rw [lg_entry_eq]
  generalize (lg_sl ([.ref k0, .int i0]) ++ List.replicate (2 - (lg_sl ([.ref k0, .int i0])).length) Slot.unset).toArray = ls at hl ⊢
  have hl : lv_has ls 2 [(0, .ref k0), (1, .int i0)] := hl
  obtain ⟨Q, hQ⟩ : ∃ Q, Q = MQ below (vp_Si (fun r => r.toInt = (by_w kf i0.toInt.toNat : Int))) ([.ref k0, .int i0] : List Value).toArray s 0 0 (fun _ => False) := ⟨_, rfl⟩
  rw [← hQ]
  have hrg_i0 := ia_rng i0
  refine lv_aload_n hx hb d_Ke_byteAt_0 rfl (lv_at hl 0 rfl) ?_
  refine va_get (D := D) (ci := 0) (v := .ref kw) (C := R_Ke) (T := F_Ke) (N := 2) hx hb hts in_Ke hown hK hP 0 rfl rfl 1 (by decide) (hts _ tw_44) (fun _ h9 => h9) rfl d_Ke_byteAt_1 ?_
  refine lv_iload_n hx hb d_Ke_byteAt_4 rfl (lv_at hl 1 rfl) ?_
  refine lv_bipush (v := 8) hx hb d_Ke_byteAt_5 (by decide) ?_
  refine lv_topi (fun v5 e5 => ?_)
  have t5 : v5.toInt = 8 := by rw [e5]; rfl
  refine lv_idiv hx hb d_Ke_byteAt_7 (ia_ne0 (by omega)) ?_
  refine lv_topi (fun v7 e7 => ?_)
  have t7 := ia_div 8 e7 (by omega) (by omega) (by omega)
  refine va_lald hx hb hK hP 1 0 rfl rfl (ia_in ⟨by omega, by omega⟩) d_Ke_byteAt_8 ?_
  refine lv_topl (fun v8 e8 => ?_)
  have e8 : v8 = kf v7.toInt.toNat := e8
  refine lv_iload_n hx hb d_Ke_byteAt_9 rfl (lv_at hl 1 rfl) ?_
  refine vp_callSi (xr_rs (As := [.int i0]) (rest := [.long v8]) ⟨hx, hb, hml, hown, hts⟩ (c_Ke_shiftOf l D cL cI i0 (by omega)) (xr_cs 1 hts tw_259 tw_257 tw_258 tw_3 rfl rfl (by decide) ⟨by decide, by decide⟩) hK (hP.sub (ws' := []) [] rfl) rfl hl.1 rfl (Nat.le_of_ble_eq_true rfl) d_Ke_byteAt_10 ⟨Nat.le_refl _, Nat.le_refl _⟩) (fun v10 e10 => ?_)
  have e10 : v10.toInt = 56 - 8 * (i0.toInt % 8) := e10
  refine lv_lushr hx hb d_Ke_byteAt_13 rfl ?_
  refine lv_topl (fun v13 e13 => ?_)
  refine lv_l2i hx hb d_Ke_byteAt_14 rfl ?_
  refine lv_topi (fun v14 e14 => ?_)
  refine lv_sipush (v := 255) hx hb d_Ke_byteAt_15 (by decide) ?_
  refine lv_topi (fun v15 e15 => ?_)
  have t15 : v15.toInt = 255 := by rw [e15]; rfl
  refine lv_iand hx hb d_Ke_byteAt_18 ?_
  refine lv_topi (fun v18 e18 => ?_)
  have t18 := ia_mask 8 e18 (by decide) (by rw [e15]; decide)
  have hpost : v18.toInt = (by_w kf i0.toInt.toNat : Int) := by
    have h1 := uN_sh v8 (sh := v10) (k := 56 - 8 * (i0.toInt.toNat % 8)) (by omega) (by omega)
    rw [← e13] at h1
    have h2 := uN_low e14
    unfold by_w by_L
    rw [show i0.toInt.toNat / 8 = v7.toInt.toNat by omega, ← e8, ← h1]
    omega
  rw [hQ]
  exact xr_reti (v := v18) hx hb hr hlocks (hpost) d_Ke_byteAt_19
set_option maxRecDepth 100000 in
set_option maxHeartbeats 4000000 in
theorem c_Ke_letterBytes (l : Launch) (D : va_G) (cL cI : ClassId) (k0 kw kn : Nat) (isr : Int32) (kf : Nat → Int64) (hkn : kn ≤ 7) : Met l y_Ke_letterBytes (Cond.code y_Ke_letterBytes prog_2_method_9_code 2 (some .int) :: TW) ({ frames := 3, cells := 0, slots := 0, locals := 81 } : Room) (PR D cL cI [.ref k0] [(k0, .inr (0, [.int isr, .ref kw])), (kw, .inl (cL, kn, .inr (.inl kf)))]) (vp_Si (fun r => ∃ z : Nat, r.toInt = (z : Int) ∧ z ≤ 8 * kn ∧ (∀ d, z ≤ d → d < 8 * kn → by_w kf d = 0) ∧ (0 < z → by_w kf (z - 1) ≠ 0))) 0 0 (fun _ => False) := by
  refine xr_met (by decide) ?_
  intro p e s m args below meth c hx hb hr hts hown hlocks hname hml hv
  obtain ⟨rfl, hP, hK⟩ := hv
  have hown : s.vm.findClass "BranchStore$Key" = some m.cls := hown
  have hP : va_P D classes [(k0, .inr (0, [.int isr, .ref kw])), (kw, .inl (cL, kn, .inr (.inl kf)))] s.heap := hP
  have hl := lv_entry ([.ref k0]) (n := 2) (Nat.le_of_ble_eq_true rfl)
  rw [lg_entry_eq]
  generalize (lg_sl ([.ref k0]) ++ List.replicate (2 - (lg_sl ([.ref k0])).length) Slot.unset).toArray = ls at hl ⊢
  have hl : lv_has ls 2 [(0, .ref k0)] := hl
  obtain ⟨Q, hQ⟩ : ∃ Q, Q = MQ below (vp_Si (fun r => ∃ z : Nat, r.toInt = (z : Int) ∧ z ≤ 8 * kn ∧ (∀ d, z ≤ d → d < 8 * kn → by_w kf d = 0) ∧ (0 < z → by_w kf (z - 1) ≠ 0))) ([.ref k0] : List Value).toArray s 0 0 (fun _ => False) := ⟨_, rfl⟩
  rw [← hQ]
  refine lv_bipush (v := 8) hx hb d_Ke_letterBytes_0 (by decide) ?_
  refine lv_topi (fun v0 e0 => ?_)
  have t0 : v0.toInt = 8 := by rw [e0]; rfl
  refine lv_aload_n hx hb d_Ke_letterBytes_2 rfl (lv_at hl 0 rfl) ?_
  refine va_get (D := D) (ci := 0) (v := .ref kw) (C := R_Ke) (T := F_Ke) (N := 2) hx hb hts in_Ke hown hK hP 0 rfl rfl 1 (by decide) (hts _ tw_44) (fun _ h9 => h9) rfl d_Ke_letterBytes_3 ?_
  refine va_alen hx hb hK hP 1 0 rfl rfl rfl d_Ke_letterBytes_6 ?_
  refine lv_topi (fun v6 e6 => ?_)
  have t6 : v6.toInt = (kn : Nat) := by rw [e6]; exact ia_of _ (by omega)
  refine lv_imul hx hb d_Ke_letterBytes_7 ?_
  refine lv_topi (fun v7 e7 => ?_)
  have t7 := ia_mull 8 e7 (by omega) ⟨by omega, by omega⟩
  refine lv_istore_n (lv' := [(1, .int v7), (0, .ref k0)]) hx hb d_Ke_letterBytes_8 rfl hl (by decide) rfl (fun ls hl => ?_)
  have lp9 : ∀ (fuel9 : Nat) (en : Int32) (ls : Array Slot), lv_has ls 2 [(1, .int en), (0, .ref k0)] → (0 ≤ en.toInt) → (en.toInt ≤ 8 * (kn : Int)) → (∀ d, en.toInt.toNat ≤ d → d < 8 * kn → by_w kf d = 0) → en.toInt.toNat < fuel9 → W p l e ({ frames := 3, cells := 0, slots := 0, locals := 81 } : Room) s m ([.ref k0] : List Value).toArray below meth c s.heap [] 0 0 Q (F0 m 9 ls []) := by
    intro fuel9
    induction fuel9 with
    | zero => intro en ls hl h1 h2 h3 hm9; exact absurd hm9 (Nat.not_lt_zero _)
    | succ fuel9 ih9 =>
      intro en ls hl h1 h2 h3 hm9
      refine lv_iload_n hx hb d_Ke_letterBytes_9 rfl (lv_at hl 0 rfl) ?_
      refine lv_if_le hx hb d_Ke_letterBytes_10 (tgt := 29) (by decide) (fun g10 => ?_) (fun g10 => ?_)
      · have g10 := (iz_le).mp g10
        refine lv_iload_n hx hb d_Ke_letterBytes_29 rfl (lv_at hl 0 rfl) ?_
        have hpost : ∃ z : Nat, en.toInt = (z : Int) ∧ z ≤ 8 * kn ∧ (∀ d, z ≤ d → d < 8 * kn → by_w kf d = 0) ∧ (0 < z → by_w kf (z - 1) ≠ 0) := by
          refine ⟨en.toInt.toNat, by omega, by omega, h3, fun h4 => ?_⟩
          first
          | (exfalso; omega)
          | (rw [show en.toInt.toNat - 1 = v16.toInt.toNat by omega]; omega)
        rw [hQ]
        exact xr_reti (v := en) hx hb hr hlocks (hpost) d_Ke_letterBytes_30
      · have g10 := (iz_nle).mp g10
        refine lv_aload_n hx hb d_Ke_letterBytes_13 rfl (lv_at hl 1 rfl) ?_
        refine lv_iload_n hx hb d_Ke_letterBytes_14 rfl (lv_at hl 0 rfl) ?_
        refine lv_iconst (v := 1) hx hb d_Ke_letterBytes_15 (by decide) ?_
        refine lv_topi (fun v15 e15 => ?_)
        have t15 : v15.toInt = 1 := by rw [e15]; rfl
        refine lv_isub hx hb d_Ke_letterBytes_16 ?_
        refine lv_topi (fun v16 e16 => ?_)
        have t16 := ia_sub e16 ⟨by omega, by omega⟩
        refine vp_callSi (xr_rv (As := [.int v16]) (rest := []) ⟨hx, hb, hml, hown, hts⟩ (c_Ke_byteAt l D cL cI k0 kw kn isr kf v16 (by omega) (by omega) (by omega)) (xr_cv 1 hts tw_256 tw_253 tw_255 tp_4 tw_3 rfl rfl (by decide) ⟨by decide, by decide⟩) hK hP (va_recv hK hP rfl (q0 := 0) (ci := 0) rfl) rfl hl.1 rfl (Nat.le_of_ble_eq_true rfl) d_Ke_letterBytes_17 ⟨Nat.le_refl _, Nat.le_refl _⟩) (fun v17 e17 => ?_)
        have e17 : v17.toInt = (by_w kf v16.toInt.toNat : Int) := e17
        refine lv_if_ne hx hb d_Ke_letterBytes_20 (tgt := 29) (by decide) (fun g20 => ?_) (fun g20 => ?_)
        · have g20 := (iz_ne).mp g20
          refine lv_iload_n hx hb d_Ke_letterBytes_29 rfl (lv_at hl 0 rfl) ?_
          have hpost : ∃ z : Nat, en.toInt = (z : Int) ∧ z ≤ 8 * kn ∧ (∀ d, z ≤ d → d < 8 * kn → by_w kf d = 0) ∧ (0 < z → by_w kf (z - 1) ≠ 0) := by
            refine ⟨en.toInt.toNat, by omega, by omega, h3, fun h4 => ?_⟩
            first
            | (exfalso; omega)
            | (rw [show en.toInt.toNat - 1 = v16.toInt.toNat by omega]; omega)
          rw [hQ]
          exact xr_reti (v := en) hx hb hr hlocks (hpost) d_Ke_letterBytes_30
        · have g20 := (iz_eq).mp g20
          obtain ⟨v23, e23⟩ : ∃ z, z = en + Int32.ofInt (-1) := ⟨_, rfl⟩
          have t23 := ia_inc (-1) e23 (by decide) ⟨by omega, by omega⟩
          refine lv_iinc (k := 0) (lv' := [(1, .int v23), (0, .ref k0)]) hx hb d_Ke_letterBytes_23 hl rfl e23.symm (by decide) rfl (fun ls hl => ?_)
          refine lv_goto hx hb d_Ke_letterBytes_26 (tgt := 9) (by decide) ?_
          exact ih9 v23 ls hl (by omega) (by omega) (fun d h5 h6 => by
            by_cases h7 : d = v16.toInt.toNat
            · rw [h7]; omega
            · exact h3 d (by omega) h6) (by omega)
  exact lp9 _ v7  ls hl (by omega) (by omega) (fun d h1 h2 => by omega) (Nat.lt_succ_self _)
set_option maxRecDepth 100000 in
set_option maxHeartbeats 4000000 in
theorem c_Ta_zeroBytesBefore (l : Launch) (D : va_G) (cL cI : ClassId) (x0 : Int64)  : Met l y_Ta_zeroBytesBefore (Cond.code y_Ta_zeroBytesBefore prog_4_method_13_code 4 (some .int) :: TW) ({ frames := 1, cells := 0, slots := 0, locals := 40 } : Room) (PR D cL cI [.long x0] []) (vp_Si (fun r => ∃ z : Nat, r.toInt = (z : Int) ∧ zb_ok x0 z)) 0 0 (fun _ => False) := by
  refine xr_met (by decide) ?_
  intro p e s m args below meth c hx hb hr hts hown hlocks hname hml hv
  obtain ⟨rfl, hP, hK⟩ := hv
  have hown : s.vm.findClass "BranchStore$Table" = some m.cls := hown
  have hl := lv_entry ([.long x0]) (n := 4) (Nat.le_of_ble_eq_true rfl)
  rw [lg_entry_eq]
  generalize (lg_sl ([.long x0]) ++ List.replicate (4 - (lg_sl ([.long x0])).length) Slot.unset).toArray = ls at hl ⊢
  have hl : lv_has ls 4 [(0, .long x0)] := hl
  obtain ⟨Q, hQ⟩ : ∃ Q, Q = MQ below (vp_Si (fun r => ∃ z : Nat, r.toInt = (z : Int) ∧ zb_ok x0 z)) ([.long x0] : List Value).toArray s 0 0 (fun _ => False) := ⟨_, rfl⟩
  rw [← hQ]
  refine lv_iconst (v := 0) hx hb d_Ta_zeroBytesBefore_0 (by decide) ?_
  refine lv_topi (fun v0 e0 => ?_)
  have t0 : v0.toInt = 0 := by rw [e0]; rfl
  refine lv_istore_n (lv' := [(2, .int v0), (0, .long x0)]) hx hb d_Ta_zeroBytesBefore_1 rfl hl (by decide) rfl (fun ls hl => ?_)
  refine lv_bipush (v := 56) hx hb d_Ta_zeroBytesBefore_2 (by decide) ?_
  refine lv_topi (fun v2 e2 => ?_)
  have t2 : v2.toInt = 56 := by rw [e2]; rfl
  refine lv_istore_n (lv' := [(3, .int v2), (2, .int v0), (0, .long x0)]) hx hb d_Ta_zeroBytesBefore_4 rfl hl (by decide) rfl (fun ls hl => ?_)
  have lp5 : ∀ (fuel5 : Nat) (ss : Int32) (zz : Int32) (ls : Array Slot), lv_has ls 4 [(3, .int ss), (2, .int zz), (0, .long x0)] → (0 ≤ zz.toInt) → (ss.toInt = 56 - 8 * zz.toInt) → (zz.toInt ≤ 7) → (∀ k, k < zz.toInt.toNat → uN x0 / 2 ^ (56 - 8 * k) = 0) → ss.toInt.toNat < fuel5 → W p l e ({ frames := 1, cells := 0, slots := 0, locals := 40 } : Room) s m ([.long x0] : List Value).toArray below meth c s.heap [] 0 0 Q (F0 m 5 ls []) := by
    intro fuel5
    induction fuel5 with
    | zero => intro ss zz ls hl h1 h2 h3 h4 hm5; exact absurd hm5 (Nat.not_lt_zero _)
    | succ fuel5 ih5 =>
      intro ss zz ls hl h1 h2 h3 h4 hm5
      refine lv_iload_n hx hb d_Ta_zeroBytesBefore_5 rfl (lv_at hl 0 rfl) ?_
      refine lv_if_le hx hb d_Ta_zeroBytesBefore_6 (tgt := 26) (by decide) (fun g6 => ?_) (fun g6 => ?_)
      · have g6 := (iz_le).mp g6
        refine lv_iload_n hx hb d_Ta_zeroBytesBefore_26 rfl (lv_at hl 1 rfl) ?_
        have hpost : ∃ z : Nat, zz.toInt = (z : Int) ∧ zb_ok x0 z := by
          refine ⟨zz.toInt.toNat, by omega, by omega, h4, fun h5 => ?_⟩
          first
          | (exfalso; omega)
          | (have hq : uN v11 = uN x0 / 2 ^ (56 - 8 * zz.toInt.toNat) := by rw [e11]; exact uN_sh x0 (by omega) (by omega)
             rw [← hq]
             intro h6
             exact g14 ((uN_eq0.mpr h6).trans e12.symm))
        rw [hQ]
        exact xr_reti (v := zz) hx hb hr hlocks (hpost) d_Ta_zeroBytesBefore_27
      · have g6 := (iz_nle).mp g6
        refine lv_lload_n hx hb d_Ta_zeroBytesBefore_9 rfl (lv_at hl 2 rfl) ?_
        refine lv_iload_n hx hb d_Ta_zeroBytesBefore_10 rfl (lv_at hl 0 rfl) ?_
        refine lv_lushr hx hb d_Ta_zeroBytesBefore_11 rfl ?_
        refine lv_topl (fun v11 e11 => ?_)
        refine lv_lconst (v := 0) hx hb d_Ta_zeroBytesBefore_12 (by decide) ?_
        refine lv_topl (fun v12 e12 => ?_)
        refine W.lcmp hx hb d_Ta_zeroBytesBefore_13 ?_
        refine lv_topi (fun v13 e13 => ?_)
        refine lv_if_ne hx hb d_Ta_zeroBytesBefore_14 (tgt := 26) (by decide) (fun g14 => ?_) (fun g14 => ?_)
        · have g14 := (lc_ne e13).mp g14
          refine lv_iload_n hx hb d_Ta_zeroBytesBefore_26 rfl (lv_at hl 1 rfl) ?_
          have hpost : ∃ z : Nat, zz.toInt = (z : Int) ∧ zb_ok x0 z := by
            refine ⟨zz.toInt.toNat, by omega, by omega, h4, fun h5 => ?_⟩
            first
            | (exfalso; omega)
            | (have hq : uN v11 = uN x0 / 2 ^ (56 - 8 * zz.toInt.toNat) := by rw [e11]; exact uN_sh x0 (by omega) (by omega)
               rw [← hq]
               intro h6
               exact g14 ((uN_eq0.mpr h6).trans e12.symm))
          rw [hQ]
          exact xr_reti (v := zz) hx hb hr hlocks (hpost) d_Ta_zeroBytesBefore_27
        · have g14 := (lc_eq e13).mp g14
          obtain ⟨v17, e17⟩ : ∃ z, z = zz + Int32.ofInt 1 := ⟨_, rfl⟩
          have t17 := ia_inc 1 e17 (by decide) ⟨by omega, by omega⟩
          refine lv_iinc (k := 1) (lv' := [(2, .int v17), (3, .int ss), (0, .long x0)]) hx hb d_Ta_zeroBytesBefore_17 hl rfl e17.symm (by decide) rfl (fun ls hl => ?_)
          obtain ⟨v20, e20⟩ : ∃ z, z = ss + Int32.ofInt (-8) := ⟨_, rfl⟩
          have t20 := ia_inc (-8) e20 (by decide) ⟨by omega, by omega⟩
          refine lv_iinc (k := 1) (lv' := [(3, .int v20), (2, .int v17), (0, .long x0)]) hx hb d_Ta_zeroBytesBefore_20 hl rfl e20.symm (by decide) rfl (fun ls hl => ?_)
          refine lv_goto hx hb d_Ta_zeroBytesBefore_23 (tgt := 5) (by decide) ?_
          have hq : uN v11 = uN x0 / 2 ^ (56 - 8 * zz.toInt.toNat) := by rw [e11]; exact uN_sh x0 (by omega) (by omega)
          have hq0 : uN v11 = 0 := by rw [g14, e12]; rfl
          exact ih5 v20 v17 ls hl (by omega) (by omega) (by omega) (fun k hk => by
            by_cases h5 : k = zz.toInt.toNat
            · rw [h5, ← hq]; exact hq0
            · exact h4 k (by omega)) (by omega)
  exact lp5 _ v2 v0  ls hl (by omega) (by omega) (by omega) (fun k hk => by omega) (Nat.lt_succ_self _)
set_option maxRecDepth 100000 in
set_option maxHeartbeats 4000000 in
theorem c_Ta_sharedBytes (l : Launch) (D : va_G) (cL cI : ClassId) (tb cd vl nc w n : Nat) (wd cnt chg : Int32) (fc : Nat → Int64) (a0 na : Nat) (ga : Nat → Int64) (pl fr : Int32) (hw : wd.toInt = (w : Int)) (hw7 : 1 ≤ w ∧ w ≤ 7) (hnc : nc < 16777216) (hpl : 0 ≤ pl.toInt) (hpb : pl.toInt.toNat * w + w ≤ nc) (hna : na < 16777216) (hfr : 0 ≤ fr.toInt) (hfb : fr.toInt.toNat + w ≤ na) : Met l y_Ta_sharedBytes (Cond.code y_Ta_sharedBytes prog_4_method_12_code 7 (some .int) :: TW) ({ frames := 2, cells := 0, slots := 0, locals := 63 } : Room) (PR D cL cI [.ref tb, .int pl, .ref a0, .int fr] [(tb, .inr (2, [.int wd, .ref cd, .ref vl, .int cnt, .int chg])), (cd, .inl (cL, nc, .inr (.inl fc))), (a0, .inl (cL, na, .inr (.inl ga)))]) (vp_Si (fun r => r.toInt = (sh_w w (kr fc w pl.toInt.toNat) (fun j => ga (fr.toInt.toNat + j)) : Int))) 0 0 (fun _ => False) := by
  refine xr_met (by decide) ?_
  intro p e s m args below meth c hx hb hr hts hown hlocks hname hml hv
  obtain ⟨rfl, hP, hK⟩ := hv
  have hown : s.vm.findClass "BranchStore$Table" = some m.cls := hown
  have hP : va_P D classes [(tb, .inr (2, [.int wd, .ref cd, .ref vl, .int cnt, .int chg])), (cd, .inl (cL, nc, .inr (.inl fc))), (a0, .inl (cL, na, .inr (.inl ga)))] s.heap := hP
  have hl := lv_entry ([.ref tb, .int pl, .ref a0, .int fr]) (n := 7) (Nat.le_of_ble_eq_true rfl)
  rw [lg_entry_eq]
  generalize (lg_sl ([.ref tb, .int pl, .ref a0, .int fr]) ++ List.replicate (7 - (lg_sl ([.ref tb, .int pl, .ref a0, .int fr])).length) Slot.unset).toArray = ls at hl ⊢
  have hl : lv_has ls 7 [(0, .ref tb), (1, .int pl), (2, .ref a0), (3, .int fr)] := hl
  obtain ⟨Q, hQ⟩ : ∃ Q, Q = MQ below (vp_Si (fun r => r.toInt = (sh_w w (kr fc w pl.toInt.toNat) (fun j => ga (fr.toInt.toNat + j)) : Int))) ([.ref tb, .int pl, .ref a0, .int fr] : List Value).toArray s 0 0 (fun _ => False) := ⟨_, rfl⟩
  rw [← hQ]
  have hrg_pl := ia_rng pl
  have hrg_fr := ia_rng fr
  have hmul : pl.toInt * wd.toInt = ((pl.toInt.toNat * w : Nat) : Int) := ia_pw (by omega) hw
  refine lv_iconst (v := 0) hx hb d_Ta_sharedBytes_0 (by decide) ?_
  refine lv_topi (fun v0 e0 => ?_)
  have t0 : v0.toInt = 0 := by rw [e0]; rfl
  refine lv_istore (lv' := [(4, .int v0), (0, .ref tb), (1, .int pl), (2, .ref a0), (3, .int fr)]) hx hb d_Ta_sharedBytes_1 hl (by decide) rfl (fun ls hl => ?_)
  have lp3 : ∀ (fuel3 : Nat) (ii : Int32) (ls : Array Slot), lv_has ls 7 [(4, .int ii), (0, .ref tb), (1, .int pl), (2, .ref a0), (3, .int fr)] → (0 ≤ ii.toInt) → (ii.toInt ≤ (w : Int)) → (∀ j, j < ii.toInt.toNat → kr fc w pl.toInt.toNat j = ga (fr.toInt.toNat + j)) → w - ii.toInt.toNat < fuel3 → W p l e ({ frames := 2, cells := 0, slots := 0, locals := 63 } : Room) s m ([.ref tb, .int pl, .ref a0, .int fr] : List Value).toArray below meth c s.heap [] 0 0 Q (F0 m 3 ls []) := by
    intro fuel3
    induction fuel3 with
    | zero => intro ii ls hl h1 h2 h3 hm3; exact absurd hm3 (Nat.not_lt_zero _)
    | succ fuel3 ih3 =>
      intro ii ls hl h1 h2 h3 hm3
      refine lv_iload hx hb d_Ta_sharedBytes_3 (lv_at hl 0 rfl) ?_
      refine lv_aload_n hx hb d_Ta_sharedBytes_5 rfl (lv_at hl 1 rfl) ?_
      refine va_get (D := D) (ci := 2) (v := .int wd) (C := R_Ta) (T := F_Ta) (N := 5) hx hb hts in_Ta hown hK hP 0 rfl rfl 0 (by decide) (hts _ tw_59) (fun _ h9 => h9) rfl d_Ta_sharedBytes_6 ?_
      refine lv_icmp_ge hx hb d_Ta_sharedBytes_9 (tgt := 60) (by decide) (fun g9 => ?_) (fun g9 => ?_)
      · have g9 := ic_le.mp g9
        refine lv_aload_n hx hb d_Ta_sharedBytes_60 rfl (lv_at hl 1 rfl) ?_
        refine vp_callSi (xr_rv (As := []) (rest := []) ⟨hx, hb, hml, hown, hts⟩ (c_Ta_mostShared l D cL cI tb cd vl w wd cnt chg (by omega) (by omega)) (xr_cv 0 hts tw_84 tw_186 tw_82 tw_83 tw_5 rfl rfl (by decide) ⟨by decide, by decide⟩) hK (hP.sub (ws' := [(tb, .inr (2, [.int wd, .ref cd, .ref vl, .int cnt, .int chg]))]) [0] rfl) (va_recv hK hP rfl (q0 := 0) (ci := 2) rfl) rfl hl.1 rfl (Nat.le_of_ble_eq_true rfl) d_Ta_sharedBytes_61 ⟨Nat.le_refl _, Nat.le_refl _⟩) (fun v61 e61 => ?_)
        have e61 : v61.toInt = 8 * (w : Int) := e61
        have hpost : v61.toInt = (sh_w w (kr fc w pl.toInt.toNat) (fun j => ga (fr.toInt.toNat + j)) : Int) := by
          have := (sh_w_full (n := w) (a := kr fc w pl.toInt.toNat) (b := fun j => ga (fr.toInt.toNat + j))).mpr (fun j hj => h3 j (by omega))
          rw [this]
          omega
        rw [hQ]
        exact xr_reti (v := v61) hx hb hr hlocks (hpost) d_Ta_sharedBytes_64
      · have g9 := ic_nle.mp g9
        refine lv_aload_n hx hb d_Ta_sharedBytes_12 rfl (lv_at hl 1 rfl) ?_
        refine va_get (D := D) (ci := 2) (v := .ref cd) (C := R_Ta) (T := F_Ta) (N := 5) hx hb hts in_Ta hown hK hP 0 rfl rfl 1 (by decide) (hts _ tw_60) (fun _ h9 => h9) rfl d_Ta_sharedBytes_13 ?_
        refine lv_iload_n hx hb d_Ta_sharedBytes_16 rfl (lv_at hl 2 rfl) ?_
        refine lv_aload_n hx hb d_Ta_sharedBytes_17 rfl (lv_at hl 1 rfl) ?_
        refine va_get (D := D) (ci := 2) (v := .int wd) (C := R_Ta) (T := F_Ta) (N := 5) hx hb hts in_Ta hown hK hP 0 rfl rfl 0 (by decide) (hts _ tw_59) (fun _ h9 => h9) rfl d_Ta_sharedBytes_18 ?_
        refine lv_imul hx hb d_Ta_sharedBytes_21 ?_
        refine lv_topi (fun v21 e21 => ?_)
        have t21 := ia_mul e21 ⟨by rw [hmul]; omega, by rw [hmul]; omega⟩
        have t21 := t21.trans hmul
        refine lv_iload hx hb d_Ta_sharedBytes_22 (lv_at hl 0 rfl) ?_
        refine lv_iadd hx hb d_Ta_sharedBytes_24 ?_
        refine lv_topi (fun v24 e24 => ?_)
        have t24 := ia_add e24 ⟨by omega, by omega⟩
        refine va_lald hx hb hK hP 1 0 rfl rfl (ia_in ⟨by omega, by omega⟩) d_Ta_sharedBytes_25 ?_
        refine lv_topl (fun v25 e25 => ?_)
        have e25 : v25 = fc v24.toInt.toNat := e25
        refine lv_aload_n hx hb d_Ta_sharedBytes_26 rfl (lv_at hl 3 rfl) ?_
        refine lv_iload_n hx hb d_Ta_sharedBytes_27 rfl (lv_at hl 4 rfl) ?_
        refine lv_iload hx hb d_Ta_sharedBytes_28 (lv_at hl 0 rfl) ?_
        refine lv_iadd hx hb d_Ta_sharedBytes_30 ?_
        refine lv_topi (fun v30 e30 => ?_)
        have t30 := ia_add e30 ⟨by omega, by omega⟩
        refine va_lald hx hb hK hP 2 0 rfl rfl (ia_in ⟨by omega, by omega⟩) d_Ta_sharedBytes_31 ?_
        refine lv_topl (fun v31 e31 => ?_)
        have e31 : v31 = ga v30.toInt.toNat := e31
        refine lv_lxor hx hb d_Ta_sharedBytes_32 ?_
        refine lv_topl (fun v32 e32 => ?_)
        refine lv_lstore (lv' := [(5, .long v32), (4, .int ii), (0, .ref tb), (1, .int pl), (2, .ref a0), (3, .int fr)]) hx hb d_Ta_sharedBytes_33 hl (by decide) rfl (fun ls hl => ?_)
        refine lv_lload hx hb d_Ta_sharedBytes_35 (lv_at hl 0 rfl) ?_
        refine lv_lconst (v := 0) hx hb d_Ta_sharedBytes_37 (by decide) ?_
        refine lv_topl (fun v37 e37 => ?_)
        refine W.lcmp hx hb d_Ta_sharedBytes_38 ?_
        refine lv_topi (fun v38 e38 => ?_)
        refine lv_if_eq hx hb d_Ta_sharedBytes_39 (tgt := 54) (by decide) (fun g39 => ?_) (fun g39 => ?_)
        · have g39 := (lc_eq e38).mp g39
          obtain ⟨v54, e54⟩ : ∃ z, z = ii + Int32.ofInt 1 := ⟨_, rfl⟩
          have t54 := ia_inc 1 e54 (by decide) ⟨by omega, by omega⟩
          refine lv_iinc (k := 1) (lv' := [(4, .int v54), (5, .long v32), (0, .ref tb), (1, .int pl), (2, .ref a0), (3, .int fr)]) hx hb d_Ta_sharedBytes_54 hl rfl e54.symm (by decide) rfl (fun ls hl => ?_)
          refine lv_goto hx hb d_Ta_sharedBytes_57 (tgt := 3) (by decide) ?_
          have hx0 : v32 = 0 := by rw [g39, e37]
          have hq : v25 = v31 := by
            have h7 := uN_eq0.mp hx0
            rw [e32] at h7
            have h8 := (by_P_xor (x := v25) (y := v31) (k := 0)).mp (by rw [h7])
            rw [Nat.pow_zero, Nat.div_one, Nat.div_one] at h8
            exact uN_inj h8
          exact ih3 v54 ls (lv_sub hl [0, 2, 3, 4, 5] rfl) (by omega) (by omega) (fun j hj => by
            by_cases h5 : j = ii.toInt.toNat
            · show fc (pl.toInt.toNat * w + j) = _
              rw [show pl.toInt.toNat * w + j = v24.toInt.toNat by omega, show fr.toInt.toNat + j = v30.toInt.toNat by omega, ← e25, ← e31]; exact hq
            · exact h3 j (by omega)) (by omega)
        · have g39 := (lc_ne e38).mp g39
          refine lv_bipush (v := 8) hx hb d_Ta_sharedBytes_42 (by decide) ?_
          refine lv_topi (fun v42 e42 => ?_)
          have t42 : v42.toInt = 8 := by rw [e42]; rfl
          refine lv_iload hx hb d_Ta_sharedBytes_44 (lv_at hl 1 rfl) ?_
          refine lv_imul hx hb d_Ta_sharedBytes_46 ?_
          refine lv_topi (fun v46 e46 => ?_)
          have t46 := ia_mull 8 e46 (by omega) ⟨by omega, by omega⟩
          refine lv_lload hx hb d_Ta_sharedBytes_47 (lv_at hl 0 rfl) ?_
          refine vp_callSi (xr_rs (As := [.long v32]) (rest := [.int v46]) ⟨hx, hb, hml, hown, hts⟩ (c_Ta_zeroBytesBefore l D cL cI v32 ) (xr_cs 1 hts tw_185 tw_183 tw_184 tw_5 rfl rfl (by decide) ⟨by decide, by decide⟩) hK (hP.sub (ws' := []) [] rfl) rfl hl.1 rfl (Nat.le_of_ble_eq_true rfl) d_Ta_sharedBytes_49 ⟨Nat.le_refl _, Nat.le_refl _⟩) (fun v49 e49 => ?_)
          have e49 : ∃ z : Nat, v49.toInt = (z : Int) ∧ zb_ok v32 z := e49
          obtain ⟨z, hz1, hz2⟩ := e49
          have hz7 := hz2.1
          refine lv_iadd hx hb d_Ta_sharedBytes_52 ?_
          refine lv_topi (fun v52 e52 => ?_)
          have t52 := ia_add e52 ⟨by omega, by omega⟩
          have hpost : v52.toInt = (sh_w w (kr fc w pl.toInt.toNat) (fun j => ga (fr.toInt.toNat + j)) : Int) := by
            have hne : ¬ v32 = 0 := fun h5 => g39 (h5.trans e37.symm)
            have hzz := zb_P e32 hne hz2
            have ha : kr fc w pl.toInt.toNat ii.toInt.toNat = v25 := by
              show fc (pl.toInt.toNat * w + ii.toInt.toNat) = _
              rw [show pl.toInt.toNat * w + ii.toInt.toNat = v24.toInt.toNat by omega]; exact e25.symm
            have hb2 : ga (fr.toInt.toNat + ii.toInt.toNat) = v31 := by
              rw [show fr.toInt.toNat + ii.toInt.toNat = v30.toInt.toNat by omega]; exact e31.symm
            have := sh_w_word (n := w) (i := ii.toInt.toNat) (z := z) (a := kr fc w pl.toInt.toNat) (b := fun j => ga (fr.toInt.toNat + j)) (by omega) h3 (by omega) (by rw [ha]; show by_P v25 z = by_P (ga _) z; rw [hb2]; exact hzz.1) (by rw [ha]; show by_P v25 (z + 1) ≠ by_P (ga _) (z + 1); rw [hb2]; exact hzz.2)
            rw [this]
            omega
          rw [hQ]
          exact xr_reti (v := v52) hx hb hr hlocks (hpost) d_Ta_sharedBytes_53
  exact lp3 _ v0  ls hl (by omega) (by omega) (fun j hj => by omega) (Nat.lt_succ_self _)
