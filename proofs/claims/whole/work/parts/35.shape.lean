set_option maxRecDepth 100000 in
set_option maxHeartbeats 4000000 in
theorem c_Ma_floorMod (l : Launch) (D : va_G) (cL cI : ClassId) (x0 y0 : Int32) (hy : y0.toInt = 3) : Met l y_Ma_floorMod (Cond.code y_Ma_floorMod prog_13_method_50_code 3 (some .int) :: TW) ({ frames := 1, cells := 0, slots := 0, locals := 40 } : Room) (PR D cL cI [.int x0, .int y0] []) (vp_Si (fun r => r.toInt = x0.toInt % 3)) 0 0 (fun _ => False) := by
  refine xr_metF (by decide +kernel) ?_
  intro p e s m args below meth c hx hb hr hts hown hlocks hname hml hv
  obtain ⟨rfl, hP, hK⟩ := hv
  have hown : s.vm.findClass "java/lang/Math" = some m.cls := hown
  have hl := lv_entry ([.int x0, .int y0]) (n := 3) (Nat.le_of_ble_eq_true rfl)
  rw [lg_entry_eq]
  generalize (lg_sl ([.int x0, .int y0]) ++ List.replicate (3 - (lg_sl ([.int x0, .int y0])).length) Slot.unset).toArray = ls at hl ⊢
  have hl : lv_has ls 3 [(0, .int x0), (1, .int y0)] := hl
  obtain ⟨Q, hQ⟩ : ∃ Q, Q = MQ below (vp_Si (fun r => r.toInt = x0.toInt % 3)) ([.int x0, .int y0] : List Value).toArray s 0 0 (fun _ => False) := ⟨_, rfl⟩
  rw [← hQ]
  have hrg_x0 := ia_rng x0
  have hrg_y0 := ia_rng y0
  refine lv_iload_n hx hb d_Ma_floorMod_0 rfl (lv_at hl 0 rfl) ?_
  refine lv_iload_n hx hb d_Ma_floorMod_1 rfl (lv_at hl 1 rfl) ?_
  refine lv_irem hx hb d_Ma_floorMod_2 (ia_ne0 (by omega)) ?_
  refine lv_topi (fun v2 e2 => ?_)
  have t2 : v2.toInt = x0.toInt.tmod 3 := by rw [e2, rem_toInt, hy]
  have hsg := Int.tmod_def x0.toInt 3
  refine lv_istore_n (lv' := [(2, .int v2), (0, .int x0), (1, .int y0)]) hx hb d_Ma_floorMod_3 rfl hl (by decide) rfl (fun ls hl => ?_)
  refine lv_iload_n hx hb d_Ma_floorMod_4 rfl (lv_at hl 1 rfl) ?_
  refine lv_iload_n hx hb d_Ma_floorMod_5 rfl (lv_at hl 2 rfl) ?_
  refine lv_ixor hx hb d_Ma_floorMod_6 ?_
  refine lv_topi (fun v6 e6 => ?_)
  have hxr := ix_xor e6 (by omega)
  refine lv_if_ge hx hb d_Ma_floorMod_7 (tgt := 18) (by decide) (fun g7 => ?_) (fun g7 => ?_)
  · have g7 := (iz_ge).mp g7
    have hcases : 0 ≤ x0.toInt ∨ v2.toInt = 0 := by omega
    refine lv_iload_n hx hb d_Ma_floorMod_18 rfl (lv_at hl 0 rfl) ?_
    have hpost : v2.toInt = x0.toInt % 3 := by
      rcases hcases with h5 | h5
      · rw [t2, Int.tmod_eq_emod_of_nonneg h5]
      · rw [h5]
        rcases Int.lt_or_le x0.toInt 0 with h6 | h6
        · have htm : x0.toInt.tmod 3 = -((-x0.toInt) % 3) := by
            rw [show x0.toInt = -(-x0.toInt) by omega, Int.neg_tmod, Int.tmod_eq_emod_of_nonneg (by omega)]
            omega
          omega
        · rw [Int.tmod_eq_emod_of_nonneg h6] at t2
          omega
    rw [hQ]
    exact xr_reti (v := v2) hx hb hr hlocks (hpost) d_Ma_floorMod_19
  · have g7 := (iz_nge).mp g7
    have hneg : x0.toInt < 0 := by omega
    have htm : x0.toInt.tmod 3 = -((-x0.toInt) % 3) := by
          rw [show x0.toInt = -(-x0.toInt) by omega, Int.neg_tmod, Int.tmod_eq_emod_of_nonneg (by omega)]
          omega
    refine lv_iload_n hx hb d_Ma_floorMod_10 rfl (lv_at hl 0 rfl) ?_
    refine lv_if_eq hx hb d_Ma_floorMod_11 (tgt := 18) (by decide) (fun g11 => ?_) (fun g11 => ?_)
    · have g11 := (iz_eq).mp g11
      have hcases : 0 ≤ x0.toInt ∨ v2.toInt = 0 := by omega
      refine lv_iload_n hx hb d_Ma_floorMod_18 rfl (lv_at hl 0 rfl) ?_
      have hpost : v2.toInt = x0.toInt % 3 := by
        rcases hcases with h5 | h5
        · rw [t2, Int.tmod_eq_emod_of_nonneg h5]
        · rw [h5]
          rcases Int.lt_or_le x0.toInt 0 with h6 | h6
          · have htm : x0.toInt.tmod 3 = -((-x0.toInt) % 3) := by
              rw [show x0.toInt = -(-x0.toInt) by omega, Int.neg_tmod, Int.tmod_eq_emod_of_nonneg (by omega)]
              omega
            omega
          · rw [Int.tmod_eq_emod_of_nonneg h6] at t2
            omega
      rw [hQ]
      exact xr_reti (v := v2) hx hb hr hlocks (hpost) d_Ma_floorMod_19
    · have g11 := (iz_ne).mp g11
      refine lv_iload_n hx hb d_Ma_floorMod_14 rfl (lv_at hl 0 rfl) ?_
      refine lv_iload_n hx hb d_Ma_floorMod_15 rfl (lv_at hl 2 rfl) ?_
      refine lv_iadd hx hb d_Ma_floorMod_16 ?_
      refine lv_topi (fun v16 e16 => ?_)
      have t16 := ia_add e16 ⟨by omega, by omega⟩
      rw [hQ]
      exact xr_reti (v := v16) hx hb hr hlocks (by omega) d_Ma_floorMod_17
set_option maxRecDepth 100000 in
set_option maxHeartbeats 4000000 in
theorem c_Lo_bitCount (l : Launch) (D : va_G) (cL cI : ClassId) (x0 : Int64)  : Met l y_Lo_bitCount (Cond.code y_Lo_bitCount prog_12_method_50_code 2 (some .int) :: TW) ({ frames := 1, cells := 0, slots := 0, locals := 40 } : Room) (PR D cL cI [.long x0] []) (vp_Si (fun r => r.toInt = (cb_num (fun i => Nat.testBit (uN x0) i) 64 : Int))) 0 0 (fun _ => False) := by
  refine xr_met (by decide) ?_
  intro p e s m args below meth c hx hb hr hts hown hlocks hname hml hv
  obtain ⟨rfl, hP, hK⟩ := hv
  have hown : s.vm.findClass "java/lang/Long" = some m.cls := hown
  have hl := lv_entry ([.long x0]) (n := 2) (Nat.le_of_ble_eq_true rfl)
  rw [lg_entry_eq]
  generalize (lg_sl ([.long x0]) ++ List.replicate (2 - (lg_sl ([.long x0])).length) Slot.unset).toArray = ls at hl ⊢
  have hl : lv_has ls 2 [(0, .long x0)] := hl
  obtain ⟨Q, hQ⟩ : ∃ Q, Q = MQ below (vp_Si (fun r => r.toInt = (cb_num (fun i => Nat.testBit (uN x0) i) 64 : Int))) ([.long x0] : List Value).toArray s 0 0 (fun _ => False) := ⟨_, rfl⟩
  rw [← hQ]
  refine lv_lload_n hx hb d_Lo_bitCount_0 rfl (lv_at hl 0 rfl) ?_
  refine lv_lload_n hx hb d_Lo_bitCount_1 rfl (lv_at hl 0 rfl) ?_
  refine lv_iconst (v := 1) hx hb d_Lo_bitCount_2 (by decide) ?_
  refine lv_topi (fun v2 e2 => ?_)
  have t2 : v2.toInt = 1 := by rw [e2]; rfl
  refine lv_lushr hx hb d_Lo_bitCount_3 rfl ?_
  refine lv_topl (fun v3 e3 => ?_)
  refine lv_ldc2 (v := 6148914691236517205) hx hb hown (hts _ tw_592) d_Lo_bitCount_4 ?_
  refine lv_topl (fun v4 e4 => ?_)
  refine lv_land hx hb d_Lo_bitCount_7 ?_
  refine lv_topl (fun v7 e7 => ?_)
  refine lv_lsub hx hb d_Lo_bitCount_8 ?_
  refine lv_topl (fun v8 e8 => ?_)
  refine lv_lstore_n (lv' := [(0, .long v8)]) hx hb d_Lo_bitCount_9 rfl hl (by decide) rfl (fun ls hl => ?_)
  refine lv_lload_n hx hb d_Lo_bitCount_10 rfl (lv_at hl 0 rfl) ?_
  refine lv_ldc2 (v := 3689348814741910323) hx hb hown (hts _ tw_593) d_Lo_bitCount_11 ?_
  refine lv_topl (fun v11 e11 => ?_)
  refine lv_land hx hb d_Lo_bitCount_14 ?_
  refine lv_topl (fun v14 e14 => ?_)
  refine lv_lload_n hx hb d_Lo_bitCount_15 rfl (lv_at hl 0 rfl) ?_
  refine lv_iconst (v := 2) hx hb d_Lo_bitCount_16 (by decide) ?_
  refine lv_topi (fun v16 e16 => ?_)
  have t16 : v16.toInt = 2 := by rw [e16]; rfl
  refine lv_lushr hx hb d_Lo_bitCount_17 rfl ?_
  refine lv_topl (fun v17 e17 => ?_)
  refine lv_ldc2 (v := 3689348814741910323) hx hb hown (hts _ tw_593) d_Lo_bitCount_18 ?_
  refine lv_topl (fun v18 e18 => ?_)
  refine lv_land hx hb d_Lo_bitCount_21 ?_
  refine lv_topl (fun v21 e21 => ?_)
  refine lv_ladd hx hb d_Lo_bitCount_22 ?_
  refine lv_topl (fun v22 e22 => ?_)
  refine lv_lstore_n (lv' := [(0, .long v22)]) hx hb d_Lo_bitCount_23 rfl hl (by decide) rfl (fun ls hl => ?_)
  refine lv_lload_n hx hb d_Lo_bitCount_24 rfl (lv_at hl 0 rfl) ?_
  refine lv_lload_n hx hb d_Lo_bitCount_25 rfl (lv_at hl 0 rfl) ?_
  refine lv_iconst (v := 4) hx hb d_Lo_bitCount_26 (by decide) ?_
  refine lv_topi (fun v26 e26 => ?_)
  have t26 : v26.toInt = 4 := by rw [e26]; rfl
  refine lv_lushr hx hb d_Lo_bitCount_27 rfl ?_
  refine lv_topl (fun v27 e27 => ?_)
  refine lv_ladd hx hb d_Lo_bitCount_28 ?_
  refine lv_topl (fun v28 e28 => ?_)
  refine lv_ldc2 (v := 1085102592571150095) hx hb hown (hts _ tw_594) d_Lo_bitCount_29 ?_
  refine lv_topl (fun v29 e29 => ?_)
  refine lv_land hx hb d_Lo_bitCount_32 ?_
  refine lv_topl (fun v32 e32 => ?_)
  refine lv_lstore_n (lv' := [(0, .long v32)]) hx hb d_Lo_bitCount_33 rfl hl (by decide) rfl (fun ls hl => ?_)
  refine lv_lload_n hx hb d_Lo_bitCount_34 rfl (lv_at hl 0 rfl) ?_
  refine lv_lload_n hx hb d_Lo_bitCount_35 rfl (lv_at hl 0 rfl) ?_
  refine lv_bipush (v := 8) hx hb d_Lo_bitCount_36 (by decide) ?_
  refine lv_topi (fun v36 e36 => ?_)
  have t36 : v36.toInt = 8 := by rw [e36]; rfl
  refine lv_lushr hx hb d_Lo_bitCount_38 rfl ?_
  refine lv_topl (fun v38 e38 => ?_)
  refine lv_ladd hx hb d_Lo_bitCount_39 ?_
  refine lv_topl (fun v39 e39 => ?_)
  refine lv_lstore_n (lv' := [(0, .long v39)]) hx hb d_Lo_bitCount_40 rfl hl (by decide) rfl (fun ls hl => ?_)
  refine lv_lload_n hx hb d_Lo_bitCount_41 rfl (lv_at hl 0 rfl) ?_
  refine lv_lload_n hx hb d_Lo_bitCount_42 rfl (lv_at hl 0 rfl) ?_
  refine lv_bipush (v := 16) hx hb d_Lo_bitCount_43 (by decide) ?_
  refine lv_topi (fun v43 e43 => ?_)
  have t43 : v43.toInt = 16 := by rw [e43]; rfl
  refine lv_lushr hx hb d_Lo_bitCount_45 rfl ?_
  refine lv_topl (fun v45 e45 => ?_)
  refine lv_ladd hx hb d_Lo_bitCount_46 ?_
  refine lv_topl (fun v46 e46 => ?_)
  refine lv_lstore_n (lv' := [(0, .long v46)]) hx hb d_Lo_bitCount_47 rfl hl (by decide) rfl (fun ls hl => ?_)
  refine lv_lload_n hx hb d_Lo_bitCount_48 rfl (lv_at hl 0 rfl) ?_
  refine lv_lload_n hx hb d_Lo_bitCount_49 rfl (lv_at hl 0 rfl) ?_
  refine lv_bipush (v := 32) hx hb d_Lo_bitCount_50 (by decide) ?_
  refine lv_topi (fun v50 e50 => ?_)
  have t50 : v50.toInt = 32 := by rw [e50]; rfl
  refine lv_lushr hx hb d_Lo_bitCount_52 rfl ?_
  refine lv_topl (fun v52 e52 => ?_)
  refine lv_ladd hx hb d_Lo_bitCount_53 ?_
  refine lv_topl (fun v53 e53 => ?_)
  refine lv_lstore_n (lv' := [(0, .long v53)]) hx hb d_Lo_bitCount_54 rfl hl (by decide) rfl (fun ls hl => ?_)
  have ua := bc_all (uN x0)
  have u3 : uN v3 = uN x0 / 2 := by rw [e3]; exact uN_sh x0 (k := 1) t2 (by decide)
  have u17 : uN v17 = uN v8 / 4 := by rw [e17]; exact uN_sh v8 (k := 2) t16 (by decide)
  have u27 : uN v27 = uN v22 / 16 := by rw [e27]; exact uN_sh v22 (k := 4) t26 (by decide)
  have u38 : uN v38 = uN v32 / 256 := by rw [e38]; exact uN_sh v32 (k := 8) t36 (by decide)
  have u45 : uN v45 = uN v39 / 65536 := by rw [e45]; exact uN_sh v39 (k := 16) t43 (by decide)
  have u52 : uN v52 = uN v46 / 4294967296 := by rw [e52]; exact uN_sh v46 (k := 32) t50 (by decide)
  have u4 : uN v4 = bc_m 85 8 := by rw [e4]; decide +kernel
  have u11 : uN v11 = bc_m 51 8 := by rw [e11]; decide +kernel
  have u18 : uN v18 = bc_m 51 8 := by rw [e18]; decide +kernel
  have u29 : uN v29 = bc_m 15 8 := by rw [e29]; decide +kernel
  have u7 : uN v7 = uN x0 / 2 &&& bc_m 85 8 := by rw [e7, uN_and, u3, u4]
  have u8 : uN v8 = bc_1 8 (uN x0) := by
        have h5 := bc_le 8 (uN x0)
        rw [e8, uN_sub _ _ (by rw [u7]; exact h5), u7]; rfl
  have u14 : uN v14 = bc_1 8 (uN x0) &&& bc_m 51 8 := by rw [e14, uN_and, u8, u11]
  have u21 : uN v21 = bc_1 8 (uN x0) / 4 &&& bc_m 51 8 := by rw [e21, uN_and, u17, u8, u18]
  have hm3 : bc_m 51 8 = 3689348814741910323 := by decide +kernel
  have hm15 : bc_m 15 8 = 1085102592571150095 := by decide +kernel
  have l14 : uN v14 ≤ 3689348814741910323 := by rw [u14, ← hm3]; exact Nat.and_le_right
  have l21 : uN v21 ≤ 3689348814741910323 := by rw [u21, ← hm3]; exact Nat.and_le_right
  have u22 : uN v22 = bc_2 8 (uN x0) := by
        rw [e22, uN_add, Nat.mod_eq_of_lt (by omega), u14, u21]; rfl
  have l22 : uN v22 ≤ 7378697629483820646 := by
        rw [e22, uN_add, Nat.mod_eq_of_lt (by omega)]; omega
  have u28 : uN v28 = bc_2 8 (uN x0) + bc_2 8 (uN x0) / 16 := by
        rw [e28, uN_add, u27, Nat.mod_eq_of_lt (by omega), u22]
  have u32 : uN v32 = bc_3 8 (uN x0) := by rw [e32, uN_and, u28, u29]; rfl
  have l32 := ua.2
  rw [← u32] at l32
  have u39 : uN v39 = bc_3 8 (uN x0) + bc_3 8 (uN x0) / 256 := by
        rw [e39, uN_add, u38, Nat.mod_eq_of_lt (by omega), u32]
  have l39 : uN v39 < 2305843009213693952 := by
        rw [e39, uN_add, u38, Nat.mod_eq_of_lt (by omega)]; omega
  have u46 : uN v46 = (bc_3 8 (uN x0) + bc_3 8 (uN x0) / 256) + (bc_3 8 (uN x0) + bc_3 8 (uN x0) / 256) / 65536 := by
        rw [e46, uN_add, u45, Nat.mod_eq_of_lt (by omega), u39]
  have l46 : uN v46 < 4611686018427387904 := by
        rw [e46, uN_add, u45, Nat.mod_eq_of_lt (by omega)]; omega
  have u53 : uN v53 = uN v46 + uN v46 / 4294967296 := by
        rw [e53, uN_add, u52, Nat.mod_eq_of_lt (by omega)]
  refine lv_lload_n hx hb d_Lo_bitCount_55 rfl (lv_at hl 0 rfl) ?_
  refine lv_l2i hx hb d_Lo_bitCount_56 rfl ?_
  refine lv_topi (fun v56 e56 => ?_)
  refine lv_bipush (v := 127) hx hb d_Lo_bitCount_57 (by decide) ?_
  refine lv_topi (fun v57 e57 => ?_)
  have t57 : v57.toInt = 127 := by rw [e57]; rfl
  refine lv_iand hx hb d_Lo_bitCount_59 ?_
  refine lv_topi (fun v59 e59 => ?_)
  have t59 := ia_mask 7 e59 (by decide) (by rw [e57]; decide)
  have hpost : v59.toInt = (cb_num (fun i => Nat.testBit (uN x0) i) 64 : Int) := by
    have h6 := uN_low7 e56
    rw [← ua.1, ← u46, ← u53]
    omega
  rw [hQ]
  exact xr_reti (v := v59) hx hb hr hlocks (hpost) d_Lo_bitCount_60
