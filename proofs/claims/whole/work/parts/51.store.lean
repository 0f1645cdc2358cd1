set_option maxRecDepth 100000 in
set_option maxHeartbeats 4000000 in
theorem c_St_lastNumberFits (l : Launch) (D : va_G) (cL cI : ClassId) (x0 y0 : Int64) (n0 : Int32) (hy : 1 ≤ y0.toInt) (hn0 : 0 ≤ n0.toInt) : Met l y_St_lastNumberFits (Cond.code y_St_lastNumberFits prog_1_method_28_code 11 (some .boolean) :: TW) ({ frames := 1, cells := 0, slots := 0, locals := 40 } : Room) (PR D cL cI [.long x0, .long y0, .int n0] []) (vp_Si (fun r => (r = 0 ∨ r = 1) ∧ (r = 1 ↔ ft_ok x0 y0 n0.toInt))) 0 0 (fun _ => False) := by
  refine xr_met (by decide) ?_
  intro p e s m args below meth c hx hb hr hts hown hlocks hname hml hv
  obtain ⟨rfl, hP, hK⟩ := hv
  have hown : s.vm.findClass "BranchStore" = some m.cls := hown
  have hl := lv_entry ([.long x0, .long y0, .int n0]) (n := 11) (Nat.le_of_ble_eq_true rfl)
  rw [lg_entry_eq]
  generalize (lg_sl ([.long x0, .long y0, .int n0]) ++ List.replicate (11 - (lg_sl ([.long x0, .long y0, .int n0])).length) Slot.unset).toArray = ls at hl ⊢
  have hl : lv_has ls 11 [(0, .long x0), (2, .long y0), (4, .int n0)] := hl
  obtain ⟨Q, hQ⟩ : ∃ Q, Q = MQ below (vp_Si (fun r => (r = 0 ∨ r = 1) ∧ (r = 1 ↔ ft_ok x0 y0 n0.toInt))) ([.long x0, .long y0, .int n0] : List Value).toArray s 0 0 (fun _ => False) := ⟨_, rfl⟩
  rw [← hQ]
  have hrg_n0 := ia_rng n0
  refine lv_ldc2 (v := 9223372036854775807) hx hb hown (hts _ tw_570) d_St_lastNumberFits_0 ?_
  refine lv_topl (fun v0 e0 => ?_)
  refine lv_lload_n hx hb d_St_lastNumberFits_3 rfl (lv_at hl 0 rfl) ?_
  refine lv_lsub hx hb d_St_lastNumberFits_4 ?_
  refine lv_topl (fun v4 e4 => ?_)
  refine lv_lstore (lv' := [(5, .long v4), (0, .long x0), (2, .long y0), (4, .int n0)]) hx hb d_St_lastNumberFits_5 hl (by decide) rfl (fun ls hl => ?_)
  refine lv_lload hx hb d_St_lastNumberFits_7 (lv_at hl 0 rfl) ?_
  refine lv_iconst (v := 1) hx hb d_St_lastNumberFits_9 (by decide) ?_
  refine lv_topi (fun v9 e9 => ?_)
  have t9 : v9.toInt = 1 := by rw [e9]; rfl
  refine lv_lushr hx hb d_St_lastNumberFits_10 rfl ?_
  refine lv_topl (fun v10 e10 => ?_)
  refine lv_lload_n hx hb d_St_lastNumberFits_11 rfl (lv_at hl 2 rfl) ?_
  refine lv_ldiv hx hb d_St_lastNumberFits_12 (fun h5 => by rw [h5] at hy; exact absurd hy (by decide)) ?_
  refine lv_topl (fun v12 e12 => ?_)
  refine lv_iconst (v := 1) hx hb d_St_lastNumberFits_13 (by decide) ?_
  refine lv_topi (fun v13 e13 => ?_)
  have t13 : v13.toInt = 1 := by rw [e13]; rfl
  refine lv_lshl hx hb d_St_lastNumberFits_14 rfl ?_
  refine lv_topl (fun v14 e14 => ?_)
  refine lv_lstore (lv' := [(7, .long v14), (5, .long v4), (0, .long x0), (2, .long y0), (4, .int n0)]) hx hb d_St_lastNumberFits_15 hl (by decide) rfl (fun ls hl => ?_)
  refine lv_lload hx hb d_St_lastNumberFits_17 (lv_at hl 1 rfl) ?_
  refine lv_lload hx hb d_St_lastNumberFits_19 (lv_at hl 0 rfl) ?_
  refine lv_lload_n hx hb d_St_lastNumberFits_21 rfl (lv_at hl 3 rfl) ?_
  refine lv_lmul hx hb d_St_lastNumberFits_22 ?_
  refine lv_topl (fun v22 e22 => ?_)
  refine lv_lsub hx hb d_St_lastNumberFits_23 ?_
  refine lv_topl (fun v23 e23 => ?_)
  refine lv_lstore (lv' := [(9, .long v23), (7, .long v14), (5, .long v4), (0, .long x0), (2, .long y0), (4, .int n0)]) hx hb d_St_lastNumberFits_24 hl (by decide) rfl (fun ls hl => ?_)
  have hrx := il_rng x0
  have hry := il_rng y0
  have hst := uN_pos (x := y0) (by omega)
  have ft := fit_nat (W := ft_w x0) (st := uN y0) (by omega)
  have hWd : (ft_w x0 : Int) = 9223372036854775807 - x0.toInt := by unfold ft_w; omega
  have u4 : uN v4 = ft_w x0 := by
        have h5 := uN_subm v0 x0
        rw [← e4, e0, show (9223372036854775807 : Int64).toInt = 9223372036854775807 from rfl] at h5
        omega
  have u10 : uN v10 = ft_w x0 / 2 := by rw [e10, uN_sh v4 (k := 1) t9 (by decide), u4]
  have i10 : v10.toInt = ((ft_w x0 / 2 : Nat) : Int) := by
        have h5 := uN_int v10
        rw [u10, if_pos (by omega)] at h5
        exact h5
  have i12 : v12.toInt = ((ft_w x0 / 2 / uN y0 : Nat) : Int) := by
        rw [e12, Jvm.Kit.i64_div (by omega), i10, ← hst, Int.tdiv_eq_ediv_of_nonneg (by omega)]
        rfl
  have hle : ft_w x0 / 2 / uN y0 ≤ ft_w x0 / 2 := Nat.div_le_self _ _
  have u12 : uN v12 = ft_w x0 / 2 / uN y0 := by have h5 := uN_pos (x := v12) (by omega); omega
  have u14 : uN v14 = 2 * (ft_w x0 / 2 / uN y0) := by rw [e14, e13, uN_shl, u12]; omega
  have u22 : uN v22 = 2 * (ft_w x0 / 2 / uN y0) * uN y0 := by
        rw [e22, uN_mul, u14]
        exact Nat.mod_eq_of_lt (by omega)
  have u23 : uN v23 = ft_w x0 - 2 * (ft_w x0 / 2 / uN y0) * uN y0 := by rw [e23, uN_sub _ _ (by omega), u4, u22]
  refine lv_lload hx hb d_St_lastNumberFits_26 (lv_at hl 0 rfl) ?_
  refine lv_lconst (v := 0) hx hb d_St_lastNumberFits_28 (by decide) ?_
  refine lv_topl (fun v28 e28 => ?_)
  refine W.lcmp hx hb d_St_lastNumberFits_29 ?_
  refine lv_topi (fun v29 e29 => ?_)
  refine lv_if_lt hx hb d_St_lastNumberFits_30 (tgt := 40) (by decide) (fun g30 => ?_) (fun g30 => ?_)
  · have g30 := (lc_lt e29).mp g30
    have hge : uN y0 ≤ uN v23 := by
          first
          | (have h5 := il_lt.mp g30
             rw [e28] at h5
             have h6 := uN_neg.mp h5
             omega)
          | (rcases Int.lt_or_le v23.toInt y0.toInt with h5 | h5
             · exact absurd (il_lt.mpr h5) g37
             · omega)
    refine lv_lload hx hb d_St_lastNumberFits_40 (lv_at hl 1 rfl) ?_
    refine lv_lconst (v := 1) hx hb d_St_lastNumberFits_42 (by decide) ?_
    refine lv_topl (fun v42 e42 => ?_)
    refine lv_ladd hx hb d_St_lastNumberFits_43 ?_
    refine lv_topl (fun v43 e43 => ?_)
    refine lv_lstore (lv' := [(7, .long v43), (9, .long v23), (5, .long v4), (0, .long x0), (2, .long y0), (4, .int n0)]) hx hb d_St_lastNumberFits_44 hl (by decide) rfl (fun ls hl => ?_)
    have hsteps : uN v43 = ft_w x0 / uN y0 := by
          first
          | (rw [e43, uN_add, u14, e42, show uN 1 = 1 from rfl, ft.2.2, if_pos (by rw [← u23]; exact hge)]
             exact Nat.mod_eq_of_lt (by omega))
          | (rw [u14, ft.2.2, if_neg (by rw [← u23]; have h5 := il_lt.mp g37; omega), Nat.add_zero])
    refine lv_lload hx hb d_St_lastNumberFits_46 (lv_at hl 0 rfl) ?_
    refine lv_lconst (v := 0) hx hb d_St_lastNumberFits_48 (by decide) ?_
    refine lv_topl (fun v48 e48 => ?_)
    refine W.lcmp hx hb d_St_lastNumberFits_49 ?_
    refine lv_topi (fun v49 e49 => ?_)
    refine lv_if_lt hx hb d_St_lastNumberFits_50 (tgt := 64) (by decide) (fun g50 => ?_) (fun g50 => ?_)
    · have g50 := (lc_lt e49).mp g50
      refine lv_iconst (v := 1) hx hb d_St_lastNumberFits_64 (by decide) ?_
      refine lv_topi (fun v64 e64 => ?_)
      have t64 : v64.toInt = 1 := by rw [e64]; rfl
      refine lv_goto hx hb d_St_lastNumberFits_65 (tgt := 69) (by decide) ?_
      have hpost : (v64 = 0 ∨ v64 = 1) ∧ (v64 = 1 ↔ ft_ok x0 y0 n0.toInt) := by
        unfold ft_ok
        first
        | (refine ⟨Or.inl e68, ⟨fun h5 => absurd (h5.symm.trans e68) (by decide), fun h5 => ?_⟩⟩
           exfalso
           have h6 := il_lt.mp g61
           rw [e57] at h6
           omega)
        | (refine ⟨Or.inr e64, ⟨fun _ => ?_, fun _ => e64⟩⟩
           have h6 := il_lt.mp g50
           rw [e48] at h6
           have h7 := uN_neg.mp h6
           omega)
        | (refine ⟨Or.inr e64, ⟨fun _ => ?_, fun _ => e64⟩⟩
           rcases Int.lt_or_le v43.toInt (v57.toInt) with h6 | h6
           · exact absurd (il_lt.mpr h6) g61
           · rw [e57] at h6
             omega)
      rw [hQ]
      exact xr_retz (v := v64) hx hb hr hlocks (Or.inr e64) (hpost) d_St_lastNumberFits_69
    · have g50 := (lc_nlt e49).mp g50
      have hp7 : 0 ≤ v43.toInt := by
            rcases Int.lt_or_le v43.toInt 0 with h5 | h5
            · exact absurd (il_lt.mpr (by rw [e48]; exact h5)) g50
            · exact h5
      have hu7 := uN_pos hp7
      refine lv_iload hx hb d_St_lastNumberFits_53 (lv_at hl 5 rfl) ?_
      refine lv_iconst (v := 1) hx hb d_St_lastNumberFits_55 (by decide) ?_
      refine lv_topi (fun v55 e55 => ?_)
      have t55 : v55.toInt = 1 := by rw [e55]; rfl
      refine lv_isub hx hb d_St_lastNumberFits_56 ?_
      refine lv_topi (fun v56 e56 => ?_)
      have t56 := ia_sub e56 ⟨by omega, by omega⟩
      have hi57 : v56.toInt64.toInt = v56.toInt := Jvm.Kit.i64_of_i32 v56
      refine lv_i2l hx hb d_St_lastNumberFits_57 rfl ?_
      refine lv_topl (fun v57 e57 => ?_)
      refine lv_lload hx hb d_St_lastNumberFits_58 (lv_at hl 0 rfl) ?_
      refine W.lcmp hx hb d_St_lastNumberFits_60 ?_
      refine lv_topi (fun v60 e60 => ?_)
      refine lv_if_gt hx hb d_St_lastNumberFits_61 (tgt := 68) (by decide) (fun g61 => ?_) (fun g61 => ?_)
      · have g61 := (lc_gt e60).mp g61
        refine lv_iconst (v := 0) hx hb d_St_lastNumberFits_68 (by decide) ?_
        refine lv_topi (fun v68 e68 => ?_)
        have t68 : v68.toInt = 0 := by rw [e68]; rfl
        have hpost : (v68 = 0 ∨ v68 = 1) ∧ (v68 = 1 ↔ ft_ok x0 y0 n0.toInt) := by
          unfold ft_ok
          first
          | (refine ⟨Or.inl e68, ⟨fun h5 => absurd (h5.symm.trans e68) (by decide), fun h5 => ?_⟩⟩
             exfalso
             have h6 := il_lt.mp g61
             rw [e57] at h6
             omega)
          | (refine ⟨Or.inr e64, ⟨fun _ => ?_, fun _ => e64⟩⟩
             have h6 := il_lt.mp g50
             rw [e48] at h6
             have h7 := uN_neg.mp h6
             omega)
          | (refine ⟨Or.inr e64, ⟨fun _ => ?_, fun _ => e64⟩⟩
             rcases Int.lt_or_le v43.toInt (v57.toInt) with h6 | h6
             · exact absurd (il_lt.mpr h6) g61
             · rw [e57] at h6
               omega)
        rw [hQ]
        exact xr_retz (v := v68) hx hb hr hlocks (Or.inl e68) (hpost) d_St_lastNumberFits_69
      · have g61 := (lc_ngt e60).mp g61
        refine lv_iconst (v := 1) hx hb d_St_lastNumberFits_64 (by decide) ?_
        refine lv_topi (fun v64 e64 => ?_)
        have t64 : v64.toInt = 1 := by rw [e64]; rfl
        refine lv_goto hx hb d_St_lastNumberFits_65 (tgt := 69) (by decide) ?_
        have hpost : (v64 = 0 ∨ v64 = 1) ∧ (v64 = 1 ↔ ft_ok x0 y0 n0.toInt) := by
          unfold ft_ok
          first
          | (refine ⟨Or.inl e68, ⟨fun h5 => absurd (h5.symm.trans e68) (by decide), fun h5 => ?_⟩⟩
             exfalso
             have h6 := il_lt.mp g61
             rw [e57] at h6
             omega)
          | (refine ⟨Or.inr e64, ⟨fun _ => ?_, fun _ => e64⟩⟩
             have h6 := il_lt.mp g50
             rw [e48] at h6
             have h7 := uN_neg.mp h6
             omega)
          | (refine ⟨Or.inr e64, ⟨fun _ => ?_, fun _ => e64⟩⟩
             rcases Int.lt_or_le v43.toInt (v57.toInt) with h6 | h6
             · exact absurd (il_lt.mpr h6) g61
             · rw [e57] at h6
               omega)
        rw [hQ]
        exact xr_retz (v := v64) hx hb hr hlocks (Or.inr e64) (hpost) d_St_lastNumberFits_69
  · have g30 := (lc_nlt e29).mp g30
    have g30 := fun h5 => g30 (il_lt.mpr h5)
    rw [e28] at g30
    have hp23 : 0 ≤ v23.toInt := by
          rcases Int.lt_or_le v23.toInt 0 with h5 | h5
          · exact absurd h5 g30
          · exact h5
    have hu23 := uN_pos hp23
    refine lv_lload hx hb d_St_lastNumberFits_33 (lv_at hl 0 rfl) ?_
    refine lv_lload_n hx hb d_St_lastNumberFits_35 rfl (lv_at hl 4 rfl) ?_
    refine W.lcmp hx hb d_St_lastNumberFits_36 ?_
    refine lv_topi (fun v36 e36 => ?_)
    refine lv_if_lt hx hb d_St_lastNumberFits_37 (tgt := 46) (by decide) (fun g37 => ?_) (fun g37 => ?_)
    · have g37 := (lc_lt e36).mp g37
      have hsteps : uN v14 = ft_w x0 / uN y0 := by
            first
            | (rw [e43, uN_add, u14, e42, show uN 1 = 1 from rfl, ft.2.2, if_pos (by rw [← u23]; exact hge)]
               exact Nat.mod_eq_of_lt (by omega))
            | (rw [u14, ft.2.2, if_neg (by rw [← u23]; have h5 := il_lt.mp g37; omega), Nat.add_zero])
      refine lv_lload hx hb d_St_lastNumberFits_46 (lv_at hl 1 rfl) ?_
      refine lv_lconst (v := 0) hx hb d_St_lastNumberFits_48 (by decide) ?_
      refine lv_topl (fun v48 e48 => ?_)
      refine W.lcmp hx hb d_St_lastNumberFits_49 ?_
      refine lv_topi (fun v49 e49 => ?_)
      refine lv_if_lt hx hb d_St_lastNumberFits_50 (tgt := 64) (by decide) (fun g50 => ?_) (fun g50 => ?_)
      · have g50 := (lc_lt e49).mp g50
        refine lv_iconst (v := 1) hx hb d_St_lastNumberFits_64 (by decide) ?_
        refine lv_topi (fun v64 e64 => ?_)
        have t64 : v64.toInt = 1 := by rw [e64]; rfl
        refine lv_goto hx hb d_St_lastNumberFits_65 (tgt := 69) (by decide) ?_
        have hpost : (v64 = 0 ∨ v64 = 1) ∧ (v64 = 1 ↔ ft_ok x0 y0 n0.toInt) := by
          unfold ft_ok
          first
          | (refine ⟨Or.inl e68, ⟨fun h5 => absurd (h5.symm.trans e68) (by decide), fun h5 => ?_⟩⟩
             exfalso
             have h6 := il_lt.mp g61
             rw [e57] at h6
             omega)
          | (refine ⟨Or.inr e64, ⟨fun _ => ?_, fun _ => e64⟩⟩
             have h6 := il_lt.mp g50
             rw [e48] at h6
             have h7 := uN_neg.mp h6
             omega)
          | (refine ⟨Or.inr e64, ⟨fun _ => ?_, fun _ => e64⟩⟩
             rcases Int.lt_or_le v14.toInt (v57.toInt) with h6 | h6
             · exact absurd (il_lt.mpr h6) g61
             · rw [e57] at h6
               omega)
        rw [hQ]
        exact xr_retz (v := v64) hx hb hr hlocks (Or.inr e64) (hpost) d_St_lastNumberFits_69
      · have g50 := (lc_nlt e49).mp g50
        have hp7 : 0 ≤ v14.toInt := by
              rcases Int.lt_or_le v14.toInt 0 with h5 | h5
              · exact absurd (il_lt.mpr (by rw [e48]; exact h5)) g50
              · exact h5
        have hu7 := uN_pos hp7
        refine lv_iload hx hb d_St_lastNumberFits_53 (lv_at hl 5 rfl) ?_
        refine lv_iconst (v := 1) hx hb d_St_lastNumberFits_55 (by decide) ?_
        refine lv_topi (fun v55 e55 => ?_)
        have t55 : v55.toInt = 1 := by rw [e55]; rfl
        refine lv_isub hx hb d_St_lastNumberFits_56 ?_
        refine lv_topi (fun v56 e56 => ?_)
        have t56 := ia_sub e56 ⟨by omega, by omega⟩
        have hi57 : v56.toInt64.toInt = v56.toInt := Jvm.Kit.i64_of_i32 v56
        refine lv_i2l hx hb d_St_lastNumberFits_57 rfl ?_
        refine lv_topl (fun v57 e57 => ?_)
        refine lv_lload hx hb d_St_lastNumberFits_58 (lv_at hl 1 rfl) ?_
        refine W.lcmp hx hb d_St_lastNumberFits_60 ?_
        refine lv_topi (fun v60 e60 => ?_)
        refine lv_if_gt hx hb d_St_lastNumberFits_61 (tgt := 68) (by decide) (fun g61 => ?_) (fun g61 => ?_)
        · have g61 := (lc_gt e60).mp g61
          refine lv_iconst (v := 0) hx hb d_St_lastNumberFits_68 (by decide) ?_
          refine lv_topi (fun v68 e68 => ?_)
          have t68 : v68.toInt = 0 := by rw [e68]; rfl
          have hpost : (v68 = 0 ∨ v68 = 1) ∧ (v68 = 1 ↔ ft_ok x0 y0 n0.toInt) := by
            unfold ft_ok
            first
            | (refine ⟨Or.inl e68, ⟨fun h5 => absurd (h5.symm.trans e68) (by decide), fun h5 => ?_⟩⟩
               exfalso
               have h6 := il_lt.mp g61
               rw [e57] at h6
               omega)
            | (refine ⟨Or.inr e64, ⟨fun _ => ?_, fun _ => e64⟩⟩
               have h6 := il_lt.mp g50
               rw [e48] at h6
               have h7 := uN_neg.mp h6
               omega)
            | (refine ⟨Or.inr e64, ⟨fun _ => ?_, fun _ => e64⟩⟩
               rcases Int.lt_or_le v14.toInt (v57.toInt) with h6 | h6
               · exact absurd (il_lt.mpr h6) g61
               · rw [e57] at h6
                 omega)
          rw [hQ]
          exact xr_retz (v := v68) hx hb hr hlocks (Or.inl e68) (hpost) d_St_lastNumberFits_69
        · have g61 := (lc_ngt e60).mp g61
          refine lv_iconst (v := 1) hx hb d_St_lastNumberFits_64 (by decide) ?_
          refine lv_topi (fun v64 e64 => ?_)
          have t64 : v64.toInt = 1 := by rw [e64]; rfl
          refine lv_goto hx hb d_St_lastNumberFits_65 (tgt := 69) (by decide) ?_
          have hpost : (v64 = 0 ∨ v64 = 1) ∧ (v64 = 1 ↔ ft_ok x0 y0 n0.toInt) := by
            unfold ft_ok
            first
            | (refine ⟨Or.inl e68, ⟨fun h5 => absurd (h5.symm.trans e68) (by decide), fun h5 => ?_⟩⟩
               exfalso
               have h6 := il_lt.mp g61
               rw [e57] at h6
               omega)
            | (refine ⟨Or.inr e64, ⟨fun _ => ?_, fun _ => e64⟩⟩
               have h6 := il_lt.mp g50
               rw [e48] at h6
               have h7 := uN_neg.mp h6
               omega)
            | (refine ⟨Or.inr e64, ⟨fun _ => ?_, fun _ => e64⟩⟩
               rcases Int.lt_or_le v14.toInt (v57.toInt) with h6 | h6
               · exact absurd (il_lt.mpr h6) g61
               · rw [e57] at h6
                 omega)
          rw [hQ]
          exact xr_retz (v := v64) hx hb hr hlocks (Or.inr e64) (hpost) d_St_lastNumberFits_69
    · have g37 := (lc_nlt e36).mp g37
      have hge : uN y0 ≤ uN v23 := by
            first
            | (have h5 := il_lt.mp g30
               rw [e28] at h5
               have h6 := uN_neg.mp h5
               omega)
            | (rcases Int.lt_or_le v23.toInt y0.toInt with h5 | h5
               · exact absurd (il_lt.mpr h5) g37
               · omega)
      refine lv_lload hx hb d_St_lastNumberFits_40 (lv_at hl 1 rfl) ?_
      refine lv_lconst (v := 1) hx hb d_St_lastNumberFits_42 (by decide) ?_
      refine lv_topl (fun v42 e42 => ?_)
      refine lv_ladd hx hb d_St_lastNumberFits_43 ?_
      refine lv_topl (fun v43 e43 => ?_)
      refine lv_lstore (lv' := [(7, .long v43), (9, .long v23), (5, .long v4), (0, .long x0), (2, .long y0), (4, .int n0)]) hx hb d_St_lastNumberFits_44 hl (by decide) rfl (fun ls hl => ?_)
      have hsteps : uN v43 = ft_w x0 / uN y0 := by
            first
            | (rw [e43, uN_add, u14, e42, show uN 1 = 1 from rfl, ft.2.2, if_pos (by rw [← u23]; exact hge)]
               exact Nat.mod_eq_of_lt (by omega))
            | (rw [u14, ft.2.2, if_neg (by rw [← u23]; have h5 := il_lt.mp g37; omega), Nat.add_zero])
      refine lv_lload hx hb d_St_lastNumberFits_46 (lv_at hl 0 rfl) ?_
      refine lv_lconst (v := 0) hx hb d_St_lastNumberFits_48 (by decide) ?_
      refine lv_topl (fun v48 e48 => ?_)
      refine W.lcmp hx hb d_St_lastNumberFits_49 ?_
      refine lv_topi (fun v49 e49 => ?_)
      refine lv_if_lt hx hb d_St_lastNumberFits_50 (tgt := 64) (by decide) (fun g50 => ?_) (fun g50 => ?_)
      · have g50 := (lc_lt e49).mp g50
        refine lv_iconst (v := 1) hx hb d_St_lastNumberFits_64 (by decide) ?_
        refine lv_topi (fun v64 e64 => ?_)
        have t64 : v64.toInt = 1 := by rw [e64]; rfl
        refine lv_goto hx hb d_St_lastNumberFits_65 (tgt := 69) (by decide) ?_
        have hpost : (v64 = 0 ∨ v64 = 1) ∧ (v64 = 1 ↔ ft_ok x0 y0 n0.toInt) := by
          unfold ft_ok
          first
          | (refine ⟨Or.inl e68, ⟨fun h5 => absurd (h5.symm.trans e68) (by decide), fun h5 => ?_⟩⟩
             exfalso
             have h6 := il_lt.mp g61
             rw [e57] at h6
             omega)
          | (refine ⟨Or.inr e64, ⟨fun _ => ?_, fun _ => e64⟩⟩
             have h6 := il_lt.mp g50
             rw [e48] at h6
             have h7 := uN_neg.mp h6
             omega)
          | (refine ⟨Or.inr e64, ⟨fun _ => ?_, fun _ => e64⟩⟩
             rcases Int.lt_or_le v43.toInt (v57.toInt) with h6 | h6
             · exact absurd (il_lt.mpr h6) g61
             · rw [e57] at h6
               omega)
        rw [hQ]
        exact xr_retz (v := v64) hx hb hr hlocks (Or.inr e64) (hpost) d_St_lastNumberFits_69
      · have g50 := (lc_nlt e49).mp g50
        have hp7 : 0 ≤ v43.toInt := by
              rcases Int.lt_or_le v43.toInt 0 with h5 | h5
              · exact absurd (il_lt.mpr (by rw [e48]; exact h5)) g50
              · exact h5
        have hu7 := uN_pos hp7
        refine lv_iload hx hb d_St_lastNumberFits_53 (lv_at hl 5 rfl) ?_
        refine lv_iconst (v := 1) hx hb d_St_lastNumberFits_55 (by decide) ?_
        refine lv_topi (fun v55 e55 => ?_)
        have t55 : v55.toInt = 1 := by rw [e55]; rfl
        refine lv_isub hx hb d_St_lastNumberFits_56 ?_
        refine lv_topi (fun v56 e56 => ?_)
        have t56 := ia_sub e56 ⟨by omega, by omega⟩
        have hi57 : v56.toInt64.toInt = v56.toInt := Jvm.Kit.i64_of_i32 v56
        refine lv_i2l hx hb d_St_lastNumberFits_57 rfl ?_
        refine lv_topl (fun v57 e57 => ?_)
        refine lv_lload hx hb d_St_lastNumberFits_58 (lv_at hl 0 rfl) ?_
        refine W.lcmp hx hb d_St_lastNumberFits_60 ?_
        refine lv_topi (fun v60 e60 => ?_)
        refine lv_if_gt hx hb d_St_lastNumberFits_61 (tgt := 68) (by decide) (fun g61 => ?_) (fun g61 => ?_)
        · have g61 := (lc_gt e60).mp g61
          refine lv_iconst (v := 0) hx hb d_St_lastNumberFits_68 (by decide) ?_
          refine lv_topi (fun v68 e68 => ?_)
          have t68 : v68.toInt = 0 := by rw [e68]; rfl
          have hpost : (v68 = 0 ∨ v68 = 1) ∧ (v68 = 1 ↔ ft_ok x0 y0 n0.toInt) := by
            unfold ft_ok
            first
            | (refine ⟨Or.inl e68, ⟨fun h5 => absurd (h5.symm.trans e68) (by decide), fun h5 => ?_⟩⟩
               exfalso
               have h6 := il_lt.mp g61
               rw [e57] at h6
               omega)
            | (refine ⟨Or.inr e64, ⟨fun _ => ?_, fun _ => e64⟩⟩
               have h6 := il_lt.mp g50
               rw [e48] at h6
               have h7 := uN_neg.mp h6
               omega)
            | (refine ⟨Or.inr e64, ⟨fun _ => ?_, fun _ => e64⟩⟩
               rcases Int.lt_or_le v43.toInt (v57.toInt) with h6 | h6
               · exact absurd (il_lt.mpr h6) g61
               · rw [e57] at h6
                 omega)
          rw [hQ]
          exact xr_retz (v := v68) hx hb hr hlocks (Or.inl e68) (hpost) d_St_lastNumberFits_69
        · have g61 := (lc_ngt e60).mp g61
          refine lv_iconst (v := 1) hx hb d_St_lastNumberFits_64 (by decide) ?_
          refine lv_topi (fun v64 e64 => ?_)
          have t64 : v64.toInt = 1 := by rw [e64]; rfl
          refine lv_goto hx hb d_St_lastNumberFits_65 (tgt := 69) (by decide) ?_
          have hpost : (v64 = 0 ∨ v64 = 1) ∧ (v64 = 1 ↔ ft_ok x0 y0 n0.toInt) := by
            unfold ft_ok
            first
            | (refine ⟨Or.inl e68, ⟨fun h5 => absurd (h5.symm.trans e68) (by decide), fun h5 => ?_⟩⟩
               exfalso
               have h6 := il_lt.mp g61
               rw [e57] at h6
               omega)
            | (refine ⟨Or.inr e64, ⟨fun _ => ?_, fun _ => e64⟩⟩
               have h6 := il_lt.mp g50
               rw [e48] at h6
               have h7 := uN_neg.mp h6
               omega)
            | (refine ⟨Or.inr e64, ⟨fun _ => ?_, fun _ => e64⟩⟩
               rcases Int.lt_or_le v43.toInt (v57.toInt) with h6 | h6
               · exact absurd (il_lt.mpr h6) g61
               · rw [e57] at h6
                 omega)
          rw [hQ]
          exact xr_retz (v := v64) hx hb hr hlocks (Or.inr e64) (hpost) d_St_lastNumberFits_69
