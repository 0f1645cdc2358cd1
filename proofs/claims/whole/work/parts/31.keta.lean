set_option maxRecDepth 100000 in
set_option maxHeartbeats 4000000 in
theorem c_Ta_sharedWithKey (l : Launch) (D : va_G) (cL cI : ClassId) (tb cd vl nc w n : Nat) (wd cnt chg : Int32) (fc : Nat → Int64) (k0 kw kn : Nat) (isr : Int32) (kf : Nat → Int64) (pl : Int32) (hw : wd.toInt = (w : Int)) (hw7 : 1 ≤ w ∧ w ≤ 7) (hnc : nc < 16777216) (hpl : 0 ≤ pl.toInt) (hpb : pl.toInt.toNat * w + w ≤ nc) (hkn : kn = w) : Met l y_Ta_sharedWithKey (Cond.code y_Ta_sharedWithKey prog_4_method_10_code 3 (some .int) :: TW) ({ frames := 3, cells := 0, slots := 0, locals := 89 } : Room) (PR D cL cI [.ref tb, .int pl, .ref k0] [(tb, .inr (2, [.int wd, .ref cd, .ref vl, .int cnt, .int chg])), (cd, .inl (cL, nc, .inr (.inl fc))), (k0, .inr (0, [.int isr, .ref kw])), (kw, .inl (cL, kn, .inr (.inl kf)))]) (vp_Si (fun r => r.toInt = (sh_w w (kr fc w pl.toInt.toNat) kf : Int))) 0 0 (fun _ => False) := by
  refine xr_met (by decide) ?_
  intro p e s m args below meth c hx hb hr hts hown hlocks hname hml hv
  obtain ⟨rfl, hP, hK⟩ := hv
  have hown : s.vm.findClass "BranchStore$Table" = some m.cls := hown
  have hP : va_P D classes [(tb, .inr (2, [.int wd, .ref cd, .ref vl, .int cnt, .int chg])), (cd, .inl (cL, nc, .inr (.inl fc))), (k0, .inr (0, [.int isr, .ref kw])), (kw, .inl (cL, kn, .inr (.inl kf)))] s.heap := hP
  have hl := lv_entry ([.ref tb, .int pl, .ref k0]) (n := 3) (Nat.le_of_ble_eq_true rfl)
  rw [lg_entry_eq]
  generalize (lg_sl ([.ref tb, .int pl, .ref k0]) ++ List.replicate (3 - (lg_sl ([.ref tb, .int pl, .ref k0])).length) Slot.unset).toArray = ls at hl ⊢
  have hl : lv_has ls 3 [(0, .ref tb), (1, .int pl), (2, .ref k0)] := hl
  obtain ⟨Q, hQ⟩ : ∃ Q, Q = MQ below (vp_Si (fun r => r.toInt = (sh_w w (kr fc w pl.toInt.toNat) kf : Int))) ([.ref tb, .int pl, .ref k0] : List Value).toArray s 0 0 (fun _ => False) := ⟨_, rfl⟩
  rw [← hQ]
  have hrg_pl := ia_rng pl
  refine lv_aload_n hx hb d_Ta_sharedWithKey_0 rfl (lv_at hl 0 rfl) ?_
  refine lv_iload_n hx hb d_Ta_sharedWithKey_1 rfl (lv_at hl 1 rfl) ?_
  refine lv_aload_n hx hb d_Ta_sharedWithKey_2 rfl (lv_at hl 2 rfl) ?_
  refine va_get (D := D) (ci := 0) (v := .ref kw) (C := R_Ke) (T := F_Ke) (N := 2) hx hb hts in_Ke hown hK hP 2 rfl rfl 1 (by decide) (hts _ tw_46) (fun _ h9 => h9) rfl d_Ta_sharedWithKey_3 ?_
  refine lv_iconst (v := 0) hx hb d_Ta_sharedWithKey_6 (by decide) ?_
  refine lv_topi (fun v6 e6 => ?_)
  have t6 : v6.toInt = 0 := by rw [e6]; rfl
  refine vp_callSi (xr_rv (As := [.int pl, .ref kw, .int v6]) (rest := []) ⟨hx, hb, hml, hown, hts⟩ (c_Ta_sharedBytes l D cL cI tb cd vl nc w n wd cnt chg fc kw kn kf pl v6 (by omega) (by omega) (by omega) (by omega) (by omega) (by omega) (by omega) (by omega)) (xr_cv 3 hts tw_182 tw_179 tw_181 tp_1 tw_5 rfl rfl (by decide) ⟨by decide, by decide⟩) hK (hP.sub (ws' := [(tb, .inr (2, [.int wd, .ref cd, .ref vl, .int cnt, .int chg])), (cd, .inl (cL, nc, .inr (.inl fc))), (kw, .inl (cL, kn, .inr (.inl kf)))]) [0, 1, 3] rfl) (va_recv hK hP rfl (q0 := 0) (ci := 2) rfl) rfl hl.1 rfl (Nat.le_of_ble_eq_true rfl) d_Ta_sharedWithKey_7 ⟨Nat.le_refl _, Nat.le_refl _⟩) (fun v7 e7 => ?_)
  have e7 : v7.toInt = (sh_w w (kr fc w pl.toInt.toNat) (fun j => kf (v6.toInt.toNat + j)) : Int) := e7
  have hpost : v7.toInt = (sh_w w (kr fc w pl.toInt.toNat) kf : Int) := by
    rw [e7, show v6.toInt.toNat = 0 by omega]
    rw [show (fun j => kf (0 + j)) = kf from funext fun j => by rw [Nat.zero_add]]
  rw [hQ]
  exact xr_reti (v := v7) hx hb hr hlocks (hpost) d_Ta_sharedWithKey_10
set_option maxRecDepth 100000 in
set_option maxHeartbeats 4000000 in
theorem c_Ta_sharedWithPrevious (l : Launch) (D : va_G) (cL cI : ClassId) (tb cd vl nc w n : Nat) (wd cnt chg : Int32) (fc : Nat → Int64) (pl : Int32) (hw : wd.toInt = (w : Int)) (hw7 : 1 ≤ w ∧ w ≤ 7) (hnc : nc < 16777216) (hpl : 1 ≤ pl.toInt) (hpb : pl.toInt.toNat * w + w ≤ nc) : Met l y_Ta_sharedWithPrevious (Cond.code y_Ta_sharedWithPrevious prog_4_method_9_code 2 (some .int) :: TW) ({ frames := 3, cells := 0, slots := 0, locals := 89 } : Room) (PR D cL cI [.ref tb, .int pl] [(tb, .inr (2, [.int wd, .ref cd, .ref vl, .int cnt, .int chg])), (cd, .inl (cL, nc, .inr (.inl fc)))]) (vp_Si (fun r => r.toInt = (sh_w w (kr fc w pl.toInt.toNat) (kr fc w (pl.toInt.toNat - 1)) : Int))) 0 0 (fun _ => False) := by
  refine xr_met (by decide) ?_
  intro p e s m args below meth c hx hb hr hts hown hlocks hname hml hv
  obtain ⟨rfl, hP, hK⟩ := hv
  have hown : s.vm.findClass "BranchStore$Table" = some m.cls := hown
  have hP : va_P D classes [(tb, .inr (2, [.int wd, .ref cd, .ref vl, .int cnt, .int chg])), (cd, .inl (cL, nc, .inr (.inl fc)))] s.heap := hP
  have hl := lv_entry ([.ref tb, .int pl]) (n := 2) (Nat.le_of_ble_eq_true rfl)
  rw [lg_entry_eq]
  generalize (lg_sl ([.ref tb, .int pl]) ++ List.replicate (2 - (lg_sl ([.ref tb, .int pl])).length) Slot.unset).toArray = ls at hl ⊢
  have hl : lv_has ls 2 [(0, .ref tb), (1, .int pl)] := hl
  obtain ⟨Q, hQ⟩ : ∃ Q, Q = MQ below (vp_Si (fun r => r.toInt = (sh_w w (kr fc w pl.toInt.toNat) (kr fc w (pl.toInt.toNat - 1)) : Int))) ([.ref tb, .int pl] : List Value).toArray s 0 0 (fun _ => False) := ⟨_, rfl⟩
  rw [← hQ]
  have hrg_pl := ia_rng pl
  have hmu2 : pl.toInt.toNat * w = (pl.toInt.toNat - 1) * w + w := by rw [← Nat.succ_mul]; congr 1; omega
  refine lv_aload_n hx hb d_Ta_sharedWithPrevious_0 rfl (lv_at hl 0 rfl) ?_
  refine lv_iload_n hx hb d_Ta_sharedWithPrevious_1 rfl (lv_at hl 1 rfl) ?_
  refine lv_aload_n hx hb d_Ta_sharedWithPrevious_2 rfl (lv_at hl 0 rfl) ?_
  refine va_get (D := D) (ci := 2) (v := .ref cd) (C := R_Ta) (T := F_Ta) (N := 5) hx hb hts in_Ta hown hK hP 0 rfl rfl 1 (by decide) (hts _ tw_60) (fun _ h9 => h9) rfl d_Ta_sharedWithPrevious_3 ?_
  refine lv_iload_n hx hb d_Ta_sharedWithPrevious_6 rfl (lv_at hl 1 rfl) ?_
  refine lv_iconst (v := 1) hx hb d_Ta_sharedWithPrevious_7 (by decide) ?_
  refine lv_topi (fun v7 e7 => ?_)
  have t7 : v7.toInt = 1 := by rw [e7]; rfl
  refine lv_isub hx hb d_Ta_sharedWithPrevious_8 ?_
  refine lv_topi (fun v8 e8 => ?_)
  have t8 := ia_sub e8 ⟨by omega, by omega⟩
  refine lv_aload_n hx hb d_Ta_sharedWithPrevious_9 rfl (lv_at hl 0 rfl) ?_
  refine va_get (D := D) (ci := 2) (v := .int wd) (C := R_Ta) (T := F_Ta) (N := 5) hx hb hts in_Ta hown hK hP 0 rfl rfl 0 (by decide) (hts _ tw_59) (fun _ h9 => h9) rfl d_Ta_sharedWithPrevious_10 ?_
  have hmul : v8.toInt * wd.toInt = ((v8.toInt.toNat * w : Nat) : Int) := ia_pw (by omega) hw
  have hmu3 : v8.toInt.toNat * w = (pl.toInt.toNat - 1) * w := by congr 1; omega
  refine lv_imul hx hb d_Ta_sharedWithPrevious_13 ?_
  refine lv_topi (fun v13 e13 => ?_)
  have t13 := ia_mul e13 ⟨by rw [hmul]; omega, by rw [hmul]; omega⟩
  have t13 := t13.trans hmul
  refine vp_callSi (xr_rv (As := [.int pl, .ref cd, .int v13]) (rest := []) ⟨hx, hb, hml, hown, hts⟩ (c_Ta_sharedBytes l D cL cI tb cd vl nc w n wd cnt chg fc cd nc fc pl v13 (by omega) (by omega) (by omega) (by omega) (by omega) (by omega) (by omega) (by omega)) (xr_cv 3 hts tw_182 tw_179 tw_181 tp_1 tw_5 rfl rfl (by decide) ⟨by decide, by decide⟩) hK (hP.sub (ws' := [(tb, .inr (2, [.int wd, .ref cd, .ref vl, .int cnt, .int chg])), (cd, .inl (cL, nc, .inr (.inl fc))), (cd, .inl (cL, nc, .inr (.inl fc)))]) [0, 1, 1] rfl) (va_recv hK hP rfl (q0 := 0) (ci := 2) rfl) rfl hl.1 rfl (Nat.le_of_ble_eq_true rfl) d_Ta_sharedWithPrevious_14 ⟨Nat.le_refl _, Nat.le_refl _⟩) (fun v14 e14 => ?_)
  have e14 : v14.toInt = (sh_w w (kr fc w pl.toInt.toNat) (fun j => fc (v13.toInt.toNat + j)) : Int) := e14
  have hpost : v14.toInt = (sh_w w (kr fc w pl.toInt.toNat) (kr fc w (pl.toInt.toNat - 1)) : Int) := by
    rw [e14, show v13.toInt.toNat = (pl.toInt.toNat - 1) * w by omega]
    rfl
  rw [hQ]
  exact xr_reti (v := v14) hx hb hr hlocks (hpost) d_Ta_sharedWithPrevious_17
set_option maxRecDepth 100000 in
set_option maxHeartbeats 4000000 in
theorem c_Ta_isBelow (l : Launch) (D : va_G) (cL cI : ClassId) (tb cd vl nc w n : Nat) (wd cnt chg : Int32) (fc : Nat → Int64) (k0 kw kn : Nat) (isr : Int32) (kf : Nat → Int64) (pl : Int32) (hw : wd.toInt = (w : Int)) (hw7 : 1 ≤ w ∧ w ≤ 7) (hnc : nc < 16777216) (hpl : 0 ≤ pl.toInt) (hpb : pl.toInt.toNat * w + w ≤ nc) (hkn : kn = w) : Met l y_Ta_isBelow (Cond.code y_Ta_isBelow prog_4_method_11_code 8 (some .boolean) :: TW) ({ frames := 1, cells := 0, slots := 0, locals := 40 } : Room) (PR D cL cI [.ref tb, .int pl, .ref k0] [(tb, .inr (2, [.int wd, .ref cd, .ref vl, .int cnt, .int chg])), (cd, .inl (cL, nc, .inr (.inl fc))), (k0, .inr (0, [.int isr, .ref kw])), (kw, .inl (cL, kn, .inr (.inl kf)))]) (vp_Si (fun r => (r = 0 ∨ r = 1) ∧ (r = 1 ↔ kw_lt w (kr fc w pl.toInt.toNat) kf))) 0 0 (fun _ => False) := by
  refine xr_met (by decide) ?_
  intro p e s m args below meth c hx hb hr hts hown hlocks hname hml hv
  obtain ⟨rfl, hP, hK⟩ := hv
  have hown : s.vm.findClass "BranchStore$Table" = some m.cls := hown
  have hP : va_P D classes [(tb, .inr (2, [.int wd, .ref cd, .ref vl, .int cnt, .int chg])), (cd, .inl (cL, nc, .inr (.inl fc))), (k0, .inr (0, [.int isr, .ref kw])), (kw, .inl (cL, kn, .inr (.inl kf)))] s.heap := hP
  have hl := lv_entry ([.ref tb, .int pl, .ref k0]) (n := 8) (Nat.le_of_ble_eq_true rfl)
  rw [lg_entry_eq]
  generalize (lg_sl ([.ref tb, .int pl, .ref k0]) ++ List.replicate (8 - (lg_sl ([.ref tb, .int pl, .ref k0])).length) Slot.unset).toArray = ls at hl ⊢
  have hl : lv_has ls 8 [(0, .ref tb), (1, .int pl), (2, .ref k0)] := hl
  obtain ⟨Q, hQ⟩ : ∃ Q, Q = MQ below (vp_Si (fun r => (r = 0 ∨ r = 1) ∧ (r = 1 ↔ kw_lt w (kr fc w pl.toInt.toNat) kf))) ([.ref tb, .int pl, .ref k0] : List Value).toArray s 0 0 (fun _ => False) := ⟨_, rfl⟩
  rw [← hQ]
  have hrg_pl := ia_rng pl
  have hmul : pl.toInt * wd.toInt = ((pl.toInt.toNat * w : Nat) : Int) := ia_pw (by omega) hw
  refine lv_iconst (v := 0) hx hb d_Ta_isBelow_0 (by decide) ?_
  refine lv_topi (fun v0 e0 => ?_)
  have t0 : v0.toInt = 0 := by rw [e0]; rfl
  refine lv_istore_n (lv' := [(3, .int v0), (0, .ref tb), (1, .int pl), (2, .ref k0)]) hx hb d_Ta_isBelow_1 rfl hl (by decide) rfl (fun ls hl => ?_)
  have lp2 : ∀ (fuel2 : Nat) (ii : Int32) (ls : Array Slot), lv_has ls 8 [(3, .int ii), (0, .ref tb), (1, .int pl), (2, .ref k0)] → (0 ≤ ii.toInt) → (ii.toInt ≤ (w : Int)) → (∀ j, j < ii.toInt.toNat → kr fc w pl.toInt.toNat j = kf j) → w - ii.toInt.toNat < fuel2 → W p l e ({ frames := 1, cells := 0, slots := 0, locals := 40 } : Room) s m ([.ref tb, .int pl, .ref k0] : List Value).toArray below meth c s.heap [] 0 0 Q (F0 m 2 ls []) := by
    intro fuel2
    induction fuel2 with
    | zero => intro ii ls hl h1 h2 h3 hm2; exact absurd hm2 (Nat.not_lt_zero _)
    | succ fuel2 ih2 =>
      intro ii ls hl h1 h2 h3 hm2
      refine lv_iload_n hx hb d_Ta_isBelow_2 rfl (lv_at hl 0 rfl) ?_
      refine lv_aload_n hx hb d_Ta_isBelow_3 rfl (lv_at hl 1 rfl) ?_
      refine va_get (D := D) (ci := 2) (v := .int wd) (C := R_Ta) (T := F_Ta) (N := 5) hx hb hts in_Ta hown hK hP 0 rfl rfl 0 (by decide) (hts _ tw_59) (fun _ h9 => h9) rfl d_Ta_isBelow_4 ?_
      refine lv_icmp_ge hx hb d_Ta_isBelow_7 (tgt := 69) (by decide) (fun g7 => ?_) (fun g7 => ?_)
      · have g7 := ic_le.mp g7
        refine lv_iconst (v := 0) hx hb d_Ta_isBelow_69 (by decide) ?_
        refine lv_topi (fun v69 e69 => ?_)
        have t69 : v69.toInt = 0 := by rw [e69]; rfl
        have hpost : (v69 = 0 ∨ v69 = 1) ∧ (v69 = 1 ↔ kw_lt w (kr fc w pl.toInt.toNat) kf) := by
          exact ⟨Or.inl e69, ⟨fun h5 => absurd (h5.symm.trans e69) (by decide), fun h5 => absurd h5 (kw_irr fun j hj => h3 j (by omega))⟩⟩
        rw [hQ]
        exact xr_retz (v := v69) hx hb hr hlocks (Or.inl e69) (hpost) d_Ta_isBelow_70
      · have g7 := ic_nle.mp g7
        refine lv_aload_n hx hb d_Ta_isBelow_10 rfl (lv_at hl 1 rfl) ?_
        refine va_get (D := D) (ci := 2) (v := .ref cd) (C := R_Ta) (T := F_Ta) (N := 5) hx hb hts in_Ta hown hK hP 0 rfl rfl 1 (by decide) (hts _ tw_60) (fun _ h9 => h9) rfl d_Ta_isBelow_11 ?_
        refine lv_iload_n hx hb d_Ta_isBelow_14 rfl (lv_at hl 2 rfl) ?_
        refine lv_aload_n hx hb d_Ta_isBelow_15 rfl (lv_at hl 1 rfl) ?_
        refine va_get (D := D) (ci := 2) (v := .int wd) (C := R_Ta) (T := F_Ta) (N := 5) hx hb hts in_Ta hown hK hP 0 rfl rfl 0 (by decide) (hts _ tw_59) (fun _ h9 => h9) rfl d_Ta_isBelow_16 ?_
        refine lv_imul hx hb d_Ta_isBelow_19 ?_
        refine lv_topi (fun v19 e19 => ?_)
        have t19 := ia_mul e19 ⟨by rw [hmul]; omega, by rw [hmul]; omega⟩
        have t19 := t19.trans hmul
        refine lv_iload_n hx hb d_Ta_isBelow_20 rfl (lv_at hl 0 rfl) ?_
        refine lv_iadd hx hb d_Ta_isBelow_21 ?_
        refine lv_topi (fun v21 e21 => ?_)
        have t21 := ia_add e21 ⟨by omega, by omega⟩
        refine va_lald hx hb hK hP 1 0 rfl rfl (ia_in ⟨by omega, by omega⟩) d_Ta_isBelow_22 ?_
        refine lv_topl (fun v22 e22 => ?_)
        have e22 : v22 = fc v21.toInt.toNat := e22
        refine lv_lstore (lv' := [(4, .long v22), (3, .int ii), (0, .ref tb), (1, .int pl), (2, .ref k0)]) hx hb d_Ta_isBelow_23 hl (by decide) rfl (fun ls hl => ?_)
        refine lv_aload_n hx hb d_Ta_isBelow_25 rfl (lv_at hl 4 rfl) ?_
        refine va_get (D := D) (ci := 0) (v := .ref kw) (C := R_Ke) (T := F_Ke) (N := 2) hx hb hts in_Ke hown hK hP 2 rfl rfl 1 (by decide) (hts _ tw_46) (fun _ h9 => h9) rfl d_Ta_isBelow_26 ?_
        refine lv_iload_n hx hb d_Ta_isBelow_29 rfl (lv_at hl 1 rfl) ?_
        refine va_lald hx hb hK hP 3 0 rfl rfl (ia_in ⟨by omega, by omega⟩) d_Ta_isBelow_30 ?_
        refine lv_topl (fun v30 e30 => ?_)
        have e30 : v30 = kf ii.toInt.toNat := e30
        refine lv_lstore (lv' := [(6, .long v30), (4, .long v22), (3, .int ii), (0, .ref tb), (1, .int pl), (2, .ref k0)]) hx hb d_Ta_isBelow_31 hl (by decide) rfl (fun ls hl => ?_)
        refine lv_lload hx hb d_Ta_isBelow_33 (lv_at hl 1 rfl) ?_
        refine lv_lload hx hb d_Ta_isBelow_35 (lv_at hl 0 rfl) ?_
        refine W.lcmp hx hb d_Ta_isBelow_37 ?_
        refine lv_topi (fun v37 e37 => ?_)
        have ha : kr fc w pl.toInt.toNat ii.toInt.toNat = v22 := by
          show fc (pl.toInt.toNat * w + ii.toInt.toNat) = _
          rw [show pl.toInt.toNat * w + ii.toInt.toNat = v21.toInt.toNat by omega]; exact e22.symm
        refine lv_if_eq hx hb d_Ta_isBelow_38 (tgt := 63) (by decide) (fun g38 => ?_) (fun g38 => ?_)
        · have g38 := (lc_eq e37).mp g38
          obtain ⟨v63, e63⟩ : ∃ z, z = ii + Int32.ofInt 1 := ⟨_, rfl⟩
          have t63 := ia_inc 1 e63 (by decide) ⟨by omega, by omega⟩
          refine lv_iinc (k := 2) (lv' := [(3, .int v63), (6, .long v30), (4, .long v22), (0, .ref tb), (1, .int pl), (2, .ref k0)]) hx hb d_Ta_isBelow_63 hl rfl e63.symm (by decide) rfl (fun ls hl => ?_)
          refine lv_goto hx hb d_Ta_isBelow_66 (tgt := 2) (by decide) ?_
          exact ih2 v63 ls (lv_sub hl [0, 3, 4, 5] rfl) (by omega) (by omega) (fun j hj => by
            by_cases h5 : j = ii.toInt.toNat
            · rw [h5, ha, g38]; exact e30
            · exact h3 j (by omega)) (by omega)
        · have g38 := (lc_ne e37).mp g38
          refine lv_lload hx hb d_Ta_isBelow_41 (lv_at hl 1 rfl) ?_
          refine lv_ldc2 (v := (-9223372036854775808)) hx hb hown (hts _ tw_170) d_Ta_isBelow_43 ?_
          refine lv_topl (fun v43 e43 => ?_)
          refine lv_lxor hx hb d_Ta_isBelow_46 ?_
          refine lv_topl (fun v46 e46 => ?_)
          refine lv_lload hx hb d_Ta_isBelow_47 (lv_at hl 0 rfl) ?_
          refine lv_ldc2 (v := (-9223372036854775808)) hx hb hown (hts _ tw_170) d_Ta_isBelow_49 ?_
          refine lv_topl (fun v49 e49 => ?_)
          refine lv_lxor hx hb d_Ta_isBelow_52 ?_
          refine lv_topl (fun v52 e52 => ?_)
          refine W.lcmp hx hb d_Ta_isBelow_53 ?_
          refine lv_topi (fun v53 e53 => ?_)
          refine lv_if_ge hx hb d_Ta_isBelow_54 (tgt := 61) (by decide) (fun g54 => ?_) (fun g54 => ?_)
          · have g54 := (lc_ge e53).mp g54
            refine lv_iconst (v := 0) hx hb d_Ta_isBelow_61 (by decide) ?_
            refine lv_topi (fun v61 e61 => ?_)
            have t61 : v61.toInt = 0 := by rw [e61]; rfl
            have hpost : (v61 = 0 ∨ v61 = 1) ∧ (v61 = 1 ↔ kw_lt w (kr fc w pl.toInt.toNat) kf) := by
              first
              | (refine ⟨Or.inl e61, ⟨fun h5 => absurd (h5.symm.trans e61) (by decide), fun h5 => ?_⟩⟩
                 exfalso
                 rw [e46, e52, e43, e49, Int64.le_iff_toInt_le] at g54
                 obtain ⟨i, q1, q2, q3⟩ := h5
                 have hle : uN v30 ≤ uN v22 := by
                   rcases Nat.lt_or_ge (uN v22) (uN v30) with h6 | h6
                   · have := (uN_ltx v22 v30).mpr h6
                     rw [Int64.lt_iff_toInt_lt] at this
                     omega
                   · exact h6
                 rcases Nat.lt_trichotomy i ii.toInt.toNat with h6 | h6 | h6
                 · have := h3 i h6; rw [this] at q3; omega
                 · rw [h6, ha] at q3; rw [← e30] at q3; omega
                 · have := q2 ii.toInt.toNat h6; rw [ha] at this; exact g38 (this.trans e30.symm))
              | (refine ⟨Or.inr e57, ⟨fun _ => ⟨ii.toInt.toNat, by omega, h3, ?_⟩, fun _ => e57⟩⟩
                 rw [ha, ← e30]
                 rw [e46, e52, e43, e49] at g54
                 rcases Nat.lt_or_ge (uN v22) (uN v30) with h6 | h6
                 · exact h6
                 · exact absurd ((uN_le v30 v22).mpr h6) g54)
            rw [hQ]
            exact xr_retz (v := v61) hx hb hr hlocks (Or.inl e61) (hpost) d_Ta_isBelow_62
          · have g54 := (lc_nge e53).mp g54
            refine lv_iconst (v := 1) hx hb d_Ta_isBelow_57 (by decide) ?_
            refine lv_topi (fun v57 e57 => ?_)
            have t57 : v57.toInt = 1 := by rw [e57]; rfl
            refine lv_goto hx hb d_Ta_isBelow_58 (tgt := 62) (by decide) ?_
            have hpost : (v57 = 0 ∨ v57 = 1) ∧ (v57 = 1 ↔ kw_lt w (kr fc w pl.toInt.toNat) kf) := by
              first
              | (refine ⟨Or.inl e61, ⟨fun h5 => absurd (h5.symm.trans e61) (by decide), fun h5 => ?_⟩⟩
                 exfalso
                 rw [e46, e52, e43, e49, Int64.le_iff_toInt_le] at g54
                 obtain ⟨i, q1, q2, q3⟩ := h5
                 have hle : uN v30 ≤ uN v22 := by
                   rcases Nat.lt_or_ge (uN v22) (uN v30) with h6 | h6
                   · have := (uN_ltx v22 v30).mpr h6
                     rw [Int64.lt_iff_toInt_lt] at this
                     omega
                   · exact h6
                 rcases Nat.lt_trichotomy i ii.toInt.toNat with h6 | h6 | h6
                 · have := h3 i h6; rw [this] at q3; omega
                 · rw [h6, ha] at q3; rw [← e30] at q3; omega
                 · have := q2 ii.toInt.toNat h6; rw [ha] at this; exact g38 (this.trans e30.symm))
              | (refine ⟨Or.inr e57, ⟨fun _ => ⟨ii.toInt.toNat, by omega, h3, ?_⟩, fun _ => e57⟩⟩
                 rw [ha, ← e30]
                 rw [e46, e52, e43, e49] at g54
                 rcases Nat.lt_or_ge (uN v22) (uN v30) with h6 | h6
                 · exact h6
                 · exact absurd ((uN_le v30 v22).mpr h6) g54)
            rw [hQ]
            exact xr_retz (v := v57) hx hb hr hlocks (Or.inr e57) (hpost) d_Ta_isBelow_62
  exact lp2 _ v0  ls hl (by omega) (by omega) (fun j hj => by omega) (Nat.lt_succ_self _)
set_option maxRecDepth 100000 in
set_option maxHeartbeats 4000000 in
theorem c_Ta_countBelow (l : Launch) (D : va_G) (cL cI : ClassId) (tb cd vl nc w n : Nat) (wd cnt chg : Int32) (fc : Nat → Int64) (k0 kw kn : Nat) (isr : Int32) (kf : Nat → Int64) (hw : wd.toInt = (w : Int)) (hw7 : 1 ≤ w ∧ w ≤ 7) (hcnt : cnt.toInt = (n : Int)) (hnc : nc < 16777216) (hcap : ∀ k, k < n → k * w + w ≤ nc) (hn : n ≤ 1500) (hkn : kn = w) (hs : tb_srt w n fc) : Met l y_Ta_countBelow (Cond.code y_Ta_countBelow prog_4_method_2_code 5 (some .int) :: TW) ({ frames := 2, cells := 0, slots := 0, locals := 67 } : Room) (PR D cL cI [.ref tb, .ref k0] [(tb, .inr (2, [.int wd, .ref cd, .ref vl, .int cnt, .int chg])), (cd, .inl (cL, nc, .inr (.inl fc))), (k0, .inr (0, [.int isr, .ref kw])), (kw, .inl (cL, kn, .inr (.inl kf)))]) (vp_Si (fun r => ∃ q : Nat, r.toInt = (q : Int) ∧ tb_isb w n fc kf q)) 0 0 (fun _ => False) := by
  refine xr_met (by decide) ?_
  intro p e s m args below meth c hx hb hr hts hown hlocks hname hml hv
  obtain ⟨rfl, hP, hK⟩ := hv
  have hown : s.vm.findClass "BranchStore$Table" = some m.cls := hown
  have hP : va_P D classes [(tb, .inr (2, [.int wd, .ref cd, .ref vl, .int cnt, .int chg])), (cd, .inl (cL, nc, .inr (.inl fc))), (k0, .inr (0, [.int isr, .ref kw])), (kw, .inl (cL, kn, .inr (.inl kf)))] s.heap := hP
  have hl := lv_entry ([.ref tb, .ref k0]) (n := 5) (Nat.le_of_ble_eq_true rfl)
  rw [lg_entry_eq]
  generalize (lg_sl ([.ref tb, .ref k0]) ++ List.replicate (5 - (lg_sl ([.ref tb, .ref k0])).length) Slot.unset).toArray = ls at hl ⊢
  have hl : lv_has ls 5 [(0, .ref tb), (1, .ref k0)] := hl
  obtain ⟨Q, hQ⟩ : ∃ Q, Q = MQ below (vp_Si (fun r => ∃ q : Nat, r.toInt = (q : Int) ∧ tb_isb w n fc kf q)) ([.ref tb, .ref k0] : List Value).toArray s 0 0 (fun _ => False) := ⟨_, rfl⟩
  rw [← hQ]
  refine lv_iconst (v := 0) hx hb d_Ta_countBelow_0 (by decide) ?_
  refine lv_topi (fun v0 e0 => ?_)
  have t0 : v0.toInt = 0 := by rw [e0]; rfl
  refine lv_istore_n (lv' := [(2, .int v0), (0, .ref tb), (1, .ref k0)]) hx hb d_Ta_countBelow_1 rfl hl (by decide) rfl (fun ls hl => ?_)
  refine lv_aload_n hx hb d_Ta_countBelow_2 rfl (lv_at hl 1 rfl) ?_
  refine va_get (D := D) (ci := 2) (v := .int cnt) (C := R_Ta) (T := F_Ta) (N := 5) hx hb hts in_Ta hown hK hP 0 rfl rfl 3 (by decide) (hts _ tw_63) (fun _ h9 => h9) rfl d_Ta_countBelow_3 ?_
  refine lv_istore_n (lv' := [(3, .int cnt), (2, .int v0), (0, .ref tb), (1, .ref k0)]) hx hb d_Ta_countBelow_6 rfl hl (by decide) rfl (fun ls hl => ?_)
  have lp7 : ∀ (fuel7 : Nat) (hi : Int32) (lo : Int32) (ls : Array Slot), lv_has ls 5 [(3, .int hi), (2, .int lo), (0, .ref tb), (1, .ref k0)] → (0 ≤ lo.toInt) → (lo.toInt ≤ hi.toInt) → (hi.toInt ≤ (n : Int)) → (∀ k, k < lo.toInt.toNat → kw_lt w (kr fc w k) kf) → (∀ k, hi.toInt.toNat ≤ k → k < n → ¬ kw_lt w (kr fc w k) kf) → hi.toInt.toNat - lo.toInt.toNat < fuel7 → W p l e ({ frames := 2, cells := 0, slots := 0, locals := 67 } : Room) s m ([.ref tb, .ref k0] : List Value).toArray below meth c s.heap [] 0 0 Q (F0 m 7 ls []) := by
    intro fuel7
    induction fuel7 with
    | zero => intro hi lo ls hl h1 h2 h3 h4 h5 hm7; exact absurd hm7 (Nat.not_lt_zero _)
    | succ fuel7 ih7 =>
      intro hi lo ls hl h1 h2 h3 h4 h5 hm7
      refine lv_iload_n hx hb d_Ta_countBelow_7 rfl (lv_at hl 1 rfl) ?_
      refine lv_iload_n hx hb d_Ta_countBelow_8 rfl (lv_at hl 0 rfl) ?_
      refine lv_icmp_ge hx hb d_Ta_countBelow_9 (tgt := 43) (by decide) (fun g9 => ?_) (fun g9 => ?_)
      · have g9 := ic_le.mp g9
        refine lv_iload_n hx hb d_Ta_countBelow_43 rfl (lv_at hl 1 rfl) ?_
        have hpost : ∃ q : Nat, lo.toInt = (q : Int) ∧ tb_isb w n fc kf q := by
          exact ⟨lo.toInt.toNat, by omega, by omega, h4, fun k hk1 hk2 => h5 k (by omega) hk2⟩
        rw [hQ]
        exact xr_reti (v := lo) hx hb hr hlocks (hpost) d_Ta_countBelow_44
      · have g9 := ic_nle.mp g9
        refine lv_iload_n hx hb d_Ta_countBelow_12 rfl (lv_at hl 1 rfl) ?_
        refine lv_iload_n hx hb d_Ta_countBelow_13 rfl (lv_at hl 0 rfl) ?_
        refine lv_iadd hx hb d_Ta_countBelow_14 ?_
        refine lv_topi (fun v14 e14 => ?_)
        have t14 := ia_add e14 ⟨by omega, by omega⟩
        refine lv_iconst (v := 2) hx hb d_Ta_countBelow_15 (by decide) ?_
        refine lv_topi (fun v15 e15 => ?_)
        have t15 : v15.toInt = 2 := by rw [e15]; rfl
        refine lv_idiv hx hb d_Ta_countBelow_16 (ia_ne0 (by omega)) ?_
        refine lv_topi (fun v16 e16 => ?_)
        have t16 := ia_div 2 e16 (by omega) (by omega) (by omega)
        refine lv_istore (lv' := [(4, .int v16), (3, .int hi), (2, .int lo), (0, .ref tb), (1, .ref k0)]) hx hb d_Ta_countBelow_17 hl (by decide) rfl (fun ls hl => ?_)
        have hmid := hcap v16.toInt.toNat (by omega)
        refine lv_aload_n hx hb d_Ta_countBelow_19 rfl (lv_at hl 3 rfl) ?_
        refine lv_iload hx hb d_Ta_countBelow_20 (lv_at hl 0 rfl) ?_
        refine lv_aload_n hx hb d_Ta_countBelow_22 rfl (lv_at hl 4 rfl) ?_
        refine vp_callSi (xr_rv (As := [.int v16, .ref k0]) (rest := []) ⟨hx, hb, hml, hown, hts⟩ (c_Ta_isBelow l D cL cI tb cd vl nc w n wd cnt chg fc k0 kw kn isr kf v16 (by omega) (by omega) (by omega) (by omega) (by omega) (by omega)) (xr_cv 2 hts tw_169 tw_166 tw_168 tp_0 tw_5 rfl rfl (by decide) ⟨by decide, by decide⟩) hK hP (va_recv hK hP rfl (q0 := 0) (ci := 2) rfl) rfl hl.1 rfl (Nat.le_of_ble_eq_true rfl) d_Ta_countBelow_23 ⟨Nat.le_refl _, Nat.le_refl _⟩) (fun v23 e23 => ?_)
        have e23 : (v23 = 0 ∨ v23 = 1) ∧ (v23 = 1 ↔ kw_lt w (kr fc w v16.toInt.toNat) kf) := e23
        obtain ⟨e23a, e23b⟩ := e23
        refine lv_if_eq hx hb d_Ta_countBelow_26 (tgt := 37) (by decide) (fun g26 => ?_) (fun g26 => ?_)
        · have g26 := (iz_eq).mp g26
          refine lv_iload hx hb d_Ta_countBelow_37 (lv_at hl 0 rfl) ?_
          refine lv_istore_n (lv' := [(3, .int v16), (4, .int v16), (2, .int lo), (0, .ref tb), (1, .ref k0)]) hx hb d_Ta_countBelow_39 rfl hl (by decide) rfl (fun ls hl => ?_)
          refine lv_goto hx hb d_Ta_countBelow_40 (tgt := 7) (by decide) ?_
          exact ih7 v16 lo ls (lv_sub hl [0, 2, 3, 4] rfl) (by omega) (by omega) (by omega) (by first
            | exact h4
            | exact fun k hk => tb_up hs (by omega) (e23b.mp (e23a.resolve_left (iz_ne.mpr g26))) (show k ≤ v16.toInt.toNat by omega)) (by first
            | exact h5
            | exact fun k hk1 hk2 => tb_dn hs hk2 (fun h9 => by have h10 := e23b.mpr h9; rw [h10] at g26; exact absurd g26 (by decide)) hk1) (by omega)
        · have g26 := (iz_ne).mp g26
          refine lv_iload hx hb d_Ta_countBelow_29 (lv_at hl 0 rfl) ?_
          refine lv_iconst (v := 1) hx hb d_Ta_countBelow_31 (by decide) ?_
          refine lv_topi (fun v31 e31 => ?_)
          have t31 : v31.toInt = 1 := by rw [e31]; rfl
          refine lv_iadd hx hb d_Ta_countBelow_32 ?_
          refine lv_topi (fun v32 e32 => ?_)
          have t32 := ia_add e32 ⟨by omega, by omega⟩
          refine lv_istore_n (lv' := [(2, .int v32), (4, .int v16), (3, .int hi), (0, .ref tb), (1, .ref k0)]) hx hb d_Ta_countBelow_33 rfl hl (by decide) rfl (fun ls hl => ?_)
          refine lv_goto hx hb d_Ta_countBelow_34 (tgt := 40) (by decide) ?_
          refine lv_goto hx hb d_Ta_countBelow_40 (tgt := 7) (by decide) ?_
          exact ih7 hi v32 ls (lv_sub hl [2, 0, 3, 4] rfl) (by omega) (by omega) (by omega) (by first
            | exact h4
            | exact fun k hk => tb_up hs (by omega) (e23b.mp (e23a.resolve_left (iz_ne.mpr g26))) (show k ≤ v16.toInt.toNat by omega)) (by first
            | exact h5
            | exact fun k hk1 hk2 => tb_dn hs hk2 (fun h9 => by have h10 := e23b.mpr h9; rw [h10] at g26; exact absurd g26 (by decide)) hk1) (by omega)
  exact lp7 _ cnt v0  ls hl (by omega) (by omega) (by omega) (fun k hk => by omega) (fun k hk1 hk2 => by omega) (Nat.lt_succ_self _)
set_option maxRecDepth 100000 in
set_option maxHeartbeats 4000000 in
theorem c_Ta_holds (l : Launch) (D : va_G) (cL cI : ClassId) (tb cd vl nc w n : Nat) (wd cnt chg : Int32) (fc : Nat → Int64) (k0 kw kn : Nat) (isr : Int32) (kf : Nat → Int64) (pl : Int32) (hw : wd.toInt = (w : Int)) (hw7 : 1 ≤ w ∧ w ≤ 7) (hcnt : cnt.toInt = (n : Int)) (hnc : nc < 16777216) (hcap : ∀ k, k < n → k * w + w ≤ nc) (hn : n ≤ 1500) (hpl : 0 ≤ pl.toInt) (hkn : kn = w) : Met l y_Ta_holds (Cond.code y_Ta_holds prog_4_method_4_code 3 (some .boolean) :: TW) ({ frames := 4, cells := 0, slots := 0, locals := 111 } : Room) (PR D cL cI [.ref tb, .int pl, .ref k0] [(tb, .inr (2, [.int wd, .ref cd, .ref vl, .int cnt, .int chg])), (cd, .inl (cL, nc, .inr (.inl fc))), (k0, .inr (0, [.int isr, .ref kw])), (kw, .inl (cL, kn, .inr (.inl kf)))]) (vp_Si (fun r => (r = 0 ∨ r = 1) ∧ (r = 1 ↔ pl.toInt.toNat < n ∧ kw_eq w (kr fc w pl.toInt.toNat) kf))) 0 0 (fun _ => False) := by
  refine xr_met (by decide) ?_
  intro p e s m args below meth c hx hb hr hts hown hlocks hname hml hv
  obtain ⟨rfl, hP, hK⟩ := hv
  have hown : s.vm.findClass "BranchStore$Table" = some m.cls := hown
  have hP : va_P D classes [(tb, .inr (2, [.int wd, .ref cd, .ref vl, .int cnt, .int chg])), (cd, .inl (cL, nc, .inr (.inl fc))), (k0, .inr (0, [.int isr, .ref kw])), (kw, .inl (cL, kn, .inr (.inl kf)))] s.heap := hP
  have hl := lv_entry ([.ref tb, .int pl, .ref k0]) (n := 3) (Nat.le_of_ble_eq_true rfl)
  rw [lg_entry_eq]
  generalize (lg_sl ([.ref tb, .int pl, .ref k0]) ++ List.replicate (3 - (lg_sl ([.ref tb, .int pl, .ref k0])).length) Slot.unset).toArray = ls at hl ⊢
  have hl : lv_has ls 3 [(0, .ref tb), (1, .int pl), (2, .ref k0)] := hl
  obtain ⟨Q, hQ⟩ : ∃ Q, Q = MQ below (vp_Si (fun r => (r = 0 ∨ r = 1) ∧ (r = 1 ↔ pl.toInt.toNat < n ∧ kw_eq w (kr fc w pl.toInt.toNat) kf))) ([.ref tb, .int pl, .ref k0] : List Value).toArray s 0 0 (fun _ => False) := ⟨_, rfl⟩
  rw [← hQ]
  have hrg_pl := ia_rng pl
  refine lv_iload_n hx hb d_Ta_holds_0 rfl (lv_at hl 1 rfl) ?_
  refine lv_aload_n hx hb d_Ta_holds_1 rfl (lv_at hl 0 rfl) ?_
  refine va_get (D := D) (ci := 2) (v := .int cnt) (C := R_Ta) (T := F_Ta) (N := 5) hx hb hts in_Ta hown hK hP 0 rfl rfl 3 (by decide) (hts _ tw_63) (fun _ h9 => h9) rfl d_Ta_holds_2 ?_
  refine lv_icmp_ge hx hb d_Ta_holds_5 (tgt := 25) (by decide) (fun g5 => ?_) (fun g5 => ?_)
  · have g5 := ic_le.mp g5
    refine lv_iconst (v := 0) hx hb d_Ta_holds_25 (by decide) ?_
    refine lv_topi (fun v25 e25 => ?_)
    have t25 : v25.toInt = 0 := by rw [e25]; rfl
    have hpost : (v25 = 0 ∨ v25 = 1) ∧ (v25 = 1 ↔ pl.toInt.toNat < n ∧ kw_eq w (kr fc w pl.toInt.toNat) kf) := by
      first
      | (refine ⟨Or.inr e21, ⟨fun _ => ⟨by omega, sh_w_full.mp (by omega)⟩, fun _ => e21⟩⟩)
      | (refine ⟨Or.inl e25, ⟨fun h5 => absurd (h5.symm.trans e25) (by decide), fun h5 => ?_⟩⟩
         exfalso
         have h6 := sh_w_full.mpr h5.2
         omega)
    rw [hQ]
    exact xr_retz (v := v25) hx hb hr hlocks (Or.inl e25) (hpost) d_Ta_holds_26
  · have g5 := ic_nle.mp g5
    have hmid := hcap pl.toInt.toNat (by omega)
    refine lv_aload_n hx hb d_Ta_holds_8 rfl (lv_at hl 0 rfl) ?_
    refine lv_iload_n hx hb d_Ta_holds_9 rfl (lv_at hl 1 rfl) ?_
    refine lv_aload_n hx hb d_Ta_holds_10 rfl (lv_at hl 2 rfl) ?_
    refine vp_callSi (xr_rv (As := [.int pl, .ref k0]) (rest := []) ⟨hx, hb, hml, hown, hts⟩ (c_Ta_sharedWithKey l D cL cI tb cd vl nc w n wd cnt chg fc k0 kw kn isr kf pl (by omega) (by omega) (by omega) (by omega) (by omega) (by omega)) (xr_cv 2 hts tw_178 tw_175 tw_176 tw_177 tw_5 rfl rfl (by decide) ⟨by decide, by decide⟩) hK hP (va_recv hK hP rfl (q0 := 0) (ci := 2) rfl) rfl hl.1 rfl (Nat.le_of_ble_eq_true rfl) d_Ta_holds_11 ⟨Nat.le_refl _, Nat.le_refl _⟩) (fun v11 e11 => ?_)
    have e11 : v11.toInt = (sh_w w (kr fc w pl.toInt.toNat) kf : Int) := e11
    refine lv_aload_n hx hb d_Ta_holds_14 rfl (lv_at hl 0 rfl) ?_
    refine vp_callSi (xr_rv (As := []) (rest := [.int v11]) ⟨hx, hb, hml, hown, hts⟩ (c_Ta_mostShared l D cL cI tb cd vl w wd cnt chg (by omega) (by omega)) (xr_cv 0 hts tw_84 tw_186 tw_82 tw_83 tw_5 rfl rfl (by decide) ⟨by decide, by decide⟩) hK (hP.sub (ws' := [(tb, .inr (2, [.int wd, .ref cd, .ref vl, .int cnt, .int chg]))]) [0] rfl) (va_recv hK hP rfl (q0 := 0) (ci := 2) rfl) rfl hl.1 rfl (Nat.le_of_ble_eq_true rfl) d_Ta_holds_15 ⟨Nat.le_refl _, Nat.le_refl _⟩) (fun v15 e15 => ?_)
    have e15 : v15.toInt = 8 * (w : Int) := e15
    refine lv_icmp_ne hx hb d_Ta_holds_18 (tgt := 25) (by decide) (fun g18 => ?_) (fun g18 => ?_)
    · have g18 := ic_ne.mp g18
      refine lv_iconst (v := 0) hx hb d_Ta_holds_25 (by decide) ?_
      refine lv_topi (fun v25 e25 => ?_)
      have t25 : v25.toInt = 0 := by rw [e25]; rfl
      have hpost : (v25 = 0 ∨ v25 = 1) ∧ (v25 = 1 ↔ pl.toInt.toNat < n ∧ kw_eq w (kr fc w pl.toInt.toNat) kf) := by
        first
        | (refine ⟨Or.inr e21, ⟨fun _ => ⟨by omega, sh_w_full.mp (by omega)⟩, fun _ => e21⟩⟩)
        | (refine ⟨Or.inl e25, ⟨fun h5 => absurd (h5.symm.trans e25) (by decide), fun h5 => ?_⟩⟩
           exfalso
           have h6 := sh_w_full.mpr h5.2
           omega)
      rw [hQ]
      exact xr_retz (v := v25) hx hb hr hlocks (Or.inl e25) (hpost) d_Ta_holds_26
    · have g18 := ic_eq.mp g18
      refine lv_iconst (v := 1) hx hb d_Ta_holds_21 (by decide) ?_
      refine lv_topi (fun v21 e21 => ?_)
      have t21 : v21.toInt = 1 := by rw [e21]; rfl
      refine lv_goto hx hb d_Ta_holds_22 (tgt := 26) (by decide) ?_
      have hpost : (v21 = 0 ∨ v21 = 1) ∧ (v21 = 1 ↔ pl.toInt.toNat < n ∧ kw_eq w (kr fc w pl.toInt.toNat) kf) := by
        first
        | (refine ⟨Or.inr e21, ⟨fun _ => ⟨by omega, sh_w_full.mp (by omega)⟩, fun _ => e21⟩⟩)
        | (refine ⟨Or.inl e25, ⟨fun h5 => absurd (h5.symm.trans e25) (by decide), fun h5 => ?_⟩⟩
           exfalso
           have h6 := sh_w_full.mpr h5.2
           omega)
      rw [hQ]
      exact xr_retz (v := v21) hx hb hr hlocks (Or.inr e21) (hpost) d_Ta_holds_26
set_option maxRecDepth 100000 in
set_option maxHeartbeats 4000000 in
theorem c_Ta_countUpTo (l : Launch) (D : va_G) (cL cI : ClassId) (tb cd vl nc w n : Nat) (wd cnt chg : Int32) (fc : Nat → Int64) (k0 kw kn : Nat) (isr : Int32) (kf : Nat → Int64) (hw : wd.toInt = (w : Int)) (hw7 : 1 ≤ w ∧ w ≤ 7) (hcnt : cnt.toInt = (n : Int)) (hnc : nc < 16777216) (hcap : ∀ k, k < n → k * w + w ≤ nc) (hn : n ≤ 1500) (hkn : kn = w) (hs : tb_srt w n fc) : Met l y_Ta_countUpTo (Cond.code y_Ta_countUpTo prog_4_method_3_code 3 (some .int) :: TW) ({ frames := 5, cells := 0, slots := 0, locals := 133 } : Room) (PR D cL cI [.ref tb, .ref k0] [(tb, .inr (2, [.int wd, .ref cd, .ref vl, .int cnt, .int chg])), (cd, .inl (cL, nc, .inr (.inl fc))), (k0, .inr (0, [.int isr, .ref kw])), (kw, .inl (cL, kn, .inr (.inl kf)))]) (vp_Si (fun r => ∃ q : Nat, tb_isb w n fc kf q ∧ ((q < n ∧ kw_eq w (kr fc w q) kf ∧ r.toInt = (q : Int) + 1) ∨ (¬ (q < n ∧ kw_eq w (kr fc w q) kf) ∧ r.toInt = (q : Int))))) 0 0 (fun _ => False) := by
  refine xr_met (by decide) ?_
  intro p e s m args below meth c hx hb hr hts hown hlocks hname hml hv
  obtain ⟨rfl, hP, hK⟩ := hv
  have hown : s.vm.findClass "BranchStore$Table" = some m.cls := hown
  have hP : va_P D classes [(tb, .inr (2, [.int wd, .ref cd, .ref vl, .int cnt, .int chg])), (cd, .inl (cL, nc, .inr (.inl fc))), (k0, .inr (0, [.int isr, .ref kw])), (kw, .inl (cL, kn, .inr (.inl kf)))] s.heap := hP
  have hl := lv_entry ([.ref tb, .ref k0]) (n := 3) (Nat.le_of_ble_eq_true rfl)
  rw [lg_entry_eq]
  generalize (lg_sl ([.ref tb, .ref k0]) ++ List.replicate (3 - (lg_sl ([.ref tb, .ref k0])).length) Slot.unset).toArray = ls at hl ⊢
  have hl : lv_has ls 3 [(0, .ref tb), (1, .ref k0)] := hl
  obtain ⟨Q, hQ⟩ : ∃ Q, Q = MQ below (vp_Si (fun r => ∃ q : Nat, tb_isb w n fc kf q ∧ ((q < n ∧ kw_eq w (kr fc w q) kf ∧ r.toInt = (q : Int) + 1) ∨ (¬ (q < n ∧ kw_eq w (kr fc w q) kf) ∧ r.toInt = (q : Int))))) ([.ref tb, .ref k0] : List Value).toArray s 0 0 (fun _ => False) := ⟨_, rfl⟩
  rw [← hQ]
  refine lv_aload_n hx hb d_Ta_countUpTo_0 rfl (lv_at hl 0 rfl) ?_
  refine lv_aload_n hx hb d_Ta_countUpTo_1 rfl (lv_at hl 1 rfl) ?_
  refine vp_callSi (xr_rv (As := [.ref k0]) (rest := []) ⟨hx, hb, hml, hown, hts⟩ (c_Ta_countBelow l D cL cI tb cd vl nc w n wd cnt chg fc k0 kw kn isr kf (by omega) (by omega) (by omega) (by omega) (by omega) (by omega) (by omega) (by omega)) (xr_cv 1 hts tw_165 tw_199 tw_163 tw_164 tw_5 rfl rfl (by decide) ⟨by decide, by decide⟩) hK hP (va_recv hK hP rfl (q0 := 0) (ci := 2) rfl) rfl hl.1 rfl (Nat.le_of_ble_eq_true rfl) d_Ta_countUpTo_2 ⟨Nat.le_refl _, Nat.le_refl _⟩) (fun v2 e2 => ?_)
  have e2 : ∃ q : Nat, v2.toInt = (q : Int) ∧ tb_isb w n fc kf q := e2
  obtain ⟨q, hq1, hq2⟩ := e2
  have hq3 := hq2.1
  refine lv_istore_n (lv' := [(2, .int v2), (0, .ref tb), (1, .ref k0)]) hx hb d_Ta_countUpTo_5 rfl hl (by decide) rfl (fun ls hl => ?_)
  refine lv_aload_n hx hb d_Ta_countUpTo_6 rfl (lv_at hl 1 rfl) ?_
  refine lv_iload_n hx hb d_Ta_countUpTo_7 rfl (lv_at hl 0 rfl) ?_
  refine lv_aload_n hx hb d_Ta_countUpTo_8 rfl (lv_at hl 2 rfl) ?_
  refine vp_callSi (xr_rv (As := [.int v2, .ref k0]) (rest := []) ⟨hx, hb, hml, hown, hts⟩ (c_Ta_holds l D cL cI tb cd vl nc w n wd cnt chg fc k0 kw kn isr kf v2 (by omega) (by omega) (by omega) (by omega) (by omega) (by omega) (by omega) (by omega)) (xr_cv 2 hts tw_174 tw_200 tw_172 tw_173 tw_5 rfl rfl (by decide) ⟨by decide, by decide⟩) hK hP (va_recv hK hP rfl (q0 := 0) (ci := 2) rfl) rfl hl.1 rfl (Nat.le_of_ble_eq_true rfl) d_Ta_countUpTo_9 ⟨Nat.le_refl _, Nat.le_refl _⟩) (fun v9 e9 => ?_)
  have e9 : (v9 = 0 ∨ v9 = 1) ∧ (v9 = 1 ↔ v2.toInt.toNat < n ∧ kw_eq w (kr fc w v2.toInt.toNat) kf) := e9
  obtain ⟨e9a, e9b⟩ := e9
  rw [show v2.toInt.toNat = q by omega] at e9b
  refine lv_if_eq hx hb d_Ta_countUpTo_12 (tgt := 21) (by decide) (fun g12 => ?_) (fun g12 => ?_)
  · have g12 := (iz_eq).mp g12
    refine lv_iload_n hx hb d_Ta_countUpTo_21 rfl (lv_at hl 0 rfl) ?_
    have hpost : ∃ q : Nat, tb_isb w n fc kf q ∧ ((q < n ∧ kw_eq w (kr fc w q) kf ∧ v2.toInt = (q : Int) + 1) ∨ (¬ (q < n ∧ kw_eq w (kr fc w q) kf) ∧ v2.toInt = (q : Int))) := by
      refine ⟨q, hq2, ?_⟩
      first
      | exact Or.inr ⟨fun h5 => by have h6 := e9b.mpr h5; rw [h6] at g12; exact absurd g12 (by decide), hq1⟩
      | (have h6 := e9b.mp (e9a.resolve_left (iz_ne.mpr g12))
         exact Or.inl ⟨h6.1, h6.2, by omega⟩)
    rw [hQ]
    exact xr_reti (v := v2) hx hb hr hlocks (hpost) d_Ta_countUpTo_22
  · have g12 := (iz_ne).mp g12
    refine lv_iload_n hx hb d_Ta_countUpTo_15 rfl (lv_at hl 0 rfl) ?_
    refine lv_iconst (v := 1) hx hb d_Ta_countUpTo_16 (by decide) ?_
    refine lv_topi (fun v16 e16 => ?_)
    have t16 : v16.toInt = 1 := by rw [e16]; rfl
    refine lv_iadd hx hb d_Ta_countUpTo_17 ?_
    refine lv_topi (fun v17 e17 => ?_)
    have t17 := ia_add e17 ⟨by omega, by omega⟩
    refine lv_goto hx hb d_Ta_countUpTo_18 (tgt := 22) (by decide) ?_
    have hpost : ∃ q : Nat, tb_isb w n fc kf q ∧ ((q < n ∧ kw_eq w (kr fc w q) kf ∧ v17.toInt = (q : Int) + 1) ∨ (¬ (q < n ∧ kw_eq w (kr fc w q) kf) ∧ v17.toInt = (q : Int))) := by
      refine ⟨q, hq2, ?_⟩
      first
      | exact Or.inr ⟨fun h5 => by have h6 := e9b.mpr h5; rw [h6] at g12; exact absurd g12 (by decide), hq1⟩
      | (have h6 := e9b.mp (e9a.resolve_left (iz_ne.mpr g12))
         exact Or.inl ⟨h6.1, h6.2, by omega⟩)
    rw [hQ]
    exact xr_reti (v := v17) hx hb hr hlocks (hpost) d_Ta_countUpTo_22
set_option maxRecDepth 100000 in
set_option maxHeartbeats 4000000 in
theorem c_Ke_partCount (l : Launch) (D : va_G) (cL cI : ClassId) (k0 kw kn : Nat) (isr : Int32) (kf : Nat → Int64) (hkn : kn ≤ 7) : Met l y_Ke_partCount (Cond.code y_Ke_partCount prog_2_method_6_code 4 (some .int) :: TW) ({ frames := 4, cells := 0, slots := 0, locals := 102 } : Room) (PR D cL cI [.ref k0] [(k0, .inr (0, [.int isr, .ref kw])), (kw, .inl (cL, kn, .inr (.inl kf)))]) (vp_Si (fun r => (isr = 0 → r.toInt = (kn : Int)) ∧ (¬ isr = 0 → r.toInt = (cb_num (fun d => decide (by_w kf d ≠ 0)) (8 * kn) : Int)))) 0 0 (fun _ => False) := by
  refine xr_met (by decide) ?_
  intro p e s m args below meth c hx hb hr hts hown hlocks hname hml hv
  obtain ⟨rfl, hP, hK⟩ := hv
  have hown : s.vm.findClass "BranchStore$Key" = some m.cls := hown
  have hP : va_P D classes [(k0, .inr (0, [.int isr, .ref kw])), (kw, .inl (cL, kn, .inr (.inl kf)))] s.heap := hP
  have hl := lv_entry ([.ref k0]) (n := 4) (Nat.le_of_ble_eq_true rfl)
  rw [lg_entry_eq]
  generalize (lg_sl ([.ref k0]) ++ List.replicate (4 - (lg_sl ([.ref k0])).length) Slot.unset).toArray = ls at hl ⊢
  have hl : lv_has ls 4 [(0, .ref k0)] := hl
  obtain ⟨Q, hQ⟩ : ∃ Q, Q = MQ below (vp_Si (fun r => (isr = 0 → r.toInt = (kn : Int)) ∧ (¬ isr = 0 → r.toInt = (cb_num (fun d => decide (by_w kf d ≠ 0)) (8 * kn) : Int)))) ([.ref k0] : List Value).toArray s 0 0 (fun _ => False) := ⟨_, rfl⟩
  rw [← hQ]
  refine lv_aload_n hx hb d_Ke_partCount_0 rfl (lv_at hl 0 rfl) ?_
  refine va_get (D := D) (ci := 0) (v := .int isr) (C := R_Ke) (T := F_Ke) (N := 2) hx hb hts in_Ke hown hK hP 0 rfl rfl 0 (by decide) (hts _ tw_43) (fun _ h9 => h9) rfl d_Ke_partCount_1 ?_
  refine lv_if_ne hx hb d_Ke_partCount_4 (tgt := 13) (by decide) (fun g4 => ?_) (fun g4 => ?_)
  · have g4 := (iz_ne).mp g4
    refine lv_iconst (v := 0) hx hb d_Ke_partCount_13 (by decide) ?_
    refine lv_topi (fun v13 e13 => ?_)
    have t13 : v13.toInt = 0 := by rw [e13]; rfl
    refine lv_istore_n (lv' := [(1, .int v13), (0, .ref k0)]) hx hb d_Ke_partCount_14 rfl hl (by decide) rfl (fun ls hl => ?_)
    refine lv_aload_n hx hb d_Ke_partCount_15 rfl (lv_at hl 1 rfl) ?_
    refine vp_callSi (xr_rv (As := []) (rest := []) ⟨hx, hb, hml, hown, hts⟩ (c_Ke_letterBytes l D cL cI k0 kw kn isr kf (by omega)) (xr_cv 0 hts tw_252 tw_249 tw_250 tw_251 tw_3 rfl rfl (by decide) ⟨by decide, by decide⟩) hK hP (va_recv hK hP rfl (q0 := 0) (ci := 0) rfl) rfl hl.1 rfl (Nat.le_of_ble_eq_true rfl) d_Ke_partCount_16 ⟨Nat.le_refl _, Nat.le_refl _⟩) (fun v16 e16 => ?_)
    have e16 : ∃ z : Nat, v16.toInt = (z : Int) ∧ z ≤ 8 * kn ∧ (∀ d, z ≤ d → d < 8 * kn → by_w kf d = 0) ∧ (0 < z → by_w kf (z - 1) ≠ 0) := e16
    obtain ⟨z, hz1, hz2, hz3, hz4⟩ := e16
    refine lv_istore_n (lv' := [(2, .int v16), (1, .int v13), (0, .ref k0)]) hx hb d_Ke_partCount_19 rfl hl (by decide) rfl (fun ls hl => ?_)
    refine lv_iconst (v := 0) hx hb d_Ke_partCount_20 (by decide) ?_
    refine lv_topi (fun v20 e20 => ?_)
    have t20 : v20.toInt = 0 := by rw [e20]; rfl
    refine lv_istore_n (lv' := [(3, .int v20), (2, .int v16), (1, .int v13), (0, .ref k0)]) hx hb d_Ke_partCount_21 rfl hl (by decide) rfl (fun ls hl => ?_)
    have lp22 : ∀ (fuel22 : Nat) (ii : Int32) (cc0 : Int32) (ls : Array Slot), lv_has ls 4 [(3, .int ii), (2, .int v16), (1, .int cc0), (0, .ref k0)] → (0 ≤ ii.toInt) → (ii.toInt ≤ (z : Int)) → (cc0.toInt = (cb_num (fun d => decide (by_w kf d ≠ 0)) ii.toInt.toNat : Int)) → (0 ≤ cc0.toInt ∧ cc0.toInt ≤ ii.toInt) → z - ii.toInt.toNat < fuel22 → W p l e ({ frames := 4, cells := 0, slots := 0, locals := 102 } : Room) s m ([.ref k0] : List Value).toArray below meth c s.heap [] 0 0 Q (F0 m 22 ls []) := by
      intro fuel22
      induction fuel22 with
      | zero => intro ii cc0 ls hl h1 h2 h3 h4 hm22; exact absurd hm22 (Nat.not_lt_zero _)
      | succ fuel22 ih22 =>
        intro ii cc0 ls hl h1 h2 h3 h4 hm22
        refine lv_iload_n hx hb d_Ke_partCount_22 rfl (lv_at hl 0 rfl) ?_
        refine lv_iload_n hx hb d_Ke_partCount_23 rfl (lv_at hl 1 rfl) ?_
        refine lv_icmp_ge hx hb d_Ke_partCount_24 (tgt := 44) (by decide) (fun g24 => ?_) (fun g24 => ?_)
        · have g24 := ic_le.mp g24
          refine lv_iload_n hx hb d_Ke_partCount_44 rfl (lv_at hl 2 rfl) ?_
          have hpost : (isr = 0 → cc0.toInt = (kn : Int)) ∧ (¬ isr = 0 → cc0.toInt = (cb_num (fun d => decide (by_w kf d ≠ 0)) (8 * kn) : Int)) := by
            refine ⟨fun h5 => absurd h5 (iz_ne.mpr g4), fun _ => ?_⟩
            have far : ∀ m, z + m ≤ 8 * kn → cb_num (fun d => decide (by_w kf d ≠ 0)) (z + m) = cb_num (fun d => decide (by_w kf d ≠ 0)) z := by
              intro m
              induction m with
              | zero => exact fun _ => rfl
              | succ m ih =>
                intro hm
                rw [show z + (m + 1) = z + m + 1 by omega, cb_num, ih (by omega), hz3 (z + m) (by omega) (by omega), if_neg (by decide), Nat.add_zero]
            have := far (8 * kn - z) (by omega)
            rw [show z + (8 * kn - z) = 8 * kn by omega] at this
            rw [this, show z = ii.toInt.toNat by omega]
            exact h3
          rw [hQ]
          exact xr_reti (v := cc0) hx hb hr hlocks (hpost) d_Ke_partCount_45
        · have g24 := ic_nle.mp g24
          refine lv_aload_n hx hb d_Ke_partCount_27 rfl (lv_at hl 3 rfl) ?_
          refine lv_iload_n hx hb d_Ke_partCount_28 rfl (lv_at hl 0 rfl) ?_
          refine vp_callSi (xr_rv (As := [.int ii]) (rest := []) ⟨hx, hb, hml, hown, hts⟩ (c_Ke_byteAt l D cL cI k0 kw kn isr kf ii (by omega) (by omega) (by omega)) (xr_cv 1 hts tw_256 tw_253 tw_255 tp_4 tw_3 rfl rfl (by decide) ⟨by decide, by decide⟩) hK hP (va_recv hK hP rfl (q0 := 0) (ci := 0) rfl) rfl hl.1 rfl (Nat.le_of_ble_eq_true rfl) d_Ke_partCount_29 ⟨Nat.le_refl _, Nat.le_refl _⟩) (fun v29 e29 => ?_)
          have e29 : v29.toInt = (by_w kf ii.toInt.toNat : Int) := e29
          refine lv_if_eq hx hb d_Ke_partCount_32 (tgt := 38) (by decide) (fun g32 => ?_) (fun g32 => ?_)
          · have g32 := (iz_eq).mp g32
            obtain ⟨v38, e38⟩ : ∃ z, z = ii + Int32.ofInt 1 := ⟨_, rfl⟩
            have t38 := ia_inc 1 e38 (by decide) ⟨by omega, by omega⟩
            refine lv_iinc (k := 0) (lv' := [(3, .int v38), (2, .int v16), (1, .int cc0), (0, .ref k0)]) hx hb d_Ke_partCount_38 hl rfl e38.symm (by decide) rfl (fun ls hl => ?_)
            refine lv_goto hx hb d_Ke_partCount_41 (tgt := 22) (by decide) ?_
            have hnx : cb_num (fun d => decide (by_w kf d ≠ 0)) (ii.toInt.toNat + 1) = cb_num (fun d => decide (by_w kf d ≠ 0)) ii.toInt.toNat + (if decide (by_w kf ii.toInt.toNat ≠ 0) = true then 1 else 0) := rfl
            exact ih22 v38 cc0 ls hl (by omega) (by omega) (by
            rw [show v38.toInt.toNat = ii.toInt.toNat + 1 by omega, hnx]
            first
            | (rw [if_neg (by rw [show by_w kf ii.toInt.toNat = 0 by omega]; decide)]; omega)
            | (rw [if_pos (decide_eq_true (show by_w kf ii.toInt.toNat ≠ 0 by omega))]; omega)) (by omega) (by omega)
          · have g32 := (iz_ne).mp g32
            obtain ⟨v35, e35⟩ : ∃ z, z = cc0 + Int32.ofInt 1 := ⟨_, rfl⟩
            have t35 := ia_inc 1 e35 (by decide) ⟨by omega, by omega⟩
            refine lv_iinc (k := 2) (lv' := [(1, .int v35), (3, .int ii), (2, .int v16), (0, .ref k0)]) hx hb d_Ke_partCount_35 hl rfl e35.symm (by decide) rfl (fun ls hl => ?_)
            obtain ⟨v38, e38⟩ : ∃ z, z = ii + Int32.ofInt 1 := ⟨_, rfl⟩
            have t38 := ia_inc 1 e38 (by decide) ⟨by omega, by omega⟩
            refine lv_iinc (k := 1) (lv' := [(3, .int v38), (1, .int v35), (2, .int v16), (0, .ref k0)]) hx hb d_Ke_partCount_38 hl rfl e38.symm (by decide) rfl (fun ls hl => ?_)
            refine lv_goto hx hb d_Ke_partCount_41 (tgt := 22) (by decide) ?_
            have hnx : cb_num (fun d => decide (by_w kf d ≠ 0)) (ii.toInt.toNat + 1) = cb_num (fun d => decide (by_w kf d ≠ 0)) ii.toInt.toNat + (if decide (by_w kf ii.toInt.toNat ≠ 0) = true then 1 else 0) := rfl
            exact ih22 v38 v35 ls (lv_sub hl [0, 2, 1, 3] rfl) (by omega) (by omega) (by
            rw [show v38.toInt.toNat = ii.toInt.toNat + 1 by omega, hnx]
            first
            | (rw [if_neg (by rw [show by_w kf ii.toInt.toNat = 0 by omega]; decide)]; omega)
            | (rw [if_pos (decide_eq_true (show by_w kf ii.toInt.toNat ≠ 0 by omega))]; omega)) (by omega) (by omega)
    exact lp22 _ v20 v13  ls hl (by omega) (by omega) (by rw [show v20.toInt.toNat = 0 by omega]; exact t13) (by omega) (Nat.lt_succ_self _)
  · have g4 := (iz_eq).mp g4
    refine lv_aload_n hx hb d_Ke_partCount_7 rfl (lv_at hl 0 rfl) ?_
    refine va_get (D := D) (ci := 0) (v := .ref kw) (C := R_Ke) (T := F_Ke) (N := 2) hx hb hts in_Ke hown hK hP 0 rfl rfl 1 (by decide) (hts _ tw_44) (fun _ h9 => h9) rfl d_Ke_partCount_8 ?_
    refine va_alen hx hb hK hP 1 0 rfl rfl rfl d_Ke_partCount_11 ?_
    refine lv_topi (fun v11 e11 => ?_)
    have t11 : v11.toInt = (kn : Nat) := by rw [e11]; exact ia_of _ (by omega)
    have hpost : (isr = 0 → v11.toInt = (kn : Int)) ∧ (¬ isr = 0 → v11.toInt = (cb_num (fun d => decide (by_w kf d ≠ 0)) (8 * kn) : Int)) := by
      exact ⟨fun _ => by omega, fun h5 => absurd (iz_eq.mpr g4) h5⟩
    rw [hQ]
    exact xr_reti (v := v11) hx hb hr hlocks (hpost) d_Ke_partCount_12
set_option maxRecDepth 100000 in
set_option maxHeartbeats 4000000 in
theorem c_Ke_codeBytes (l : Launch) (D : va_G) (cL cI : ClassId) (k0 kw kn : Nat) (isr : Int32) (kf : Nat → Int64) (hkn : kn ≤ 7) : Met l y_Ke_codeBytes (Cond.code y_Ke_codeBytes prog_2_method_8_code 1 (some .int) :: TW) ({ frames := 4, cells := 0, slots := 0, locals := 102 } : Room) (PR D cL cI [.ref k0] [(k0, .inr (0, [.int isr, .ref kw])), (kw, .inl (cL, kn, .inr (.inl kf)))]) (vp_Si (fun r => (isr = 0 → r.toInt = 8 * (kn : Int)) ∧ (¬ isr = 0 → ∃ z : Nat, r.toInt = (z : Int) + 2 ∧ z ≤ 8 * kn ∧ (∀ d, z ≤ d → d < 8 * kn → by_w kf d = 0) ∧ (0 < z → by_w kf (z - 1) ≠ 0)))) 0 0 (fun _ => False) := by
  refine xr_met (by decide) ?_
  intro p e s m args below meth c hx hb hr hts hown hlocks hname hml hv
  obtain ⟨rfl, hP, hK⟩ := hv
  have hown : s.vm.findClass "BranchStore$Key" = some m.cls := hown
  have hP : va_P D classes [(k0, .inr (0, [.int isr, .ref kw])), (kw, .inl (cL, kn, .inr (.inl kf)))] s.heap := hP
  have hl := lv_entry ([.ref k0]) (n := 1) (Nat.le_of_ble_eq_true rfl)
  rw [lg_entry_eq]
  generalize (lg_sl ([.ref k0]) ++ List.replicate (1 - (lg_sl ([.ref k0])).length) Slot.unset).toArray = ls at hl ⊢
  have hl : lv_has ls 1 [(0, .ref k0)] := hl
  obtain ⟨Q, hQ⟩ : ∃ Q, Q = MQ below (vp_Si (fun r => (isr = 0 → r.toInt = 8 * (kn : Int)) ∧ (¬ isr = 0 → ∃ z : Nat, r.toInt = (z : Int) + 2 ∧ z ≤ 8 * kn ∧ (∀ d, z ≤ d → d < 8 * kn → by_w kf d = 0) ∧ (0 < z → by_w kf (z - 1) ≠ 0)))) ([.ref k0] : List Value).toArray s 0 0 (fun _ => False) := ⟨_, rfl⟩
  rw [← hQ]
  refine lv_aload_n hx hb d_Ke_codeBytes_0 rfl (lv_at hl 0 rfl) ?_
  refine va_get (D := D) (ci := 0) (v := .int isr) (C := R_Ke) (T := F_Ke) (N := 2) hx hb hts in_Ke hown hK hP 0 rfl rfl 0 (by decide) (hts _ tw_43) (fun _ h9 => h9) rfl d_Ke_codeBytes_1 ?_
  refine lv_if_eq hx hb d_Ke_codeBytes_4 (tgt := 16) (by decide) (fun g4 => ?_) (fun g4 => ?_)
  · have g4 := (iz_eq).mp g4
    refine lv_bipush (v := 8) hx hb d_Ke_codeBytes_16 (by decide) ?_
    refine lv_topi (fun v16 e16 => ?_)
    have t16 : v16.toInt = 8 := by rw [e16]; rfl
    refine lv_aload_n hx hb d_Ke_codeBytes_18 rfl (lv_at hl 0 rfl) ?_
    refine va_get (D := D) (ci := 0) (v := .ref kw) (C := R_Ke) (T := F_Ke) (N := 2) hx hb hts in_Ke hown hK hP 0 rfl rfl 1 (by decide) (hts _ tw_44) (fun _ h9 => h9) rfl d_Ke_codeBytes_19 ?_
    refine va_alen hx hb hK hP 1 0 rfl rfl rfl d_Ke_codeBytes_22 ?_
    refine lv_topi (fun v22 e22 => ?_)
    have t22 : v22.toInt = (kn : Nat) := by rw [e22]; exact ia_of _ (by omega)
    refine lv_imul hx hb d_Ke_codeBytes_23 ?_
    refine lv_topi (fun v23 e23 => ?_)
    have t23 := ia_mull 8 e23 (by omega) ⟨by omega, by omega⟩
    have hpost : (isr = 0 → v23.toInt = 8 * (kn : Int)) ∧ (¬ isr = 0 → ∃ z : Nat, v23.toInt = (z : Int) + 2 ∧ z ≤ 8 * kn ∧ (∀ d, z ≤ d → d < 8 * kn → by_w kf d = 0) ∧ (0 < z → by_w kf (z - 1) ≠ 0)) := by
      first
      | exact ⟨fun _ => by omega, fun h5 => absurd (iz_eq.mpr g4) h5⟩
      | exact ⟨fun h5 => absurd h5 (iz_ne.mpr g4), fun _ => ⟨z, by omega, hz2, hz3, hz4⟩⟩
    rw [hQ]
    exact xr_reti (v := v23) hx hb hr hlocks (hpost) d_Ke_codeBytes_24
  · have g4 := (iz_ne).mp g4
    refine lv_aload_n hx hb d_Ke_codeBytes_7 rfl (lv_at hl 0 rfl) ?_
    refine vp_callSi (xr_rv (As := []) (rest := []) ⟨hx, hb, hml, hown, hts⟩ (c_Ke_letterBytes l D cL cI k0 kw kn isr kf (by omega)) (xr_cv 0 hts tw_252 tw_249 tw_250 tw_251 tw_3 rfl rfl (by decide) ⟨by decide, by decide⟩) hK hP (va_recv hK hP rfl (q0 := 0) (ci := 0) rfl) rfl hl.1 rfl (Nat.le_of_ble_eq_true rfl) d_Ke_codeBytes_8 ⟨Nat.le_refl _, Nat.le_refl _⟩) (fun v8 e8 => ?_)
    have e8 : ∃ z : Nat, v8.toInt = (z : Int) ∧ z ≤ 8 * kn ∧ (∀ d, z ≤ d → d < 8 * kn → by_w kf d = 0) ∧ (0 < z → by_w kf (z - 1) ≠ 0) := e8
    obtain ⟨z, hz1, hz2, hz3, hz4⟩ := e8
    refine lv_iconst (v := 2) hx hb d_Ke_codeBytes_11 (by decide) ?_
    refine lv_topi (fun v11 e11 => ?_)
    have t11 : v11.toInt = 2 := by rw [e11]; rfl
    refine lv_iadd hx hb d_Ke_codeBytes_12 ?_
    refine lv_topi (fun v12 e12 => ?_)
    have t12 := ia_add e12 ⟨by omega, by omega⟩
    refine lv_goto hx hb d_Ke_codeBytes_13 (tgt := 24) (by decide) ?_
    have hpost : (isr = 0 → v12.toInt = 8 * (kn : Int)) ∧ (¬ isr = 0 → ∃ z : Nat, v12.toInt = (z : Int) + 2 ∧ z ≤ 8 * kn ∧ (∀ d, z ≤ d → d < 8 * kn → by_w kf d = 0) ∧ (0 < z → by_w kf (z - 1) ≠ 0)) := by
      first
      | exact ⟨fun _ => by omega, fun h5 => absurd (iz_eq.mpr g4) h5⟩
      | exact ⟨fun h5 => absurd h5 (iz_ne.mpr g4), fun _ => ⟨z, by omega, hz2, hz3, hz4⟩⟩
    rw [hQ]
    exact xr_reti (v := v12) hx hb hr hlocks (hpost) d_Ke_codeBytes_24
set_option maxRecDepth 100000 in
set_option maxHeartbeats 4000000 in
theorem c_Ke_partAt (l : Launch) (D : va_G) (cL cI : ClassId) (k0 kw kn : Nat) (isr : Int32) (kf : Nat → Int64) (i0 : Int32) (Lz : List Nat) (hkn : kn ≤ 7) (hi : 0 ≤ i0.toInt) (hi2 : isr = 0 → i0.toInt < (kn : Int)) (hr2 : ¬ isr = 0 → (∀ d, d < 8 * kn → by_w kf d = rw_b Lz d) ∧ rw_n Lz ≤ 8 * kn ∧ i0.toInt < (Lz.length : Int)) : Met l y_Ke_partAt (Cond.code y_Ke_partAt prog_2_method_7_code 4 (some .long) :: TW) ({ frames := 3, cells := 0, slots := 0, locals := 81 } : Room) (PR D cL cI [.ref k0, .int i0] [(k0, .inr (0, [.int isr, .ref kw])), (kw, .inl (cL, kn, .inr (.inl kf)))]) (vp_Sl (fun r => (isr = 0 → r = kf i0.toInt.toNat ^^^ (-9223372036854775808)) ∧ (¬ isr = 0 → r.toInt = (Lz.getD i0.toInt.toNat 0 : Int)))) 0 0 (fun _ => False) := by
  refine xr_met (by decide) ?_
  intro p e s m args below meth c hx hb hr hts hown hlocks hname hml hv
  obtain ⟨rfl, hP, hK⟩ := hv
  have hown : s.vm.findClass "BranchStore$Key" = some m.cls := hown
  have hP : va_P D classes [(k0, .inr (0, [.int isr, .ref kw])), (kw, .inl (cL, kn, .inr (.inl kf)))] s.heap := hP
  have hl := lv_entry ([.ref k0, .int i0]) (n := 4) (Nat.le_of_ble_eq_true rfl)
  rw [lg_entry_eq]
  generalize (lg_sl ([.ref k0, .int i0]) ++ List.replicate (4 - (lg_sl ([.ref k0, .int i0])).length) Slot.unset).toArray = ls at hl ⊢
  have hl : lv_has ls 4 [(0, .ref k0), (1, .int i0)] := hl
  obtain ⟨Q, hQ⟩ : ∃ Q, Q = MQ below (vp_Sl (fun r => (isr = 0 → r = kf i0.toInt.toNat ^^^ (-9223372036854775808)) ∧ (¬ isr = 0 → r.toInt = (Lz.getD i0.toInt.toNat 0 : Int)))) ([.ref k0, .int i0] : List Value).toArray s 0 0 (fun _ => False) := ⟨_, rfl⟩
  rw [← hQ]
  have hrg_i0 := ia_rng i0
  refine lv_aload_n hx hb d_Ke_partAt_0 rfl (lv_at hl 0 rfl) ?_
  refine va_get (D := D) (ci := 0) (v := .int isr) (C := R_Ke) (T := F_Ke) (N := 2) hx hb hts in_Ke hown hK hP 0 rfl rfl 0 (by decide) (hts _ tw_43) (fun _ h9 => h9) rfl d_Ke_partAt_1 ?_
  refine lv_if_ne hx hb d_Ke_partAt_4 (tgt := 18) (by decide) (fun g4 => ?_) (fun g4 => ?_)
  · have g4 := (iz_ne).mp g4
    obtain ⟨hb1, hb2, hb3⟩ := hr2 (iz_ne.mpr g4)
    refine lv_iconst (v := 0) hx hb d_Ke_partAt_18 (by decide) ?_
    refine lv_topi (fun v18 e18 => ?_)
    have t18 : v18.toInt = 0 := by rw [e18]; rfl
    refine lv_istore_n (lv' := [(2, .int v18), (0, .ref k0), (1, .int i0)]) hx hb d_Ke_partAt_19 rfl hl (by decide) rfl (fun ls hl => ?_)
    refine lv_iconst (v := 0) hx hb d_Ke_partAt_20 (by decide) ?_
    refine lv_topi (fun v20 e20 => ?_)
    have t20 : v20.toInt = 0 := by rw [e20]; rfl
    refine lv_istore_n (lv' := [(3, .int v20), (2, .int v18), (0, .ref k0), (1, .int i0)]) hx hb d_Ke_partAt_21 rfl hl (by decide) rfl (fun ls hl => ?_)
    have lp22 : ∀ (fuel22 : Nat) (jj : Int32) (aa : Int32) (ls : Array Slot), lv_has ls 4 [(3, .int jj), (2, .int aa), (0, .ref k0), (1, .int i0)] → (0 ≤ jj.toInt) → (jj.toInt ≤ i0.toInt) → (aa.toInt = (rw_n (Lz.take jj.toInt.toNat) : Int)) → i0.toInt.toNat - jj.toInt.toNat < fuel22 → W p l e ({ frames := 3, cells := 0, slots := 0, locals := 81 } : Room) s m ([.ref k0, .int i0] : List Value).toArray below meth c s.heap [] 0 0 Q (F0 m 22 ls []) := by
      intro fuel22
      induction fuel22 with
      | zero => intro jj aa ls hl h1 h2 h3 hm22; exact absurd hm22 (Nat.not_lt_zero _)
      | succ fuel22 ih22 =>
        intro jj aa ls hl h1 h2 h3 hm22
        refine lv_iload_n hx hb d_Ke_partAt_22 rfl (lv_at hl 0 rfl) ?_
        refine lv_iload_n hx hb d_Ke_partAt_23 rfl (lv_at hl 3 rfl) ?_
        refine lv_icmp_ge hx hb d_Ke_partAt_24 (tgt := 49) (by decide) (fun g24 => ?_) (fun g24 => ?_)
        · have g24 := ic_le.mp g24
          have hk := rw_take Lz jj.toInt.toNat (by omega)
          have hk3 : 1 ≤ (if Lz.getD jj.toInt.toNat 0 = 0 then 2 else 1) := by split <;> omega
          refine lv_aload_n hx hb d_Ke_partAt_49 rfl (lv_at hl 2 rfl) ?_
          refine lv_iload_n hx hb d_Ke_partAt_50 rfl (lv_at hl 1 rfl) ?_
          refine vp_callSi (xr_rv (As := [.int aa]) (rest := []) ⟨hx, hb, hml, hown, hts⟩ (c_Ke_byteAt l D cL cI k0 kw kn isr kf aa (by omega) (by omega) (by omega)) (xr_cv 1 hts tw_256 tw_253 tw_255 tp_4 tw_3 rfl rfl (by decide) ⟨by decide, by decide⟩) hK hP (va_recv hK hP rfl (q0 := 0) (ci := 0) rfl) rfl hl.1 rfl (Nat.le_of_ble_eq_true rfl) d_Ke_partAt_51 ⟨Nat.le_refl _, Nat.le_refl _⟩) (fun v51 e51 => ?_)
          have e51 : v51.toInt = (by_w kf aa.toInt.toNat : Int) := e51
          refine lv_i2l hx hb d_Ke_partAt_54 rfl ?_
          refine lv_topl (fun v54 e54 => ?_)
          have hpost : (isr = 0 → v54 = kf i0.toInt.toNat ^^^ (-9223372036854775808)) ∧ (¬ isr = 0 → v54.toInt = (Lz.getD i0.toInt.toNat 0 : Int)) := by
            refine ⟨fun h5 => absurd h5 (iz_ne.mpr g4), fun _ => ?_⟩
            rw [e54, Jvm.Kit.i64_of_i32, e51, hb1 _ (by omega), show aa.toInt.toNat = rw_n (Lz.take jj.toInt.toNat) by omega, hk.1, show jj.toInt.toNat = i0.toInt.toNat by omega]
          rw [hQ]
          exact xr_retl (v := v54) hx hb hr hlocks (hpost) d_Ke_partAt_55
        · have g24 := ic_nle.mp g24
          have hk := rw_take Lz jj.toInt.toNat (by omega)
          have hk3 : 1 ≤ (if Lz.getD jj.toInt.toNat 0 = 0 then 2 else 1) := by split <;> omega
          refine lv_iload_n hx hb d_Ke_partAt_27 rfl (lv_at hl 1 rfl) ?_
          refine lv_aload_n hx hb d_Ke_partAt_28 rfl (lv_at hl 2 rfl) ?_
          refine lv_iload_n hx hb d_Ke_partAt_29 rfl (lv_at hl 1 rfl) ?_
          refine vp_callSi (xr_rv (As := [.int aa]) (rest := [.int aa]) ⟨hx, hb, hml, hown, hts⟩ (c_Ke_byteAt l D cL cI k0 kw kn isr kf aa (by omega) (by omega) (by omega)) (xr_cv 1 hts tw_256 tw_253 tw_255 tp_4 tw_3 rfl rfl (by decide) ⟨by decide, by decide⟩) hK hP (va_recv hK hP rfl (q0 := 0) (ci := 0) rfl) rfl hl.1 rfl (Nat.le_of_ble_eq_true rfl) d_Ke_partAt_30 ⟨Nat.le_refl _, Nat.le_refl _⟩) (fun v30 e30 => ?_)
          have e30 : v30.toInt = (by_w kf aa.toInt.toNat : Int) := e30
          refine lv_if_ne hx hb d_Ke_partAt_33 (tgt := 40) (by decide) (fun g33 => ?_) (fun g33 => ?_)
          · have g33 := (iz_ne).mp g33
            refine lv_iconst (v := 1) hx hb d_Ke_partAt_40 (by decide) ?_
            refine lv_topi (fun v40 e40 => ?_)
            have t40 : v40.toInt = 1 := by rw [e40]; rfl
            have hby := hb1 aa.toInt.toNat (by omega)
            refine lv_iadd hx hb d_Ke_partAt_41 ?_
            refine lv_topi (fun v41 e41 => ?_)
            have t41 := ia_add e41 ⟨by omega, by omega⟩
            refine lv_istore_n (lv' := [(2, .int v41), (3, .int jj), (0, .ref k0), (1, .int i0)]) hx hb d_Ke_partAt_42 rfl hl (by decide) rfl (fun ls hl => ?_)
            obtain ⟨v43, e43⟩ : ∃ z, z = jj + Int32.ofInt 1 := ⟨_, rfl⟩
            have t43 := ia_inc 1 e43 (by decide) ⟨by omega, by omega⟩
            refine lv_iinc (k := 1) (lv' := [(3, .int v43), (2, .int v41), (0, .ref k0), (1, .int i0)]) hx hb d_Ke_partAt_43 hl rfl e43.symm (by decide) rfl (fun ls hl => ?_)
            refine lv_goto hx hb d_Ke_partAt_46 (tgt := 22) (by decide) ?_
            exact ih22 v43 v41 ls hl (by omega) (by omega) (by
            rw [show v43.toInt.toNat = jj.toInt.toNat + 1 by omega, hk.2.1]
            first
            | (rw [if_pos (by rw [← hk.1, show rw_n (Lz.take jj.toInt.toNat) = aa.toInt.toNat by omega, ← hby]; omega)]; omega)
            | (rw [if_neg (by rw [← hk.1, show rw_n (Lz.take jj.toInt.toNat) = aa.toInt.toNat by omega, ← hby]; omega)]; omega)) (by omega)
          · have g33 := (iz_eq).mp g33
            refine lv_iconst (v := 2) hx hb d_Ke_partAt_36 (by decide) ?_
            refine lv_topi (fun v36 e36 => ?_)
            have t36 : v36.toInt = 2 := by rw [e36]; rfl
            refine lv_goto hx hb d_Ke_partAt_37 (tgt := 41) (by decide) ?_
            have hby := hb1 aa.toInt.toNat (by omega)
            refine lv_iadd hx hb d_Ke_partAt_41 ?_
            refine lv_topi (fun v41 e41 => ?_)
            have t41 := ia_add e41 ⟨by omega, by omega⟩
            refine lv_istore_n (lv' := [(2, .int v41), (3, .int jj), (0, .ref k0), (1, .int i0)]) hx hb d_Ke_partAt_42 rfl hl (by decide) rfl (fun ls hl => ?_)
            obtain ⟨v43, e43⟩ : ∃ z, z = jj + Int32.ofInt 1 := ⟨_, rfl⟩
            have t43 := ia_inc 1 e43 (by decide) ⟨by omega, by omega⟩
            refine lv_iinc (k := 1) (lv' := [(3, .int v43), (2, .int v41), (0, .ref k0), (1, .int i0)]) hx hb d_Ke_partAt_43 hl rfl e43.symm (by decide) rfl (fun ls hl => ?_)
            refine lv_goto hx hb d_Ke_partAt_46 (tgt := 22) (by decide) ?_
            exact ih22 v43 v41 ls hl (by omega) (by omega) (by
            rw [show v43.toInt.toNat = jj.toInt.toNat + 1 by omega, hk.2.1]
            first
            | (rw [if_pos (by rw [← hk.1, show rw_n (Lz.take jj.toInt.toNat) = aa.toInt.toNat by omega, ← hby]; omega)]; omega)
            | (rw [if_neg (by rw [← hk.1, show rw_n (Lz.take jj.toInt.toNat) = aa.toInt.toNat by omega, ← hby]; omega)]; omega)) (by omega)
    exact lp22 _ v20 v18  ls hl (by omega) (by omega) (by rw [show v20.toInt.toNat = 0 by omega]; exact t18) (Nat.lt_succ_self _)
  · have g4 := (iz_eq).mp g4
    have hi2 := hi2 (iz_eq.mpr g4)
    refine lv_aload_n hx hb d_Ke_partAt_7 rfl (lv_at hl 0 rfl) ?_
    refine va_get (D := D) (ci := 0) (v := .ref kw) (C := R_Ke) (T := F_Ke) (N := 2) hx hb hts in_Ke hown hK hP 0 rfl rfl 1 (by decide) (hts _ tw_44) (fun _ h9 => h9) rfl d_Ke_partAt_8 ?_
    refine lv_iload_n hx hb d_Ke_partAt_11 rfl (lv_at hl 1 rfl) ?_
    refine va_lald hx hb hK hP 1 0 rfl rfl (ia_in ⟨by omega, by omega⟩) d_Ke_partAt_12 ?_
    refine lv_topl (fun v12 e12 => ?_)
    have e12 : v12 = kf i0.toInt.toNat := e12
    refine lv_ldc2 (v := (-9223372036854775808)) hx hb hown (hts _ tw_39) d_Ke_partAt_13 ?_
    refine lv_topl (fun v13 e13 => ?_)
    refine lv_lxor hx hb d_Ke_partAt_16 ?_
    refine lv_topl (fun v16 e16 => ?_)
    have hpost : (isr = 0 → v16 = kf i0.toInt.toNat ^^^ (-9223372036854775808)) ∧ (¬ isr = 0 → v16.toInt = (Lz.getD i0.toInt.toNat 0 : Int)) := by
      refine ⟨fun _ => ?_, fun h5 => absurd (iz_eq.mpr g4) h5⟩
      rw [e16, e12, e13]
    rw [hQ]
    exact xr_retl (v := v16) hx hb hr hlocks (hpost) d_Ke_partAt_17
