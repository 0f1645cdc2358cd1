set_option maxRecDepth 100000 in
set_option maxHeartbeats 4000000 in
theorem c_Ar_copyOfJ (l : Launch) (D : va_G) (cL cI : ClassId) (a0 na nn : Nat) (fa : Nat → Int64) (n0 : Int32) (sz : Nat) (hn0 : n0.toInt = (nn : Int)) (hnn : na < nn) (hnm : nn < 16777216) : Met l y_Ar_copyOfJ (Cond.code y_Ar_copyOfJ prog_19_method_124_code 3 (some (.array .long)) :: TW) ({ frames := 1, cells := 1, slots := nn, locals := 40 } : Room) (PM D cL cI [.ref a0, .int n0] [(a0, .inl (cL, na, .inr (.inl fa)))] sz) (va_Qr (fun (u : (Nat → Int64)) => ∀ j, j < na → u j = fa j) (fun (u : (Nat → Int64)) (ra : Nat) (t : State) => va_P D classes [(a0, .inl (cL, na, .inr (.inl fa))), (ra, .inl (cL, nn, .inr (.inl u)))] t.heap ∧ va_K D classes (tyz cL cI) t ∧ va_D (va_A [(a0, .inl (cL, na, .inr (.inl fa)))] sz) [(a0, .inl (cL, na, .inr (.inl fa))), (ra, .inl (cL, nn, .inr (.inl u)))]) (va_A [(a0, .inl (cL, na, .inr (.inl fa)))] sz)) 1 nn (va_A [(a0, .inl (cL, na, .inr (.inl fa)))] sz) := by
  refine xr_met (by decide) ?_
  intro p e s m args below meth c hx hb hr hts hown hlocks hname hml hv
  obtain ⟨rfl, hsz, hP, hK, hD0⟩ := hv
  subst hsz
  have hD := hD0.self (sz := s.heap.size)
  generalize hAe : va_A [(a0, .inl (cL, na, .inr (.inl fa)))] s.heap.size = A at hD ⊢
  have hA : ∀ q : Nat, s.heap.size ≤ q → A q := fun q h => by rw [← hAe]; exact Or.inr h
  have hS : va_S A s.heap s.heap [] := va_S.rf
  have hD : va_D A [(a0, .inl (cL, na, .inr (.inl fa)))] := hD
  have hown : s.vm.findClass "java/util/Arrays" = some m.cls := hown
  have hP : va_P D classes [(a0, .inl (cL, na, .inr (.inl fa)))] s.heap := hP
  have hl := lv_entry ([.ref a0, .int n0]) (n := 3) (Nat.le_of_ble_eq_true rfl)
  rw [lg_entry_eq]
  generalize (lg_sl ([.ref a0, .int n0]) ++ List.replicate (3 - (lg_sl ([.ref a0, .int n0])).length) Slot.unset).toArray = ls at hl ⊢
  have hl : lv_has ls 3 [(0, .ref a0), (1, .int n0)] := hl
  obtain ⟨Q, hQ⟩ : ∃ Q, Q = MQ below (va_Qr (fun (u : (Nat → Int64)) => ∀ j, j < na → u j = fa j) (fun (u : (Nat → Int64)) (ra : Nat) (t : State) => va_P D classes [(a0, .inl (cL, na, .inr (.inl fa))), (ra, .inl (cL, nn, .inr (.inl u)))] t.heap ∧ va_K D classes (tyz cL cI) t ∧ va_D (A) [(a0, .inl (cL, na, .inr (.inl fa))), (ra, .inl (cL, nn, .inr (.inl u)))]) (A)) ([.ref a0, .int n0] : List Value).toArray s 1 nn A := ⟨_, rfl⟩
  rw [← hQ]
  have hrg_n0 := ia_rng n0
  refine lv_iload_n hx hb d_Ar_copyOfJ_0 rfl (lv_at hl 1 rfl) ?_
  refine lv_aload_n hx hb d_Ar_copyOfJ_1 rfl (lv_at hl 0 rfl) ?_
  refine va_alen hx hb hK hP 0 0 rfl rfl rfl d_Ar_copyOfJ_2 ?_
  refine lv_topi (fun v2 e2 => ?_)
  have t2 : v2.toInt = (na : Nat) := by rw [e2]; exact ia_of _ (by omega)
  refine lv_icmp_ne hx hb d_Ar_copyOfJ_3 (tgt := 14) (by decide) (fun g3 => ?_) (fun g3 => ?_)
  · have g3 := ic_ne.mp g3
    refine lv_iload_n hx hb d_Ar_copyOfJ_14 rfl (lv_at hl 1 rfl) ?_
    refine xr_newJ hx hb (hts _ tw_52) hK hP hD hS hA (nn) (by omega) (by omega) (show 0 + 1 ≤ 1 from by omega) (show 0 + nn ≤ nn from by omega) d_Ar_copyOfJ_15 (fun q15 H hP hD hS => ?_)
    have hP : va_P D classes [(a0, .inl (cL, na, .inr (.inl fa))), (q15, .inl (cL, nn, .inr (.inl ((fun _ => 0)))))] H := hP
    have hD : va_D A [(a0, .inl (cL, na, .inr (.inl fa))), (q15, .inl (cL, nn, .inr (.inl ((fun _ => 0)))))] := hD
    refine lv_astore_n (lv' := [(2, .ref q15), (0, .ref a0), (1, .int n0)]) hx hb d_Ar_copyOfJ_17 rfl hl (by decide) rfl (fun ls hl => ?_)
    refine lv_aload_n hx hb d_Ar_copyOfJ_18 rfl (lv_at hl 1 rfl) ?_
    refine lv_iconst (v := 0) hx hb d_Ar_copyOfJ_19 (by decide) ?_
    refine lv_topi (fun v19 e19 => ?_)
    have t19 : v19.toInt = 0 := by rw [e19]; rfl
    refine lv_aload_n hx hb d_Ar_copyOfJ_20 rfl (lv_at hl 0 rfl) ?_
    refine lv_iconst (v := 0) hx hb d_Ar_copyOfJ_21 (by decide) ?_
    refine lv_topi (fun v21 e21 => ?_)
    have t21 : v21.toInt = 0 := by rw [e21]; rfl
    refine lv_aload_n hx hb d_Ar_copyOfJ_22 rfl (lv_at hl 1 rfl) ?_
    refine va_alen hx hb hK hP 0 0 rfl rfl rfl d_Ar_copyOfJ_23 ?_
    refine lv_topi (fun v23 e23 => ?_)
    have t23 : v23.toInt = (na : Nat) := by rw [e23]; exact ia_of _ (by omega)
    refine lv_iload_n hx hb d_Ar_copyOfJ_24 rfl (lv_at hl 2 rfl) ?_
    refine va_mmin hx hb (hml.trans hl.1.symm) hown (hts _ tw_461) (hts _ tw_462) (hts _ tw_2) (hts _ tw_463) (Nat.le_of_ble_eq_true rfl) (Nat.le_of_ble_eq_true rfl) (show (0 + 1) ≤ 1 from by omega) (show (0 + nn) ≤ nn from by omega) d_Ar_copyOfJ_25 ?_
    refine lv_topi (fun v25 e25 => ?_)
    have t25 : v25.toInt = if n0.toInt < v23.toInt then n0.toInt else v23.toInt := ia_min e25
    refine va_copyl hx hb (hml.trans hl.1.symm) hown (hts _ tw_464) (hts _ tw_157) (hts _ tw_156) (hts _ tw_14) hK hP hD hS 0 1 0 0 rfl rfl rfl rfl rfl (iz_nlt.mpr (by omega)) (iz_nlt.mpr (by omega)) (iz_nlt.mpr (by omega)) (show v19.toInt.toNat + v25.toInt.toNat ≤ na from by omega) (show v21.toInt.toNat + v25.toInt.toNat ≤ nn from by omega) (fun _ _ => rfl) (Nat.le_of_ble_eq_true rfl) (Nat.le_of_ble_eq_true rfl) d_Ar_copyOfJ_28 (fun H locs hP hD hS => ?_)
    obtain ⟨f28, q28⟩ : ∃ z, z = va_cpy fa ((fun _ => 0)) v19.toInt.toNat v21.toInt.toNat v25.toInt.toNat := ⟨_, rfl⟩
    have hP : va_P D classes [(a0, .inl (cL, na, .inr (.inl fa))), (q15, .inl (cL, nn, .inr (.inl (va_cpy fa ((fun _ => 0)) v19.toInt.toNat v21.toInt.toNat v25.toInt.toNat))))] H := hP
    have hD : va_D A [(a0, .inl (cL, na, .inr (.inl fa))), (q15, .inl (cL, nn, .inr (.inl (va_cpy fa ((fun _ => 0)) v19.toInt.toNat v21.toInt.toNat v25.toInt.toNat))))] := hD
    rw [← q28] at hP hD
    refine lv_aload_n hx hb d_Ar_copyOfJ_31 rfl (lv_at hl 0 rfl) ?_
    have hpost : ∀ j, j < na → f28 j = fa j := by
      intro j hj
      rw [q28, pk_cpy_in (by omega) (by split at t25 <;> omega)]
      congr 1
      omega
    have hP9 := hP.sub (ws' := [(a0, .inl (cL, na, .inr (.inl fa))), (q15, .inl (cL, nn, .inr (.inl f28)))]) [0, 1] rfl
    have hD9 := hD.sub (ws' := [(a0, .inl (cL, na, .inr (.inl fa))), (q15, .inl (cL, nn, .inr (.inl f28)))]) [0, 1] (by decide) rfl
    refine W.widen (k := 1) (n := nn) (by omega) (by omega) ?_
    rw [hQ]
    exact W.aret hx hb hr (Or.inr ⟨_, rfl⟩) (Or.inr ⟨q15, rfl⟩) (fun t ht hW => ⟨⟨(f28), q15, rfl, hpost, by rw [ht]; exact hP9, va_K.moved hW.alike hK, hD9⟩, hS.F ht⟩) hS.2.2 d_Ar_copyOfJ_32
  · have g3 := ic_eq.mp g3
    exfalso
    omega
set_option maxRecDepth 100000 in
set_option maxHeartbeats 4000000 in
theorem c_Ta_growIfFull (l : Launch) (D : va_G) (cL cI : ClassId) (tb cd vl nc w n : Nat) (wd cnt chg : Int32) (fc : Nat → Int64) (nv : Nat) (fv : Nat → Int64) (sz : Nat) (hw : wd.toInt = (w : Int)) (hw7 : 1 ≤ w ∧ w ≤ 7) (hcnt : cnt.toInt = (n : Int)) (hnc : nc = nv * w) (hnv : n ≤ nv ∧ 1 ≤ nv ∧ nv ≤ 4096) : Met l y_Ta_growIfFull (Cond.code y_Ta_growIfFull prog_4_method_14_code 1 none :: TW) ({ frames := 2, cells := (if n = nv then 2 else 0), slots := (if n = nv then 2 * nc + 2 * nv else 0), locals := 62 } : Room) (PM D cL cI [.ref tb] [(tb, .inr (2, [.int wd, .ref cd, .ref vl, .int cnt, .int chg])), (cd, .inl (cL, nc, .inr (.inl fc))), (vl, .inl (cL, nv, .inr (.inl fv)))] sz) (va_Qv (fun (u : (Nat) × (Nat) × (Nat) × (Nat) × (Nat → Int64) × (Nat → Int64)) => n < u.2.2.2.1 ∧ u.2.2.1 = u.2.2.2.1 * w ∧ (∀ j, j < nc → u.2.2.2.2.1 j = fc j) ∧ (∀ j, j < nv → u.2.2.2.2.2 j = fv j) ∧ u.2.2.2.1 = (if n = nv then 2 * nv else nv)) (fun (u : (Nat) × (Nat) × (Nat) × (Nat) × (Nat → Int64) × (Nat → Int64)) (t : State) => va_P D classes [(tb, .inr (2, [.int wd, .ref u.1, .ref u.2.1, .int cnt, .int chg])), (u.1, .inl (cL, u.2.2.1, .inr (.inl u.2.2.2.2.1))), (u.2.1, .inl (cL, u.2.2.2.1, .inr (.inl u.2.2.2.2.2)))] t.heap ∧ va_K D classes (tyz cL cI) t ∧ va_D (va_A [(tb, .inr (2, [.int wd, .ref cd, .ref vl, .int cnt, .int chg])), (cd, .inl (cL, nc, .inr (.inl fc))), (vl, .inl (cL, nv, .inr (.inl fv)))] sz) [(tb, .inr (2, [.int wd, .ref u.1, .ref u.2.1, .int cnt, .int chg])), (u.1, .inl (cL, u.2.2.1, .inr (.inl u.2.2.2.2.1))), (u.2.1, .inl (cL, u.2.2.2.1, .inr (.inl u.2.2.2.2.2)))]) (va_A [(tb, .inr (2, [.int wd, .ref cd, .ref vl, .int cnt, .int chg])), (cd, .inl (cL, nc, .inr (.inl fc))), (vl, .inl (cL, nv, .inr (.inl fv)))] sz)) (if n = nv then 2 else 0) (if n = nv then 2 * nc + 2 * nv else 0) (va_A [(tb, .inr (2, [.int wd, .ref cd, .ref vl, .int cnt, .int chg])), (cd, .inl (cL, nc, .inr (.inl fc))), (vl, .inl (cL, nv, .inr (.inl fv)))] sz) := by
  refine xr_met (by decide) ?_
  intro p e s m args below meth c hx hb hr hts hown hlocks hname hml hv
  obtain ⟨rfl, hsz, hP, hK, hD0⟩ := hv
  subst hsz
  have hD := hD0.self (sz := s.heap.size)
  generalize hAe : va_A [(tb, .inr (2, [.int wd, .ref cd, .ref vl, .int cnt, .int chg])), (cd, .inl (cL, nc, .inr (.inl fc))), (vl, .inl (cL, nv, .inr (.inl fv)))] s.heap.size = A at hD ⊢
  have hA : ∀ q : Nat, s.heap.size ≤ q → A q := fun q h => by rw [← hAe]; exact Or.inr h
  have hS : va_S A s.heap s.heap [] := va_S.rf
  have hD : va_D A [(tb, .inr (2, [.int wd, .ref cd, .ref vl, .int cnt, .int chg])), (cd, .inl (cL, nc, .inr (.inl fc))), (vl, .inl (cL, nv, .inr (.inl fv)))] := hD
  have hown : s.vm.findClass "BranchStore$Table" = some m.cls := hown
  have hP : va_P D classes [(tb, .inr (2, [.int wd, .ref cd, .ref vl, .int cnt, .int chg])), (cd, .inl (cL, nc, .inr (.inl fc))), (vl, .inl (cL, nv, .inr (.inl fv)))] s.heap := hP
  have hl := lv_entry ([.ref tb]) (n := 1) (Nat.le_of_ble_eq_true rfl)
  rw [lg_entry_eq]
  generalize (lg_sl ([.ref tb]) ++ List.replicate (1 - (lg_sl ([.ref tb])).length) Slot.unset).toArray = ls at hl ⊢
  have hl : lv_has ls 1 [(0, .ref tb)] := hl
  obtain ⟨Q, hQ⟩ : ∃ Q, Q = MQ below (va_Qv (fun (u : (Nat) × (Nat) × (Nat) × (Nat) × (Nat → Int64) × (Nat → Int64)) => n < u.2.2.2.1 ∧ u.2.2.1 = u.2.2.2.1 * w ∧ (∀ j, j < nc → u.2.2.2.2.1 j = fc j) ∧ (∀ j, j < nv → u.2.2.2.2.2 j = fv j) ∧ u.2.2.2.1 = (if n = nv then 2 * nv else nv)) (fun (u : (Nat) × (Nat) × (Nat) × (Nat) × (Nat → Int64) × (Nat → Int64)) (t : State) => va_P D classes [(tb, .inr (2, [.int wd, .ref u.1, .ref u.2.1, .int cnt, .int chg])), (u.1, .inl (cL, u.2.2.1, .inr (.inl u.2.2.2.2.1))), (u.2.1, .inl (cL, u.2.2.2.1, .inr (.inl u.2.2.2.2.2)))] t.heap ∧ va_K D classes (tyz cL cI) t ∧ va_D (A) [(tb, .inr (2, [.int wd, .ref u.1, .ref u.2.1, .int cnt, .int chg])), (u.1, .inl (cL, u.2.2.1, .inr (.inl u.2.2.2.2.1))), (u.2.1, .inl (cL, u.2.2.2.1, .inr (.inl u.2.2.2.2.2)))]) (A)) ([.ref tb] : List Value).toArray s (if n = nv then 2 else 0) (if n = nv then 2 * nc + 2 * nv else 0) A := ⟨_, rfl⟩
  rw [← hQ]
  have hncw : nv * w ≤ nv * 7 := Nat.mul_le_mul_left nv hw7.2
  have hncw1 : nv * 1 ≤ nv * w := Nat.mul_le_mul_left nv hw7.1
  refine lv_aload_n hx hb d_Ta_growIfFull_0 rfl (lv_at hl 0 rfl) ?_
  refine va_get (D := D) (ci := 2) (v := .int cnt) (C := R_Ta) (T := F_Ta) (N := 5) hx hb hts in_Ta hown hK hP 0 rfl rfl 3 (by decide) (hts _ tw_63) (fun _ h9 => h9) rfl d_Ta_growIfFull_1 ?_
  refine lv_aload_n hx hb d_Ta_growIfFull_4 rfl (lv_at hl 0 rfl) ?_
  refine va_get (D := D) (ci := 2) (v := .ref vl) (C := R_Ta) (T := F_Ta) (N := 5) hx hb hts in_Ta hown hK hP 0 rfl rfl 2 (by decide) (hts _ tw_61) (fun _ h9 => h9) rfl d_Ta_growIfFull_5 ?_
  refine va_alen hx hb hK hP 2 0 rfl rfl rfl d_Ta_growIfFull_8 ?_
  refine lv_topi (fun v8 e8 => ?_)
  have t8 : v8.toInt = (nv : Nat) := by rw [e8]; exact ia_of _ (by omega)
  refine lv_icmp_ne hx hb d_Ta_growIfFull_9 (tgt := 48) (by decide) (fun g9 => ?_) (fun g9 => ?_)
  · have g9 := ic_ne.mp g9
    have hpost : n < nv ∧ nc = nv * w ∧ (∀ j, j < nc → fc j = fc j) ∧ (∀ j, j < nv → fv j = fv j) ∧ nv = (if n = nv then 2 * nv else nv) := by
      first
      | (have hnf : ¬ n = nv := by omega
         exact ⟨by omega, hnc, fun _ _ => rfl, fun _ _ => rfl, by rw [if_neg hnf]⟩)
      | exact ⟨by omega, by rw [hnc, Nat.mul_assoc], e24, e42, by rw [if_pos hfull]⟩
    have hP9 := hP.sub (ws' := [(tb, .inr (2, [.int wd, .ref cd, .ref vl, .int cnt, .int chg])), (cd, .inl (cL, nc, .inr (.inl fc))), (vl, .inl (cL, nv, .inr (.inl fv)))]) [0, 1, 2] rfl
    have hD9 := hD.sub (ws' := [(tb, .inr (2, [.int wd, .ref cd, .ref vl, .int cnt, .int chg])), (cd, .inl (cL, nc, .inr (.inl fc))), (vl, .inl (cL, nv, .inr (.inl fv)))]) [0, 1, 2] (by decide) rfl
    refine W.widen (k := (if n = nv then 2 else 0)) (n := (if n = nv then 2 * nc + 2 * nv else 0)) (by first | exact Nat.zero_le _ | (rw [if_pos hfull]; omega)) (by first | exact Nat.zero_le _ | (rw [if_pos hfull]; omega)) ?_
    rw [hQ]
    exact W.vret hx hb hr (fun t ht hW => ⟨⟨(cd, vl, nc, nv, fc, fv), rfl, hpost, by rw [ht]; exact hP9, va_K.moved hW.alike hK, hD9⟩, hS.F ht⟩) hS.2.2 d_Ta_growIfFull_48
  · have g9 := ic_eq.mp g9
    have hfull : n = nv := by omega
    refine lv_aload_n hx hb d_Ta_growIfFull_12 rfl (lv_at hl 0 rfl) ?_
    refine lv_aload_n hx hb d_Ta_growIfFull_13 rfl (lv_at hl 0 rfl) ?_
    refine va_get (D := D) (ci := 2) (v := .ref cd) (C := R_Ta) (T := F_Ta) (N := 5) hx hb hts in_Ta hown hK hP 0 rfl rfl 1 (by decide) (hts _ tw_60) (fun _ h9 => h9) rfl d_Ta_growIfFull_14 ?_
    refine lv_iconst (v := 2) hx hb d_Ta_growIfFull_17 (by decide) ?_
    refine lv_topi (fun v17 e17 => ?_)
    have t17 : v17.toInt = 2 := by rw [e17]; rfl
    refine lv_aload_n hx hb d_Ta_growIfFull_18 rfl (lv_at hl 0 rfl) ?_
    refine va_get (D := D) (ci := 2) (v := .ref cd) (C := R_Ta) (T := F_Ta) (N := 5) hx hb hts in_Ta hown hK hP 0 rfl rfl 1 (by decide) (hts _ tw_60) (fun _ h9 => h9) rfl d_Ta_growIfFull_19 ?_
    refine va_alen hx hb hK hP 1 0 rfl rfl rfl d_Ta_growIfFull_22 ?_
    refine lv_topi (fun v22 e22 => ?_)
    have t22 : v22.toInt = (nc : Nat) := by rw [e22]; exact ia_of _ (by omega)
    refine lv_imul hx hb d_Ta_growIfFull_23 ?_
    refine lv_topi (fun v23 e23 => ?_)
    have t23 := ia_mull 2 e23 (by omega) ⟨by omega, by omega⟩
    have hPc := hP.sub (ws' := [(cd, .inl (cL, nc, .inr (.inl fc)))]) [1] rfl
    have hDc := hD.sub (ws' := [(cd, .inl (cL, nc, .inr (.inl fc)))]) [1] (by decide) rfl
    have hFc := va_free (wc := [(cd, .inl (cL, nc, .inr (.inl fc)))]) hD hS hA [1] rfl
    refine va_callr (xr_ms (As := [.ref cd, .int v23]) (rest := [.ref tb]) ⟨hx, hb, hml, hown, hts⟩ (c_Ar_copyOfJ l D cL cI cd nc (2 * nc) fc v23 s.heap.size (by omega) (by omega) (by omega)) (xr_cs 2 hts tw_453 tw_451 tw_452 tw_4 rfl rfl (by decide) ⟨Nat.le_of_ble_eq_true rfl, Nat.le_of_ble_eq_true rfl⟩) hK hPc (hDc.weaken (fun _ _ _ _ => trivial)) rfl hl.1 rfl (Nat.le_of_ble_eq_true rfl) d_Ta_growIfFull_24 ⟨show 0 + 1 ≤ (if n = nv then 2 else 0) from by rw [if_pos hfull]; omega, show 0 + ((2 * nc)) ≤ (if n = nv then 2 * nc + 2 * nv else 0) from by rw [if_pos hfull]; omega⟩) hS (fun q _ h => hFc q h) hFc (fun u24 v24 tt24 H1 locs ht24 hvm24 e24 hB24 hz24 hk24 hS => ?_)
    obtain ⟨fb_24, rfl⟩ : ∃ z, z = u24 := ⟨_, rfl⟩
    have e24 : ∀ j, j < nc → fb_24 j = fc j := e24
    obtain ⟨hP1, hK1, hD1⟩ := hB24
    rw [ht24] at hP1
    obtain ⟨hP, hD⟩ := va_join (wr := [(tb, .inr (2, [.int wd, .ref cd, .ref vl, .int cnt, .int chg])), (vl, .inl (cL, nv, .inr (.inl fv)))]) (w1 := [(cd, .inl (cL, nc, .inr (.inl fc))), (v24, .inl (cL, 2 * nc, .inr (.inl fb_24)))]) hP hD [1] [0, 2] rfl rfl (by decide) (by decide) hk24 hFc hP1 hD1
    clear hP1 hD1 hPc hDc hFc
    generalize H1 = H at hP hS ⊢
    have hP : va_P D classes [(tb, .inr (2, [.int wd, .ref cd, .ref vl, .int cnt, .int chg])), (vl, .inl (cL, nv, .inr (.inl fv))), (cd, .inl (cL, nc, .inr (.inl fc))), (v24, .inl (cL, 2 * nc, .inr (.inl fb_24)))] H := hP
    have hD : va_D A [(tb, .inr (2, [.int wd, .ref cd, .ref vl, .int cnt, .int chg])), (vl, .inl (cL, nv, .inr (.inl fv))), (cd, .inl (cL, nc, .inr (.inl fc))), (v24, .inl (cL, 2 * nc, .inr (.inl fb_24)))] := hD
    refine va_put (D := D) (ci := 2) (v := .ref v24) (ty := (.array .long)) (C := R_Ta) (T := F_Ta) (N := 5) hx hb hts in_Ta t_Ta t_Ta_ok n_Ta hown hK hP hD hS 0 rfl rfl 1 (by decide) (hts _ tw_60) (fun _ h9 => h9) rfl (by decide +kernel) rfl rfl (Nat.le_of_ble_eq_true rfl) d_Ta_growIfFull_27 (fun H locs hP hD hS => ?_)
    have hP : va_P D classes [(tb, .inr (2, [.int wd, .ref v24, .ref vl, .int cnt, .int chg])), (vl, .inl (cL, nv, .inr (.inl fv))), (cd, .inl (cL, nc, .inr (.inl fc))), (v24, .inl (cL, 2 * nc, .inr (.inl fb_24)))] H := hP
    have hD : va_D A [(tb, .inr (2, [.int wd, .ref v24, .ref vl, .int cnt, .int chg])), (vl, .inl (cL, nv, .inr (.inl fv))), (cd, .inl (cL, nc, .inr (.inl fc))), (v24, .inl (cL, 2 * nc, .inr (.inl fb_24)))] := hD
    refine lv_aload_n hx hb d_Ta_growIfFull_30 rfl (lv_at hl 0 rfl) ?_
    refine lv_aload_n hx hb d_Ta_growIfFull_31 rfl (lv_at hl 0 rfl) ?_
    refine va_get (D := D) (ci := 2) (v := .ref vl) (C := R_Ta) (T := F_Ta) (N := 5) hx hb hts in_Ta hown hK hP 0 rfl rfl 2 (by decide) (hts _ tw_61) (fun _ h9 => h9) rfl d_Ta_growIfFull_32 ?_
    refine lv_iconst (v := 2) hx hb d_Ta_growIfFull_35 (by decide) ?_
    refine lv_topi (fun v35 e35 => ?_)
    have t35 : v35.toInt = 2 := by rw [e35]; rfl
    refine lv_aload_n hx hb d_Ta_growIfFull_36 rfl (lv_at hl 0 rfl) ?_
    refine va_get (D := D) (ci := 2) (v := .ref vl) (C := R_Ta) (T := F_Ta) (N := 5) hx hb hts in_Ta hown hK hP 0 rfl rfl 2 (by decide) (hts _ tw_61) (fun _ h9 => h9) rfl d_Ta_growIfFull_37 ?_
    refine va_alen hx hb hK hP 1 0 rfl rfl rfl d_Ta_growIfFull_40 ?_
    refine lv_topi (fun v40 e40 => ?_)
    have t40 : v40.toInt = (nv : Nat) := by rw [e40]; exact ia_of _ (by omega)
    refine lv_imul hx hb d_Ta_growIfFull_41 ?_
    refine lv_topi (fun v41 e41 => ?_)
    have t41 := ia_mull 2 e41 (by omega) ⟨by omega, by omega⟩
    have hPc := hP.sub (ws' := [(vl, .inl (cL, nv, .inr (.inl fv)))]) [1] rfl
    have hDc := hD.sub (ws' := [(vl, .inl (cL, nv, .inr (.inl fv)))]) [1] (by decide) rfl
    have hFc := va_free (wc := [(vl, .inl (cL, nv, .inr (.inl fv)))]) hD hS hA [1] rfl
    refine va_callr (xr_ms (As := [.ref vl, .int v41]) (rest := [.ref tb]) ⟨hx, hb, hml, hown, hts⟩ (c_Ar_copyOfJ l D cL cI vl nv (2 * nv) fv v41 H.size (by omega) (by omega) (by omega)) (xr_cs 2 hts tw_453 tw_451 tw_452 tw_4 rfl rfl (by decide) ⟨Nat.le_of_ble_eq_true rfl, Nat.le_of_ble_eq_true rfl⟩) hK hPc (hDc.weaken (fun _ _ _ _ => trivial)) rfl hl.1 rfl (Nat.le_of_ble_eq_true rfl) d_Ta_growIfFull_42 ⟨show (0 + 1) + 1 ≤ (if n = nv then 2 else 0) from by rw [if_pos hfull]; omega, show (0 + ((2 * nc))) + ((2 * nv)) ≤ (if n = nv then 2 * nc + 2 * nv else 0) from by rw [if_pos hfull]; omega⟩) hS (fun q _ h => hFc q h) hFc (fun u42 v42 tt42 H1 locs ht42 hvm42 e42 hB42 hz42 hk42 hS => ?_)
    obtain ⟨fb_42, rfl⟩ : ∃ z, z = u42 := ⟨_, rfl⟩
    have e42 : ∀ j, j < nv → fb_42 j = fv j := e42
    obtain ⟨hP1, hK1, hD1⟩ := hB42
    rw [ht42] at hP1
    obtain ⟨hP, hD⟩ := va_join (wr := [(tb, .inr (2, [.int wd, .ref v24, .ref vl, .int cnt, .int chg])), (cd, .inl (cL, nc, .inr (.inl fc))), (v24, .inl (cL, 2 * nc, .inr (.inl fb_24)))]) (w1 := [(vl, .inl (cL, nv, .inr (.inl fv))), (v42, .inl (cL, 2 * nv, .inr (.inl fb_42)))]) hP hD [1] [0, 2, 3] rfl rfl (by decide) (by decide) hk42 hFc hP1 hD1
    clear hP1 hD1 hPc hDc hFc
    generalize H1 = H at hP hS ⊢
    have hP : va_P D classes [(tb, .inr (2, [.int wd, .ref v24, .ref vl, .int cnt, .int chg])), (cd, .inl (cL, nc, .inr (.inl fc))), (v24, .inl (cL, 2 * nc, .inr (.inl fb_24))), (vl, .inl (cL, nv, .inr (.inl fv))), (v42, .inl (cL, 2 * nv, .inr (.inl fb_42)))] H := hP
    have hD : va_D A [(tb, .inr (2, [.int wd, .ref v24, .ref vl, .int cnt, .int chg])), (cd, .inl (cL, nc, .inr (.inl fc))), (v24, .inl (cL, 2 * nc, .inr (.inl fb_24))), (vl, .inl (cL, nv, .inr (.inl fv))), (v42, .inl (cL, 2 * nv, .inr (.inl fb_42)))] := hD
    refine va_put (D := D) (ci := 2) (v := .ref v42) (ty := (.array .long)) (C := R_Ta) (T := F_Ta) (N := 5) hx hb hts in_Ta t_Ta t_Ta_ok n_Ta hown hK hP hD hS 0 rfl rfl 2 (by decide) (hts _ tw_61) (fun _ h9 => h9) rfl (by decide +kernel) rfl rfl (Nat.le_of_ble_eq_true rfl) d_Ta_growIfFull_45 (fun H locs hP hD hS => ?_)
    have hP : va_P D classes [(tb, .inr (2, [.int wd, .ref v24, .ref v42, .int cnt, .int chg])), (cd, .inl (cL, nc, .inr (.inl fc))), (v24, .inl (cL, 2 * nc, .inr (.inl fb_24))), (vl, .inl (cL, nv, .inr (.inl fv))), (v42, .inl (cL, 2 * nv, .inr (.inl fb_42)))] H := hP
    have hD : va_D A [(tb, .inr (2, [.int wd, .ref v24, .ref v42, .int cnt, .int chg])), (cd, .inl (cL, nc, .inr (.inl fc))), (v24, .inl (cL, 2 * nc, .inr (.inl fb_24))), (vl, .inl (cL, nv, .inr (.inl fv))), (v42, .inl (cL, 2 * nv, .inr (.inl fb_42)))] := hD
    have hpost : n < (2 * nv) ∧ (2 * nc) = (2 * nv) * w ∧ (∀ j, j < nc → fb_24 j = fc j) ∧ (∀ j, j < nv → fb_42 j = fv j) ∧ (2 * nv) = (if n = nv then 2 * nv else nv) := by
      first
      | (have hnf : ¬ n = nv := by omega
         exact ⟨by omega, hnc, fun _ _ => rfl, fun _ _ => rfl, by rw [if_neg hnf]⟩)
      | exact ⟨by omega, by rw [hnc, Nat.mul_assoc], e24, e42, by rw [if_pos hfull]⟩
    have hP9 := hP.sub (ws' := [(tb, .inr (2, [.int wd, .ref v24, .ref v42, .int cnt, .int chg])), (v24, .inl (cL, (2 * nc), .inr (.inl fb_24))), (v42, .inl (cL, (2 * nv), .inr (.inl fb_42)))]) [0, 2, 4] rfl
    have hD9 := hD.sub (ws' := [(tb, .inr (2, [.int wd, .ref v24, .ref v42, .int cnt, .int chg])), (v24, .inl (cL, (2 * nc), .inr (.inl fb_24))), (v42, .inl (cL, (2 * nv), .inr (.inl fb_42)))]) [0, 2, 4] (by decide) rfl
    refine W.widen (k := (if n = nv then 2 else 0)) (n := (if n = nv then 2 * nc + 2 * nv else 0)) (by first | exact Nat.zero_le _ | (rw [if_pos hfull]; omega)) (by first | exact Nat.zero_le _ | (rw [if_pos hfull]; omega)) ?_
    rw [hQ]
    exact W.vret hx hb hr (fun t ht hW => ⟨⟨(v24, v42, 2 * nc, 2 * nv, fb_24, fb_42), rfl, hpost, by rw [ht]; exact hP9, va_K.moved hW.alike hK, hD9⟩, hS.F ht⟩) hS.2.2 d_Ta_growIfFull_48
set_option maxRecDepth 100000 in
set_option maxHeartbeats 4000000 in
theorem c_Ta_insert (l : Launch) (D : va_G) (cL cI : ClassId) (tb cd vl nc w n : Nat) (wd cnt chg : Int32) (fc : Nat → Int64) (nv : Nat) (fv : Nat → Int64) (k0 kw kn : Nat) (isr : Int32) (kf : Nat → Int64) (pl : Int32) (x0 : Int64) (sz : Nat) (hw : wd.toInt = (w : Int)) (hw7 : 1 ≤ w ∧ w ≤ 7) (hcnt : cnt.toInt = (n : Int)) (hnc : nc = nv * w) (hnv : n ≤ nv ∧ 1 ≤ nv ∧ nv ≤ 4096) (hn : n < 1500) (hpl : 0 ≤ pl.toInt ∧ pl.toInt ≤ (n : Int)) (hkn : kn = w) : Met l y_Ta_insert (Cond.code y_Ta_insert prog_4_method_5_code 6 none :: TW) ({ frames := 3, cells := (if n = nv then 2 else 0), slots := (if n = nv then 2 * nc + 2 * nv else 0), locals := 82 } : Room) (PM D cL cI [.ref tb, .int pl, .ref k0, .long x0] [(tb, .inr (2, [.int wd, .ref cd, .ref vl, .int cnt, .int chg])), (cd, .inl (cL, nc, .inr (.inl fc))), (vl, .inl (cL, nv, .inr (.inl fv))), (k0, .inr (0, [.int isr, .ref kw])), (kw, .inl (cL, kn, .inr (.inl kf)))] sz) (va_Qv (fun (u : (Nat) × (Nat) × (Nat) × (Nat) × (Int32) × (Int32) × (Nat → Int64) × (Nat → Int64)) => u.2.2.2.2.1.toInt = (n : Int) + 1 ∧ u.2.2.2.2.2.1 = 1 ∧ n < u.2.2.2.1 ∧ u.2.2.1 = u.2.2.2.1 * w ∧ u.2.2.2.1 = (if n = nv then 2 * nv else nv) ∧ (∀ k j, k < n + 1 → j < w → u.2.2.2.2.2.2.1 (k * w + j) = if k < pl.toInt.toNat then fc (k * w + j) else if k = pl.toInt.toNat then kf j else fc ((k - 1) * w + j)) ∧ (∀ k, k < n + 1 → u.2.2.2.2.2.2.2 k = if k < pl.toInt.toNat then fv k else if k = pl.toInt.toNat then x0 else fv (k - 1))) (fun (u : (Nat) × (Nat) × (Nat) × (Nat) × (Int32) × (Int32) × (Nat → Int64) × (Nat → Int64)) (t : State) => va_P D classes [(tb, .inr (2, [.int wd, .ref u.1, .ref u.2.1, .int u.2.2.2.2.1, .int u.2.2.2.2.2.1])), (u.1, .inl (cL, u.2.2.1, .inr (.inl u.2.2.2.2.2.2.1))), (u.2.1, .inl (cL, u.2.2.2.1, .inr (.inl u.2.2.2.2.2.2.2))), (k0, .inr (0, [.int isr, .ref kw])), (kw, .inl (cL, kn, .inr (.inl kf)))] t.heap ∧ va_K D classes (tyz cL cI) t ∧ va_D (va_A [(tb, .inr (2, [.int wd, .ref cd, .ref vl, .int cnt, .int chg])), (cd, .inl (cL, nc, .inr (.inl fc))), (vl, .inl (cL, nv, .inr (.inl fv))), (k0, .inr (0, [.int isr, .ref kw])), (kw, .inl (cL, kn, .inr (.inl kf)))] sz) [(tb, .inr (2, [.int wd, .ref u.1, .ref u.2.1, .int u.2.2.2.2.1, .int u.2.2.2.2.2.1])), (u.1, .inl (cL, u.2.2.1, .inr (.inl u.2.2.2.2.2.2.1))), (u.2.1, .inl (cL, u.2.2.2.1, .inr (.inl u.2.2.2.2.2.2.2))), (k0, .inr (0, [.int isr, .ref kw])), (kw, .inl (cL, kn, .inr (.inl kf)))]) (va_A [(tb, .inr (2, [.int wd, .ref cd, .ref vl, .int cnt, .int chg])), (cd, .inl (cL, nc, .inr (.inl fc))), (vl, .inl (cL, nv, .inr (.inl fv))), (k0, .inr (0, [.int isr, .ref kw])), (kw, .inl (cL, kn, .inr (.inl kf)))] sz)) (if n = nv then 2 else 0) (if n = nv then 2 * nc + 2 * nv else 0) (va_A [(tb, .inr (2, [.int wd, .ref cd, .ref vl, .int cnt, .int chg])), (cd, .inl (cL, nc, .inr (.inl fc))), (vl, .inl (cL, nv, .inr (.inl fv))), (k0, .inr (0, [.int isr, .ref kw])), (kw, .inl (cL, kn, .inr (.inl kf)))] sz) := by
  refine xr_met (by decide) ?_
  intro p e s m args below meth c hx hb hr hts hown hlocks hname hml hv
  obtain ⟨rfl, hsz, hP, hK, hD0⟩ := hv
  subst hsz
  have hD := hD0.self (sz := s.heap.size)
  generalize hAe : va_A [(tb, .inr (2, [.int wd, .ref cd, .ref vl, .int cnt, .int chg])), (cd, .inl (cL, nc, .inr (.inl fc))), (vl, .inl (cL, nv, .inr (.inl fv))), (k0, .inr (0, [.int isr, .ref kw])), (kw, .inl (cL, kn, .inr (.inl kf)))] s.heap.size = A at hD ⊢
  have hA : ∀ q : Nat, s.heap.size ≤ q → A q := fun q h => by rw [← hAe]; exact Or.inr h
  have hS : va_S A s.heap s.heap [] := va_S.rf
  have hD : va_D A [(tb, .inr (2, [.int wd, .ref cd, .ref vl, .int cnt, .int chg])), (cd, .inl (cL, nc, .inr (.inl fc))), (vl, .inl (cL, nv, .inr (.inl fv))), (k0, .inr (0, [.int isr, .ref kw])), (kw, .inl (cL, kn, .inr (.inl kf)))] := hD
  have hown : s.vm.findClass "BranchStore$Table" = some m.cls := hown
  have hP : va_P D classes [(tb, .inr (2, [.int wd, .ref cd, .ref vl, .int cnt, .int chg])), (cd, .inl (cL, nc, .inr (.inl fc))), (vl, .inl (cL, nv, .inr (.inl fv))), (k0, .inr (0, [.int isr, .ref kw])), (kw, .inl (cL, kn, .inr (.inl kf)))] s.heap := hP
  have hl := lv_entry ([.ref tb, .int pl, .ref k0, .long x0]) (n := 6) (Nat.le_of_ble_eq_true rfl)
  rw [lg_entry_eq]
  generalize (lg_sl ([.ref tb, .int pl, .ref k0, .long x0]) ++ List.replicate (6 - (lg_sl ([.ref tb, .int pl, .ref k0, .long x0])).length) Slot.unset).toArray = ls at hl ⊢
  have hl : lv_has ls 6 [(0, .ref tb), (1, .int pl), (2, .ref k0), (3, .long x0)] := hl
  obtain ⟨Q, hQ⟩ : ∃ Q, Q = MQ below (va_Qv (fun (u : (Nat) × (Nat) × (Nat) × (Nat) × (Int32) × (Int32) × (Nat → Int64) × (Nat → Int64)) => u.2.2.2.2.1.toInt = (n : Int) + 1 ∧ u.2.2.2.2.2.1 = 1 ∧ n < u.2.2.2.1 ∧ u.2.2.1 = u.2.2.2.1 * w ∧ u.2.2.2.1 = (if n = nv then 2 * nv else nv) ∧ (∀ k j, k < n + 1 → j < w → u.2.2.2.2.2.2.1 (k * w + j) = if k < pl.toInt.toNat then fc (k * w + j) else if k = pl.toInt.toNat then kf j else fc ((k - 1) * w + j)) ∧ (∀ k, k < n + 1 → u.2.2.2.2.2.2.2 k = if k < pl.toInt.toNat then fv k else if k = pl.toInt.toNat then x0 else fv (k - 1))) (fun (u : (Nat) × (Nat) × (Nat) × (Nat) × (Int32) × (Int32) × (Nat → Int64) × (Nat → Int64)) (t : State) => va_P D classes [(tb, .inr (2, [.int wd, .ref u.1, .ref u.2.1, .int u.2.2.2.2.1, .int u.2.2.2.2.2.1])), (u.1, .inl (cL, u.2.2.1, .inr (.inl u.2.2.2.2.2.2.1))), (u.2.1, .inl (cL, u.2.2.2.1, .inr (.inl u.2.2.2.2.2.2.2))), (k0, .inr (0, [.int isr, .ref kw])), (kw, .inl (cL, kn, .inr (.inl kf)))] t.heap ∧ va_K D classes (tyz cL cI) t ∧ va_D (A) [(tb, .inr (2, [.int wd, .ref u.1, .ref u.2.1, .int u.2.2.2.2.1, .int u.2.2.2.2.2.1])), (u.1, .inl (cL, u.2.2.1, .inr (.inl u.2.2.2.2.2.2.1))), (u.2.1, .inl (cL, u.2.2.2.1, .inr (.inl u.2.2.2.2.2.2.2))), (k0, .inr (0, [.int isr, .ref kw])), (kw, .inl (cL, kn, .inr (.inl kf)))]) (A)) ([.ref tb, .int pl, .ref k0, .long x0] : List Value).toArray s (if n = nv then 2 else 0) (if n = nv then 2 * nc + 2 * nv else 0) A := ⟨_, rfl⟩
  rw [← hQ]
  have hrg_pl := ia_rng pl
  refine lv_aload_n hx hb d_Ta_insert_0 rfl (lv_at hl 0 rfl) ?_
  have hPc := hP.sub (ws' := [(tb, .inr (2, [.int wd, .ref cd, .ref vl, .int cnt, .int chg])), (cd, .inl (cL, nc, .inr (.inl fc))), (vl, .inl (cL, nv, .inr (.inl fv)))]) [0, 1, 2] rfl
  have hDc := hD.sub (ws' := [(tb, .inr (2, [.int wd, .ref cd, .ref vl, .int cnt, .int chg])), (cd, .inl (cL, nc, .inr (.inl fc))), (vl, .inl (cL, nv, .inr (.inl fv)))]) [0, 1, 2] (by decide) rfl
  have hFc := va_free (wc := [(tb, .inr (2, [.int wd, .ref cd, .ref vl, .int cnt, .int chg])), (cd, .inl (cL, nc, .inr (.inl fc))), (vl, .inl (cL, nv, .inr (.inl fv)))]) hD hS hA [0, 1, 2] rfl
  refine va_callv (xr_mv (As := []) (rest := []) ⟨hx, hb, hml, hown, hts⟩ (c_Ta_growIfFull l D cL cI tb cd vl nc w n wd cnt chg fc nv fv s.heap.size (by omega) (by omega) (by omega) (by omega) (by omega)) (xr_cv 0 hts tw_450 tw_447 tw_449 tp_7 tw_5 rfl rfl (by decide) ⟨Nat.le_of_ble_eq_true rfl, Nat.le_of_ble_eq_true rfl⟩) hK hPc (hDc.weaken (fun _ _ _ _ => trivial)) (va_recv hK hP rfl (q0 := 0) (ci := 2) rfl) rfl hl.1 rfl (Nat.le_of_ble_eq_true rfl) d_Ta_insert_1 ⟨show 0 + ((if n = nv then 2 else 0)) ≤ (if n = nv then 2 else 0) from by omega, show 0 + ((if n = nv then 2 * nc + 2 * nv else 0)) ≤ (if n = nv then 2 * nc + 2 * nv else 0) from by omega⟩) hS (fun q _ h => hFc q h) hFc (fun u1 tt1 H1 locs ht1 hvm1 e1 hB1 hz1 hk1 hS => ?_)
  obtain ⟨cd2_1, vl2_1, nc2_1, nv2_1, fc2_1, fv2_1⟩ := u1
  have e1 : n < nv2_1 ∧ nc2_1 = nv2_1 * w ∧ (∀ j, j < nc → fc2_1 j = fc j) ∧ (∀ j, j < nv → fv2_1 j = fv j) ∧ nv2_1 = (if n = nv then 2 * nv else nv) := e1
  obtain ⟨hP1, hK1, hD1⟩ := hB1
  rw [ht1] at hP1
  obtain ⟨hP, hD⟩ := va_join (wr := [(k0, .inr (0, [.int isr, .ref kw])), (kw, .inl (cL, kn, .inr (.inl kf)))]) (w1 := [(tb, .inr (2, [.int wd, .ref cd2_1, .ref vl2_1, .int cnt, .int chg])), (cd2_1, .inl (cL, nc2_1, .inr (.inl fc2_1))), (vl2_1, .inl (cL, nv2_1, .inr (.inl fv2_1)))]) hP hD [0, 1, 2] [3, 4] rfl rfl (by decide) (by decide) hk1 hFc hP1 hD1
  clear hP1 hD1 hPc hDc hFc
  generalize H1 = H at hP hS ⊢
  have hP : va_P D classes [(k0, .inr (0, [.int isr, .ref kw])), (kw, .inl (cL, kn, .inr (.inl kf))), (tb, .inr (2, [.int wd, .ref cd2_1, .ref vl2_1, .int cnt, .int chg])), (cd2_1, .inl (cL, nc2_1, .inr (.inl fc2_1))), (vl2_1, .inl (cL, nv2_1, .inr (.inl fv2_1)))] H := hP
  have hD : va_D A [(k0, .inr (0, [.int isr, .ref kw])), (kw, .inl (cL, kn, .inr (.inl kf))), (tb, .inr (2, [.int wd, .ref cd2_1, .ref vl2_1, .int cnt, .int chg])), (cd2_1, .inl (cL, nc2_1, .inr (.inl fc2_1))), (vl2_1, .inl (cL, nv2_1, .inr (.inl fv2_1)))] := hD
  obtain ⟨g1, g2, g3, g4, g5⟩ := e1
  have hncw : nv * w ≤ nv * 7 := Nat.mul_le_mul_left nv hw7.2
  have hnv9 : nv2_1 ≤ 8192 := by rw [g5]; split <;> omega
  have hnv7 : nv2_1 * w ≤ nv2_1 * 7 := Nat.mul_le_mul_left _ hw7.2
  have hq3 : (n + 1) * w ≤ nv2_1 * w := Nat.mul_le_mul_right w (by omega)
  have hm1 : pl.toInt * wd.toInt = ((pl.toInt.toNat * w : Nat) : Int) := ia_pw (by omega) hw
  have hq1 : (pl.toInt.toNat + 1) * w + (n - pl.toInt.toNat) * w = (n + 1) * w := by rw [← Nat.add_mul]; congr 1; omega
  have hq2 : (pl.toInt.toNat + 1) * w = pl.toInt.toNat * w + w := Nat.succ_mul _ _
  have hq4 : pl.toInt.toNat * w + (n - pl.toInt.toNat) * w = n * w := by rw [← Nat.add_mul]; congr 1; omega
  have hq5 : n * w ≤ nv * w := Nat.mul_le_mul_right w hnv.1
  refine lv_aload_n hx hb d_Ta_insert_4 rfl (lv_at hl 0 rfl) ?_
  refine va_get (D := D) (ci := 2) (v := .int cnt) (C := R_Ta) (T := F_Ta) (N := 5) hx hb hts in_Ta hown hK hP 2 rfl rfl 3 (by decide) (hts _ tw_63) (fun _ h9 => h9) rfl d_Ta_insert_5 ?_
  refine lv_iload_n hx hb d_Ta_insert_8 rfl (lv_at hl 1 rfl) ?_
  refine lv_isub hx hb d_Ta_insert_9 ?_
  refine lv_topi (fun v9 e9 => ?_)
  have t9 := ia_sub e9 ⟨by omega, by omega⟩
  refine lv_istore (lv' := [(5, .int v9), (0, .ref tb), (1, .int pl), (2, .ref k0), (3, .long x0)]) hx hb d_Ta_insert_10 hl (by decide) rfl (fun ls hl => ?_)
  refine lv_aload_n hx hb d_Ta_insert_12 rfl (lv_at hl 1 rfl) ?_
  refine va_get (D := D) (ci := 2) (v := .ref cd2_1) (C := R_Ta) (T := F_Ta) (N := 5) hx hb hts in_Ta hown hK hP 2 rfl rfl 1 (by decide) (hts _ tw_60) (fun _ h9 => h9) rfl d_Ta_insert_13 ?_
  refine lv_iload_n hx hb d_Ta_insert_16 rfl (lv_at hl 2 rfl) ?_
  refine lv_aload_n hx hb d_Ta_insert_17 rfl (lv_at hl 1 rfl) ?_
  refine va_get (D := D) (ci := 2) (v := .int wd) (C := R_Ta) (T := F_Ta) (N := 5) hx hb hts in_Ta hown hK hP 2 rfl rfl 0 (by decide) (hts _ tw_59) (fun _ h9 => h9) rfl d_Ta_insert_18 ?_
  refine lv_imul hx hb d_Ta_insert_21 ?_
  refine lv_topi (fun v21 e21 => ?_)
  have t21 := ia_mul e21 ⟨by rw [hm1]; omega, by rw [hm1]; omega⟩
  have t21 := t21.trans hm1
  refine lv_aload_n hx hb d_Ta_insert_22 rfl (lv_at hl 1 rfl) ?_
  refine va_get (D := D) (ci := 2) (v := .ref cd2_1) (C := R_Ta) (T := F_Ta) (N := 5) hx hb hts in_Ta hown hK hP 2 rfl rfl 1 (by decide) (hts _ tw_60) (fun _ h9 => h9) rfl d_Ta_insert_23 ?_
  refine lv_iload_n hx hb d_Ta_insert_26 rfl (lv_at hl 2 rfl) ?_
  refine lv_iconst (v := 1) hx hb d_Ta_insert_27 (by decide) ?_
  refine lv_topi (fun v27 e27 => ?_)
  have t27 : v27.toInt = 1 := by rw [e27]; rfl
  refine lv_iadd hx hb d_Ta_insert_28 ?_
  refine lv_topi (fun v28 e28 => ?_)
  have t28 := ia_add e28 ⟨by omega, by omega⟩
  refine lv_aload_n hx hb d_Ta_insert_29 rfl (lv_at hl 1 rfl) ?_
  refine va_get (D := D) (ci := 2) (v := .int wd) (C := R_Ta) (T := F_Ta) (N := 5) hx hb hts in_Ta hown hK hP 2 rfl rfl 0 (by decide) (hts _ tw_59) (fun _ h9 => h9) rfl d_Ta_insert_30 ?_
  have hm2 : v28.toInt * wd.toInt = ((v28.toInt.toNat * w : Nat) : Int) := ia_pw (by omega) hw
  have hm2b : v28.toInt.toNat * w = (pl.toInt.toNat + 1) * w := by congr 1; omega
  refine lv_imul hx hb d_Ta_insert_33 ?_
  refine lv_topi (fun v33 e33 => ?_)
  have t33 := ia_mul e33 ⟨by rw [hm2]; omega, by rw [hm2]; omega⟩
  have t33 := t33.trans hm2
  refine lv_iload hx hb d_Ta_insert_34 (lv_at hl 0 rfl) ?_
  refine lv_aload_n hx hb d_Ta_insert_36 rfl (lv_at hl 1 rfl) ?_
  refine va_get (D := D) (ci := 2) (v := .int wd) (C := R_Ta) (T := F_Ta) (N := 5) hx hb hts in_Ta hown hK hP 2 rfl rfl 0 (by decide) (hts _ tw_59) (fun _ h9 => h9) rfl d_Ta_insert_37 ?_
  have hm3 : v9.toInt * wd.toInt = ((v9.toInt.toNat * w : Nat) : Int) := ia_pw (by omega) hw
  have hm3b : v9.toInt.toNat * w = (n - pl.toInt.toNat) * w := by congr 1; omega
  refine lv_imul hx hb d_Ta_insert_40 ?_
  refine lv_topi (fun v40 e40 => ?_)
  have t40 := ia_mul e40 ⟨by rw [hm3]; omega, by rw [hm3]; omega⟩
  have t40 := t40.trans hm3
  refine va_copyl hx hb (hml.trans hl.1.symm) hown (hts _ tw_212) (hts _ tw_157) (hts _ tw_156) (hts _ tw_14) hK hP hD hS 3 3 0 0 rfl rfl rfl rfl rfl (iz_nlt.mpr (by omega)) (iz_nlt.mpr (by omega)) (iz_nlt.mpr (by omega)) (show v21.toInt.toNat + v40.toInt.toNat ≤ nc2_1 from by omega) (show v33.toInt.toNat + v40.toInt.toNat ≤ nc2_1 from by omega) (fun _ _ => rfl) (Nat.le_of_ble_eq_true rfl) (Nat.le_of_ble_eq_true rfl) d_Ta_insert_41 (fun H locs hP hD hS => ?_)
  obtain ⟨f41, q41⟩ : ∃ z, z = va_cpy fc2_1 fc2_1 v21.toInt.toNat v33.toInt.toNat v40.toInt.toNat := ⟨_, rfl⟩
  have hP : va_P D classes [(k0, .inr (0, [.int isr, .ref kw])), (kw, .inl (cL, kn, .inr (.inl kf))), (tb, .inr (2, [.int wd, .ref cd2_1, .ref vl2_1, .int cnt, .int chg])), (cd2_1, .inl (cL, nc2_1, .inr (.inl (va_cpy fc2_1 fc2_1 v21.toInt.toNat v33.toInt.toNat v40.toInt.toNat)))), (vl2_1, .inl (cL, nv2_1, .inr (.inl fv2_1)))] H := hP
  have hD : va_D A [(k0, .inr (0, [.int isr, .ref kw])), (kw, .inl (cL, kn, .inr (.inl kf))), (tb, .inr (2, [.int wd, .ref cd2_1, .ref vl2_1, .int cnt, .int chg])), (cd2_1, .inl (cL, nc2_1, .inr (.inl (va_cpy fc2_1 fc2_1 v21.toInt.toNat v33.toInt.toNat v40.toInt.toNat)))), (vl2_1, .inl (cL, nv2_1, .inr (.inl fv2_1)))] := hD
  rw [← q41] at hP hD
  refine lv_aload_n hx hb d_Ta_insert_44 rfl (lv_at hl 1 rfl) ?_
  refine va_get (D := D) (ci := 2) (v := .ref vl2_1) (C := R_Ta) (T := F_Ta) (N := 5) hx hb hts in_Ta hown hK hP 2 rfl rfl 2 (by decide) (hts _ tw_61) (fun _ h9 => h9) rfl d_Ta_insert_45 ?_
  refine lv_iload_n hx hb d_Ta_insert_48 rfl (lv_at hl 2 rfl) ?_
  refine lv_aload_n hx hb d_Ta_insert_49 rfl (lv_at hl 1 rfl) ?_
  refine va_get (D := D) (ci := 2) (v := .ref vl2_1) (C := R_Ta) (T := F_Ta) (N := 5) hx hb hts in_Ta hown hK hP 2 rfl rfl 2 (by decide) (hts _ tw_61) (fun _ h9 => h9) rfl d_Ta_insert_50 ?_
  refine lv_iload_n hx hb d_Ta_insert_53 rfl (lv_at hl 2 rfl) ?_
  refine lv_iconst (v := 1) hx hb d_Ta_insert_54 (by decide) ?_
  refine lv_topi (fun v54 e54 => ?_)
  have t54 : v54.toInt = 1 := by rw [e54]; rfl
  refine lv_iadd hx hb d_Ta_insert_55 ?_
  refine lv_topi (fun v55 e55 => ?_)
  have t55 := ia_add e55 ⟨by omega, by omega⟩
  refine lv_iload hx hb d_Ta_insert_56 (lv_at hl 0 rfl) ?_
  refine va_copyl hx hb (hml.trans hl.1.symm) hown (hts _ tw_212) (hts _ tw_157) (hts _ tw_156) (hts _ tw_14) hK hP hD hS 4 4 0 0 rfl rfl rfl rfl rfl (iz_nlt.mpr (by omega)) (iz_nlt.mpr (by omega)) (iz_nlt.mpr (by omega)) (show pl.toInt.toNat + v9.toInt.toNat ≤ nv2_1 from by omega) (show v55.toInt.toNat + v9.toInt.toNat ≤ nv2_1 from by omega) (fun _ _ => rfl) (Nat.le_of_ble_eq_true rfl) (Nat.le_of_ble_eq_true rfl) d_Ta_insert_58 (fun H locs hP hD hS => ?_)
  obtain ⟨f58, q58⟩ : ∃ z, z = va_cpy fv2_1 fv2_1 pl.toInt.toNat v55.toInt.toNat v9.toInt.toNat := ⟨_, rfl⟩
  have hP : va_P D classes [(k0, .inr (0, [.int isr, .ref kw])), (kw, .inl (cL, kn, .inr (.inl kf))), (tb, .inr (2, [.int wd, .ref cd2_1, .ref vl2_1, .int cnt, .int chg])), (cd2_1, .inl (cL, nc2_1, .inr (.inl f41))), (vl2_1, .inl (cL, nv2_1, .inr (.inl (va_cpy fv2_1 fv2_1 pl.toInt.toNat v55.toInt.toNat v9.toInt.toNat))))] H := hP
  have hD : va_D A [(k0, .inr (0, [.int isr, .ref kw])), (kw, .inl (cL, kn, .inr (.inl kf))), (tb, .inr (2, [.int wd, .ref cd2_1, .ref vl2_1, .int cnt, .int chg])), (cd2_1, .inl (cL, nc2_1, .inr (.inl f41))), (vl2_1, .inl (cL, nv2_1, .inr (.inl (va_cpy fv2_1 fv2_1 pl.toInt.toNat v55.toInt.toNat v9.toInt.toNat))))] := hD
  rw [← q58] at hP hD
  refine lv_aload_n hx hb d_Ta_insert_61 rfl (lv_at hl 3 rfl) ?_
  refine va_get (D := D) (ci := 0) (v := .ref kw) (C := R_Ke) (T := F_Ke) (N := 2) hx hb hts in_Ke hown hK hP 0 rfl rfl 1 (by decide) (hts _ tw_46) (fun _ h9 => h9) rfl d_Ta_insert_62 ?_
  refine lv_iconst (v := 0) hx hb d_Ta_insert_65 (by decide) ?_
  refine lv_topi (fun v65 e65 => ?_)
  have t65 : v65.toInt = 0 := by rw [e65]; rfl
  refine lv_aload_n hx hb d_Ta_insert_66 rfl (lv_at hl 1 rfl) ?_
  refine va_get (D := D) (ci := 2) (v := .ref cd2_1) (C := R_Ta) (T := F_Ta) (N := 5) hx hb hts in_Ta hown hK hP 2 rfl rfl 1 (by decide) (hts _ tw_60) (fun _ h9 => h9) rfl d_Ta_insert_67 ?_
  refine lv_iload_n hx hb d_Ta_insert_70 rfl (lv_at hl 2 rfl) ?_
  refine lv_aload_n hx hb d_Ta_insert_71 rfl (lv_at hl 1 rfl) ?_
  refine va_get (D := D) (ci := 2) (v := .int wd) (C := R_Ta) (T := F_Ta) (N := 5) hx hb hts in_Ta hown hK hP 2 rfl rfl 0 (by decide) (hts _ tw_59) (fun _ h9 => h9) rfl d_Ta_insert_72 ?_
  refine lv_imul hx hb d_Ta_insert_75 ?_
  refine lv_topi (fun v75 e75 => ?_)
  have t75 := ia_mul e75 ⟨by rw [hm1]; omega, by rw [hm1]; omega⟩
  have t75 := t75.trans hm1
  refine lv_aload_n hx hb d_Ta_insert_76 rfl (lv_at hl 1 rfl) ?_
  refine va_get (D := D) (ci := 2) (v := .int wd) (C := R_Ta) (T := F_Ta) (N := 5) hx hb hts in_Ta hown hK hP 2 rfl rfl 0 (by decide) (hts _ tw_59) (fun _ h9 => h9) rfl d_Ta_insert_77 ?_
  refine va_copyl hx hb (hml.trans hl.1.symm) hown (hts _ tw_212) (hts _ tw_157) (hts _ tw_156) (hts _ tw_14) hK hP hD hS 1 3 0 0 rfl rfl rfl rfl rfl (iz_nlt.mpr (by omega)) (iz_nlt.mpr (by omega)) (iz_nlt.mpr (by omega)) (show v65.toInt.toNat + wd.toInt.toNat ≤ kn from by omega) (show v75.toInt.toNat + wd.toInt.toNat ≤ nc2_1 from by omega) (fun _ _ => rfl) (Nat.le_of_ble_eq_true rfl) (Nat.le_of_ble_eq_true rfl) d_Ta_insert_80 (fun H locs hP hD hS => ?_)
  obtain ⟨f80, q80⟩ : ∃ z, z = va_cpy kf f41 v65.toInt.toNat v75.toInt.toNat wd.toInt.toNat := ⟨_, rfl⟩
  have hP : va_P D classes [(k0, .inr (0, [.int isr, .ref kw])), (kw, .inl (cL, kn, .inr (.inl kf))), (tb, .inr (2, [.int wd, .ref cd2_1, .ref vl2_1, .int cnt, .int chg])), (cd2_1, .inl (cL, nc2_1, .inr (.inl (va_cpy kf f41 v65.toInt.toNat v75.toInt.toNat wd.toInt.toNat)))), (vl2_1, .inl (cL, nv2_1, .inr (.inl f58)))] H := hP
  have hD : va_D A [(k0, .inr (0, [.int isr, .ref kw])), (kw, .inl (cL, kn, .inr (.inl kf))), (tb, .inr (2, [.int wd, .ref cd2_1, .ref vl2_1, .int cnt, .int chg])), (cd2_1, .inl (cL, nc2_1, .inr (.inl (va_cpy kf f41 v65.toInt.toNat v75.toInt.toNat wd.toInt.toNat)))), (vl2_1, .inl (cL, nv2_1, .inr (.inl f58)))] := hD
  rw [← q80] at hP hD
  refine lv_aload_n hx hb d_Ta_insert_83 rfl (lv_at hl 1 rfl) ?_
  refine va_get (D := D) (ci := 2) (v := .ref vl2_1) (C := R_Ta) (T := F_Ta) (N := 5) hx hb hts in_Ta hown hK hP 2 rfl rfl 2 (by decide) (hts _ tw_61) (fun _ h9 => h9) rfl d_Ta_insert_84 ?_
  refine lv_iload_n hx hb d_Ta_insert_87 rfl (lv_at hl 2 rfl) ?_
  refine lv_lload_n hx hb d_Ta_insert_88 rfl (lv_at hl 4 rfl) ?_
  refine va_last hx hb hK hP hD hS 4 0 rfl rfl (ia_in ⟨by omega, by omega⟩) d_Ta_insert_89 (fun H locs hP hD hS => ?_)
  obtain ⟨f89, q89⟩ : ∃ z, z = vp_updL f58 pl.toInt.toNat x0 := ⟨_, rfl⟩
  have hP : va_P D classes [(k0, .inr (0, [.int isr, .ref kw])), (kw, .inl (cL, kn, .inr (.inl kf))), (tb, .inr (2, [.int wd, .ref cd2_1, .ref vl2_1, .int cnt, .int chg])), (cd2_1, .inl (cL, nc2_1, .inr (.inl f80))), (vl2_1, .inl (cL, nv2_1, .inr (.inl (vp_updL f58 pl.toInt.toNat x0))))] H := hP
  have hD : va_D A [(k0, .inr (0, [.int isr, .ref kw])), (kw, .inl (cL, kn, .inr (.inl kf))), (tb, .inr (2, [.int wd, .ref cd2_1, .ref vl2_1, .int cnt, .int chg])), (cd2_1, .inl (cL, nc2_1, .inr (.inl f80))), (vl2_1, .inl (cL, nv2_1, .inr (.inl (vp_updL f58 pl.toInt.toNat x0))))] := hD
  rw [← q89] at hP hD
  refine lv_aload_n hx hb d_Ta_insert_90 rfl (lv_at hl 1 rfl) ?_
  refine lv_dup hx hb d_Ta_insert_91 rfl ?_
  refine va_get (D := D) (ci := 2) (v := .int cnt) (C := R_Ta) (T := F_Ta) (N := 5) hx hb hts in_Ta hown hK hP 2 rfl rfl 3 (by decide) (hts _ tw_63) (fun _ h9 => h9) rfl d_Ta_insert_92 ?_
  refine lv_iconst (v := 1) hx hb d_Ta_insert_95 (by decide) ?_
  refine lv_topi (fun v95 e95 => ?_)
  have t95 : v95.toInt = 1 := by rw [e95]; rfl
  refine lv_iadd hx hb d_Ta_insert_96 ?_
  refine lv_topi (fun v96 e96 => ?_)
  have t96 := ia_add e96 ⟨by omega, by omega⟩
  refine va_put (D := D) (ci := 2) (v := .int v96) (ty := .int) (C := R_Ta) (T := F_Ta) (N := 5) hx hb hts in_Ta t_Ta t_Ta_ok n_Ta hown hK hP hD hS 2 rfl rfl 3 (by decide) (hts _ tw_63) (fun _ h9 => h9) rfl (by decide +kernel) rfl rfl (Nat.le_of_ble_eq_true rfl) d_Ta_insert_97 (fun H locs hP hD hS => ?_)
  have hP : va_P D classes [(k0, .inr (0, [.int isr, .ref kw])), (kw, .inl (cL, kn, .inr (.inl kf))), (tb, .inr (2, [.int wd, .ref cd2_1, .ref vl2_1, .int v96, .int chg])), (cd2_1, .inl (cL, nc2_1, .inr (.inl f80))), (vl2_1, .inl (cL, nv2_1, .inr (.inl f89)))] H := hP
  have hD : va_D A [(k0, .inr (0, [.int isr, .ref kw])), (kw, .inl (cL, kn, .inr (.inl kf))), (tb, .inr (2, [.int wd, .ref cd2_1, .ref vl2_1, .int v96, .int chg])), (cd2_1, .inl (cL, nc2_1, .inr (.inl f80))), (vl2_1, .inl (cL, nv2_1, .inr (.inl f89)))] := hD
  refine lv_aload_n hx hb d_Ta_insert_100 rfl (lv_at hl 1 rfl) ?_
  refine lv_iconst (v := 1) hx hb d_Ta_insert_101 (by decide) ?_
  refine lv_topi (fun v101 e101 => ?_)
  have t101 : v101.toInt = 1 := by rw [e101]; rfl
  refine va_put (D := D) (ci := 2) (v := .int v101) (ty := .boolean) (C := R_Ta) (T := F_Ta) (N := 5) hx hb hts in_Ta t_Ta t_Ta_ok n_Ta hown hK hP hD hS 2 rfl rfl 4 (by decide) (hts _ tw_66) (fun _ h9 => h9) rfl (by decide +kernel) (ia_bool (Or.inr e101)) (ia_fitb (Or.inr e101)) (Nat.le_of_ble_eq_true rfl) d_Ta_insert_102 (fun H locs hP hD hS => ?_)
  have hP : va_P D classes [(k0, .inr (0, [.int isr, .ref kw])), (kw, .inl (cL, kn, .inr (.inl kf))), (tb, .inr (2, [.int wd, .ref cd2_1, .ref vl2_1, .int v96, .int v101])), (cd2_1, .inl (cL, nc2_1, .inr (.inl f80))), (vl2_1, .inl (cL, nv2_1, .inr (.inl f89)))] H := hP
  have hD : va_D A [(k0, .inr (0, [.int isr, .ref kw])), (kw, .inl (cL, kn, .inr (.inl kf))), (tb, .inr (2, [.int wd, .ref cd2_1, .ref vl2_1, .int v96, .int v101])), (cd2_1, .inl (cL, nc2_1, .inr (.inl f80))), (vl2_1, .inl (cL, nv2_1, .inr (.inl f89)))] := hD
  have hpost : v96.toInt = (n : Int) + 1 ∧ v101 = 1 ∧ n < nv2_1 ∧ nc2_1 = nv2_1 * w ∧ nv2_1 = (if n = nv then 2 * nv else nv) ∧ (∀ k j, k < n + 1 → j < w → f80 (k * w + j) = if k < pl.toInt.toNat then fc (k * w + j) else if k = pl.toInt.toNat then kf j else fc ((k - 1) * w + j)) ∧ (∀ k, k < n + 1 → f89 k = if k < pl.toInt.toNat then fv k else if k = pl.toInt.toNat then x0 else fv (k - 1)) := by
    refine ⟨by omega, e101, g1, g2, g5, fun k j hk hj => ?_, fun k hk => ?_⟩
    · rw [q80]
      by_cases h5 : k < pl.toInt.toNat
      · have h6 : k * w + w ≤ pl.toInt.toNat * w := by rw [← Nat.succ_mul]; exact Nat.mul_le_mul_right w (by omega)
        rw [if_pos h5, pk_cpy_out (by omega), q41, pk_cpy_out (by omega)]
        exact g3 _ (by omega)
      · rw [if_neg h5]
        by_cases h6 : k = pl.toInt.toNat
        · rw [if_pos h6, pk_cpy_in (by rw [h6]; omega) (by rw [h6]; omega), h6]
          congr 1
          omega
        · have h7 : (pl.toInt.toNat + 1) * w ≤ k * w := Nat.mul_le_mul_right w (by omega)
          have h8 : k * w = (k - 1) * w + w := by rw [← Nat.succ_mul]; congr 1; omega
          have h9 : k * w + w ≤ (n + 1) * w := by rw [← Nat.succ_mul]; exact Nat.mul_le_mul_right w (by omega)
          rw [if_neg h6, pk_cpy_out (by omega), q41, pk_cpy_in (by omega) (by omega), ← g3 _ (by omega)]
          congr 1
          omega
    · rw [q89]
      unfold vp_updL
      by_cases h5 : k < pl.toInt.toNat
      · rw [if_pos h5, if_neg (by omega), q58, pk_cpy_out (by omega)]
        exact g4 _ (by omega)
      · rw [if_neg h5]
        by_cases h6 : k = pl.toInt.toNat
        · rw [if_pos h6, if_pos h6]
        · rw [if_neg h6, if_neg h6, q58, pk_cpy_in (by omega) (by omega), ← g4 _ (by omega)]
          congr 1
          omega
  have hP9 := hP.sub (ws' := [(tb, .inr (2, [.int wd, .ref cd2_1, .ref vl2_1, .int v96, .int v101])), (cd2_1, .inl (cL, nc2_1, .inr (.inl f80))), (vl2_1, .inl (cL, nv2_1, .inr (.inl f89))), (k0, .inr (0, [.int isr, .ref kw])), (kw, .inl (cL, kn, .inr (.inl kf)))]) [2, 3, 4, 0, 1] rfl
  have hD9 := hD.sub (ws' := [(tb, .inr (2, [.int wd, .ref cd2_1, .ref vl2_1, .int v96, .int v101])), (cd2_1, .inl (cL, nc2_1, .inr (.inl f80))), (vl2_1, .inl (cL, nv2_1, .inr (.inl f89))), (k0, .inr (0, [.int isr, .ref kw])), (kw, .inl (cL, kn, .inr (.inl kf)))]) [2, 3, 4, 0, 1] (by decide) rfl
  refine W.widen (k := (if n = nv then 2 else 0)) (n := (if n = nv then 2 * nc + 2 * nv else 0)) (by omega) (by omega) ?_
  rw [hQ]
  exact W.vret hx hb hr (fun t ht hW => ⟨⟨(cd2_1, vl2_1, nc2_1, nv2_1, v96, v101, f80, f89), rfl, hpost, by rw [ht]; exact hP9, va_K.moved hW.alike hK, hD9⟩, hS.F ht⟩) hS.2.2 d_Ta_insert_105
