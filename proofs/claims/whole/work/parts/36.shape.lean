set_option maxRecDepth 100000 in
set_option maxHeartbeats 4000000 in
theorem c_Sh_measure (l : Launch) (D : va_G) (cL cI : ClassId) (so bs la ca ha mb : Nat) (dp rt opn : Int32) (fb fl fch fh : Nat → Int32) (tb cd vl nc w n : Nat) (wd cnt chg : Int32) (fc : Nat → Int64) (sz : Nat) (hw : wd.toInt = (w : Int)) (hw7 : 1 ≤ w ∧ w ≤ 7) (hcnt : cnt.toInt = (n : Int)) (hnc : nc < 16777216) (hcap : ∀ k, k < n → k * w + w ≤ nc) (hn : n ≤ 1500) (hs : tb_srt w n fc) (hmb : mb = 8 * w) (hopn : opn.toInt = 0) (hchg : chg = 0 ∨ chg = 1) (hsh : chg = 0 → sh_ok w fc n fb dp rt) : Met l y_Sh_measure (Cond.code y_Sh_measure prog_3_method_2_code 4 none :: TW) ({ frames := 4, cells := 0, slots := 0, locals := 110 } : Room) (PM D cL cI [.ref so, .ref tb] [(so, .inr (1, [.ref bs, .int dp, .int rt, .ref la, .ref ca, .ref ha, .int opn])), (bs, .inl (cI, 4, .inl fb)), (la, .inl (cI, mb, .inl fl)), (ca, .inl (cI, mb, .inl fch)), (ha, .inl (cI, mb, .inl fh)), (tb, .inr (2, [.int wd, .ref cd, .ref vl, .int cnt, .int chg])), (cd, .inl (cL, nc, .inr (.inl fc)))] sz) (va_Qv (fun (u : (Int32) × (Int32) × (Int32) × (Int32) × (Nat → Int32) × (Nat → Int32) × (Nat → Int32) × (Nat → Int32)) => u.2.2.2.1 = 0 ∧ u.2.2.1.toInt = 0 ∧ sh_ok w fc n u.2.2.2.2.1 u.1 u.2.1) (fun (u : (Int32) × (Int32) × (Int32) × (Int32) × (Nat → Int32) × (Nat → Int32) × (Nat → Int32) × (Nat → Int32)) (t : State) => va_P D classes [(so, .inr (1, [.ref bs, .int u.1, .int u.2.1, .ref la, .ref ca, .ref ha, .int u.2.2.1])), (bs, .inl (cI, 4, .inl u.2.2.2.2.1)), (la, .inl (cI, mb, .inl u.2.2.2.2.2.1)), (ca, .inl (cI, mb, .inl u.2.2.2.2.2.2.1)), (ha, .inl (cI, mb, .inl u.2.2.2.2.2.2.2)), (tb, .inr (2, [.int wd, .ref cd, .ref vl, .int cnt, .int u.2.2.2.1])), (cd, .inl (cL, nc, .inr (.inl fc)))] t.heap ∧ va_K D classes (tyz cL cI) t ∧ va_D (va_A [(so, .inr (1, [.ref bs, .int dp, .int rt, .ref la, .ref ca, .ref ha, .int opn])), (bs, .inl (cI, 4, .inl fb)), (la, .inl (cI, mb, .inl fl)), (ca, .inl (cI, mb, .inl fch)), (ha, .inl (cI, mb, .inl fh)), (tb, .inr (2, [.int wd, .ref cd, .ref vl, .int cnt, .int chg])), (cd, .inl (cL, nc, .inr (.inl fc)))] sz) [(so, .inr (1, [.ref bs, .int u.1, .int u.2.1, .ref la, .ref ca, .ref ha, .int u.2.2.1])), (bs, .inl (cI, 4, .inl u.2.2.2.2.1)), (la, .inl (cI, mb, .inl u.2.2.2.2.2.1)), (ca, .inl (cI, mb, .inl u.2.2.2.2.2.2.1)), (ha, .inl (cI, mb, .inl u.2.2.2.2.2.2.2)), (tb, .inr (2, [.int wd, .ref cd, .ref vl, .int cnt, .int u.2.2.2.1])), (cd, .inl (cL, nc, .inr (.inl fc)))]) (va_A [(so, .inr (1, [.ref bs, .int dp, .int rt, .ref la, .ref ca, .ref ha, .int opn])), (bs, .inl (cI, 4, .inl fb)), (la, .inl (cI, mb, .inl fl)), (ca, .inl (cI, mb, .inl fch)), (ha, .inl (cI, mb, .inl fh)), (tb, .inr (2, [.int wd, .ref cd, .ref vl, .int cnt, .int chg])), (cd, .inl (cL, nc, .inr (.inl fc)))] sz)) 0 0 (va_A [(so, .inr (1, [.ref bs, .int dp, .int rt, .ref la, .ref ca, .ref ha, .int opn])), (bs, .inl (cI, 4, .inl fb)), (la, .inl (cI, mb, .inl fl)), (ca, .inl (cI, mb, .inl fch)), (ha, .inl (cI, mb, .inl fh)), (tb, .inr (2, [.int wd, .ref cd, .ref vl, .int cnt, .int chg])), (cd, .inl (cL, nc, .inr (.inl fc)))] sz) := by
  refine xr_met (by decide) ?_
  intro p e s m args below meth c hx hb hr hts hown hlocks hname hml hv
  obtain ⟨rfl, hsz, hP, hK, hD0⟩ := hv
  subst hsz
  have hD := hD0.self (sz := s.heap.size)
  generalize hAe : va_A [(so, .inr (1, [.ref bs, .int dp, .int rt, .ref la, .ref ca, .ref ha, .int opn])), (bs, .inl (cI, 4, .inl fb)), (la, .inl (cI, mb, .inl fl)), (ca, .inl (cI, mb, .inl fch)), (ha, .inl (cI, mb, .inl fh)), (tb, .inr (2, [.int wd, .ref cd, .ref vl, .int cnt, .int chg])), (cd, .inl (cL, nc, .inr (.inl fc)))] s.heap.size = A at hD ⊢
  have hA : ∀ q : Nat, s.heap.size ≤ q → A q := fun q h => by rw [← hAe]; exact Or.inr h
  have hS : va_S A s.heap s.heap [] := va_S.rf
  have hD : va_D A [(so, .inr (1, [.ref bs, .int dp, .int rt, .ref la, .ref ca, .ref ha, .int opn])), (bs, .inl (cI, 4, .inl fb)), (la, .inl (cI, mb, .inl fl)), (ca, .inl (cI, mb, .inl fch)), (ha, .inl (cI, mb, .inl fh)), (tb, .inr (2, [.int wd, .ref cd, .ref vl, .int cnt, .int chg])), (cd, .inl (cL, nc, .inr (.inl fc)))] := hD
  have hown : s.vm.findClass "BranchStore$Shape" = some m.cls := hown
  have hP : va_P D classes [(so, .inr (1, [.ref bs, .int dp, .int rt, .ref la, .ref ca, .ref ha, .int opn])), (bs, .inl (cI, 4, .inl fb)), (la, .inl (cI, mb, .inl fl)), (ca, .inl (cI, mb, .inl fch)), (ha, .inl (cI, mb, .inl fh)), (tb, .inr (2, [.int wd, .ref cd, .ref vl, .int cnt, .int chg])), (cd, .inl (cL, nc, .inr (.inl fc)))] s.heap := hP
  have hl := lv_entry ([.ref so, .ref tb]) (n := 4) (Nat.le_of_ble_eq_true rfl)
  rw [lg_entry_eq]
  generalize (lg_sl ([.ref so, .ref tb]) ++ List.replicate (4 - (lg_sl ([.ref so, .ref tb])).length) Slot.unset).toArray = ls at hl ⊢
  have hl : lv_has ls 4 [(0, .ref so), (1, .ref tb)] := hl
  obtain ⟨Q, hQ⟩ : ∃ Q, Q = MQ below (va_Qv (fun (u : (Int32) × (Int32) × (Int32) × (Int32) × (Nat → Int32) × (Nat → Int32) × (Nat → Int32) × (Nat → Int32)) => u.2.2.2.1 = 0 ∧ u.2.2.1.toInt = 0 ∧ sh_ok w fc n u.2.2.2.2.1 u.1 u.2.1) (fun (u : (Int32) × (Int32) × (Int32) × (Int32) × (Nat → Int32) × (Nat → Int32) × (Nat → Int32) × (Nat → Int32)) (t : State) => va_P D classes [(so, .inr (1, [.ref bs, .int u.1, .int u.2.1, .ref la, .ref ca, .ref ha, .int u.2.2.1])), (bs, .inl (cI, 4, .inl u.2.2.2.2.1)), (la, .inl (cI, mb, .inl u.2.2.2.2.2.1)), (ca, .inl (cI, mb, .inl u.2.2.2.2.2.2.1)), (ha, .inl (cI, mb, .inl u.2.2.2.2.2.2.2)), (tb, .inr (2, [.int wd, .ref cd, .ref vl, .int cnt, .int u.2.2.2.1])), (cd, .inl (cL, nc, .inr (.inl fc)))] t.heap ∧ va_K D classes (tyz cL cI) t ∧ va_D (A) [(so, .inr (1, [.ref bs, .int u.1, .int u.2.1, .ref la, .ref ca, .ref ha, .int u.2.2.1])), (bs, .inl (cI, 4, .inl u.2.2.2.2.1)), (la, .inl (cI, mb, .inl u.2.2.2.2.2.1)), (ca, .inl (cI, mb, .inl u.2.2.2.2.2.2.1)), (ha, .inl (cI, mb, .inl u.2.2.2.2.2.2.2)), (tb, .inr (2, [.int wd, .ref cd, .ref vl, .int cnt, .int u.2.2.2.1])), (cd, .inl (cL, nc, .inr (.inl fc)))]) (A)) ([.ref so, .ref tb] : List Value).toArray s 0 0 A := ⟨_, rfl⟩
  rw [← hQ]
  refine lv_aload_n hx hb d_Sh_measure_0 rfl (lv_at hl 1 rfl) ?_
  refine va_get (D := D) (ci := 2) (v := .int chg) (C := R_Ta) (T := F_Ta) (N := 5) hx hb hts in_Ta hown hK hP 5 rfl rfl 4 (by decide) (hts _ tw_67) (fun _ h9 => h9) rfl d_Sh_measure_1 ?_
  refine lv_if_ne hx hb d_Sh_measure_4 (tgt := 8) (by decide) (fun g4 => ?_) (fun g4 => ?_)
  · have g4 := (iz_ne).mp g4
    refine lv_aload_n hx hb d_Sh_measure_8 rfl (lv_at hl 0 rfl) ?_
    refine va_get (D := D) (ci := 1) (v := .ref bs) (C := R_Sh) (T := F_Sh) (N := 7) hx hb hts in_Sh hown hK hP 0 rfl rfl 0 (by decide) (hts _ tw_91) (fun _ h9 => h9) rfl d_Sh_measure_9 ?_
    refine lv_iconst (v := 0) hx hb d_Sh_measure_12 (by decide) ?_
    refine lv_topi (fun v12 e12 => ?_)
    have t12 : v12.toInt = 0 := by rw [e12]; rfl
    have hPc := hP.sub (ws' := [(bs, .inl (cI, 4, .inl fb))]) [1] rfl
    have hDc := hD.sub (ws' := [(bs, .inl (cI, 4, .inl fb))]) [1] (by decide) rfl
    have hFc := va_free (wc := [(bs, .inl (cI, 4, .inl fb))]) hD hS hA [1] rfl
    refine va_callv (xr_ms (As := [.ref bs, .int v12]) (rest := []) ⟨hx, hb, hml, hown, hts⟩ (c_Ar_fillI l D cL cI bs 4 fb v12 s.heap.size (by omega)) (xr_cs 2 hts tw_223 tw_221 tw_222 tw_4 rfl rfl (by decide) ⟨Nat.le_of_ble_eq_true rfl, Nat.le_of_ble_eq_true rfl⟩) hK hPc (hDc.weaken (fun _ _ _ _ => trivial)) rfl hl.1 rfl (Nat.le_of_ble_eq_true rfl) d_Sh_measure_13 ⟨Nat.le_of_ble_eq_true rfl, Nat.le_of_ble_eq_true rfl⟩) hS (fun q _ h => hFc q h) hFc (fun u13 tt13 H1 locs ht13 hvm13 e13 hB13 hz13 hk13 hS => ?_)
    obtain ⟨fb_13, rfl⟩ : ∃ z, z = u13 := ⟨_, rfl⟩
    have e13 : ∀ j, j < 4 → fb_13 j = v12 := e13
    obtain ⟨hP1, hK1, hD1⟩ := hB13
    rw [ht13] at hP1
    obtain ⟨hP, hD⟩ := va_join (wr := [(so, .inr (1, [.ref bs, .int dp, .int rt, .ref la, .ref ca, .ref ha, .int opn])), (la, .inl (cI, mb, .inl fl)), (ca, .inl (cI, mb, .inl fch)), (ha, .inl (cI, mb, .inl fh)), (tb, .inr (2, [.int wd, .ref cd, .ref vl, .int cnt, .int chg])), (cd, .inl (cL, nc, .inr (.inl fc)))]) (w1 := [(bs, .inl (cI, 4, .inl fb_13))]) hP hD [1] [0, 2, 3, 4, 5, 6] rfl rfl (by decide) (by decide) hk13 hFc hP1 hD1
    clear hP1 hD1 hPc hDc hFc
    generalize H1 = H at hP hS ⊢
    have hP : va_P D classes [(so, .inr (1, [.ref bs, .int dp, .int rt, .ref la, .ref ca, .ref ha, .int opn])), (la, .inl (cI, mb, .inl fl)), (ca, .inl (cI, mb, .inl fch)), (ha, .inl (cI, mb, .inl fh)), (tb, .inr (2, [.int wd, .ref cd, .ref vl, .int cnt, .int chg])), (cd, .inl (cL, nc, .inr (.inl fc))), (bs, .inl (cI, 4, .inl fb_13))] H := hP
    have hD : va_D A [(so, .inr (1, [.ref bs, .int dp, .int rt, .ref la, .ref ca, .ref ha, .int opn])), (la, .inl (cI, mb, .inl fl)), (ca, .inl (cI, mb, .inl fch)), (ha, .inl (cI, mb, .inl fh)), (tb, .inr (2, [.int wd, .ref cd, .ref vl, .int cnt, .int chg])), (cd, .inl (cL, nc, .inr (.inl fc))), (bs, .inl (cI, 4, .inl fb_13))] := hD
    refine lv_aload_n hx hb d_Sh_measure_16 rfl (lv_at hl 0 rfl) ?_
    refine lv_iconst (v := 0) hx hb d_Sh_measure_17 (by decide) ?_
    refine lv_topi (fun v17 e17 => ?_)
    have t17 : v17.toInt = 0 := by rw [e17]; rfl
    refine va_put (D := D) (ci := 1) (v := .int v17) (ty := .int) (C := R_Sh) (T := F_Sh) (N := 7) hx hb hts in_Sh t_Sh t_Sh_ok n_Sh hown hK hP hD hS 0 rfl rfl 2 (by decide) (hts _ tw_95) (fun _ h9 => h9) rfl (by decide +kernel) rfl rfl (Nat.le_of_ble_eq_true rfl) d_Sh_measure_18 (fun H locs hP hD hS => ?_)
    have hP : va_P D classes [(so, .inr (1, [.ref bs, .int dp, .int v17, .ref la, .ref ca, .ref ha, .int opn])), (la, .inl (cI, mb, .inl fl)), (ca, .inl (cI, mb, .inl fch)), (ha, .inl (cI, mb, .inl fh)), (tb, .inr (2, [.int wd, .ref cd, .ref vl, .int cnt, .int chg])), (cd, .inl (cL, nc, .inr (.inl fc))), (bs, .inl (cI, 4, .inl fb_13))] H := hP
    have hD : va_D A [(so, .inr (1, [.ref bs, .int dp, .int v17, .ref la, .ref ca, .ref ha, .int opn])), (la, .inl (cI, mb, .inl fl)), (ca, .inl (cI, mb, .inl fch)), (ha, .inl (cI, mb, .inl fh)), (tb, .inr (2, [.int wd, .ref cd, .ref vl, .int cnt, .int chg])), (cd, .inl (cL, nc, .inr (.inl fc))), (bs, .inl (cI, 4, .inl fb_13))] := hD
    refine lv_iconst (v := 1) hx hb d_Sh_measure_21 (by decide) ?_
    refine lv_topi (fun v21 e21 => ?_)
    have t21 : v21.toInt = 1 := by rw [e21]; rfl
    refine lv_istore_n (lv' := [(2, .int v21), (0, .ref so), (1, .ref tb)]) hx hb d_Sh_measure_22 rfl hl (by decide) rfl (fun ls hl => ?_)
    have lp23 : ∀ (fuel23 : Nat) (pl : Int32) (rtz : Int32) (opz : Int32) (flz : Nat → Int32) (fcz : Nat → Int32) (fhz : Nat → Int32) (fbz : Nat → Int32) (H : Heap) (locs : List Loc) (ls : Array Slot), lv_has ls 4 [(2, .int pl), (0, .ref so), (1, .ref tb)] → va_P D classes [(so, .inr (1, [.ref bs, .int dp, .int rtz, .ref la, .ref ca, .ref ha, .int opz])), (la, .inl (cI, mb, .inl flz)), (ca, .inl (cI, mb, .inl fcz)), (ha, .inl (cI, mb, .inl fhz)), (tb, .inr (2, [.int wd, .ref cd, .ref vl, .int cnt, .int chg])), (cd, .inl (cL, nc, .inr (.inl fc))), (bs, .inl (cI, 4, .inl fbz))] H → va_D A [(so, .inr (1, [.ref bs, .int dp, .int rtz, .ref la, .ref ca, .ref ha, .int opz])), (la, .inl (cI, mb, .inl flz)), (ca, .inl (cI, mb, .inl fcz)), (ha, .inl (cI, mb, .inl fhz)), (tb, .inr (2, [.int wd, .ref cd, .ref vl, .int cnt, .int chg])), (cd, .inl (cL, nc, .inr (.inl fc))), (bs, .inl (cI, 4, .inl fbz))] → va_S A s.heap H locs → (1 ≤ pl.toInt) → (pl.toInt.toNat - 1 ≤ n - 1) → (sh_rep flz fcz fhz opz.toInt.toNat (cb_run (tb_gap w fc) (pl.toInt.toNat - 1)).1) → (0 ≤ opz.toInt ∧ opz.toInt ≤ (mb : Int)) → (∀ j, j < 4 → (fbz j).toInt = ((cb_run (tb_gap w fc) (pl.toInt.toNat - 1)).2.1 j : Int)) → (rtz.toInt = ((cb_run (tb_gap w fc) (pl.toInt.toNat - 1)).2.2 : Int)) → n - pl.toInt.toNat < fuel23 → W p l e ({ frames := 4, cells := 0, slots := 0, locals := 110 } : Room) s m ([.ref so, .ref tb] : List Value).toArray below meth c H locs 0 0 Q (F0 m 23 ls []) := by
      intro fuel23
      induction fuel23 with
      | zero => intro pl rtz opz flz fcz fhz fbz H locs ls hl hP hD hS h1 h2 h3 h4 h5 h6 hm23; exact absurd hm23 (Nat.not_lt_zero _)
      | succ fuel23 ih23 =>
        intro pl rtz opz flz fcz fhz fbz H locs ls hl hP hD hS h1 h2 h3 h4 h5 h6 hm23
        refine lv_iload_n hx hb d_Sh_measure_23 rfl (lv_at hl 0 rfl) ?_
        refine lv_aload_n hx hb d_Sh_measure_24 rfl (lv_at hl 2 rfl) ?_
        refine va_get (D := D) (ci := 2) (v := .int cnt) (C := R_Ta) (T := F_Ta) (N := 5) hx hb hts in_Ta hown hK hP 4 rfl rfl 3 (by decide) (hts _ tw_64) (fun _ h9 => h9) rfl d_Sh_measure_25 ?_
        refine lv_icmp_ge hx hb d_Sh_measure_28 (tgt := 53) (by decide) (fun g28 => ?_) (fun g28 => ?_)
        · have g28 := ic_le.mp g28
          have hk1 : pl.toInt.toNat - 1 = n - 1 := by omega
          rw [hk1] at h3 h5 h6
          refine lv_aload_n hx hb d_Sh_measure_53 rfl (lv_at hl 1 rfl) ?_
          refine lv_aload_n hx hb d_Sh_measure_54 rfl (lv_at hl 1 rfl) ?_
          refine lv_iconst (v := (-1)) hx hb d_Sh_measure_55 (by decide) ?_
          refine lv_topi (fun v55 e55 => ?_)
          have t55 : v55.toInt = (-1) := by rw [e55]; rfl
          have hPc := hP.sub (ws' := [(so, .inr (1, [.ref bs, .int dp, .int rtz, .ref la, .ref ca, .ref ha, .int opz])), (bs, .inl (cI, 4, .inl fbz)), (la, .inl (cI, mb, .inl flz)), (ca, .inl (cI, mb, .inl fcz)), (ha, .inl (cI, mb, .inl fhz))]) [0, 6, 1, 2, 3] rfl
          have hDc := hD.sub (ws' := [(so, .inr (1, [.ref bs, .int dp, .int rtz, .ref la, .ref ca, .ref ha, .int opz])), (bs, .inl (cI, 4, .inl fbz)), (la, .inl (cI, mb, .inl flz)), (ca, .inl (cI, mb, .inl fcz)), (ha, .inl (cI, mb, .inl fhz))]) [0, 6, 1, 2, 3] (by decide) rfl
          have hFc := va_free (wc := [(so, .inr (1, [.ref bs, .int dp, .int rtz, .ref la, .ref ca, .ref ha, .int opz])), (bs, .inl (cI, 4, .inl fbz)), (la, .inl (cI, mb, .inl flz)), (ca, .inl (cI, mb, .inl fcz)), (ha, .inl (cI, mb, .inl fhz))]) hD hS hA [0, 6, 1, 2, 3] rfl
          refine va_calli (xr_mv (As := [.int v55]) (rest := [.ref so]) ⟨hx, hb, hml, hown, hts⟩ (c_Sh_closeLongerThan l D cL cI so bs la ca ha mb dp rtz opz fbz flz fcz fhz v55 0 (n - 1) ((cb_run (tb_gap w fc) (n - 1)).2.2) ((cb_run (tb_gap w fc) (n - 1)).2.1) ((cb_run (tb_gap w fc) (n - 1)).1) H.size (by omega) (h4) (h3) (by omega) (h5) (h6) (sk_run _ _) (by omega)) (xr_cv 1 hts tw_231 tw_228 tw_230 tp_2 tw_6 rfl rfl (by decide) ⟨Nat.le_of_ble_eq_true rfl, Nat.le_of_ble_eq_true rfl⟩) hK hPc (hDc.weaken (fun _ _ _ _ => trivial)) (va_recv hK hP rfl (q0 := 0) (ci := 1) rfl) rfl hl.1 rfl (Nat.le_of_ble_eq_true rfl) d_Sh_measure_56 ⟨Nat.le_of_ble_eq_true rfl, Nat.le_of_ble_eq_true rfl⟩) hS (fun q _ h => hFc q h) hFc (fun v56 u56 tt56 H1 locs ht56 hvm56 e56 hB56 hz56 hk56 hS => ?_)
          obtain ⟨rt2_56, opn2_56, fb2_56⟩ := u56
          have e56 : sh_rep flz fcz fhz opn2_56.toInt.toNat (cb_close 0 ((cb_run (tb_gap w fc) (n - 1)).1) 0 ((cb_run (tb_gap w fc) (n - 1)).2.1) ((cb_run (tb_gap w fc) (n - 1)).2.2)).1 ∧ (0 ≤ opn2_56.toInt ∧ opn2_56.toInt ≤ opz.toInt) ∧ v56.toInt = ((cb_close 0 ((cb_run (tb_gap w fc) (n - 1)).1) 0 ((cb_run (tb_gap w fc) (n - 1)).2.1) ((cb_run (tb_gap w fc) (n - 1)).2.2)).2.1 : Int) ∧ (∀ j, j < 4 → (fb2_56 j).toInt = ((cb_close 0 ((cb_run (tb_gap w fc) (n - 1)).1) 0 ((cb_run (tb_gap w fc) (n - 1)).2.1) ((cb_run (tb_gap w fc) (n - 1)).2.2)).2.2.1 j : Int)) ∧ rt2_56.toInt = ((cb_close 0 ((cb_run (tb_gap w fc) (n - 1)).1) 0 ((cb_run (tb_gap w fc) (n - 1)).2.1) ((cb_run (tb_gap w fc) (n - 1)).2.2)).2.2.2 : Int) := e56
          obtain ⟨hP1, hK1, hD1⟩ := hB56
          rw [ht56] at hP1
          obtain ⟨hP, hD⟩ := va_join (wr := [(tb, .inr (2, [.int wd, .ref cd, .ref vl, .int cnt, .int chg])), (cd, .inl (cL, nc, .inr (.inl fc)))]) (w1 := [(so, .inr (1, [.ref bs, .int dp, .int rt2_56, .ref la, .ref ca, .ref ha, .int opn2_56])), (bs, .inl (cI, 4, .inl fb2_56)), (la, .inl (cI, mb, .inl flz)), (ca, .inl (cI, mb, .inl fcz)), (ha, .inl (cI, mb, .inl fhz))]) hP hD [0, 6, 1, 2, 3] [4, 5] rfl rfl (by decide) (by decide) hk56 hFc hP1 hD1
          clear hP1 hD1 hPc hDc hFc
          generalize H1 = H at hP hS ⊢
          have hP : va_P D classes [(tb, .inr (2, [.int wd, .ref cd, .ref vl, .int cnt, .int chg])), (cd, .inl (cL, nc, .inr (.inl fc))), (so, .inr (1, [.ref bs, .int dp, .int rt2_56, .ref la, .ref ca, .ref ha, .int opn2_56])), (bs, .inl (cI, 4, .inl fb2_56)), (la, .inl (cI, mb, .inl flz)), (ca, .inl (cI, mb, .inl fcz)), (ha, .inl (cI, mb, .inl fhz))] H := hP
          have hD : va_D A [(tb, .inr (2, [.int wd, .ref cd, .ref vl, .int cnt, .int chg])), (cd, .inl (cL, nc, .inr (.inl fc))), (so, .inr (1, [.ref bs, .int dp, .int rt2_56, .ref la, .ref ca, .ref ha, .int opn2_56])), (bs, .inl (cI, 4, .inl fb2_56)), (la, .inl (cI, mb, .inl flz)), (ca, .inl (cI, mb, .inl fcz)), (ha, .inl (cI, mb, .inl fhz))] := hD
          refine va_put (D := D) (ci := 1) (v := .int v56) (ty := .int) (C := R_Sh) (T := F_Sh) (N := 7) hx hb hts in_Sh t_Sh t_Sh_ok n_Sh hown hK hP hD hS 2 rfl rfl 1 (by decide) (hts _ tw_93) (fun _ h9 => h9) rfl (by decide +kernel) rfl rfl (Nat.le_of_ble_eq_true rfl) d_Sh_measure_59 (fun H locs hP hD hS => ?_)
          have hP : va_P D classes [(tb, .inr (2, [.int wd, .ref cd, .ref vl, .int cnt, .int chg])), (cd, .inl (cL, nc, .inr (.inl fc))), (so, .inr (1, [.ref bs, .int v56, .int rt2_56, .ref la, .ref ca, .ref ha, .int opn2_56])), (bs, .inl (cI, 4, .inl fb2_56)), (la, .inl (cI, mb, .inl flz)), (ca, .inl (cI, mb, .inl fcz)), (ha, .inl (cI, mb, .inl fhz))] H := hP
          have hD : va_D A [(tb, .inr (2, [.int wd, .ref cd, .ref vl, .int cnt, .int chg])), (cd, .inl (cL, nc, .inr (.inl fc))), (so, .inr (1, [.ref bs, .int v56, .int rt2_56, .ref la, .ref ca, .ref ha, .int opn2_56])), (bs, .inl (cI, 4, .inl fb2_56)), (la, .inl (cI, mb, .inl flz)), (ca, .inl (cI, mb, .inl fcz)), (ha, .inl (cI, mb, .inl fhz))] := hD
          refine lv_aload_n hx hb d_Sh_measure_62 rfl (lv_at hl 2 rfl) ?_
          refine lv_iconst (v := 0) hx hb d_Sh_measure_63 (by decide) ?_
          refine lv_topi (fun v63 e63 => ?_)
          have t63 : v63.toInt = 0 := by rw [e63]; rfl
          refine va_put (D := D) (ci := 2) (v := .int v63) (ty := .boolean) (C := R_Ta) (T := F_Ta) (N := 5) hx hb hts in_Ta t_Ta t_Ta_ok n_Ta hown hK hP hD hS 0 rfl rfl 4 (by decide) (hts _ tw_67) (fun _ h9 => h9) rfl (by decide +kernel) (ia_bool (Or.inl e63)) (ia_fitb (Or.inl e63)) (Nat.le_of_ble_eq_true rfl) d_Sh_measure_64 (fun H locs hP hD hS => ?_)
          have hP : va_P D classes [(tb, .inr (2, [.int wd, .ref cd, .ref vl, .int cnt, .int v63])), (cd, .inl (cL, nc, .inr (.inl fc))), (so, .inr (1, [.ref bs, .int v56, .int rt2_56, .ref la, .ref ca, .ref ha, .int opn2_56])), (bs, .inl (cI, 4, .inl fb2_56)), (la, .inl (cI, mb, .inl flz)), (ca, .inl (cI, mb, .inl fcz)), (ha, .inl (cI, mb, .inl fhz))] H := hP
          have hD : va_D A [(tb, .inr (2, [.int wd, .ref cd, .ref vl, .int cnt, .int v63])), (cd, .inl (cL, nc, .inr (.inl fc))), (so, .inr (1, [.ref bs, .int v56, .int rt2_56, .ref la, .ref ca, .ref ha, .int opn2_56])), (bs, .inl (cI, 4, .inl fb2_56)), (la, .inl (cI, mb, .inl flz)), (ca, .inl (cI, mb, .inl fcz)), (ha, .inl (cI, mb, .inl fhz))] := hD
          have hpost : v63 = 0 ∧ opn2_56.toInt = 0 ∧ sh_ok w fc n fb2_56 v56 rt2_56 := by
            refine ⟨e63, ?_, e56.2.2.2.1, e56.2.2.1, e56.2.2.2.2⟩
            have h9 := sh_rep_len _ _ e56.1
            rw [cb_close_0] at h9
            have h10 : (0 : Nat) = opn2_56.toInt.toNat := h9
            have := e56.2.1
            omega
          have hP9 := hP.sub (ws' := [(so, .inr (1, [.ref bs, .int v56, .int rt2_56, .ref la, .ref ca, .ref ha, .int opn2_56])), (bs, .inl (cI, 4, .inl fb2_56)), (la, .inl (cI, mb, .inl flz)), (ca, .inl (cI, mb, .inl fcz)), (ha, .inl (cI, mb, .inl fhz)), (tb, .inr (2, [.int wd, .ref cd, .ref vl, .int cnt, .int v63])), (cd, .inl (cL, nc, .inr (.inl fc)))]) [2, 3, 4, 5, 6, 0, 1] rfl
          have hD9 := hD.sub (ws' := [(so, .inr (1, [.ref bs, .int v56, .int rt2_56, .ref la, .ref ca, .ref ha, .int opn2_56])), (bs, .inl (cI, 4, .inl fb2_56)), (la, .inl (cI, mb, .inl flz)), (ca, .inl (cI, mb, .inl fcz)), (ha, .inl (cI, mb, .inl fhz)), (tb, .inr (2, [.int wd, .ref cd, .ref vl, .int cnt, .int v63])), (cd, .inl (cL, nc, .inr (.inl fc)))]) [2, 3, 4, 5, 6, 0, 1] (by decide) rfl
          rw [hQ]
          exact W.vret hx hb hr (fun t ht hW => ⟨⟨(v56, rt2_56, opn2_56, v63, fb2_56, flz, fcz, fhz), rfl, hpost, by rw [ht]; exact hP9, va_K.moved hW.alike hK, hD9⟩, hS.F ht⟩) hS.2.2 d_Sh_measure_67
        · have g28 := ic_nle.mp g28
          have hpb := hcap pl.toInt.toNat (by omega)
          refine lv_aload_n hx hb d_Sh_measure_31 rfl (lv_at hl 2 rfl) ?_
          refine lv_iload_n hx hb d_Sh_measure_32 rfl (lv_at hl 0 rfl) ?_
          refine vp_callSi (xr_rv (As := [.int pl]) (rest := []) ⟨hx, hb, hml, hown, hts⟩ (c_Ta_sharedWithPrevious l D cL cI tb cd vl nc w n wd cnt chg fc pl (by omega) (by omega) (by omega) (by omega) (by omega)) (xr_cv 1 hts tw_227 tw_224 tw_225 tw_226 tw_5 rfl rfl (by decide) ⟨Nat.le_of_ble_eq_true rfl, Nat.le_of_ble_eq_true rfl⟩) hK (hP.sub (ws' := [(tb, .inr (2, [.int wd, .ref cd, .ref vl, .int cnt, .int chg])), (cd, .inl (cL, nc, .inr (.inl fc)))]) [4, 5] rfl) (va_recv hK hP rfl (q0 := 4) (ci := 2) rfl) rfl hl.1 rfl (Nat.le_of_ble_eq_true rfl) d_Sh_measure_33 ⟨Nat.le_of_ble_eq_true rfl, Nat.le_of_ble_eq_true rfl⟩) (fun v33 e33 => ?_)
          have e33 : v33.toInt = (sh_w w (kr fc w pl.toInt.toNat) (kr fc w (pl.toInt.toNat - 1)) : Int) := e33
          refine lv_istore_n (lv' := [(3, .int v33), (2, .int pl), (0, .ref so), (1, .ref tb)]) hx hb d_Sh_measure_36 rfl hl (by decide) rfl (fun ls hl => ?_)
          have hgap : v33.toInt = (tb_gap w fc (pl.toInt.toNat - 1) : Int) := by
                rw [e33]; unfold tb_gap; rw [show pl.toInt.toNat - 1 + 1 = pl.toInt.toNat by omega]
          have hglt := tb_gap_lt hs (show pl.toInt.toNat - 1 + 1 < n by omega)
          refine lv_aload_n hx hb d_Sh_measure_37 rfl (lv_at hl 2 rfl) ?_
          refine lv_iload_n hx hb d_Sh_measure_38 rfl (lv_at hl 0 rfl) ?_
          refine lv_aload_n hx hb d_Sh_measure_39 rfl (lv_at hl 2 rfl) ?_
          refine lv_iload_n hx hb d_Sh_measure_40 rfl (lv_at hl 0 rfl) ?_
          have hPc := hP.sub (ws' := [(so, .inr (1, [.ref bs, .int dp, .int rtz, .ref la, .ref ca, .ref ha, .int opz])), (bs, .inl (cI, 4, .inl fbz)), (la, .inl (cI, mb, .inl flz)), (ca, .inl (cI, mb, .inl fcz)), (ha, .inl (cI, mb, .inl fhz))]) [0, 6, 1, 2, 3] rfl
          have hDc := hD.sub (ws' := [(so, .inr (1, [.ref bs, .int dp, .int rtz, .ref la, .ref ca, .ref ha, .int opz])), (bs, .inl (cI, 4, .inl fbz)), (la, .inl (cI, mb, .inl flz)), (ca, .inl (cI, mb, .inl fcz)), (ha, .inl (cI, mb, .inl fhz))]) [0, 6, 1, 2, 3] (by decide) rfl
          have hFc := va_free (wc := [(so, .inr (1, [.ref bs, .int dp, .int rtz, .ref la, .ref ca, .ref ha, .int opz])), (bs, .inl (cI, 4, .inl fbz)), (la, .inl (cI, mb, .inl flz)), (ca, .inl (cI, mb, .inl fcz)), (ha, .inl (cI, mb, .inl fhz))]) hD hS hA [0, 6, 1, 2, 3] rfl
          refine va_calli (xr_mv (As := [.int v33]) (rest := [.int v33, .ref so]) ⟨hx, hb, hml, hown, hts⟩ (c_Sh_closeLongerThan l D cL cI so bs la ca ha mb dp rtz opz fbz flz fcz fhz v33 (tb_gap w fc (pl.toInt.toNat - 1) + 1) (pl.toInt.toNat - 1) ((cb_run (tb_gap w fc) (pl.toInt.toNat - 1)).2.2) ((cb_run (tb_gap w fc) (pl.toInt.toNat - 1)).2.1) ((cb_run (tb_gap w fc) (pl.toInt.toNat - 1)).1) H.size (by omega) (h4) (h3) (by omega) (h5) (h6) (sk_run _ _) (by omega)) (xr_cv 1 hts tw_231 tw_228 tw_230 tp_2 tw_6 rfl rfl (by decide) ⟨Nat.le_of_ble_eq_true rfl, Nat.le_of_ble_eq_true rfl⟩) hK hPc (hDc.weaken (fun _ _ _ _ => trivial)) (va_recv hK hP rfl (q0 := 0) (ci := 1) rfl) rfl hl.1 rfl (Nat.le_of_ble_eq_true rfl) d_Sh_measure_41 ⟨Nat.le_of_ble_eq_true rfl, Nat.le_of_ble_eq_true rfl⟩) hS (fun q _ h => hFc q h) hFc (fun v41 u41 tt41 H1 locs ht41 hvm41 e41 hB41 hz41 hk41 hS => ?_)
          obtain ⟨rt2_41, opn2_41, fb2_41⟩ := u41
          have e41 : sh_rep flz fcz fhz opn2_41.toInt.toNat (cb_close (tb_gap w fc (pl.toInt.toNat - 1) + 1) ((cb_run (tb_gap w fc) (pl.toInt.toNat - 1)).1) 0 ((cb_run (tb_gap w fc) (pl.toInt.toNat - 1)).2.1) ((cb_run (tb_gap w fc) (pl.toInt.toNat - 1)).2.2)).1 ∧ (0 ≤ opn2_41.toInt ∧ opn2_41.toInt ≤ opz.toInt) ∧ v41.toInt = ((cb_close (tb_gap w fc (pl.toInt.toNat - 1) + 1) ((cb_run (tb_gap w fc) (pl.toInt.toNat - 1)).1) 0 ((cb_run (tb_gap w fc) (pl.toInt.toNat - 1)).2.1) ((cb_run (tb_gap w fc) (pl.toInt.toNat - 1)).2.2)).2.1 : Int) ∧ (∀ j, j < 4 → (fb2_41 j).toInt = ((cb_close (tb_gap w fc (pl.toInt.toNat - 1) + 1) ((cb_run (tb_gap w fc) (pl.toInt.toNat - 1)).1) 0 ((cb_run (tb_gap w fc) (pl.toInt.toNat - 1)).2.1) ((cb_run (tb_gap w fc) (pl.toInt.toNat - 1)).2.2)).2.2.1 j : Int)) ∧ rt2_41.toInt = ((cb_close (tb_gap w fc (pl.toInt.toNat - 1) + 1) ((cb_run (tb_gap w fc) (pl.toInt.toNat - 1)).1) 0 ((cb_run (tb_gap w fc) (pl.toInt.toNat - 1)).2.1) ((cb_run (tb_gap w fc) (pl.toInt.toNat - 1)).2.2)).2.2.2 : Int) := e41
          obtain ⟨hP1, hK1, hD1⟩ := hB41
          rw [ht41] at hP1
          obtain ⟨hP, hD⟩ := va_join (wr := [(tb, .inr (2, [.int wd, .ref cd, .ref vl, .int cnt, .int chg])), (cd, .inl (cL, nc, .inr (.inl fc)))]) (w1 := [(so, .inr (1, [.ref bs, .int dp, .int rt2_41, .ref la, .ref ca, .ref ha, .int opn2_41])), (bs, .inl (cI, 4, .inl fb2_41)), (la, .inl (cI, mb, .inl flz)), (ca, .inl (cI, mb, .inl fcz)), (ha, .inl (cI, mb, .inl fhz))]) hP hD [0, 6, 1, 2, 3] [4, 5] rfl rfl (by decide) (by decide) hk41 hFc hP1 hD1
          clear hP1 hD1 hPc hDc hFc
          generalize H1 = H at hP hS ⊢
          have hP : va_P D classes [(tb, .inr (2, [.int wd, .ref cd, .ref vl, .int cnt, .int chg])), (cd, .inl (cL, nc, .inr (.inl fc))), (so, .inr (1, [.ref bs, .int dp, .int rt2_41, .ref la, .ref ca, .ref ha, .int opn2_41])), (bs, .inl (cI, 4, .inl fb2_41)), (la, .inl (cI, mb, .inl flz)), (ca, .inl (cI, mb, .inl fcz)), (ha, .inl (cI, mb, .inl fhz))] H := hP
          have hD : va_D A [(tb, .inr (2, [.int wd, .ref cd, .ref vl, .int cnt, .int chg])), (cd, .inl (cL, nc, .inr (.inl fc))), (so, .inr (1, [.ref bs, .int dp, .int rt2_41, .ref la, .ref ca, .ref ha, .int opn2_41])), (bs, .inl (cI, 4, .inl fb2_41)), (la, .inl (cI, mb, .inl flz)), (ca, .inl (cI, mb, .inl fcz)), (ha, .inl (cI, mb, .inl fhz))] := hD
          have hlen := sh_rep_len _ _ e41.1
          have hPc := hP.sub (ws' := [(so, .inr (1, [.ref bs, .int dp, .int rt2_41, .ref la, .ref ca, .ref ha, .int opn2_41])), (bs, .inl (cI, 4, .inl fb2_41)), (la, .inl (cI, mb, .inl flz)), (ca, .inl (cI, mb, .inl fcz)), (ha, .inl (cI, mb, .inl fhz))]) [2, 3, 4, 5, 6] rfl
          have hDc := hD.sub (ws' := [(so, .inr (1, [.ref bs, .int dp, .int rt2_41, .ref la, .ref ca, .ref ha, .int opn2_41])), (bs, .inl (cI, 4, .inl fb2_41)), (la, .inl (cI, mb, .inl flz)), (ca, .inl (cI, mb, .inl fcz)), (ha, .inl (cI, mb, .inl fhz))]) [2, 3, 4, 5, 6] (by decide) rfl
          have hFc := va_free (wc := [(so, .inr (1, [.ref bs, .int dp, .int rt2_41, .ref la, .ref ca, .ref ha, .int opn2_41])), (bs, .inl (cI, 4, .inl fb2_41)), (la, .inl (cI, mb, .inl flz)), (ca, .inl (cI, mb, .inl fcz)), (ha, .inl (cI, mb, .inl fhz))]) hD hS hA [2, 3, 4, 5, 6] rfl
          refine va_callv (xr_mv (As := [.int v33, .int v41]) (rest := []) ⟨hx, hb, hml, hown, hts⟩ (c_Sh_addChild l D cL cI so bs la ca ha mb dp rt2_41 opn2_41 fb2_41 flz fcz fhz v33 v41 (pl.toInt.toNat - 1) (tb_gap w fc (pl.toInt.toNat - 1)) ((cb_close (tb_gap w fc (pl.toInt.toNat - 1) + 1) (cb_run (tb_gap w fc) (pl.toInt.toNat - 1)).1 0 (cb_run (tb_gap w fc) (pl.toInt.toNat - 1)).2.1 (cb_run (tb_gap w fc) (pl.toInt.toNat - 1)).2.2).2.1) ((cb_close (tb_gap w fc (pl.toInt.toNat - 1) + 1) (cb_run (tb_gap w fc) (pl.toInt.toNat - 1)).1 0 (cb_run (tb_gap w fc) (pl.toInt.toNat - 1)).2.1 (cb_run (tb_gap w fc) (pl.toInt.toNat - 1)).2.2).1) ((cb_close (tb_gap w fc (pl.toInt.toNat - 1) + 1) (cb_run (tb_gap w fc) (pl.toInt.toNat - 1)).1 0 (cb_run (tb_gap w fc) (pl.toInt.toNat - 1)).2.1 (cb_run (tb_gap w fc) (pl.toInt.toNat - 1)).2.2).2.2.1) H.size (by omega) (by have := e41.2.1; omega) (e41.1) (by omega) (sk_close _ _ _ _ (sk_run _ _)) (hgap) (e41.2.2.1) (fun hne => by have h9 := sk_room (tb_gap w fc) (pl.toInt.toNat - 1) hne; rw [hlen] at h9; have := e41.2.1; omega)) (xr_cv 2 hts tw_239 tw_236 tw_238 tp_3 tw_6 rfl rfl (by decide) ⟨Nat.le_of_ble_eq_true rfl, Nat.le_of_ble_eq_true rfl⟩) hK hPc (hDc.weaken (fun _ _ _ _ => trivial)) (va_recv hK hP rfl (q0 := 2) (ci := 1) rfl) rfl hl.1 rfl (Nat.le_of_ble_eq_true rfl) d_Sh_measure_44 ⟨Nat.le_of_ble_eq_true rfl, Nat.le_of_ble_eq_true rfl⟩) hS (fun q _ h => hFc q h) hFc (fun u44 tt44 H1 locs ht44 hvm44 e44 hB44 hz44 hk44 hS => ?_)
          obtain ⟨opn2_44, fl2_44, fch2_44, fh2_44⟩ := u44
          have e44 : sh_rep fl2_44 fch2_44 fh2_44 opn2_44.toInt.toNat (cb_add (tb_gap w fc (pl.toInt.toNat - 1)) ((cb_close (tb_gap w fc (pl.toInt.toNat - 1) + 1) (cb_run (tb_gap w fc) (pl.toInt.toNat - 1)).1 0 (cb_run (tb_gap w fc) (pl.toInt.toNat - 1)).2.1 (cb_run (tb_gap w fc) (pl.toInt.toNat - 1)).2.2).2.1) ((cb_close (tb_gap w fc (pl.toInt.toNat - 1) + 1) (cb_run (tb_gap w fc) (pl.toInt.toNat - 1)).1 0 (cb_run (tb_gap w fc) (pl.toInt.toNat - 1)).2.1 (cb_run (tb_gap w fc) (pl.toInt.toNat - 1)).2.2).1)) ∧ 0 ≤ opn2_44.toInt ∧ opn2_44.toInt ≤ (mb : Int) := e44
          obtain ⟨hP1, hK1, hD1⟩ := hB44
          rw [ht44] at hP1
          obtain ⟨hP, hD⟩ := va_join (wr := [(tb, .inr (2, [.int wd, .ref cd, .ref vl, .int cnt, .int chg])), (cd, .inl (cL, nc, .inr (.inl fc)))]) (w1 := [(so, .inr (1, [.ref bs, .int dp, .int rt2_41, .ref la, .ref ca, .ref ha, .int opn2_44])), (bs, .inl (cI, 4, .inl fb2_41)), (la, .inl (cI, mb, .inl fl2_44)), (ca, .inl (cI, mb, .inl fch2_44)), (ha, .inl (cI, mb, .inl fh2_44))]) hP hD [2, 3, 4, 5, 6] [0, 1] rfl rfl (by decide) (by decide) hk44 hFc hP1 hD1
          clear hP1 hD1 hPc hDc hFc
          generalize H1 = H at hP hS ⊢
          have hP : va_P D classes [(tb, .inr (2, [.int wd, .ref cd, .ref vl, .int cnt, .int chg])), (cd, .inl (cL, nc, .inr (.inl fc))), (so, .inr (1, [.ref bs, .int dp, .int rt2_41, .ref la, .ref ca, .ref ha, .int opn2_44])), (bs, .inl (cI, 4, .inl fb2_41)), (la, .inl (cI, mb, .inl fl2_44)), (ca, .inl (cI, mb, .inl fch2_44)), (ha, .inl (cI, mb, .inl fh2_44))] H := hP
          have hD : va_D A [(tb, .inr (2, [.int wd, .ref cd, .ref vl, .int cnt, .int chg])), (cd, .inl (cL, nc, .inr (.inl fc))), (so, .inr (1, [.ref bs, .int dp, .int rt2_41, .ref la, .ref ca, .ref ha, .int opn2_44])), (bs, .inl (cI, 4, .inl fb2_41)), (la, .inl (cI, mb, .inl fl2_44)), (ca, .inl (cI, mb, .inl fch2_44)), (ha, .inl (cI, mb, .inl fh2_44))] := hD
          have hnx : cb_run (tb_gap w fc) (pl.toInt.toNat + 1 - 1) = (cb_add (tb_gap w fc (pl.toInt.toNat - 1)) (cb_close (tb_gap w fc (pl.toInt.toNat - 1) + 1) (cb_run (tb_gap w fc) (pl.toInt.toNat - 1)).1 0 (cb_run (tb_gap w fc) (pl.toInt.toNat - 1)).2.1 (cb_run (tb_gap w fc) (pl.toInt.toNat - 1)).2.2).2.1 (cb_close (tb_gap w fc (pl.toInt.toNat - 1) + 1) (cb_run (tb_gap w fc) (pl.toInt.toNat - 1)).1 0 (cb_run (tb_gap w fc) (pl.toInt.toNat - 1)).2.1 (cb_run (tb_gap w fc) (pl.toInt.toNat - 1)).2.2).1, (cb_close (tb_gap w fc (pl.toInt.toNat - 1) + 1) (cb_run (tb_gap w fc) (pl.toInt.toNat - 1)).1 0 (cb_run (tb_gap w fc) (pl.toInt.toNat - 1)).2.1 (cb_run (tb_gap w fc) (pl.toInt.toNat - 1)).2.2).2.2.1, (cb_close (tb_gap w fc (pl.toInt.toNat - 1) + 1) (cb_run (tb_gap w fc) (pl.toInt.toNat - 1)).1 0 (cb_run (tb_gap w fc) (pl.toInt.toNat - 1)).2.1 (cb_run (tb_gap w fc) (pl.toInt.toNat - 1)).2.2).2.2.2) := by
                rw [show pl.toInt.toNat + 1 - 1 = (pl.toInt.toNat - 1) + 1 by omega]; rfl
          obtain ⟨v47, e47⟩ : ∃ z, z = pl + Int32.ofInt 1 := ⟨_, rfl⟩
          have t47 := ia_inc 1 e47 (by decide) ⟨by omega, by omega⟩
          refine lv_iinc (k := 1) (lv' := [(2, .int v47), (3, .int v33), (0, .ref so), (1, .ref tb)]) hx hb d_Sh_measure_47 hl rfl e47.symm (by decide) rfl (fun ls hl => ?_)
          rw [show pl.toInt.toNat + 1 - 1 = v47.toInt.toNat - 1 by omega] at hnx
          refine lv_goto hx hb d_Sh_measure_50 (tgt := 23) (by decide) ?_
          have hPz := hP.sub (ws' := [(so, .inr (1, [.ref bs, .int dp, .int rt2_41, .ref la, .ref ca, .ref ha, .int opn2_44])), (la, .inl (cI, mb, .inl fl2_44)), (ca, .inl (cI, mb, .inl fch2_44)), (ha, .inl (cI, mb, .inl fh2_44)), (tb, .inr (2, [.int wd, .ref cd, .ref vl, .int cnt, .int chg])), (cd, .inl (cL, nc, .inr (.inl fc))), (bs, .inl (cI, 4, .inl fb2_41))]) [2, 4, 5, 6, 0, 1, 3] rfl
          have hDz := hD.sub (ws' := [(so, .inr (1, [.ref bs, .int dp, .int rt2_41, .ref la, .ref ca, .ref ha, .int opn2_44])), (la, .inl (cI, mb, .inl fl2_44)), (ca, .inl (cI, mb, .inl fch2_44)), (ha, .inl (cI, mb, .inl fh2_44)), (tb, .inr (2, [.int wd, .ref cd, .ref vl, .int cnt, .int chg])), (cd, .inl (cL, nc, .inr (.inl fc))), (bs, .inl (cI, 4, .inl fb2_41))]) [2, 4, 5, 6, 0, 1, 3] (by decide) rfl
          exact ih23 v47 rt2_41 opn2_44 fl2_44 fch2_44 fh2_44 fb2_41 H locs ls (lv_sub hl [0, 2, 3] rfl) hPz hDz hS (by omega) (by omega) (by rw [hnx]; exact e44.1) (e44.2) (fun j hj => by rw [hnx]; exact e41.2.2.2.1 j hj) (by rw [hnx]; exact e41.2.2.2.2) (by omega)
    exact lp23 _ v21 v17 opn fl fch fh fb_13 H locs ls hl hP hD hS (by omega) (by omega) (by rw [show v21.toInt.toNat - 1 = 0 by omega, show opn.toInt.toNat = 0 by omega]; rfl) (by omega) (fun j hj => by rw [show v21.toInt.toNat - 1 = 0 by omega, e13 j hj, e12]; rfl) (by rw [show v21.toInt.toNat - 1 = 0 by omega]; exact t17) (Nat.lt_succ_self _)
  · have g4 := (iz_eq).mp g4
    have hpost : chg = 0 ∧ opn.toInt = 0 ∧ sh_ok w fc n fb dp rt := by
      exact ⟨iz_eq.mpr g4, hopn, hsh (iz_eq.mpr g4)⟩
    have hP9 := hP.sub (ws' := [(so, .inr (1, [.ref bs, .int dp, .int rt, .ref la, .ref ca, .ref ha, .int opn])), (bs, .inl (cI, 4, .inl fb)), (la, .inl (cI, mb, .inl fl)), (ca, .inl (cI, mb, .inl fch)), (ha, .inl (cI, mb, .inl fh)), (tb, .inr (2, [.int wd, .ref cd, .ref vl, .int cnt, .int chg])), (cd, .inl (cL, nc, .inr (.inl fc)))]) [0, 1, 2, 3, 4, 5, 6] rfl
    have hD9 := hD.sub (ws' := [(so, .inr (1, [.ref bs, .int dp, .int rt, .ref la, .ref ca, .ref ha, .int opn])), (bs, .inl (cI, 4, .inl fb)), (la, .inl (cI, mb, .inl fl)), (ca, .inl (cI, mb, .inl fch)), (ha, .inl (cI, mb, .inl fh)), (tb, .inr (2, [.int wd, .ref cd, .ref vl, .int cnt, .int chg])), (cd, .inl (cL, nc, .inr (.inl fc)))]) [0, 1, 2, 3, 4, 5, 6] (by decide) rfl
    rw [hQ]
    exact W.vret hx hb hr (fun t ht hW => ⟨⟨(dp, rt, opn, chg, fb, fl, fch, fh), rfl, hpost, by rw [ht]; exact hP9, va_K.moved hW.alike hK, hD9⟩, hS.F ht⟩) hS.2.2 d_Sh_measure_7
set_option maxRecDepth 100000 in
set_option maxHeartbeats 4000000 in
theorem c_Sh_depthOf (l : Launch) (D : va_G) (cL cI : ClassId) (tb cd vl nc w n : Nat) (wd cnt chg : Int32) (fc : Nat → Int64) (pl : Int32) (hw : wd.toInt = (w : Int)) (hw7 : 1 ≤ w ∧ w ≤ 7) (hcnt : cnt.toInt = (n : Int)) (hnc : nc < 16777216) (hcap : ∀ k, k < n → k * w + w ≤ nc) (hn : n ≤ 1500) (hs : tb_srt w n fc) (hpl : 0 ≤ pl.toInt ∧ pl.toInt < (n : Int)) : Met l y_Sh_depthOf (Cond.code y_Sh_depthOf prog_3_method_6_code 6 (some .int) :: TW) ({ frames := 4, cells := 0, slots := 0, locals := 110 } : Room) (PR D cL cI [.ref tb, .int pl] [(tb, .inr (2, [.int wd, .ref cd, .ref vl, .int cnt, .int chg])), (cd, .inl (cL, nc, .inr (.inl fc)))]) (vp_Si (fun r => r.toInt = (cb_N (tb_gap w fc) 64 (n - 1) pl.toInt.toNat 0 : Int))) 0 0 (fun _ => False) := by
  refine xr_met (by decide) ?_
  intro p e s m args below meth c hx hb hr hts hown hlocks hname hml hv
  obtain ⟨rfl, hP, hK⟩ := hv
  have hown : s.vm.findClass "BranchStore$Shape" = some m.cls := hown
  have hP : va_P D classes [(tb, .inr (2, [.int wd, .ref cd, .ref vl, .int cnt, .int chg])), (cd, .inl (cL, nc, .inr (.inl fc)))] s.heap := hP
  have hl := lv_entry ([.ref tb, .int pl]) (n := 6) (Nat.le_of_ble_eq_true rfl)
  rw [lg_entry_eq]
  generalize (lg_sl ([.ref tb, .int pl]) ++ List.replicate (6 - (lg_sl ([.ref tb, .int pl])).length) Slot.unset).toArray = ls at hl ⊢
  have hl : lv_has ls 6 [(0, .ref tb), (1, .int pl)] := hl
  obtain ⟨Q, hQ⟩ : ∃ Q, Q = MQ below (vp_Si (fun r => r.toInt = (cb_N (tb_gap w fc) 64 (n - 1) pl.toInt.toNat 0 : Int))) ([.ref tb, .int pl] : List Value).toArray s 0 0 (fun _ => False) := ⟨_, rfl⟩
  rw [← hQ]
  have hrg_pl := ia_rng pl
  refine lv_lconst (v := 0) hx hb d_Sh_depthOf_0 (by decide) ?_
  refine lv_topl (fun v0 e0 => ?_)
  refine lv_lstore_n (lv' := [(2, .long v0), (0, .ref tb), (1, .int pl)]) hx hb d_Sh_depthOf_1 rfl hl (by decide) rfl (fun ls hl => ?_)
  refine lv_aload_n hx hb d_Sh_depthOf_2 rfl (lv_at hl 1 rfl) ?_
  refine vp_callSi (xr_rv (As := []) (rest := []) ⟨hx, hb, hml, hown, hts⟩ (c_Ta_mostShared l D cL cI tb cd vl w wd cnt chg (by omega) (by omega)) (xr_cv 0 hts tw_84 tw_587 tw_82 tw_83 tw_5 rfl rfl (by decide) ⟨Nat.le_of_ble_eq_true rfl, Nat.le_of_ble_eq_true rfl⟩) hK (hP.sub (ws' := [(tb, .inr (2, [.int wd, .ref cd, .ref vl, .int cnt, .int chg]))]) [0] rfl) (va_recv hK hP rfl (q0 := 0) (ci := 2) rfl) rfl hl.1 rfl (Nat.le_of_ble_eq_true rfl) d_Sh_depthOf_3 ⟨Nat.le_refl _, Nat.le_refl _⟩) (fun v3 e3 => ?_)
  have e3 : v3.toInt = 8 * (w : Int) := e3
  refine lv_istore (lv' := [(4, .int v3), (2, .long v0), (0, .ref tb), (1, .int pl)]) hx hb d_Sh_depthOf_6 hl (by decide) rfl (fun ls hl => ?_)
  refine lv_iload_n hx hb d_Sh_depthOf_8 rfl (lv_at hl 3 rfl) ?_
  refine lv_istore (lv' := [(5, .int pl), (4, .int v3), (2, .long v0), (0, .ref tb), (1, .int pl)]) hx hb d_Sh_depthOf_9 hl (by decide) rfl (fun ls hl => ?_)
  have lp11 : ∀ (fuel11 : Nat) (ii : Int32) (sv : Int32) (mk : Int64) (ls : Array Slot), lv_has ls 6 [(5, .int ii), (4, .int sv), (2, .long mk), (0, .ref tb), (1, .int pl)] → (0 ≤ ii.toInt ∧ ii.toInt ≤ pl.toInt) → (0 ≤ sv.toInt ∧ sv.toInt ≤ 8 * (w : Int)) → (dm_ok (tb_gap w fc) (8 * w) ii.toInt.toNat pl.toInt.toNat sv.toInt.toNat) → (∀ v, Nat.testBit (uN mk) v = true ↔ dl_in (tb_gap w fc) pl.toInt.toNat ii.toInt.toNat v) → ii.toInt.toNat < fuel11 → W p l e ({ frames := 4, cells := 0, slots := 0, locals := 110 } : Room) s m ([.ref tb, .int pl] : List Value).toArray below meth c s.heap [] 0 0 Q (F0 m 11 ls []) := by
    intro fuel11
    induction fuel11 with
    | zero => intro ii sv mk ls hl h1 h2 h3 h4 hm11; exact absurd hm11 (Nat.not_lt_zero _)
    | succ fuel11 ih11 =>
      intro ii sv mk ls hl h1 h2 h3 h4 hm11
      refine lv_iload hx hb d_Sh_depthOf_11 (lv_at hl 0 rfl) ?_
      refine lv_if_le hx hb d_Sh_depthOf_13 (tgt := 42) (by decide) (fun g13 => ?_) (fun g13 => ?_)
      · have g13 := (iz_le).mp g13
        refine lv_aload_n hx hb d_Sh_depthOf_42 rfl (lv_at hl 3 rfl) ?_
        refine vp_callSi (xr_rv (As := []) (rest := []) ⟨hx, hb, hml, hown, hts⟩ (c_Ta_mostShared l D cL cI tb cd vl w wd cnt chg (by omega) (by omega)) (xr_cv 0 hts tw_84 tw_587 tw_82 tw_83 tw_5 rfl rfl (by decide) ⟨Nat.le_of_ble_eq_true rfl, Nat.le_of_ble_eq_true rfl⟩) hK (hP.sub (ws' := [(tb, .inr (2, [.int wd, .ref cd, .ref vl, .int cnt, .int chg]))]) [0] rfl) (va_recv hK hP rfl (q0 := 0) (ci := 2) rfl) rfl hl.1 rfl (Nat.le_of_ble_eq_true rfl) d_Sh_depthOf_43 ⟨Nat.le_refl _, Nat.le_refl _⟩) (fun v43 e43 => ?_)
        have e43 : v43.toInt = 8 * (w : Int) := e43
        refine lv_istore (lv' := [(4, .int v43), (5, .int ii), (2, .long mk), (0, .ref tb), (1, .int pl)]) hx hb d_Sh_depthOf_46 hl (by decide) rfl (fun ls hl => ?_)
        refine lv_iload_n hx hb d_Sh_depthOf_48 rfl (lv_at hl 4 rfl) ?_
        refine lv_iconst (v := 1) hx hb d_Sh_depthOf_49 (by decide) ?_
        refine lv_topi (fun v49 e49 => ?_)
        have t49 : v49.toInt = 1 := by rw [e49]; rfl
        refine lv_iadd hx hb d_Sh_depthOf_50 ?_
        refine lv_topi (fun v50 e50 => ?_)
        have t50 := ia_add e50 ⟨by omega, by omega⟩
        refine lv_istore (lv' := [(5, .int v50), (4, .int v43), (2, .long mk), (0, .ref tb), (1, .int pl)]) hx hb d_Sh_depthOf_51 hl (by decide) rfl (fun ls hl => ?_)
        have lp53 : ∀ (fuel53 : Nat) (jj : Int32) (sv2 : Int32) (mk2 : Int64) (ls : Array Slot), lv_has ls 6 [(5, .int jj), (4, .int sv2), (2, .long mk2), (0, .ref tb), (1, .int pl)] → (pl.toInt + 1 ≤ jj.toInt) → (jj.toInt ≤ (n : Int)) → (0 ≤ sv2.toInt ∧ sv2.toInt ≤ 8 * (w : Int)) → (dm_ok (tb_gap w fc) (8 * w) pl.toInt.toNat (jj.toInt.toNat - 1) sv2.toInt.toNat) → (∀ v, Nat.testBit (uN mk2) v = true ↔ dr_in (tb_gap w fc) pl.toInt.toNat (jj.toInt.toNat - 1) v ∨ dl_in (tb_gap w fc) pl.toInt.toNat 0 v) → n - jj.toInt.toNat < fuel53 → W p l e ({ frames := 4, cells := 0, slots := 0, locals := 110 } : Room) s m ([.ref tb, .int pl] : List Value).toArray below meth c s.heap [] 0 0 Q (F0 m 53 ls []) := by
          intro fuel53
          induction fuel53 with
          | zero => intro jj sv2 mk2 ls hl k1 k1b k2 k3 k4 hm53; exact absurd hm53 (Nat.not_lt_zero _)
          | succ fuel53 ih53 =>
            intro jj sv2 mk2 ls hl k1 k1b k2 k3 k4 hm53
            refine lv_iload hx hb d_Sh_depthOf_53 (lv_at hl 0 rfl) ?_
            refine lv_aload_n hx hb d_Sh_depthOf_55 rfl (lv_at hl 3 rfl) ?_
            refine va_get (D := D) (ci := 2) (v := .int cnt) (C := R_Ta) (T := F_Ta) (N := 5) hx hb hts in_Ta hown hK hP 0 rfl rfl 3 (by decide) (hts _ tw_64) (fun _ h9 => h9) rfl d_Sh_depthOf_56 ?_
            refine lv_icmp_ge hx hb d_Sh_depthOf_59 (tgt := 88) (by decide) (fun g59 => ?_) (fun g59 => ?_)
            · have g59 := ic_le.mp g59
              refine lv_lload_n hx hb d_Sh_depthOf_88 rfl (lv_at hl 2 rfl) ?_
              refine vp_callSi (xr_rs (As := [.long mk2]) (rest := []) ⟨hx, hb, hml, hown, hts⟩ (c_Lo_bitCount l D cL cI mk2 ) (xr_cs 1 hts tw_591 tw_589 tw_590 tw_17 rfl rfl (by decide) ⟨Nat.le_of_ble_eq_true rfl, Nat.le_of_ble_eq_true rfl⟩) hK (hP.sub (ws' := []) [] rfl) rfl hl.1 rfl (Nat.le_of_ble_eq_true rfl) d_Sh_depthOf_89 ⟨Nat.le_refl _, Nat.le_refl _⟩) (fun v89 e89 => ?_)
              have e89 : v89.toInt = (cb_num (fun i => Nat.testBit (uN mk2) i) 64 : Int) := e89
              have hpost : v89.toInt = (cb_N (tb_gap w fc) 64 (n - 1) pl.toInt.toNat 0 : Int) := by
                rw [e89]
                unfold cb_N
                congr 1
                refine cb_num_congr 64 (fun i hi => ?_)
                rw [decide_eq_true (Nat.zero_le i), Bool.true_and, Bool.eq_iff_iff, cb_inb_iff, dl_all, k4 i, show jj.toInt.toNat - 1 = n - 1 by omega]
              rw [hQ]
              exact xr_reti (v := v89) hx hb hr hlocks (hpost) d_Sh_depthOf_92
            · have g59 := ic_nle.mp g59
              have hpb := hcap jj.toInt.toNat (by omega)
              refine lv_iload hx hb d_Sh_depthOf_62 (lv_at hl 1 rfl) ?_
              refine lv_aload_n hx hb d_Sh_depthOf_64 rfl (lv_at hl 3 rfl) ?_
              refine lv_iload hx hb d_Sh_depthOf_65 (lv_at hl 0 rfl) ?_
              refine vp_callSi (xr_rv (As := [.int jj]) (rest := [.int sv2]) ⟨hx, hb, hml, hown, hts⟩ (c_Ta_sharedWithPrevious l D cL cI tb cd vl nc w n wd cnt chg fc jj (by omega) (by omega) (by omega) (by omega) (by omega)) (xr_cv 1 hts tw_227 tw_224 tw_225 tw_226 tw_5 rfl rfl (by decide) ⟨Nat.le_of_ble_eq_true rfl, Nat.le_of_ble_eq_true rfl⟩) hK hP (va_recv hK hP rfl (q0 := 0) (ci := 2) rfl) rfl hl.1 rfl (Nat.le_of_ble_eq_true rfl) d_Sh_depthOf_67 ⟨Nat.le_refl _, Nat.le_refl _⟩) (fun v67 e67 => ?_)
              have e67 : v67.toInt = (sh_w w (kr fc w jj.toInt.toNat) (kr fc w (jj.toInt.toNat - 1)) : Int) := e67
              have hgap : v67.toInt = (tb_gap w fc (jj.toInt.toNat - 1) : Int) := by
                    rw [e67]; unfold tb_gap; rw [show jj.toInt.toNat - 1 + 1 = jj.toInt.toNat by omega]
              have hglt := tb_gap_lt hs (show jj.toInt.toNat - 1 + 1 < n by omega)
              refine va_mmin hx hb (hml.trans hl.1.symm) hown (hts _ tw_588) (hts _ tw_462) (hts _ tw_2) (hts _ tw_463) (Nat.le_of_ble_eq_true rfl) (Nat.le_of_ble_eq_true rfl) (Nat.le_of_ble_eq_true rfl) (Nat.le_of_ble_eq_true rfl) d_Sh_depthOf_70 ?_
              refine lv_topi (fun v70 e70 => ?_)
              have t70 : v70.toInt = if v67.toInt < sv2.toInt then v67.toInt else sv2.toInt := ia_min e70
              have hmin : v70.toInt.toNat = if tb_gap w fc (jj.toInt.toNat - 1) < sv2.toInt.toNat then tb_gap w fc (jj.toInt.toNat - 1) else sv2.toInt.toNat := by split at t70 <;> split <;> omega
              have hst := dr_step (c := tb_gap w fc) (M := 8 * w) (q := pl.toInt.toNat) (b := jj.toInt.toNat - 1) (s2 := v70.toInt.toNat) (by omega) k3 hglt hmin
              have hv24 : 0 ≤ v70.toInt ∧ v70.toInt ≤ 8 * (w : Int) := by split at t70 <;> omega
              have hv63 : v70.toInt < 8 * (w : Int) := by split at t70 <;> omega
              refine lv_istore (lv' := [(4, .int v70), (5, .int jj), (2, .long mk2), (0, .ref tb), (1, .int pl)]) hx hb d_Sh_depthOf_73 hl (by decide) rfl (fun ls hl => ?_)
              refine lv_lload_n hx hb d_Sh_depthOf_75 rfl (lv_at hl 2 rfl) ?_
              refine lv_lconst (v := 1) hx hb d_Sh_depthOf_76 (by decide) ?_
              refine lv_topl (fun v76 e76 => ?_)
              refine lv_iload hx hb d_Sh_depthOf_77 (lv_at hl 0 rfl) ?_
              refine lv_lshl hx hb d_Sh_depthOf_79 rfl ?_
              refine lv_topl (fun v79 e79 => ?_)
              have hbit : uN v79 = 2 ^ v70.toInt.toNat := by rw [e79]; exact uN_bit1 e76 (by omega) (by omega)
              refine lv_lor hx hb d_Sh_depthOf_80 ?_
              refine lv_topl (fun v80 e80 => ?_)
              refine lv_lstore_n (lv' := [(2, .long v80), (4, .int v70), (5, .int jj), (0, .ref tb), (1, .int pl)]) hx hb d_Sh_depthOf_81 rfl hl (by decide) rfl (fun ls hl => ?_)
              obtain ⟨v82, e82⟩ : ∃ z, z = jj + Int32.ofInt 1 := ⟨_, rfl⟩
              have t82 := ia_inc 1 e82 (by decide) ⟨by omega, by omega⟩
              refine lv_iinc (k := 2) (lv' := [(5, .int v82), (2, .long v80), (4, .int v70), (0, .ref tb), (1, .int pl)]) hx hb d_Sh_depthOf_82 hl rfl e82.symm (by decide) rfl (fun ls hl => ?_)
              refine lv_goto hx hb d_Sh_depthOf_85 (tgt := 53) (by decide) ?_
              exact ih53 v82 v70 v80 ls (lv_sub hl [0, 2, 1, 3, 4] rfl) (by omega) (by omega) (by omega) (by rw [show v82.toInt.toNat - 1 = (jj.toInt.toNat - 1) + 1 by omega]; exact hst.1) (fun v => by rw [bt_or e80 hbit, k4 v, show v82.toInt.toNat - 1 = (jj.toInt.toNat - 1) + 1 by omega, hst.2 v]; exact ⟨fun h9 => h9.elim (fun h10 => h10.elim (fun h11 => Or.inl (Or.inl h11)) Or.inr) (fun h10 => Or.inl (Or.inr h10)), fun h9 => h9.elim (fun h10 => h10.elim (fun h11 => Or.inl (Or.inl h11)) Or.inr) (fun h10 => Or.inl (Or.inr h10))⟩) (by omega)
        exact lp53 _ v50 v43 mk  ls hl (by omega) (by omega) (by omega) (by rw [show v43.toInt.toNat = 8 * w by omega, show v50.toInt.toNat - 1 = pl.toInt.toNat by omega]; exact dm_0 _ _ _) (fun v => by rw [h4 v, show ii.toInt.toNat = 0 by omega]; exact ⟨Or.inr, fun h9 => h9.elim (fun ⟨j, a1, a2, _⟩ => by omega) id⟩) (Nat.lt_succ_self _)
      · have g13 := (iz_nle).mp g13
        have hpb := hcap ii.toInt.toNat (by omega)
        refine lv_iload hx hb d_Sh_depthOf_16 (lv_at hl 1 rfl) ?_
        refine lv_aload_n hx hb d_Sh_depthOf_18 rfl (lv_at hl 3 rfl) ?_
        refine lv_iload hx hb d_Sh_depthOf_19 (lv_at hl 0 rfl) ?_
        refine vp_callSi (xr_rv (As := [.int ii]) (rest := [.int sv]) ⟨hx, hb, hml, hown, hts⟩ (c_Ta_sharedWithPrevious l D cL cI tb cd vl nc w n wd cnt chg fc ii (by omega) (by omega) (by omega) (by omega) (by omega)) (xr_cv 1 hts tw_227 tw_224 tw_225 tw_226 tw_5 rfl rfl (by decide) ⟨Nat.le_of_ble_eq_true rfl, Nat.le_of_ble_eq_true rfl⟩) hK hP (va_recv hK hP rfl (q0 := 0) (ci := 2) rfl) rfl hl.1 rfl (Nat.le_of_ble_eq_true rfl) d_Sh_depthOf_21 ⟨Nat.le_refl _, Nat.le_refl _⟩) (fun v21 e21 => ?_)
        have e21 : v21.toInt = (sh_w w (kr fc w ii.toInt.toNat) (kr fc w (ii.toInt.toNat - 1)) : Int) := e21
        have hgap : v21.toInt = (tb_gap w fc (ii.toInt.toNat - 1) : Int) := by
              rw [e21]; unfold tb_gap; rw [show ii.toInt.toNat - 1 + 1 = ii.toInt.toNat by omega]
        have hglt := tb_gap_lt hs (show ii.toInt.toNat - 1 + 1 < n by omega)
        refine va_mmin hx hb (hml.trans hl.1.symm) hown (hts _ tw_588) (hts _ tw_462) (hts _ tw_2) (hts _ tw_463) (Nat.le_of_ble_eq_true rfl) (Nat.le_of_ble_eq_true rfl) (Nat.le_of_ble_eq_true rfl) (Nat.le_of_ble_eq_true rfl) d_Sh_depthOf_24 ?_
        refine lv_topi (fun v24 e24 => ?_)
        have t24 : v24.toInt = if v21.toInt < sv.toInt then v21.toInt else sv.toInt := ia_min e24
        have hmin : v24.toInt.toNat = if tb_gap w fc (ii.toInt.toNat - 1) < sv.toInt.toNat then tb_gap w fc (ii.toInt.toNat - 1) else sv.toInt.toNat := by split at t24 <;> split <;> omega
        have hst := dl_step (c := tb_gap w fc) (M := 8 * w) (q := pl.toInt.toNat) (a := ii.toInt.toNat - 1) (s2 := v24.toInt.toNat) (by omega) (by rw [show ii.toInt.toNat - 1 + 1 = ii.toInt.toNat by omega]; exact h3) hglt hmin
        have hv24 : 0 ≤ v24.toInt ∧ v24.toInt ≤ 8 * (w : Int) := by split at t24 <;> omega
        have hv63 : v24.toInt < 8 * (w : Int) := by split at t24 <;> omega
        refine lv_istore (lv' := [(4, .int v24), (5, .int ii), (2, .long mk), (0, .ref tb), (1, .int pl)]) hx hb d_Sh_depthOf_27 hl (by decide) rfl (fun ls hl => ?_)
        refine lv_lload_n hx hb d_Sh_depthOf_29 rfl (lv_at hl 2 rfl) ?_
        refine lv_lconst (v := 1) hx hb d_Sh_depthOf_30 (by decide) ?_
        refine lv_topl (fun v30 e30 => ?_)
        refine lv_iload hx hb d_Sh_depthOf_31 (lv_at hl 0 rfl) ?_
        refine lv_lshl hx hb d_Sh_depthOf_33 rfl ?_
        refine lv_topl (fun v33 e33 => ?_)
        have hbit : uN v33 = 2 ^ v24.toInt.toNat := by rw [e33]; exact uN_bit1 e30 (by omega) (by omega)
        refine lv_lor hx hb d_Sh_depthOf_34 ?_
        refine lv_topl (fun v34 e34 => ?_)
        refine lv_lstore_n (lv' := [(2, .long v34), (4, .int v24), (5, .int ii), (0, .ref tb), (1, .int pl)]) hx hb d_Sh_depthOf_35 rfl hl (by decide) rfl (fun ls hl => ?_)
        obtain ⟨v36, e36⟩ : ∃ z, z = ii + Int32.ofInt (-1) := ⟨_, rfl⟩
        have t36 := ia_inc (-1) e36 (by decide) ⟨by omega, by omega⟩
        refine lv_iinc (k := 2) (lv' := [(5, .int v36), (2, .long v34), (4, .int v24), (0, .ref tb), (1, .int pl)]) hx hb d_Sh_depthOf_36 hl rfl e36.symm (by decide) rfl (fun ls hl => ?_)
        refine lv_goto hx hb d_Sh_depthOf_39 (tgt := 11) (by decide) ?_
        exact ih11 v36 v24 v34 ls (lv_sub hl [0, 2, 1, 3, 4] rfl) (by omega) (by omega) (by rw [show v36.toInt.toNat = ii.toInt.toNat - 1 by omega]; exact hst.1) (fun v => by rw [bt_or e34 hbit, h4 v, show v36.toInt.toNat = ii.toInt.toNat - 1 by omega]; rw [show ii.toInt.toNat = (ii.toInt.toNat - 1) + 1 by omega] at hst ⊢; exact (hst.2 v).symm) (by omega)
  exact lp11 _ pl v3 v0  ls hl (by omega) (by omega) (by rw [show v3.toInt.toNat = 8 * w by omega]; exact dm_0 _ _ _) (fun v => by rw [e0]; exact ⟨fun h9 => absurd h9 (by rw [uN_0, Nat.zero_testBit]; decide), fun ⟨j, a1, a2, _⟩ => by omega⟩) (Nat.lt_succ_self _)
