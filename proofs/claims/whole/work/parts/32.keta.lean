set_option maxRecDepth 100000 in
set_option maxHeartbeats 4000000 in
theorem c_Ar_fillJ (l : Launch) (D : va_G) (cL cI : ClassId) (a0 na : Nat) (fa : Nat → Int64) (x0 : Int64) (sz : Nat) (hna : na < 16777216) : Met l y_Ar_fillJ (Cond.code y_Ar_fillJ prog_19_method_101_code 5 none :: TW) ({ frames := 1, cells := 0, slots := 0, locals := 40 } : Room) (PM D cL cI [.ref a0, .long x0] [(a0, .inl (cL, na, .inr (.inl fa)))] sz) (va_Qv (fun (u : (Nat → Int64)) => ∀ j, j < na → u j = x0) (fun (u : (Nat → Int64)) (t : State) => va_P D classes [(a0, .inl (cL, na, .inr (.inl u)))] t.heap ∧ va_K D classes (tyz cL cI) t ∧ va_D (va_A [(a0, .inl (cL, na, .inr (.inl fa)))] sz) [(a0, .inl (cL, na, .inr (.inl u)))]) (va_A [(a0, .inl (cL, na, .inr (.inl fa)))] sz)) 0 0 (va_A [(a0, .inl (cL, na, .inr (.inl fa)))] sz) := by
  refine xr_met (by decide) ?_
  intro p e s m args below meth c hx hb hr hts hown hlocks hname hml hv
  obtain ⟨rfl, hsz, hP, hK, hD0⟩ := hv
  subst hsz
  have hD := hD0.self (sz := s.heap.size)
  generalize hAe : va_A [(a0, .inl (cL, na, .inr (.inl fa)))] s.heap.size = A at hD ⊢
  have hA : ∀ q : Nat, s.heap.size ≤ q → A q := fun q h => by rw [← hAe]; exact Or.inr h
  have hS : va_S A s.heap s.heap [] := va_S.rf
  have hD : va_D A [(a0, .inl (cL, na, .inr (.inl fa)))] := hD
  have hown : s.vm.findClass "java/util/Arrays" = some m.cls := hown
  have hP : va_P D classes [(a0, .inl (cL, na, .inr (.inl fa)))] s.heap := hP
  have hl := lv_entry ([.ref a0, .long x0]) (n := 5) (Nat.le_of_ble_eq_true rfl)
  rw [lg_entry_eq]
  generalize (lg_sl ([.ref a0, .long x0]) ++ List.replicate (5 - (lg_sl ([.ref a0, .long x0])).length) Slot.unset).toArray = ls at hl ⊢
  have hl : lv_has ls 5 [(0, .ref a0), (1, .long x0)] := hl
  obtain ⟨Q, hQ⟩ : ∃ Q, Q = MQ below (va_Qv (fun (u : (Nat → Int64)) => ∀ j, j < na → u j = x0) (fun (u : (Nat → Int64)) (t : State) => va_P D classes [(a0, .inl (cL, na, .inr (.inl u)))] t.heap ∧ va_K D classes (tyz cL cI) t ∧ va_D (A) [(a0, .inl (cL, na, .inr (.inl u)))]) (A)) ([.ref a0, .long x0] : List Value).toArray s 0 0 A := ⟨_, rfl⟩
  rw [← hQ]
  refine lv_iconst (v := 0) hx hb d_Ar_fillJ_0 (by decide) ?_
  refine lv_topi (fun v0 e0 => ?_)
  have t0 : v0.toInt = 0 := by rw [e0]; rfl
  refine lv_istore_n (lv' := [(3, .int v0), (0, .ref a0), (1, .long x0)]) hx hb d_Ar_fillJ_1 rfl hl (by decide) rfl (fun ls hl => ?_)
  refine lv_aload_n hx hb d_Ar_fillJ_2 rfl (lv_at hl 1 rfl) ?_
  refine va_alen hx hb hK hP 0 0 rfl rfl rfl d_Ar_fillJ_3 ?_
  refine lv_topi (fun v3 e3 => ?_)
  have t3 : v3.toInt = (na : Nat) := by rw [e3]; exact ia_of _ (by omega)
  refine lv_istore (lv' := [(4, .int v3), (3, .int v0), (0, .ref a0), (1, .long x0)]) hx hb d_Ar_fillJ_4 hl (by decide) rfl (fun ls hl => ?_)
  have lp6 : ∀ (fuel6 : Nat) (ii : Int32) (fz : Nat → Int64) (H : Heap) (locs : List Loc) (ls : Array Slot), lv_has ls 5 [(4, .int v3), (3, .int ii), (0, .ref a0), (1, .long x0)] → va_P D classes [(a0, .inl (cL, na, .inr (.inl fz)))] H → va_D A [(a0, .inl (cL, na, .inr (.inl fz)))] → va_S A s.heap H locs → (0 ≤ ii.toInt) → (ii.toInt ≤ (na : Int)) → (∀ j, j < ii.toInt.toNat → fz j = x0) → na - ii.toInt.toNat < fuel6 → W p l e ({ frames := 1, cells := 0, slots := 0, locals := 40 } : Room) s m ([.ref a0, .long x0] : List Value).toArray below meth c H locs 0 0 Q (F0 m 6 ls []) := by
    intro fuel6
    induction fuel6 with
    | zero => intro ii fz H locs ls hl hP hD hS h1 h2 h3 hm6; exact absurd hm6 (Nat.not_lt_zero _)
    | succ fuel6 ih6 =>
      intro ii fz H locs ls hl hP hD hS h1 h2 h3 hm6
      refine lv_iload_n hx hb d_Ar_fillJ_6 rfl (lv_at hl 1 rfl) ?_
      refine lv_iload hx hb d_Ar_fillJ_7 (lv_at hl 0 rfl) ?_
      refine lv_icmp_ge hx hb d_Ar_fillJ_9 (tgt := 22) (by decide) (fun g9 => ?_) (fun g9 => ?_)
      · have g9 := ic_le.mp g9
        have hpost : ∀ j, j < na → fz j = x0 := fun j hj => h3 j (by omega)
        have hP9 := hP.sub (ws' := [(a0, .inl (cL, na, .inr (.inl fz)))]) [0] rfl
        have hD9 := hD.sub (ws' := [(a0, .inl (cL, na, .inr (.inl fz)))]) [0] (by decide) rfl
        rw [hQ]
        exact W.vret hx hb hr (fun t ht hW => ⟨⟨(fz), rfl, hpost, by rw [ht]; exact hP9, va_K.moved hW.alike hK, hD9⟩, hS.F ht⟩) hS.2.2 d_Ar_fillJ_22
      · have g9 := ic_nle.mp g9
        refine lv_aload_n hx hb d_Ar_fillJ_12 rfl (lv_at hl 2 rfl) ?_
        refine lv_iload_n hx hb d_Ar_fillJ_13 rfl (lv_at hl 1 rfl) ?_
        refine lv_lload_n hx hb d_Ar_fillJ_14 rfl (lv_at hl 3 rfl) ?_
        refine va_last hx hb hK hP hD hS 0 0 rfl rfl (ia_in ⟨by omega, by omega⟩) d_Ar_fillJ_15 (fun H locs hP hD hS => ?_)
        obtain ⟨f15, q15⟩ : ∃ z, z = vp_updL fz ii.toInt.toNat x0 := ⟨_, rfl⟩
        have hP : va_P D classes [(a0, .inl (cL, na, .inr (.inl (vp_updL fz ii.toInt.toNat x0))))] H := hP
        have hD : va_D A [(a0, .inl (cL, na, .inr (.inl (vp_updL fz ii.toInt.toNat x0))))] := hD
        rw [← q15] at hP hD
        obtain ⟨v16, e16⟩ : ∃ z, z = ii + Int32.ofInt 1 := ⟨_, rfl⟩
        have t16 := ia_inc 1 e16 (by decide) ⟨by omega, by omega⟩
        refine lv_iinc (k := 1) (lv' := [(3, .int v16), (4, .int v3), (0, .ref a0), (1, .long x0)]) hx hb d_Ar_fillJ_16 hl rfl e16.symm (by decide) rfl (fun ls hl => ?_)
        refine lv_goto hx hb d_Ar_fillJ_19 (tgt := 6) (by decide) ?_
        exact ih6 v16 f15 H locs ls (lv_sub hl [1, 0, 2, 3] rfl) hP hD hS (by omega) (by omega) (fun j hj => by
            rw [q15]
            unfold vp_updL
            by_cases h9 : j = ii.toInt.toNat
            · rw [if_pos h9]
            · rw [if_neg h9]; exact h3 j (by omega)) (by omega)
  exact lp6 _ v0 fa s.heap [] ls hl hP hD hS (by omega) (by omega) (fun j hj => by omega) (Nat.lt_succ_self _)
set_option maxRecDepth 100000 in
set_option maxHeartbeats 4000000 in
theorem c_Ar_fillI (l : Launch) (D : va_G) (cL cI : ClassId) (a0 na : Nat) (fa : Nat → Int32) (x0 : Int32) (sz : Nat) (hna : na < 16777216) : Met l y_Ar_fillI (Cond.code y_Ar_fillI prog_19_method_103_code 4 none :: TW) ({ frames := 1, cells := 0, slots := 0, locals := 40 } : Room) (PM D cL cI [.ref a0, .int x0] [(a0, .inl (cI, na, .inl fa))] sz) (va_Qv (fun (u : (Nat → Int32)) => ∀ j, j < na → u j = x0) (fun (u : (Nat → Int32)) (t : State) => va_P D classes [(a0, .inl (cI, na, .inl u))] t.heap ∧ va_K D classes (tyz cL cI) t ∧ va_D (va_A [(a0, .inl (cI, na, .inl fa))] sz) [(a0, .inl (cI, na, .inl u))]) (va_A [(a0, .inl (cI, na, .inl fa))] sz)) 0 0 (va_A [(a0, .inl (cI, na, .inl fa))] sz) := by
  refine xr_met (by decide) ?_
  intro p e s m args below meth c hx hb hr hts hown hlocks hname hml hv
  obtain ⟨rfl, hsz, hP, hK, hD0⟩ := hv
  subst hsz
  have hD := hD0.self (sz := s.heap.size)
  generalize hAe : va_A [(a0, .inl (cI, na, .inl fa))] s.heap.size = A at hD ⊢
  have hA : ∀ q : Nat, s.heap.size ≤ q → A q := fun q h => by rw [← hAe]; exact Or.inr h
  have hS : va_S A s.heap s.heap [] := va_S.rf
  have hD : va_D A [(a0, .inl (cI, na, .inl fa))] := hD
  have hown : s.vm.findClass "java/util/Arrays" = some m.cls := hown
  have hP : va_P D classes [(a0, .inl (cI, na, .inl fa))] s.heap := hP
  have hl := lv_entry ([.ref a0, .int x0]) (n := 4) (Nat.le_of_ble_eq_true rfl)
  rw [lg_entry_eq]
  generalize (lg_sl ([.ref a0, .int x0]) ++ List.replicate (4 - (lg_sl ([.ref a0, .int x0])).length) Slot.unset).toArray = ls at hl ⊢
  have hl : lv_has ls 4 [(0, .ref a0), (1, .int x0)] := hl
  obtain ⟨Q, hQ⟩ : ∃ Q, Q = MQ below (va_Qv (fun (u : (Nat → Int32)) => ∀ j, j < na → u j = x0) (fun (u : (Nat → Int32)) (t : State) => va_P D classes [(a0, .inl (cI, na, .inl u))] t.heap ∧ va_K D classes (tyz cL cI) t ∧ va_D (A) [(a0, .inl (cI, na, .inl u))]) (A)) ([.ref a0, .int x0] : List Value).toArray s 0 0 A := ⟨_, rfl⟩
  rw [← hQ]
  have hrg_x0 := ia_rng x0
  refine lv_iconst (v := 0) hx hb d_Ar_fillI_0 (by decide) ?_
  refine lv_topi (fun v0 e0 => ?_)
  have t0 : v0.toInt = 0 := by rw [e0]; rfl
  refine lv_istore_n (lv' := [(2, .int v0), (0, .ref a0), (1, .int x0)]) hx hb d_Ar_fillI_1 rfl hl (by decide) rfl (fun ls hl => ?_)
  refine lv_aload_n hx hb d_Ar_fillI_2 rfl (lv_at hl 1 rfl) ?_
  refine va_alen hx hb hK hP 0 1 rfl rfl rfl d_Ar_fillI_3 ?_
  refine lv_topi (fun v3 e3 => ?_)
  have t3 : v3.toInt = (na : Nat) := by rw [e3]; exact ia_of _ (by omega)
  refine lv_istore_n (lv' := [(3, .int v3), (2, .int v0), (0, .ref a0), (1, .int x0)]) hx hb d_Ar_fillI_4 rfl hl (by decide) rfl (fun ls hl => ?_)
  have lp5 : ∀ (fuel5 : Nat) (ii : Int32) (fz : Nat → Int32) (H : Heap) (locs : List Loc) (ls : Array Slot), lv_has ls 4 [(3, .int v3), (2, .int ii), (0, .ref a0), (1, .int x0)] → va_P D classes [(a0, .inl (cI, na, .inl fz))] H → va_D A [(a0, .inl (cI, na, .inl fz))] → va_S A s.heap H locs → (0 ≤ ii.toInt) → (ii.toInt ≤ (na : Int)) → (∀ j, j < ii.toInt.toNat → fz j = x0) → na - ii.toInt.toNat < fuel5 → W p l e ({ frames := 1, cells := 0, slots := 0, locals := 40 } : Room) s m ([.ref a0, .int x0] : List Value).toArray below meth c H locs 0 0 Q (F0 m 5 ls []) := by
    intro fuel5
    induction fuel5 with
    | zero => intro ii fz H locs ls hl hP hD hS h1 h2 h3 hm5; exact absurd hm5 (Nat.not_lt_zero _)
    | succ fuel5 ih5 =>
      intro ii fz H locs ls hl hP hD hS h1 h2 h3 hm5
      refine lv_iload_n hx hb d_Ar_fillI_5 rfl (lv_at hl 1 rfl) ?_
      refine lv_iload_n hx hb d_Ar_fillI_6 rfl (lv_at hl 0 rfl) ?_
      refine lv_icmp_ge hx hb d_Ar_fillI_7 (tgt := 20) (by decide) (fun g7 => ?_) (fun g7 => ?_)
      · have g7 := ic_le.mp g7
        have hpost : ∀ j, j < na → fz j = x0 := fun j hj => h3 j (by omega)
        have hP9 := hP.sub (ws' := [(a0, .inl (cI, na, .inl fz))]) [0] rfl
        have hD9 := hD.sub (ws' := [(a0, .inl (cI, na, .inl fz))]) [0] (by decide) rfl
        rw [hQ]
        exact W.vret hx hb hr (fun t ht hW => ⟨⟨(fz), rfl, hpost, by rw [ht]; exact hP9, va_K.moved hW.alike hK, hD9⟩, hS.F ht⟩) hS.2.2 d_Ar_fillI_20
      · have g7 := ic_nle.mp g7
        refine lv_aload_n hx hb d_Ar_fillI_10 rfl (lv_at hl 2 rfl) ?_
        refine lv_iload_n hx hb d_Ar_fillI_11 rfl (lv_at hl 1 rfl) ?_
        refine lv_iload_n hx hb d_Ar_fillI_12 rfl (lv_at hl 3 rfl) ?_
        refine va_iast hx hb hK hP hD hS 0 1 rfl rfl (ia_in ⟨by omega, by omega⟩) d_Ar_fillI_13 (fun H locs hP hD hS => ?_)
        obtain ⟨f13, q13⟩ : ∃ z, z = upd fz ii.toInt.toNat x0 := ⟨_, rfl⟩
        have hP : va_P D classes [(a0, .inl (cI, na, .inl (upd fz ii.toInt.toNat x0)))] H := hP
        have hD : va_D A [(a0, .inl (cI, na, .inl (upd fz ii.toInt.toNat x0)))] := hD
        rw [← q13] at hP hD
        obtain ⟨v14, e14⟩ : ∃ z, z = ii + Int32.ofInt 1 := ⟨_, rfl⟩
        have t14 := ia_inc 1 e14 (by decide) ⟨by omega, by omega⟩
        refine lv_iinc (k := 1) (lv' := [(2, .int v14), (3, .int v3), (0, .ref a0), (1, .int x0)]) hx hb d_Ar_fillI_14 hl rfl e14.symm (by decide) rfl (fun ls hl => ?_)
        refine lv_goto hx hb d_Ar_fillI_17 (tgt := 5) (by decide) ?_
        exact ih5 v14 f13 H locs ls (lv_sub hl [1, 0, 2, 3] rfl) hP hD hS (by omega) (by omega) (fun j hj => by
            rw [q13]
            unfold upd
            by_cases h9 : j = ii.toInt.toNat
            · rw [if_pos h9]
            · rw [if_neg h9]; exact h3 j (by omega)) (by omega)
  exact lp5 _ v0 fa s.heap [] ls hl hP hD hS (by omega) (by omega) (fun j hj => by omega) (Nat.lt_succ_self _)
set_option maxRecDepth 100000 in
set_option maxHeartbeats 4000000 in
theorem c_Ke_becomeFirst (l : Launch) (D : va_G) (cL cI : ClassId) (k0 kw kn : Nat) (isr : Int32) (kf : Nat → Int64) (sz : Nat) (hkn : kn ≤ 7) : Met l y_Ke_becomeFirst (Cond.code y_Ke_becomeFirst prog_2_method_2_code 1 none :: TW) ({ frames := 2, cells := 0, slots := 0, locals := 64 } : Room) (PM D cL cI [.ref k0] [(k0, .inr (0, [.int isr, .ref kw])), (kw, .inl (cL, kn, .inr (.inl kf)))] sz) (va_Qv (fun (u : (Nat → Int64)) => (isr = 0 → ∀ j, j < kn → u j = -9223372036854775808) ∧ (¬ isr = 0 → ∀ j, j < kn → u j = 0)) (fun (u : (Nat → Int64)) (t : State) => va_P D classes [(k0, .inr (0, [.int isr, .ref kw])), (kw, .inl (cL, kn, .inr (.inl u)))] t.heap ∧ va_K D classes (tyz cL cI) t ∧ va_D (va_A [(k0, .inr (0, [.int isr, .ref kw])), (kw, .inl (cL, kn, .inr (.inl kf)))] sz) [(k0, .inr (0, [.int isr, .ref kw])), (kw, .inl (cL, kn, .inr (.inl u)))]) (va_A [(k0, .inr (0, [.int isr, .ref kw])), (kw, .inl (cL, kn, .inr (.inl kf)))] sz)) 0 0 (va_A [(k0, .inr (0, [.int isr, .ref kw])), (kw, .inl (cL, kn, .inr (.inl kf)))] sz) := by
  refine xr_met (by decide) ?_
  intro p e s m args below meth c hx hb hr hts hown hlocks hname hml hv
  obtain ⟨rfl, hsz, hP, hK, hD0⟩ := hv
  subst hsz
  have hD := hD0.self (sz := s.heap.size)
  generalize hAe : va_A [(k0, .inr (0, [.int isr, .ref kw])), (kw, .inl (cL, kn, .inr (.inl kf)))] s.heap.size = A at hD ⊢
  have hA : ∀ q : Nat, s.heap.size ≤ q → A q := fun q h => by rw [← hAe]; exact Or.inr h
  have hS : va_S A s.heap s.heap [] := va_S.rf
  have hD : va_D A [(k0, .inr (0, [.int isr, .ref kw])), (kw, .inl (cL, kn, .inr (.inl kf)))] := hD
  have hown : s.vm.findClass "BranchStore$Key" = some m.cls := hown
  have hP : va_P D classes [(k0, .inr (0, [.int isr, .ref kw])), (kw, .inl (cL, kn, .inr (.inl kf)))] s.heap := hP
  have hl := lv_entry ([.ref k0]) (n := 1) (Nat.le_of_ble_eq_true rfl)
  rw [lg_entry_eq]
  generalize (lg_sl ([.ref k0]) ++ List.replicate (1 - (lg_sl ([.ref k0])).length) Slot.unset).toArray = ls at hl ⊢
  have hl : lv_has ls 1 [(0, .ref k0)] := hl
  obtain ⟨Q, hQ⟩ : ∃ Q, Q = MQ below (va_Qv (fun (u : (Nat → Int64)) => (isr = 0 → ∀ j, j < kn → u j = -9223372036854775808) ∧ (¬ isr = 0 → ∀ j, j < kn → u j = 0)) (fun (u : (Nat → Int64)) (t : State) => va_P D classes [(k0, .inr (0, [.int isr, .ref kw])), (kw, .inl (cL, kn, .inr (.inl u)))] t.heap ∧ va_K D classes (tyz cL cI) t ∧ va_D (A) [(k0, .inr (0, [.int isr, .ref kw])), (kw, .inl (cL, kn, .inr (.inl u)))]) (A)) ([.ref k0] : List Value).toArray s 0 0 A := ⟨_, rfl⟩
  rw [← hQ]
  refine lv_aload_n hx hb d_Ke_becomeFirst_0 rfl (lv_at hl 0 rfl) ?_
  refine va_get (D := D) (ci := 0) (v := .ref kw) (C := R_Ke) (T := F_Ke) (N := 2) hx hb hts in_Ke hown hK hP 0 rfl rfl 1 (by decide) (hts _ tw_44) (fun _ h9 => h9) rfl d_Ke_becomeFirst_1 ?_
  refine lv_aload_n hx hb d_Ke_becomeFirst_4 rfl (lv_at hl 0 rfl) ?_
  refine va_get (D := D) (ci := 0) (v := .int isr) (C := R_Ke) (T := F_Ke) (N := 2) hx hb hts in_Ke hown hK hP 0 rfl rfl 0 (by decide) (hts _ tw_43) (fun _ h9 => h9) rfl d_Ke_becomeFirst_5 ?_
  refine lv_if_eq hx hb d_Ke_becomeFirst_8 (tgt := 15) (by decide) (fun g8 => ?_) (fun g8 => ?_)
  · have g8 := (iz_eq).mp g8
    refine lv_ldc2 (v := (-9223372036854775808)) hx hb hown (hts _ tw_39) d_Ke_becomeFirst_15 ?_
    refine lv_topl (fun v15 e15 => ?_)
    have hPc := hP.sub (ws' := [(kw, .inl (cL, kn, .inr (.inl kf)))]) [1] rfl
    have hDc := hD.sub (ws' := [(kw, .inl (cL, kn, .inr (.inl kf)))]) [1] (by decide) rfl
    have hFc := va_free (wc := [(kw, .inl (cL, kn, .inr (.inl kf)))]) hD hS hA [1] rfl
    refine va_callv (xr_ms (As := [.ref kw, .long v15]) (rest := []) ⟨hx, hb, hml, hown, hts⟩ (c_Ar_fillJ l D cL cI kw kn kf v15 s.heap.size (by omega)) (xr_cs 2 hts tw_42 tw_40 tw_41 tw_4 rfl rfl (by decide) ⟨by decide, by decide⟩) hK hPc (hDc.weaken (fun _ _ _ _ => trivial)) rfl hl.1 rfl (Nat.le_of_ble_eq_true rfl) d_Ke_becomeFirst_18 ⟨Nat.le_of_ble_eq_true rfl, Nat.le_of_ble_eq_true rfl⟩) hS (fun q _ h => hFc q h) hFc (fun u18 tt18 H1 locs ht18 hvm18 e18 hB18 hz18 hk18 hS => ?_)
    obtain ⟨fb_18, rfl⟩ : ∃ z, z = u18 := ⟨_, rfl⟩
    have e18 : ∀ j, j < kn → fb_18 j = v15 := e18
    obtain ⟨hP1, hK1, hD1⟩ := hB18
    rw [ht18] at hP1
    obtain ⟨hP, hD⟩ := va_join (wr := [(k0, .inr (0, [.int isr, .ref kw]))]) (w1 := [(kw, .inl (cL, kn, .inr (.inl fb_18)))]) hP hD [1] [0] rfl rfl (by decide) (by decide) hk18 hFc hP1 hD1
    clear hP1 hD1 hPc hDc hFc
    generalize H1 = H at hP hS ⊢
    have hP : va_P D classes [(k0, .inr (0, [.int isr, .ref kw])), (kw, .inl (cL, kn, .inr (.inl fb_18)))] H := hP
    have hD : va_D A [(k0, .inr (0, [.int isr, .ref kw])), (kw, .inl (cL, kn, .inr (.inl fb_18)))] := hD
    have hpost : (isr = 0 → ∀ j, j < kn → fb_18 j = -9223372036854775808) ∧ (¬ isr = 0 → ∀ j, j < kn → fb_18 j = 0) := by
      first
      | exact ⟨fun _ j hj => (e18 j hj).trans e15, fun h5 => absurd (iz_eq.mpr g8) h5⟩
      | exact ⟨fun h5 => absurd h5 (iz_ne.mpr g8), fun _ j hj => (e18 j hj).trans e11⟩
    have hP9 := hP.sub (ws' := [(k0, .inr (0, [.int isr, .ref kw])), (kw, .inl (cL, kn, .inr (.inl fb_18)))]) [0, 1] rfl
    have hD9 := hD.sub (ws' := [(k0, .inr (0, [.int isr, .ref kw])), (kw, .inl (cL, kn, .inr (.inl fb_18)))]) [0, 1] (by decide) rfl
    rw [hQ]
    exact W.vret hx hb hr (fun t ht hW => ⟨⟨(fb_18), rfl, hpost, by rw [ht]; exact hP9, va_K.moved hW.alike hK, hD9⟩, hS.F ht⟩) hS.2.2 d_Ke_becomeFirst_21
  · have g8 := (iz_ne).mp g8
    refine lv_lconst (v := 0) hx hb d_Ke_becomeFirst_11 (by decide) ?_
    refine lv_topl (fun v11 e11 => ?_)
    refine lv_goto hx hb d_Ke_becomeFirst_12 (tgt := 18) (by decide) ?_
    have hPc := hP.sub (ws' := [(kw, .inl (cL, kn, .inr (.inl kf)))]) [1] rfl
    have hDc := hD.sub (ws' := [(kw, .inl (cL, kn, .inr (.inl kf)))]) [1] (by decide) rfl
    have hFc := va_free (wc := [(kw, .inl (cL, kn, .inr (.inl kf)))]) hD hS hA [1] rfl
    refine va_callv (xr_ms (As := [.ref kw, .long v11]) (rest := []) ⟨hx, hb, hml, hown, hts⟩ (c_Ar_fillJ l D cL cI kw kn kf v11 s.heap.size (by omega)) (xr_cs 2 hts tw_42 tw_40 tw_41 tw_4 rfl rfl (by decide) ⟨by decide, by decide⟩) hK hPc (hDc.weaken (fun _ _ _ _ => trivial)) rfl hl.1 rfl (Nat.le_of_ble_eq_true rfl) d_Ke_becomeFirst_18 ⟨Nat.le_of_ble_eq_true rfl, Nat.le_of_ble_eq_true rfl⟩) hS (fun q _ h => hFc q h) hFc (fun u18 tt18 H1 locs ht18 hvm18 e18 hB18 hz18 hk18 hS => ?_)
    obtain ⟨fb_18, rfl⟩ : ∃ z, z = u18 := ⟨_, rfl⟩
    have e18 : ∀ j, j < kn → fb_18 j = v11 := e18
    obtain ⟨hP1, hK1, hD1⟩ := hB18
    rw [ht18] at hP1
    obtain ⟨hP, hD⟩ := va_join (wr := [(k0, .inr (0, [.int isr, .ref kw]))]) (w1 := [(kw, .inl (cL, kn, .inr (.inl fb_18)))]) hP hD [1] [0] rfl rfl (by decide) (by decide) hk18 hFc hP1 hD1
    clear hP1 hD1 hPc hDc hFc
    generalize H1 = H at hP hS ⊢
    have hP : va_P D classes [(k0, .inr (0, [.int isr, .ref kw])), (kw, .inl (cL, kn, .inr (.inl fb_18)))] H := hP
    have hD : va_D A [(k0, .inr (0, [.int isr, .ref kw])), (kw, .inl (cL, kn, .inr (.inl fb_18)))] := hD
    have hpost : (isr = 0 → ∀ j, j < kn → fb_18 j = -9223372036854775808) ∧ (¬ isr = 0 → ∀ j, j < kn → fb_18 j = 0) := by
      first
      | exact ⟨fun _ j hj => (e18 j hj).trans e15, fun h5 => absurd (iz_eq.mpr g8) h5⟩
      | exact ⟨fun h5 => absurd h5 (iz_ne.mpr g8), fun _ j hj => (e18 j hj).trans e11⟩
    have hP9 := hP.sub (ws' := [(k0, .inr (0, [.int isr, .ref kw])), (kw, .inl (cL, kn, .inr (.inl fb_18)))]) [0, 1] rfl
    have hD9 := hD.sub (ws' := [(k0, .inr (0, [.int isr, .ref kw])), (kw, .inl (cL, kn, .inr (.inl fb_18)))]) [0, 1] (by decide) rfl
    rw [hQ]
    exact W.vret hx hb hr (fun t ht hW => ⟨⟨(fb_18), rfl, hpost, by rw [ht]; exact hP9, va_K.moved hW.alike hK, hD9⟩, hS.F ht⟩) hS.2.2 d_Ke_becomeFirst_21
set_option maxRecDepth 100000 in
set_option maxHeartbeats 4000000 in
theorem c_Ke_become (l : Launch) (D : va_G) (cL cI : ClassId) (k0 kw kn : Nat) (isr : Int32) (kf : Nat → Int64) (m0 mw mn : Nat) (msr : Int32) (mf : Nat → Int64) (sz : Nat) (hkn : kn ≤ 7) (hmn : mn = kn) : Met l y_Ke_become (Cond.code y_Ke_become prog_2_method_3_code 2 none :: TW) ({ frames := 1, cells := 0, slots := 0, locals := 40 } : Room) (PM D cL cI [.ref k0, .ref m0] [(k0, .inr (0, [.int isr, .ref kw])), (kw, .inl (cL, kn, .inr (.inl kf))), (m0, .inr (0, [.int msr, .ref mw])), (mw, .inl (cL, mn, .inr (.inl mf)))] sz) (va_Qv (fun (u : (Nat → Int64)) => ∀ j, j < kn → u j = mf j) (fun (u : (Nat → Int64)) (t : State) => va_P D classes [(k0, .inr (0, [.int isr, .ref kw])), (kw, .inl (cL, kn, .inr (.inl u))), (m0, .inr (0, [.int msr, .ref mw])), (mw, .inl (cL, mn, .inr (.inl mf)))] t.heap ∧ va_K D classes (tyz cL cI) t ∧ va_D (va_A [(k0, .inr (0, [.int isr, .ref kw])), (kw, .inl (cL, kn, .inr (.inl kf))), (m0, .inr (0, [.int msr, .ref mw])), (mw, .inl (cL, mn, .inr (.inl mf)))] sz) [(k0, .inr (0, [.int isr, .ref kw])), (kw, .inl (cL, kn, .inr (.inl u))), (m0, .inr (0, [.int msr, .ref mw])), (mw, .inl (cL, mn, .inr (.inl mf)))]) (va_A [(k0, .inr (0, [.int isr, .ref kw])), (kw, .inl (cL, kn, .inr (.inl kf))), (m0, .inr (0, [.int msr, .ref mw])), (mw, .inl (cL, mn, .inr (.inl mf)))] sz)) 0 0 (va_A [(k0, .inr (0, [.int isr, .ref kw])), (kw, .inl (cL, kn, .inr (.inl kf))), (m0, .inr (0, [.int msr, .ref mw])), (mw, .inl (cL, mn, .inr (.inl mf)))] sz) := by
  refine xr_met (by decide) ?_
  intro p e s m args below meth c hx hb hr hts hown hlocks hname hml hv
  obtain ⟨rfl, hsz, hP, hK, hD0⟩ := hv
  subst hsz
  have hD := hD0.self (sz := s.heap.size)
  generalize hAe : va_A [(k0, .inr (0, [.int isr, .ref kw])), (kw, .inl (cL, kn, .inr (.inl kf))), (m0, .inr (0, [.int msr, .ref mw])), (mw, .inl (cL, mn, .inr (.inl mf)))] s.heap.size = A at hD ⊢
  have hA : ∀ q : Nat, s.heap.size ≤ q → A q := fun q h => by rw [← hAe]; exact Or.inr h
  have hS : va_S A s.heap s.heap [] := va_S.rf
  have hD : va_D A [(k0, .inr (0, [.int isr, .ref kw])), (kw, .inl (cL, kn, .inr (.inl kf))), (m0, .inr (0, [.int msr, .ref mw])), (mw, .inl (cL, mn, .inr (.inl mf)))] := hD
  have hown : s.vm.findClass "BranchStore$Key" = some m.cls := hown
  have hP : va_P D classes [(k0, .inr (0, [.int isr, .ref kw])), (kw, .inl (cL, kn, .inr (.inl kf))), (m0, .inr (0, [.int msr, .ref mw])), (mw, .inl (cL, mn, .inr (.inl mf)))] s.heap := hP
  have hl := lv_entry ([.ref k0, .ref m0]) (n := 2) (Nat.le_of_ble_eq_true rfl)
  rw [lg_entry_eq]
  generalize (lg_sl ([.ref k0, .ref m0]) ++ List.replicate (2 - (lg_sl ([.ref k0, .ref m0])).length) Slot.unset).toArray = ls at hl ⊢
  have hl : lv_has ls 2 [(0, .ref k0), (1, .ref m0)] := hl
  obtain ⟨Q, hQ⟩ : ∃ Q, Q = MQ below (va_Qv (fun (u : (Nat → Int64)) => ∀ j, j < kn → u j = mf j) (fun (u : (Nat → Int64)) (t : State) => va_P D classes [(k0, .inr (0, [.int isr, .ref kw])), (kw, .inl (cL, kn, .inr (.inl u))), (m0, .inr (0, [.int msr, .ref mw])), (mw, .inl (cL, mn, .inr (.inl mf)))] t.heap ∧ va_K D classes (tyz cL cI) t ∧ va_D (A) [(k0, .inr (0, [.int isr, .ref kw])), (kw, .inl (cL, kn, .inr (.inl u))), (m0, .inr (0, [.int msr, .ref mw])), (mw, .inl (cL, mn, .inr (.inl mf)))]) (A)) ([.ref k0, .ref m0] : List Value).toArray s 0 0 A := ⟨_, rfl⟩
  rw [← hQ]
  refine lv_aload_n hx hb d_Ke_become_0 rfl (lv_at hl 1 rfl) ?_
  refine va_get (D := D) (ci := 0) (v := .ref mw) (C := R_Ke) (T := F_Ke) (N := 2) hx hb hts in_Ke hown hK hP 2 rfl rfl 1 (by decide) (hts _ tw_44) (fun _ h9 => h9) rfl d_Ke_become_1 ?_
  refine lv_iconst (v := 0) hx hb d_Ke_become_4 (by decide) ?_
  refine lv_topi (fun v4 e4 => ?_)
  have t4 : v4.toInt = 0 := by rw [e4]; rfl
  refine lv_aload_n hx hb d_Ke_become_5 rfl (lv_at hl 0 rfl) ?_
  refine va_get (D := D) (ci := 0) (v := .ref kw) (C := R_Ke) (T := F_Ke) (N := 2) hx hb hts in_Ke hown hK hP 0 rfl rfl 1 (by decide) (hts _ tw_44) (fun _ h9 => h9) rfl d_Ke_become_6 ?_
  refine lv_iconst (v := 0) hx hb d_Ke_become_9 (by decide) ?_
  refine lv_topi (fun v9 e9 => ?_)
  have t9 : v9.toInt = 0 := by rw [e9]; rfl
  refine lv_aload_n hx hb d_Ke_become_10 rfl (lv_at hl 0 rfl) ?_
  refine va_get (D := D) (ci := 0) (v := .ref kw) (C := R_Ke) (T := F_Ke) (N := 2) hx hb hts in_Ke hown hK hP 0 rfl rfl 1 (by decide) (hts _ tw_44) (fun _ h9 => h9) rfl d_Ke_become_11 ?_
  refine va_alen hx hb hK hP 1 0 rfl rfl rfl d_Ke_become_14 ?_
  refine lv_topi (fun v14 e14 => ?_)
  have t14 : v14.toInt = (kn : Nat) := by rw [e14]; exact ia_of _ (by omega)
  refine va_copyl hx hb (hml.trans hl.1.symm) hown (hts _ tw_155) (hts _ tw_157) (hts _ tw_156) (hts _ tw_14) hK hP hD hS 3 1 0 0 rfl rfl rfl rfl rfl (iz_nlt.mpr (by omega)) (iz_nlt.mpr (by omega)) (iz_nlt.mpr (by omega)) (show v4.toInt.toNat + v14.toInt.toNat ≤ mn from by omega) (show v9.toInt.toNat + v14.toInt.toNat ≤ kn from by omega) (fun _ _ => rfl) (by decide) (Nat.le_of_ble_eq_true rfl) d_Ke_become_15 (fun H locs hP hD hS => ?_)
  obtain ⟨f15, q15⟩ : ∃ z, z = va_cpy mf kf v4.toInt.toNat v9.toInt.toNat v14.toInt.toNat := ⟨_, rfl⟩
  have hP : va_P D classes [(k0, .inr (0, [.int isr, .ref kw])), (kw, .inl (cL, kn, .inr (.inl (va_cpy mf kf v4.toInt.toNat v9.toInt.toNat v14.toInt.toNat)))), (m0, .inr (0, [.int msr, .ref mw])), (mw, .inl (cL, mn, .inr (.inl mf)))] H := hP
  have hD : va_D A [(k0, .inr (0, [.int isr, .ref kw])), (kw, .inl (cL, kn, .inr (.inl (va_cpy mf kf v4.toInt.toNat v9.toInt.toNat v14.toInt.toNat)))), (m0, .inr (0, [.int msr, .ref mw])), (mw, .inl (cL, mn, .inr (.inl mf)))] := hD
  rw [← q15] at hP hD
  have hpost : ∀ j, j < kn → f15 j = mf j := fun j hj => by rw [q15, pk_cpy_in (by omega) (by omega)]; congr 1; omega
  have hP9 := hP.sub (ws' := [(k0, .inr (0, [.int isr, .ref kw])), (kw, .inl (cL, kn, .inr (.inl f15))), (m0, .inr (0, [.int msr, .ref mw])), (mw, .inl (cL, mn, .inr (.inl mf)))]) [0, 1, 2, 3] rfl
  have hD9 := hD.sub (ws' := [(k0, .inr (0, [.int isr, .ref kw])), (kw, .inl (cL, kn, .inr (.inl f15))), (m0, .inr (0, [.int msr, .ref mw])), (mw, .inl (cL, mn, .inr (.inl mf)))]) [0, 1, 2, 3] (by decide) rfl
  rw [hQ]
  exact W.vret hx hb hr (fun t ht hW => ⟨⟨(f15), rfl, hpost, by rw [ht]; exact hP9, va_K.moved hW.alike hK, hD9⟩, hS.F ht⟩) hS.2.2 d_Ke_become_18
set_option maxRecDepth 100000 in
set_option maxHeartbeats 4000000 in
theorem c_Ke_setNumber (l : Launch) (D : va_G) (cL cI : ClassId) (k0 kw kn : Nat) (isr : Int32) (kf : Nat → Int64) (i0 : Int32) (x0 : Int64) (sz : Nat) (hi : 0 ≤ i0.toInt) (hi2 : i0.toInt < (kn : Int)) : Met l y_Ke_setNumber (Cond.code y_Ke_setNumber prog_2_method_4_code 4 none :: TW) ({ frames := 1, cells := 0, slots := 0, locals := 40 } : Room) (PM D cL cI [.ref k0, .int i0, .long x0] [(k0, .inr (0, [.int isr, .ref kw])), (kw, .inl (cL, kn, .inr (.inl kf)))] sz) (va_Qv (fun (u : (Nat → Int64)) => ∀ j, u j = if j = i0.toInt.toNat then x0 ^^^ (-9223372036854775808) else kf j) (fun (u : (Nat → Int64)) (t : State) => va_P D classes [(k0, .inr (0, [.int isr, .ref kw])), (kw, .inl (cL, kn, .inr (.inl u)))] t.heap ∧ va_K D classes (tyz cL cI) t ∧ va_D (va_A [(k0, .inr (0, [.int isr, .ref kw])), (kw, .inl (cL, kn, .inr (.inl kf)))] sz) [(k0, .inr (0, [.int isr, .ref kw])), (kw, .inl (cL, kn, .inr (.inl u)))]) (va_A [(k0, .inr (0, [.int isr, .ref kw])), (kw, .inl (cL, kn, .inr (.inl kf)))] sz)) 0 0 (va_A [(k0, .inr (0, [.int isr, .ref kw])), (kw, .inl (cL, kn, .inr (.inl kf)))] sz) := by
  refine xr_met (by decide) ?_
  intro p e s m args below meth c hx hb hr hts hown hlocks hname hml hv
  obtain ⟨rfl, hsz, hP, hK, hD0⟩ := hv
  subst hsz
  have hD := hD0.self (sz := s.heap.size)
  generalize hAe : va_A [(k0, .inr (0, [.int isr, .ref kw])), (kw, .inl (cL, kn, .inr (.inl kf)))] s.heap.size = A at hD ⊢
  have hA : ∀ q : Nat, s.heap.size ≤ q → A q := fun q h => by rw [← hAe]; exact Or.inr h
  have hS : va_S A s.heap s.heap [] := va_S.rf
  have hD : va_D A [(k0, .inr (0, [.int isr, .ref kw])), (kw, .inl (cL, kn, .inr (.inl kf)))] := hD
  have hown : s.vm.findClass "BranchStore$Key" = some m.cls := hown
  have hP : va_P D classes [(k0, .inr (0, [.int isr, .ref kw])), (kw, .inl (cL, kn, .inr (.inl kf)))] s.heap := hP
  have hl := lv_entry ([.ref k0, .int i0, .long x0]) (n := 4) (Nat.le_of_ble_eq_true rfl)
  rw [lg_entry_eq]
  generalize (lg_sl ([.ref k0, .int i0, .long x0]) ++ List.replicate (4 - (lg_sl ([.ref k0, .int i0, .long x0])).length) Slot.unset).toArray = ls at hl ⊢
  have hl : lv_has ls 4 [(0, .ref k0), (1, .int i0), (2, .long x0)] := hl
  obtain ⟨Q, hQ⟩ : ∃ Q, Q = MQ below (va_Qv (fun (u : (Nat → Int64)) => ∀ j, u j = if j = i0.toInt.toNat then x0 ^^^ (-9223372036854775808) else kf j) (fun (u : (Nat → Int64)) (t : State) => va_P D classes [(k0, .inr (0, [.int isr, .ref kw])), (kw, .inl (cL, kn, .inr (.inl u)))] t.heap ∧ va_K D classes (tyz cL cI) t ∧ va_D (A) [(k0, .inr (0, [.int isr, .ref kw])), (kw, .inl (cL, kn, .inr (.inl u)))]) (A)) ([.ref k0, .int i0, .long x0] : List Value).toArray s 0 0 A := ⟨_, rfl⟩
  rw [← hQ]
  have hrg_i0 := ia_rng i0
  refine lv_aload_n hx hb d_Ke_setNumber_0 rfl (lv_at hl 0 rfl) ?_
  refine va_get (D := D) (ci := 0) (v := .ref kw) (C := R_Ke) (T := F_Ke) (N := 2) hx hb hts in_Ke hown hK hP 0 rfl rfl 1 (by decide) (hts _ tw_44) (fun _ h9 => h9) rfl d_Ke_setNumber_1 ?_
  refine lv_iload_n hx hb d_Ke_setNumber_4 rfl (lv_at hl 1 rfl) ?_
  refine lv_lload_n hx hb d_Ke_setNumber_5 rfl (lv_at hl 2 rfl) ?_
  refine lv_ldc2 (v := (-9223372036854775808)) hx hb hown (hts _ tw_39) d_Ke_setNumber_6 ?_
  refine lv_topl (fun v6 e6 => ?_)
  refine lv_lxor hx hb d_Ke_setNumber_9 ?_
  refine lv_topl (fun v9 e9 => ?_)
  refine va_last hx hb hK hP hD hS 1 0 rfl rfl (ia_in ⟨by omega, by omega⟩) d_Ke_setNumber_10 (fun H locs hP hD hS => ?_)
  obtain ⟨f10, q10⟩ : ∃ z, z = vp_updL kf i0.toInt.toNat v9 := ⟨_, rfl⟩
  have hP : va_P D classes [(k0, .inr (0, [.int isr, .ref kw])), (kw, .inl (cL, kn, .inr (.inl (vp_updL kf i0.toInt.toNat v9))))] H := hP
  have hD : va_D A [(k0, .inr (0, [.int isr, .ref kw])), (kw, .inl (cL, kn, .inr (.inl (vp_updL kf i0.toInt.toNat v9))))] := hD
  rw [← q10] at hP hD
  have hpost : ∀ j, f10 j = if j = i0.toInt.toNat then x0 ^^^ (-9223372036854775808) else kf j := fun j => by rw [q10, e9, e6]; rfl
  have hP9 := hP.sub (ws' := [(k0, .inr (0, [.int isr, .ref kw])), (kw, .inl (cL, kn, .inr (.inl f10)))]) [0, 1] rfl
  have hD9 := hD.sub (ws' := [(k0, .inr (0, [.int isr, .ref kw])), (kw, .inl (cL, kn, .inr (.inl f10)))]) [0, 1] (by decide) rfl
  rw [hQ]
  exact W.vret hx hb hr (fun t ht hW => ⟨⟨(f10), rfl, hpost, by rw [ht]; exact hP9, va_K.moved hW.alike hK, hD9⟩, hS.F ht⟩) hS.2.2 d_Ke_setNumber_11
set_option maxRecDepth 100000 in
set_option maxHeartbeats 4000000 in
theorem c_Ke_fillByte (l : Launch) (D : va_G) (cL cI : ClassId) (k0 kw kn : Nat) (isr : Int32) (kf : Nat → Int64) (i0 b0 : Int32) (sz : Nat) (hkn : kn ≤ 7) (hi : 0 ≤ i0.toInt) (hi2 : i0.toInt < 8 * (kn : Int)) (hb0 : 0 ≤ b0.toInt ∧ b0.toInt < 256) (hz : by_w kf i0.toInt.toNat = 0) : Met l y_Ke_fillByte (Cond.code y_Ke_fillByte prog_2_method_11_code 3 none :: TW) ({ frames := 2, cells := 0, slots := 0, locals := 60 } : Room) (PM D cL cI [.ref k0, .int i0, .int b0] [(k0, .inr (0, [.int isr, .ref kw])), (kw, .inl (cL, kn, .inr (.inl kf)))] sz) (va_Qv (fun (u : (Nat → Int64)) => ∀ d, d < 8 * kn → by_w u d = if d = i0.toInt.toNat then b0.toInt.toNat else by_w kf d) (fun (u : (Nat → Int64)) (t : State) => va_P D classes [(k0, .inr (0, [.int isr, .ref kw])), (kw, .inl (cL, kn, .inr (.inl u)))] t.heap ∧ va_K D classes (tyz cL cI) t ∧ va_D (va_A [(k0, .inr (0, [.int isr, .ref kw])), (kw, .inl (cL, kn, .inr (.inl kf)))] sz) [(k0, .inr (0, [.int isr, .ref kw])), (kw, .inl (cL, kn, .inr (.inl u)))]) (va_A [(k0, .inr (0, [.int isr, .ref kw])), (kw, .inl (cL, kn, .inr (.inl kf)))] sz)) 0 0 (va_A [(k0, .inr (0, [.int isr, .ref kw])), (kw, .inl (cL, kn, .inr (.inl kf)))] sz) := by
  refine xr_met (by decide) ?_
  intro p e s m args below meth c hx hb hr hts hown hlocks hname hml hv
  obtain ⟨rfl, hsz, hP, hK, hD0⟩ := hv
  subst hsz
  have hD := hD0.self (sz := s.heap.size)
  generalize hAe : va_A [(k0, .inr (0, [.int isr, .ref kw])), (kw, .inl (cL, kn, .inr (.inl kf)))] s.heap.size = A at hD ⊢
  have hA : ∀ q : Nat, s.heap.size ≤ q → A q := fun q h => by rw [← hAe]; exact Or.inr h
  have hS : va_S A s.heap s.heap [] := va_S.rf
  have hD : va_D A [(k0, .inr (0, [.int isr, .ref kw])), (kw, .inl (cL, kn, .inr (.inl kf)))] := hD
  have hown : s.vm.findClass "BranchStore$Key" = some m.cls := hown
  have hP : va_P D classes [(k0, .inr (0, [.int isr, .ref kw])), (kw, .inl (cL, kn, .inr (.inl kf)))] s.heap := hP
  have hl := lv_entry ([.ref k0, .int i0, .int b0]) (n := 3) (Nat.le_of_ble_eq_true rfl)
  rw [lg_entry_eq]
  generalize (lg_sl ([.ref k0, .int i0, .int b0]) ++ List.replicate (3 - (lg_sl ([.ref k0, .int i0, .int b0])).length) Slot.unset).toArray = ls at hl ⊢
  have hl : lv_has ls 3 [(0, .ref k0), (1, .int i0), (2, .int b0)] := hl
  obtain ⟨Q, hQ⟩ : ∃ Q, Q = MQ below (va_Qv (fun (u : (Nat → Int64)) => ∀ d, d < 8 * kn → by_w u d = if d = i0.toInt.toNat then b0.toInt.toNat else by_w kf d) (fun (u : (Nat → Int64)) (t : State) => va_P D classes [(k0, .inr (0, [.int isr, .ref kw])), (kw, .inl (cL, kn, .inr (.inl u)))] t.heap ∧ va_K D classes (tyz cL cI) t ∧ va_D (A) [(k0, .inr (0, [.int isr, .ref kw])), (kw, .inl (cL, kn, .inr (.inl u)))]) (A)) ([.ref k0, .int i0, .int b0] : List Value).toArray s 0 0 A := ⟨_, rfl⟩
  rw [← hQ]
  have hrg_i0 := ia_rng i0
  have hrg_b0 := ia_rng b0
  refine lv_aload_n hx hb d_Ke_fillByte_0 rfl (lv_at hl 0 rfl) ?_
  refine va_get (D := D) (ci := 0) (v := .ref kw) (C := R_Ke) (T := F_Ke) (N := 2) hx hb hts in_Ke hown hK hP 0 rfl rfl 1 (by decide) (hts _ tw_44) (fun _ h9 => h9) rfl d_Ke_fillByte_1 ?_
  refine lv_iload_n hx hb d_Ke_fillByte_4 rfl (lv_at hl 1 rfl) ?_
  refine lv_bipush (v := 8) hx hb d_Ke_fillByte_5 (by decide) ?_
  refine lv_topi (fun v5 e5 => ?_)
  have t5 : v5.toInt = 8 := by rw [e5]; rfl
  refine lv_idiv hx hb d_Ke_fillByte_7 (ia_ne0 (by omega)) ?_
  refine lv_topi (fun v7 e7 => ?_)
  have t7 := ia_div 8 e7 (by omega) (by omega) (by omega)
  refine lv_dup2_11 hx hb d_Ke_fillByte_8 rfl rfl ?_
  refine va_lald hx hb hK hP 1 0 rfl rfl (ia_in ⟨by omega, by omega⟩) d_Ke_fillByte_9 ?_
  refine lv_topl (fun v9 e9 => ?_)
  have e9 : v9 = kf v7.toInt.toNat := e9
  refine lv_iload_n hx hb d_Ke_fillByte_10 rfl (lv_at hl 2 rfl) ?_
  refine lv_i2l hx hb d_Ke_fillByte_11 rfl ?_
  refine lv_topl (fun v11 e11 => ?_)
  refine lv_iload_n hx hb d_Ke_fillByte_12 rfl (lv_at hl 1 rfl) ?_
  refine vp_callSi (xr_rs (As := [.int i0]) (rest := [.long v11, .long v9, .int v7, .ref kw]) ⟨hx, hb, hml, hown, hts⟩ (c_Ke_shiftOf l D cL cI i0 (by omega)) (xr_cs 1 hts tw_259 tw_257 tw_258 tw_3 rfl rfl (by decide) ⟨by decide, by decide⟩) hK (hP.sub (ws' := []) [] rfl) rfl hl.1 rfl (Nat.le_of_ble_eq_true rfl) d_Ke_fillByte_13 ⟨Nat.le_of_ble_eq_true rfl, Nat.le_of_ble_eq_true rfl⟩) (fun v13 e13 => ?_)
  have e13 : v13.toInt = 56 - 8 * (i0.toInt % 8) := e13
  refine lv_lshl hx hb d_Ke_fillByte_16 rfl ?_
  refine lv_topl (fun v16 e16 => ?_)
  refine lv_lor hx hb d_Ke_fillByte_17 ?_
  refine lv_topl (fun v17 e17 => ?_)
  refine va_last hx hb hK hP hD hS 1 0 rfl rfl (ia_in ⟨by omega, by omega⟩) d_Ke_fillByte_18 (fun H locs hP hD hS => ?_)
  obtain ⟨f18, q18⟩ : ∃ z, z = vp_updL kf v7.toInt.toNat v17 := ⟨_, rfl⟩
  have hP : va_P D classes [(k0, .inr (0, [.int isr, .ref kw])), (kw, .inl (cL, kn, .inr (.inl (vp_updL kf v7.toInt.toNat v17))))] H := hP
  have hD : va_D A [(k0, .inr (0, [.int isr, .ref kw])), (kw, .inl (cL, kn, .inr (.inl (vp_updL kf v7.toInt.toNat v17))))] := hD
  rw [← q18] at hP hD
  have hpost : ∀ d, d < 8 * kn → by_w f18 d = if d = i0.toInt.toNat then b0.toInt.toNat else by_w kf d := by
    intro d hd
    have hi8 : i0.toInt.toNat / 8 = v7.toInt.toNat := by omega
    have hsh : uN v16 = b0.toInt.toNat * 2 ^ (56 - 8 * (i0.toInt.toNat % 8)) := by
      rw [e16, e11]
      exact uN_shb (by omega) (by omega) (by omega) (by omega)
    have hz2 : by_L v9 (i0.toInt.toNat % 8) = 0 := by
      have h5 := hz
      unfold by_w at h5
      rw [hi8, ← e9] at h5
      exact h5
    have hor := by_or e17 (show i0.toInt.toNat % 8 < 8 by omega) (show b0.toInt.toNat < 256 by omega) hsh hz2
    unfold by_w
    rw [q18]
    unfold vp_updL
    by_cases h6 : d / 8 = v7.toInt.toNat
    · rw [if_pos h6, hor _ (by omega)]
      by_cases h7 : d = i0.toInt.toNat
      · rw [if_pos h7, if_pos (by rw [h7])]
      · rw [if_neg h7, if_neg (by omega), h6, ← e9]
    · rw [if_neg h6, if_neg (fun h7 => h6 (by rw [h7]; exact hi8))]
  have hP9 := hP.sub (ws' := [(k0, .inr (0, [.int isr, .ref kw])), (kw, .inl (cL, kn, .inr (.inl f18)))]) [0, 1] rfl
  have hD9 := hD.sub (ws' := [(k0, .inr (0, [.int isr, .ref kw])), (kw, .inl (cL, kn, .inr (.inl f18)))]) [0, 1] (by decide) rfl
  rw [hQ]
  exact W.vret hx hb hr (fun t ht hW => ⟨⟨(f18), rfl, hpost, by rw [ht]; exact hP9, va_K.moved hW.alike hK, hD9⟩, hS.F ht⟩) hS.2.2 d_Ke_fillByte_19
set_option maxRecDepth 100000 in
set_option maxHeartbeats 4000000 in
theorem c_Ke_addLetter (l : Launch) (D : va_G) (cL cI : ClassId) (k0 kw kn : Nat) (isr : Int32) (kf : Nat → Int64) (c0 : Int32) (Lz : List Nat) (sz : Nat) (hkn : kn = 7) (hc0 : 0 ≤ c0.toInt ∧ c0.toInt < 256) (hL : Lz.length < 24) (hr2 : ∀ d, d < 56 → by_w kf d = rw_b Lz d) : Met l y_Ke_addLetter (Cond.code y_Ke_addLetter prog_2_method_5_code 3 none :: TW) ({ frames := 4, cells := 0, slots := 0, locals := 102 } : Room) (PM D cL cI [.ref k0, .int c0] [(k0, .inr (0, [.int isr, .ref kw])), (kw, .inl (cL, kn, .inr (.inl kf)))] sz) (va_Qv (fun (u : (Nat → Int64)) => ∀ d, d < 56 → by_w u d = rw_b (Lz ++ [c0.toInt.toNat]) d) (fun (u : (Nat → Int64)) (t : State) => va_P D classes [(k0, .inr (0, [.int isr, .ref kw])), (kw, .inl (cL, kn, .inr (.inl u)))] t.heap ∧ va_K D classes (tyz cL cI) t ∧ va_D (va_A [(k0, .inr (0, [.int isr, .ref kw])), (kw, .inl (cL, kn, .inr (.inl kf)))] sz) [(k0, .inr (0, [.int isr, .ref kw])), (kw, .inl (cL, kn, .inr (.inl u)))]) (va_A [(k0, .inr (0, [.int isr, .ref kw])), (kw, .inl (cL, kn, .inr (.inl kf)))] sz)) 0 0 (va_A [(k0, .inr (0, [.int isr, .ref kw])), (kw, .inl (cL, kn, .inr (.inl kf)))] sz) := by
  refine xr_met (by decide) ?_
  intro p e s m args below meth c hx hb hr hts hown hlocks hname hml hv
  obtain ⟨rfl, hsz, hP, hK, hD0⟩ := hv
  subst hsz
  have hD := hD0.self (sz := s.heap.size)
  generalize hAe : va_A [(k0, .inr (0, [.int isr, .ref kw])), (kw, .inl (cL, kn, .inr (.inl kf)))] s.heap.size = A at hD ⊢
  have hA : ∀ q : Nat, s.heap.size ≤ q → A q := fun q h => by rw [← hAe]; exact Or.inr h
  have hS : va_S A s.heap s.heap [] := va_S.rf
  have hD : va_D A [(k0, .inr (0, [.int isr, .ref kw])), (kw, .inl (cL, kn, .inr (.inl kf)))] := hD
  have hown : s.vm.findClass "BranchStore$Key" = some m.cls := hown
  have hP : va_P D classes [(k0, .inr (0, [.int isr, .ref kw])), (kw, .inl (cL, kn, .inr (.inl kf)))] s.heap := hP
  have hl := lv_entry ([.ref k0, .int c0]) (n := 3) (Nat.le_of_ble_eq_true rfl)
  rw [lg_entry_eq]
  generalize (lg_sl ([.ref k0, .int c0]) ++ List.replicate (3 - (lg_sl ([.ref k0, .int c0])).length) Slot.unset).toArray = ls at hl ⊢
  have hl : lv_has ls 3 [(0, .ref k0), (1, .int c0)] := hl
  obtain ⟨Q, hQ⟩ : ∃ Q, Q = MQ below (va_Qv (fun (u : (Nat → Int64)) => ∀ d, d < 56 → by_w u d = rw_b (Lz ++ [c0.toInt.toNat]) d) (fun (u : (Nat → Int64)) (t : State) => va_P D classes [(k0, .inr (0, [.int isr, .ref kw])), (kw, .inl (cL, kn, .inr (.inl u)))] t.heap ∧ va_K D classes (tyz cL cI) t ∧ va_D (A) [(k0, .inr (0, [.int isr, .ref kw])), (kw, .inl (cL, kn, .inr (.inl u)))]) (A)) ([.ref k0, .int c0] : List Value).toArray s 0 0 A := ⟨_, rfl⟩
  rw [← hQ]
  have hrg_c0 := ia_rng c0
  refine lv_aload_n hx hb d_Ke_addLetter_0 rfl (lv_at hl 0 rfl) ?_
  refine vp_callSi (xr_rv (As := []) (rest := []) ⟨hx, hb, hml, hown, hts⟩ (c_Ke_letterBytes l D cL cI k0 kw kn isr kf (by omega)) (xr_cv 0 hts tw_252 tw_249 tw_250 tw_251 tw_3 rfl rfl (by decide) ⟨by decide, by decide⟩) hK hP (va_recv hK hP rfl (q0 := 0) (ci := 0) rfl) rfl hl.1 rfl (Nat.le_of_ble_eq_true rfl) d_Ke_addLetter_1 ⟨Nat.le_of_ble_eq_true rfl, Nat.le_of_ble_eq_true rfl⟩) (fun v1 e1 => ?_)
  have e1 : ∃ z : Nat, v1.toInt = (z : Int) ∧ z ≤ 8 * kn ∧ (∀ d, z ≤ d → d < 8 * kn → by_w kf d = 0) ∧ (0 < z → by_w kf (z - 1) ≠ 0) := e1
  obtain ⟨z, hz1, hz2, hz3, hz4⟩ := e1
  have hLn := rw_n_le Lz
  have hzL : z = rw_n Lz := rw_end hr2 (by omega) (by omega) (fun d h5 h6 => hz3 d h5 (by omega)) hz4
  refine lv_istore_n (lv' := [(2, .int v1), (0, .ref k0), (1, .int c0)]) hx hb d_Ke_addLetter_4 rfl hl (by decide) rfl (fun ls hl => ?_)
  refine lv_iload_n hx hb d_Ke_addLetter_5 rfl (lv_at hl 2 rfl) ?_
  refine lv_if_ne hx hb d_Ke_addLetter_6 (tgt := 22) (by decide) (fun g6 => ?_) (fun g6 => ?_)
  · have g6 := (iz_ne).mp g6
    refine lv_aload_n hx hb d_Ke_addLetter_22 rfl (lv_at hl 1 rfl) ?_
    refine lv_iload_n hx hb d_Ke_addLetter_23 rfl (lv_at hl 0 rfl) ?_
    refine lv_iload_n hx hb d_Ke_addLetter_24 rfl (lv_at hl 2 rfl) ?_
    have hPc := hP.sub (ws' := [(k0, .inr (0, [.int isr, .ref kw])), (kw, .inl (cL, kn, .inr (.inl kf)))]) [0, 1] rfl
    have hDc := hD.sub (ws' := [(k0, .inr (0, [.int isr, .ref kw])), (kw, .inl (cL, kn, .inr (.inl kf)))]) [0, 1] (by decide) rfl
    have hFc := va_free (wc := [(k0, .inr (0, [.int isr, .ref kw])), (kw, .inl (cL, kn, .inr (.inl kf)))]) hD hS hA [0, 1] rfl
    refine va_callv (xr_mv (As := [.int v1, .int c0]) (rest := []) ⟨hx, hb, hml, hown, hts⟩ (c_Ke_fillByte l D cL cI k0 kw kn isr kf v1 c0 s.heap.size (by omega) (by omega) (by omega) (by omega) (by rw [show v1.toInt.toNat = rw_n Lz by omega, hr2 _ (by omega)]; exact rw_b_far Lz _ (by omega))) (xr_cv 2 hts tw_410 tw_407 tw_409 tp_6 tw_3 rfl rfl (by decide) ⟨by decide, by decide⟩) hK hPc (hDc.weaken (fun _ _ _ _ => trivial)) (va_recv hK hP rfl (q0 := 0) (ci := 0) rfl) rfl hl.1 rfl (Nat.le_of_ble_eq_true rfl) d_Ke_addLetter_25 ⟨Nat.le_of_ble_eq_true rfl, Nat.le_of_ble_eq_true rfl⟩) hS (fun q _ h => hFc q h) hFc (fun u25 tt25 H1 locs ht25 hvm25 e25 hB25 hz25 hk25 hS => ?_)
    obtain ⟨kg_25, rfl⟩ : ∃ z, z = u25 := ⟨_, rfl⟩
    have e25 : ∀ d, d < 8 * kn → by_w kg_25 d = if d = v1.toInt.toNat then c0.toInt.toNat else by_w kf d := e25
    obtain ⟨hP1, hK1, hD1⟩ := hB25
    rw [ht25] at hP1
    obtain ⟨hP, hD⟩ := va_join (wr := []) (w1 := [(k0, .inr (0, [.int isr, .ref kw])), (kw, .inl (cL, kn, .inr (.inl kg_25)))]) hP hD [0, 1] [] rfl rfl (by decide) (by decide) hk25 hFc hP1 hD1
    clear hP1 hD1 hPc hDc hFc
    generalize H1 = H at hP hS ⊢
    have hP : va_P D classes [(k0, .inr (0, [.int isr, .ref kw])), (kw, .inl (cL, kn, .inr (.inl kg_25)))] H := hP
    have hD : va_D A [(k0, .inr (0, [.int isr, .ref kw])), (kw, .inl (cL, kn, .inr (.inl kg_25)))] := hD
    have hpost : ∀ d, d < 56 → by_w kg_25 d = rw_b (Lz ++ [c0.toInt.toNat]) d := by
      intro d hd
      rw [rw_b_add]
      first
      | (rw [if_pos (show c0.toInt.toNat = 0 by omega), e16 d (by omega), show v12.toInt.toNat = rw_n Lz + 1 by omega, show v13.toInt.toNat = 255 by omega, hr2 d hd])
      | (rw [if_neg (show ¬ c0.toInt.toNat = 0 by omega), e25 d (by omega), show v1.toInt.toNat = rw_n Lz by omega, hr2 d hd])
    have hP9 := hP.sub (ws' := [(k0, .inr (0, [.int isr, .ref kw])), (kw, .inl (cL, kn, .inr (.inl kg_25)))]) [0, 1] rfl
    have hD9 := hD.sub (ws' := [(k0, .inr (0, [.int isr, .ref kw])), (kw, .inl (cL, kn, .inr (.inl kg_25)))]) [0, 1] (by decide) rfl
    rw [hQ]
    exact W.vret hx hb hr (fun t ht hW => ⟨⟨(kg_25), rfl, hpost, by rw [ht]; exact hP9, va_K.moved hW.alike hK, hD9⟩, hS.F ht⟩) hS.2.2 d_Ke_addLetter_28
  · have g6 := (iz_eq).mp g6
    refine lv_aload_n hx hb d_Ke_addLetter_9 rfl (lv_at hl 1 rfl) ?_
    refine lv_iload_n hx hb d_Ke_addLetter_10 rfl (lv_at hl 0 rfl) ?_
    refine lv_iconst (v := 1) hx hb d_Ke_addLetter_11 (by decide) ?_
    refine lv_topi (fun v11 e11 => ?_)
    have t11 : v11.toInt = 1 := by rw [e11]; rfl
    refine lv_iadd hx hb d_Ke_addLetter_12 ?_
    refine lv_topi (fun v12 e12 => ?_)
    have t12 := ia_add e12 ⟨by omega, by omega⟩
    refine lv_sipush (v := 255) hx hb d_Ke_addLetter_13 (by decide) ?_
    refine lv_topi (fun v13 e13 => ?_)
    have t13 : v13.toInt = 255 := by rw [e13]; rfl
    have hPc := hP.sub (ws' := [(k0, .inr (0, [.int isr, .ref kw])), (kw, .inl (cL, kn, .inr (.inl kf)))]) [0, 1] rfl
    have hDc := hD.sub (ws' := [(k0, .inr (0, [.int isr, .ref kw])), (kw, .inl (cL, kn, .inr (.inl kf)))]) [0, 1] (by decide) rfl
    have hFc := va_free (wc := [(k0, .inr (0, [.int isr, .ref kw])), (kw, .inl (cL, kn, .inr (.inl kf)))]) hD hS hA [0, 1] rfl
    refine va_callv (xr_mv (As := [.int v12, .int v13]) (rest := []) ⟨hx, hb, hml, hown, hts⟩ (c_Ke_fillByte l D cL cI k0 kw kn isr kf v12 v13 s.heap.size (by omega) (by omega) (by omega) (by omega) (by rw [show v12.toInt.toNat = rw_n Lz + 1 by omega, hr2 _ (by omega)]; exact rw_b_far Lz _ (by omega))) (xr_cv 2 hts tw_410 tw_407 tw_409 tp_6 tw_3 rfl rfl (by decide) ⟨by decide, by decide⟩) hK hPc (hDc.weaken (fun _ _ _ _ => trivial)) (va_recv hK hP rfl (q0 := 0) (ci := 0) rfl) rfl hl.1 rfl (Nat.le_of_ble_eq_true rfl) d_Ke_addLetter_16 ⟨Nat.le_of_ble_eq_true rfl, Nat.le_of_ble_eq_true rfl⟩) hS (fun q _ h => hFc q h) hFc (fun u16 tt16 H1 locs ht16 hvm16 e16 hB16 hz16 hk16 hS => ?_)
    obtain ⟨kg_16, rfl⟩ : ∃ z, z = u16 := ⟨_, rfl⟩
    have e16 : ∀ d, d < 8 * kn → by_w kg_16 d = if d = v12.toInt.toNat then v13.toInt.toNat else by_w kf d := e16
    obtain ⟨hP1, hK1, hD1⟩ := hB16
    rw [ht16] at hP1
    obtain ⟨hP, hD⟩ := va_join (wr := []) (w1 := [(k0, .inr (0, [.int isr, .ref kw])), (kw, .inl (cL, kn, .inr (.inl kg_16)))]) hP hD [0, 1] [] rfl rfl (by decide) (by decide) hk16 hFc hP1 hD1
    clear hP1 hD1 hPc hDc hFc
    generalize H1 = H at hP hS ⊢
    have hP : va_P D classes [(k0, .inr (0, [.int isr, .ref kw])), (kw, .inl (cL, kn, .inr (.inl kg_16)))] H := hP
    have hD : va_D A [(k0, .inr (0, [.int isr, .ref kw])), (kw, .inl (cL, kn, .inr (.inl kg_16)))] := hD
    refine lv_goto hx hb d_Ke_addLetter_19 (tgt := 28) (by decide) ?_
    have hpost : ∀ d, d < 56 → by_w kg_16 d = rw_b (Lz ++ [c0.toInt.toNat]) d := by
      intro d hd
      rw [rw_b_add]
      first
      | (rw [if_pos (show c0.toInt.toNat = 0 by omega), e16 d (by omega), show v12.toInt.toNat = rw_n Lz + 1 by omega, show v13.toInt.toNat = 255 by omega, hr2 d hd])
      | (rw [if_neg (show ¬ c0.toInt.toNat = 0 by omega), e25 d (by omega), show v1.toInt.toNat = rw_n Lz by omega, hr2 d hd])
    have hP9 := hP.sub (ws' := [(k0, .inr (0, [.int isr, .ref kw])), (kw, .inl (cL, kn, .inr (.inl kg_16)))]) [0, 1] rfl
    have hD9 := hD.sub (ws' := [(k0, .inr (0, [.int isr, .ref kw])), (kw, .inl (cL, kn, .inr (.inl kg_16)))]) [0, 1] (by decide) rfl
    rw [hQ]
    exact W.vret hx hb hr (fun t ht hW => ⟨⟨(kg_16), rfl, hpost, by rw [ht]; exact hP9, va_K.moved hW.alike hK, hD9⟩, hS.F ht⟩) hS.2.2 d_Ke_addLetter_28
set_option maxRecDepth 100000 in
set_option maxHeartbeats 4000000 in
theorem c_Ta_copyTo (l : Launch) (D : va_G) (cL cI : ClassId) (tb cd vl nc w n : Nat) (wd cnt chg : Int32) (fc : Nat → Int64) (k0 kw kn : Nat) (isr : Int32) (kf : Nat → Int64) (pl : Int32) (sz : Nat) (hw : wd.toInt = (w : Int)) (hw7 : 1 ≤ w ∧ w ≤ 7) (hnc : nc < 16777216) (hpl : 0 ≤ pl.toInt) (hpb : pl.toInt.toNat * w + w ≤ nc) (hkn : kn = w) : Met l y_Ta_copyTo (Cond.code y_Ta_copyTo prog_4_method_7_code 3 none :: TW) ({ frames := 1, cells := 0, slots := 0, locals := 40 } : Room) (PM D cL cI [.ref tb, .int pl, .ref k0] [(tb, .inr (2, [.int wd, .ref cd, .ref vl, .int cnt, .int chg])), (cd, .inl (cL, nc, .inr (.inl fc))), (k0, .inr (0, [.int isr, .ref kw])), (kw, .inl (cL, kn, .inr (.inl kf)))] sz) (va_Qv (fun (u : (Nat → Int64)) => ∀ j, j < w → u j = kr fc w pl.toInt.toNat j) (fun (u : (Nat → Int64)) (t : State) => va_P D classes [(tb, .inr (2, [.int wd, .ref cd, .ref vl, .int cnt, .int chg])), (cd, .inl (cL, nc, .inr (.inl fc))), (k0, .inr (0, [.int isr, .ref kw])), (kw, .inl (cL, kn, .inr (.inl u)))] t.heap ∧ va_K D classes (tyz cL cI) t ∧ va_D (va_A [(tb, .inr (2, [.int wd, .ref cd, .ref vl, .int cnt, .int chg])), (cd, .inl (cL, nc, .inr (.inl fc))), (k0, .inr (0, [.int isr, .ref kw])), (kw, .inl (cL, kn, .inr (.inl kf)))] sz) [(tb, .inr (2, [.int wd, .ref cd, .ref vl, .int cnt, .int chg])), (cd, .inl (cL, nc, .inr (.inl fc))), (k0, .inr (0, [.int isr, .ref kw])), (kw, .inl (cL, kn, .inr (.inl u)))]) (va_A [(tb, .inr (2, [.int wd, .ref cd, .ref vl, .int cnt, .int chg])), (cd, .inl (cL, nc, .inr (.inl fc))), (k0, .inr (0, [.int isr, .ref kw])), (kw, .inl (cL, kn, .inr (.inl kf)))] sz)) 0 0 (va_A [(tb, .inr (2, [.int wd, .ref cd, .ref vl, .int cnt, .int chg])), (cd, .inl (cL, nc, .inr (.inl fc))), (k0, .inr (0, [.int isr, .ref kw])), (kw, .inl (cL, kn, .inr (.inl kf)))] sz) := by
  refine xr_met (by decide) ?_
  intro p e s m args below meth c hx hb hr hts hown hlocks hname hml hv
  obtain ⟨rfl, hsz, hP, hK, hD0⟩ := hv
  subst hsz
  have hD := hD0.self (sz := s.heap.size)
  generalize hAe : va_A [(tb, .inr (2, [.int wd, .ref cd, .ref vl, .int cnt, .int chg])), (cd, .inl (cL, nc, .inr (.inl fc))), (k0, .inr (0, [.int isr, .ref kw])), (kw, .inl (cL, kn, .inr (.inl kf)))] s.heap.size = A at hD ⊢
  have hA : ∀ q : Nat, s.heap.size ≤ q → A q := fun q h => by rw [← hAe]; exact Or.inr h
  have hS : va_S A s.heap s.heap [] := va_S.rf
  have hD : va_D A [(tb, .inr (2, [.int wd, .ref cd, .ref vl, .int cnt, .int chg])), (cd, .inl (cL, nc, .inr (.inl fc))), (k0, .inr (0, [.int isr, .ref kw])), (kw, .inl (cL, kn, .inr (.inl kf)))] := hD
  have hown : s.vm.findClass "BranchStore$Table" = some m.cls := hown
  have hP : va_P D classes [(tb, .inr (2, [.int wd, .ref cd, .ref vl, .int cnt, .int chg])), (cd, .inl (cL, nc, .inr (.inl fc))), (k0, .inr (0, [.int isr, .ref kw])), (kw, .inl (cL, kn, .inr (.inl kf)))] s.heap := hP
  have hl := lv_entry ([.ref tb, .int pl, .ref k0]) (n := 3) (Nat.le_of_ble_eq_true rfl)
  rw [lg_entry_eq]
  generalize (lg_sl ([.ref tb, .int pl, .ref k0]) ++ List.replicate (3 - (lg_sl ([.ref tb, .int pl, .ref k0])).length) Slot.unset).toArray = ls at hl ⊢
  have hl : lv_has ls 3 [(0, .ref tb), (1, .int pl), (2, .ref k0)] := hl
  obtain ⟨Q, hQ⟩ : ∃ Q, Q = MQ below (va_Qv (fun (u : (Nat → Int64)) => ∀ j, j < w → u j = kr fc w pl.toInt.toNat j) (fun (u : (Nat → Int64)) (t : State) => va_P D classes [(tb, .inr (2, [.int wd, .ref cd, .ref vl, .int cnt, .int chg])), (cd, .inl (cL, nc, .inr (.inl fc))), (k0, .inr (0, [.int isr, .ref kw])), (kw, .inl (cL, kn, .inr (.inl u)))] t.heap ∧ va_K D classes (tyz cL cI) t ∧ va_D (A) [(tb, .inr (2, [.int wd, .ref cd, .ref vl, .int cnt, .int chg])), (cd, .inl (cL, nc, .inr (.inl fc))), (k0, .inr (0, [.int isr, .ref kw])), (kw, .inl (cL, kn, .inr (.inl u)))]) (A)) ([.ref tb, .int pl, .ref k0] : List Value).toArray s 0 0 A := ⟨_, rfl⟩
  rw [← hQ]
  have hrg_pl := ia_rng pl
  have hmul : pl.toInt * wd.toInt = ((pl.toInt.toNat * w : Nat) : Int) := ia_pw (by omega) hw
  refine lv_aload_n hx hb d_Ta_copyTo_0 rfl (lv_at hl 0 rfl) ?_
  refine va_get (D := D) (ci := 2) (v := .ref cd) (C := R_Ta) (T := F_Ta) (N := 5) hx hb hts in_Ta hown hK hP 0 rfl rfl 1 (by decide) (hts _ tw_60) (fun _ h9 => h9) rfl d_Ta_copyTo_1 ?_
  refine lv_iload_n hx hb d_Ta_copyTo_4 rfl (lv_at hl 1 rfl) ?_
  refine lv_aload_n hx hb d_Ta_copyTo_5 rfl (lv_at hl 0 rfl) ?_
  refine va_get (D := D) (ci := 2) (v := .int wd) (C := R_Ta) (T := F_Ta) (N := 5) hx hb hts in_Ta hown hK hP 0 rfl rfl 0 (by decide) (hts _ tw_59) (fun _ h9 => h9) rfl d_Ta_copyTo_6 ?_
  refine lv_imul hx hb d_Ta_copyTo_9 ?_
  refine lv_topi (fun v9 e9 => ?_)
  have t9 := ia_mul e9 ⟨by rw [hmul]; omega, by rw [hmul]; omega⟩
  have t9 := t9.trans hmul
  refine lv_aload_n hx hb d_Ta_copyTo_10 rfl (lv_at hl 2 rfl) ?_
  refine va_get (D := D) (ci := 0) (v := .ref kw) (C := R_Ke) (T := F_Ke) (N := 2) hx hb hts in_Ke hown hK hP 2 rfl rfl 1 (by decide) (hts _ tw_46) (fun _ h9 => h9) rfl d_Ta_copyTo_11 ?_
  refine lv_iconst (v := 0) hx hb d_Ta_copyTo_14 (by decide) ?_
  refine lv_topi (fun v14 e14 => ?_)
  have t14 : v14.toInt = 0 := by rw [e14]; rfl
  refine lv_aload_n hx hb d_Ta_copyTo_15 rfl (lv_at hl 0 rfl) ?_
  refine va_get (D := D) (ci := 2) (v := .int wd) (C := R_Ta) (T := F_Ta) (N := 5) hx hb hts in_Ta hown hK hP 0 rfl rfl 0 (by decide) (hts _ tw_59) (fun _ h9 => h9) rfl d_Ta_copyTo_16 ?_
  refine va_copyl hx hb (hml.trans hl.1.symm) hown (hts _ tw_212) (hts _ tw_157) (hts _ tw_156) (hts _ tw_14) hK hP hD hS 1 3 0 0 rfl rfl rfl rfl rfl (iz_nlt.mpr (by omega)) (iz_nlt.mpr (by omega)) (iz_nlt.mpr (by omega)) (show v9.toInt.toNat + wd.toInt.toNat ≤ nc from by omega) (show v14.toInt.toNat + wd.toInt.toNat ≤ kn from by omega) (fun _ _ => rfl) (by decide) (Nat.le_of_ble_eq_true rfl) d_Ta_copyTo_19 (fun H locs hP hD hS => ?_)
  obtain ⟨f19, q19⟩ : ∃ z, z = va_cpy fc kf v9.toInt.toNat v14.toInt.toNat wd.toInt.toNat := ⟨_, rfl⟩
  have hP : va_P D classes [(tb, .inr (2, [.int wd, .ref cd, .ref vl, .int cnt, .int chg])), (cd, .inl (cL, nc, .inr (.inl fc))), (k0, .inr (0, [.int isr, .ref kw])), (kw, .inl (cL, kn, .inr (.inl (va_cpy fc kf v9.toInt.toNat v14.toInt.toNat wd.toInt.toNat))))] H := hP
  have hD : va_D A [(tb, .inr (2, [.int wd, .ref cd, .ref vl, .int cnt, .int chg])), (cd, .inl (cL, nc, .inr (.inl fc))), (k0, .inr (0, [.int isr, .ref kw])), (kw, .inl (cL, kn, .inr (.inl (va_cpy fc kf v9.toInt.toNat v14.toInt.toNat wd.toInt.toNat))))] := hD
  rw [← q19] at hP hD
  have hpost : ∀ j, j < w → f19 j = kr fc w pl.toInt.toNat j := fun j hj => by rw [q19, pk_cpy_in (by omega) (by omega)]; show fc _ = fc _; congr 1; omega
  have hP9 := hP.sub (ws' := [(tb, .inr (2, [.int wd, .ref cd, .ref vl, .int cnt, .int chg])), (cd, .inl (cL, nc, .inr (.inl fc))), (k0, .inr (0, [.int isr, .ref kw])), (kw, .inl (cL, kn, .inr (.inl f19)))]) [0, 1, 2, 3] rfl
  have hD9 := hD.sub (ws' := [(tb, .inr (2, [.int wd, .ref cd, .ref vl, .int cnt, .int chg])), (cd, .inl (cL, nc, .inr (.inl fc))), (k0, .inr (0, [.int isr, .ref kw])), (kw, .inl (cL, kn, .inr (.inl f19)))]) [0, 1, 2, 3] (by decide) rfl
  rw [hQ]
  exact W.vret hx hb hr (fun t ht hW => ⟨⟨(f19), rfl, hpost, by rw [ht]; exact hP9, va_K.moved hW.alike hK, hD9⟩, hS.F ht⟩) hS.2.2 d_Ta_copyTo_22
set_option maxRecDepth 100000 in
set_option maxHeartbeats 4000000 in
theorem c_Ta_cutOut (l : Launch) (D : va_G) (cL cI : ClassId) (tb cd vl nc w n : Nat) (wd cnt chg : Int32) (fc : Nat → Int64) (nv : Nat) (fv : Nat → Int64) (fr to : Int32) (sz : Nat) (hw : wd.toInt = (w : Int)) (hw7 : 1 ≤ w ∧ w ≤ 7) (hcnt : cnt.toInt = (n : Int)) (hnc : nc < 16777216) (hcap : ∀ k, k < n → k * w + w ≤ nc) (hn : n ≤ 1500) (hnv : n ≤ nv ∧ nv < 16777216) (hncn : n * w ≤ nc) (hfr : 0 ≤ fr.toInt ∧ fr.toInt ≤ to.toInt) (hto : to.toInt ≤ (n : Int)) : Met l y_Ta_cutOut (Cond.code y_Ta_cutOut prog_4_method_6_code 4 none :: TW) ({ frames := 1, cells := 0, slots := 0, locals := 40 } : Room) (PM D cL cI [.ref tb, .int fr, .int to] [(tb, .inr (2, [.int wd, .ref cd, .ref vl, .int cnt, .int chg])), (cd, .inl (cL, nc, .inr (.inl fc))), (vl, .inl (cL, nv, .inr (.inl fv)))] sz) (va_Qv (fun (u : (Int32) × (Int32) × (Nat → Int64) × (Nat → Int64)) => u.1.toInt = (n : Int) - (to.toInt - fr.toInt) ∧ u.2.1 = 1 ∧ (∀ k j, k < n - (to.toInt.toNat - fr.toInt.toNat) → j < w → u.2.2.1 (k * w + j) = if k < fr.toInt.toNat then fc (k * w + j) else fc ((k + (to.toInt.toNat - fr.toInt.toNat)) * w + j)) ∧ (∀ k, k < n - (to.toInt.toNat - fr.toInt.toNat) → u.2.2.2 k = if k < fr.toInt.toNat then fv k else fv (k + (to.toInt.toNat - fr.toInt.toNat)))) (fun (u : (Int32) × (Int32) × (Nat → Int64) × (Nat → Int64)) (t : State) => va_P D classes [(tb, .inr (2, [.int wd, .ref cd, .ref vl, .int u.1, .int u.2.1])), (cd, .inl (cL, nc, .inr (.inl u.2.2.1))), (vl, .inl (cL, nv, .inr (.inl u.2.2.2)))] t.heap ∧ va_K D classes (tyz cL cI) t ∧ va_D (va_A [(tb, .inr (2, [.int wd, .ref cd, .ref vl, .int cnt, .int chg])), (cd, .inl (cL, nc, .inr (.inl fc))), (vl, .inl (cL, nv, .inr (.inl fv)))] sz) [(tb, .inr (2, [.int wd, .ref cd, .ref vl, .int u.1, .int u.2.1])), (cd, .inl (cL, nc, .inr (.inl u.2.2.1))), (vl, .inl (cL, nv, .inr (.inl u.2.2.2)))]) (va_A [(tb, .inr (2, [.int wd, .ref cd, .ref vl, .int cnt, .int chg])), (cd, .inl (cL, nc, .inr (.inl fc))), (vl, .inl (cL, nv, .inr (.inl fv)))] sz)) 0 0 (va_A [(tb, .inr (2, [.int wd, .ref cd, .ref vl, .int cnt, .int chg])), (cd, .inl (cL, nc, .inr (.inl fc))), (vl, .inl (cL, nv, .inr (.inl fv)))] sz) := by
  refine xr_met (by decide) ?_
  intro p e s m args below meth c hx hb hr hts hown hlocks hname hml hv
  obtain ⟨rfl, hsz, hP, hK, hD0⟩ := hv
  subst hsz
  have hD := hD0.self (sz := s.heap.size)
  generalize hAe : va_A [(tb, .inr (2, [.int wd, .ref cd, .ref vl, .int cnt, .int chg])), (cd, .inl (cL, nc, .inr (.inl fc))), (vl, .inl (cL, nv, .inr (.inl fv)))] s.heap.size = A at hD ⊢
  have hA : ∀ q : Nat, s.heap.size ≤ q → A q := fun q h => by rw [← hAe]; exact Or.inr h
  have hS : va_S A s.heap s.heap [] := va_S.rf
  have hD : va_D A [(tb, .inr (2, [.int wd, .ref cd, .ref vl, .int cnt, .int chg])), (cd, .inl (cL, nc, .inr (.inl fc))), (vl, .inl (cL, nv, .inr (.inl fv)))] := hD
  have hown : s.vm.findClass "BranchStore$Table" = some m.cls := hown
  have hP : va_P D classes [(tb, .inr (2, [.int wd, .ref cd, .ref vl, .int cnt, .int chg])), (cd, .inl (cL, nc, .inr (.inl fc))), (vl, .inl (cL, nv, .inr (.inl fv)))] s.heap := hP
  have hl := lv_entry ([.ref tb, .int fr, .int to]) (n := 4) (Nat.le_of_ble_eq_true rfl)
  rw [lg_entry_eq]
  generalize (lg_sl ([.ref tb, .int fr, .int to]) ++ List.replicate (4 - (lg_sl ([.ref tb, .int fr, .int to])).length) Slot.unset).toArray = ls at hl ⊢
  have hl : lv_has ls 4 [(0, .ref tb), (1, .int fr), (2, .int to)] := hl
  obtain ⟨Q, hQ⟩ : ∃ Q, Q = MQ below (va_Qv (fun (u : (Int32) × (Int32) × (Nat → Int64) × (Nat → Int64)) => u.1.toInt = (n : Int) - (to.toInt - fr.toInt) ∧ u.2.1 = 1 ∧ (∀ k j, k < n - (to.toInt.toNat - fr.toInt.toNat) → j < w → u.2.2.1 (k * w + j) = if k < fr.toInt.toNat then fc (k * w + j) else fc ((k + (to.toInt.toNat - fr.toInt.toNat)) * w + j)) ∧ (∀ k, k < n - (to.toInt.toNat - fr.toInt.toNat) → u.2.2.2 k = if k < fr.toInt.toNat then fv k else fv (k + (to.toInt.toNat - fr.toInt.toNat)))) (fun (u : (Int32) × (Int32) × (Nat → Int64) × (Nat → Int64)) (t : State) => va_P D classes [(tb, .inr (2, [.int wd, .ref cd, .ref vl, .int u.1, .int u.2.1])), (cd, .inl (cL, nc, .inr (.inl u.2.2.1))), (vl, .inl (cL, nv, .inr (.inl u.2.2.2)))] t.heap ∧ va_K D classes (tyz cL cI) t ∧ va_D (A) [(tb, .inr (2, [.int wd, .ref cd, .ref vl, .int u.1, .int u.2.1])), (cd, .inl (cL, nc, .inr (.inl u.2.2.1))), (vl, .inl (cL, nv, .inr (.inl u.2.2.2)))]) (A)) ([.ref tb, .int fr, .int to] : List Value).toArray s 0 0 A := ⟨_, rfl⟩
  rw [← hQ]
  have hrg_fr := ia_rng fr
  have hrg_to := ia_rng to
  have hm1 : to.toInt * wd.toInt = ((to.toInt.toNat * w : Nat) : Int) := ia_pw (by omega) hw
  have hm2 : fr.toInt * wd.toInt = ((fr.toInt.toNat * w : Nat) : Int) := ia_pw (by omega) hw
  have hq1 : to.toInt.toNat * w + (n - to.toInt.toNat) * w = n * w := by rw [← Nat.add_mul]; congr 1; omega
  have hq2 : fr.toInt.toNat * w ≤ to.toInt.toNat * w := Nat.mul_le_mul_right w (by omega)
  have hq3 : n * w ≤ 1500 * w := Nat.mul_le_mul_right w hn
  refine lv_aload_n hx hb d_Ta_cutOut_0 rfl (lv_at hl 0 rfl) ?_
  refine va_get (D := D) (ci := 2) (v := .int cnt) (C := R_Ta) (T := F_Ta) (N := 5) hx hb hts in_Ta hown hK hP 0 rfl rfl 3 (by decide) (hts _ tw_63) (fun _ h9 => h9) rfl d_Ta_cutOut_1 ?_
  refine lv_iload_n hx hb d_Ta_cutOut_4 rfl (lv_at hl 2 rfl) ?_
  refine lv_isub hx hb d_Ta_cutOut_5 ?_
  refine lv_topi (fun v5 e5 => ?_)
  have t5 := ia_sub e5 ⟨by omega, by omega⟩
  refine lv_istore_n (lv' := [(3, .int v5), (0, .ref tb), (1, .int fr), (2, .int to)]) hx hb d_Ta_cutOut_6 rfl hl (by decide) rfl (fun ls hl => ?_)
  refine lv_aload_n hx hb d_Ta_cutOut_7 rfl (lv_at hl 1 rfl) ?_
  refine va_get (D := D) (ci := 2) (v := .ref cd) (C := R_Ta) (T := F_Ta) (N := 5) hx hb hts in_Ta hown hK hP 0 rfl rfl 1 (by decide) (hts _ tw_60) (fun _ h9 => h9) rfl d_Ta_cutOut_8 ?_
  refine lv_iload_n hx hb d_Ta_cutOut_11 rfl (lv_at hl 3 rfl) ?_
  refine lv_aload_n hx hb d_Ta_cutOut_12 rfl (lv_at hl 1 rfl) ?_
  refine va_get (D := D) (ci := 2) (v := .int wd) (C := R_Ta) (T := F_Ta) (N := 5) hx hb hts in_Ta hown hK hP 0 rfl rfl 0 (by decide) (hts _ tw_59) (fun _ h9 => h9) rfl d_Ta_cutOut_13 ?_
  refine lv_imul hx hb d_Ta_cutOut_16 ?_
  refine lv_topi (fun v16 e16 => ?_)
  have t16 := ia_mul e16 ⟨by rw [hm1]; omega, by rw [hm1]; omega⟩
  have t16 := t16.trans hm1
  refine lv_aload_n hx hb d_Ta_cutOut_17 rfl (lv_at hl 1 rfl) ?_
  refine va_get (D := D) (ci := 2) (v := .ref cd) (C := R_Ta) (T := F_Ta) (N := 5) hx hb hts in_Ta hown hK hP 0 rfl rfl 1 (by decide) (hts _ tw_60) (fun _ h9 => h9) rfl d_Ta_cutOut_18 ?_
  refine lv_iload_n hx hb d_Ta_cutOut_21 rfl (lv_at hl 2 rfl) ?_
  refine lv_aload_n hx hb d_Ta_cutOut_22 rfl (lv_at hl 1 rfl) ?_
  refine va_get (D := D) (ci := 2) (v := .int wd) (C := R_Ta) (T := F_Ta) (N := 5) hx hb hts in_Ta hown hK hP 0 rfl rfl 0 (by decide) (hts _ tw_59) (fun _ h9 => h9) rfl d_Ta_cutOut_23 ?_
  refine lv_imul hx hb d_Ta_cutOut_26 ?_
  refine lv_topi (fun v26 e26 => ?_)
  have t26 := ia_mul e26 ⟨by rw [hm2]; omega, by rw [hm2]; omega⟩
  have t26 := t26.trans hm2
  refine lv_iload_n hx hb d_Ta_cutOut_27 rfl (lv_at hl 0 rfl) ?_
  refine lv_aload_n hx hb d_Ta_cutOut_28 rfl (lv_at hl 1 rfl) ?_
  refine va_get (D := D) (ci := 2) (v := .int wd) (C := R_Ta) (T := F_Ta) (N := 5) hx hb hts in_Ta hown hK hP 0 rfl rfl 0 (by decide) (hts _ tw_59) (fun _ h9 => h9) rfl d_Ta_cutOut_29 ?_
  have hm3 : v5.toInt * wd.toInt = ((v5.toInt.toNat * w : Nat) : Int) := ia_pw (by omega) hw
  have hm4 : v5.toInt.toNat * w = (n - to.toInt.toNat) * w := by congr 1; omega
  refine lv_imul hx hb d_Ta_cutOut_32 ?_
  refine lv_topi (fun v32 e32 => ?_)
  have t32 := ia_mul e32 ⟨by rw [hm3]; omega, by rw [hm3]; omega⟩
  have t32 := t32.trans hm3
  refine va_copyl hx hb (hml.trans hl.1.symm) hown (hts _ tw_212) (hts _ tw_157) (hts _ tw_156) (hts _ tw_14) hK hP hD hS 1 1 0 0 rfl rfl rfl rfl rfl (iz_nlt.mpr (by omega)) (iz_nlt.mpr (by omega)) (iz_nlt.mpr (by omega)) (show v16.toInt.toNat + v32.toInt.toNat ≤ nc from by omega) (show v26.toInt.toNat + v32.toInt.toNat ≤ nc from by omega) (fun _ _ => rfl) (by decide) (Nat.le_of_ble_eq_true rfl) d_Ta_cutOut_33 (fun H locs hP hD hS => ?_)
  obtain ⟨f33, q33⟩ : ∃ z, z = va_cpy fc fc v16.toInt.toNat v26.toInt.toNat v32.toInt.toNat := ⟨_, rfl⟩
  have hP : va_P D classes [(tb, .inr (2, [.int wd, .ref cd, .ref vl, .int cnt, .int chg])), (cd, .inl (cL, nc, .inr (.inl (va_cpy fc fc v16.toInt.toNat v26.toInt.toNat v32.toInt.toNat)))), (vl, .inl (cL, nv, .inr (.inl fv)))] H := hP
  have hD : va_D A [(tb, .inr (2, [.int wd, .ref cd, .ref vl, .int cnt, .int chg])), (cd, .inl (cL, nc, .inr (.inl (va_cpy fc fc v16.toInt.toNat v26.toInt.toNat v32.toInt.toNat)))), (vl, .inl (cL, nv, .inr (.inl fv)))] := hD
  rw [← q33] at hP hD
  refine lv_aload_n hx hb d_Ta_cutOut_36 rfl (lv_at hl 1 rfl) ?_
  refine va_get (D := D) (ci := 2) (v := .ref vl) (C := R_Ta) (T := F_Ta) (N := 5) hx hb hts in_Ta hown hK hP 0 rfl rfl 2 (by decide) (hts _ tw_61) (fun _ h9 => h9) rfl d_Ta_cutOut_37 ?_
  refine lv_iload_n hx hb d_Ta_cutOut_40 rfl (lv_at hl 3 rfl) ?_
  refine lv_aload_n hx hb d_Ta_cutOut_41 rfl (lv_at hl 1 rfl) ?_
  refine va_get (D := D) (ci := 2) (v := .ref vl) (C := R_Ta) (T := F_Ta) (N := 5) hx hb hts in_Ta hown hK hP 0 rfl rfl 2 (by decide) (hts _ tw_61) (fun _ h9 => h9) rfl d_Ta_cutOut_42 ?_
  refine lv_iload_n hx hb d_Ta_cutOut_45 rfl (lv_at hl 2 rfl) ?_
  refine lv_iload_n hx hb d_Ta_cutOut_46 rfl (lv_at hl 0 rfl) ?_
  refine va_copyl hx hb (hml.trans hl.1.symm) hown (hts _ tw_212) (hts _ tw_157) (hts _ tw_156) (hts _ tw_14) hK hP hD hS 2 2 0 0 rfl rfl rfl rfl rfl (iz_nlt.mpr (by omega)) (iz_nlt.mpr (by omega)) (iz_nlt.mpr (by omega)) (show to.toInt.toNat + v5.toInt.toNat ≤ nv from by omega) (show fr.toInt.toNat + v5.toInt.toNat ≤ nv from by omega) (fun _ _ => rfl) (by decide) (Nat.le_of_ble_eq_true rfl) d_Ta_cutOut_47 (fun H locs hP hD hS => ?_)
  obtain ⟨f47, q47⟩ : ∃ z, z = va_cpy fv fv to.toInt.toNat fr.toInt.toNat v5.toInt.toNat := ⟨_, rfl⟩
  have hP : va_P D classes [(tb, .inr (2, [.int wd, .ref cd, .ref vl, .int cnt, .int chg])), (cd, .inl (cL, nc, .inr (.inl f33))), (vl, .inl (cL, nv, .inr (.inl (va_cpy fv fv to.toInt.toNat fr.toInt.toNat v5.toInt.toNat))))] H := hP
  have hD : va_D A [(tb, .inr (2, [.int wd, .ref cd, .ref vl, .int cnt, .int chg])), (cd, .inl (cL, nc, .inr (.inl f33))), (vl, .inl (cL, nv, .inr (.inl (va_cpy fv fv to.toInt.toNat fr.toInt.toNat v5.toInt.toNat))))] := hD
  rw [← q47] at hP hD
  refine lv_aload_n hx hb d_Ta_cutOut_50 rfl (lv_at hl 1 rfl) ?_
  refine lv_dup hx hb d_Ta_cutOut_51 rfl ?_
  refine va_get (D := D) (ci := 2) (v := .int cnt) (C := R_Ta) (T := F_Ta) (N := 5) hx hb hts in_Ta hown hK hP 0 rfl rfl 3 (by decide) (hts _ tw_63) (fun _ h9 => h9) rfl d_Ta_cutOut_52 ?_
  refine lv_iload_n hx hb d_Ta_cutOut_55 rfl (lv_at hl 3 rfl) ?_
  refine lv_iload_n hx hb d_Ta_cutOut_56 rfl (lv_at hl 2 rfl) ?_
  refine lv_isub hx hb d_Ta_cutOut_57 ?_
  refine lv_topi (fun v57 e57 => ?_)
  have t57 := ia_sub e57 ⟨by omega, by omega⟩
  refine lv_isub hx hb d_Ta_cutOut_58 ?_
  refine lv_topi (fun v58 e58 => ?_)
  have t58 := ia_sub e58 ⟨by omega, by omega⟩
  refine va_put (D := D) (ci := 2) (v := .int v58) (ty := .int) (C := R_Ta) (T := F_Ta) (N := 5) hx hb hts in_Ta t_Ta t_Ta_ok n_Ta hown hK hP hD hS 0 rfl rfl 3 (by decide) (hts _ tw_63) (fun _ h9 => h9) rfl (by decide +kernel) rfl rfl (Nat.le_of_ble_eq_true rfl) d_Ta_cutOut_59 (fun H locs hP hD hS => ?_)
  have hP : va_P D classes [(tb, .inr (2, [.int wd, .ref cd, .ref vl, .int v58, .int chg])), (cd, .inl (cL, nc, .inr (.inl f33))), (vl, .inl (cL, nv, .inr (.inl f47)))] H := hP
  have hD : va_D A [(tb, .inr (2, [.int wd, .ref cd, .ref vl, .int v58, .int chg])), (cd, .inl (cL, nc, .inr (.inl f33))), (vl, .inl (cL, nv, .inr (.inl f47)))] := hD
  refine lv_aload_n hx hb d_Ta_cutOut_62 rfl (lv_at hl 1 rfl) ?_
  refine lv_iconst (v := 1) hx hb d_Ta_cutOut_63 (by decide) ?_
  refine lv_topi (fun v63 e63 => ?_)
  have t63 : v63.toInt = 1 := by rw [e63]; rfl
  refine va_put (D := D) (ci := 2) (v := .int v63) (ty := .boolean) (C := R_Ta) (T := F_Ta) (N := 5) hx hb hts in_Ta t_Ta t_Ta_ok n_Ta hown hK hP hD hS 0 rfl rfl 4 (by decide) (hts _ tw_66) (fun _ h9 => h9) rfl (by decide +kernel) (ia_bool (Or.inr e63)) (ia_fitb (Or.inr e63)) (Nat.le_of_ble_eq_true rfl) d_Ta_cutOut_64 (fun H locs hP hD hS => ?_)
  have hP : va_P D classes [(tb, .inr (2, [.int wd, .ref cd, .ref vl, .int v58, .int v63])), (cd, .inl (cL, nc, .inr (.inl f33))), (vl, .inl (cL, nv, .inr (.inl f47)))] H := hP
  have hD : va_D A [(tb, .inr (2, [.int wd, .ref cd, .ref vl, .int v58, .int v63])), (cd, .inl (cL, nc, .inr (.inl f33))), (vl, .inl (cL, nv, .inr (.inl f47)))] := hD
  have hpost : v58.toInt = (n : Int) - (to.toInt - fr.toInt) ∧ v63 = 1 ∧ (∀ k j, k < n - (to.toInt.toNat - fr.toInt.toNat) → j < w → f33 (k * w + j) = if k < fr.toInt.toNat then fc (k * w + j) else fc ((k + (to.toInt.toNat - fr.toInt.toNat)) * w + j)) ∧ (∀ k, k < n - (to.toInt.toNat - fr.toInt.toNat) → f47 k = if k < fr.toInt.toNat then fv k else fv (k + (to.toInt.toNat - fr.toInt.toNat))) := by
    refine ⟨by omega, e63, fun k j hk hj => ?_, fun k hk => ?_⟩
    · rw [q33]
      by_cases h5 : k < fr.toInt.toNat
      · have h6 : k * w + w ≤ fr.toInt.toNat * w := by rw [← Nat.succ_mul]; exact Nat.mul_le_mul_right w (by omega)
        rw [if_pos h5, pk_cpy_out (by omega)]
      · have h6 : fr.toInt.toNat * w ≤ k * w := Nat.mul_le_mul_right w (by omega)
        have h7 : (k + (to.toInt.toNat - fr.toInt.toNat)) * w = k * w + (to.toInt.toNat * w - fr.toInt.toNat * w) := by rw [Nat.add_mul, Nat.sub_mul]
        have h8 : k * w + w ≤ fr.toInt.toNat * w + (n - to.toInt.toNat) * w := by rw [← Nat.succ_mul, ← Nat.add_mul]; exact Nat.mul_le_mul_right w (by omega)
        rw [if_neg h5, pk_cpy_in (by omega) (by omega), h7]
        congr 1
        omega
    · rw [q47]
      by_cases h5 : k < fr.toInt.toNat
      · rw [if_pos h5, pk_cpy_out (by omega)]
      · rw [if_neg h5, pk_cpy_in (by omega) (by omega)]
        congr 1
        omega
  have hP9 := hP.sub (ws' := [(tb, .inr (2, [.int wd, .ref cd, .ref vl, .int v58, .int v63])), (cd, .inl (cL, nc, .inr (.inl f33))), (vl, .inl (cL, nv, .inr (.inl f47)))]) [0, 1, 2] rfl
  have hD9 := hD.sub (ws' := [(tb, .inr (2, [.int wd, .ref cd, .ref vl, .int v58, .int v63])), (cd, .inl (cL, nc, .inr (.inl f33))), (vl, .inl (cL, nv, .inr (.inl f47)))]) [0, 1, 2] (by decide) rfl
  rw [hQ]
  exact W.vret hx hb hr (fun t ht hW => ⟨⟨(v58, v63, f33, f47), rfl, hpost, by rw [ht]; exact hP9, va_K.moved hW.alike hK, hD9⟩, hS.F ht⟩) hS.2.2 d_Ta_cutOut_67
