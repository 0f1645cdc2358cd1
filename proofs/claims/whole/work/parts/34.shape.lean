set_option maxRecDepth 100000 in
set_option maxHeartbeats 4000000 in
theorem c_Sh_sizeWith (l : Launch) (D : va_G) (cL cI : ClassId) (x0 : Int32) (h0 : 0 ≤ x0.toInt) : Met l y_Sh_sizeWith (Cond.code y_Sh_sizeWith prog_3_method_5_code 1 (some .int) :: TW) ({ frames := 1, cells := 0, slots := 0, locals := 40 } : Room) (PR D cL cI [.int x0] []) (vp_Si (fun r => r.toInt = (cb_size x0.toInt.toNat : Int) ∧ 0 ≤ r.toInt ∧ r.toInt < 4)) 0 0 (fun _ => False) := by
  refine xr_met (by decide) ?_
  intro p e s m args below meth c hx hb hr hts hown hlocks hname hml hv
  obtain ⟨rfl, hP, hK⟩ := hv
  have hown : s.vm.findClass "BranchStore$Shape" = some m.cls := hown
  have hl := lv_entry ([.int x0]) (n := 1) (Nat.le_of_ble_eq_true rfl)
  rw [lg_entry_eq]
  generalize (lg_sl ([.int x0]) ++ List.replicate (1 - (lg_sl ([.int x0])).length) Slot.unset).toArray = ls at hl ⊢
  have hl : lv_has ls 1 [(0, .int x0)] := hl
  obtain ⟨Q, hQ⟩ : ∃ Q, Q = MQ below (vp_Si (fun r => r.toInt = (cb_size x0.toInt.toNat : Int) ∧ 0 ≤ r.toInt ∧ r.toInt < 4)) ([.int x0] : List Value).toArray s 0 0 (fun _ => False) := ⟨_, rfl⟩
  rw [← hQ]
  have hrg_x0 := ia_rng x0
  refine lv_iload_n hx hb d_Sh_sizeWith_0 rfl (lv_at hl 0 rfl) ?_
  refine lv_iconst (v := 4) hx hb d_Sh_sizeWith_1 (by decide) ?_
  refine lv_topi (fun v1 e1 => ?_)
  have t1 : v1.toInt = 4 := by rw [e1]; rfl
  refine lv_icmp_gt hx hb d_Sh_sizeWith_2 (tgt := 7) (by decide) (fun g2 => ?_) (fun g2 => ?_)
  · have g2 := ic_lt.mp g2
    refine lv_iload_n hx hb d_Sh_sizeWith_7 rfl (lv_at hl 0 rfl) ?_
    refine lv_bipush (v := 16) hx hb d_Sh_sizeWith_8 (by decide) ?_
    refine lv_topi (fun v8 e8 => ?_)
    have t8 : v8.toInt = 16 := by rw [e8]; rfl
    refine lv_icmp_gt hx hb d_Sh_sizeWith_10 (tgt := 15) (by decide) (fun g10 => ?_) (fun g10 => ?_)
    · have g10 := ic_lt.mp g10
      refine lv_iload_n hx hb d_Sh_sizeWith_15 rfl (lv_at hl 0 rfl) ?_
      refine lv_bipush (v := 48) hx hb d_Sh_sizeWith_16 (by decide) ?_
      refine lv_topi (fun v16 e16 => ?_)
      have t16 : v16.toInt = 48 := by rw [e16]; rfl
      refine lv_icmp_gt hx hb d_Sh_sizeWith_18 (tgt := 25) (by decide) (fun g18 => ?_) (fun g18 => ?_)
      · have g18 := ic_lt.mp g18
        refine lv_iconst (v := 3) hx hb d_Sh_sizeWith_25 (by decide) ?_
        refine lv_topi (fun v25 e25 => ?_)
        have t25 : v25.toInt = 3 := by rw [e25]; rfl
        have hpost : v25.toInt = (cb_size x0.toInt.toNat : Int) ∧ 0 ≤ v25.toInt ∧ v25.toInt < 4 := by
          unfold cb_size
          have a1 : (x0.toInt.toNat < 5) = (x0.toInt ≤ 4) := by apply propext; omega
          have a2 : (x0.toInt.toNat < 17) = (x0.toInt ≤ 16) := by apply propext; omega
          have a3 : (x0.toInt.toNat < 49) = (x0.toInt ≤ 48) := by apply propext; omega
          simp only [a1, a2, a3]
          first
          | (rw [if_pos (by omega)]; omega)
          | (rw [if_neg (by omega), if_pos (by omega)]; omega)
          | (rw [if_neg (by omega), if_neg (by omega), if_pos (by omega)]; omega)
          | (rw [if_neg (by omega), if_neg (by omega), if_neg (by omega)]; omega)
        rw [hQ]
        exact xr_reti (v := v25) hx hb hr hlocks (hpost) d_Sh_sizeWith_26
      · have g18 := ic_nlt.mp g18
        refine lv_iconst (v := 2) hx hb d_Sh_sizeWith_21 (by decide) ?_
        refine lv_topi (fun v21 e21 => ?_)
        have t21 : v21.toInt = 2 := by rw [e21]; rfl
        refine lv_goto hx hb d_Sh_sizeWith_22 (tgt := 26) (by decide) ?_
        have hpost : v21.toInt = (cb_size x0.toInt.toNat : Int) ∧ 0 ≤ v21.toInt ∧ v21.toInt < 4 := by
          unfold cb_size
          have a1 : (x0.toInt.toNat < 5) = (x0.toInt ≤ 4) := by apply propext; omega
          have a2 : (x0.toInt.toNat < 17) = (x0.toInt ≤ 16) := by apply propext; omega
          have a3 : (x0.toInt.toNat < 49) = (x0.toInt ≤ 48) := by apply propext; omega
          simp only [a1, a2, a3]
          first
          | (rw [if_pos (by omega)]; omega)
          | (rw [if_neg (by omega), if_pos (by omega)]; omega)
          | (rw [if_neg (by omega), if_neg (by omega), if_pos (by omega)]; omega)
          | (rw [if_neg (by omega), if_neg (by omega), if_neg (by omega)]; omega)
        rw [hQ]
        exact xr_reti (v := v21) hx hb hr hlocks (hpost) d_Sh_sizeWith_26
    · have g10 := ic_nlt.mp g10
      refine lv_iconst (v := 1) hx hb d_Sh_sizeWith_13 (by decide) ?_
      refine lv_topi (fun v13 e13 => ?_)
      have t13 : v13.toInt = 1 := by rw [e13]; rfl
      have hpost : v13.toInt = (cb_size x0.toInt.toNat : Int) ∧ 0 ≤ v13.toInt ∧ v13.toInt < 4 := by
        unfold cb_size
        have a1 : (x0.toInt.toNat < 5) = (x0.toInt ≤ 4) := by apply propext; omega
        have a2 : (x0.toInt.toNat < 17) = (x0.toInt ≤ 16) := by apply propext; omega
        have a3 : (x0.toInt.toNat < 49) = (x0.toInt ≤ 48) := by apply propext; omega
        simp only [a1, a2, a3]
        first
        | (rw [if_pos (by omega)]; omega)
        | (rw [if_neg (by omega), if_pos (by omega)]; omega)
        | (rw [if_neg (by omega), if_neg (by omega), if_pos (by omega)]; omega)
        | (rw [if_neg (by omega), if_neg (by omega), if_neg (by omega)]; omega)
      rw [hQ]
      exact xr_reti (v := v13) hx hb hr hlocks (hpost) d_Sh_sizeWith_14
  · have g2 := ic_nlt.mp g2
    refine lv_iconst (v := 0) hx hb d_Sh_sizeWith_5 (by decide) ?_
    refine lv_topi (fun v5 e5 => ?_)
    have t5 : v5.toInt = 0 := by rw [e5]; rfl
    have hpost : v5.toInt = (cb_size x0.toInt.toNat : Int) ∧ 0 ≤ v5.toInt ∧ v5.toInt < 4 := by
      unfold cb_size
      have a1 : (x0.toInt.toNat < 5) = (x0.toInt ≤ 4) := by apply propext; omega
      have a2 : (x0.toInt.toNat < 17) = (x0.toInt ≤ 16) := by apply propext; omega
      have a3 : (x0.toInt.toNat < 49) = (x0.toInt ≤ 48) := by apply propext; omega
      simp only [a1, a2, a3]
      first
      | (rw [if_pos (by omega)]; omega)
      | (rw [if_neg (by omega), if_pos (by omega)]; omega)
      | (rw [if_neg (by omega), if_neg (by omega), if_pos (by omega)]; omega)
      | (rw [if_neg (by omega), if_neg (by omega), if_neg (by omega)]; omega)
    rw [hQ]
    exact xr_reti (v := v5) hx hb hr hlocks (hpost) d_Sh_sizeWith_6
set_option maxRecDepth 100000 in
set_option maxHeartbeats 4000000 in
theorem c_Sh_closeLongerThan (l : Launch) (D : va_G) (cL cI : ClassId) (so bs la ca ha mb : Nat) (dp rt opn : Int32) (fb fl fch fh : Nat → Int32) (ln : Int32) (v1 NN r0 : Nat) (B0 : Nat → Nat) (st0 : cb_St) (sz : Nat) (hmb : mb ≤ 64) (hop : 0 ≤ opn.toInt ∧ opn.toInt ≤ (mb : Int)) (hrep : sh_rep fl fch fh opn.toInt.toNat st0) (hNN : NN ≤ 4000) (hB : ∀ j, j < 4 → (fb j).toInt = (B0 j : Int)) (hrt : rt.toInt = (r0 : Int)) (hsk : sk_all NN st0 0 B0) (hln : ln.toInt + 1 = (v1 : Int)) : Met l y_Sh_closeLongerThan (Cond.code y_Sh_closeLongerThan prog_3_method_3_code 3 (some .int) :: TW) ({ frames := 2, cells := 0, slots := 0, locals := 60 } : Room) (PM D cL cI [.ref so, .int ln] [(so, .inr (1, [.ref bs, .int dp, .int rt, .ref la, .ref ca, .ref ha, .int opn])), (bs, .inl (cI, 4, .inl fb)), (la, .inl (cI, mb, .inl fl)), (ca, .inl (cI, mb, .inl fch)), (ha, .inl (cI, mb, .inl fh))] sz) (va_Qi (fun (r : Int32) (u : (Int32) × (Int32) × (Nat → Int32)) => sh_rep fl fch fh u.2.1.toInt.toNat (cb_close v1 st0 0 B0 r0).1 ∧ (0 ≤ u.2.1.toInt ∧ u.2.1.toInt ≤ opn.toInt) ∧ r.toInt = ((cb_close v1 st0 0 B0 r0).2.1 : Int) ∧ (∀ j, j < 4 → (u.2.2 j).toInt = ((cb_close v1 st0 0 B0 r0).2.2.1 j : Int)) ∧ u.1.toInt = ((cb_close v1 st0 0 B0 r0).2.2.2 : Int)) (fun (u : (Int32) × (Int32) × (Nat → Int32)) (t : State) => va_P D classes [(so, .inr (1, [.ref bs, .int dp, .int u.1, .ref la, .ref ca, .ref ha, .int u.2.1])), (bs, .inl (cI, 4, .inl u.2.2)), (la, .inl (cI, mb, .inl fl)), (ca, .inl (cI, mb, .inl fch)), (ha, .inl (cI, mb, .inl fh))] t.heap ∧ va_K D classes (tyz cL cI) t ∧ va_D (va_A [(so, .inr (1, [.ref bs, .int dp, .int rt, .ref la, .ref ca, .ref ha, .int opn])), (bs, .inl (cI, 4, .inl fb)), (la, .inl (cI, mb, .inl fl)), (ca, .inl (cI, mb, .inl fch)), (ha, .inl (cI, mb, .inl fh))] sz) [(so, .inr (1, [.ref bs, .int dp, .int u.1, .ref la, .ref ca, .ref ha, .int u.2.1])), (bs, .inl (cI, 4, .inl u.2.2)), (la, .inl (cI, mb, .inl fl)), (ca, .inl (cI, mb, .inl fch)), (ha, .inl (cI, mb, .inl fh))]) (va_A [(so, .inr (1, [.ref bs, .int dp, .int rt, .ref la, .ref ca, .ref ha, .int opn])), (bs, .inl (cI, 4, .inl fb)), (la, .inl (cI, mb, .inl fl)), (ca, .inl (cI, mb, .inl fch)), (ha, .inl (cI, mb, .inl fh))] sz)) 0 0 (va_A [(so, .inr (1, [.ref bs, .int dp, .int rt, .ref la, .ref ca, .ref ha, .int opn])), (bs, .inl (cI, 4, .inl fb)), (la, .inl (cI, mb, .inl fl)), (ca, .inl (cI, mb, .inl fch)), (ha, .inl (cI, mb, .inl fh))] sz) := by
  refine xr_met (by decide) ?_
  intro p e s m args below meth c hx hb hr hts hown hlocks hname hml hv
  obtain ⟨rfl, hsz, hP, hK, hD0⟩ := hv
  subst hsz
  have hD := hD0.self (sz := s.heap.size)
  generalize hAe : va_A [(so, .inr (1, [.ref bs, .int dp, .int rt, .ref la, .ref ca, .ref ha, .int opn])), (bs, .inl (cI, 4, .inl fb)), (la, .inl (cI, mb, .inl fl)), (ca, .inl (cI, mb, .inl fch)), (ha, .inl (cI, mb, .inl fh))] s.heap.size = A at hD ⊢
  have hA : ∀ q : Nat, s.heap.size ≤ q → A q := fun q h => by rw [← hAe]; exact Or.inr h
  have hS : va_S A s.heap s.heap [] := va_S.rf
  have hD : va_D A [(so, .inr (1, [.ref bs, .int dp, .int rt, .ref la, .ref ca, .ref ha, .int opn])), (bs, .inl (cI, 4, .inl fb)), (la, .inl (cI, mb, .inl fl)), (ca, .inl (cI, mb, .inl fch)), (ha, .inl (cI, mb, .inl fh))] := hD
  have hown : s.vm.findClass "BranchStore$Shape" = some m.cls := hown
  have hP : va_P D classes [(so, .inr (1, [.ref bs, .int dp, .int rt, .ref la, .ref ca, .ref ha, .int opn])), (bs, .inl (cI, 4, .inl fb)), (la, .inl (cI, mb, .inl fl)), (ca, .inl (cI, mb, .inl fch)), (ha, .inl (cI, mb, .inl fh))] s.heap := hP
  have hl := lv_entry ([.ref so, .int ln]) (n := 3) (Nat.le_of_ble_eq_true rfl)
  rw [lg_entry_eq]
  generalize (lg_sl ([.ref so, .int ln]) ++ List.replicate (3 - (lg_sl ([.ref so, .int ln])).length) Slot.unset).toArray = ls at hl ⊢
  have hl : lv_has ls 3 [(0, .ref so), (1, .int ln)] := hl
  obtain ⟨Q, hQ⟩ : ∃ Q, Q = MQ below (va_Qi (fun (r : Int32) (u : (Int32) × (Int32) × (Nat → Int32)) => sh_rep fl fch fh u.2.1.toInt.toNat (cb_close v1 st0 0 B0 r0).1 ∧ (0 ≤ u.2.1.toInt ∧ u.2.1.toInt ≤ opn.toInt) ∧ r.toInt = ((cb_close v1 st0 0 B0 r0).2.1 : Int) ∧ (∀ j, j < 4 → (u.2.2 j).toInt = ((cb_close v1 st0 0 B0 r0).2.2.1 j : Int)) ∧ u.1.toInt = ((cb_close v1 st0 0 B0 r0).2.2.2 : Int)) (fun (u : (Int32) × (Int32) × (Nat → Int32)) (t : State) => va_P D classes [(so, .inr (1, [.ref bs, .int dp, .int u.1, .ref la, .ref ca, .ref ha, .int u.2.1])), (bs, .inl (cI, 4, .inl u.2.2)), (la, .inl (cI, mb, .inl fl)), (ca, .inl (cI, mb, .inl fch)), (ha, .inl (cI, mb, .inl fh))] t.heap ∧ va_K D classes (tyz cL cI) t ∧ va_D (A) [(so, .inr (1, [.ref bs, .int dp, .int u.1, .ref la, .ref ca, .ref ha, .int u.2.1])), (bs, .inl (cI, 4, .inl u.2.2)), (la, .inl (cI, mb, .inl fl)), (ca, .inl (cI, mb, .inl fch)), (ha, .inl (cI, mb, .inl fh))]) (A)) ([.ref so, .int ln] : List Value).toArray s 0 0 A := ⟨_, rfl⟩
  rw [← hQ]
  have hrg_ln := ia_rng ln
  refine lv_iconst (v := 0) hx hb d_Sh_closeLongerThan_0 (by decide) ?_
  refine lv_topi (fun v0 e0 => ?_)
  have t0 : v0.toInt = 0 := by rw [e0]; rfl
  refine lv_istore_n (lv' := [(2, .int v0), (0, .ref so), (1, .int ln)]) hx hb d_Sh_closeLongerThan_1 rfl hl (by decide) rfl (fun ls hl => ?_)
  have lp2 : ∀ (fuel2 : Nat) (hh : Int32) (stc : cb_St) (Bc : Nat → Nat) (rc : Nat) (rtz : Int32) (opz : Int32) (fbz : Nat → Int32) (H : Heap) (locs : List Loc) (ls : Array Slot), lv_has ls 3 [(2, .int hh), (0, .ref so), (1, .int ln)] → va_P D classes [(so, .inr (1, [.ref bs, .int dp, .int rtz, .ref la, .ref ca, .ref ha, .int opz])), (bs, .inl (cI, 4, .inl fbz)), (la, .inl (cI, mb, .inl fl)), (ca, .inl (cI, mb, .inl fch)), (ha, .inl (cI, mb, .inl fh))] H → va_D A [(so, .inr (1, [.ref bs, .int dp, .int rtz, .ref la, .ref ca, .ref ha, .int opz])), (bs, .inl (cI, 4, .inl fbz)), (la, .inl (cI, mb, .inl fl)), (ca, .inl (cI, mb, .inl fch)), (ha, .inl (cI, mb, .inl fh))] → va_S A s.heap H locs → (0 ≤ opz.toInt ∧ opz.toInt ≤ opn.toInt) → (sh_rep fl fch fh opz.toInt.toNat stc) → (0 ≤ hh.toInt) → (sk_all NN stc hh.toInt.toNat Bc) → (∀ j, j < 4 → (fbz j).toInt = (Bc j : Int)) → (rtz.toInt = (rc : Int)) → (cb_close v1 stc hh.toInt.toNat Bc rc = cb_close v1 st0 0 B0 r0) → opz.toInt.toNat < fuel2 → W p l e ({ frames := 2, cells := 0, slots := 0, locals := 60 } : Room) s m ([.ref so, .int ln] : List Value).toArray below meth c H locs 0 0 Q (F0 m 2 ls []) := by
    intro fuel2
    induction fuel2 with
    | zero => intro hh stc Bc rc rtz opz fbz H locs ls hl hP hD hS h1 h2 h3 h4 h5 h6 h7 hm2; exact absurd hm2 (Nat.not_lt_zero _)
    | succ fuel2 ih2 =>
      intro hh stc Bc rc rtz opz fbz H locs ls hl hP hD hS h1 h2 h3 h4 h5 h6 h7 hm2
      refine lv_aload_n hx hb d_Sh_closeLongerThan_2 rfl (lv_at hl 1 rfl) ?_
      refine va_get (D := D) (ci := 1) (v := .int opz) (C := R_Sh) (T := F_Sh) (N := 7) hx hb hts in_Sh hown hK hP 0 rfl rfl 6 (by decide) (hts _ tw_100) (fun _ h9 => h9) rfl d_Sh_closeLongerThan_3 ?_
      refine lv_if_le hx hb d_Sh_closeLongerThan_6 (tgt := 99) (by decide) (fun g6 => ?_) (fun g6 => ?_)
      · have g6 := (iz_le).mp g6
        refine lv_iload_n hx hb d_Sh_closeLongerThan_99 rfl (lv_at hl 0 rfl) ?_
        have hpost : sh_rep fl fch fh opz.toInt.toNat (cb_close v1 st0 0 B0 r0).1 ∧ (0 ≤ opz.toInt ∧ opz.toInt ≤ opn.toInt) ∧ hh.toInt = ((cb_close v1 st0 0 B0 r0).2.1 : Int) ∧ (∀ j, j < 4 → (fbz j).toInt = ((cb_close v1 st0 0 B0 r0).2.2.1 j : Int)) ∧ rtz.toInt = ((cb_close v1 st0 0 B0 r0).2.2.2 : Int) := by
          have hres : cb_close v1 stc hh.toInt.toNat Bc rc = (stc, hh.toInt.toNat, Bc, rc) := by
            first
            | (rw [sh_rep_nil h2 (by omega)]; rfl)
            | (rw [hst, cb_close, if_neg (by omega)])
          rw [← h7, hres]
          exact ⟨h2, h1, by show hh.toInt = (hh.toInt.toNat : Int); omega, h5, h6⟩
        have hP9 := hP.sub (ws' := [(so, .inr (1, [.ref bs, .int dp, .int rtz, .ref la, .ref ca, .ref ha, .int opz])), (bs, .inl (cI, 4, .inl fbz)), (la, .inl (cI, mb, .inl fl)), (ca, .inl (cI, mb, .inl fch)), (ha, .inl (cI, mb, .inl fh))]) [0, 1, 2, 3, 4] rfl
        have hD9 := hD.sub (ws' := [(so, .inr (1, [.ref bs, .int dp, .int rtz, .ref la, .ref ca, .ref ha, .int opz])), (bs, .inl (cI, 4, .inl fbz)), (la, .inl (cI, mb, .inl fl)), (ca, .inl (cI, mb, .inl fch)), (ha, .inl (cI, mb, .inl fh))]) [0, 1, 2, 3, 4] (by decide) rfl
        rw [hQ]
        exact W.iret (v := hh) hx hb hr (fun t ht hW => ⟨⟨hh, (rtz, opz, fbz), rfl, hpost, by rw [ht]; exact hP9, va_K.moved hW.alike hK, hD9⟩, hS.F ht⟩) hS.2.2 d_Sh_closeLongerThan_100
      · have g6 := (iz_nle).mp g6
        obtain ⟨l9, c9, h9z, r9, hst, w2, w3, w4, w5⟩ := sh_rep_pos h2 (by omega)
        have h4x := h4
        have h7x := h7
        rw [hst] at h4x h7x
        have hsk1 := h4x.1.1
        have hsk2 := h4x.1.2.1
        have hsk3 := h4x.2.1
        rw [List.length_cons] at hsk3
        refine lv_aload_n hx hb d_Sh_closeLongerThan_9 rfl (lv_at hl 1 rfl) ?_
        refine va_get (D := D) (ci := 1) (v := .ref la) (C := R_Sh) (T := F_Sh) (N := 7) hx hb hts in_Sh hown hK hP 0 rfl rfl 3 (by decide) (hts _ tw_97) (fun _ h9 => h9) rfl d_Sh_closeLongerThan_10 ?_
        refine lv_aload_n hx hb d_Sh_closeLongerThan_13 rfl (lv_at hl 1 rfl) ?_
        refine va_get (D := D) (ci := 1) (v := .int opz) (C := R_Sh) (T := F_Sh) (N := 7) hx hb hts in_Sh hown hK hP 0 rfl rfl 6 (by decide) (hts _ tw_100) (fun _ h9 => h9) rfl d_Sh_closeLongerThan_14 ?_
        refine lv_iconst (v := 1) hx hb d_Sh_closeLongerThan_17 (by decide) ?_
        refine lv_topi (fun v17 e17 => ?_)
        have t17 : v17.toInt = 1 := by rw [e17]; rfl
        refine lv_isub hx hb d_Sh_closeLongerThan_18 ?_
        refine lv_topi (fun v18 e18 => ?_)
        have t18 := ia_sub e18 ⟨by omega, by omega⟩
        refine va_iald hx hb hK hP 2 1 rfl rfl (ia_in ⟨by omega, by omega⟩) d_Sh_closeLongerThan_19 ?_
        refine lv_topi (fun v19 e19 => ?_)
        have e19 : v19 = fl v18.toInt.toNat := e19
        have w2 : v19.toInt = (l9 : Int) := by rw [e19, show v18.toInt.toNat = opz.toInt.toNat - 1 by omega]; exact w2
        refine lv_iload_n hx hb d_Sh_closeLongerThan_20 rfl (lv_at hl 2 rfl) ?_
        refine lv_icmp_le hx hb d_Sh_closeLongerThan_21 (tgt := 99) (by decide) (fun g21 => ?_) (fun g21 => ?_)
        · have g21 := ic_le.mp g21
          refine lv_iload_n hx hb d_Sh_closeLongerThan_99 rfl (lv_at hl 0 rfl) ?_
          have hpost : sh_rep fl fch fh opz.toInt.toNat (cb_close v1 st0 0 B0 r0).1 ∧ (0 ≤ opz.toInt ∧ opz.toInt ≤ opn.toInt) ∧ hh.toInt = ((cb_close v1 st0 0 B0 r0).2.1 : Int) ∧ (∀ j, j < 4 → (fbz j).toInt = ((cb_close v1 st0 0 B0 r0).2.2.1 j : Int)) ∧ rtz.toInt = ((cb_close v1 st0 0 B0 r0).2.2.2 : Int) := by
            have hres : cb_close v1 stc hh.toInt.toNat Bc rc = (stc, hh.toInt.toNat, Bc, rc) := by
              first
              | (rw [sh_rep_nil h2 (by omega)]; rfl)
              | (rw [hst, cb_close, if_neg (by omega)])
            rw [← h7, hres]
            exact ⟨h2, h1, by show hh.toInt = (hh.toInt.toNat : Int); omega, h5, h6⟩
          have hP9 := hP.sub (ws' := [(so, .inr (1, [.ref bs, .int dp, .int rtz, .ref la, .ref ca, .ref ha, .int opz])), (bs, .inl (cI, 4, .inl fbz)), (la, .inl (cI, mb, .inl fl)), (ca, .inl (cI, mb, .inl fch)), (ha, .inl (cI, mb, .inl fh))]) [0, 1, 2, 3, 4] rfl
          have hD9 := hD.sub (ws' := [(so, .inr (1, [.ref bs, .int dp, .int rtz, .ref la, .ref ca, .ref ha, .int opz])), (bs, .inl (cI, 4, .inl fbz)), (la, .inl (cI, mb, .inl fl)), (ca, .inl (cI, mb, .inl fch)), (ha, .inl (cI, mb, .inl fh))]) [0, 1, 2, 3, 4] (by decide) rfl
          rw [hQ]
          exact W.iret (v := hh) hx hb hr (fun t ht hW => ⟨⟨hh, (rtz, opz, fbz), rfl, hpost, by rw [ht]; exact hP9, va_K.moved hW.alike hK, hD9⟩, hS.F ht⟩) hS.2.2 d_Sh_closeLongerThan_100
        · have g21 := ic_nle.mp g21
          refine lv_aload_n hx hb d_Sh_closeLongerThan_24 rfl (lv_at hl 1 rfl) ?_
          refine lv_dup hx hb d_Sh_closeLongerThan_25 rfl ?_
          refine va_get (D := D) (ci := 1) (v := .int opz) (C := R_Sh) (T := F_Sh) (N := 7) hx hb hts in_Sh hown hK hP 0 rfl rfl 6 (by decide) (hts _ tw_100) (fun _ h9 => h9) rfl d_Sh_closeLongerThan_26 ?_
          refine lv_iconst (v := 1) hx hb d_Sh_closeLongerThan_29 (by decide) ?_
          refine lv_topi (fun v29 e29 => ?_)
          have t29 : v29.toInt = 1 := by rw [e29]; rfl
          refine lv_isub hx hb d_Sh_closeLongerThan_30 ?_
          refine lv_topi (fun v30 e30 => ?_)
          have t30 := ia_sub e30 ⟨by omega, by omega⟩
          refine va_put (D := D) (ci := 1) (v := .int v30) (ty := .int) (C := R_Sh) (T := F_Sh) (N := 7) hx hb hts in_Sh t_Sh t_Sh_ok n_Sh hown hK hP hD hS 0 rfl rfl 6 (by decide) (hts _ tw_100) (fun _ h9 => h9) rfl (by decide +kernel) rfl rfl (Nat.le_of_ble_eq_true rfl) d_Sh_closeLongerThan_31 (fun H locs hP hD hS => ?_)
          have hP : va_P D classes [(so, .inr (1, [.ref bs, .int dp, .int rtz, .ref la, .ref ca, .ref ha, .int v30])), (bs, .inl (cI, 4, .inl fbz)), (la, .inl (cI, mb, .inl fl)), (ca, .inl (cI, mb, .inl fch)), (ha, .inl (cI, mb, .inl fh))] H := hP
          have hD : va_D A [(so, .inr (1, [.ref bs, .int dp, .int rtz, .ref la, .ref ca, .ref ha, .int v30])), (bs, .inl (cI, 4, .inl fbz)), (la, .inl (cI, mb, .inl fl)), (ca, .inl (cI, mb, .inl fch)), (ha, .inl (cI, mb, .inl fh))] := hD
          refine lv_aload_n hx hb d_Sh_closeLongerThan_34 rfl (lv_at hl 1 rfl) ?_
          refine va_get (D := D) (ci := 1) (v := .ref ha) (C := R_Sh) (T := F_Sh) (N := 7) hx hb hts in_Sh hown hK hP 0 rfl rfl 5 (by decide) (hts _ tw_99) (fun _ h9 => h9) rfl d_Sh_closeLongerThan_35 ?_
          refine lv_aload_n hx hb d_Sh_closeLongerThan_38 rfl (lv_at hl 1 rfl) ?_
          refine va_get (D := D) (ci := 1) (v := .int v30) (C := R_Sh) (T := F_Sh) (N := 7) hx hb hts in_Sh hown hK hP 0 rfl rfl 6 (by decide) (hts _ tw_100) (fun _ h9 => h9) rfl d_Sh_closeLongerThan_39 ?_
          refine va_iald hx hb hK hP 4 1 rfl rfl (ia_in ⟨by omega, by omega⟩) d_Sh_closeLongerThan_42 ?_
          refine lv_topi (fun v42 e42 => ?_)
          have e42 : v42 = fh v30.toInt.toNat := e42
          have w4 : v42.toInt = (h9z : Int) := by rw [e42, show v30.toInt.toNat = opz.toInt.toNat - 1 by omega]; exact w4
          refine lv_iload_n hx hb d_Sh_closeLongerThan_43 rfl (lv_at hl 0 rfl) ?_
          refine lv_iconst (v := 1) hx hb d_Sh_closeLongerThan_44 (by decide) ?_
          refine lv_topi (fun v44 e44 => ?_)
          have t44 : v44.toInt = 1 := by rw [e44]; rfl
          refine lv_iadd hx hb d_Sh_closeLongerThan_45 ?_
          refine lv_topi (fun v45 e45 => ?_)
          have t45 := ia_add e45 ⟨by omega, by omega⟩
          refine va_mmax hx hb (hml.trans hl.1.symm) hown (hts _ tw_232) (hts _ tw_202) (hts _ tw_2) (hts _ tw_203) (Nat.le_of_ble_eq_true rfl) (Nat.le_of_ble_eq_true rfl) (Nat.le_of_ble_eq_true rfl) (Nat.le_of_ble_eq_true rfl) d_Sh_closeLongerThan_46 ?_
          refine lv_topi (fun v46 e46 => ?_)
          have t46 : v46.toInt = if v42.toInt < v45.toInt then v45.toInt else v42.toInt := ia_max e46
          have hmx : v46.toInt.toNat = max h9z (hh.toInt.toNat + 1) := by
                rw [Nat.max_def]
                split at t46 <;> split <;> omega
          refine lv_istore_n (lv' := [(2, .int v46), (0, .ref so), (1, .int ln)]) hx hb d_Sh_closeLongerThan_49 rfl hl (by decide) rfl (fun ls hl => ?_)
          refine lv_aload_n hx hb d_Sh_closeLongerThan_50 rfl (lv_at hl 1 rfl) ?_
          refine va_get (D := D) (ci := 1) (v := .ref bs) (C := R_Sh) (T := F_Sh) (N := 7) hx hb hts in_Sh hown hK hP 0 rfl rfl 0 (by decide) (hts _ tw_91) (fun _ h9 => h9) rfl d_Sh_closeLongerThan_51 ?_
          refine lv_aload_n hx hb d_Sh_closeLongerThan_54 rfl (lv_at hl 1 rfl) ?_
          refine va_get (D := D) (ci := 1) (v := .ref ca) (C := R_Sh) (T := F_Sh) (N := 7) hx hb hts in_Sh hown hK hP 0 rfl rfl 4 (by decide) (hts _ tw_98) (fun _ h9 => h9) rfl d_Sh_closeLongerThan_55 ?_
          refine lv_aload_n hx hb d_Sh_closeLongerThan_58 rfl (lv_at hl 1 rfl) ?_
          refine va_get (D := D) (ci := 1) (v := .int v30) (C := R_Sh) (T := F_Sh) (N := 7) hx hb hts in_Sh hown hK hP 0 rfl rfl 6 (by decide) (hts _ tw_100) (fun _ h9 => h9) rfl d_Sh_closeLongerThan_59 ?_
          refine va_iald hx hb hK hP 3 1 rfl rfl (ia_in ⟨by omega, by omega⟩) d_Sh_closeLongerThan_62 ?_
          refine lv_topi (fun v62 e62 => ?_)
          have e62 : v62 = fch v30.toInt.toNat := e62
          have w3 : v62.toInt = (c9 : Int) := by rw [e62, show v30.toInt.toNat = opz.toInt.toNat - 1 by omega]; exact w3
          refine vp_callSi (xr_rs (As := [.int v62]) (rest := [.ref bs]) ⟨hx, hb, hml, hown, hts⟩ (c_Sh_sizeWith l D cL cI v62 (by omega)) (xr_cs 1 hts tw_235 tw_233 tw_234 tw_6 rfl rfl (by decide) ⟨Nat.le_of_ble_eq_true rfl, Nat.le_of_ble_eq_true rfl⟩) hK (hP.sub (ws' := []) [] rfl) rfl hl.1 rfl (Nat.le_of_ble_eq_true rfl) d_Sh_closeLongerThan_63 ⟨Nat.le_of_ble_eq_true rfl, Nat.le_of_ble_eq_true rfl⟩) (fun v63 e63 => ?_)
          have e63 : v63.toInt = (cb_size v62.toInt.toNat : Int) ∧ 0 ≤ v63.toInt ∧ v63.toInt < 4 := e63
          refine lv_dup2_11 hx hb d_Sh_closeLongerThan_66 rfl rfl ?_
          refine va_iald hx hb hK hP 1 1 rfl rfl (ia_in ⟨by omega, by omega⟩) d_Sh_closeLongerThan_67 ?_
          refine lv_topi (fun v67 e67 => ?_)
          have e67 : v67 = fbz v63.toInt.toNat := e67
          have hB67 := h5 v63.toInt.toNat (by omega)
          rw [← e67] at hB67
          have hB68 := h4.2.2 v63.toInt.toNat
          refine lv_iconst (v := 1) hx hb d_Sh_closeLongerThan_68 (by decide) ?_
          refine lv_topi (fun v68 e68 => ?_)
          have t68 : v68.toInt = 1 := by rw [e68]; rfl
          refine lv_iadd hx hb d_Sh_closeLongerThan_69 ?_
          refine lv_topi (fun v69 e69 => ?_)
          have t69 := ia_add e69 ⟨by omega, by omega⟩
          refine va_iast hx hb hK hP hD hS 1 1 rfl rfl (ia_in ⟨by omega, by omega⟩) d_Sh_closeLongerThan_70 (fun H locs hP hD hS => ?_)
          obtain ⟨f70, q70⟩ : ∃ z, z = upd fbz v63.toInt.toNat v69 := ⟨_, rfl⟩
          have hP : va_P D classes [(so, .inr (1, [.ref bs, .int dp, .int rtz, .ref la, .ref ca, .ref ha, .int v30])), (bs, .inl (cI, 4, .inl (upd fbz v63.toInt.toNat v69))), (la, .inl (cI, mb, .inl fl)), (ca, .inl (cI, mb, .inl fch)), (ha, .inl (cI, mb, .inl fh))] H := hP
          have hD : va_D A [(so, .inr (1, [.ref bs, .int dp, .int rtz, .ref la, .ref ca, .ref ha, .int v30])), (bs, .inl (cI, 4, .inl (upd fbz v63.toInt.toNat v69))), (la, .inl (cI, mb, .inl fl)), (ca, .inl (cI, mb, .inl fch)), (ha, .inl (cI, mb, .inl fh))] := hD
          rw [← q70] at hP hD
          refine lv_aload_n hx hb d_Sh_closeLongerThan_71 rfl (lv_at hl 1 rfl) ?_
          refine va_get (D := D) (ci := 1) (v := .ref la) (C := R_Sh) (T := F_Sh) (N := 7) hx hb hts in_Sh hown hK hP 0 rfl rfl 3 (by decide) (hts _ tw_97) (fun _ h9 => h9) rfl d_Sh_closeLongerThan_72 ?_
          refine lv_aload_n hx hb d_Sh_closeLongerThan_75 rfl (lv_at hl 1 rfl) ?_
          refine va_get (D := D) (ci := 1) (v := .int v30) (C := R_Sh) (T := F_Sh) (N := 7) hx hb hts in_Sh hown hK hP 0 rfl rfl 6 (by decide) (hts _ tw_100) (fun _ h9 => h9) rfl d_Sh_closeLongerThan_76 ?_
          refine va_iald hx hb hK hP 2 1 rfl rfl (ia_in ⟨by omega, by omega⟩) d_Sh_closeLongerThan_79 ?_
          refine lv_topi (fun v79 e79 => ?_)
          have e79 : v79 = fl v30.toInt.toNat := e79
          have w6 : v79.toInt = (l9 : Int) := by rw [e79, show v30.toInt.toNat = v18.toInt.toNat by omega, ← e19]; exact w2
          refine lv_if_ne hx hb d_Sh_closeLongerThan_80 (tgt := 2) (by decide) (fun g80 => ?_) (fun g80 => ?_)
          · have g80 := (iz_ne).mp g80
            exact ih2 v46 r9 (cb_up Bc (cb_size c9)) (if l9 = 0 then c9 else rc) rtz v30 f70 H locs ls hl hP hD hS (by omega) (by rw [show v30.toInt.toNat = opz.toInt.toNat - 1 by omega]; exact w5) (by omega) (by rw [hmx]; exact sk_pop h4x) (fun j hj => by
                  rw [q70]
                  unfold upd cb_up
                  have hsz : v63.toInt.toNat = cb_size c9 := by have h10 := e63.1; rw [show v62.toInt.toNat = c9 by omega] at h10; omega
                  by_cases h9 : j = v63.toInt.toNat
                  · rw [if_pos h9, if_pos (by rw [h9, hsz]), t69, e67, ← h9, h5 j hj]; omega
                  · rw [if_neg h9, if_neg (by rw [← hsz]; exact h9)]; exact h5 j hj) (by first
                  | (rw [if_pos (by omega)]; omega)
                  | (rw [if_neg (by omega)]; exact h6)) (by rw [hmx]; rw [cb_close, if_pos (by omega)] at h7x; exact h7x) (by omega)
          · have g80 := (iz_eq).mp g80
            refine lv_aload_n hx hb d_Sh_closeLongerThan_83 rfl (lv_at hl 1 rfl) ?_
            refine lv_aload_n hx hb d_Sh_closeLongerThan_84 rfl (lv_at hl 1 rfl) ?_
            refine va_get (D := D) (ci := 1) (v := .ref ca) (C := R_Sh) (T := F_Sh) (N := 7) hx hb hts in_Sh hown hK hP 0 rfl rfl 4 (by decide) (hts _ tw_98) (fun _ h9 => h9) rfl d_Sh_closeLongerThan_85 ?_
            refine lv_aload_n hx hb d_Sh_closeLongerThan_88 rfl (lv_at hl 1 rfl) ?_
            refine va_get (D := D) (ci := 1) (v := .int v30) (C := R_Sh) (T := F_Sh) (N := 7) hx hb hts in_Sh hown hK hP 0 rfl rfl 6 (by decide) (hts _ tw_100) (fun _ h9 => h9) rfl d_Sh_closeLongerThan_89 ?_
            refine va_iald hx hb hK hP 3 1 rfl rfl (ia_in ⟨by omega, by omega⟩) d_Sh_closeLongerThan_92 ?_
            refine lv_topi (fun v92 e92 => ?_)
            have e92 : v92 = fch v30.toInt.toNat := e92
            have w7 : v92.toInt = (c9 : Int) := by rw [e92, ← e62]; exact w3
            refine va_put (D := D) (ci := 1) (v := .int v92) (ty := .int) (C := R_Sh) (T := F_Sh) (N := 7) hx hb hts in_Sh t_Sh t_Sh_ok n_Sh hown hK hP hD hS 0 rfl rfl 2 (by decide) (hts _ tw_95) (fun _ h9 => h9) rfl (by decide +kernel) rfl rfl (Nat.le_of_ble_eq_true rfl) d_Sh_closeLongerThan_93 (fun H locs hP hD hS => ?_)
            have hP : va_P D classes [(so, .inr (1, [.ref bs, .int dp, .int v92, .ref la, .ref ca, .ref ha, .int v30])), (bs, .inl (cI, 4, .inl f70)), (la, .inl (cI, mb, .inl fl)), (ca, .inl (cI, mb, .inl fch)), (ha, .inl (cI, mb, .inl fh))] H := hP
            have hD : va_D A [(so, .inr (1, [.ref bs, .int dp, .int v92, .ref la, .ref ca, .ref ha, .int v30])), (bs, .inl (cI, 4, .inl f70)), (la, .inl (cI, mb, .inl fl)), (ca, .inl (cI, mb, .inl fch)), (ha, .inl (cI, mb, .inl fh))] := hD
            refine lv_goto hx hb d_Sh_closeLongerThan_96 (tgt := 2) (by decide) ?_
            exact ih2 v46 r9 (cb_up Bc (cb_size c9)) (if l9 = 0 then c9 else rc) v92 v30 f70 H locs ls hl hP hD hS (by omega) (by rw [show v30.toInt.toNat = opz.toInt.toNat - 1 by omega]; exact w5) (by omega) (by rw [hmx]; exact sk_pop h4x) (fun j hj => by
                  rw [q70]
                  unfold upd cb_up
                  have hsz : v63.toInt.toNat = cb_size c9 := by have h10 := e63.1; rw [show v62.toInt.toNat = c9 by omega] at h10; omega
                  by_cases h9 : j = v63.toInt.toNat
                  · rw [if_pos h9, if_pos (by rw [h9, hsz]), t69, e67, ← h9, h5 j hj]; omega
                  · rw [if_neg h9, if_neg (by rw [← hsz]; exact h9)]; exact h5 j hj) (by first
                  | (rw [if_pos (by omega)]; omega)
                  | (rw [if_neg (by omega)]; exact h6)) (by rw [hmx]; rw [cb_close, if_pos (by omega)] at h7x; exact h7x) (by omega)
  exact lp2 _ v0 st0 B0 r0 rt opn fb s.heap [] ls hl hP hD hS (by omega) (hrep) (by omega) (by rw [show v0.toInt.toNat = 0 by omega]; exact hsk) (hB) (hrt) (by rw [show v0.toInt.toNat = 0 by omega]) (Nat.lt_succ_self _)
set_option maxRecDepth 100000 in
set_option maxHeartbeats 4000000 in
theorem c_Sh_addChild (l : Launch) (D : va_G) (cL cI : ClassId) (so bs la ca ha mb : Nat) (dp rt opn : Int32) (fb fl fch fh : Nat → Int32) (ln hb0 : Int32) (NN v0 h0 : Nat) (st0 : cb_St) (B0 : Nat → Nat) (sz : Nat) (hmb : mb ≤ 64) (hop : 0 ≤ opn.toInt ∧ opn.toInt ≤ (mb : Int)) (hrep : sh_rep fl fch fh opn.toInt.toNat st0) (hNN : NN ≤ 4000) (hsk : sk_all NN st0 h0 B0) (hln : ln.toInt = (v0 : Int)) (hh0 : hb0.toInt = (h0 : Int)) (hroom : (∀ l ch ht r, st0 = (l, ch, ht) :: r → l ≠ v0) → opn.toInt < (mb : Int)) : Met l y_Sh_addChild (Cond.code y_Sh_addChild prog_3_method_4_code 3 none :: TW) ({ frames := 1, cells := 0, slots := 0, locals := 40 } : Room) (PM D cL cI [.ref so, .int ln, .int hb0] [(so, .inr (1, [.ref bs, .int dp, .int rt, .ref la, .ref ca, .ref ha, .int opn])), (bs, .inl (cI, 4, .inl fb)), (la, .inl (cI, mb, .inl fl)), (ca, .inl (cI, mb, .inl fch)), (ha, .inl (cI, mb, .inl fh))] sz) (va_Qv (fun (u : (Int32) × (Nat → Int32) × (Nat → Int32) × (Nat → Int32)) => sh_rep u.2.1 u.2.2.1 u.2.2.2 u.1.toInt.toNat (cb_add v0 h0 st0) ∧ 0 ≤ u.1.toInt ∧ u.1.toInt ≤ (mb : Int)) (fun (u : (Int32) × (Nat → Int32) × (Nat → Int32) × (Nat → Int32)) (t : State) => va_P D classes [(so, .inr (1, [.ref bs, .int dp, .int rt, .ref la, .ref ca, .ref ha, .int u.1])), (bs, .inl (cI, 4, .inl fb)), (la, .inl (cI, mb, .inl u.2.1)), (ca, .inl (cI, mb, .inl u.2.2.1)), (ha, .inl (cI, mb, .inl u.2.2.2))] t.heap ∧ va_K D classes (tyz cL cI) t ∧ va_D (va_A [(so, .inr (1, [.ref bs, .int dp, .int rt, .ref la, .ref ca, .ref ha, .int opn])), (bs, .inl (cI, 4, .inl fb)), (la, .inl (cI, mb, .inl fl)), (ca, .inl (cI, mb, .inl fch)), (ha, .inl (cI, mb, .inl fh))] sz) [(so, .inr (1, [.ref bs, .int dp, .int rt, .ref la, .ref ca, .ref ha, .int u.1])), (bs, .inl (cI, 4, .inl fb)), (la, .inl (cI, mb, .inl u.2.1)), (ca, .inl (cI, mb, .inl u.2.2.1)), (ha, .inl (cI, mb, .inl u.2.2.2))]) (va_A [(so, .inr (1, [.ref bs, .int dp, .int rt, .ref la, .ref ca, .ref ha, .int opn])), (bs, .inl (cI, 4, .inl fb)), (la, .inl (cI, mb, .inl fl)), (ca, .inl (cI, mb, .inl fch)), (ha, .inl (cI, mb, .inl fh))] sz)) 0 0 (va_A [(so, .inr (1, [.ref bs, .int dp, .int rt, .ref la, .ref ca, .ref ha, .int opn])), (bs, .inl (cI, 4, .inl fb)), (la, .inl (cI, mb, .inl fl)), (ca, .inl (cI, mb, .inl fch)), (ha, .inl (cI, mb, .inl fh))] sz) := by
  refine xr_met (by decide) ?_
  intro p e s m args below meth c hx hb hr hts hown hlocks hname hml hv
  obtain ⟨rfl, hsz, hP, hK, hD0⟩ := hv
  subst hsz
  have hD := hD0.self (sz := s.heap.size)
  generalize hAe : va_A [(so, .inr (1, [.ref bs, .int dp, .int rt, .ref la, .ref ca, .ref ha, .int opn])), (bs, .inl (cI, 4, .inl fb)), (la, .inl (cI, mb, .inl fl)), (ca, .inl (cI, mb, .inl fch)), (ha, .inl (cI, mb, .inl fh))] s.heap.size = A at hD ⊢
  have hA : ∀ q : Nat, s.heap.size ≤ q → A q := fun q h => by rw [← hAe]; exact Or.inr h
  have hS : va_S A s.heap s.heap [] := va_S.rf
  have hD : va_D A [(so, .inr (1, [.ref bs, .int dp, .int rt, .ref la, .ref ca, .ref ha, .int opn])), (bs, .inl (cI, 4, .inl fb)), (la, .inl (cI, mb, .inl fl)), (ca, .inl (cI, mb, .inl fch)), (ha, .inl (cI, mb, .inl fh))] := hD
  have hown : s.vm.findClass "BranchStore$Shape" = some m.cls := hown
  have hP : va_P D classes [(so, .inr (1, [.ref bs, .int dp, .int rt, .ref la, .ref ca, .ref ha, .int opn])), (bs, .inl (cI, 4, .inl fb)), (la, .inl (cI, mb, .inl fl)), (ca, .inl (cI, mb, .inl fch)), (ha, .inl (cI, mb, .inl fh))] s.heap := hP
  have hl := lv_entry ([.ref so, .int ln, .int hb0]) (n := 3) (Nat.le_of_ble_eq_true rfl)
  rw [lg_entry_eq]
  generalize (lg_sl ([.ref so, .int ln, .int hb0]) ++ List.replicate (3 - (lg_sl ([.ref so, .int ln, .int hb0])).length) Slot.unset).toArray = ls at hl ⊢
  have hl : lv_has ls 3 [(0, .ref so), (1, .int ln), (2, .int hb0)] := hl
  obtain ⟨Q, hQ⟩ : ∃ Q, Q = MQ below (va_Qv (fun (u : (Int32) × (Nat → Int32) × (Nat → Int32) × (Nat → Int32)) => sh_rep u.2.1 u.2.2.1 u.2.2.2 u.1.toInt.toNat (cb_add v0 h0 st0) ∧ 0 ≤ u.1.toInt ∧ u.1.toInt ≤ (mb : Int)) (fun (u : (Int32) × (Nat → Int32) × (Nat → Int32) × (Nat → Int32)) (t : State) => va_P D classes [(so, .inr (1, [.ref bs, .int dp, .int rt, .ref la, .ref ca, .ref ha, .int u.1])), (bs, .inl (cI, 4, .inl fb)), (la, .inl (cI, mb, .inl u.2.1)), (ca, .inl (cI, mb, .inl u.2.2.1)), (ha, .inl (cI, mb, .inl u.2.2.2))] t.heap ∧ va_K D classes (tyz cL cI) t ∧ va_D (A) [(so, .inr (1, [.ref bs, .int dp, .int rt, .ref la, .ref ca, .ref ha, .int u.1])), (bs, .inl (cI, 4, .inl fb)), (la, .inl (cI, mb, .inl u.2.1)), (ca, .inl (cI, mb, .inl u.2.2.1)), (ha, .inl (cI, mb, .inl u.2.2.2))]) (A)) ([.ref so, .int ln, .int hb0] : List Value).toArray s 0 0 A := ⟨_, rfl⟩
  rw [← hQ]
  have hrg_ln := ia_rng ln
  have hrg_hb0 := ia_rng hb0
  have hbd := hsk.2.1
  refine lv_aload_n hx hb d_Sh_addChild_0 rfl (lv_at hl 0 rfl) ?_
  refine va_get (D := D) (ci := 1) (v := .int opn) (C := R_Sh) (T := F_Sh) (N := 7) hx hb hts in_Sh hown hK hP 0 rfl rfl 6 (by decide) (hts _ tw_100) (fun _ h9 => h9) rfl d_Sh_addChild_1 ?_
  refine lv_if_le hx hb d_Sh_addChild_4 (tgt := 68) (by decide) (fun g4 => ?_) (fun g4 => ?_)
  · have g4 := (iz_le).mp g4
    have hroom2 : opn.toInt < (mb : Int) := hroom (fun l ch ht r hq => by
          first
          | (rw [sh_rep_nil hrep (by omega)] at hq; cases hq)
          | (rw [hst] at hq; cases hq; omega))
    refine lv_aload_n hx hb d_Sh_addChild_68 rfl (lv_at hl 0 rfl) ?_
    refine va_get (D := D) (ci := 1) (v := .ref la) (C := R_Sh) (T := F_Sh) (N := 7) hx hb hts in_Sh hown hK hP 0 rfl rfl 3 (by decide) (hts _ tw_97) (fun _ h9 => h9) rfl d_Sh_addChild_69 ?_
    refine lv_aload_n hx hb d_Sh_addChild_72 rfl (lv_at hl 0 rfl) ?_
    refine va_get (D := D) (ci := 1) (v := .int opn) (C := R_Sh) (T := F_Sh) (N := 7) hx hb hts in_Sh hown hK hP 0 rfl rfl 6 (by decide) (hts _ tw_100) (fun _ h9 => h9) rfl d_Sh_addChild_73 ?_
    refine lv_iload_n hx hb d_Sh_addChild_76 rfl (lv_at hl 1 rfl) ?_
    refine va_iast hx hb hK hP hD hS 2 1 rfl rfl (ia_in ⟨by omega, by omega⟩) d_Sh_addChild_77 (fun H locs hP hD hS => ?_)
    obtain ⟨f77, q77⟩ : ∃ z, z = upd fl opn.toInt.toNat ln := ⟨_, rfl⟩
    have hP : va_P D classes [(so, .inr (1, [.ref bs, .int dp, .int rt, .ref la, .ref ca, .ref ha, .int opn])), (bs, .inl (cI, 4, .inl fb)), (la, .inl (cI, mb, .inl (upd fl opn.toInt.toNat ln))), (ca, .inl (cI, mb, .inl fch)), (ha, .inl (cI, mb, .inl fh))] H := hP
    have hD : va_D A [(so, .inr (1, [.ref bs, .int dp, .int rt, .ref la, .ref ca, .ref ha, .int opn])), (bs, .inl (cI, 4, .inl fb)), (la, .inl (cI, mb, .inl (upd fl opn.toInt.toNat ln))), (ca, .inl (cI, mb, .inl fch)), (ha, .inl (cI, mb, .inl fh))] := hD
    rw [← q77] at hP hD
    refine lv_aload_n hx hb d_Sh_addChild_78 rfl (lv_at hl 0 rfl) ?_
    refine va_get (D := D) (ci := 1) (v := .ref ca) (C := R_Sh) (T := F_Sh) (N := 7) hx hb hts in_Sh hown hK hP 0 rfl rfl 4 (by decide) (hts _ tw_98) (fun _ h9 => h9) rfl d_Sh_addChild_79 ?_
    refine lv_aload_n hx hb d_Sh_addChild_82 rfl (lv_at hl 0 rfl) ?_
    refine va_get (D := D) (ci := 1) (v := .int opn) (C := R_Sh) (T := F_Sh) (N := 7) hx hb hts in_Sh hown hK hP 0 rfl rfl 6 (by decide) (hts _ tw_100) (fun _ h9 => h9) rfl d_Sh_addChild_83 ?_
    refine lv_iconst (v := 2) hx hb d_Sh_addChild_86 (by decide) ?_
    refine lv_topi (fun v86 e86 => ?_)
    have t86 : v86.toInt = 2 := by rw [e86]; rfl
    refine va_iast hx hb hK hP hD hS 3 1 rfl rfl (ia_in ⟨by omega, by omega⟩) d_Sh_addChild_87 (fun H locs hP hD hS => ?_)
    obtain ⟨f87, q87⟩ : ∃ z, z = upd fch opn.toInt.toNat v86 := ⟨_, rfl⟩
    have hP : va_P D classes [(so, .inr (1, [.ref bs, .int dp, .int rt, .ref la, .ref ca, .ref ha, .int opn])), (bs, .inl (cI, 4, .inl fb)), (la, .inl (cI, mb, .inl f77)), (ca, .inl (cI, mb, .inl (upd fch opn.toInt.toNat v86))), (ha, .inl (cI, mb, .inl fh))] H := hP
    have hD : va_D A [(so, .inr (1, [.ref bs, .int dp, .int rt, .ref la, .ref ca, .ref ha, .int opn])), (bs, .inl (cI, 4, .inl fb)), (la, .inl (cI, mb, .inl f77)), (ca, .inl (cI, mb, .inl (upd fch opn.toInt.toNat v86))), (ha, .inl (cI, mb, .inl fh))] := hD
    rw [← q87] at hP hD
    refine lv_aload_n hx hb d_Sh_addChild_88 rfl (lv_at hl 0 rfl) ?_
    refine va_get (D := D) (ci := 1) (v := .ref ha) (C := R_Sh) (T := F_Sh) (N := 7) hx hb hts in_Sh hown hK hP 0 rfl rfl 5 (by decide) (hts _ tw_99) (fun _ h9 => h9) rfl d_Sh_addChild_89 ?_
    refine lv_aload_n hx hb d_Sh_addChild_92 rfl (lv_at hl 0 rfl) ?_
    refine va_get (D := D) (ci := 1) (v := .int opn) (C := R_Sh) (T := F_Sh) (N := 7) hx hb hts in_Sh hown hK hP 0 rfl rfl 6 (by decide) (hts _ tw_100) (fun _ h9 => h9) rfl d_Sh_addChild_93 ?_
    refine lv_iload_n hx hb d_Sh_addChild_96 rfl (lv_at hl 2 rfl) ?_
    refine lv_iconst (v := 1) hx hb d_Sh_addChild_97 (by decide) ?_
    refine lv_topi (fun v97 e97 => ?_)
    have t97 : v97.toInt = 1 := by rw [e97]; rfl
    refine lv_iadd hx hb d_Sh_addChild_98 ?_
    refine lv_topi (fun v98 e98 => ?_)
    have t98 := ia_add e98 ⟨by omega, by omega⟩
    refine va_iast hx hb hK hP hD hS 4 1 rfl rfl (ia_in ⟨by omega, by omega⟩) d_Sh_addChild_99 (fun H locs hP hD hS => ?_)
    obtain ⟨f99, q99⟩ : ∃ z, z = upd fh opn.toInt.toNat v98 := ⟨_, rfl⟩
    have hP : va_P D classes [(so, .inr (1, [.ref bs, .int dp, .int rt, .ref la, .ref ca, .ref ha, .int opn])), (bs, .inl (cI, 4, .inl fb)), (la, .inl (cI, mb, .inl f77)), (ca, .inl (cI, mb, .inl f87)), (ha, .inl (cI, mb, .inl (upd fh opn.toInt.toNat v98)))] H := hP
    have hD : va_D A [(so, .inr (1, [.ref bs, .int dp, .int rt, .ref la, .ref ca, .ref ha, .int opn])), (bs, .inl (cI, 4, .inl fb)), (la, .inl (cI, mb, .inl f77)), (ca, .inl (cI, mb, .inl f87)), (ha, .inl (cI, mb, .inl (upd fh opn.toInt.toNat v98)))] := hD
    rw [← q99] at hP hD
    refine lv_aload_n hx hb d_Sh_addChild_100 rfl (lv_at hl 0 rfl) ?_
    refine lv_dup hx hb d_Sh_addChild_101 rfl ?_
    refine va_get (D := D) (ci := 1) (v := .int opn) (C := R_Sh) (T := F_Sh) (N := 7) hx hb hts in_Sh hown hK hP 0 rfl rfl 6 (by decide) (hts _ tw_100) (fun _ h9 => h9) rfl d_Sh_addChild_102 ?_
    refine lv_iconst (v := 1) hx hb d_Sh_addChild_105 (by decide) ?_
    refine lv_topi (fun v105 e105 => ?_)
    have t105 : v105.toInt = 1 := by rw [e105]; rfl
    refine lv_iadd hx hb d_Sh_addChild_106 ?_
    refine lv_topi (fun v106 e106 => ?_)
    have t106 := ia_add e106 ⟨by omega, by omega⟩
    refine va_put (D := D) (ci := 1) (v := .int v106) (ty := .int) (C := R_Sh) (T := F_Sh) (N := 7) hx hb hts in_Sh t_Sh t_Sh_ok n_Sh hown hK hP hD hS 0 rfl rfl 6 (by decide) (hts _ tw_100) (fun _ h9 => h9) rfl (by decide +kernel) rfl rfl (Nat.le_of_ble_eq_true rfl) d_Sh_addChild_107 (fun H locs hP hD hS => ?_)
    have hP : va_P D classes [(so, .inr (1, [.ref bs, .int dp, .int rt, .ref la, .ref ca, .ref ha, .int v106])), (bs, .inl (cI, 4, .inl fb)), (la, .inl (cI, mb, .inl f77)), (ca, .inl (cI, mb, .inl f87)), (ha, .inl (cI, mb, .inl f99))] H := hP
    have hD : va_D A [(so, .inr (1, [.ref bs, .int dp, .int rt, .ref la, .ref ca, .ref ha, .int v106])), (bs, .inl (cI, 4, .inl fb)), (la, .inl (cI, mb, .inl f77)), (ca, .inl (cI, mb, .inl f87)), (ha, .inl (cI, mb, .inl f99))] := hD
    have hpost : sh_rep f77 f87 f99 v106.toInt.toNat (cb_add v0 h0 st0) ∧ 0 ≤ v106.toInt ∧ v106.toInt ≤ (mb : Int) := by
      first
      | (rw [hst, cb_add, if_pos (show l9 = v0 by omega)]
         refine ⟨?_, by omega, by omega⟩
         rw [show opn.toInt.toNat = (opn.toInt.toNat - 1) + 1 by omega]
         refine ⟨l9, c9 + 1, max h9z (h0 + 1), r9, rfl, ?_, ?_, ?_, sh_rep_congr _ _ (fun j hj => ⟨rfl, ?_, ?_⟩) w5⟩
         · rw [show opn.toInt.toNat - 1 = v16.toInt.toNat by omega, ← e17]; exact w2
         · rw [q36]; unfold upd; rw [if_pos (by omega)]; omega
         · rw [q64]; unfold upd; rw [if_pos (by omega)]; exact hmx
         · rw [q36]; unfold upd; rw [if_neg (by omega)]
         · rw [q64]; unfold upd; rw [if_neg (by omega)])
      | (have hadd : cb_add v0 h0 st0 = (v0, 2, h0 + 1) :: st0 := by
           first
           | (rw [sh_rep_nil hrep (by omega)]; rfl)
           | (rw [hst, cb_add, if_neg (by omega)])
         rw [hadd]
         refine ⟨?_, by omega, by omega⟩
         rw [show v106.toInt.toNat = opn.toInt.toNat + 1 by omega]
         refine ⟨v0, 2, h0 + 1, st0, rfl, ?_, ?_, ?_, sh_rep_congr _ _ (fun j hj => ⟨?_, ?_, ?_⟩) hrep⟩
         · rw [q77]; unfold upd; rw [if_pos rfl]; exact hln
         · rw [q87]; unfold upd; rw [if_pos rfl]; omega
         · rw [q99]; unfold upd; rw [if_pos rfl]; omega
         · rw [q77]; unfold upd; rw [if_neg (by omega)]
         · rw [q87]; unfold upd; rw [if_neg (by omega)]
         · rw [q99]; unfold upd; rw [if_neg (by omega)])
    have hP9 := hP.sub (ws' := [(so, .inr (1, [.ref bs, .int dp, .int rt, .ref la, .ref ca, .ref ha, .int v106])), (bs, .inl (cI, 4, .inl fb)), (la, .inl (cI, mb, .inl f77)), (ca, .inl (cI, mb, .inl f87)), (ha, .inl (cI, mb, .inl f99))]) [0, 1, 2, 3, 4] rfl
    have hD9 := hD.sub (ws' := [(so, .inr (1, [.ref bs, .int dp, .int rt, .ref la, .ref ca, .ref ha, .int v106])), (bs, .inl (cI, 4, .inl fb)), (la, .inl (cI, mb, .inl f77)), (ca, .inl (cI, mb, .inl f87)), (ha, .inl (cI, mb, .inl f99))]) [0, 1, 2, 3, 4] (by decide) rfl
    rw [hQ]
    exact W.vret hx hb hr (fun t ht hW => ⟨⟨(v106, f77, f87, f99), rfl, hpost, by rw [ht]; exact hP9, va_K.moved hW.alike hK, hD9⟩, hS.F ht⟩) hS.2.2 d_Sh_addChild_110
  · have g4 := (iz_nle).mp g4
    obtain ⟨l9, c9, h9z, r9, hst, w2, w3, w4, w5⟩ := sh_rep_pos hrep (by omega)
    rw [hst] at hsk hbd
    have hsk1 := hsk.1.1
    have hsk2 := hsk.1.2.1
    rw [List.length_cons] at hbd
    refine lv_aload_n hx hb d_Sh_addChild_7 rfl (lv_at hl 0 rfl) ?_
    refine va_get (D := D) (ci := 1) (v := .ref la) (C := R_Sh) (T := F_Sh) (N := 7) hx hb hts in_Sh hown hK hP 0 rfl rfl 3 (by decide) (hts _ tw_97) (fun _ h9 => h9) rfl d_Sh_addChild_8 ?_
    refine lv_aload_n hx hb d_Sh_addChild_11 rfl (lv_at hl 0 rfl) ?_
    refine va_get (D := D) (ci := 1) (v := .int opn) (C := R_Sh) (T := F_Sh) (N := 7) hx hb hts in_Sh hown hK hP 0 rfl rfl 6 (by decide) (hts _ tw_100) (fun _ h9 => h9) rfl d_Sh_addChild_12 ?_
    refine lv_iconst (v := 1) hx hb d_Sh_addChild_15 (by decide) ?_
    refine lv_topi (fun v15 e15 => ?_)
    have t15 : v15.toInt = 1 := by rw [e15]; rfl
    refine lv_isub hx hb d_Sh_addChild_16 ?_
    refine lv_topi (fun v16 e16 => ?_)
    have t16 := ia_sub e16 ⟨by omega, by omega⟩
    refine va_iald hx hb hK hP 2 1 rfl rfl (ia_in ⟨by omega, by omega⟩) d_Sh_addChild_17 ?_
    refine lv_topi (fun v17 e17 => ?_)
    have e17 : v17 = fl v16.toInt.toNat := e17
    have w2 : v17.toInt = (l9 : Int) := by rw [e17, show v16.toInt.toNat = opn.toInt.toNat - 1 by omega]; exact w2
    refine lv_iload_n hx hb d_Sh_addChild_18 rfl (lv_at hl 1 rfl) ?_
    refine lv_icmp_ne hx hb d_Sh_addChild_19 (tgt := 68) (by decide) (fun g19 => ?_) (fun g19 => ?_)
    · have g19 := ic_ne.mp g19
      have hroom2 : opn.toInt < (mb : Int) := hroom (fun l ch ht r hq => by
            first
            | (rw [sh_rep_nil hrep (by omega)] at hq; cases hq)
            | (rw [hst] at hq; cases hq; omega))
      refine lv_aload_n hx hb d_Sh_addChild_68 rfl (lv_at hl 0 rfl) ?_
      refine va_get (D := D) (ci := 1) (v := .ref la) (C := R_Sh) (T := F_Sh) (N := 7) hx hb hts in_Sh hown hK hP 0 rfl rfl 3 (by decide) (hts _ tw_97) (fun _ h9 => h9) rfl d_Sh_addChild_69 ?_
      refine lv_aload_n hx hb d_Sh_addChild_72 rfl (lv_at hl 0 rfl) ?_
      refine va_get (D := D) (ci := 1) (v := .int opn) (C := R_Sh) (T := F_Sh) (N := 7) hx hb hts in_Sh hown hK hP 0 rfl rfl 6 (by decide) (hts _ tw_100) (fun _ h9 => h9) rfl d_Sh_addChild_73 ?_
      refine lv_iload_n hx hb d_Sh_addChild_76 rfl (lv_at hl 1 rfl) ?_
      refine va_iast hx hb hK hP hD hS 2 1 rfl rfl (ia_in ⟨by omega, by omega⟩) d_Sh_addChild_77 (fun H locs hP hD hS => ?_)
      obtain ⟨f77, q77⟩ : ∃ z, z = upd fl opn.toInt.toNat ln := ⟨_, rfl⟩
      have hP : va_P D classes [(so, .inr (1, [.ref bs, .int dp, .int rt, .ref la, .ref ca, .ref ha, .int opn])), (bs, .inl (cI, 4, .inl fb)), (la, .inl (cI, mb, .inl (upd fl opn.toInt.toNat ln))), (ca, .inl (cI, mb, .inl fch)), (ha, .inl (cI, mb, .inl fh))] H := hP
      have hD : va_D A [(so, .inr (1, [.ref bs, .int dp, .int rt, .ref la, .ref ca, .ref ha, .int opn])), (bs, .inl (cI, 4, .inl fb)), (la, .inl (cI, mb, .inl (upd fl opn.toInt.toNat ln))), (ca, .inl (cI, mb, .inl fch)), (ha, .inl (cI, mb, .inl fh))] := hD
      rw [← q77] at hP hD
      refine lv_aload_n hx hb d_Sh_addChild_78 rfl (lv_at hl 0 rfl) ?_
      refine va_get (D := D) (ci := 1) (v := .ref ca) (C := R_Sh) (T := F_Sh) (N := 7) hx hb hts in_Sh hown hK hP 0 rfl rfl 4 (by decide) (hts _ tw_98) (fun _ h9 => h9) rfl d_Sh_addChild_79 ?_
      refine lv_aload_n hx hb d_Sh_addChild_82 rfl (lv_at hl 0 rfl) ?_
      refine va_get (D := D) (ci := 1) (v := .int opn) (C := R_Sh) (T := F_Sh) (N := 7) hx hb hts in_Sh hown hK hP 0 rfl rfl 6 (by decide) (hts _ tw_100) (fun _ h9 => h9) rfl d_Sh_addChild_83 ?_
      refine lv_iconst (v := 2) hx hb d_Sh_addChild_86 (by decide) ?_
      refine lv_topi (fun v86 e86 => ?_)
      have t86 : v86.toInt = 2 := by rw [e86]; rfl
      refine va_iast hx hb hK hP hD hS 3 1 rfl rfl (ia_in ⟨by omega, by omega⟩) d_Sh_addChild_87 (fun H locs hP hD hS => ?_)
      obtain ⟨f87, q87⟩ : ∃ z, z = upd fch opn.toInt.toNat v86 := ⟨_, rfl⟩
      have hP : va_P D classes [(so, .inr (1, [.ref bs, .int dp, .int rt, .ref la, .ref ca, .ref ha, .int opn])), (bs, .inl (cI, 4, .inl fb)), (la, .inl (cI, mb, .inl f77)), (ca, .inl (cI, mb, .inl (upd fch opn.toInt.toNat v86))), (ha, .inl (cI, mb, .inl fh))] H := hP
      have hD : va_D A [(so, .inr (1, [.ref bs, .int dp, .int rt, .ref la, .ref ca, .ref ha, .int opn])), (bs, .inl (cI, 4, .inl fb)), (la, .inl (cI, mb, .inl f77)), (ca, .inl (cI, mb, .inl (upd fch opn.toInt.toNat v86))), (ha, .inl (cI, mb, .inl fh))] := hD
      rw [← q87] at hP hD
      refine lv_aload_n hx hb d_Sh_addChild_88 rfl (lv_at hl 0 rfl) ?_
      refine va_get (D := D) (ci := 1) (v := .ref ha) (C := R_Sh) (T := F_Sh) (N := 7) hx hb hts in_Sh hown hK hP 0 rfl rfl 5 (by decide) (hts _ tw_99) (fun _ h9 => h9) rfl d_Sh_addChild_89 ?_
      refine lv_aload_n hx hb d_Sh_addChild_92 rfl (lv_at hl 0 rfl) ?_
      refine va_get (D := D) (ci := 1) (v := .int opn) (C := R_Sh) (T := F_Sh) (N := 7) hx hb hts in_Sh hown hK hP 0 rfl rfl 6 (by decide) (hts _ tw_100) (fun _ h9 => h9) rfl d_Sh_addChild_93 ?_
      refine lv_iload_n hx hb d_Sh_addChild_96 rfl (lv_at hl 2 rfl) ?_
      refine lv_iconst (v := 1) hx hb d_Sh_addChild_97 (by decide) ?_
      refine lv_topi (fun v97 e97 => ?_)
      have t97 : v97.toInt = 1 := by rw [e97]; rfl
      refine lv_iadd hx hb d_Sh_addChild_98 ?_
      refine lv_topi (fun v98 e98 => ?_)
      have t98 := ia_add e98 ⟨by omega, by omega⟩
      refine va_iast hx hb hK hP hD hS 4 1 rfl rfl (ia_in ⟨by omega, by omega⟩) d_Sh_addChild_99 (fun H locs hP hD hS => ?_)
      obtain ⟨f99, q99⟩ : ∃ z, z = upd fh opn.toInt.toNat v98 := ⟨_, rfl⟩
      have hP : va_P D classes [(so, .inr (1, [.ref bs, .int dp, .int rt, .ref la, .ref ca, .ref ha, .int opn])), (bs, .inl (cI, 4, .inl fb)), (la, .inl (cI, mb, .inl f77)), (ca, .inl (cI, mb, .inl f87)), (ha, .inl (cI, mb, .inl (upd fh opn.toInt.toNat v98)))] H := hP
      have hD : va_D A [(so, .inr (1, [.ref bs, .int dp, .int rt, .ref la, .ref ca, .ref ha, .int opn])), (bs, .inl (cI, 4, .inl fb)), (la, .inl (cI, mb, .inl f77)), (ca, .inl (cI, mb, .inl f87)), (ha, .inl (cI, mb, .inl (upd fh opn.toInt.toNat v98)))] := hD
      rw [← q99] at hP hD
      refine lv_aload_n hx hb d_Sh_addChild_100 rfl (lv_at hl 0 rfl) ?_
      refine lv_dup hx hb d_Sh_addChild_101 rfl ?_
      refine va_get (D := D) (ci := 1) (v := .int opn) (C := R_Sh) (T := F_Sh) (N := 7) hx hb hts in_Sh hown hK hP 0 rfl rfl 6 (by decide) (hts _ tw_100) (fun _ h9 => h9) rfl d_Sh_addChild_102 ?_
      refine lv_iconst (v := 1) hx hb d_Sh_addChild_105 (by decide) ?_
      refine lv_topi (fun v105 e105 => ?_)
      have t105 : v105.toInt = 1 := by rw [e105]; rfl
      refine lv_iadd hx hb d_Sh_addChild_106 ?_
      refine lv_topi (fun v106 e106 => ?_)
      have t106 := ia_add e106 ⟨by omega, by omega⟩
      refine va_put (D := D) (ci := 1) (v := .int v106) (ty := .int) (C := R_Sh) (T := F_Sh) (N := 7) hx hb hts in_Sh t_Sh t_Sh_ok n_Sh hown hK hP hD hS 0 rfl rfl 6 (by decide) (hts _ tw_100) (fun _ h9 => h9) rfl (by decide +kernel) rfl rfl (Nat.le_of_ble_eq_true rfl) d_Sh_addChild_107 (fun H locs hP hD hS => ?_)
      have hP : va_P D classes [(so, .inr (1, [.ref bs, .int dp, .int rt, .ref la, .ref ca, .ref ha, .int v106])), (bs, .inl (cI, 4, .inl fb)), (la, .inl (cI, mb, .inl f77)), (ca, .inl (cI, mb, .inl f87)), (ha, .inl (cI, mb, .inl f99))] H := hP
      have hD : va_D A [(so, .inr (1, [.ref bs, .int dp, .int rt, .ref la, .ref ca, .ref ha, .int v106])), (bs, .inl (cI, 4, .inl fb)), (la, .inl (cI, mb, .inl f77)), (ca, .inl (cI, mb, .inl f87)), (ha, .inl (cI, mb, .inl f99))] := hD
      have hpost : sh_rep f77 f87 f99 v106.toInt.toNat (cb_add v0 h0 st0) ∧ 0 ≤ v106.toInt ∧ v106.toInt ≤ (mb : Int) := by
        first
        | (rw [hst, cb_add, if_pos (show l9 = v0 by omega)]
           refine ⟨?_, by omega, by omega⟩
           rw [show opn.toInt.toNat = (opn.toInt.toNat - 1) + 1 by omega]
           refine ⟨l9, c9 + 1, max h9z (h0 + 1), r9, rfl, ?_, ?_, ?_, sh_rep_congr _ _ (fun j hj => ⟨rfl, ?_, ?_⟩) w5⟩
           · rw [show opn.toInt.toNat - 1 = v16.toInt.toNat by omega, ← e17]; exact w2
           · rw [q36]; unfold upd; rw [if_pos (by omega)]; omega
           · rw [q64]; unfold upd; rw [if_pos (by omega)]; exact hmx
           · rw [q36]; unfold upd; rw [if_neg (by omega)]
           · rw [q64]; unfold upd; rw [if_neg (by omega)])
        | (have hadd : cb_add v0 h0 st0 = (v0, 2, h0 + 1) :: st0 := by
             first
             | (rw [sh_rep_nil hrep (by omega)]; rfl)
             | (rw [hst, cb_add, if_neg (by omega)])
           rw [hadd]
           refine ⟨?_, by omega, by omega⟩
           rw [show v106.toInt.toNat = opn.toInt.toNat + 1 by omega]
           refine ⟨v0, 2, h0 + 1, st0, rfl, ?_, ?_, ?_, sh_rep_congr _ _ (fun j hj => ⟨?_, ?_, ?_⟩) hrep⟩
           · rw [q77]; unfold upd; rw [if_pos rfl]; exact hln
           · rw [q87]; unfold upd; rw [if_pos rfl]; omega
           · rw [q99]; unfold upd; rw [if_pos rfl]; omega
           · rw [q77]; unfold upd; rw [if_neg (by omega)]
           · rw [q87]; unfold upd; rw [if_neg (by omega)]
           · rw [q99]; unfold upd; rw [if_neg (by omega)])
      have hP9 := hP.sub (ws' := [(so, .inr (1, [.ref bs, .int dp, .int rt, .ref la, .ref ca, .ref ha, .int v106])), (bs, .inl (cI, 4, .inl fb)), (la, .inl (cI, mb, .inl f77)), (ca, .inl (cI, mb, .inl f87)), (ha, .inl (cI, mb, .inl f99))]) [0, 1, 2, 3, 4] rfl
      have hD9 := hD.sub (ws' := [(so, .inr (1, [.ref bs, .int dp, .int rt, .ref la, .ref ca, .ref ha, .int v106])), (bs, .inl (cI, 4, .inl fb)), (la, .inl (cI, mb, .inl f77)), (ca, .inl (cI, mb, .inl f87)), (ha, .inl (cI, mb, .inl f99))]) [0, 1, 2, 3, 4] (by decide) rfl
      rw [hQ]
      exact W.vret hx hb hr (fun t ht hW => ⟨⟨(v106, f77, f87, f99), rfl, hpost, by rw [ht]; exact hP9, va_K.moved hW.alike hK, hD9⟩, hS.F ht⟩) hS.2.2 d_Sh_addChild_110
    · have g19 := ic_eq.mp g19
      refine lv_aload_n hx hb d_Sh_addChild_22 rfl (lv_at hl 0 rfl) ?_
      refine va_get (D := D) (ci := 1) (v := .ref ca) (C := R_Sh) (T := F_Sh) (N := 7) hx hb hts in_Sh hown hK hP 0 rfl rfl 4 (by decide) (hts _ tw_98) (fun _ h9 => h9) rfl d_Sh_addChild_23 ?_
      refine lv_aload_n hx hb d_Sh_addChild_26 rfl (lv_at hl 0 rfl) ?_
      refine va_get (D := D) (ci := 1) (v := .int opn) (C := R_Sh) (T := F_Sh) (N := 7) hx hb hts in_Sh hown hK hP 0 rfl rfl 6 (by decide) (hts _ tw_100) (fun _ h9 => h9) rfl d_Sh_addChild_27 ?_
      refine lv_iconst (v := 1) hx hb d_Sh_addChild_30 (by decide) ?_
      refine lv_topi (fun v30 e30 => ?_)
      have t30 : v30.toInt = 1 := by rw [e30]; rfl
      refine lv_isub hx hb d_Sh_addChild_31 ?_
      refine lv_topi (fun v31 e31 => ?_)
      have t31 := ia_sub e31 ⟨by omega, by omega⟩
      refine lv_dup2_11 hx hb d_Sh_addChild_32 rfl rfl ?_
      refine va_iald hx hb hK hP 3 1 rfl rfl (ia_in ⟨by omega, by omega⟩) d_Sh_addChild_33 ?_
      refine lv_topi (fun v33 e33 => ?_)
      have e33 : v33 = fch v31.toInt.toNat := e33
      have w3 : v33.toInt = (c9 : Int) := by rw [e33, show v31.toInt.toNat = opn.toInt.toNat - 1 by omega]; exact w3
      refine lv_iconst (v := 1) hx hb d_Sh_addChild_34 (by decide) ?_
      refine lv_topi (fun v34 e34 => ?_)
      have t34 : v34.toInt = 1 := by rw [e34]; rfl
      refine lv_iadd hx hb d_Sh_addChild_35 ?_
      refine lv_topi (fun v35 e35 => ?_)
      have t35 := ia_add e35 ⟨by omega, by omega⟩
      refine va_iast hx hb hK hP hD hS 3 1 rfl rfl (ia_in ⟨by omega, by omega⟩) d_Sh_addChild_36 (fun H locs hP hD hS => ?_)
      obtain ⟨f36, q36⟩ : ∃ z, z = upd fch v31.toInt.toNat v35 := ⟨_, rfl⟩
      have hP : va_P D classes [(so, .inr (1, [.ref bs, .int dp, .int rt, .ref la, .ref ca, .ref ha, .int opn])), (bs, .inl (cI, 4, .inl fb)), (la, .inl (cI, mb, .inl fl)), (ca, .inl (cI, mb, .inl (upd fch v31.toInt.toNat v35))), (ha, .inl (cI, mb, .inl fh))] H := hP
      have hD : va_D A [(so, .inr (1, [.ref bs, .int dp, .int rt, .ref la, .ref ca, .ref ha, .int opn])), (bs, .inl (cI, 4, .inl fb)), (la, .inl (cI, mb, .inl fl)), (ca, .inl (cI, mb, .inl (upd fch v31.toInt.toNat v35))), (ha, .inl (cI, mb, .inl fh))] := hD
      rw [← q36] at hP hD
      refine lv_aload_n hx hb d_Sh_addChild_37 rfl (lv_at hl 0 rfl) ?_
      refine va_get (D := D) (ci := 1) (v := .ref ha) (C := R_Sh) (T := F_Sh) (N := 7) hx hb hts in_Sh hown hK hP 0 rfl rfl 5 (by decide) (hts _ tw_99) (fun _ h9 => h9) rfl d_Sh_addChild_38 ?_
      refine lv_aload_n hx hb d_Sh_addChild_41 rfl (lv_at hl 0 rfl) ?_
      refine va_get (D := D) (ci := 1) (v := .int opn) (C := R_Sh) (T := F_Sh) (N := 7) hx hb hts in_Sh hown hK hP 0 rfl rfl 6 (by decide) (hts _ tw_100) (fun _ h9 => h9) rfl d_Sh_addChild_42 ?_
      refine lv_iconst (v := 1) hx hb d_Sh_addChild_45 (by decide) ?_
      refine lv_topi (fun v45 e45 => ?_)
      have t45 : v45.toInt = 1 := by rw [e45]; rfl
      refine lv_isub hx hb d_Sh_addChild_46 ?_
      refine lv_topi (fun v46 e46 => ?_)
      have t46 := ia_sub e46 ⟨by omega, by omega⟩
      refine lv_aload_n hx hb d_Sh_addChild_47 rfl (lv_at hl 0 rfl) ?_
      refine va_get (D := D) (ci := 1) (v := .ref ha) (C := R_Sh) (T := F_Sh) (N := 7) hx hb hts in_Sh hown hK hP 0 rfl rfl 5 (by decide) (hts _ tw_99) (fun _ h9 => h9) rfl d_Sh_addChild_48 ?_
      refine lv_aload_n hx hb d_Sh_addChild_51 rfl (lv_at hl 0 rfl) ?_
      refine va_get (D := D) (ci := 1) (v := .int opn) (C := R_Sh) (T := F_Sh) (N := 7) hx hb hts in_Sh hown hK hP 0 rfl rfl 6 (by decide) (hts _ tw_100) (fun _ h9 => h9) rfl d_Sh_addChild_52 ?_
      refine lv_iconst (v := 1) hx hb d_Sh_addChild_55 (by decide) ?_
      refine lv_topi (fun v55 e55 => ?_)
      have t55 : v55.toInt = 1 := by rw [e55]; rfl
      refine lv_isub hx hb d_Sh_addChild_56 ?_
      refine lv_topi (fun v56 e56 => ?_)
      have t56 := ia_sub e56 ⟨by omega, by omega⟩
      refine va_iald hx hb hK hP 4 1 rfl rfl (ia_in ⟨by omega, by omega⟩) d_Sh_addChild_57 ?_
      refine lv_topi (fun v57 e57 => ?_)
      have e57 : v57 = fh v56.toInt.toNat := e57
      have w4 : v57.toInt = (h9z : Int) := by rw [e57, show v56.toInt.toNat = opn.toInt.toNat - 1 by omega]; exact w4
      refine lv_iload_n hx hb d_Sh_addChild_58 rfl (lv_at hl 2 rfl) ?_
      refine lv_iconst (v := 1) hx hb d_Sh_addChild_59 (by decide) ?_
      refine lv_topi (fun v59 e59 => ?_)
      have t59 : v59.toInt = 1 := by rw [e59]; rfl
      refine lv_iadd hx hb d_Sh_addChild_60 ?_
      refine lv_topi (fun v60 e60 => ?_)
      have t60 := ia_add e60 ⟨by omega, by omega⟩
      refine va_mmax hx hb (hml.trans hl.1.symm) hown (hts _ tw_232) (hts _ tw_202) (hts _ tw_2) (hts _ tw_203) (Nat.le_of_ble_eq_true rfl) (Nat.le_of_ble_eq_true rfl) (Nat.le_of_ble_eq_true rfl) (Nat.le_of_ble_eq_true rfl) d_Sh_addChild_61 ?_
      refine lv_topi (fun v61 e61 => ?_)
      have t61 : v61.toInt = if v57.toInt < v60.toInt then v60.toInt else v57.toInt := ia_max e61
      have hmx : v61.toInt = ((max h9z (h0 + 1) : Nat) : Int) := by
            rw [Nat.max_def]
            split at t61 <;> split <;> omega
      refine va_iast hx hb hK hP hD hS 4 1 rfl rfl (ia_in ⟨by omega, by omega⟩) d_Sh_addChild_64 (fun H locs hP hD hS => ?_)
      obtain ⟨f64, q64⟩ : ∃ z, z = upd fh v46.toInt.toNat v61 := ⟨_, rfl⟩
      have hP : va_P D classes [(so, .inr (1, [.ref bs, .int dp, .int rt, .ref la, .ref ca, .ref ha, .int opn])), (bs, .inl (cI, 4, .inl fb)), (la, .inl (cI, mb, .inl fl)), (ca, .inl (cI, mb, .inl f36)), (ha, .inl (cI, mb, .inl (upd fh v46.toInt.toNat v61)))] H := hP
      have hD : va_D A [(so, .inr (1, [.ref bs, .int dp, .int rt, .ref la, .ref ca, .ref ha, .int opn])), (bs, .inl (cI, 4, .inl fb)), (la, .inl (cI, mb, .inl fl)), (ca, .inl (cI, mb, .inl f36)), (ha, .inl (cI, mb, .inl (upd fh v46.toInt.toNat v61)))] := hD
      rw [← q64] at hP hD
      refine lv_goto hx hb d_Sh_addChild_65 (tgt := 110) (by decide) ?_
      have hpost : sh_rep fl f36 f64 opn.toInt.toNat (cb_add v0 h0 st0) ∧ 0 ≤ opn.toInt ∧ opn.toInt ≤ (mb : Int) := by
        first
        | (rw [hst, cb_add, if_pos (show l9 = v0 by omega)]
           refine ⟨?_, by omega, by omega⟩
           rw [show opn.toInt.toNat = (opn.toInt.toNat - 1) + 1 by omega]
           refine ⟨l9, c9 + 1, max h9z (h0 + 1), r9, rfl, ?_, ?_, ?_, sh_rep_congr _ _ (fun j hj => ⟨rfl, ?_, ?_⟩) w5⟩
           · rw [show opn.toInt.toNat - 1 = v16.toInt.toNat by omega, ← e17]; exact w2
           · rw [q36]; unfold upd; rw [if_pos (by omega)]; omega
           · rw [q64]; unfold upd; rw [if_pos (by omega)]; exact hmx
           · rw [q36]; unfold upd; rw [if_neg (by omega)]
           · rw [q64]; unfold upd; rw [if_neg (by omega)])
        | (have hadd : cb_add v0 h0 st0 = (v0, 2, h0 + 1) :: st0 := by
             first
             | (rw [sh_rep_nil hrep (by omega)]; rfl)
             | (rw [hst, cb_add, if_neg (by omega)])
           rw [hadd]
           refine ⟨?_, by omega, by omega⟩
           rw [show v106.toInt.toNat = opn.toInt.toNat + 1 by omega]
           refine ⟨v0, 2, h0 + 1, st0, rfl, ?_, ?_, ?_, sh_rep_congr _ _ (fun j hj => ⟨?_, ?_, ?_⟩) hrep⟩
           · rw [q77]; unfold upd; rw [if_pos rfl]; exact hln
           · rw [q87]; unfold upd; rw [if_pos rfl]; omega
           · rw [q99]; unfold upd; rw [if_pos rfl]; omega
           · rw [q77]; unfold upd; rw [if_neg (by omega)]
           · rw [q87]; unfold upd; rw [if_neg (by omega)]
           · rw [q99]; unfold upd; rw [if_neg (by omega)])
      have hP9 := hP.sub (ws' := [(so, .inr (1, [.ref bs, .int dp, .int rt, .ref la, .ref ca, .ref ha, .int opn])), (bs, .inl (cI, 4, .inl fb)), (la, .inl (cI, mb, .inl fl)), (ca, .inl (cI, mb, .inl f36)), (ha, .inl (cI, mb, .inl f64))]) [0, 1, 2, 3, 4] rfl
      have hD9 := hD.sub (ws' := [(so, .inr (1, [.ref bs, .int dp, .int rt, .ref la, .ref ca, .ref ha, .int opn])), (bs, .inl (cI, 4, .inl fb)), (la, .inl (cI, mb, .inl fl)), (ca, .inl (cI, mb, .inl f36)), (ha, .inl (cI, mb, .inl f64))]) [0, 1, 2, 3, 4] (by decide) rfl
      rw [hQ]
      exact W.vret hx hb hr (fun t ht hW => ⟨⟨(opn, fl, f36, f64), rfl, hpost, by rw [ht]; exact hP9, va_K.moved hW.alike hK, hD9⟩, hS.F ht⟩) hS.2.2 d_Sh_addChild_110
