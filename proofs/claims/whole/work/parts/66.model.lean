set_option maxRecDepth 100000 in
set_option maxHeartbeats 4000000 in
theorem c_Mo_encode (l : Launch) (D : va_G) (cL cI : ClassId) (mo m1 m2 m3 m4 m5 m6 m7 m8 m9 ma mb : Nat) (mso mct mfr mcu mth : Int32) (p1 p2 p5 : Nat → Int64) (p3 p4 p6 p7 p8 p9 pa pb : Nat → Int32) (w : Nat) (KW : Nat → Nat → Int64) (to : Nat) (ft : Nat → Int32) (ia : Int32) (sz : Nat) (hws : (mso.toInt = 0 ∧ w = 1) ∨ (mso.toInt = 1 ∧ w = 2) ∨ (mso.toInt = 2 ∧ w = 7)) (hkr : ∀ x, x < 1503 → KR mso.toInt p1 p2 p3 p4 x (KW x)) (hia : 0 ≤ ia.toInt ∧ ia.toInt < 1503) : Met l y_Mo_encode (Cond.code y_Mo_encode prog_6_method_37_code 8 (some .int) :: TW) ({ frames := 1, cells := 0, slots := 0, locals := 40 } : Room) (PM D cL cI [.ref mo, .ref to, .int ia] [(mo, .inr (4, [.int mso, .ref m1, .ref m2, .ref m3, .ref m4, .ref m5, .ref m6, .int mct, .ref m7, .int mfr, .int mcu, .int mth, .ref m8, .ref m9, .ref ma, .ref mb])), (m1, .inl (cL, 1503, .inr (.inl p1))), (m2, .inl (cL, 1503, .inr (.inl p2))), (m3, .inl (cI, 36072, .inl p3)), (m4, .inl (cI, 1503, .inl p4)), (to, .inl (cI, 50, .inl ft))] sz) (va_Qi (fun (r : Int32) (u : (Nat → Int32)) => r.toInt = (cl mso.toInt w p3 p4 ia.toInt.toNat : Int) ∧ ∀ d, d < cl mso.toInt w p3 p4 ia.toInt.toNat → (u d).toInt = (by_w (KW ia.toInt.toNat) d : Int)) (fun (u : (Nat → Int32)) (t : State) => va_P D classes [(mo, .inr (4, [.int mso, .ref m1, .ref m2, .ref m3, .ref m4, .ref m5, .ref m6, .int mct, .ref m7, .int mfr, .int mcu, .int mth, .ref m8, .ref m9, .ref ma, .ref mb])), (m1, .inl (cL, 1503, .inr (.inl p1))), (m2, .inl (cL, 1503, .inr (.inl p2))), (m3, .inl (cI, 36072, .inl p3)), (m4, .inl (cI, 1503, .inl p4)), (to, .inl (cI, 50, .inl u))] t.heap ∧ va_K D classes (tyz cL cI) t ∧ va_D (va_A [(mo, .inr (4, [.int mso, .ref m1, .ref m2, .ref m3, .ref m4, .ref m5, .ref m6, .int mct, .ref m7, .int mfr, .int mcu, .int mth, .ref m8, .ref m9, .ref ma, .ref mb])), (m1, .inl (cL, 1503, .inr (.inl p1))), (m2, .inl (cL, 1503, .inr (.inl p2))), (m3, .inl (cI, 36072, .inl p3)), (m4, .inl (cI, 1503, .inl p4)), (to, .inl (cI, 50, .inl ft))] sz) [(mo, .inr (4, [.int mso, .ref m1, .ref m2, .ref m3, .ref m4, .ref m5, .ref m6, .int mct, .ref m7, .int mfr, .int mcu, .int mth, .ref m8, .ref m9, .ref ma, .ref mb])), (m1, .inl (cL, 1503, .inr (.inl p1))), (m2, .inl (cL, 1503, .inr (.inl p2))), (m3, .inl (cI, 36072, .inl p3)), (m4, .inl (cI, 1503, .inl p4)), (to, .inl (cI, 50, .inl u))]) (va_A [(mo, .inr (4, [.int mso, .ref m1, .ref m2, .ref m3, .ref m4, .ref m5, .ref m6, .int mct, .ref m7, .int mfr, .int mcu, .int mth, .ref m8, .ref m9, .ref ma, .ref mb])), (m1, .inl (cL, 1503, .inr (.inl p1))), (m2, .inl (cL, 1503, .inr (.inl p2))), (m3, .inl (cI, 36072, .inl p3)), (m4, .inl (cI, 1503, .inl p4)), (to, .inl (cI, 50, .inl ft))] sz)) 0 0 (va_A [(mo, .inr (4, [.int mso, .ref m1, .ref m2, .ref m3, .ref m4, .ref m5, .ref m6, .int mct, .ref m7, .int mfr, .int mcu, .int mth, .ref m8, .ref m9, .ref ma, .ref mb])), (m1, .inl (cL, 1503, .inr (.inl p1))), (m2, .inl (cL, 1503, .inr (.inl p2))), (m3, .inl (cI, 36072, .inl p3)), (m4, .inl (cI, 1503, .inl p4)), (to, .inl (cI, 50, .inl ft))] sz) := by
  refine xr_met (by decide) ?_
  intro p e s m args below meth c hx hb hr hts hown hlocks hname hml hv
  obtain ⟨rfl, hsz, hP, hK, hD0⟩ := hv
  subst hsz
  have hD := hD0.self (sz := s.heap.size)
  generalize hAe : va_A [(mo, .inr (4, [.int mso, .ref m1, .ref m2, .ref m3, .ref m4, .ref m5, .ref m6, .int mct, .ref m7, .int mfr, .int mcu, .int mth, .ref m8, .ref m9, .ref ma, .ref mb])), (m1, .inl (cL, 1503, .inr (.inl p1))), (m2, .inl (cL, 1503, .inr (.inl p2))), (m3, .inl (cI, 36072, .inl p3)), (m4, .inl (cI, 1503, .inl p4)), (to, .inl (cI, 50, .inl ft))] s.heap.size = A at hD ⊢
  have hA : ∀ q : Nat, s.heap.size ≤ q → A q := fun q h => by rw [← hAe]; exact Or.inr h
  have hS : va_S A s.heap s.heap [] := va_S.rf
  have hD : va_D A [(mo, .inr (4, [.int mso, .ref m1, .ref m2, .ref m3, .ref m4, .ref m5, .ref m6, .int mct, .ref m7, .int mfr, .int mcu, .int mth, .ref m8, .ref m9, .ref ma, .ref mb])), (m1, .inl (cL, 1503, .inr (.inl p1))), (m2, .inl (cL, 1503, .inr (.inl p2))), (m3, .inl (cI, 36072, .inl p3)), (m4, .inl (cI, 1503, .inl p4)), (to, .inl (cI, 50, .inl ft))] := hD
  have hown : s.vm.findClass "BranchStoreModel" = some m.cls := hown
  have hP : va_P D classes [(mo, .inr (4, [.int mso, .ref m1, .ref m2, .ref m3, .ref m4, .ref m5, .ref m6, .int mct, .ref m7, .int mfr, .int mcu, .int mth, .ref m8, .ref m9, .ref ma, .ref mb])), (m1, .inl (cL, 1503, .inr (.inl p1))), (m2, .inl (cL, 1503, .inr (.inl p2))), (m3, .inl (cI, 36072, .inl p3)), (m4, .inl (cI, 1503, .inl p4)), (to, .inl (cI, 50, .inl ft))] s.heap := hP
  have hl := lv_entry ([.ref mo, .ref to, .int ia]) (n := 8) (Nat.le_of_ble_eq_true rfl)
  rw [lg_entry_eq]
  generalize (lg_sl ([.ref mo, .ref to, .int ia]) ++ List.replicate (8 - (lg_sl ([.ref mo, .ref to, .int ia])).length) Slot.unset).toArray = ls at hl ⊢
  have hl : lv_has ls 8 [(0, .ref mo), (1, .ref to), (2, .int ia)] := hl
  obtain ⟨Q, hQ⟩ : ∃ Q, Q = MQ below (va_Qi (fun (r : Int32) (u : (Nat → Int32)) => r.toInt = (cl mso.toInt w p3 p4 ia.toInt.toNat : Int) ∧ ∀ d, d < cl mso.toInt w p3 p4 ia.toInt.toNat → (u d).toInt = (by_w (KW ia.toInt.toNat) d : Int)) (fun (u : (Nat → Int32)) (t : State) => va_P D classes [(mo, .inr (4, [.int mso, .ref m1, .ref m2, .ref m3, .ref m4, .ref m5, .ref m6, .int mct, .ref m7, .int mfr, .int mcu, .int mth, .ref m8, .ref m9, .ref ma, .ref mb])), (m1, .inl (cL, 1503, .inr (.inl p1))), (m2, .inl (cL, 1503, .inr (.inl p2))), (m3, .inl (cI, 36072, .inl p3)), (m4, .inl (cI, 1503, .inl p4)), (to, .inl (cI, 50, .inl u))] t.heap ∧ va_K D classes (tyz cL cI) t ∧ va_D (A) [(mo, .inr (4, [.int mso, .ref m1, .ref m2, .ref m3, .ref m4, .ref m5, .ref m6, .int mct, .ref m7, .int mfr, .int mcu, .int mth, .ref m8, .ref m9, .ref ma, .ref mb])), (m1, .inl (cL, 1503, .inr (.inl p1))), (m2, .inl (cL, 1503, .inr (.inl p2))), (m3, .inl (cI, 36072, .inl p3)), (m4, .inl (cI, 1503, .inl p4)), (to, .inl (cI, 50, .inl u))]) (A)) ([.ref mo, .ref to, .int ia] : List Value).toArray s 0 0 A := ⟨_, rfl⟩
  rw [← hQ]
  have hrg_ia := ia_rng ia
  have kx := hkr ia.toInt.toNat (by omega)
  have hcl := cl_le hws kx
  refine lv_iconst (v := 0) hx hb d_Mo_encode_0 (by decide) ?_
  refine lv_topi (fun v0 e0 => ?_)
  have t0 : v0.toInt = 0 := by rw [e0]; rfl
  refine lv_istore_n (lv' := [(3, .int v0), (0, .ref mo), (1, .ref to), (2, .int ia)]) hx hb d_Mo_encode_1 rfl hl (by decide) rfl (fun ls hl => ?_)
  refine lv_aload_n hx hb d_Mo_encode_2 rfl (lv_at hl 1 rfl) ?_
  refine va_get (D := D) (ci := 4) (v := .int mso) (C := R_Mo) (T := F_Mo) (N := 16) hx hb hts in_Mo hown hK hP 0 rfl rfl 0 (by decide) (hts _ tw_603) (fun _ h9 => h9) rfl d_Mo_encode_3 ?_
  refine lv_iconst (v := 2) hx hb d_Mo_encode_6 (by decide) ?_
  refine lv_topi (fun v6 e6 => ?_)
  have t6 : v6.toInt = 2 := by rw [e6]; rfl
  refine lv_icmp_ne hx hb d_Mo_encode_7 (tgt := 88) (by decide) (fun g7 => ?_) (fun g7 => ?_)
  · have g7 := ic_ne.mp g7
    have hs01 : (mso.toInt = 0 ∧ w = 1) ∨ (mso.toInt = 1 ∧ w = 2) := by omega
    have hce : cl mso.toInt w p3 p4 ia.toInt.toNat = 8 * w := by unfold cl; rw [if_neg (by omega)]
    refine lv_iconst (v := 0) hx hb d_Mo_encode_88 (by decide) ?_
    refine lv_topi (fun v88 e88 => ?_)
    have t88 : v88.toInt = 0 := by rw [e88]; rfl
    refine lv_istore (lv' := [(4, .int v88), (3, .int v0), (0, .ref mo), (1, .ref to), (2, .int ia)]) hx hb d_Mo_encode_89 hl (by decide) rfl (fun ls hl => ?_)
    have lp91 : ∀ (fuel91 : Nat) (pt : Int32) (n1 : Int32) (fz : Nat → Int32) (H : Heap) (locs : List Loc) (ls : Array Slot), lv_has ls 8 [(4, .int pt), (3, .int n1), (0, .ref mo), (1, .ref to), (2, .int ia)] → va_P D classes [(mo, .inr (4, [.int mso, .ref m1, .ref m2, .ref m3, .ref m4, .ref m5, .ref m6, .int mct, .ref m7, .int mfr, .int mcu, .int mth, .ref m8, .ref m9, .ref ma, .ref mb])), (m1, .inl (cL, 1503, .inr (.inl p1))), (m2, .inl (cL, 1503, .inr (.inl p2))), (m3, .inl (cI, 36072, .inl p3)), (m4, .inl (cI, 1503, .inl p4)), (to, .inl (cI, 50, .inl fz))] H → va_D A [(mo, .inr (4, [.int mso, .ref m1, .ref m2, .ref m3, .ref m4, .ref m5, .ref m6, .int mct, .ref m7, .int mfr, .int mcu, .int mth, .ref m8, .ref m9, .ref ma, .ref mb])), (m1, .inl (cL, 1503, .inr (.inl p1))), (m2, .inl (cL, 1503, .inr (.inl p2))), (m3, .inl (cI, 36072, .inl p3)), (m4, .inl (cI, 1503, .inl p4)), (to, .inl (cI, 50, .inl fz))] → va_S A s.heap H locs → (0 ≤ pt.toInt) → (pt.toInt ≤ (w : Int)) → (n1.toInt = 8 * pt.toInt) → (∀ d, d < n1.toInt.toNat → (fz d).toInt = (by_w (KW ia.toInt.toNat) d : Int)) → w - pt.toInt.toNat < fuel91 → W p l e ({ frames := 1, cells := 0, slots := 0, locals := 40 } : Room) s m ([.ref mo, .ref to, .int ia] : List Value).toArray below meth c H locs 0 0 Q (F0 m 91 ls []) := by
      intro fuel91
      induction fuel91 with
      | zero => intro pt n1 fz H locs ls hl hP hD hS h1 h2 h3 h4 hm91; exact absurd hm91 (Nat.not_lt_zero _)
      | succ fuel91 ih91 =>
        intro pt n1 fz H locs ls hl hP hD hS h1 h2 h3 h4 hm91
        refine lv_iload hx hb d_Mo_encode_91 (lv_at hl 0 rfl) ?_
        refine lv_aload_n hx hb d_Mo_encode_93 rfl (lv_at hl 2 rfl) ?_
        refine va_get (D := D) (ci := 4) (v := .int mso) (C := R_Mo) (T := F_Mo) (N := 16) hx hb hts in_Mo hown hK hP 0 rfl rfl 0 (by decide) (hts _ tw_603) (fun _ h9 => h9) rfl d_Mo_encode_94 ?_
        refine lv_icmp_gt hx hb d_Mo_encode_97 (tgt := 174) (by decide) (fun g97 => ?_) (fun g97 => ?_)
        · have g97 := ic_lt.mp g97
          refine lv_iload_n hx hb d_Mo_encode_174 rfl (lv_at hl 1 rfl) ?_
          have hpost : n1.toInt = (cl mso.toInt w p3 p4 ia.toInt.toNat : Int) ∧ ∀ d, d < cl mso.toInt w p3 p4 ia.toInt.toNat → (fz d).toInt = (by_w (KW ia.toInt.toNat) d : Int) := ⟨by omega, fun d hd => h4 d (by omega)⟩
          have hP9 := hP.sub (ws' := [(mo, .inr (4, [.int mso, .ref m1, .ref m2, .ref m3, .ref m4, .ref m5, .ref m6, .int mct, .ref m7, .int mfr, .int mcu, .int mth, .ref m8, .ref m9, .ref ma, .ref mb])), (m1, .inl (cL, 1503, .inr (.inl p1))), (m2, .inl (cL, 1503, .inr (.inl p2))), (m3, .inl (cI, 36072, .inl p3)), (m4, .inl (cI, 1503, .inl p4)), (to, .inl (cI, 50, .inl fz))]) [0, 1, 2, 3, 4, 5] rfl
          have hD9 := hD.sub (ws' := [(mo, .inr (4, [.int mso, .ref m1, .ref m2, .ref m3, .ref m4, .ref m5, .ref m6, .int mct, .ref m7, .int mfr, .int mcu, .int mth, .ref m8, .ref m9, .ref ma, .ref mb])), (m1, .inl (cL, 1503, .inr (.inl p1))), (m2, .inl (cL, 1503, .inr (.inl p2))), (m3, .inl (cI, 36072, .inl p3)), (m4, .inl (cI, 1503, .inl p4)), (to, .inl (cI, 50, .inl fz))]) [0, 1, 2, 3, 4, 5] (by decide) rfl
          rw [hQ]
          exact W.iret (v := n1) hx hb hr (fun t ht hW => ⟨⟨n1, (fz), rfl, hpost, by rw [ht]; exact hP9, va_K.moved hW.alike hK, hD9⟩, hS.F ht⟩) hS.2.2 d_Mo_encode_175
        · have g97 := ic_nlt.mp g97
          refine lv_iload hx hb d_Mo_encode_100 (lv_at hl 0 rfl) ?_
          refine lv_if_ne hx hb d_Mo_encode_102 (tgt := 114) (by decide) (fun g102 => ?_) (fun g102 => ?_)
          · have g102 := (iz_ne).mp g102
            refine lv_aload_n hx hb d_Mo_encode_114 rfl (lv_at hl 2 rfl) ?_
            refine va_get (D := D) (ci := 4) (v := .ref m2) (C := R_Mo) (T := F_Mo) (N := 16) hx hb hts in_Mo hown hK hP 0 rfl rfl 2 (by decide) (hts _ tw_605) (fun _ h9 => h9) rfl d_Mo_encode_115 ?_
            refine lv_iload_n hx hb d_Mo_encode_118 rfl (lv_at hl 4 rfl) ?_
            refine va_lald hx hb hK hP 2 0 rfl rfl (ia_in ⟨by omega, by omega⟩) d_Mo_encode_119 ?_
            refine lv_topl (fun v119 e119 => ?_)
            have e119 : v119 = p2 ia.toInt.toNat := e119
            refine lv_lstore (lv' := [(5, .long v119), (4, .int pt), (3, .int n1), (0, .ref mo), (1, .ref to), (2, .int ia)]) hx hb d_Mo_encode_120 hl (by decide) rfl (fun ls hl => ?_)
            have hwd : KW ia.toInt.toNat pt.toInt.toNat = v119 ^^^ (-9223372036854775808) := by
                  rcases kx with h | h | h
                  · first
                    | (exfalso; omega)
                    | (rw [show pt.toInt.toNat = 0 by omega, e110]; exact h.2)
                  · first
                    | (rw [show pt.toInt.toNat = 0 by omega, e110]; exact h.2.1)
                    | (rw [show pt.toInt.toNat = 1 by omega, e119]; exact h.2.2)
                  · exfalso; omega
            refine lv_bipush (v := 56) hx hb d_Mo_encode_122 (by decide) ?_
            refine lv_topi (fun v122 e122 => ?_)
            have t122 : v122.toInt = 56 := by rw [e122]; rfl
            refine lv_istore (lv' := [(7, .int v122), (5, .long v119), (4, .int pt), (3, .int n1), (0, .ref mo), (1, .ref to), (2, .int ia)]) hx hb d_Mo_encode_124 hl (by decide) rfl (fun ls hl => ?_)
            have lp126 : ∀ (fuel126 : Nat) (k2 : Int32) (n2 : Int32) (fy : Nat → Int32) (H : Heap) (locs : List Loc) (ls : Array Slot), lv_has ls 8 [(7, .int k2), (5, .long v119), (4, .int pt), (3, .int n2), (0, .ref mo), (1, .ref to), (2, .int ia)] → va_P D classes [(mo, .inr (4, [.int mso, .ref m1, .ref m2, .ref m3, .ref m4, .ref m5, .ref m6, .int mct, .ref m7, .int mfr, .int mcu, .int mth, .ref m8, .ref m9, .ref ma, .ref mb])), (m1, .inl (cL, 1503, .inr (.inl p1))), (m2, .inl (cL, 1503, .inr (.inl p2))), (m3, .inl (cI, 36072, .inl p3)), (m4, .inl (cI, 1503, .inl p4)), (to, .inl (cI, 50, .inl fy))] H → va_D A [(mo, .inr (4, [.int mso, .ref m1, .ref m2, .ref m3, .ref m4, .ref m5, .ref m6, .int mct, .ref m7, .int mfr, .int mcu, .int mth, .ref m8, .ref m9, .ref ma, .ref mb])), (m1, .inl (cL, 1503, .inr (.inl p1))), (m2, .inl (cL, 1503, .inr (.inl p2))), (m3, .inl (cI, 36072, .inl p3)), (m4, .inl (cI, 1503, .inl p4)), (to, .inl (cI, 50, .inl fy))] → va_S A s.heap H locs → (-8 ≤ k2.toInt ∧ k2.toInt ≤ 56) → (k2.toInt % 8 = 0) → (n2.toInt = 8 * pt.toInt + (56 - k2.toInt) / 8) → (∀ d, d < n2.toInt.toNat → (fy d).toInt = (by_w (KW ia.toInt.toNat) d : Int)) → (k2.toInt + 8).toNat < fuel126 → W p l e ({ frames := 1, cells := 0, slots := 0, locals := 40 } : Room) s m ([.ref mo, .ref to, .int ia] : List Value).toArray below meth c H locs 0 0 Q (F0 m 126 ls []) := by
              intro fuel126
              induction fuel126 with
              | zero => intro k2 n2 fy H locs ls hl hP hD hS k1 k2a k3 k4 hm126; exact absurd hm126 (Nat.not_lt_zero _)
              | succ fuel126 ih126 =>
                intro k2 n2 fy H locs ls hl hP hD hS k1 k2a k3 k4 hm126
                refine lv_iload hx hb d_Mo_encode_126 (lv_at hl 0 rfl) ?_
                refine lv_if_lt hx hb d_Mo_encode_128 (tgt := 168) (by decide) (fun g128 => ?_) (fun g128 => ?_)
                · have g128 := (iz_lt).mp g128
                  obtain ⟨v168, e168⟩ : ∃ z, z = pt + Int32.ofInt 1 := ⟨_, rfl⟩
                  have t168 := ia_inc 1 e168 (by decide) ⟨by omega, by omega⟩
                  refine lv_iinc (k := 2) (lv' := [(4, .int v168), (7, .int k2), (5, .long v119), (3, .int n2), (0, .ref mo), (1, .ref to), (2, .int ia)]) hx hb d_Mo_encode_168 hl rfl e168.symm (by decide) rfl (fun ls hl => ?_)
                  refine lv_goto hx hb d_Mo_encode_171 (tgt := 91) (by decide) ?_
                  exact ih91 v168 n2 fy H locs ls (lv_sub hl [0, 3, 4, 5, 6] rfl) hP hD hS (by omega) (by omega) (by omega) (k4) (by omega)
                · have g128 := (iz_nlt).mp g128
                  refine lv_aload_n hx hb d_Mo_encode_131 rfl (lv_at hl 5 rfl) ?_
                  refine lv_iload_n hx hb d_Mo_encode_132 rfl (lv_at hl 3 rfl) ?_
                  obtain ⟨v133, e133⟩ : ∃ z, z = n2 + Int32.ofInt 1 := ⟨_, rfl⟩
                  have t133 := ia_inc 1 e133 (by decide) ⟨by omega, by omega⟩
                  refine lv_iinc (k := 3) (lv' := [(3, .int v133), (7, .int k2), (5, .long v119), (4, .int pt), (0, .ref mo), (1, .ref to), (2, .int ia)]) hx hb d_Mo_encode_133 hl rfl e133.symm (by decide) rfl (fun ls hl => ?_)
                  refine lv_lload hx hb d_Mo_encode_136 (lv_at hl 2 rfl) ?_
                  refine lv_iload hx hb d_Mo_encode_138 (lv_at hl 1 rfl) ?_
                  refine lv_lshr hx hb d_Mo_encode_140 rfl ?_
                  refine lv_topl (fun v140 e140 => ?_)
                  refine lv_ldc2 (v := 255) hx hb hown (hts _ tw_807) d_Mo_encode_141 ?_
                  refine lv_topl (fun v141 e141 => ?_)
                  refine lv_land hx hb d_Mo_encode_144 ?_
                  refine lv_topl (fun v144 e144 => ?_)
                  refine lv_l2i hx hb d_Mo_encode_145 rfl ?_
                  refine lv_topi (fun v145 e145 => ?_)
                  have hbt := enc_b (k := k2.toInt.toNat) e140 (by rw [e144, e141]) e145 (by omega) (by omega)
                  have hbl : (uN v119 / 2 ^ k2.toInt.toNat % 256) < 256 := Nat.mod_lt _ (by decide)
                  refine lv_iload hx hb d_Mo_encode_146 (lv_at hl 1 rfl) ?_
                  refine lv_bipush (v := 56) hx hb d_Mo_encode_148 (by decide) ?_
                  refine lv_topi (fun v148 e148 => ?_)
                  have t148 : v148.toInt = 56 := by rw [e148]; rfl
                  refine lv_icmp_ne hx hb d_Mo_encode_150 (tgt := 159) (by decide) (fun g150 => ?_) (fun g150 => ?_)
                  · have g150 := ic_ne.mp g150
                    refine lv_iconst (v := 0) hx hb d_Mo_encode_159 (by decide) ?_
                    refine lv_topi (fun v159 e159 => ?_)
                    have t159 : v159.toInt = 0 := by rw [e159]; rfl
                    refine lv_ixor hx hb d_Mo_encode_160 ?_
                    refine lv_topi (fun v160 e160 => ?_)
                    have hby : v160.toInt = (by_w (KW ia.toInt.toNat) n2.toInt.toNat : Int) := by
                          unfold by_w
                          rw [show n2.toInt.toNat / 8 = pt.toInt.toNat by omega, hwd, byx _ (by omega)]
                          first
                          | (have h5 := x128 (e160.trans (by rw [show v153 = 128 from e153])) (by omega)
                             rw [if_pos (by omega), h5, hbt, show k2.toInt.toNat = 56 by omega]
                             omega)
                          | (have h5 := x0 (e160.trans (by rw [show v159 = 0 from e159]))
                             rw [if_neg (by omega), h5, hbt, show 56 - 8 * (n2.toInt.toNat % 8) = k2.toInt.toNat by omega])
                    refine va_iast hx hb hK hP hD hS 5 1 rfl rfl (ia_in ⟨by omega, by omega⟩) d_Mo_encode_161 (fun H locs hP hD hS => ?_)
                    obtain ⟨f161, q161⟩ : ∃ z, z = upd fy n2.toInt.toNat v160 := ⟨_, rfl⟩
                    have hP : va_P D classes [(mo, .inr (4, [.int mso, .ref m1, .ref m2, .ref m3, .ref m4, .ref m5, .ref m6, .int mct, .ref m7, .int mfr, .int mcu, .int mth, .ref m8, .ref m9, .ref ma, .ref mb])), (m1, .inl (cL, 1503, .inr (.inl p1))), (m2, .inl (cL, 1503, .inr (.inl p2))), (m3, .inl (cI, 36072, .inl p3)), (m4, .inl (cI, 1503, .inl p4)), (to, .inl (cI, 50, .inl (upd fy n2.toInt.toNat v160)))] H := hP
                    have hD : va_D A [(mo, .inr (4, [.int mso, .ref m1, .ref m2, .ref m3, .ref m4, .ref m5, .ref m6, .int mct, .ref m7, .int mfr, .int mcu, .int mth, .ref m8, .ref m9, .ref ma, .ref mb])), (m1, .inl (cL, 1503, .inr (.inl p1))), (m2, .inl (cL, 1503, .inr (.inl p2))), (m3, .inl (cI, 36072, .inl p3)), (m4, .inl (cI, 1503, .inl p4)), (to, .inl (cI, 50, .inl (upd fy n2.toInt.toNat v160)))] := hD
                    rw [← q161] at hP hD
                    obtain ⟨v162, e162⟩ : ∃ z, z = k2 + Int32.ofInt (-8) := ⟨_, rfl⟩
                    have t162 := ia_inc (-8) e162 (by decide) ⟨by omega, by omega⟩
                    refine lv_iinc (k := 1) (lv' := [(7, .int v162), (3, .int v133), (5, .long v119), (4, .int pt), (0, .ref mo), (1, .ref to), (2, .int ia)]) hx hb d_Mo_encode_162 hl rfl e162.symm (by decide) rfl (fun ls hl => ?_)
                    refine lv_goto hx hb d_Mo_encode_165 (tgt := 126) (by decide) ?_
                    exact ih126 v162 v133 f161 H locs ls (lv_sub hl [0, 2, 3, 1, 4, 5, 6] rfl) hP hD hS (by omega) (by omega) (by omega) (fun d hd => by
                          rw [q161]
                          unfold upd
                          by_cases h8 : d = n2.toInt.toNat
                          · rw [if_pos h8, h8]; exact hby
                          · rw [if_neg h8]; exact k4 d (by omega)) (by omega)
                  · have g150 := ic_eq.mp g150
                    refine lv_sipush (v := 128) hx hb d_Mo_encode_153 (by decide) ?_
                    refine lv_topi (fun v153 e153 => ?_)
                    have t153 : v153.toInt = 128 := by rw [e153]; rfl
                    refine lv_goto hx hb d_Mo_encode_156 (tgt := 160) (by decide) ?_
                    refine lv_ixor hx hb d_Mo_encode_160 ?_
                    refine lv_topi (fun v160 e160 => ?_)
                    have hby : v160.toInt = (by_w (KW ia.toInt.toNat) n2.toInt.toNat : Int) := by
                          unfold by_w
                          rw [show n2.toInt.toNat / 8 = pt.toInt.toNat by omega, hwd, byx _ (by omega)]
                          first
                          | (have h5 := x128 (e160.trans (by rw [show v153 = 128 from e153])) (by omega)
                             rw [if_pos (by omega), h5, hbt, show k2.toInt.toNat = 56 by omega]
                             omega)
                          | (have h5 := x0 (e160.trans (by rw [show v159 = 0 from e159]))
                             rw [if_neg (by omega), h5, hbt, show 56 - 8 * (n2.toInt.toNat % 8) = k2.toInt.toNat by omega])
                    refine va_iast hx hb hK hP hD hS 5 1 rfl rfl (ia_in ⟨by omega, by omega⟩) d_Mo_encode_161 (fun H locs hP hD hS => ?_)
                    obtain ⟨f161, q161⟩ : ∃ z, z = upd fy n2.toInt.toNat v160 := ⟨_, rfl⟩
                    have hP : va_P D classes [(mo, .inr (4, [.int mso, .ref m1, .ref m2, .ref m3, .ref m4, .ref m5, .ref m6, .int mct, .ref m7, .int mfr, .int mcu, .int mth, .ref m8, .ref m9, .ref ma, .ref mb])), (m1, .inl (cL, 1503, .inr (.inl p1))), (m2, .inl (cL, 1503, .inr (.inl p2))), (m3, .inl (cI, 36072, .inl p3)), (m4, .inl (cI, 1503, .inl p4)), (to, .inl (cI, 50, .inl (upd fy n2.toInt.toNat v160)))] H := hP
                    have hD : va_D A [(mo, .inr (4, [.int mso, .ref m1, .ref m2, .ref m3, .ref m4, .ref m5, .ref m6, .int mct, .ref m7, .int mfr, .int mcu, .int mth, .ref m8, .ref m9, .ref ma, .ref mb])), (m1, .inl (cL, 1503, .inr (.inl p1))), (m2, .inl (cL, 1503, .inr (.inl p2))), (m3, .inl (cI, 36072, .inl p3)), (m4, .inl (cI, 1503, .inl p4)), (to, .inl (cI, 50, .inl (upd fy n2.toInt.toNat v160)))] := hD
                    rw [← q161] at hP hD
                    obtain ⟨v162, e162⟩ : ∃ z, z = k2 + Int32.ofInt (-8) := ⟨_, rfl⟩
                    have t162 := ia_inc (-8) e162 (by decide) ⟨by omega, by omega⟩
                    refine lv_iinc (k := 1) (lv' := [(7, .int v162), (3, .int v133), (5, .long v119), (4, .int pt), (0, .ref mo), (1, .ref to), (2, .int ia)]) hx hb d_Mo_encode_162 hl rfl e162.symm (by decide) rfl (fun ls hl => ?_)
                    refine lv_goto hx hb d_Mo_encode_165 (tgt := 126) (by decide) ?_
                    exact ih126 v162 v133 f161 H locs ls (lv_sub hl [0, 2, 3, 1, 4, 5, 6] rfl) hP hD hS (by omega) (by omega) (by omega) (fun d hd => by
                          rw [q161]
                          unfold upd
                          by_cases h8 : d = n2.toInt.toNat
                          · rw [if_pos h8, h8]; exact hby
                          · rw [if_neg h8]; exact k4 d (by omega)) (by omega)
            exact lp126 _ v122 n1 fz H locs ls hl hP hD hS (by omega) (by omega) (by omega) (h4) (Nat.lt_succ_self _)
          · have g102 := (iz_eq).mp g102
            refine lv_aload_n hx hb d_Mo_encode_105 rfl (lv_at hl 2 rfl) ?_
            refine va_get (D := D) (ci := 4) (v := .ref m1) (C := R_Mo) (T := F_Mo) (N := 16) hx hb hts in_Mo hown hK hP 0 rfl rfl 1 (by decide) (hts _ tw_604) (fun _ h9 => h9) rfl d_Mo_encode_106 ?_
            refine lv_iload_n hx hb d_Mo_encode_109 rfl (lv_at hl 4 rfl) ?_
            refine va_lald hx hb hK hP 1 0 rfl rfl (ia_in ⟨by omega, by omega⟩) d_Mo_encode_110 ?_
            refine lv_topl (fun v110 e110 => ?_)
            have e110 : v110 = p1 ia.toInt.toNat := e110
            refine lv_goto hx hb d_Mo_encode_111 (tgt := 120) (by decide) ?_
            refine lv_lstore (lv' := [(5, .long v110), (4, .int pt), (3, .int n1), (0, .ref mo), (1, .ref to), (2, .int ia)]) hx hb d_Mo_encode_120 hl (by decide) rfl (fun ls hl => ?_)
            have hwd : KW ia.toInt.toNat pt.toInt.toNat = v110 ^^^ (-9223372036854775808) := by
                  rcases kx with h | h | h
                  · first
                    | (exfalso; omega)
                    | (rw [show pt.toInt.toNat = 0 by omega, e110]; exact h.2)
                  · first
                    | (rw [show pt.toInt.toNat = 0 by omega, e110]; exact h.2.1)
                    | (rw [show pt.toInt.toNat = 1 by omega, e119]; exact h.2.2)
                  · exfalso; omega
            refine lv_bipush (v := 56) hx hb d_Mo_encode_122 (by decide) ?_
            refine lv_topi (fun v122 e122 => ?_)
            have t122 : v122.toInt = 56 := by rw [e122]; rfl
            refine lv_istore (lv' := [(7, .int v122), (5, .long v110), (4, .int pt), (3, .int n1), (0, .ref mo), (1, .ref to), (2, .int ia)]) hx hb d_Mo_encode_124 hl (by decide) rfl (fun ls hl => ?_)
            have lp126 : ∀ (fuel126 : Nat) (k2 : Int32) (n2 : Int32) (fy : Nat → Int32) (H : Heap) (locs : List Loc) (ls : Array Slot), lv_has ls 8 [(7, .int k2), (5, .long v110), (4, .int pt), (3, .int n2), (0, .ref mo), (1, .ref to), (2, .int ia)] → va_P D classes [(mo, .inr (4, [.int mso, .ref m1, .ref m2, .ref m3, .ref m4, .ref m5, .ref m6, .int mct, .ref m7, .int mfr, .int mcu, .int mth, .ref m8, .ref m9, .ref ma, .ref mb])), (m1, .inl (cL, 1503, .inr (.inl p1))), (m2, .inl (cL, 1503, .inr (.inl p2))), (m3, .inl (cI, 36072, .inl p3)), (m4, .inl (cI, 1503, .inl p4)), (to, .inl (cI, 50, .inl fy))] H → va_D A [(mo, .inr (4, [.int mso, .ref m1, .ref m2, .ref m3, .ref m4, .ref m5, .ref m6, .int mct, .ref m7, .int mfr, .int mcu, .int mth, .ref m8, .ref m9, .ref ma, .ref mb])), (m1, .inl (cL, 1503, .inr (.inl p1))), (m2, .inl (cL, 1503, .inr (.inl p2))), (m3, .inl (cI, 36072, .inl p3)), (m4, .inl (cI, 1503, .inl p4)), (to, .inl (cI, 50, .inl fy))] → va_S A s.heap H locs → (-8 ≤ k2.toInt ∧ k2.toInt ≤ 56) → (k2.toInt % 8 = 0) → (n2.toInt = 8 * pt.toInt + (56 - k2.toInt) / 8) → (∀ d, d < n2.toInt.toNat → (fy d).toInt = (by_w (KW ia.toInt.toNat) d : Int)) → (k2.toInt + 8).toNat < fuel126 → W p l e ({ frames := 1, cells := 0, slots := 0, locals := 40 } : Room) s m ([.ref mo, .ref to, .int ia] : List Value).toArray below meth c H locs 0 0 Q (F0 m 126 ls []) := by
              intro fuel126
              induction fuel126 with
              | zero => intro k2 n2 fy H locs ls hl hP hD hS k1 k2a k3 k4 hm126; exact absurd hm126 (Nat.not_lt_zero _)
              | succ fuel126 ih126 =>
                intro k2 n2 fy H locs ls hl hP hD hS k1 k2a k3 k4 hm126
                refine lv_iload hx hb d_Mo_encode_126 (lv_at hl 0 rfl) ?_
                refine lv_if_lt hx hb d_Mo_encode_128 (tgt := 168) (by decide) (fun g128 => ?_) (fun g128 => ?_)
                · have g128 := (iz_lt).mp g128
                  obtain ⟨v168, e168⟩ : ∃ z, z = pt + Int32.ofInt 1 := ⟨_, rfl⟩
                  have t168 := ia_inc 1 e168 (by decide) ⟨by omega, by omega⟩
                  refine lv_iinc (k := 2) (lv' := [(4, .int v168), (7, .int k2), (5, .long v110), (3, .int n2), (0, .ref mo), (1, .ref to), (2, .int ia)]) hx hb d_Mo_encode_168 hl rfl e168.symm (by decide) rfl (fun ls hl => ?_)
                  refine lv_goto hx hb d_Mo_encode_171 (tgt := 91) (by decide) ?_
                  exact ih91 v168 n2 fy H locs ls (lv_sub hl [0, 3, 4, 5, 6] rfl) hP hD hS (by omega) (by omega) (by omega) (k4) (by omega)
                · have g128 := (iz_nlt).mp g128
                  refine lv_aload_n hx hb d_Mo_encode_131 rfl (lv_at hl 5 rfl) ?_
                  refine lv_iload_n hx hb d_Mo_encode_132 rfl (lv_at hl 3 rfl) ?_
                  obtain ⟨v133, e133⟩ : ∃ z, z = n2 + Int32.ofInt 1 := ⟨_, rfl⟩
                  have t133 := ia_inc 1 e133 (by decide) ⟨by omega, by omega⟩
                  refine lv_iinc (k := 3) (lv' := [(3, .int v133), (7, .int k2), (5, .long v110), (4, .int pt), (0, .ref mo), (1, .ref to), (2, .int ia)]) hx hb d_Mo_encode_133 hl rfl e133.symm (by decide) rfl (fun ls hl => ?_)
                  refine lv_lload hx hb d_Mo_encode_136 (lv_at hl 2 rfl) ?_
                  refine lv_iload hx hb d_Mo_encode_138 (lv_at hl 1 rfl) ?_
                  refine lv_lshr hx hb d_Mo_encode_140 rfl ?_
                  refine lv_topl (fun v140 e140 => ?_)
                  refine lv_ldc2 (v := 255) hx hb hown (hts _ tw_807) d_Mo_encode_141 ?_
                  refine lv_topl (fun v141 e141 => ?_)
                  refine lv_land hx hb d_Mo_encode_144 ?_
                  refine lv_topl (fun v144 e144 => ?_)
                  refine lv_l2i hx hb d_Mo_encode_145 rfl ?_
                  refine lv_topi (fun v145 e145 => ?_)
                  have hbt := enc_b (k := k2.toInt.toNat) e140 (by rw [e144, e141]) e145 (by omega) (by omega)
                  have hbl : (uN v110 / 2 ^ k2.toInt.toNat % 256) < 256 := Nat.mod_lt _ (by decide)
                  refine lv_iload hx hb d_Mo_encode_146 (lv_at hl 1 rfl) ?_
                  refine lv_bipush (v := 56) hx hb d_Mo_encode_148 (by decide) ?_
                  refine lv_topi (fun v148 e148 => ?_)
                  have t148 : v148.toInt = 56 := by rw [e148]; rfl
                  refine lv_icmp_ne hx hb d_Mo_encode_150 (tgt := 159) (by decide) (fun g150 => ?_) (fun g150 => ?_)
                  · have g150 := ic_ne.mp g150
                    refine lv_iconst (v := 0) hx hb d_Mo_encode_159 (by decide) ?_
                    refine lv_topi (fun v159 e159 => ?_)
                    have t159 : v159.toInt = 0 := by rw [e159]; rfl
                    refine lv_ixor hx hb d_Mo_encode_160 ?_
                    refine lv_topi (fun v160 e160 => ?_)
                    have hby : v160.toInt = (by_w (KW ia.toInt.toNat) n2.toInt.toNat : Int) := by
                          unfold by_w
                          rw [show n2.toInt.toNat / 8 = pt.toInt.toNat by omega, hwd, byx _ (by omega)]
                          first
                          | (have h5 := x128 (e160.trans (by rw [show v153 = 128 from e153])) (by omega)
                             rw [if_pos (by omega), h5, hbt, show k2.toInt.toNat = 56 by omega]
                             omega)
                          | (have h5 := x0 (e160.trans (by rw [show v159 = 0 from e159]))
                             rw [if_neg (by omega), h5, hbt, show 56 - 8 * (n2.toInt.toNat % 8) = k2.toInt.toNat by omega])
                    refine va_iast hx hb hK hP hD hS 5 1 rfl rfl (ia_in ⟨by omega, by omega⟩) d_Mo_encode_161 (fun H locs hP hD hS => ?_)
                    obtain ⟨f161, q161⟩ : ∃ z, z = upd fy n2.toInt.toNat v160 := ⟨_, rfl⟩
                    have hP : va_P D classes [(mo, .inr (4, [.int mso, .ref m1, .ref m2, .ref m3, .ref m4, .ref m5, .ref m6, .int mct, .ref m7, .int mfr, .int mcu, .int mth, .ref m8, .ref m9, .ref ma, .ref mb])), (m1, .inl (cL, 1503, .inr (.inl p1))), (m2, .inl (cL, 1503, .inr (.inl p2))), (m3, .inl (cI, 36072, .inl p3)), (m4, .inl (cI, 1503, .inl p4)), (to, .inl (cI, 50, .inl (upd fy n2.toInt.toNat v160)))] H := hP
                    have hD : va_D A [(mo, .inr (4, [.int mso, .ref m1, .ref m2, .ref m3, .ref m4, .ref m5, .ref m6, .int mct, .ref m7, .int mfr, .int mcu, .int mth, .ref m8, .ref m9, .ref ma, .ref mb])), (m1, .inl (cL, 1503, .inr (.inl p1))), (m2, .inl (cL, 1503, .inr (.inl p2))), (m3, .inl (cI, 36072, .inl p3)), (m4, .inl (cI, 1503, .inl p4)), (to, .inl (cI, 50, .inl (upd fy n2.toInt.toNat v160)))] := hD
                    rw [← q161] at hP hD
                    obtain ⟨v162, e162⟩ : ∃ z, z = k2 + Int32.ofInt (-8) := ⟨_, rfl⟩
                    have t162 := ia_inc (-8) e162 (by decide) ⟨by omega, by omega⟩
                    refine lv_iinc (k := 1) (lv' := [(7, .int v162), (3, .int v133), (5, .long v110), (4, .int pt), (0, .ref mo), (1, .ref to), (2, .int ia)]) hx hb d_Mo_encode_162 hl rfl e162.symm (by decide) rfl (fun ls hl => ?_)
                    refine lv_goto hx hb d_Mo_encode_165 (tgt := 126) (by decide) ?_
                    exact ih126 v162 v133 f161 H locs ls (lv_sub hl [0, 2, 3, 1, 4, 5, 6] rfl) hP hD hS (by omega) (by omega) (by omega) (fun d hd => by
                          rw [q161]
                          unfold upd
                          by_cases h8 : d = n2.toInt.toNat
                          · rw [if_pos h8, h8]; exact hby
                          · rw [if_neg h8]; exact k4 d (by omega)) (by omega)
                  · have g150 := ic_eq.mp g150
                    refine lv_sipush (v := 128) hx hb d_Mo_encode_153 (by decide) ?_
                    refine lv_topi (fun v153 e153 => ?_)
                    have t153 : v153.toInt = 128 := by rw [e153]; rfl
                    refine lv_goto hx hb d_Mo_encode_156 (tgt := 160) (by decide) ?_
                    refine lv_ixor hx hb d_Mo_encode_160 ?_
                    refine lv_topi (fun v160 e160 => ?_)
                    have hby : v160.toInt = (by_w (KW ia.toInt.toNat) n2.toInt.toNat : Int) := by
                          unfold by_w
                          rw [show n2.toInt.toNat / 8 = pt.toInt.toNat by omega, hwd, byx _ (by omega)]
                          first
                          | (have h5 := x128 (e160.trans (by rw [show v153 = 128 from e153])) (by omega)
                             rw [if_pos (by omega), h5, hbt, show k2.toInt.toNat = 56 by omega]
                             omega)
                          | (have h5 := x0 (e160.trans (by rw [show v159 = 0 from e159]))
                             rw [if_neg (by omega), h5, hbt, show 56 - 8 * (n2.toInt.toNat % 8) = k2.toInt.toNat by omega])
                    refine va_iast hx hb hK hP hD hS 5 1 rfl rfl (ia_in ⟨by omega, by omega⟩) d_Mo_encode_161 (fun H locs hP hD hS => ?_)
                    obtain ⟨f161, q161⟩ : ∃ z, z = upd fy n2.toInt.toNat v160 := ⟨_, rfl⟩
                    have hP : va_P D classes [(mo, .inr (4, [.int mso, .ref m1, .ref m2, .ref m3, .ref m4, .ref m5, .ref m6, .int mct, .ref m7, .int mfr, .int mcu, .int mth, .ref m8, .ref m9, .ref ma, .ref mb])), (m1, .inl (cL, 1503, .inr (.inl p1))), (m2, .inl (cL, 1503, .inr (.inl p2))), (m3, .inl (cI, 36072, .inl p3)), (m4, .inl (cI, 1503, .inl p4)), (to, .inl (cI, 50, .inl (upd fy n2.toInt.toNat v160)))] H := hP
                    have hD : va_D A [(mo, .inr (4, [.int mso, .ref m1, .ref m2, .ref m3, .ref m4, .ref m5, .ref m6, .int mct, .ref m7, .int mfr, .int mcu, .int mth, .ref m8, .ref m9, .ref ma, .ref mb])), (m1, .inl (cL, 1503, .inr (.inl p1))), (m2, .inl (cL, 1503, .inr (.inl p2))), (m3, .inl (cI, 36072, .inl p3)), (m4, .inl (cI, 1503, .inl p4)), (to, .inl (cI, 50, .inl (upd fy n2.toInt.toNat v160)))] := hD
                    rw [← q161] at hP hD
                    obtain ⟨v162, e162⟩ : ∃ z, z = k2 + Int32.ofInt (-8) := ⟨_, rfl⟩
                    have t162 := ia_inc (-8) e162 (by decide) ⟨by omega, by omega⟩
                    refine lv_iinc (k := 1) (lv' := [(7, .int v162), (3, .int v133), (5, .long v110), (4, .int pt), (0, .ref mo), (1, .ref to), (2, .int ia)]) hx hb d_Mo_encode_162 hl rfl e162.symm (by decide) rfl (fun ls hl => ?_)
                    refine lv_goto hx hb d_Mo_encode_165 (tgt := 126) (by decide) ?_
                    exact ih126 v162 v133 f161 H locs ls (lv_sub hl [0, 2, 3, 1, 4, 5, 6] rfl) hP hD hS (by omega) (by omega) (by omega) (fun d hd => by
                          rw [q161]
                          unfold upd
                          by_cases h8 : d = n2.toInt.toNat
                          · rw [if_pos h8, h8]; exact hby
                          · rw [if_neg h8]; exact k4 d (by omega)) (by omega)
            exact lp126 _ v122 n1 fz H locs ls hl hP hD hS (by omega) (by omega) (by omega) (h4) (Nat.lt_succ_self _)
    exact lp91 _ v88 v0 ft s.heap [] ls hl hP hD hS (by omega) (by omega) (by omega) (fun d hd => by omega) (Nat.lt_succ_self _)
  · have g7 := ic_eq.mp g7
    have hw7 : w = 7 := by omega
    obtain ⟨a1, a2, a3, a4⟩ : (∀ d, d < 56 → by_w (KW ia.toInt.toNat) d = rw_b (mk_let p3 p4 ia.toInt.toNat) d) ∧ 0 ≤ (p4 ia.toInt.toNat).toInt ∧ (p4 ia.toInt.toNat).toInt ≤ 24 ∧ ∀ k, k < (p4 ia.toInt.toNat).toInt.toNat → 0 ≤ (p3 (24 * ia.toInt.toNat + k)).toInt ∧ (p3 (24 * ia.toInt.toNat + k)).toInt ≤ 255 := by rcases kx with h | h | h <;> first | (exfalso; omega) | exact h.2
    have hln : (mk_let p3 p4 ia.toInt.toNat).length = (p4 ia.toInt.toNat).toInt.toNat := by unfold mk_let; rw [ml_len]
    have hrn := rw_n_le (mk_let p3 p4 ia.toInt.toNat)
    have hce : cl mso.toInt w p3 p4 ia.toInt.toNat = rw_n (mk_let p3 p4 ia.toInt.toNat) + 2 := by unfold cl; rw [if_pos (by omega)]
    refine lv_iconst (v := 0) hx hb d_Mo_encode_10 (by decide) ?_
    refine lv_topi (fun v10 e10 => ?_)
    have t10 : v10.toInt = 0 := by rw [e10]; rfl
    refine lv_istore (lv' := [(4, .int v10), (3, .int v0), (0, .ref mo), (1, .ref to), (2, .int ia)]) hx hb d_Mo_encode_11 hl (by decide) rfl (fun ls hl => ?_)
    have lp13 : ∀ (fuel13 : Nat) (kk : Int32) (nn : Int32) (fz : Nat → Int32) (H : Heap) (locs : List Loc) (ls : Array Slot), lv_has ls 8 [(4, .int kk), (3, .int nn), (0, .ref mo), (1, .ref to), (2, .int ia)] → va_P D classes [(mo, .inr (4, [.int mso, .ref m1, .ref m2, .ref m3, .ref m4, .ref m5, .ref m6, .int mct, .ref m7, .int mfr, .int mcu, .int mth, .ref m8, .ref m9, .ref ma, .ref mb])), (m1, .inl (cL, 1503, .inr (.inl p1))), (m2, .inl (cL, 1503, .inr (.inl p2))), (m3, .inl (cI, 36072, .inl p3)), (m4, .inl (cI, 1503, .inl p4)), (to, .inl (cI, 50, .inl fz))] H → va_D A [(mo, .inr (4, [.int mso, .ref m1, .ref m2, .ref m3, .ref m4, .ref m5, .ref m6, .int mct, .ref m7, .int mfr, .int mcu, .int mth, .ref m8, .ref m9, .ref ma, .ref mb])), (m1, .inl (cL, 1503, .inr (.inl p1))), (m2, .inl (cL, 1503, .inr (.inl p2))), (m3, .inl (cI, 36072, .inl p3)), (m4, .inl (cI, 1503, .inl p4)), (to, .inl (cI, 50, .inl fz))] → va_S A s.heap H locs → (0 ≤ kk.toInt) → (kk.toInt ≤ (p4 ia.toInt.toNat).toInt) → (nn.toInt = (rw_n ((mk_let p3 p4 ia.toInt.toNat).take kk.toInt.toNat) : Int)) → (nn.toInt ≤ (rw_n (mk_let p3 p4 ia.toInt.toNat) : Int)) → (∀ d, d < nn.toInt.toNat → (fz d).toInt = (rw_b (mk_let p3 p4 ia.toInt.toNat) d : Int)) → (p4 ia.toInt.toNat).toInt.toNat - kk.toInt.toNat < fuel13 → W p l e ({ frames := 1, cells := 0, slots := 0, locals := 40 } : Room) s m ([.ref mo, .ref to, .int ia] : List Value).toArray below meth c H locs 0 0 Q (F0 m 13 ls []) := by
      intro fuel13
      induction fuel13 with
      | zero => intro kk nn fz H locs ls hl hP hD hS h1 h2 h3 h3b h4 hm13; exact absurd hm13 (Nat.not_lt_zero _)
      | succ fuel13 ih13 =>
        intro kk nn fz H locs ls hl hP hD hS h1 h2 h3 h3b h4 hm13
        refine lv_iload hx hb d_Mo_encode_13 (lv_at hl 0 rfl) ?_
        refine lv_aload_n hx hb d_Mo_encode_15 rfl (lv_at hl 2 rfl) ?_
        refine va_get (D := D) (ci := 4) (v := .ref m4) (C := R_Mo) (T := F_Mo) (N := 16) hx hb hts in_Mo hown hK hP 0 rfl rfl 4 (by decide) (hts _ tw_607) (fun _ h9 => h9) rfl d_Mo_encode_16 ?_
        refine lv_iload_n hx hb d_Mo_encode_19 rfl (lv_at hl 4 rfl) ?_
        refine va_iald hx hb hK hP 4 1 rfl rfl (ia_in ⟨by omega, by omega⟩) d_Mo_encode_20 ?_
        refine lv_topi (fun v20 e20 => ?_)
        have e20 : v20 = p4 ia.toInt.toNat := e20
        refine lv_icmp_ge hx hb d_Mo_encode_21 (tgt := 72) (by decide) (fun g21 => ?_) (fun g21 => ?_)
        · have g21 := ic_le.mp g21
          have t20 : v20.toInt = (p4 ia.toInt.toNat).toInt := by rw [e20]
          have hfull : rw_n ((mk_let p3 p4 ia.toInt.toNat).take kk.toInt.toNat) = rw_n (mk_let p3 p4 ia.toInt.toNat) := by rw [List.take_of_length_le (by omega)]
          refine lv_aload_n hx hb d_Mo_encode_72 rfl (lv_at hl 3 rfl) ?_
          refine lv_iload_n hx hb d_Mo_encode_73 rfl (lv_at hl 1 rfl) ?_
          obtain ⟨v74, e74⟩ : ∃ z, z = nn + Int32.ofInt 1 := ⟨_, rfl⟩
          have t74 := ia_inc 1 e74 (by decide) ⟨by omega, by omega⟩
          refine lv_iinc (k := 1) (lv' := [(3, .int v74), (4, .int kk), (0, .ref mo), (1, .ref to), (2, .int ia)]) hx hb d_Mo_encode_74 hl rfl e74.symm (by decide) rfl (fun ls hl => ?_)
          refine lv_iconst (v := 0) hx hb d_Mo_encode_77 (by decide) ?_
          refine lv_topi (fun v77 e77 => ?_)
          have t77 : v77.toInt = 0 := by rw [e77]; rfl
          refine va_iast hx hb hK hP hD hS 5 1 rfl rfl (ia_in ⟨by omega, by omega⟩) d_Mo_encode_78 (fun H locs hP hD hS => ?_)
          obtain ⟨f78, q78⟩ : ∃ z, z = upd fz nn.toInt.toNat v77 := ⟨_, rfl⟩
          have hP : va_P D classes [(mo, .inr (4, [.int mso, .ref m1, .ref m2, .ref m3, .ref m4, .ref m5, .ref m6, .int mct, .ref m7, .int mfr, .int mcu, .int mth, .ref m8, .ref m9, .ref ma, .ref mb])), (m1, .inl (cL, 1503, .inr (.inl p1))), (m2, .inl (cL, 1503, .inr (.inl p2))), (m3, .inl (cI, 36072, .inl p3)), (m4, .inl (cI, 1503, .inl p4)), (to, .inl (cI, 50, .inl (upd fz nn.toInt.toNat v77)))] H := hP
          have hD : va_D A [(mo, .inr (4, [.int mso, .ref m1, .ref m2, .ref m3, .ref m4, .ref m5, .ref m6, .int mct, .ref m7, .int mfr, .int mcu, .int mth, .ref m8, .ref m9, .ref ma, .ref mb])), (m1, .inl (cL, 1503, .inr (.inl p1))), (m2, .inl (cL, 1503, .inr (.inl p2))), (m3, .inl (cI, 36072, .inl p3)), (m4, .inl (cI, 1503, .inl p4)), (to, .inl (cI, 50, .inl (upd fz nn.toInt.toNat v77)))] := hD
          rw [← q78] at hP hD
          refine lv_aload_n hx hb d_Mo_encode_79 rfl (lv_at hl 3 rfl) ?_
          refine lv_iload_n hx hb d_Mo_encode_80 rfl (lv_at hl 0 rfl) ?_
          obtain ⟨v81, e81⟩ : ∃ z, z = v74 + Int32.ofInt 1 := ⟨_, rfl⟩
          have t81 := ia_inc 1 e81 (by decide) ⟨by omega, by omega⟩
          refine lv_iinc (k := 0) (lv' := [(3, .int v81), (4, .int kk), (0, .ref mo), (1, .ref to), (2, .int ia)]) hx hb d_Mo_encode_81 hl rfl e81.symm (by decide) rfl (fun ls hl => ?_)
          refine lv_iconst (v := 0) hx hb d_Mo_encode_84 (by decide) ?_
          refine lv_topi (fun v84 e84 => ?_)
          have t84 : v84.toInt = 0 := by rw [e84]; rfl
          refine va_iast hx hb hK hP hD hS 5 1 rfl rfl (ia_in ⟨by omega, by omega⟩) d_Mo_encode_85 (fun H locs hP hD hS => ?_)
          obtain ⟨f85, q85⟩ : ∃ z, z = upd f78 v74.toInt.toNat v84 := ⟨_, rfl⟩
          have hP : va_P D classes [(mo, .inr (4, [.int mso, .ref m1, .ref m2, .ref m3, .ref m4, .ref m5, .ref m6, .int mct, .ref m7, .int mfr, .int mcu, .int mth, .ref m8, .ref m9, .ref ma, .ref mb])), (m1, .inl (cL, 1503, .inr (.inl p1))), (m2, .inl (cL, 1503, .inr (.inl p2))), (m3, .inl (cI, 36072, .inl p3)), (m4, .inl (cI, 1503, .inl p4)), (to, .inl (cI, 50, .inl (upd f78 v74.toInt.toNat v84)))] H := hP
          have hD : va_D A [(mo, .inr (4, [.int mso, .ref m1, .ref m2, .ref m3, .ref m4, .ref m5, .ref m6, .int mct, .ref m7, .int mfr, .int mcu, .int mth, .ref m8, .ref m9, .ref ma, .ref mb])), (m1, .inl (cL, 1503, .inr (.inl p1))), (m2, .inl (cL, 1503, .inr (.inl p2))), (m3, .inl (cI, 36072, .inl p3)), (m4, .inl (cI, 1503, .inl p4)), (to, .inl (cI, 50, .inl (upd f78 v74.toInt.toNat v84)))] := hD
          rw [← q85] at hP hD
          refine lv_iload_n hx hb d_Mo_encode_86 rfl (lv_at hl 0 rfl) ?_
          have hpost : v81.toInt = (cl mso.toInt w p3 p4 ia.toInt.toNat : Int) ∧ ∀ d, d < cl mso.toInt w p3 p4 ia.toInt.toNat → (f85 d).toInt = (by_w (KW ia.toInt.toNat) d : Int) := by
            refine ⟨by omega, fun d hd => ?_⟩
            rw [a1 d (by omega), q85]
            unfold upd
            by_cases h8 : d = v74.toInt.toNat
            · rw [if_pos h8, t84, rw_b_far (mk_let p3 p4 ia.toInt.toNat) d (by omega)]; rfl
            · rw [if_neg h8, q78]
              unfold upd
              by_cases h9 : d = nn.toInt.toNat
              · rw [if_pos h9, t77, rw_b_far (mk_let p3 p4 ia.toInt.toNat) d (by omega)]; rfl
              · rw [if_neg h9]; exact h4 d (by omega)
          have hP9 := hP.sub (ws' := [(mo, .inr (4, [.int mso, .ref m1, .ref m2, .ref m3, .ref m4, .ref m5, .ref m6, .int mct, .ref m7, .int mfr, .int mcu, .int mth, .ref m8, .ref m9, .ref ma, .ref mb])), (m1, .inl (cL, 1503, .inr (.inl p1))), (m2, .inl (cL, 1503, .inr (.inl p2))), (m3, .inl (cI, 36072, .inl p3)), (m4, .inl (cI, 1503, .inl p4)), (to, .inl (cI, 50, .inl f85))]) [0, 1, 2, 3, 4, 5] rfl
          have hD9 := hD.sub (ws' := [(mo, .inr (4, [.int mso, .ref m1, .ref m2, .ref m3, .ref m4, .ref m5, .ref m6, .int mct, .ref m7, .int mfr, .int mcu, .int mth, .ref m8, .ref m9, .ref ma, .ref mb])), (m1, .inl (cL, 1503, .inr (.inl p1))), (m2, .inl (cL, 1503, .inr (.inl p2))), (m3, .inl (cI, 36072, .inl p3)), (m4, .inl (cI, 1503, .inl p4)), (to, .inl (cI, 50, .inl f85))]) [0, 1, 2, 3, 4, 5] (by decide) rfl
          rw [hQ]
          exact W.iret (v := v81) hx hb hr (fun t ht hW => ⟨⟨v81, (f85), rfl, hpost, by rw [ht]; exact hP9, va_K.moved hW.alike hK, hD9⟩, hS.F ht⟩) hS.2.2 d_Mo_encode_87
        · have g21 := ic_nle.mp g21
          have t20 : v20.toInt = (p4 ia.toInt.toNat).toInt := by rw [e20]
          have hk1 := rw_take (mk_let p3 p4 ia.toInt.toNat) kk.toInt.toNat (by omega)
          have hgd : (mk_let p3 p4 ia.toInt.toNat).getD kk.toInt.toNat 0 = (p3 (24 * ia.toInt.toNat + kk.toInt.toNat)).toInt.toNat := by unfold mk_let; rw [ml_get _ _ _ (by omega)]
          have hkl := a4 kk.toInt.toNat (by omega)
          have hk5 : 1 ≤ (if (mk_let p3 p4 ia.toInt.toNat).getD kk.toInt.toNat 0 = 0 then 2 else 1) ∧ (if (mk_let p3 p4 ia.toInt.toNat).getD kk.toInt.toNat 0 = 0 then 2 else 1) ≤ 2 := by split <;> omega
          refine lv_aload_n hx hb d_Mo_encode_24 rfl (lv_at hl 3 rfl) ?_
          refine lv_iload_n hx hb d_Mo_encode_25 rfl (lv_at hl 1 rfl) ?_
          obtain ⟨v26, e26⟩ : ∃ z, z = nn + Int32.ofInt 1 := ⟨_, rfl⟩
          have t26 := ia_inc 1 e26 (by decide) ⟨by omega, by omega⟩
          refine lv_iinc (k := 1) (lv' := [(3, .int v26), (4, .int kk), (0, .ref mo), (1, .ref to), (2, .int ia)]) hx hb d_Mo_encode_26 hl rfl e26.symm (by decide) rfl (fun ls hl => ?_)
          refine lv_aload_n hx hb d_Mo_encode_29 rfl (lv_at hl 2 rfl) ?_
          refine va_get (D := D) (ci := 4) (v := .ref m3) (C := R_Mo) (T := F_Mo) (N := 16) hx hb hts in_Mo hown hK hP 0 rfl rfl 3 (by decide) (hts _ tw_606) (fun _ h9 => h9) rfl d_Mo_encode_30 ?_
          refine lv_bipush (v := 24) hx hb d_Mo_encode_33 (by decide) ?_
          refine lv_topi (fun v33 e33 => ?_)
          have t33 : v33.toInt = 24 := by rw [e33]; rfl
          refine lv_iload_n hx hb d_Mo_encode_35 rfl (lv_at hl 4 rfl) ?_
          refine lv_imul hx hb d_Mo_encode_36 ?_
          refine lv_topi (fun v36 e36 => ?_)
          have t36 := ia_mull 24 e36 (by omega) ⟨by omega, by omega⟩
          refine lv_iload hx hb d_Mo_encode_37 (lv_at hl 1 rfl) ?_
          refine lv_iadd hx hb d_Mo_encode_39 ?_
          refine lv_topi (fun v39 e39 => ?_)
          have t39 := ia_add e39 ⟨by omega, by omega⟩
          refine va_iald hx hb hK hP 3 1 rfl rfl (ia_in ⟨by omega, by omega⟩) d_Mo_encode_40 ?_
          refine lv_topi (fun v40 e40 => ?_)
          have e40 : v40 = p3 v39.toInt.toNat := e40
          have hi40 : v40 = p3 (24 * ia.toInt.toNat + kk.toInt.toNat) := by rw [e40]; congr 1; omega
          have t40 := congrArg Int32.toInt hi40
          refine va_iast hx hb hK hP hD hS 5 1 rfl rfl (ia_in ⟨by omega, by omega⟩) d_Mo_encode_41 (fun H locs hP hD hS => ?_)
          obtain ⟨f41, q41⟩ : ∃ z, z = upd fz nn.toInt.toNat v40 := ⟨_, rfl⟩
          have hP : va_P D classes [(mo, .inr (4, [.int mso, .ref m1, .ref m2, .ref m3, .ref m4, .ref m5, .ref m6, .int mct, .ref m7, .int mfr, .int mcu, .int mth, .ref m8, .ref m9, .ref ma, .ref mb])), (m1, .inl (cL, 1503, .inr (.inl p1))), (m2, .inl (cL, 1503, .inr (.inl p2))), (m3, .inl (cI, 36072, .inl p3)), (m4, .inl (cI, 1503, .inl p4)), (to, .inl (cI, 50, .inl (upd fz nn.toInt.toNat v40)))] H := hP
          have hD : va_D A [(mo, .inr (4, [.int mso, .ref m1, .ref m2, .ref m3, .ref m4, .ref m5, .ref m6, .int mct, .ref m7, .int mfr, .int mcu, .int mth, .ref m8, .ref m9, .ref ma, .ref mb])), (m1, .inl (cL, 1503, .inr (.inl p1))), (m2, .inl (cL, 1503, .inr (.inl p2))), (m3, .inl (cI, 36072, .inl p3)), (m4, .inl (cI, 1503, .inl p4)), (to, .inl (cI, 50, .inl (upd fz nn.toInt.toNat v40)))] := hD
          rw [← q41] at hP hD
          refine lv_aload_n hx hb d_Mo_encode_42 rfl (lv_at hl 2 rfl) ?_
          refine va_get (D := D) (ci := 4) (v := .ref m3) (C := R_Mo) (T := F_Mo) (N := 16) hx hb hts in_Mo hown hK hP 0 rfl rfl 3 (by decide) (hts _ tw_606) (fun _ h9 => h9) rfl d_Mo_encode_43 ?_
          refine lv_bipush (v := 24) hx hb d_Mo_encode_46 (by decide) ?_
          refine lv_topi (fun v46 e46 => ?_)
          have t46 : v46.toInt = 24 := by rw [e46]; rfl
          refine lv_iload_n hx hb d_Mo_encode_48 rfl (lv_at hl 4 rfl) ?_
          refine lv_imul hx hb d_Mo_encode_49 ?_
          refine lv_topi (fun v49 e49 => ?_)
          have t49 := ia_mull 24 e49 (by omega) ⟨by omega, by omega⟩
          refine lv_iload hx hb d_Mo_encode_50 (lv_at hl 1 rfl) ?_
          refine lv_iadd hx hb d_Mo_encode_52 ?_
          refine lv_topi (fun v52 e52 => ?_)
          have t52 := ia_add e52 ⟨by omega, by omega⟩
          refine va_iald hx hb hK hP 3 1 rfl rfl (ia_in ⟨by omega, by omega⟩) d_Mo_encode_53 ?_
          refine lv_topi (fun v53 e53 => ?_)
          have e53 : v53 = p3 v52.toInt.toNat := e53
          have hi53 : v53 = p3 (24 * ia.toInt.toNat + kk.toInt.toNat) := by rw [e53]; congr 1; omega
          have t53 := congrArg Int32.toInt hi53
          refine lv_if_ne hx hb d_Mo_encode_54 (tgt := 66) (by decide) (fun g54 => ?_) (fun g54 => ?_)
          · have g54 := (iz_ne).mp g54
            obtain ⟨v66, e66⟩ : ∃ z, z = kk + Int32.ofInt 1 := ⟨_, rfl⟩
            have t66 := ia_inc 1 e66 (by decide) ⟨by omega, by omega⟩
            refine lv_iinc (k := 1) (lv' := [(4, .int v66), (3, .int v26), (0, .ref mo), (1, .ref to), (2, .int ia)]) hx hb d_Mo_encode_66 hl rfl e66.symm (by decide) rfl (fun ls hl => ?_)
            refine lv_goto hx hb d_Mo_encode_69 (tgt := 13) (by decide) ?_
            have hk8 := hk1.2.1
            have hk9 := hk1.2.2
            exact ih13 v66 v26 f41 H locs ls hl hP hD hS (by omega) (by omega) (by
                  rw [show v66.toInt.toNat = kk.toInt.toNat + 1 by omega, hk8]
                  first
                  | (rw [if_pos hz0]; omega)
                  | (rw [if_neg (by rw [hgd]; omega)]; omega)) (by
                  first
                  | (rw [if_pos hz0] at hk8; omega)
                  | (rw [if_neg (by rw [hgd]; omega)] at hk8; omega)) (fun d hd => by
                  first
                  | (rw [q65]
                     unfold upd
                     by_cases h8 : d = v26.toInt.toNat
                     · rw [if_pos h8, t62, h8, show v26.toInt.toNat = rw_n ((mk_let p3 p4 ia.toInt.toNat).take kk.toInt.toNat) + 1 by omega, hk6]; rfl
                     · rw [if_neg h8, q41]
                       unfold upd
                       by_cases h9 : d = nn.toInt.toNat
                       · rw [if_pos h9, t40, h9, show nn.toInt.toNat = rw_n ((mk_let p3 p4 ia.toInt.toNat).take kk.toInt.toNat) by omega, hk1.1, hgd]; omega
                       · rw [if_neg h9]; exact h4 d (by omega))
                  | (rw [q41]
                     unfold upd
                     by_cases h9 : d = nn.toInt.toNat
                     · rw [if_pos h9, t40, h9, show nn.toInt.toNat = rw_n ((mk_let p3 p4 ia.toInt.toNat).take kk.toInt.toNat) by omega, hk1.1, hgd]; omega
                     · rw [if_neg h9]; exact h4 d (by omega))) (by omega)
          · have g54 := (iz_eq).mp g54
            have hz0 : (mk_let p3 p4 ia.toInt.toNat).getD kk.toInt.toNat 0 = 0 := by rw [hgd]; omega
            have hk6 := rw_take2 (mk_let p3 p4 ia.toInt.toNat) kk.toInt.toNat (by omega) hz0
            have hk7 := hk1.2.1
            rw [if_pos hz0] at hk7
            refine lv_aload_n hx hb d_Mo_encode_57 rfl (lv_at hl 3 rfl) ?_
            refine lv_iload_n hx hb d_Mo_encode_58 rfl (lv_at hl 0 rfl) ?_
            obtain ⟨v59, e59⟩ : ∃ z, z = v26 + Int32.ofInt 1 := ⟨_, rfl⟩
            have t59 := ia_inc 1 e59 (by decide) ⟨by omega, by omega⟩
            refine lv_iinc (k := 0) (lv' := [(3, .int v59), (4, .int kk), (0, .ref mo), (1, .ref to), (2, .int ia)]) hx hb d_Mo_encode_59 hl rfl e59.symm (by decide) rfl (fun ls hl => ?_)
            refine lv_sipush (v := 255) hx hb d_Mo_encode_62 (by decide) ?_
            refine lv_topi (fun v62 e62 => ?_)
            have t62 : v62.toInt = 255 := by rw [e62]; rfl
            refine va_iast hx hb hK hP hD hS 5 1 rfl rfl (ia_in ⟨by omega, by omega⟩) d_Mo_encode_65 (fun H locs hP hD hS => ?_)
            obtain ⟨f65, q65⟩ : ∃ z, z = upd f41 v26.toInt.toNat v62 := ⟨_, rfl⟩
            have hP : va_P D classes [(mo, .inr (4, [.int mso, .ref m1, .ref m2, .ref m3, .ref m4, .ref m5, .ref m6, .int mct, .ref m7, .int mfr, .int mcu, .int mth, .ref m8, .ref m9, .ref ma, .ref mb])), (m1, .inl (cL, 1503, .inr (.inl p1))), (m2, .inl (cL, 1503, .inr (.inl p2))), (m3, .inl (cI, 36072, .inl p3)), (m4, .inl (cI, 1503, .inl p4)), (to, .inl (cI, 50, .inl (upd f41 v26.toInt.toNat v62)))] H := hP
            have hD : va_D A [(mo, .inr (4, [.int mso, .ref m1, .ref m2, .ref m3, .ref m4, .ref m5, .ref m6, .int mct, .ref m7, .int mfr, .int mcu, .int mth, .ref m8, .ref m9, .ref ma, .ref mb])), (m1, .inl (cL, 1503, .inr (.inl p1))), (m2, .inl (cL, 1503, .inr (.inl p2))), (m3, .inl (cI, 36072, .inl p3)), (m4, .inl (cI, 1503, .inl p4)), (to, .inl (cI, 50, .inl (upd f41 v26.toInt.toNat v62)))] := hD
            rw [← q65] at hP hD
            obtain ⟨v66, e66⟩ : ∃ z, z = kk + Int32.ofInt 1 := ⟨_, rfl⟩
            have t66 := ia_inc 1 e66 (by decide) ⟨by omega, by omega⟩
            refine lv_iinc (k := 1) (lv' := [(4, .int v66), (3, .int v59), (0, .ref mo), (1, .ref to), (2, .int ia)]) hx hb d_Mo_encode_66 hl rfl e66.symm (by decide) rfl (fun ls hl => ?_)
            refine lv_goto hx hb d_Mo_encode_69 (tgt := 13) (by decide) ?_
            have hk8 := hk1.2.1
            have hk9 := hk1.2.2
            exact ih13 v66 v59 f65 H locs ls hl hP hD hS (by omega) (by omega) (by
                  rw [show v66.toInt.toNat = kk.toInt.toNat + 1 by omega, hk8]
                  first
                  | (rw [if_pos hz0]; omega)
                  | (rw [if_neg (by rw [hgd]; omega)]; omega)) (by
                  first
                  | (rw [if_pos hz0] at hk8; omega)
                  | (rw [if_neg (by rw [hgd]; omega)] at hk8; omega)) (fun d hd => by
                  first
                  | (rw [q65]
                     unfold upd
                     by_cases h8 : d = v26.toInt.toNat
                     · rw [if_pos h8, t62, h8, show v26.toInt.toNat = rw_n ((mk_let p3 p4 ia.toInt.toNat).take kk.toInt.toNat) + 1 by omega, hk6]; rfl
                     · rw [if_neg h8, q41]
                       unfold upd
                       by_cases h9 : d = nn.toInt.toNat
                       · rw [if_pos h9, t40, h9, show nn.toInt.toNat = rw_n ((mk_let p3 p4 ia.toInt.toNat).take kk.toInt.toNat) by omega, hk1.1, hgd]; omega
                       · rw [if_neg h9]; exact h4 d (by omega))
                  | (rw [q41]
                     unfold upd
                     by_cases h9 : d = nn.toInt.toNat
                     · rw [if_pos h9, t40, h9, show nn.toInt.toNat = rw_n ((mk_let p3 p4 ia.toInt.toNat).take kk.toInt.toNat) by omega, hk1.1, hgd]; omega
                     · rw [if_neg h9]; exact h4 d (by omega))) (by omega)
    exact lp13 _ v10 v0 ft s.heap [] ls hl hP hD hS (by omega) (by omega) (by rw [show v10.toInt.toNat = 0 by omega, List.take_zero]; exact t0) (by omega) (fun d hd => by omega) (Nat.lt_succ_self _)
set_option maxRecDepth 100000 in
set_option maxHeartbeats 4000000 in
theorem c_Mo_look (l : Launch) (D : va_G) (cL cI : ClassId) (mo m1 m2 m3 m4 m5 m6 m7 m8 m9 ma mb : Nat) (mso mct mfr mcu mth : Int32) (p1 p2 p5 : Nat → Int64) (p3 p4 p6 p7 p8 p9 pa pb : Nat → Int32) (w : Nat) (KW : Nat → Nat → Int64) (n : Nat) (sz : Nat) (hws : (mso.toInt = 0 ∧ w = 1) ∨ (mso.toInt = 1 ∧ w = 2) ∨ (mso.toInt = 2 ∧ w = 7)) (hkr : ∀ x, x < 1503 → KR mso.toInt p1 p2 p3 p4 x (KW x)) (hct : mct.toInt = (n : Int)) (hn : n ≤ 1500) (hor : ∀ k, k < n → 0 ≤ (p6 k).toInt ∧ (p6 k).toInt < 1500) (hs : ob_srt w n (fun k => KW (p6 k).toInt.toNat)) : Met l y_Mo_look (Cond.code y_Mo_look prog_6_method_38_code 3 none :: TW) ({ frames := 2, cells := 0, slots := 0, locals := 67 } : Room) (PM D cL cI [.ref mo] [(mo, .inr (4, [.int mso, .ref m1, .ref m2, .ref m3, .ref m4, .ref m5, .ref m6, .int mct, .ref m7, .int mfr, .int mcu, .int mth, .ref m8, .ref m9, .ref ma, .ref mb])), (m1, .inl (cL, 1503, .inr (.inl p1))), (m2, .inl (cL, 1503, .inr (.inl p2))), (m3, .inl (cI, 36072, .inl p3)), (m4, .inl (cI, 1503, .inl p4)), (m5, .inl (cL, 1500, .inr (.inl p5))), (m6, .inl (cI, 1500, .inl p6)), (m7, .inl (cI, 1500, .inl p7)), (m8, .inl (cI, 50, .inl p8)), (m9, .inl (cI, 50, .inl p9)), (ma, .inl (cI, 1500, .inl pa)), (mb, .inl (cI, 50, .inl pb))] sz) (va_Qv (fun (u : (Nat → Int32) × (Nat → Int32) × (Nat → Int32)) => ∀ k, k + 1 < n → (u.2.2 k).toInt = ((fun k => sh_w w ((fun k => KW (p6 k).toInt.toNat) (k + 1)) ((fun k => KW (p6 k).toInt.toNat) k)) k : Int) ∧ (u.2.2 k).toInt < 50) (fun (u : (Nat → Int32) × (Nat → Int32) × (Nat → Int32)) (t : State) => va_P D classes [(mo, .inr (4, [.int mso, .ref m1, .ref m2, .ref m3, .ref m4, .ref m5, .ref m6, .int mct, .ref m7, .int mfr, .int mcu, .int mth, .ref m8, .ref m9, .ref ma, .ref mb])), (m1, .inl (cL, 1503, .inr (.inl p1))), (m2, .inl (cL, 1503, .inr (.inl p2))), (m3, .inl (cI, 36072, .inl p3)), (m4, .inl (cI, 1503, .inl p4)), (m5, .inl (cL, 1500, .inr (.inl p5))), (m6, .inl (cI, 1500, .inl p6)), (m7, .inl (cI, 1500, .inl p7)), (m8, .inl (cI, 50, .inl u.1)), (m9, .inl (cI, 50, .inl u.2.1)), (ma, .inl (cI, 1500, .inl u.2.2)), (mb, .inl (cI, 50, .inl pb))] t.heap ∧ va_K D classes (tyz cL cI) t ∧ va_D (va_A [(mo, .inr (4, [.int mso, .ref m1, .ref m2, .ref m3, .ref m4, .ref m5, .ref m6, .int mct, .ref m7, .int mfr, .int mcu, .int mth, .ref m8, .ref m9, .ref ma, .ref mb])), (m1, .inl (cL, 1503, .inr (.inl p1))), (m2, .inl (cL, 1503, .inr (.inl p2))), (m3, .inl (cI, 36072, .inl p3)), (m4, .inl (cI, 1503, .inl p4)), (m5, .inl (cL, 1500, .inr (.inl p5))), (m6, .inl (cI, 1500, .inl p6)), (m7, .inl (cI, 1500, .inl p7)), (m8, .inl (cI, 50, .inl p8)), (m9, .inl (cI, 50, .inl p9)), (ma, .inl (cI, 1500, .inl pa)), (mb, .inl (cI, 50, .inl pb))] sz) [(mo, .inr (4, [.int mso, .ref m1, .ref m2, .ref m3, .ref m4, .ref m5, .ref m6, .int mct, .ref m7, .int mfr, .int mcu, .int mth, .ref m8, .ref m9, .ref ma, .ref mb])), (m1, .inl (cL, 1503, .inr (.inl p1))), (m2, .inl (cL, 1503, .inr (.inl p2))), (m3, .inl (cI, 36072, .inl p3)), (m4, .inl (cI, 1503, .inl p4)), (m5, .inl (cL, 1500, .inr (.inl p5))), (m6, .inl (cI, 1500, .inl p6)), (m7, .inl (cI, 1500, .inl p7)), (m8, .inl (cI, 50, .inl u.1)), (m9, .inl (cI, 50, .inl u.2.1)), (ma, .inl (cI, 1500, .inl u.2.2)), (mb, .inl (cI, 50, .inl pb))]) (va_A [(mo, .inr (4, [.int mso, .ref m1, .ref m2, .ref m3, .ref m4, .ref m5, .ref m6, .int mct, .ref m7, .int mfr, .int mcu, .int mth, .ref m8, .ref m9, .ref ma, .ref mb])), (m1, .inl (cL, 1503, .inr (.inl p1))), (m2, .inl (cL, 1503, .inr (.inl p2))), (m3, .inl (cI, 36072, .inl p3)), (m4, .inl (cI, 1503, .inl p4)), (m5, .inl (cL, 1500, .inr (.inl p5))), (m6, .inl (cI, 1500, .inl p6)), (m7, .inl (cI, 1500, .inl p7)), (m8, .inl (cI, 50, .inl p8)), (m9, .inl (cI, 50, .inl p9)), (ma, .inl (cI, 1500, .inl pa)), (mb, .inl (cI, 50, .inl pb))] sz)) 0 0 (va_A [(mo, .inr (4, [.int mso, .ref m1, .ref m2, .ref m3, .ref m4, .ref m5, .ref m6, .int mct, .ref m7, .int mfr, .int mcu, .int mth, .ref m8, .ref m9, .ref ma, .ref mb])), (m1, .inl (cL, 1503, .inr (.inl p1))), (m2, .inl (cL, 1503, .inr (.inl p2))), (m3, .inl (cI, 36072, .inl p3)), (m4, .inl (cI, 1503, .inl p4)), (m5, .inl (cL, 1500, .inr (.inl p5))), (m6, .inl (cI, 1500, .inl p6)), (m7, .inl (cI, 1500, .inl p7)), (m8, .inl (cI, 50, .inl p8)), (m9, .inl (cI, 50, .inl p9)), (ma, .inl (cI, 1500, .inl pa)), (mb, .inl (cI, 50, .inl pb))] sz) := by
  refine xr_met (by decide) ?_
  intro p e s m args below meth c hx hb hr hts hown hlocks hname hml hv
  obtain ⟨rfl, hsz, hP, hK, hD0⟩ := hv
  subst hsz
  have hD := hD0.self (sz := s.heap.size)
  generalize hAe : va_A [(mo, .inr (4, [.int mso, .ref m1, .ref m2, .ref m3, .ref m4, .ref m5, .ref m6, .int mct, .ref m7, .int mfr, .int mcu, .int mth, .ref m8, .ref m9, .ref ma, .ref mb])), (m1, .inl (cL, 1503, .inr (.inl p1))), (m2, .inl (cL, 1503, .inr (.inl p2))), (m3, .inl (cI, 36072, .inl p3)), (m4, .inl (cI, 1503, .inl p4)), (m5, .inl (cL, 1500, .inr (.inl p5))), (m6, .inl (cI, 1500, .inl p6)), (m7, .inl (cI, 1500, .inl p7)), (m8, .inl (cI, 50, .inl p8)), (m9, .inl (cI, 50, .inl p9)), (ma, .inl (cI, 1500, .inl pa)), (mb, .inl (cI, 50, .inl pb))] s.heap.size = A at hD ⊢
  have hA : ∀ q : Nat, s.heap.size ≤ q → A q := fun q h => by rw [← hAe]; exact Or.inr h
  have hS : va_S A s.heap s.heap [] := va_S.rf
  have hD : va_D A [(mo, .inr (4, [.int mso, .ref m1, .ref m2, .ref m3, .ref m4, .ref m5, .ref m6, .int mct, .ref m7, .int mfr, .int mcu, .int mth, .ref m8, .ref m9, .ref ma, .ref mb])), (m1, .inl (cL, 1503, .inr (.inl p1))), (m2, .inl (cL, 1503, .inr (.inl p2))), (m3, .inl (cI, 36072, .inl p3)), (m4, .inl (cI, 1503, .inl p4)), (m5, .inl (cL, 1500, .inr (.inl p5))), (m6, .inl (cI, 1500, .inl p6)), (m7, .inl (cI, 1500, .inl p7)), (m8, .inl (cI, 50, .inl p8)), (m9, .inl (cI, 50, .inl p9)), (ma, .inl (cI, 1500, .inl pa)), (mb, .inl (cI, 50, .inl pb))] := hD
  have hown : s.vm.findClass "BranchStoreModel" = some m.cls := hown
  have hP : va_P D classes [(mo, .inr (4, [.int mso, .ref m1, .ref m2, .ref m3, .ref m4, .ref m5, .ref m6, .int mct, .ref m7, .int mfr, .int mcu, .int mth, .ref m8, .ref m9, .ref ma, .ref mb])), (m1, .inl (cL, 1503, .inr (.inl p1))), (m2, .inl (cL, 1503, .inr (.inl p2))), (m3, .inl (cI, 36072, .inl p3)), (m4, .inl (cI, 1503, .inl p4)), (m5, .inl (cL, 1500, .inr (.inl p5))), (m6, .inl (cI, 1500, .inl p6)), (m7, .inl (cI, 1500, .inl p7)), (m8, .inl (cI, 50, .inl p8)), (m9, .inl (cI, 50, .inl p9)), (ma, .inl (cI, 1500, .inl pa)), (mb, .inl (cI, 50, .inl pb))] s.heap := hP
  have hl := lv_entry ([.ref mo]) (n := 3) (Nat.le_of_ble_eq_true rfl)
  rw [lg_entry_eq]
  generalize (lg_sl ([.ref mo]) ++ List.replicate (3 - (lg_sl ([.ref mo])).length) Slot.unset).toArray = ls at hl ⊢
  have hl : lv_has ls 3 [(0, .ref mo)] := hl
  obtain ⟨Q, hQ⟩ : ∃ Q, Q = MQ below (va_Qv (fun (u : (Nat → Int32) × (Nat → Int32) × (Nat → Int32)) => ∀ k, k + 1 < n → (u.2.2 k).toInt = ((fun k => sh_w w ((fun k => KW (p6 k).toInt.toNat) (k + 1)) ((fun k => KW (p6 k).toInt.toNat) k)) k : Int) ∧ (u.2.2 k).toInt < 50) (fun (u : (Nat → Int32) × (Nat → Int32) × (Nat → Int32)) (t : State) => va_P D classes [(mo, .inr (4, [.int mso, .ref m1, .ref m2, .ref m3, .ref m4, .ref m5, .ref m6, .int mct, .ref m7, .int mfr, .int mcu, .int mth, .ref m8, .ref m9, .ref ma, .ref mb])), (m1, .inl (cL, 1503, .inr (.inl p1))), (m2, .inl (cL, 1503, .inr (.inl p2))), (m3, .inl (cI, 36072, .inl p3)), (m4, .inl (cI, 1503, .inl p4)), (m5, .inl (cL, 1500, .inr (.inl p5))), (m6, .inl (cI, 1500, .inl p6)), (m7, .inl (cI, 1500, .inl p7)), (m8, .inl (cI, 50, .inl u.1)), (m9, .inl (cI, 50, .inl u.2.1)), (ma, .inl (cI, 1500, .inl u.2.2)), (mb, .inl (cI, 50, .inl pb))] t.heap ∧ va_K D classes (tyz cL cI) t ∧ va_D (A) [(mo, .inr (4, [.int mso, .ref m1, .ref m2, .ref m3, .ref m4, .ref m5, .ref m6, .int mct, .ref m7, .int mfr, .int mcu, .int mth, .ref m8, .ref m9, .ref ma, .ref mb])), (m1, .inl (cL, 1503, .inr (.inl p1))), (m2, .inl (cL, 1503, .inr (.inl p2))), (m3, .inl (cI, 36072, .inl p3)), (m4, .inl (cI, 1503, .inl p4)), (m5, .inl (cL, 1500, .inr (.inl p5))), (m6, .inl (cI, 1500, .inl p6)), (m7, .inl (cI, 1500, .inl p7)), (m8, .inl (cI, 50, .inl u.1)), (m9, .inl (cI, 50, .inl u.2.1)), (ma, .inl (cI, 1500, .inl u.2.2)), (mb, .inl (cI, 50, .inl pb))]) (A)) ([.ref mo] : List Value).toArray s 0 0 A := ⟨_, rfl⟩
  rw [← hQ]
  refine lv_iconst (v := 0) hx hb d_Mo_look_0 (by decide) ?_
  refine lv_topi (fun v0 e0 => ?_)
  have t0 : v0.toInt = 0 := by rw [e0]; rfl
  refine lv_istore_n (lv' := [(1, .int v0), (0, .ref mo)]) hx hb d_Mo_look_1 rfl hl (by decide) rfl (fun ls hl => ?_)
  have lp2 : ∀ (fuel2 : Nat) (kk : Int32) (f8z : Nat → Int32) (f9z : Nat → Int32) (faz : Nat → Int32) (H : Heap) (locs : List Loc) (ls : Array Slot), lv_has ls 3 [(1, .int kk), (0, .ref mo)] → va_P D classes [(mo, .inr (4, [.int mso, .ref m1, .ref m2, .ref m3, .ref m4, .ref m5, .ref m6, .int mct, .ref m7, .int mfr, .int mcu, .int mth, .ref m8, .ref m9, .ref ma, .ref mb])), (m1, .inl (cL, 1503, .inr (.inl p1))), (m2, .inl (cL, 1503, .inr (.inl p2))), (m3, .inl (cI, 36072, .inl p3)), (m4, .inl (cI, 1503, .inl p4)), (m5, .inl (cL, 1500, .inr (.inl p5))), (m6, .inl (cI, 1500, .inl p6)), (m7, .inl (cI, 1500, .inl p7)), (m8, .inl (cI, 50, .inl f8z)), (m9, .inl (cI, 50, .inl f9z)), (ma, .inl (cI, 1500, .inl faz)), (mb, .inl (cI, 50, .inl pb))] H → va_D A [(mo, .inr (4, [.int mso, .ref m1, .ref m2, .ref m3, .ref m4, .ref m5, .ref m6, .int mct, .ref m7, .int mfr, .int mcu, .int mth, .ref m8, .ref m9, .ref ma, .ref mb])), (m1, .inl (cL, 1503, .inr (.inl p1))), (m2, .inl (cL, 1503, .inr (.inl p2))), (m3, .inl (cI, 36072, .inl p3)), (m4, .inl (cI, 1503, .inl p4)), (m5, .inl (cL, 1500, .inr (.inl p5))), (m6, .inl (cI, 1500, .inl p6)), (m7, .inl (cI, 1500, .inl p7)), (m8, .inl (cI, 50, .inl f8z)), (m9, .inl (cI, 50, .inl f9z)), (ma, .inl (cI, 1500, .inl faz)), (mb, .inl (cI, 50, .inl pb))] → va_S A s.heap H locs → (0 ≤ kk.toInt) → (kk.toInt.toNat ≤ n - 1) → (∀ k, k < kk.toInt.toNat → (faz k).toInt = ((fun k => sh_w w ((fun k => KW (p6 k).toInt.toNat) (k + 1)) ((fun k => KW (p6 k).toInt.toNat) k)) k : Int) ∧ (faz k).toInt < 50) → n - kk.toInt.toNat < fuel2 → W p l e ({ frames := 2, cells := 0, slots := 0, locals := 67 } : Room) s m ([.ref mo] : List Value).toArray below meth c H locs 0 0 Q (F0 m 2 ls []) := by
    intro fuel2
    induction fuel2 with
    | zero => intro kk f8z f9z faz H locs ls hl hP hD hS h1 h2 h3 hm2; exact absurd hm2 (Nat.not_lt_zero _)
    | succ fuel2 ih2 =>
      intro kk f8z f9z faz H locs ls hl hP hD hS h1 h2 h3 hm2
      refine lv_iload_n hx hb d_Mo_look_2 rfl (lv_at hl 0 rfl) ?_
      refine lv_iconst (v := 1) hx hb d_Mo_look_3 (by decide) ?_
      refine lv_topi (fun v3 e3 => ?_)
      have t3 : v3.toInt = 1 := by rw [e3]; rfl
      refine lv_iadd hx hb d_Mo_look_4 ?_
      refine lv_topi (fun v4 e4 => ?_)
      have t4 := ia_add e4 ⟨by omega, by omega⟩
      refine lv_aload_n hx hb d_Mo_look_5 rfl (lv_at hl 1 rfl) ?_
      refine va_get (D := D) (ci := 4) (v := .int mct) (C := R_Mo) (T := F_Mo) (N := 16) hx hb hts in_Mo hown hK hP 0 rfl rfl 7 (by decide) (hts _ tw_610) (fun _ h9 => h9) rfl d_Mo_look_6 ?_
      refine lv_icmp_ge hx hb d_Mo_look_9 (tgt := 80) (by decide) (fun g9 => ?_) (fun g9 => ?_)
      · have g9 := ic_le.mp g9
        have hpost : ∀ k, k + 1 < n → (faz k).toInt = ((fun k => sh_w w ((fun k => KW (p6 k).toInt.toNat) (k + 1)) ((fun k => KW (p6 k).toInt.toNat) k)) k : Int) ∧ (faz k).toInt < 50 := fun k hk => h3 k (by omega)
        have hP9 := hP.sub (ws' := [(mo, .inr (4, [.int mso, .ref m1, .ref m2, .ref m3, .ref m4, .ref m5, .ref m6, .int mct, .ref m7, .int mfr, .int mcu, .int mth, .ref m8, .ref m9, .ref ma, .ref mb])), (m1, .inl (cL, 1503, .inr (.inl p1))), (m2, .inl (cL, 1503, .inr (.inl p2))), (m3, .inl (cI, 36072, .inl p3)), (m4, .inl (cI, 1503, .inl p4)), (m5, .inl (cL, 1500, .inr (.inl p5))), (m6, .inl (cI, 1500, .inl p6)), (m7, .inl (cI, 1500, .inl p7)), (m8, .inl (cI, 50, .inl f8z)), (m9, .inl (cI, 50, .inl f9z)), (ma, .inl (cI, 1500, .inl faz)), (mb, .inl (cI, 50, .inl pb))]) [0, 1, 2, 3, 4, 5, 6, 7, 8, 9, 10, 11] rfl
        have hD9 := hD.sub (ws' := [(mo, .inr (4, [.int mso, .ref m1, .ref m2, .ref m3, .ref m4, .ref m5, .ref m6, .int mct, .ref m7, .int mfr, .int mcu, .int mth, .ref m8, .ref m9, .ref ma, .ref mb])), (m1, .inl (cL, 1503, .inr (.inl p1))), (m2, .inl (cL, 1503, .inr (.inl p2))), (m3, .inl (cI, 36072, .inl p3)), (m4, .inl (cI, 1503, .inl p4)), (m5, .inl (cL, 1500, .inr (.inl p5))), (m6, .inl (cI, 1500, .inl p6)), (m7, .inl (cI, 1500, .inl p7)), (m8, .inl (cI, 50, .inl f8z)), (m9, .inl (cI, 50, .inl f9z)), (ma, .inl (cI, 1500, .inl faz)), (mb, .inl (cI, 50, .inl pb))]) [0, 1, 2, 3, 4, 5, 6, 7, 8, 9, 10, 11] (by decide) rfl
        rw [hQ]
        exact W.vret hx hb hr (fun t ht hW => ⟨⟨(f8z, f9z, faz), rfl, hpost, by rw [ht]; exact hP9, va_K.moved hW.alike hK, hD9⟩, hS.F ht⟩) hS.2.2 d_Mo_look_80
      · have g9 := ic_nle.mp g9
        have hsk := hs kk.toInt.toNat (kk.toInt.toNat + 1) (by omega) (by omega)
        have ho1 := hor kk.toInt.toNat (by omega)
        have ho2 := hor (kk.toInt.toNat + 1) (by omega)
        have hx1 := hkr (p6 kk.toInt.toNat).toInt.toNat (by omega)
        have hx2 := hkr (p6 (kk.toInt.toNat + 1)).toInt.toNat (by omega)
        have hcs := cl_sh hws hx1 hx2 hsk
        have hc1 := cl_le hws hx1
        have hc2 := cl_le hws hx2
        refine lv_aload_n hx hb d_Mo_look_12 rfl (lv_at hl 1 rfl) ?_
        refine lv_aload_n hx hb d_Mo_look_13 rfl (lv_at hl 1 rfl) ?_
        refine va_get (D := D) (ci := 4) (v := .ref m8) (C := R_Mo) (T := F_Mo) (N := 16) hx hb hts in_Mo hown hK hP 0 rfl rfl 12 (by decide) (hts _ tw_615) (fun _ h9 => h9) rfl d_Mo_look_14 ?_
        refine lv_aload_n hx hb d_Mo_look_17 rfl (lv_at hl 1 rfl) ?_
        refine va_get (D := D) (ci := 4) (v := .ref m6) (C := R_Mo) (T := F_Mo) (N := 16) hx hb hts in_Mo hown hK hP 0 rfl rfl 6 (by decide) (hts _ tw_609) (fun _ h9 => h9) rfl d_Mo_look_18 ?_
        refine lv_iload_n hx hb d_Mo_look_21 rfl (lv_at hl 0 rfl) ?_
        refine va_iald hx hb hK hP 6 1 rfl rfl (ia_in ⟨by omega, by omega⟩) d_Mo_look_22 ?_
        refine lv_topi (fun v22 e22 => ?_)
        have e22 : v22 = p6 kk.toInt.toNat := e22
        have ho3 : 0 ≤ v22.toInt ∧ v22.toInt < 1500 := by rw [e22]; exact ho1
        have hPc := hP.sub (ws' := [(mo, .inr (4, [.int mso, .ref m1, .ref m2, .ref m3, .ref m4, .ref m5, .ref m6, .int mct, .ref m7, .int mfr, .int mcu, .int mth, .ref m8, .ref m9, .ref ma, .ref mb])), (m1, .inl (cL, 1503, .inr (.inl p1))), (m2, .inl (cL, 1503, .inr (.inl p2))), (m3, .inl (cI, 36072, .inl p3)), (m4, .inl (cI, 1503, .inl p4)), (m8, .inl (cI, 50, .inl f8z))]) [0, 1, 2, 3, 4, 8] rfl
        have hDc := hD.sub (ws' := [(mo, .inr (4, [.int mso, .ref m1, .ref m2, .ref m3, .ref m4, .ref m5, .ref m6, .int mct, .ref m7, .int mfr, .int mcu, .int mth, .ref m8, .ref m9, .ref ma, .ref mb])), (m1, .inl (cL, 1503, .inr (.inl p1))), (m2, .inl (cL, 1503, .inr (.inl p2))), (m3, .inl (cI, 36072, .inl p3)), (m4, .inl (cI, 1503, .inl p4)), (m8, .inl (cI, 50, .inl f8z))]) [0, 1, 2, 3, 4, 8] (by decide) rfl
        have hFc := va_free (wc := [(mo, .inr (4, [.int mso, .ref m1, .ref m2, .ref m3, .ref m4, .ref m5, .ref m6, .int mct, .ref m7, .int mfr, .int mcu, .int mth, .ref m8, .ref m9, .ref ma, .ref mb])), (m1, .inl (cL, 1503, .inr (.inl p1))), (m2, .inl (cL, 1503, .inr (.inl p2))), (m3, .inl (cI, 36072, .inl p3)), (m4, .inl (cI, 1503, .inl p4)), (m8, .inl (cI, 50, .inl f8z))]) hD hS hA [0, 1, 2, 3, 4, 8] rfl
        refine va_calli (xr_mv (As := [.ref m8, .int v22]) (rest := []) ⟨hx, hb, hml, hown, hts⟩ (c_Mo_encode l D cL cI mo m1 m2 m3 m4 m5 m6 m7 m8 m9 ma mb mso mct mfr mcu mth p1 p2 p5 p3 p4 p6 p7 p8 p9 pa pb w KW m8 f8z v22 H.size (by first | omega | exact hws) (by first | omega | exact hkr) (by omega)) (xr_cv 2 hts tw_806 tw_803 tw_805 tp_21 tw_7 rfl rfl (by decide) ⟨Nat.le_of_ble_eq_true rfl, Nat.le_of_ble_eq_true rfl⟩) hK hPc (hDc.weaken (fun _ _ _ _ => trivial)) (va_recv hK hP rfl (q0 := 0) (ci := 4) rfl) rfl hl.1 rfl (Nat.le_of_ble_eq_true rfl) d_Mo_look_23 ⟨Nat.le_of_ble_eq_true rfl, Nat.le_of_ble_eq_true rfl⟩) hS (fun q _ h => hFc q h) hFc (fun v23 u23 tt23 H1 locs ht23 hvm23 e23 hB23 hz23 hk23 hS => ?_)
        obtain ⟨ftb_23, rfl⟩ : ∃ z, z = u23 := ⟨_, rfl⟩
        have e23 : v23.toInt = (cl mso.toInt w p3 p4 v22.toInt.toNat : Int) ∧ ∀ d, d < cl mso.toInt w p3 p4 v22.toInt.toNat → (ftb_23 d).toInt = (by_w (KW v22.toInt.toNat) d : Int) := e23
        obtain ⟨hP1, hK1, hD1⟩ := hB23
        rw [ht23] at hP1
        obtain ⟨hP, hD⟩ := va_join (wr := [(m5, .inl (cL, 1500, .inr (.inl p5))), (m6, .inl (cI, 1500, .inl p6)), (m7, .inl (cI, 1500, .inl p7)), (m9, .inl (cI, 50, .inl f9z)), (ma, .inl (cI, 1500, .inl faz)), (mb, .inl (cI, 50, .inl pb))]) (w1 := [(mo, .inr (4, [.int mso, .ref m1, .ref m2, .ref m3, .ref m4, .ref m5, .ref m6, .int mct, .ref m7, .int mfr, .int mcu, .int mth, .ref m8, .ref m9, .ref ma, .ref mb])), (m1, .inl (cL, 1503, .inr (.inl p1))), (m2, .inl (cL, 1503, .inr (.inl p2))), (m3, .inl (cI, 36072, .inl p3)), (m4, .inl (cI, 1503, .inl p4)), (m8, .inl (cI, 50, .inl ftb_23))]) hP hD [0, 1, 2, 3, 4, 8] [5, 6, 7, 9, 10, 11] rfl rfl (by decide) (by decide) hk23 hFc hP1 hD1
        clear hP1 hD1 hPc hDc hFc
        generalize H1 = H at hP hS ⊢
        have hP : va_P D classes [(m5, .inl (cL, 1500, .inr (.inl p5))), (m6, .inl (cI, 1500, .inl p6)), (m7, .inl (cI, 1500, .inl p7)), (m9, .inl (cI, 50, .inl f9z)), (ma, .inl (cI, 1500, .inl faz)), (mb, .inl (cI, 50, .inl pb)), (mo, .inr (4, [.int mso, .ref m1, .ref m2, .ref m3, .ref m4, .ref m5, .ref m6, .int mct, .ref m7, .int mfr, .int mcu, .int mth, .ref m8, .ref m9, .ref ma, .ref mb])), (m1, .inl (cL, 1503, .inr (.inl p1))), (m2, .inl (cL, 1503, .inr (.inl p2))), (m3, .inl (cI, 36072, .inl p3)), (m4, .inl (cI, 1503, .inl p4)), (m8, .inl (cI, 50, .inl ftb_23))] H := hP
        have hD : va_D A [(m5, .inl (cL, 1500, .inr (.inl p5))), (m6, .inl (cI, 1500, .inl p6)), (m7, .inl (cI, 1500, .inl p7)), (m9, .inl (cI, 50, .inl f9z)), (ma, .inl (cI, 1500, .inl faz)), (mb, .inl (cI, 50, .inl pb)), (mo, .inr (4, [.int mso, .ref m1, .ref m2, .ref m3, .ref m4, .ref m5, .ref m6, .int mct, .ref m7, .int mfr, .int mcu, .int mth, .ref m8, .ref m9, .ref ma, .ref mb])), (m1, .inl (cL, 1503, .inr (.inl p1))), (m2, .inl (cL, 1503, .inr (.inl p2))), (m3, .inl (cI, 36072, .inl p3)), (m4, .inl (cI, 1503, .inl p4)), (m8, .inl (cI, 50, .inl ftb_23))] := hD
        rw [e22] at e23
        refine lv_pop hx hb d_Mo_look_26 rfl ?_
        refine lv_aload_n hx hb d_Mo_look_27 rfl (lv_at hl 1 rfl) ?_
        refine lv_aload_n hx hb d_Mo_look_28 rfl (lv_at hl 1 rfl) ?_
        refine va_get (D := D) (ci := 4) (v := .ref m9) (C := R_Mo) (T := F_Mo) (N := 16) hx hb hts in_Mo hown hK hP 6 rfl rfl 13 (by decide) (hts _ tw_616) (fun _ h9 => h9) rfl d_Mo_look_29 ?_
        refine lv_aload_n hx hb d_Mo_look_32 rfl (lv_at hl 1 rfl) ?_
        refine va_get (D := D) (ci := 4) (v := .ref m6) (C := R_Mo) (T := F_Mo) (N := 16) hx hb hts in_Mo hown hK hP 6 rfl rfl 6 (by decide) (hts _ tw_609) (fun _ h9 => h9) rfl d_Mo_look_33 ?_
        refine lv_iload_n hx hb d_Mo_look_36 rfl (lv_at hl 0 rfl) ?_
        refine lv_iconst (v := 1) hx hb d_Mo_look_37 (by decide) ?_
        refine lv_topi (fun v37 e37 => ?_)
        have t37 : v37.toInt = 1 := by rw [e37]; rfl
        refine lv_iadd hx hb d_Mo_look_38 ?_
        refine lv_topi (fun v38 e38 => ?_)
        have t38 := ia_add e38 ⟨by omega, by omega⟩
        refine va_iald hx hb hK hP 1 1 rfl rfl (ia_in ⟨by omega, by omega⟩) d_Mo_look_39 ?_
        refine lv_topi (fun v39 e39 => ?_)
        have e39 : v39 = p6 v38.toInt.toNat := e39
        have h39 : v39 = p6 (kk.toInt.toNat + 1) := by rw [e39]; congr 1; omega
        have ho4 : 0 ≤ v39.toInt ∧ v39.toInt < 1500 := by rw [h39]; exact ho2
        have hPc := hP.sub (ws' := [(mo, .inr (4, [.int mso, .ref m1, .ref m2, .ref m3, .ref m4, .ref m5, .ref m6, .int mct, .ref m7, .int mfr, .int mcu, .int mth, .ref m8, .ref m9, .ref ma, .ref mb])), (m1, .inl (cL, 1503, .inr (.inl p1))), (m2, .inl (cL, 1503, .inr (.inl p2))), (m3, .inl (cI, 36072, .inl p3)), (m4, .inl (cI, 1503, .inl p4)), (m9, .inl (cI, 50, .inl f9z))]) [6, 7, 8, 9, 10, 3] rfl
        have hDc := hD.sub (ws' := [(mo, .inr (4, [.int mso, .ref m1, .ref m2, .ref m3, .ref m4, .ref m5, .ref m6, .int mct, .ref m7, .int mfr, .int mcu, .int mth, .ref m8, .ref m9, .ref ma, .ref mb])), (m1, .inl (cL, 1503, .inr (.inl p1))), (m2, .inl (cL, 1503, .inr (.inl p2))), (m3, .inl (cI, 36072, .inl p3)), (m4, .inl (cI, 1503, .inl p4)), (m9, .inl (cI, 50, .inl f9z))]) [6, 7, 8, 9, 10, 3] (by decide) rfl
        have hFc := va_free (wc := [(mo, .inr (4, [.int mso, .ref m1, .ref m2, .ref m3, .ref m4, .ref m5, .ref m6, .int mct, .ref m7, .int mfr, .int mcu, .int mth, .ref m8, .ref m9, .ref ma, .ref mb])), (m1, .inl (cL, 1503, .inr (.inl p1))), (m2, .inl (cL, 1503, .inr (.inl p2))), (m3, .inl (cI, 36072, .inl p3)), (m4, .inl (cI, 1503, .inl p4)), (m9, .inl (cI, 50, .inl f9z))]) hD hS hA [6, 7, 8, 9, 10, 3] rfl
        refine va_calli (xr_mv (As := [.ref m9, .int v39]) (rest := []) ⟨hx, hb, hml, hown, hts⟩ (c_Mo_encode l D cL cI mo m1 m2 m3 m4 m5 m6 m7 m8 m9 ma mb mso mct mfr mcu mth p1 p2 p5 p3 p4 p6 p7 p8 p9 pa pb w KW m9 f9z v39 H.size (by first | omega | exact hws) (by first | omega | exact hkr) (by omega)) (xr_cv 2 hts tw_806 tw_803 tw_805 tp_21 tw_7 rfl rfl (by decide) ⟨Nat.le_of_ble_eq_true rfl, Nat.le_of_ble_eq_true rfl⟩) hK hPc (hDc.weaken (fun _ _ _ _ => trivial)) (va_recv hK hP rfl (q0 := 6) (ci := 4) rfl) rfl hl.1 rfl (Nat.le_of_ble_eq_true rfl) d_Mo_look_40 ⟨Nat.le_of_ble_eq_true rfl, Nat.le_of_ble_eq_true rfl⟩) hS (fun q _ h => hFc q h) hFc (fun v40 u40 tt40 H1 locs ht40 hvm40 e40 hB40 hz40 hk40 hS => ?_)
        obtain ⟨ftb_40, rfl⟩ : ∃ z, z = u40 := ⟨_, rfl⟩
        have e40 : v40.toInt = (cl mso.toInt w p3 p4 v39.toInt.toNat : Int) ∧ ∀ d, d < cl mso.toInt w p3 p4 v39.toInt.toNat → (ftb_40 d).toInt = (by_w (KW v39.toInt.toNat) d : Int) := e40
        obtain ⟨hP1, hK1, hD1⟩ := hB40
        rw [ht40] at hP1
        obtain ⟨hP, hD⟩ := va_join (wr := [(m5, .inl (cL, 1500, .inr (.inl p5))), (m6, .inl (cI, 1500, .inl p6)), (m7, .inl (cI, 1500, .inl p7)), (ma, .inl (cI, 1500, .inl faz)), (mb, .inl (cI, 50, .inl pb)), (m8, .inl (cI, 50, .inl ftb_23))]) (w1 := [(mo, .inr (4, [.int mso, .ref m1, .ref m2, .ref m3, .ref m4, .ref m5, .ref m6, .int mct, .ref m7, .int mfr, .int mcu, .int mth, .ref m8, .ref m9, .ref ma, .ref mb])), (m1, .inl (cL, 1503, .inr (.inl p1))), (m2, .inl (cL, 1503, .inr (.inl p2))), (m3, .inl (cI, 36072, .inl p3)), (m4, .inl (cI, 1503, .inl p4)), (m9, .inl (cI, 50, .inl ftb_40))]) hP hD [6, 7, 8, 9, 10, 3] [0, 1, 2, 4, 5, 11] rfl rfl (by decide) (by decide) hk40 hFc hP1 hD1
        clear hP1 hD1 hPc hDc hFc
        generalize H1 = H at hP hS ⊢
        have hP : va_P D classes [(m5, .inl (cL, 1500, .inr (.inl p5))), (m6, .inl (cI, 1500, .inl p6)), (m7, .inl (cI, 1500, .inl p7)), (ma, .inl (cI, 1500, .inl faz)), (mb, .inl (cI, 50, .inl pb)), (m8, .inl (cI, 50, .inl ftb_23)), (mo, .inr (4, [.int mso, .ref m1, .ref m2, .ref m3, .ref m4, .ref m5, .ref m6, .int mct, .ref m7, .int mfr, .int mcu, .int mth, .ref m8, .ref m9, .ref ma, .ref mb])), (m1, .inl (cL, 1503, .inr (.inl p1))), (m2, .inl (cL, 1503, .inr (.inl p2))), (m3, .inl (cI, 36072, .inl p3)), (m4, .inl (cI, 1503, .inl p4)), (m9, .inl (cI, 50, .inl ftb_40))] H := hP
        have hD : va_D A [(m5, .inl (cL, 1500, .inr (.inl p5))), (m6, .inl (cI, 1500, .inl p6)), (m7, .inl (cI, 1500, .inl p7)), (ma, .inl (cI, 1500, .inl faz)), (mb, .inl (cI, 50, .inl pb)), (m8, .inl (cI, 50, .inl ftb_23)), (mo, .inr (4, [.int mso, .ref m1, .ref m2, .ref m3, .ref m4, .ref m5, .ref m6, .int mct, .ref m7, .int mfr, .int mcu, .int mth, .ref m8, .ref m9, .ref ma, .ref mb])), (m1, .inl (cL, 1503, .inr (.inl p1))), (m2, .inl (cL, 1503, .inr (.inl p2))), (m3, .inl (cI, 36072, .inl p3)), (m4, .inl (cI, 1503, .inl p4)), (m9, .inl (cI, 50, .inl ftb_40))] := hD
        rw [h39] at e40
        generalize hSH : sh_w w (KW (p6 (kk.toInt.toNat + 1)).toInt.toNat) (KW (p6 kk.toInt.toNat).toInt.toNat) = SH at hcs
        have hc8 : SH < 8 * w := by
              rw [← hSH]
              have h11 := sh_w_le w (KW (p6 (kk.toInt.toNat + 1)).toInt.toNat) (KW (p6 kk.toInt.toNat).toInt.toNat)
              rcases Nat.lt_or_ge (sh_w w (KW (p6 (kk.toInt.toNat + 1)).toInt.toNat) (KW (p6 kk.toInt.toNat).toInt.toNat)) (8 * w) with h12 | h12
              · exact h12
              · exact absurd hsk (kw_irr (kw_eq_symm (sh_w_full.mp (Nat.le_antisymm h11 h12))))
        refine lv_pop hx hb d_Mo_look_43 rfl ?_
        refine lv_iconst (v := 0) hx hb d_Mo_look_44 (by decide) ?_
        refine lv_topi (fun v44 e44 => ?_)
        have t44 : v44.toInt = 0 := by rw [e44]; rfl
        refine lv_istore_n (lv' := [(2, .int v44), (1, .int kk), (0, .ref mo)]) hx hb d_Mo_look_45 rfl hl (by decide) rfl (fun ls hl => ?_)
        have lp46 : ∀ (fuel46 : Nat) (nn : Int32) (ls : Array Slot), lv_has ls 3 [(2, .int nn), (1, .int kk), (0, .ref mo)] → (0 ≤ nn.toInt) → (nn.toInt.toNat ≤ SH) → 50 - nn.toInt.toNat < fuel46 → W p l e ({ frames := 2, cells := 0, slots := 0, locals := 67 } : Room) s m ([.ref mo] : List Value).toArray below meth c H locs 0 0 Q (F0 m 46 ls []) := by
          intro fuel46
          induction fuel46 with
          | zero => intro nn ls hl k1 k2 hm46; exact absurd hm46 (Nat.not_lt_zero _)
          | succ fuel46 ih46 =>
            intro nn ls hl k1 k2 hm46
            refine lv_aload_n hx hb d_Mo_look_46 rfl (lv_at hl 2 rfl) ?_
            refine va_get (D := D) (ci := 4) (v := .ref m8) (C := R_Mo) (T := F_Mo) (N := 16) hx hb hts in_Mo hown hK hP 6 rfl rfl 12 (by decide) (hts _ tw_615) (fun _ h9 => h9) rfl d_Mo_look_47 ?_
            refine lv_iload_n hx hb d_Mo_look_50 rfl (lv_at hl 0 rfl) ?_
            refine va_iald hx hb hK hP 5 1 rfl rfl (ia_in ⟨by omega, by omega⟩) d_Mo_look_51 ?_
            refine lv_topi (fun v51 e51 => ?_)
            have e51 : v51 = ftb_23 nn.toInt.toNat := e51
            refine lv_aload_n hx hb d_Mo_look_52 rfl (lv_at hl 2 rfl) ?_
            refine va_get (D := D) (ci := 4) (v := .ref m9) (C := R_Mo) (T := F_Mo) (N := 16) hx hb hts in_Mo hown hK hP 6 rfl rfl 13 (by decide) (hts _ tw_616) (fun _ h9 => h9) rfl d_Mo_look_53 ?_
            refine lv_iload_n hx hb d_Mo_look_56 rfl (lv_at hl 0 rfl) ?_
            refine va_iald hx hb hK hP 11 1 rfl rfl (ia_in ⟨by omega, by omega⟩) d_Mo_look_57 ?_
            refine lv_topi (fun v57 e57 => ?_)
            have e57 : v57 = ftb_40 nn.toInt.toNat := e57
            have hb1 := e23.2 nn.toInt.toNat (by omega)
            have hb2 := e40.2 nn.toInt.toNat (by omega)
            rw [← e51] at hb1
            rw [← e57] at hb2
            refine lv_icmp_ne hx hb d_Mo_look_58 (tgt := 67) (by decide) (fun g58 => ?_) (fun g58 => ?_)
            · have g58 := ic_ne.mp g58
              have hend : nn.toInt.toNat = SH := by
                    rcases Nat.lt_or_ge nn.toInt.toNat SH with h8 | h8
                    · exfalso
                      rw [← hSH] at h8
                      have h9 := sh_w_eq _ _ _ _ h8
                      omega
                    · omega
              refine lv_aload_n hx hb d_Mo_look_67 rfl (lv_at hl 2 rfl) ?_
              refine va_get (D := D) (ci := 4) (v := .ref ma) (C := R_Mo) (T := F_Mo) (N := 16) hx hb hts in_Mo hown hK hP 6 rfl rfl 14 (by decide) (hts _ tw_617) (fun _ h9 => h9) rfl d_Mo_look_68 ?_
              refine lv_iload_n hx hb d_Mo_look_71 rfl (lv_at hl 1 rfl) ?_
              refine lv_iload_n hx hb d_Mo_look_72 rfl (lv_at hl 0 rfl) ?_
              refine va_iast hx hb hK hP hD hS 3 1 rfl rfl (ia_in ⟨by omega, by omega⟩) d_Mo_look_73 (fun H locs hP hD hS => ?_)
              obtain ⟨f73, q73⟩ : ∃ z, z = upd faz kk.toInt.toNat nn := ⟨_, rfl⟩
              have hP : va_P D classes [(m5, .inl (cL, 1500, .inr (.inl p5))), (m6, .inl (cI, 1500, .inl p6)), (m7, .inl (cI, 1500, .inl p7)), (ma, .inl (cI, 1500, .inl (upd faz kk.toInt.toNat nn))), (mb, .inl (cI, 50, .inl pb)), (m8, .inl (cI, 50, .inl ftb_23)), (mo, .inr (4, [.int mso, .ref m1, .ref m2, .ref m3, .ref m4, .ref m5, .ref m6, .int mct, .ref m7, .int mfr, .int mcu, .int mth, .ref m8, .ref m9, .ref ma, .ref mb])), (m1, .inl (cL, 1503, .inr (.inl p1))), (m2, .inl (cL, 1503, .inr (.inl p2))), (m3, .inl (cI, 36072, .inl p3)), (m4, .inl (cI, 1503, .inl p4)), (m9, .inl (cI, 50, .inl ftb_40))] H := hP
              have hD : va_D A [(m5, .inl (cL, 1500, .inr (.inl p5))), (m6, .inl (cI, 1500, .inl p6)), (m7, .inl (cI, 1500, .inl p7)), (ma, .inl (cI, 1500, .inl (upd faz kk.toInt.toNat nn))), (mb, .inl (cI, 50, .inl pb)), (m8, .inl (cI, 50, .inl ftb_23)), (mo, .inr (4, [.int mso, .ref m1, .ref m2, .ref m3, .ref m4, .ref m5, .ref m6, .int mct, .ref m7, .int mfr, .int mcu, .int mth, .ref m8, .ref m9, .ref ma, .ref mb])), (m1, .inl (cL, 1503, .inr (.inl p1))), (m2, .inl (cL, 1503, .inr (.inl p2))), (m3, .inl (cI, 36072, .inl p3)), (m4, .inl (cI, 1503, .inl p4)), (m9, .inl (cI, 50, .inl ftb_40))] := hD
              rw [← q73] at hP hD
              obtain ⟨v74, e74⟩ : ∃ z, z = kk + Int32.ofInt 1 := ⟨_, rfl⟩
              have t74 := ia_inc 1 e74 (by decide) ⟨by omega, by omega⟩
              refine lv_iinc (k := 1) (lv' := [(1, .int v74), (2, .int nn), (0, .ref mo)]) hx hb d_Mo_look_74 hl rfl e74.symm (by decide) rfl (fun ls hl => ?_)
              refine lv_goto hx hb d_Mo_look_77 (tgt := 2) (by decide) ?_
              have hPz := hP.sub (ws' := [(mo, .inr (4, [.int mso, .ref m1, .ref m2, .ref m3, .ref m4, .ref m5, .ref m6, .int mct, .ref m7, .int mfr, .int mcu, .int mth, .ref m8, .ref m9, .ref ma, .ref mb])), (m1, .inl (cL, 1503, .inr (.inl p1))), (m2, .inl (cL, 1503, .inr (.inl p2))), (m3, .inl (cI, 36072, .inl p3)), (m4, .inl (cI, 1503, .inl p4)), (m5, .inl (cL, 1500, .inr (.inl p5))), (m6, .inl (cI, 1500, .inl p6)), (m7, .inl (cI, 1500, .inl p7)), (m8, .inl (cI, 50, .inl ftb_23)), (m9, .inl (cI, 50, .inl ftb_40)), (ma, .inl (cI, 1500, .inl f73)), (mb, .inl (cI, 50, .inl pb))]) [6, 7, 8, 9, 10, 0, 1, 2, 5, 11, 3, 4] rfl
              have hDz := hD.sub (ws' := [(mo, .inr (4, [.int mso, .ref m1, .ref m2, .ref m3, .ref m4, .ref m5, .ref m6, .int mct, .ref m7, .int mfr, .int mcu, .int mth, .ref m8, .ref m9, .ref ma, .ref mb])), (m1, .inl (cL, 1503, .inr (.inl p1))), (m2, .inl (cL, 1503, .inr (.inl p2))), (m3, .inl (cI, 36072, .inl p3)), (m4, .inl (cI, 1503, .inl p4)), (m5, .inl (cL, 1500, .inr (.inl p5))), (m6, .inl (cI, 1500, .inl p6)), (m7, .inl (cI, 1500, .inl p7)), (m8, .inl (cI, 50, .inl ftb_23)), (m9, .inl (cI, 50, .inl ftb_40)), (ma, .inl (cI, 1500, .inl f73)), (mb, .inl (cI, 50, .inl pb))]) [6, 7, 8, 9, 10, 0, 1, 2, 5, 11, 3, 4] (by decide) rfl
              exact ih2 v74 ftb_23 ftb_40 f73 H locs ls (lv_sub hl [0, 2] rfl) hPz hDz hS (by omega) (by omega) (fun k hk => by
                    rw [q73]
                    unfold upd
                    by_cases h8 : k = kk.toInt.toNat
                    · rw [if_pos h8, h8]
                      refine ⟨?_, by omega⟩
                      show nn.toInt = (sh_w w (KW (p6 (kk.toInt.toNat + 1)).toInt.toNat) (KW (p6 kk.toInt.toNat).toInt.toNat) : Int)
                      rw [hSH]; omega
                    · rw [if_neg h8]; exact h3 k (by omega)) (by omega)
            · have g58 := ic_eq.mp g58
              have hlt : nn.toInt.toNat < SH := by
                    rcases Nat.lt_or_ge nn.toInt.toNat SH with h8 | h8
                    · exact h8
                    · exfalso
                      have h9 : nn.toInt.toNat = SH := by omega
                      have h11 := sh_w_le w (KW (p6 (kk.toInt.toNat + 1)).toInt.toNat) (KW (p6 kk.toInt.toNat).toInt.toNat)
                      have h10 := sh_w_ne (n := w) (a := KW (p6 (kk.toInt.toNat + 1)).toInt.toNat) (b := KW (p6 kk.toInt.toNat).toInt.toNat) (by rw [hSH]; have h12 := hc8; omega)
                      rw [hSH, ← h9] at h10
                      omega
              obtain ⟨v61, e61⟩ : ∃ z, z = nn + Int32.ofInt 1 := ⟨_, rfl⟩
              have t61 := ia_inc 1 e61 (by decide) ⟨by omega, by omega⟩
              refine lv_iinc (k := 0) (lv' := [(2, .int v61), (1, .int kk), (0, .ref mo)]) hx hb d_Mo_look_61 hl rfl e61.symm (by decide) rfl (fun ls hl => ?_)
              refine lv_goto hx hb d_Mo_look_64 (tgt := 46) (by decide) ?_
              exact ih46 v61 ls hl (by omega) (by omega) (by omega)
        exact lp46 _ v44  ls hl (by omega) (by omega) (Nat.lt_succ_self _)
  exact lp2 _ v0 p8 p9 pa s.heap [] ls hl hP hD hS (by omega) (by omega) (fun k hk => by omega) (Nat.lt_succ_self _)
