set_option maxRecDepth 100000 in
set_option maxHeartbeats 4000000 in
theorem lw_loop {p : Program} {l : Launch} {e : Env} {s : State} {m : MethodId} {below : List Frame} {meth : Method} {c : Code} {b L : Nat} {xs : Nat → Int32} {D : va_G} {cL cI : ClassId} {A : Nat → Prop} (C : LC p l s m c b L xs D cL cI A) (hr : meth.sig.returnType = ret) (hlocks : meth.locks = false) {xo mo oa : Nat} : ∀ (f j : Nat) (i : Int32) (H : Heap) (locs : List Loc) (cells slots : Nat) (ls : Array Slot), lv_has ls 8 [(0, .ref b), (1, .ref xo), (2, .ref mo), (3, .ref oa), (4, .int i)] → i.toInt = 1 + 6 * (j : Int) → 600 < f + j → j ≤ 512 → LI D cL cI A xo mo oa H cells slots j → va_S A s.heap H locs → W p l e room_1 s m #[Value.ref b] below meth c H locs cells slots (lw_Z below #[Value.ref b] s) (F0 m 33 ls []) := by
  intro f
  induction f with
  | zero => intro j i H locs cells slots ls hl hi hf hj hLI hS; omega
  | succ f ih =>
    intro j i H locs cells slots ls hl hi hf hj hLI hS
    obtain ⟨hx, hb, hml, hown, hts, hX, hbl, hbA, htr, hxe, hze, hK, hA, hAn, hL3⟩ := id C
    obtain ⟨kA, wA, kB, wB, kC, wC, kD, wD, kn, sr, cu, isr, gA, gB, gC, gD, tb, cd, vl, nc, w, n, wd, cnt, chg, fc, nv, fv, so, bs, la, ca, ha, mb, dp, rt, opn, fb, fl, fch, fh, m1, m2, m3, m4, m5, m6, m7, m8, m9, ma, mq, mso, mct, mfr, mcu, mth, p1, p2, p5, p3, p4, p6, p7, p8, p9, pa, pb, KW, fo, hP, hD, hI, hR, hnj, hcz, hsz⟩ := hLI
    refine lv_iload hx hb d_La_law_33 (lv_at hl 4 rfl) ?_
    refine lv_aload_n hx hb d_La_law_35 rfl (lv_at hl 0 rfl) ?_
    refine va_slen hx hb hX hbl hbA hS d_La_law_36 ?_
    refine lv_topi (fun v36 e36 => ?_)
    have t36 : v36.toInt = (L : Int) := by rw [e36]; exact ia_of _ (by omega)
    refine lv_bipush (v := 6) hx hb d_La_law_37 (by decide) ?_
    refine lv_topi (fun v37 e37 => ?_)
    have t37 : v37.toInt = 6 := by rw [e37]; rfl
    refine lv_isub hx hb d_La_law_39 ?_
    refine lv_topi (fun v39 e39 => ?_)
    have t39 := ia_sub e39 ⟨by omega, by omega⟩
    refine lv_icmp_gt hx hb d_La_law_40 (tgt := 1251) (by decide) (fun g40 => ?_) (fun g40 => ?_)
    · have h1 : sb w nv ≤ 2 * 8 * 3000 := Nat.mul_le_mul (by have := hI.2.1; omega) (by have := hI.2.2.2.2.1; omega)
      have h2 := hI.2.2.2.2.1
      refine va_forget (fun q hq => Nat.not_lt.mp (fun h => hAn _ h (hS.2.2 q hq))) ?_
      refine W.widen (k := 601024) (n := 7293000) (by omega) (by omega) ?_
      refine lv_iconst (v := 1) hx hb d_La_law_1251 (by decide) ?_
      exact lw_ret hx hb hr hlocks d_La_law_1252
    · have g40 := ic_nlt.mp g40
      have nx : ∀ (H : Heap) (locs : List Loc) (cells slots : Nat) (ls : Array Slot), lv_has ls 8 [(0, .ref b), (1, .ref xo), (2, .ref mo), (3, .ref oa), (4, .int i)] → LI D cL cI A xo mo oa H cells slots (j + 1) → va_S A s.heap H locs → W p l e room_1 s m #[Value.ref b] below meth c H locs cells slots (lw_Z below #[Value.ref b] s) (F0 m 1245 ls []) := by
        intro H locs cells slots ls hl hLI hS
        obtain ⟨v1245, e1245⟩ : ∃ z, z = i + Int32.ofInt 6 := ⟨_, rfl⟩
        have t1245 := ia_inc 6 e1245 (by decide) ⟨by omega, by omega⟩
        refine lv_iinc (k := 4) (lv' := [(4, .int v1245), (0, .ref b), (1, .ref xo), (2, .ref mo), (3, .ref oa)]) hx hb d_La_law_1245 hl rfl e1245.symm (by decide) rfl (fun ls hl => ?_)
        refine lv_goto hx hb d_La_law_1248 (tgt := 33) (by decide) ?_
        exact ih (j + 1) v1245 H locs cells slots ls (lv_sub hl [1, 2, 3, 4, 0] rfl) (by omega) (by omega) (by omega) hLI hS
      refine lv_aload_n hx hb d_La_law_43 rfl (lv_at hl 0 rfl) ?_
      refine lv_iload hx hb d_La_law_44 (lv_at hl 4 rfl) ?_
      refine va_sld hx hb hX hbl hbA hS (ia_in ⟨by omega, by omega⟩) d_La_law_46 ?_
      refine lv_topi (fun v46 e46 => ?_)
      refine lv_bipush (v := 31) hx hb d_La_law_47 (by decide) ?_
      refine lv_topi (fun v47 e47 => ?_)
      refine lv_iand hx hb d_La_law_49 ?_
      refine lv_topi (fun v49 e49 => ?_)
      have t49 := ia_mask 5 e49 (by decide) (by rw [e47]; decide)
      by_cases hsw : v49.toInt < 0 ∨ 23 < v49.toInt
      · refine lv_tableOut hx hb d_La_law_50 hsw (tgt := 1245) (by decide) ?_
        exact nx H locs cells slots ls hl ⟨kA, wA, kB, wB, kC, wC, kD, wD, kn, sr, cu, isr, gA, gB, gC, gD, tb, cd, vl, nc, w, n, wd, cnt, chg, fc, nv, fv, so, bs, la, ca, ha, mb, dp, rt, opn, fb, fl, fch, fh, m1, m2, m3, m4, m5, m6, m7, m8, m9, ma, mq, mso, mct, mfr, mcu, mth, p1, p2, p5, p3, p4, p6, p7, p8, p9, pa, pb, KW, fo, hP, hD, hI, hR, by omega, by omega, by omega⟩ hS
      · rcases (show v49.toInt = 0 ∨ v49.toInt = 1 ∨ v49.toInt = 2 ∨ v49.toInt = 3 ∨ v49.toInt = 4 ∨ v49.toInt = 5 ∨ v49.toInt = 6 ∨ v49.toInt = 7 ∨ v49.toInt = 8 ∨ v49.toInt = 9 ∨ v49.toInt = 10 ∨ v49.toInt = 11 ∨ v49.toInt = 12 ∨ v49.toInt = 13 ∨ v49.toInt = 14 ∨ v49.toInt = 15 ∨ v49.toInt = 16 ∨ v49.toInt = 17 ∨ v49.toInt = 18 ∨ v49.toInt = 19 ∨ v49.toInt = 20 ∨ v49.toInt = 21 ∨ v49.toInt = 22 ∨ v49.toInt = 23 by omega) with hk | hk | hk | hk | hk | hk | hk | hk | hk | hk | hk | hk | hk | hk | hk | hk | hk | hk | hk | hk | hk | hk | hk | hk
        · refine lv_tableIn hx hb d_La_law_50 (by omega) (by omega) (off := 110) (by rw [hk]; rfl) (tgt := 160) (by decide) ?_
          exact lo_0 C (by omega) hi (by omega) hl hP hD hI hR hnj hcz hsz hS nx
        · refine lv_tableIn hx hb d_La_law_50 (by omega) (by omega) (off := 178) (by rw [hk]; rfl) (tgt := 228) (by decide) ?_
          exact lo_1 C (by omega) hi (by omega) hl hP hD hI hR hnj hcz hsz hS nx
        · refine lv_tableIn hx hb d_La_law_50 (by omega) (by omega) (off := 290) (by rw [hk]; rfl) (tgt := 340) (by decide) ?_
          exact lo_2 C (by omega) hi (by omega) hl hP hD hI hR hnj hcz hsz hS nx
        · refine lv_tableIn hx hb d_La_law_50 (by omega) (by omega) (off := 346) (by rw [hk]; rfl) (tgt := 396) (by decide) ?_
          exact lo_3 C (by omega) hi (by omega) hl hP hD hI hR hnj hcz hsz hS nx
        · refine lv_tableIn hx hb d_La_law_50 (by omega) (by omega) (off := 357) (by rw [hk]; rfl) (tgt := 407) (by decide) ?_
          exact lo_4 C (by omega) hi (by omega) hl hP hD hI hR hnj hcz hsz hS nx
        · refine lv_tableIn hx hb d_La_law_50 (by omega) (by omega) (off := 368) (by rw [hk]; rfl) (tgt := 418) (by decide) ?_
          exact lo_5 C (by omega) hi (by omega) hl hP hD hI hR hnj hcz hsz hS nx
        · refine lv_tableIn hx hb d_La_law_50 (by omega) (by omega) (off := 392) (by rw [hk]; rfl) (tgt := 442) (by decide) ?_
          exact lo_6 C (by omega) hi (by omega) hl hP hD hI hR hnj hcz hsz hS nx
        · refine lv_tableIn hx hb d_La_law_50 (by omega) (by omega) (off := 487) (by rw [hk]; rfl) (tgt := 537) (by decide) ?_
          exact lo_7 C (by omega) hi (by omega) hl hP hD hI hR hnj hcz hsz hS nx
        · refine lv_tableIn hx hb d_La_law_50 (by omega) (by omega) (off := 530) (by rw [hk]; rfl) (tgt := 580) (by decide) ?_
          exact lo_8 C (by omega) hi (by omega) hl hP hD hI hR hnj hcz hsz hS nx
        · refine lv_tableIn hx hb d_La_law_50 (by omega) (by omega) (off := 573) (by rw [hk]; rfl) (tgt := 623) (by decide) ?_
          exact lo_9 C (by omega) hi (by omega) hl hP hD hI hR hnj hcz hsz hS nx
        · refine lv_tableIn hx hb d_La_law_50 (by omega) (by omega) (off := 636) (by rw [hk]; rfl) (tgt := 686) (by decide) ?_
          exact lo_10 C (by omega) hi (by omega) hl hP hD hI hR hnj hcz hsz hS nx
        · refine lv_tableIn hx hb d_La_law_50 (by omega) (by omega) (off := 715) (by rw [hk]; rfl) (tgt := 765) (by decide) ?_
          exact lo_11 C (by omega) hi (by omega) hl hP hD hI hR hnj hcz hsz hS nx
        · refine lv_tableIn hx hb d_La_law_50 (by omega) (by omega) (off := 728) (by rw [hk]; rfl) (tgt := 778) (by decide) ?_
          exact lo_12 C (by omega) hi (by omega) hl hP hD hI hR hnj hcz hsz hS nx
        · refine lv_tableIn hx hb d_La_law_50 (by omega) (by omega) (off := 772) (by rw [hk]; rfl) (tgt := 822) (by decide) ?_
          exact lo_13 C (by omega) hi (by omega) hl hP hD hI hR hnj hcz hsz hS nx
        · refine lv_tableIn hx hb d_La_law_50 (by omega) (by omega) (off := 827) (by rw [hk]; rfl) (tgt := 877) (by decide) ?_
          exact lo_14 C (by omega) hi (by omega) hl hP hD hI hR hnj hcz hsz hS nx
        · refine lv_tableIn hx hb d_La_law_50 (by omega) (by omega) (off := 870) (by rw [hk]; rfl) (tgt := 920) (by decide) ?_
          exact lo_15 C (by omega) hi (by omega) hl hP hD hI hR hnj hcz hsz hS nx
        · refine lv_tableIn hx hb d_La_law_50 (by omega) (by omega) (off := 883) (by rw [hk]; rfl) (tgt := 933) (by decide) ?_
          exact lo_16 C (by omega) hi (by omega) hl hP hD hI hR hnj hcz hsz hS nx
        · refine lv_tableIn hx hb d_La_law_50 (by omega) (by omega) (off := 919) (by rw [hk]; rfl) (tgt := 969) (by decide) ?_
          exact lo_17 C (by omega) hi (by omega) hl hP hD hI hR hnj hcz hsz hS nx
        · refine lv_tableIn hx hb d_La_law_50 (by omega) (by omega) (off := 932) (by rw [hk]; rfl) (tgt := 982) (by decide) ?_
          exact lo_18 C (by omega) hi (by omega) hl hP hD hI hR hnj hcz hsz hS nx
        · refine lv_tableIn hx hb d_La_law_50 (by omega) (by omega) (off := 945) (by rw [hk]; rfl) (tgt := 995) (by decide) ?_
          exact lo_19 C (by omega) hi (by omega) hl hP hD hI hR hnj hcz hsz hS nx
        · refine lv_tableIn hx hb d_La_law_50 (by omega) (by omega) (off := 989) (by rw [hk]; rfl) (tgt := 1039) (by decide) ?_
          exact lo_20 C (by omega) hi (by omega) hl hP hD hI hR hnj hcz hsz hS nx
        · refine lv_tableIn hx hb d_La_law_50 (by omega) (by omega) (off := 1113) (by rw [hk]; rfl) (tgt := 1163) (by decide) ?_
          exact lo_21 C (by omega) hi (by omega) hl hP hD hI hR hnj hcz hsz hS nx
        · refine lv_tableIn hx hb d_La_law_50 (by omega) (by omega) (off := 1126) (by rw [hk]; rfl) (tgt := 1176) (by decide) ?_
          exact lo_22 C (by omega) hi (by omega) hl hP hD hI hR hnj hcz hsz hS nx
        · refine lv_tableIn hx hb d_La_law_50 (by omega) (by omega) (off := 1182) (by rw [hk]; rfl) (tgt := 1232) (by decide) ?_
          exact lo_23 C (by omega) hi (by omega) hl hP hD hI hR hnj hcz hsz hS nx
