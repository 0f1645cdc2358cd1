set_option maxRecDepth 100000 in
set_option maxHeartbeats 4000000 in
theorem lo_0 {p : Program} {l : Launch} {e : Env} {s : State} {m : MethodId} {below : List Frame} {meth : Method} {c : Code} {Q : State → Prop} {b L : Nat} {xs : Nat → Int32} {D : va_G} {cL cI : ClassId} {A : Nat → Prop} (C : LC p l s m c b L xs D cL cI A) {i : Int32} {j : Nat} (hj : j < 512) (hi : i.toInt = 1 + 6 * (j : Int)) (hiL : i.toInt + 6 ≤ (L : Int)) {xo mo oa : Nat} {H : Heap} {locs : List Loc} {cells slots : Nat} {ls : Array Slot} (hl : lv_has ls 8 [(0, .ref b), (1, .ref xo), (2, .ref mo), (3, .ref oa), (4, .int i)]) (hLI : LI D cL cI A xo mo oa H cells slots j) (hS : va_S A s.heap H locs) (go : ∀ (H : Heap) (locs : List Loc) (cells slots : Nat) (ls : Array Slot), lv_has ls 8 [(0, .ref b), (1, .ref xo), (2, .ref mo), (3, .ref oa), (4, .int i)] → LI D cL cI A xo mo oa H cells slots (j + 1) → va_S A s.heap H locs → W p l e room_1 s m #[Value.ref b] below meth c H locs cells slots Q (F0 m 1245 ls [])) : W p l e room_1 s m #[Value.ref b] below meth c H locs cells slots Q (F0 m 160 ls []) := by
  obtain ⟨hx, hb, hml, hown, hts, hX, hbl, hbA, htr, hxe, hze, hK, hA, hAn, hL3⟩ := C
  obtain ⟨kA, wA, kB, wB, kC, wC, kD, wD, kn, sr, cu, isr, gA, gB, gC, gD, tb, cd, vl, nc, w, n, wd, cnt, chg, fc, nv, fv, so, bs, la, ca, ha, mb, dp, rt, opn, fb, fl, fch, fh, m1, m2, m3, m4, m5, m6, m7, m8, m9, ma, mq, mso, mct, mfr, mcu, mth, p1, p2, p5, p3, p4, p6, p7, p8, p9, pa, pb, KW, fo, hP, hD, hI, hR, hnj, hcz, hsz⟩ := hLI
  obtain ⟨hw, hw7, hcnt, hnc, hnv, hn, hkn, hmb, hs, hopn, hchg, hsh, hsr, hcu⟩ := id hI
  obtain ⟨r1, r2, hct, hfr, hmi, hkr, r7, r8, r9, r10, r11⟩ := id hR
  have hor := hmi.1
  have hos := rl_srt hR hs
  have hws : (mso.toInt = 0 ∧ w = 1) ∨ (mso.toInt = 1 ∧ w = 2) ∨ (mso.toInt = 2 ∧ w = 7) := by rw [r1]; rcases hsr with h | h | h
        · exact Or.inl ⟨h.1, h.2.1⟩
        · exact Or.inr (Or.inl ⟨h.1, h.2.1⟩)
        · exact Or.inr (Or.inr ⟨h.1, h.2.1⟩)
  obtain ⟨hcB, hsB⟩ := lb_num hw7 hnv hj hcz hsz
  refine lv_aload_n hx hb d_La_law_160 rfl (lv_at hl 1 rfl) ?_
  refine lv_aload_n hx hb d_La_law_161 rfl (lv_at hl 0 rfl) ?_
  refine lv_iload hx hb d_La_law_162 (lv_at hl 4 rfl) ?_
  refine lv_iconst (v := 1) hx hb d_La_law_164 (by decide) ?_
  refine lv_topi (fun v164 e164 => ?_)
  have t164 : v164.toInt = 1 := by rw [e164]; rfl
  refine lv_iadd hx hb d_La_law_165 ?_
  refine lv_topi (fun v165 e165 => ?_)
  have t165 := ia_add e165 ⟨by omega, by omega⟩
  refine va_sld hx hb hX hbl hbA hS (ia_in ⟨by omega, by omega⟩) d_La_law_166 ?_
  refine lv_topi (fun v166 e166 => ?_)
  refine lv_i2l hx hb d_La_law_167 rfl ?_
  refine lv_topl (fun v167 e167 => ?_)
  refine lv_bipush (v := 32) hx hb d_La_law_168 (by decide) ?_
  refine lv_topi (fun v168 e168 => ?_)
  have t168 : v168.toInt = 32 := by rw [e168]; rfl
  refine lv_lshl hx hb d_La_law_170 rfl ?_
  refine lv_topl (fun v170 e170 => ?_)
  refine lv_aload_n hx hb d_La_law_171 rfl (lv_at hl 0 rfl) ?_
  refine lv_iload hx hb d_La_law_172 (lv_at hl 4 rfl) ?_
  refine lv_iconst (v := 2) hx hb d_La_law_174 (by decide) ?_
  refine lv_topi (fun v174 e174 => ?_)
  have t174 : v174.toInt = 2 := by rw [e174]; rfl
  refine lv_iadd hx hb d_La_law_175 ?_
  refine lv_topi (fun v175 e175 => ?_)
  have t175 := ia_add e175 ⟨by omega, by omega⟩
  refine va_sld hx hb hX hbl hbA hS (ia_in ⟨by omega, by omega⟩) d_La_law_176 ?_
  refine lv_topi (fun v176 e176 => ?_)
  refine lv_i2l hx hb d_La_law_177 rfl ?_
  refine lv_topl (fun v177 e177 => ?_)
  refine lv_ldc2 (v := 4294967295) hx hb hown (hts _ tw_835) d_La_law_178 ?_
  refine lv_topl (fun v178 e178 => ?_)
  refine lv_land hx hb d_La_law_181 ?_
  refine lv_topl (fun v181 e181 => ?_)
  refine lv_lor hx hb d_La_law_182 ?_
  refine lv_topl (fun v182 e182 => ?_)
  have hPc := hP.sub (ws' := [(xo, .inr (3, [.int sr, .ref kA, .ref kB, .ref kC, .ref kD, .ref tb, .ref so, .int cu])), (kA, .inr (0, [.int isr, .ref wA])), (wA, .inl (cL, kn, .inr (.inl gA))), (kB, .inr (0, [.int isr, .ref wB])), (wB, .inl (cL, kn, .inr (.inl gB))), (kC, .inr (0, [.int isr, .ref wC])), (wC, .inl (cL, kn, .inr (.inl gC))), (kD, .inr (0, [.int isr, .ref wD])), (wD, .inl (cL, kn, .inr (.inl gD))), (tb, .inr (2, [.int wd, .ref cd, .ref vl, .int cnt, .int chg])), (cd, .inl (cL, nc, .inr (.inl fc))), (vl, .inl (cL, nv, .inr (.inl fv))), (so, .inr (1, [.ref bs, .int dp, .int rt, .ref la, .ref ca, .ref ha, .int opn])), (bs, .inl (cI, 4, .inl fb)), (la, .inl (cI, mb, .inl fl)), (ca, .inl (cI, mb, .inl fch)), (ha, .inl (cI, mb, .inl fh))]) [0, 1, 2, 3, 4, 5, 6, 7, 8, 9, 10, 11, 12, 13, 14, 15, 16] rfl
  have hDc := hD.sub (ws' := [(xo, .inr (3, [.int sr, .ref kA, .ref kB, .ref kC, .ref kD, .ref tb, .ref so, .int cu])), (kA, .inr (0, [.int isr, .ref wA])), (wA, .inl (cL, kn, .inr (.inl gA))), (kB, .inr (0, [.int isr, .ref wB])), (wB, .inl (cL, kn, .inr (.inl gB))), (kC, .inr (0, [.int isr, .ref wC])), (wC, .inl (cL, kn, .inr (.inl gC))), (kD, .inr (0, [.int isr, .ref wD])), (wD, .inl (cL, kn, .inr (.inl gD))), (tb, .inr (2, [.int wd, .ref cd, .ref vl, .int cnt, .int chg])), (cd, .inl (cL, nc, .inr (.inl fc))), (vl, .inl (cL, nv, .inr (.inl fv))), (so, .inr (1, [.ref bs, .int dp, .int rt, .ref la, .ref ca, .ref ha, .int opn])), (bs, .inl (cI, 4, .inl fb)), (la, .inl (cI, mb, .inl fl)), (ca, .inl (cI, mb, .inl fch)), (ha, .inl (cI, mb, .inl fh))]) [0, 1, 2, 3, 4, 5, 6, 7, 8, 9, 10, 11, 12, 13, 14, 15, 16] (by decide) rfl
  have hFc := va_free (wc := [(xo, .inr (3, [.int sr, .ref kA, .ref kB, .ref kC, .ref kD, .ref tb, .ref so, .int cu])), (kA, .inr (0, [.int isr, .ref wA])), (wA, .inl (cL, kn, .inr (.inl gA))), (kB, .inr (0, [.int isr, .ref wB])), (wB, .inl (cL, kn, .inr (.inl gB))), (kC, .inr (0, [.int isr, .ref wC])), (wC, .inl (cL, kn, .inr (.inl gC))), (kD, .inr (0, [.int isr, .ref wD])), (wD, .inl (cL, kn, .inr (.inl gD))), (tb, .inr (2, [.int wd, .ref cd, .ref vl, .int cnt, .int chg])), (cd, .inl (cL, nc, .inr (.inl fc))), (vl, .inl (cL, nv, .inr (.inl fv))), (so, .inr (1, [.ref bs, .int dp, .int rt, .ref la, .ref ca, .ref ha, .int opn])), (bs, .inl (cI, 4, .inl fb)), (la, .inl (cI, mb, .inl fl)), (ca, .inl (cI, mb, .inl fch)), (ha, .inl (cI, mb, .inl fh))]) hD hS hA [0, 1, 2, 3, 4, 5, 6, 7, 8, 9, 10, 11, 12, 13, 14, 15, 16] rfl
  refine va_calli (xr_msw (As := [.ref xo, .long v182]) (rest := []) ⟨hx, hb, hml, hown, hts⟩ (c_La_number l D cL cI htr xo kA wA kB wB kC wC kD wD kn sr cu isr gA gB gC gD tb cd vl nc w n wd cnt chg fc nv fv so bs la ca ha mb dp rt opn fb fl fch fh v182 H.size (hw) (hw7) (hcnt) (hnc) (hnv) (hn) (hkn) (hmb) (hs) (hopn) (hchg) (hsh) (hsr) (hcu)) tw_269 tw_267 tw_268 tw_0 rfl rfl (by decide) (⟨Nat.le_of_ble_eq_true rfl, Nat.le_of_ble_eq_true rfl⟩) hK hPc (hDc.weaken (fun _ _ _ _ => trivial)) (lx_go hxe hS hAn) rfl hl.1 rfl (Nat.le_of_ble_eq_true rfl) d_La_law_183 ⟨show cells + 1 ≤ 601024 from by omega, show slots + 6 ≤ 7293000 from by omega⟩) hS (fun q _ h => hFc q h) hFc (fun v183 u183 tt183 H1 locs ht183 hvm183 e183 hB183 hz183 hk183 hS => ?_)
  obtain ⟨gA2_183, rfl⟩ : ∃ z, z = u183 := ⟨_, rfl⟩
  have e183 : (v183 = 0 ∧ (sr.toInt = 0) ∧ (∀ j, j < w → gA2_183 j = if j = 0 then v182 ^^^ (-9223372036854775808) else gA j)) ∨ (v183 = 1 ∧ (sr.toInt ≠ 0) ∧ gA2_183 = gA) := e183
  obtain ⟨hP1, hK1, hD1⟩ := hB183
  rw [ht183] at hP1
  obtain ⟨hP, hD⟩ := va_join (wr := [(mo, .inr (4, [.int mso, .ref m1, .ref m2, .ref m3, .ref m4, .ref m5, .ref m6, .int mct, .ref m7, .int mfr, .int mcu, .int mth, .ref m8, .ref m9, .ref ma, .ref mq])), (m1, .inl (cL, 1503, .inr (.inl p1))), (m2, .inl (cL, 1503, .inr (.inl p2))), (m3, .inl (cI, 36072, .inl p3)), (m4, .inl (cI, 1503, .inl p4)), (m5, .inl (cL, 1500, .inr (.inl p5))), (m6, .inl (cI, 1500, .inl p6)), (m7, .inl (cI, 1500, .inl p7)), (m8, .inl (cI, 50, .inl p8)), (m9, .inl (cI, 50, .inl p9)), (ma, .inl (cI, 1500, .inl pa)), (mq, .inl (cI, 50, .inl pb)), (oa, .inl (cL, 1, .inr (.inl fo)))]) (w1 := [(xo, .inr (3, [.int sr, .ref kA, .ref kB, .ref kC, .ref kD, .ref tb, .ref so, .int cu])), (kA, .inr (0, [.int isr, .ref wA])), (wA, .inl (cL, kn, .inr (.inl gA2_183))), (kB, .inr (0, [.int isr, .ref wB])), (wB, .inl (cL, kn, .inr (.inl gB))), (kC, .inr (0, [.int isr, .ref wC])), (wC, .inl (cL, kn, .inr (.inl gC))), (kD, .inr (0, [.int isr, .ref wD])), (wD, .inl (cL, kn, .inr (.inl gD))), (tb, .inr (2, [.int wd, .ref cd, .ref vl, .int cnt, .int chg])), (cd, .inl (cL, nc, .inr (.inl fc))), (vl, .inl (cL, nv, .inr (.inl fv))), (so, .inr (1, [.ref bs, .int dp, .int rt, .ref la, .ref ca, .ref ha, .int opn])), (bs, .inl (cI, 4, .inl fb)), (la, .inl (cI, mb, .inl fl)), (ca, .inl (cI, mb, .inl fch)), (ha, .inl (cI, mb, .inl fh))]) hP hD [0, 1, 2, 3, 4, 5, 6, 7, 8, 9, 10, 11, 12, 13, 14, 15, 16] [17, 18, 19, 20, 21, 22, 23, 24, 25, 26, 27, 28, 29] rfl rfl (by decide) (by decide) hk183 hFc hP1 hD1
  clear hP1 hD1 hPc hDc hFc
  generalize H1 = H at hP hS ⊢
  have hP : va_P D classes [(mo, .inr (4, [.int mso, .ref m1, .ref m2, .ref m3, .ref m4, .ref m5, .ref m6, .int mct, .ref m7, .int mfr, .int mcu, .int mth, .ref m8, .ref m9, .ref ma, .ref mq])), (m1, .inl (cL, 1503, .inr (.inl p1))), (m2, .inl (cL, 1503, .inr (.inl p2))), (m3, .inl (cI, 36072, .inl p3)), (m4, .inl (cI, 1503, .inl p4)), (m5, .inl (cL, 1500, .inr (.inl p5))), (m6, .inl (cI, 1500, .inl p6)), (m7, .inl (cI, 1500, .inl p7)), (m8, .inl (cI, 50, .inl p8)), (m9, .inl (cI, 50, .inl p9)), (ma, .inl (cI, 1500, .inl pa)), (mq, .inl (cI, 50, .inl pb)), (oa, .inl (cL, 1, .inr (.inl fo))), (xo, .inr (3, [.int sr, .ref kA, .ref kB, .ref kC, .ref kD, .ref tb, .ref so, .int cu])), (kA, .inr (0, [.int isr, .ref wA])), (wA, .inl (cL, kn, .inr (.inl gA2_183))), (kB, .inr (0, [.int isr, .ref wB])), (wB, .inl (cL, kn, .inr (.inl gB))), (kC, .inr (0, [.int isr, .ref wC])), (wC, .inl (cL, kn, .inr (.inl gC))), (kD, .inr (0, [.int isr, .ref wD])), (wD, .inl (cL, kn, .inr (.inl gD))), (tb, .inr (2, [.int wd, .ref cd, .ref vl, .int cnt, .int chg])), (cd, .inl (cL, nc, .inr (.inl fc))), (vl, .inl (cL, nv, .inr (.inl fv))), (so, .inr (1, [.ref bs, .int dp, .int rt, .ref la, .ref ca, .ref ha, .int opn])), (bs, .inl (cI, 4, .inl fb)), (la, .inl (cI, mb, .inl fl)), (ca, .inl (cI, mb, .inl fch)), (ha, .inl (cI, mb, .inl fh))] H := hP
  have hD : va_D A [(mo, .inr (4, [.int mso, .ref m1, .ref m2, .ref m3, .ref m4, .ref m5, .ref m6, .int mct, .ref m7, .int mfr, .int mcu, .int mth, .ref m8, .ref m9, .ref ma, .ref mq])), (m1, .inl (cL, 1503, .inr (.inl p1))), (m2, .inl (cL, 1503, .inr (.inl p2))), (m3, .inl (cI, 36072, .inl p3)), (m4, .inl (cI, 1503, .inl p4)), (m5, .inl (cL, 1500, .inr (.inl p5))), (m6, .inl (cI, 1500, .inl p6)), (m7, .inl (cI, 1500, .inl p7)), (m8, .inl (cI, 50, .inl p8)), (m9, .inl (cI, 50, .inl p9)), (ma, .inl (cI, 1500, .inl pa)), (mq, .inl (cI, 50, .inl pb)), (oa, .inl (cL, 1, .inr (.inl fo))), (xo, .inr (3, [.int sr, .ref kA, .ref kB, .ref kC, .ref kD, .ref tb, .ref so, .int cu])), (kA, .inr (0, [.int isr, .ref wA])), (wA, .inl (cL, kn, .inr (.inl gA2_183))), (kB, .inr (0, [.int isr, .ref wB])), (wB, .inl (cL, kn, .inr (.inl gB))), (kC, .inr (0, [.int isr, .ref wC])), (wC, .inl (cL, kn, .inr (.inl gC))), (kD, .inr (0, [.int isr, .ref wD])), (wD, .inl (cL, kn, .inr (.inl gD))), (tb, .inr (2, [.int wd, .ref cd, .ref vl, .int cnt, .int chg])), (cd, .inl (cL, nc, .inr (.inl fc))), (vl, .inl (cL, nv, .inr (.inl fv))), (so, .inr (1, [.ref bs, .int dp, .int rt, .ref la, .ref ca, .ref ha, .int opn])), (bs, .inl (cI, 4, .inl fb)), (la, .inl (cI, mb, .inl fl)), (ca, .inl (cI, mb, .inl fch)), (ha, .inl (cI, mb, .inl fh))] := hD
  refine lv_istore (lv' := [(5, .int v183), (0, .ref b), (1, .ref xo), (2, .ref mo), (3, .ref oa), (4, .int i)]) hx hb d_La_law_186 hl (by decide) rfl (fun ls hl => ?_)
  refine lv_aload_n hx hb d_La_law_188 rfl (lv_at hl 3 rfl) ?_
  refine lv_aload_n hx hb d_La_law_189 rfl (lv_at hl 1 rfl) ?_
  refine lv_iload hx hb d_La_law_190 (lv_at hl 5 rfl) ?_
  refine lv_iconst (v := 1) hx hb d_La_law_192 (by decide) ?_
  refine lv_topi (fun v192 e192 => ?_)
  have t192 : v192.toInt = 1 := by rw [e192]; rfl
  refine lv_iadd hx hb d_La_law_193 ?_
  refine lv_topi (fun v193 e193 => ?_)
  have t193 := ia_add e193 ⟨by omega, by omega⟩
  refine va_sld hx hb hX hbl hbA hS (ia_in ⟨by omega, by omega⟩) d_La_law_194 ?_
  refine lv_topi (fun v194 e194 => ?_)
  refine lv_i2l hx hb d_La_law_195 rfl ?_
  refine lv_topl (fun v195 e195 => ?_)
  refine lv_bipush (v := 32) hx hb d_La_law_196 (by decide) ?_
  refine lv_topi (fun v196 e196 => ?_)
  have t196 : v196.toInt = 32 := by rw [e196]; rfl
  refine lv_lshl hx hb d_La_law_198 rfl ?_
  refine lv_topl (fun v198 e198 => ?_)
  refine lv_aload_n hx hb d_La_law_199 rfl (lv_at hl 1 rfl) ?_
  refine lv_iload hx hb d_La_law_200 (lv_at hl 5 rfl) ?_
  refine lv_iconst (v := 2) hx hb d_La_law_202 (by decide) ?_
  refine lv_topi (fun v202 e202 => ?_)
  have t202 : v202.toInt = 2 := by rw [e202]; rfl
  refine lv_iadd hx hb d_La_law_203 ?_
  refine lv_topi (fun v203 e203 => ?_)
  have t203 := ia_add e203 ⟨by omega, by omega⟩
  refine va_sld hx hb hX hbl hbA hS (ia_in ⟨by omega, by omega⟩) d_La_law_204 ?_
  refine lv_topi (fun v204 e204 => ?_)
  refine lv_i2l hx hb d_La_law_205 rfl ?_
  refine lv_topl (fun v205 e205 => ?_)
  refine lv_ldc2 (v := 4294967295) hx hb hown (hts _ tw_835) d_La_law_206 ?_
  refine lv_topl (fun v206 e206 => ?_)
  refine lv_land hx hb d_La_law_209 ?_
  refine lv_topl (fun v209 e209 => ?_)
  refine lv_lor hx hb d_La_law_210 ?_
  refine lv_topl (fun v210 e210 => ?_)
  obtain rfl : v182 = v210 := by simp only [e164, e165, e166, e167, e168, e170, e174, e175, e176, e177, e178, e181, e182, e192, e193, e194, e195, e196, e198, e202, e203, e204, e205, e206, e209, e210]
  have hPc := hP.sub (ws' := [(mo, .inr (4, [.int mso, .ref m1, .ref m2, .ref m3, .ref m4, .ref m5, .ref m6, .int mct, .ref m7, .int mfr, .int mcu, .int mth, .ref m8, .ref m9, .ref ma, .ref mq])), (m1, .inl (cL, 1503, .inr (.inl p1))), (m2, .inl (cL, 1503, .inr (.inl p2))), (m3, .inl (cI, 36072, .inl p3)), (m4, .inl (cI, 1503, .inl p4)), (m5, .inl (cL, 1500, .inr (.inl p5))), (m6, .inl (cI, 1500, .inl p6)), (m7, .inl (cI, 1500, .inl p7)), (m8, .inl (cI, 50, .inl p8)), (m9, .inl (cI, 50, .inl p9)), (ma, .inl (cI, 1500, .inl pa)), (mq, .inl (cI, 50, .inl pb))]) [0, 1, 2, 3, 4, 5, 6, 7, 8, 9, 10, 11] rfl
  have hDc := hD.sub (ws' := [(mo, .inr (4, [.int mso, .ref m1, .ref m2, .ref m3, .ref m4, .ref m5, .ref m6, .int mct, .ref m7, .int mfr, .int mcu, .int mth, .ref m8, .ref m9, .ref ma, .ref mq])), (m1, .inl (cL, 1503, .inr (.inl p1))), (m2, .inl (cL, 1503, .inr (.inl p2))), (m3, .inl (cI, 36072, .inl p3)), (m4, .inl (cI, 1503, .inl p4)), (m5, .inl (cL, 1500, .inr (.inl p5))), (m6, .inl (cI, 1500, .inl p6)), (m7, .inl (cI, 1500, .inl p7)), (m8, .inl (cI, 50, .inl p8)), (m9, .inl (cI, 50, .inl p9)), (ma, .inl (cI, 1500, .inl pa)), (mq, .inl (cI, 50, .inl pb))]) [0, 1, 2, 3, 4, 5, 6, 7, 8, 9, 10, 11] (by decide) rfl
  have hFc := va_free (wc := [(mo, .inr (4, [.int mso, .ref m1, .ref m2, .ref m3, .ref m4, .ref m5, .ref m6, .int mct, .ref m7, .int mfr, .int mcu, .int mth, .ref m8, .ref m9, .ref ma, .ref mq])), (m1, .inl (cL, 1503, .inr (.inl p1))), (m2, .inl (cL, 1503, .inr (.inl p2))), (m3, .inl (cI, 36072, .inl p3)), (m4, .inl (cI, 1503, .inl p4)), (m5, .inl (cL, 1500, .inr (.inl p5))), (m6, .inl (cI, 1500, .inl p6)), (m7, .inl (cI, 1500, .inl p7)), (m8, .inl (cI, 50, .inl p8)), (m9, .inl (cI, 50, .inl p9)), (ma, .inl (cI, 1500, .inl pa)), (mq, .inl (cI, 50, .inl pb))]) hD hS hA [0, 1, 2, 3, 4, 5, 6, 7, 8, 9, 10, 11] rfl
  refine va_callv (xr_mv (As := [.long v182]) (rest := []) ⟨hx, hb, hml, hown, hts⟩ (c_Mo_number l D cL cI mo m1 m2 m3 m4 m5 m6 m7 m8 m9 ma mq mso mct mfr mcu mth p1 p2 p5 p3 p4 p6 p7 p8 p9 pa pb w KW v182 H.size (hws) (hkr)) (xr_cv 1 hts tw_659 tw_656 tw_657 tw_658 tw_7 rfl rfl (by decide) ⟨Nat.le_of_ble_eq_true rfl, Nat.le_of_ble_eq_true rfl⟩) hK hPc (hDc.weaken (fun _ _ _ _ => trivial)) (va_recv hK hP rfl (q0 := 0) (ci := 4) rfl) rfl hl.1 rfl (Nat.le_of_ble_eq_true rfl) d_La_law_211 ⟨show (cells + 1) + 0 ≤ 601024 from by omega, show (slots + 6) + 0 ≤ 7293000 from by omega⟩) hS (fun q _ h => hFc q h) hFc (fun u211 tt211 H1 locs ht211 hvm211 e211 hB211 hz211 hk211 hS => ?_)
  obtain ⟨mth2_211, p1b_211⟩ := u211
  have e211 : (mso.toInt ≠ 0 ∧ mth2_211.toInt = 1 ∧ p1b_211 = p1) ∨ (mso.toInt = 0 ∧ mth2_211.toInt = 0 ∧ KRs mso.toInt p1b_211 p2 p3 p4 (kset KW 1500 (fun _ => v182 ^^^ (-9223372036854775808)))) := e211
  obtain ⟨hP1, hK1, hD1⟩ := hB211
  rw [ht211] at hP1
  obtain ⟨hP, hD⟩ := va_join (wr := [(oa, .inl (cL, 1, .inr (.inl fo))), (xo, .inr (3, [.int sr, .ref kA, .ref kB, .ref kC, .ref kD, .ref tb, .ref so, .int cu])), (kA, .inr (0, [.int isr, .ref wA])), (wA, .inl (cL, kn, .inr (.inl gA2_183))), (kB, .inr (0, [.int isr, .ref wB])), (wB, .inl (cL, kn, .inr (.inl gB))), (kC, .inr (0, [.int isr, .ref wC])), (wC, .inl (cL, kn, .inr (.inl gC))), (kD, .inr (0, [.int isr, .ref wD])), (wD, .inl (cL, kn, .inr (.inl gD))), (tb, .inr (2, [.int wd, .ref cd, .ref vl, .int cnt, .int chg])), (cd, .inl (cL, nc, .inr (.inl fc))), (vl, .inl (cL, nv, .inr (.inl fv))), (so, .inr (1, [.ref bs, .int dp, .int rt, .ref la, .ref ca, .ref ha, .int opn])), (bs, .inl (cI, 4, .inl fb)), (la, .inl (cI, mb, .inl fl)), (ca, .inl (cI, mb, .inl fch)), (ha, .inl (cI, mb, .inl fh))]) (w1 := [(mo, .inr (4, [.int mso, .ref m1, .ref m2, .ref m3, .ref m4, .ref m5, .ref m6, .int mct, .ref m7, .int mfr, .int mcu, .int mth2_211, .ref m8, .ref m9, .ref ma, .ref mq])), (m1, .inl (cL, 1503, .inr (.inl p1b_211))), (m2, .inl (cL, 1503, .inr (.inl p2))), (m3, .inl (cI, 36072, .inl p3)), (m4, .inl (cI, 1503, .inl p4)), (m5, .inl (cL, 1500, .inr (.inl p5))), (m6, .inl (cI, 1500, .inl p6)), (m7, .inl (cI, 1500, .inl p7)), (m8, .inl (cI, 50, .inl p8)), (m9, .inl (cI, 50, .inl p9)), (ma, .inl (cI, 1500, .inl pa)), (mq, .inl (cI, 50, .inl pb))]) hP hD [0, 1, 2, 3, 4, 5, 6, 7, 8, 9, 10, 11] [12, 13, 14, 15, 16, 17, 18, 19, 20, 21, 22, 23, 24, 25, 26, 27, 28, 29] rfl rfl (by decide) (by decide) hk211 hFc hP1 hD1
  clear hP1 hD1 hPc hDc hFc
  generalize H1 = H at hP hS ⊢
  have hP : va_P D classes [(oa, .inl (cL, 1, .inr (.inl fo))), (xo, .inr (3, [.int sr, .ref kA, .ref kB, .ref kC, .ref kD, .ref tb, .ref so, .int cu])), (kA, .inr (0, [.int isr, .ref wA])), (wA, .inl (cL, kn, .inr (.inl gA2_183))), (kB, .inr (0, [.int isr, .ref wB])), (wB, .inl (cL, kn, .inr (.inl gB))), (kC, .inr (0, [.int isr, .ref wC])), (wC, .inl (cL, kn, .inr (.inl gC))), (kD, .inr (0, [.int isr, .ref wD])), (wD, .inl (cL, kn, .inr (.inl gD))), (tb, .inr (2, [.int wd, .ref cd, .ref vl, .int cnt, .int chg])), (cd, .inl (cL, nc, .inr (.inl fc))), (vl, .inl (cL, nv, .inr (.inl fv))), (so, .inr (1, [.ref bs, .int dp, .int rt, .ref la, .ref ca, .ref ha, .int opn])), (bs, .inl (cI, 4, .inl fb)), (la, .inl (cI, mb, .inl fl)), (ca, .inl (cI, mb, .inl fch)), (ha, .inl (cI, mb, .inl fh)), (mo, .inr (4, [.int mso, .ref m1, .ref m2, .ref m3, .ref m4, .ref m5, .ref m6, .int mct, .ref m7, .int mfr, .int mcu, .int mth2_211, .ref m8, .ref m9, .ref ma, .ref mq])), (m1, .inl (cL, 1503, .inr (.inl p1b_211))), (m2, .inl (cL, 1503, .inr (.inl p2))), (m3, .inl (cI, 36072, .inl p3)), (m4, .inl (cI, 1503, .inl p4)), (m5, .inl (cL, 1500, .inr (.inl p5))), (m6, .inl (cI, 1500, .inl p6)), (m7, .inl (cI, 1500, .inl p7)), (m8, .inl (cI, 50, .inl p8)), (m9, .inl (cI, 50, .inl p9)), (ma, .inl (cI, 1500, .inl pa)), (mq, .inl (cI, 50, .inl pb))] H := hP
  have hD : va_D A [(oa, .inl (cL, 1, .inr (.inl fo))), (xo, .inr (3, [.int sr, .ref kA, .ref kB, .ref kC, .ref kD, .ref tb, .ref so, .int cu])), (kA, .inr (0, [.int isr, .ref wA])), (wA, .inl (cL, kn, .inr (.inl gA2_183))), (kB, .inr (0, [.int isr, .ref wB])), (wB, .inl (cL, kn, .inr (.inl gB))), (kC, .inr (0, [.int isr, .ref wC])), (wC, .inl (cL, kn, .inr (.inl gC))), (kD, .inr (0, [.int isr, .ref wD])), (wD, .inl (cL, kn, .inr (.inl gD))), (tb, .inr (2, [.int wd, .ref cd, .ref vl, .int cnt, .int chg])), (cd, .inl (cL, nc, .inr (.inl fc))), (vl, .inl (cL, nv, .inr (.inl fv))), (so, .inr (1, [.ref bs, .int dp, .int rt, .ref la, .ref ca, .ref ha, .int opn])), (bs, .inl (cI, 4, .inl fb)), (la, .inl (cI, mb, .inl fl)), (ca, .inl (cI, mb, .inl fch)), (ha, .inl (cI, mb, .inl fh)), (mo, .inr (4, [.int mso, .ref m1, .ref m2, .ref m3, .ref m4, .ref m5, .ref m6, .int mct, .ref m7, .int mfr, .int mcu, .int mth2_211, .ref m8, .ref m9, .ref ma, .ref mq])), (m1, .inl (cL, 1503, .inr (.inl p1b_211))), (m2, .inl (cL, 1503, .inr (.inl p2))), (m3, .inl (cI, 36072, .inl p3)), (m4, .inl (cI, 1503, .inl p4)), (m5, .inl (cL, 1500, .inr (.inl p5))), (m6, .inl (cI, 1500, .inl p6)), (m7, .inl (cI, 1500, .inl p7)), (m8, .inl (cI, 50, .inl p8)), (m9, .inl (cI, 50, .inl p9)), (ma, .inl (cI, 1500, .inl pa)), (mq, .inl (cI, 50, .inl pb))] := hD
  refine lv_aload_n hx hb d_La_law_214 rfl (lv_at hl 3 rfl) ?_
  obtain ⟨hth, KW2, hR2⟩ := sm_number hI hR e183 e211
  refine vp_callSi (xr_rv (As := []) (rest := []) ⟨hx, hb, hml, hown, hts⟩ (c_Mo_thrown l D cL cI mo m1 m2 m3 m4 m5 m6 m7 m8 m9 ma mq mso mct mfr mcu mth2_211 p1b_211 p2 p5 p3 p4 p6 p7 p8 p9 pa pb ) (xr_cv 0 hts tw_655 tw_652 tw_653 tw_654 tw_7 rfl rfl (by decide) ⟨Nat.le_of_ble_eq_true rfl, Nat.le_of_ble_eq_true rfl⟩) hK (hP.sub (ws' := [(mo, .inr (4, [.int mso, .ref m1, .ref m2, .ref m3, .ref m4, .ref m5, .ref m6, .int mct, .ref m7, .int mfr, .int mcu, .int mth2_211, .ref m8, .ref m9, .ref ma, .ref mq])), (m1, .inl (cL, 1503, .inr (.inl p1b_211))), (m2, .inl (cL, 1503, .inr (.inl p2))), (m3, .inl (cI, 36072, .inl p3)), (m4, .inl (cI, 1503, .inl p4)), (m5, .inl (cL, 1500, .inr (.inl p5))), (m6, .inl (cI, 1500, .inl p6)), (m7, .inl (cI, 1500, .inl p7)), (m8, .inl (cI, 50, .inl p8)), (m9, .inl (cI, 50, .inl p9)), (ma, .inl (cI, 1500, .inl pa)), (mq, .inl (cI, 50, .inl pb))]) [18, 19, 20, 21, 22, 23, 24, 25, 26, 27, 28, 29] rfl) (va_recv hK hP rfl (q0 := 18) (ci := 4) rfl) rfl hl.1 rfl (Nat.le_of_ble_eq_true rfl) d_La_law_215 ⟨show (cells + 1) ≤ 601024 from by omega, show (slots + 6) ≤ 7293000 from by omega⟩) (fun v215 e215 => ?_)
  have e215 : v215 = mth2_211 := e215
  refine lv_iload hx hb d_La_law_218 (lv_at hl 0 rfl) ?_
  refine lv_icmp_eq hx hb d_La_law_220 (tgt := 225) (by decide) (fun g220 => ?_) (fun g220 => ?_)
  · have g220 := ic_eq.mp g220
    refine lv_goto hx hb d_La_law_225 (tgt := 1245) (by decide) ?_
    have hP9 := hP.sub (ws' := [(xo, .inr (3, [.int sr, .ref kA, .ref kB, .ref kC, .ref kD, .ref tb, .ref so, .int cu])), (kA, .inr (0, [.int isr, .ref wA])), (wA, .inl (cL, kn, .inr (.inl gA2_183))), (kB, .inr (0, [.int isr, .ref wB])), (wB, .inl (cL, kn, .inr (.inl gB))), (kC, .inr (0, [.int isr, .ref wC])), (wC, .inl (cL, kn, .inr (.inl gC))), (kD, .inr (0, [.int isr, .ref wD])), (wD, .inl (cL, kn, .inr (.inl gD))), (tb, .inr (2, [.int wd, .ref cd, .ref vl, .int cnt, .int chg])), (cd, .inl (cL, nc, .inr (.inl fc))), (vl, .inl (cL, nv, .inr (.inl fv))), (so, .inr (1, [.ref bs, .int dp, .int rt, .ref la, .ref ca, .ref ha, .int opn])), (bs, .inl (cI, 4, .inl fb)), (la, .inl (cI, mb, .inl fl)), (ca, .inl (cI, mb, .inl fch)), (ha, .inl (cI, mb, .inl fh)), (mo, .inr (4, [.int mso, .ref m1, .ref m2, .ref m3, .ref m4, .ref m5, .ref m6, .int mct, .ref m7, .int mfr, .int mcu, .int mth2_211, .ref m8, .ref m9, .ref ma, .ref mq])), (m1, .inl (cL, 1503, .inr (.inl p1b_211))), (m2, .inl (cL, 1503, .inr (.inl p2))), (m3, .inl (cI, 36072, .inl p3)), (m4, .inl (cI, 1503, .inl p4)), (m5, .inl (cL, 1500, .inr (.inl p5))), (m6, .inl (cI, 1500, .inl p6)), (m7, .inl (cI, 1500, .inl p7)), (m8, .inl (cI, 50, .inl p8)), (m9, .inl (cI, 50, .inl p9)), (ma, .inl (cI, 1500, .inl pa)), (mq, .inl (cI, 50, .inl pb)), (oa, .inl (cL, 1, .inr (.inl fo)))]) [1, 2, 3, 4, 5, 6, 7, 8, 9, 10, 11, 12, 13, 14, 15, 16, 17, 18, 19, 20, 21, 22, 23, 24, 25, 26, 27, 28, 29, 0] rfl
    have hD9 := hD.sub (ws' := [(xo, .inr (3, [.int sr, .ref kA, .ref kB, .ref kC, .ref kD, .ref tb, .ref so, .int cu])), (kA, .inr (0, [.int isr, .ref wA])), (wA, .inl (cL, kn, .inr (.inl gA2_183))), (kB, .inr (0, [.int isr, .ref wB])), (wB, .inl (cL, kn, .inr (.inl gB))), (kC, .inr (0, [.int isr, .ref wC])), (wC, .inl (cL, kn, .inr (.inl gC))), (kD, .inr (0, [.int isr, .ref wD])), (wD, .inl (cL, kn, .inr (.inl gD))), (tb, .inr (2, [.int wd, .ref cd, .ref vl, .int cnt, .int chg])), (cd, .inl (cL, nc, .inr (.inl fc))), (vl, .inl (cL, nv, .inr (.inl fv))), (so, .inr (1, [.ref bs, .int dp, .int rt, .ref la, .ref ca, .ref ha, .int opn])), (bs, .inl (cI, 4, .inl fb)), (la, .inl (cI, mb, .inl fl)), (ca, .inl (cI, mb, .inl fch)), (ha, .inl (cI, mb, .inl fh)), (mo, .inr (4, [.int mso, .ref m1, .ref m2, .ref m3, .ref m4, .ref m5, .ref m6, .int mct, .ref m7, .int mfr, .int mcu, .int mth2_211, .ref m8, .ref m9, .ref ma, .ref mq])), (m1, .inl (cL, 1503, .inr (.inl p1b_211))), (m2, .inl (cL, 1503, .inr (.inl p2))), (m3, .inl (cI, 36072, .inl p3)), (m4, .inl (cI, 1503, .inl p4)), (m5, .inl (cL, 1500, .inr (.inl p5))), (m6, .inl (cI, 1500, .inl p6)), (m7, .inl (cI, 1500, .inl p7)), (m8, .inl (cI, 50, .inl p8)), (m9, .inl (cI, 50, .inl p9)), (ma, .inl (cI, 1500, .inl pa)), (mq, .inl (cI, 50, .inl pb)), (oa, .inl (cL, 1, .inr (.inl fo)))]) [1, 2, 3, 4, 5, 6, 7, 8, 9, 10, 11, 12, 13, 14, 15, 16, 17, 18, 19, 20, 21, 22, 23, 24, 25, 26, 27, 28, 29, 0] (by decide) rfl
    exact go H locs _ _ ls (lv_sub hl [1, 2, 3, 4, 5] rfl) ⟨kA, wA, kB, wB, kC, wC, kD, wD, kn, sr, cu, isr, gA2_183, gB, gC, gD, tb, cd, vl, nc, w, n, wd, cnt, chg, fc, nv, fv, so, bs, la, ca, ha, mb, dp, rt, opn, fb, fl, fch, fh, m1, m2, m3, m4, m5, m6, m7, m8, m9, ma, mq, mso, mct, mfr, mcu, mth2_211, p1b_211, p2, p5, p3, p4, p6, p7, p8, p9, pa, pb, KW2, fo, hP9, hD9, hI, hR2, by omega, by omega, by omega⟩ hS
  · have g220 := ic_ne.mp g220
    exact absurd (by rw [e215, hth]) g220
set_option maxRecDepth 100000 in
set_option maxHeartbeats 4000000 in
theorem lo_1 {p : Program} {l : Launch} {e : Env} {s : State} {m : MethodId} {below : List Frame} {meth : Method} {c : Code} {Q : State → Prop} {b L : Nat} {xs : Nat → Int32} {D : va_G} {cL cI : ClassId} {A : Nat → Prop} (C : LC p l s m c b L xs D cL cI A) {i : Int32} {j : Nat} (hj : j < 512) (hi : i.toInt = 1 + 6 * (j : Int)) (hiL : i.toInt + 6 ≤ (L : Int)) {xo mo oa : Nat} {H : Heap} {locs : List Loc} {cells slots : Nat} {ls : Array Slot} (hl : lv_has ls 8 [(0, .ref b), (1, .ref xo), (2, .ref mo), (3, .ref oa), (4, .int i)]) (hLI : LI D cL cI A xo mo oa H cells slots j) (hS : va_S A s.heap H locs) (go : ∀ (H : Heap) (locs : List Loc) (cells slots : Nat) (ls : Array Slot), lv_has ls 8 [(0, .ref b), (1, .ref xo), (2, .ref mo), (3, .ref oa), (4, .int i)] → LI D cL cI A xo mo oa H cells slots (j + 1) → va_S A s.heap H locs → W p l e room_1 s m #[Value.ref b] below meth c H locs cells slots Q (F0 m 1245 ls [])) : W p l e room_1 s m #[Value.ref b] below meth c H locs cells slots Q (F0 m 228 ls []) := by
  obtain ⟨hx, hb, hml, hown, hts, hX, hbl, hbA, htr, hxe, hze, hK, hA, hAn, hL3⟩ := C
  obtain ⟨kA, wA, kB, wB, kC, wC, kD, wD, kn, sr, cu, isr, gA, gB, gC, gD, tb, cd, vl, nc, w, n, wd, cnt, chg, fc, nv, fv, so, bs, la, ca, ha, mb, dp, rt, opn, fb, fl, fch, fh, m1, m2, m3, m4, m5, m6, m7, m8, m9, ma, mq, mso, mct, mfr, mcu, mth, p1, p2, p5, p3, p4, p6, p7, p8, p9, pa, pb, KW, fo, hP, hD, hI, hR, hnj, hcz, hsz⟩ := hLI
  obtain ⟨hw, hw7, hcnt, hnc, hnv, hn, hkn, hmb, hs, hopn, hchg, hsh, hsr, hcu⟩ := id hI
  obtain ⟨r1, r2, hct, hfr, hmi, hkr, r7, r8, r9, r10, r11⟩ := id hR
  have hor := hmi.1
  have hos := rl_srt hR hs
  have hws : (mso.toInt = 0 ∧ w = 1) ∨ (mso.toInt = 1 ∧ w = 2) ∨ (mso.toInt = 2 ∧ w = 7) := by rw [r1]; rcases hsr with h | h | h
        · exact Or.inl ⟨h.1, h.2.1⟩
        · exact Or.inr (Or.inl ⟨h.1, h.2.1⟩)
        · exact Or.inr (Or.inr ⟨h.1, h.2.1⟩)
  obtain ⟨hcB, hsB⟩ := lb_num hw7 hnv hj hcz hsz
  refine lv_aload_n hx hb d_La_law_228 rfl (lv_at hl 1 rfl) ?_
  refine lv_aload_n hx hb d_La_law_229 rfl (lv_at hl 0 rfl) ?_
  refine lv_iload hx hb d_La_law_230 (lv_at hl 4 rfl) ?_
  refine lv_iconst (v := 1) hx hb d_La_law_232 (by decide) ?_
  refine lv_topi (fun v232 e232 => ?_)
  have t232 : v232.toInt = 1 := by rw [e232]; rfl
  refine lv_iadd hx hb d_La_law_233 ?_
  refine lv_topi (fun v233 e233 => ?_)
  have t233 := ia_add e233 ⟨by omega, by omega⟩
  refine va_sld hx hb hX hbl hbA hS (ia_in ⟨by omega, by omega⟩) d_La_law_234 ?_
  refine lv_topi (fun v234 e234 => ?_)
  refine lv_i2l hx hb d_La_law_235 rfl ?_
  refine lv_topl (fun v235 e235 => ?_)
  refine lv_bipush (v := 32) hx hb d_La_law_236 (by decide) ?_
  refine lv_topi (fun v236 e236 => ?_)
  have t236 : v236.toInt = 32 := by rw [e236]; rfl
  refine lv_lshl hx hb d_La_law_238 rfl ?_
  refine lv_topl (fun v238 e238 => ?_)
  refine lv_aload_n hx hb d_La_law_239 rfl (lv_at hl 0 rfl) ?_
  refine lv_iload hx hb d_La_law_240 (lv_at hl 4 rfl) ?_
  refine lv_iconst (v := 2) hx hb d_La_law_242 (by decide) ?_
  refine lv_topi (fun v242 e242 => ?_)
  have t242 : v242.toInt = 2 := by rw [e242]; rfl
  refine lv_iadd hx hb d_La_law_243 ?_
  refine lv_topi (fun v243 e243 => ?_)
  have t243 := ia_add e243 ⟨by omega, by omega⟩
  refine va_sld hx hb hX hbl hbA hS (ia_in ⟨by omega, by omega⟩) d_La_law_244 ?_
  refine lv_topi (fun v244 e244 => ?_)
  refine lv_i2l hx hb d_La_law_245 rfl ?_
  refine lv_topl (fun v245 e245 => ?_)
  refine lv_ldc2 (v := 4294967295) hx hb hown (hts _ tw_835) d_La_law_246 ?_
  refine lv_topl (fun v246 e246 => ?_)
  refine lv_land hx hb d_La_law_249 ?_
  refine lv_topl (fun v249 e249 => ?_)
  refine lv_lor hx hb d_La_law_250 ?_
  refine lv_topl (fun v250 e250 => ?_)
  refine lv_aload_n hx hb d_La_law_251 rfl (lv_at hl 0 rfl) ?_
  refine lv_iload hx hb d_La_law_252 (lv_at hl 4 rfl) ?_
  refine lv_iconst (v := 3) hx hb d_La_law_254 (by decide) ?_
  refine lv_topi (fun v254 e254 => ?_)
  have t254 : v254.toInt = 3 := by rw [e254]; rfl
  refine lv_iadd hx hb d_La_law_255 ?_
  refine lv_topi (fun v255 e255 => ?_)
  have t255 := ia_add e255 ⟨by omega, by omega⟩
  refine va_sld hx hb hX hbl hbA hS (ia_in ⟨by omega, by omega⟩) d_La_law_256 ?_
  refine lv_topi (fun v256 e256 => ?_)
  refine lv_i2l hx hb d_La_law_257 rfl ?_
  refine lv_topl (fun v257 e257 => ?_)
  refine lv_bipush (v := 32) hx hb d_La_law_258 (by decide) ?_
  refine lv_topi (fun v258 e258 => ?_)
  have t258 : v258.toInt = 32 := by rw [e258]; rfl
  refine lv_lshl hx hb d_La_law_260 rfl ?_
  refine lv_topl (fun v260 e260 => ?_)
  refine lv_aload_n hx hb d_La_law_261 rfl (lv_at hl 0 rfl) ?_
  refine lv_iload hx hb d_La_law_262 (lv_at hl 4 rfl) ?_
  refine lv_iconst (v := 4) hx hb d_La_law_264 (by decide) ?_
  refine lv_topi (fun v264 e264 => ?_)
  have t264 : v264.toInt = 4 := by rw [e264]; rfl
  refine lv_iadd hx hb d_La_law_265 ?_
  refine lv_topi (fun v265 e265 => ?_)
  have t265 := ia_add e265 ⟨by omega, by omega⟩
  refine va_sld hx hb hX hbl hbA hS (ia_in ⟨by omega, by omega⟩) d_La_law_266 ?_
  refine lv_topi (fun v266 e266 => ?_)
  refine lv_i2l hx hb d_La_law_267 rfl ?_
  refine lv_topl (fun v267 e267 => ?_)
  refine lv_ldc2 (v := 4294967295) hx hb hown (hts _ tw_835) d_La_law_268 ?_
  refine lv_topl (fun v268 e268 => ?_)
  refine lv_land hx hb d_La_law_271 ?_
  refine lv_topl (fun v271 e271 => ?_)
  refine lv_lor hx hb d_La_law_272 ?_
  refine lv_topl (fun v272 e272 => ?_)
  have hPc := hP.sub (ws' := [(xo, .inr (3, [.int sr, .ref kA, .ref kB, .ref kC, .ref kD, .ref tb, .ref so, .int cu])), (kA, .inr (0, [.int isr, .ref wA])), (wA, .inl (cL, kn, .inr (.inl gA))), (kB, .inr (0, [.int isr, .ref wB])), (wB, .inl (cL, kn, .inr (.inl gB))), (kC, .inr (0, [.int isr, .ref wC])), (wC, .inl (cL, kn, .inr (.inl gC))), (kD, .inr (0, [.int isr, .ref wD])), (wD, .inl (cL, kn, .inr (.inl gD))), (tb, .inr (2, [.int wd, .ref cd, .ref vl, .int cnt, .int chg])), (cd, .inl (cL, nc, .inr (.inl fc))), (vl, .inl (cL, nv, .inr (.inl fv))), (so, .inr (1, [.ref bs, .int dp, .int rt, .ref la, .ref ca, .ref ha, .int opn])), (bs, .inl (cI, 4, .inl fb)), (la, .inl (cI, mb, .inl fl)), (ca, .inl (cI, mb, .inl fch)), (ha, .inl (cI, mb, .inl fh))]) [0, 1, 2, 3, 4, 5, 6, 7, 8, 9, 10, 11, 12, 13, 14, 15, 16] rfl
  have hDc := hD.sub (ws' := [(xo, .inr (3, [.int sr, .ref kA, .ref kB, .ref kC, .ref kD, .ref tb, .ref so, .int cu])), (kA, .inr (0, [.int isr, .ref wA])), (wA, .inl (cL, kn, .inr (.inl gA))), (kB, .inr (0, [.int isr, .ref wB])), (wB, .inl (cL, kn, .inr (.inl gB))), (kC, .inr (0, [.int isr, .ref wC])), (wC, .inl (cL, kn, .inr (.inl gC))), (kD, .inr (0, [.int isr, .ref wD])), (wD, .inl (cL, kn, .inr (.inl gD))), (tb, .inr (2, [.int wd, .ref cd, .ref vl, .int cnt, .int chg])), (cd, .inl (cL, nc, .inr (.inl fc))), (vl, .inl (cL, nv, .inr (.inl fv))), (so, .inr (1, [.ref bs, .int dp, .int rt, .ref la, .ref ca, .ref ha, .int opn])), (bs, .inl (cI, 4, .inl fb)), (la, .inl (cI, mb, .inl fl)), (ca, .inl (cI, mb, .inl fch)), (ha, .inl (cI, mb, .inl fh))]) [0, 1, 2, 3, 4, 5, 6, 7, 8, 9, 10, 11, 12, 13, 14, 15, 16] (by decide) rfl
  have hFc := va_free (wc := [(xo, .inr (3, [.int sr, .ref kA, .ref kB, .ref kC, .ref kD, .ref tb, .ref so, .int cu])), (kA, .inr (0, [.int isr, .ref wA])), (wA, .inl (cL, kn, .inr (.inl gA))), (kB, .inr (0, [.int isr, .ref wB])), (wB, .inl (cL, kn, .inr (.inl gB))), (kC, .inr (0, [.int isr, .ref wC])), (wC, .inl (cL, kn, .inr (.inl gC))), (kD, .inr (0, [.int isr, .ref wD])), (wD, .inl (cL, kn, .inr (.inl gD))), (tb, .inr (2, [.int wd, .ref cd, .ref vl, .int cnt, .int chg])), (cd, .inl (cL, nc, .inr (.inl fc))), (vl, .inl (cL, nv, .inr (.inl fv))), (so, .inr (1, [.ref bs, .int dp, .int rt, .ref la, .ref ca, .ref ha, .int opn])), (bs, .inl (cI, 4, .inl fb)), (la, .inl (cI, mb, .inl fl)), (ca, .inl (cI, mb, .inl fch)), (ha, .inl (cI, mb, .inl fh))]) hD hS hA [0, 1, 2, 3, 4, 5, 6, 7, 8, 9, 10, 11, 12, 13, 14, 15, 16] rfl
  refine va_calli (xr_msw (As := [.ref xo, .long v250, .long v272]) (rest := []) ⟨hx, hb, hml, hown, hts⟩ (c_La_pair l D cL cI htr xo kA wA kB wB kC wC kD wD kn sr cu isr gA gB gC gD tb cd vl nc w n wd cnt chg fc nv fv so bs la ca ha mb dp rt opn fb fl fch fh v250 v272 H.size (hw) (hw7) (hcnt) (hnc) (hnv) (hn) (hkn) (hmb) (hs) (hopn) (hchg) (hsh) (hsr) (hcu)) tw_351 tw_349 tw_350 tw_0 rfl rfl (by decide) (⟨Nat.le_of_ble_eq_true rfl, Nat.le_of_ble_eq_true rfl⟩) hK hPc (hDc.weaken (fun _ _ _ _ => trivial)) (lx_go hxe hS hAn) rfl hl.1 rfl (Nat.le_of_ble_eq_true rfl) d_La_law_273 ⟨show cells + 1 ≤ 601024 from by omega, show slots + 6 ≤ 7293000 from by omega⟩) hS (fun q _ h => hFc q h) hFc (fun v273 u273 tt273 H1 locs ht273 hvm273 e273 hB273 hz273 hk273 hS => ?_)
  obtain ⟨gA2_273, rfl⟩ : ∃ z, z = u273 := ⟨_, rfl⟩
  have e273 : (v273 = 0 ∧ (sr.toInt = 1) ∧ (gA2_273 0 = v250 ^^^ (-9223372036854775808) ∧ gA2_273 1 = v272 ^^^ (-9223372036854775808))) ∨ (v273 = 1 ∧ (sr.toInt ≠ 1) ∧ gA2_273 = gA) := e273
  obtain ⟨hP1, hK1, hD1⟩ := hB273
  rw [ht273] at hP1
  obtain ⟨hP, hD⟩ := va_join (wr := [(mo, .inr (4, [.int mso, .ref m1, .ref m2, .ref m3, .ref m4, .ref m5, .ref m6, .int mct, .ref m7, .int mfr, .int mcu, .int mth, .ref m8, .ref m9, .ref ma, .ref mq])), (m1, .inl (cL, 1503, .inr (.inl p1))), (m2, .inl (cL, 1503, .inr (.inl p2))), (m3, .inl (cI, 36072, .inl p3)), (m4, .inl (cI, 1503, .inl p4)), (m5, .inl (cL, 1500, .inr (.inl p5))), (m6, .inl (cI, 1500, .inl p6)), (m7, .inl (cI, 1500, .inl p7)), (m8, .inl (cI, 50, .inl p8)), (m9, .inl (cI, 50, .inl p9)), (ma, .inl (cI, 1500, .inl pa)), (mq, .inl (cI, 50, .inl pb)), (oa, .inl (cL, 1, .inr (.inl fo)))]) (w1 := [(xo, .inr (3, [.int sr, .ref kA, .ref kB, .ref kC, .ref kD, .ref tb, .ref so, .int cu])), (kA, .inr (0, [.int isr, .ref wA])), (wA, .inl (cL, kn, .inr (.inl gA2_273))), (kB, .inr (0, [.int isr, .ref wB])), (wB, .inl (cL, kn, .inr (.inl gB))), (kC, .inr (0, [.int isr, .ref wC])), (wC, .inl (cL, kn, .inr (.inl gC))), (kD, .inr (0, [.int isr, .ref wD])), (wD, .inl (cL, kn, .inr (.inl gD))), (tb, .inr (2, [.int wd, .ref cd, .ref vl, .int cnt, .int chg])), (cd, .inl (cL, nc, .inr (.inl fc))), (vl, .inl (cL, nv, .inr (.inl fv))), (so, .inr (1, [.ref bs, .int dp, .int rt, .ref la, .ref ca, .ref ha, .int opn])), (bs, .inl (cI, 4, .inl fb)), (la, .inl (cI, mb, .inl fl)), (ca, .inl (cI, mb, .inl fch)), (ha, .inl (cI, mb, .inl fh))]) hP hD [0, 1, 2, 3, 4, 5, 6, 7, 8, 9, 10, 11, 12, 13, 14, 15, 16] [17, 18, 19, 20, 21, 22, 23, 24, 25, 26, 27, 28, 29] rfl rfl (by decide) (by decide) hk273 hFc hP1 hD1
  clear hP1 hD1 hPc hDc hFc
  generalize H1 = H at hP hS ⊢
  have hP : va_P D classes [(mo, .inr (4, [.int mso, .ref m1, .ref m2, .ref m3, .ref m4, .ref m5, .ref m6, .int mct, .ref m7, .int mfr, .int mcu, .int mth, .ref m8, .ref m9, .ref ma, .ref mq])), (m1, .inl (cL, 1503, .inr (.inl p1))), (m2, .inl (cL, 1503, .inr (.inl p2))), (m3, .inl (cI, 36072, .inl p3)), (m4, .inl (cI, 1503, .inl p4)), (m5, .inl (cL, 1500, .inr (.inl p5))), (m6, .inl (cI, 1500, .inl p6)), (m7, .inl (cI, 1500, .inl p7)), (m8, .inl (cI, 50, .inl p8)), (m9, .inl (cI, 50, .inl p9)), (ma, .inl (cI, 1500, .inl pa)), (mq, .inl (cI, 50, .inl pb)), (oa, .inl (cL, 1, .inr (.inl fo))), (xo, .inr (3, [.int sr, .ref kA, .ref kB, .ref kC, .ref kD, .ref tb, .ref so, .int cu])), (kA, .inr (0, [.int isr, .ref wA])), (wA, .inl (cL, kn, .inr (.inl gA2_273))), (kB, .inr (0, [.int isr, .ref wB])), (wB, .inl (cL, kn, .inr (.inl gB))), (kC, .inr (0, [.int isr, .ref wC])), (wC, .inl (cL, kn, .inr (.inl gC))), (kD, .inr (0, [.int isr, .ref wD])), (wD, .inl (cL, kn, .inr (.inl gD))), (tb, .inr (2, [.int wd, .ref cd, .ref vl, .int cnt, .int chg])), (cd, .inl (cL, nc, .inr (.inl fc))), (vl, .inl (cL, nv, .inr (.inl fv))), (so, .inr (1, [.ref bs, .int dp, .int rt, .ref la, .ref ca, .ref ha, .int opn])), (bs, .inl (cI, 4, .inl fb)), (la, .inl (cI, mb, .inl fl)), (ca, .inl (cI, mb, .inl fch)), (ha, .inl (cI, mb, .inl fh))] H := hP
  have hD : va_D A [(mo, .inr (4, [.int mso, .ref m1, .ref m2, .ref m3, .ref m4, .ref m5, .ref m6, .int mct, .ref m7, .int mfr, .int mcu, .int mth, .ref m8, .ref m9, .ref ma, .ref mq])), (m1, .inl (cL, 1503, .inr (.inl p1))), (m2, .inl (cL, 1503, .inr (.inl p2))), (m3, .inl (cI, 36072, .inl p3)), (m4, .inl (cI, 1503, .inl p4)), (m5, .inl (cL, 1500, .inr (.inl p5))), (m6, .inl (cI, 1500, .inl p6)), (m7, .inl (cI, 1500, .inl p7)), (m8, .inl (cI, 50, .inl p8)), (m9, .inl (cI, 50, .inl p9)), (ma, .inl (cI, 1500, .inl pa)), (mq, .inl (cI, 50, .inl pb)), (oa, .inl (cL, 1, .inr (.inl fo))), (xo, .inr (3, [.int sr, .ref kA, .ref kB, .ref kC, .ref kD, .ref tb, .ref so, .int cu])), (kA, .inr (0, [.int isr, .ref wA])), (wA, .inl (cL, kn, .inr (.inl gA2_273))), (kB, .inr (0, [.int isr, .ref wB])), (wB, .inl (cL, kn, .inr (.inl gB))), (kC, .inr (0, [.int isr, .ref wC])), (wC, .inl (cL, kn, .inr (.inl gC))), (kD, .inr (0, [.int isr, .ref wD])), (wD, .inl (cL, kn, .inr (.inl gD))), (tb, .inr (2, [.int wd, .ref cd, .ref vl, .int cnt, .int chg])), (cd, .inl (cL, nc, .inr (.inl fc))), (vl, .inl (cL, nv, .inr (.inl fv))), (so, .inr (1, [.ref bs, .int dp, .int rt, .ref la, .ref ca, .ref ha, .int opn])), (bs, .inl (cI, 4, .inl fb)), (la, .inl (cI, mb, .inl fl)), (ca, .inl (cI, mb, .inl fch)), (ha, .inl (cI, mb, .inl fh))] := hD
  refine lv_istore (lv' := [(5, .int v273), (0, .ref b), (1, .ref xo), (2, .ref mo), (3, .ref oa), (4, .int i)]) hx hb d_La_law_276 hl (by decide) rfl (fun ls hl => ?_)
  refine lv_aload_n hx hb d_La_law_278 rfl (lv_at hl 3 rfl) ?_
  refine lv_aload_n hx hb d_La_law_279 rfl (lv_at hl 1 rfl) ?_
  refine lv_iload hx hb d_La_law_280 (lv_at hl 5 rfl) ?_
  refine lv_iconst (v := 1) hx hb d_La_law_282 (by decide) ?_
  refine lv_topi (fun v282 e282 => ?_)
  have t282 : v282.toInt = 1 := by rw [e282]; rfl
  refine lv_iadd hx hb d_La_law_283 ?_
  refine lv_topi (fun v283 e283 => ?_)
  have t283 := ia_add e283 ⟨by omega, by omega⟩
  refine va_sld hx hb hX hbl hbA hS (ia_in ⟨by omega, by omega⟩) d_La_law_284 ?_
  refine lv_topi (fun v284 e284 => ?_)
  refine lv_i2l hx hb d_La_law_285 rfl ?_
  refine lv_topl (fun v285 e285 => ?_)
  refine lv_bipush (v := 32) hx hb d_La_law_286 (by decide) ?_
  refine lv_topi (fun v286 e286 => ?_)
  have t286 : v286.toInt = 32 := by rw [e286]; rfl
  refine lv_lshl hx hb d_La_law_288 rfl ?_
  refine lv_topl (fun v288 e288 => ?_)
  refine lv_aload_n hx hb d_La_law_289 rfl (lv_at hl 1 rfl) ?_
  refine lv_iload hx hb d_La_law_290 (lv_at hl 5 rfl) ?_
  refine lv_iconst (v := 2) hx hb d_La_law_292 (by decide) ?_
  refine lv_topi (fun v292 e292 => ?_)
  have t292 : v292.toInt = 2 := by rw [e292]; rfl
  refine lv_iadd hx hb d_La_law_293 ?_
  refine lv_topi (fun v293 e293 => ?_)
  have t293 := ia_add e293 ⟨by omega, by omega⟩
  refine va_sld hx hb hX hbl hbA hS (ia_in ⟨by omega, by omega⟩) d_La_law_294 ?_
  refine lv_topi (fun v294 e294 => ?_)
  refine lv_i2l hx hb d_La_law_295 rfl ?_
  refine lv_topl (fun v295 e295 => ?_)
  refine lv_ldc2 (v := 4294967295) hx hb hown (hts _ tw_835) d_La_law_296 ?_
  refine lv_topl (fun v296 e296 => ?_)
  refine lv_land hx hb d_La_law_299 ?_
  refine lv_topl (fun v299 e299 => ?_)
  refine lv_lor hx hb d_La_law_300 ?_
  refine lv_topl (fun v300 e300 => ?_)
  refine lv_aload_n hx hb d_La_law_301 rfl (lv_at hl 1 rfl) ?_
  refine lv_iload hx hb d_La_law_302 (lv_at hl 5 rfl) ?_
  refine lv_iconst (v := 3) hx hb d_La_law_304 (by decide) ?_
  refine lv_topi (fun v304 e304 => ?_)
  have t304 : v304.toInt = 3 := by rw [e304]; rfl
  refine lv_iadd hx hb d_La_law_305 ?_
  refine lv_topi (fun v305 e305 => ?_)
  have t305 := ia_add e305 ⟨by omega, by omega⟩
  refine va_sld hx hb hX hbl hbA hS (ia_in ⟨by omega, by omega⟩) d_La_law_306 ?_
  refine lv_topi (fun v306 e306 => ?_)
  refine lv_i2l hx hb d_La_law_307 rfl ?_
  refine lv_topl (fun v307 e307 => ?_)
  refine lv_bipush (v := 32) hx hb d_La_law_308 (by decide) ?_
  refine lv_topi (fun v308 e308 => ?_)
  have t308 : v308.toInt = 32 := by rw [e308]; rfl
  refine lv_lshl hx hb d_La_law_310 rfl ?_
  refine lv_topl (fun v310 e310 => ?_)
  refine lv_aload_n hx hb d_La_law_311 rfl (lv_at hl 1 rfl) ?_
  refine lv_iload hx hb d_La_law_312 (lv_at hl 5 rfl) ?_
  refine lv_iconst (v := 4) hx hb d_La_law_314 (by decide) ?_
  refine lv_topi (fun v314 e314 => ?_)
  have t314 : v314.toInt = 4 := by rw [e314]; rfl
  refine lv_iadd hx hb d_La_law_315 ?_
  refine lv_topi (fun v315 e315 => ?_)
  have t315 := ia_add e315 ⟨by omega, by omega⟩
  refine va_sld hx hb hX hbl hbA hS (ia_in ⟨by omega, by omega⟩) d_La_law_316 ?_
  refine lv_topi (fun v316 e316 => ?_)
  refine lv_i2l hx hb d_La_law_317 rfl ?_
  refine lv_topl (fun v317 e317 => ?_)
  refine lv_ldc2 (v := 4294967295) hx hb hown (hts _ tw_835) d_La_law_318 ?_
  refine lv_topl (fun v318 e318 => ?_)
  refine lv_land hx hb d_La_law_321 ?_
  refine lv_topl (fun v321 e321 => ?_)
  refine lv_lor hx hb d_La_law_322 ?_
  refine lv_topl (fun v322 e322 => ?_)
  obtain rfl : v250 = v300 := by simp only [e232, e233, e234, e235, e236, e238, e242, e243, e244, e245, e246, e249, e250, e254, e255, e256, e257, e258, e260, e264, e265, e266, e267, e268, e271, e272, e282, e283, e284, e285, e286, e288, e292, e293, e294, e295, e296, e299, e300, e304, e305, e306, e307, e308, e310, e314, e315, e316, e317, e318, e321, e322]
  obtain rfl : v272 = v322 := by simp only [e232, e233, e234, e235, e236, e238, e242, e243, e244, e245, e246, e249, e250, e254, e255, e256, e257, e258, e260, e264, e265, e266, e267, e268, e271, e272, e282, e283, e284, e285, e286, e288, e292, e293, e294, e295, e296, e299, e300, e304, e305, e306, e307, e308, e310, e314, e315, e316, e317, e318, e321, e322]
  have hPc := hP.sub (ws' := [(mo, .inr (4, [.int mso, .ref m1, .ref m2, .ref m3, .ref m4, .ref m5, .ref m6, .int mct, .ref m7, .int mfr, .int mcu, .int mth, .ref m8, .ref m9, .ref ma, .ref mq])), (m1, .inl (cL, 1503, .inr (.inl p1))), (m2, .inl (cL, 1503, .inr (.inl p2))), (m3, .inl (cI, 36072, .inl p3)), (m4, .inl (cI, 1503, .inl p4)), (m5, .inl (cL, 1500, .inr (.inl p5))), (m6, .inl (cI, 1500, .inl p6)), (m7, .inl (cI, 1500, .inl p7)), (m8, .inl (cI, 50, .inl p8)), (m9, .inl (cI, 50, .inl p9)), (ma, .inl (cI, 1500, .inl pa)), (mq, .inl (cI, 50, .inl pb))]) [0, 1, 2, 3, 4, 5, 6, 7, 8, 9, 10, 11] rfl
  have hDc := hD.sub (ws' := [(mo, .inr (4, [.int mso, .ref m1, .ref m2, .ref m3, .ref m4, .ref m5, .ref m6, .int mct, .ref m7, .int mfr, .int mcu, .int mth, .ref m8, .ref m9, .ref ma, .ref mq])), (m1, .inl (cL, 1503, .inr (.inl p1))), (m2, .inl (cL, 1503, .inr (.inl p2))), (m3, .inl (cI, 36072, .inl p3)), (m4, .inl (cI, 1503, .inl p4)), (m5, .inl (cL, 1500, .inr (.inl p5))), (m6, .inl (cI, 1500, .inl p6)), (m7, .inl (cI, 1500, .inl p7)), (m8, .inl (cI, 50, .inl p8)), (m9, .inl (cI, 50, .inl p9)), (ma, .inl (cI, 1500, .inl pa)), (mq, .inl (cI, 50, .inl pb))]) [0, 1, 2, 3, 4, 5, 6, 7, 8, 9, 10, 11] (by decide) rfl
  have hFc := va_free (wc := [(mo, .inr (4, [.int mso, .ref m1, .ref m2, .ref m3, .ref m4, .ref m5, .ref m6, .int mct, .ref m7, .int mfr, .int mcu, .int mth, .ref m8, .ref m9, .ref ma, .ref mq])), (m1, .inl (cL, 1503, .inr (.inl p1))), (m2, .inl (cL, 1503, .inr (.inl p2))), (m3, .inl (cI, 36072, .inl p3)), (m4, .inl (cI, 1503, .inl p4)), (m5, .inl (cL, 1500, .inr (.inl p5))), (m6, .inl (cI, 1500, .inl p6)), (m7, .inl (cI, 1500, .inl p7)), (m8, .inl (cI, 50, .inl p8)), (m9, .inl (cI, 50, .inl p9)), (ma, .inl (cI, 1500, .inl pa)), (mq, .inl (cI, 50, .inl pb))]) hD hS hA [0, 1, 2, 3, 4, 5, 6, 7, 8, 9, 10, 11] rfl
  refine va_callv (xr_mv (As := [.long v250, .long v272]) (rest := []) ⟨hx, hb, hml, hown, hts⟩ (c_Mo_pair l D cL cI mo m1 m2 m3 m4 m5 m6 m7 m8 m9 ma mq mso mct mfr mcu mth p1 p2 p5 p3 p4 p6 p7 p8 p9 pa pb w KW v250 v272 H.size (hws) (hkr)) (xr_cv 2 hts tw_667 tw_664 tw_665 tw_666 tw_7 rfl rfl (by decide) ⟨Nat.le_of_ble_eq_true rfl, Nat.le_of_ble_eq_true rfl⟩) hK hPc (hDc.weaken (fun _ _ _ _ => trivial)) (va_recv hK hP rfl (q0 := 0) (ci := 4) rfl) rfl hl.1 rfl (Nat.le_of_ble_eq_true rfl) d_La_law_323 ⟨show (cells + 1) + 0 ≤ 601024 from by omega, show (slots + 6) + 0 ≤ 7293000 from by omega⟩) hS (fun q _ h => hFc q h) hFc (fun u323 tt323 H1 locs ht323 hvm323 e323 hB323 hz323 hk323 hS => ?_)
  obtain ⟨mth2_323, p1b_323, p2b_323⟩ := u323
  have e323 : (mso.toInt ≠ 1 ∧ mth2_323.toInt = 1 ∧ p1b_323 = p1 ∧ p2b_323 = p2) ∨ (mso.toInt = 1 ∧ mth2_323.toInt = 0 ∧ KRs mso.toInt p1b_323 p2b_323 p3 p4 (kset KW 1500 (fun j => if j = 0 then v250 ^^^ (-9223372036854775808) else v272 ^^^ (-9223372036854775808)))) := e323
  obtain ⟨hP1, hK1, hD1⟩ := hB323
  rw [ht323] at hP1
  obtain ⟨hP, hD⟩ := va_join (wr := [(oa, .inl (cL, 1, .inr (.inl fo))), (xo, .inr (3, [.int sr, .ref kA, .ref kB, .ref kC, .ref kD, .ref tb, .ref so, .int cu])), (kA, .inr (0, [.int isr, .ref wA])), (wA, .inl (cL, kn, .inr (.inl gA2_273))), (kB, .inr (0, [.int isr, .ref wB])), (wB, .inl (cL, kn, .inr (.inl gB))), (kC, .inr (0, [.int isr, .ref wC])), (wC, .inl (cL, kn, .inr (.inl gC))), (kD, .inr (0, [.int isr, .ref wD])), (wD, .inl (cL, kn, .inr (.inl gD))), (tb, .inr (2, [.int wd, .ref cd, .ref vl, .int cnt, .int chg])), (cd, .inl (cL, nc, .inr (.inl fc))), (vl, .inl (cL, nv, .inr (.inl fv))), (so, .inr (1, [.ref bs, .int dp, .int rt, .ref la, .ref ca, .ref ha, .int opn])), (bs, .inl (cI, 4, .inl fb)), (la, .inl (cI, mb, .inl fl)), (ca, .inl (cI, mb, .inl fch)), (ha, .inl (cI, mb, .inl fh))]) (w1 := [(mo, .inr (4, [.int mso, .ref m1, .ref m2, .ref m3, .ref m4, .ref m5, .ref m6, .int mct, .ref m7, .int mfr, .int mcu, .int mth2_323, .ref m8, .ref m9, .ref ma, .ref mq])), (m1, .inl (cL, 1503, .inr (.inl p1b_323))), (m2, .inl (cL, 1503, .inr (.inl p2b_323))), (m3, .inl (cI, 36072, .inl p3)), (m4, .inl (cI, 1503, .inl p4)), (m5, .inl (cL, 1500, .inr (.inl p5))), (m6, .inl (cI, 1500, .inl p6)), (m7, .inl (cI, 1500, .inl p7)), (m8, .inl (cI, 50, .inl p8)), (m9, .inl (cI, 50, .inl p9)), (ma, .inl (cI, 1500, .inl pa)), (mq, .inl (cI, 50, .inl pb))]) hP hD [0, 1, 2, 3, 4, 5, 6, 7, 8, 9, 10, 11] [12, 13, 14, 15, 16, 17, 18, 19, 20, 21, 22, 23, 24, 25, 26, 27, 28, 29] rfl rfl (by decide) (by decide) hk323 hFc hP1 hD1
  clear hP1 hD1 hPc hDc hFc
  generalize H1 = H at hP hS ⊢
  have hP : va_P D classes [(oa, .inl (cL, 1, .inr (.inl fo))), (xo, .inr (3, [.int sr, .ref kA, .ref kB, .ref kC, .ref kD, .ref tb, .ref so, .int cu])), (kA, .inr (0, [.int isr, .ref wA])), (wA, .inl (cL, kn, .inr (.inl gA2_273))), (kB, .inr (0, [.int isr, .ref wB])), (wB, .inl (cL, kn, .inr (.inl gB))), (kC, .inr (0, [.int isr, .ref wC])), (wC, .inl (cL, kn, .inr (.inl gC))), (kD, .inr (0, [.int isr, .ref wD])), (wD, .inl (cL, kn, .inr (.inl gD))), (tb, .inr (2, [.int wd, .ref cd, .ref vl, .int cnt, .int chg])), (cd, .inl (cL, nc, .inr (.inl fc))), (vl, .inl (cL, nv, .inr (.inl fv))), (so, .inr (1, [.ref bs, .int dp, .int rt, .ref la, .ref ca, .ref ha, .int opn])), (bs, .inl (cI, 4, .inl fb)), (la, .inl (cI, mb, .inl fl)), (ca, .inl (cI, mb, .inl fch)), (ha, .inl (cI, mb, .inl fh)), (mo, .inr (4, [.int mso, .ref m1, .ref m2, .ref m3, .ref m4, .ref m5, .ref m6, .int mct, .ref m7, .int mfr, .int mcu, .int mth2_323, .ref m8, .ref m9, .ref ma, .ref mq])), (m1, .inl (cL, 1503, .inr (.inl p1b_323))), (m2, .inl (cL, 1503, .inr (.inl p2b_323))), (m3, .inl (cI, 36072, .inl p3)), (m4, .inl (cI, 1503, .inl p4)), (m5, .inl (cL, 1500, .inr (.inl p5))), (m6, .inl (cI, 1500, .inl p6)), (m7, .inl (cI, 1500, .inl p7)), (m8, .inl (cI, 50, .inl p8)), (m9, .inl (cI, 50, .inl p9)), (ma, .inl (cI, 1500, .inl pa)), (mq, .inl (cI, 50, .inl pb))] H := hP
  have hD : va_D A [(oa, .inl (cL, 1, .inr (.inl fo))), (xo, .inr (3, [.int sr, .ref kA, .ref kB, .ref kC, .ref kD, .ref tb, .ref so, .int cu])), (kA, .inr (0, [.int isr, .ref wA])), (wA, .inl (cL, kn, .inr (.inl gA2_273))), (kB, .inr (0, [.int isr, .ref wB])), (wB, .inl (cL, kn, .inr (.inl gB))), (kC, .inr (0, [.int isr, .ref wC])), (wC, .inl (cL, kn, .inr (.inl gC))), (kD, .inr (0, [.int isr, .ref wD])), (wD, .inl (cL, kn, .inr (.inl gD))), (tb, .inr (2, [.int wd, .ref cd, .ref vl, .int cnt, .int chg])), (cd, .inl (cL, nc, .inr (.inl fc))), (vl, .inl (cL, nv, .inr (.inl fv))), (so, .inr (1, [.ref bs, .int dp, .int rt, .ref la, .ref ca, .ref ha, .int opn])), (bs, .inl (cI, 4, .inl fb)), (la, .inl (cI, mb, .inl fl)), (ca, .inl (cI, mb, .inl fch)), (ha, .inl (cI, mb, .inl fh)), (mo, .inr (4, [.int mso, .ref m1, .ref m2, .ref m3, .ref m4, .ref m5, .ref m6, .int mct, .ref m7, .int mfr, .int mcu, .int mth2_323, .ref m8, .ref m9, .ref ma, .ref mq])), (m1, .inl (cL, 1503, .inr (.inl p1b_323))), (m2, .inl (cL, 1503, .inr (.inl p2b_323))), (m3, .inl (cI, 36072, .inl p3)), (m4, .inl (cI, 1503, .inl p4)), (m5, .inl (cL, 1500, .inr (.inl p5))), (m6, .inl (cI, 1500, .inl p6)), (m7, .inl (cI, 1500, .inl p7)), (m8, .inl (cI, 50, .inl p8)), (m9, .inl (cI, 50, .inl p9)), (ma, .inl (cI, 1500, .inl pa)), (mq, .inl (cI, 50, .inl pb))] := hD
  refine lv_aload_n hx hb d_La_law_326 rfl (lv_at hl 3 rfl) ?_
  obtain ⟨hth, KW2, hR2⟩ := sm_pair hI hR e273 e323
  refine vp_callSi (xr_rv (As := []) (rest := []) ⟨hx, hb, hml, hown, hts⟩ (c_Mo_thrown l D cL cI mo m1 m2 m3 m4 m5 m6 m7 m8 m9 ma mq mso mct mfr mcu mth2_323 p1b_323 p2b_323 p5 p3 p4 p6 p7 p8 p9 pa pb ) (xr_cv 0 hts tw_655 tw_652 tw_653 tw_654 tw_7 rfl rfl (by decide) ⟨Nat.le_of_ble_eq_true rfl, Nat.le_of_ble_eq_true rfl⟩) hK (hP.sub (ws' := [(mo, .inr (4, [.int mso, .ref m1, .ref m2, .ref m3, .ref m4, .ref m5, .ref m6, .int mct, .ref m7, .int mfr, .int mcu, .int mth2_323, .ref m8, .ref m9, .ref ma, .ref mq])), (m1, .inl (cL, 1503, .inr (.inl p1b_323))), (m2, .inl (cL, 1503, .inr (.inl p2b_323))), (m3, .inl (cI, 36072, .inl p3)), (m4, .inl (cI, 1503, .inl p4)), (m5, .inl (cL, 1500, .inr (.inl p5))), (m6, .inl (cI, 1500, .inl p6)), (m7, .inl (cI, 1500, .inl p7)), (m8, .inl (cI, 50, .inl p8)), (m9, .inl (cI, 50, .inl p9)), (ma, .inl (cI, 1500, .inl pa)), (mq, .inl (cI, 50, .inl pb))]) [18, 19, 20, 21, 22, 23, 24, 25, 26, 27, 28, 29] rfl) (va_recv hK hP rfl (q0 := 18) (ci := 4) rfl) rfl hl.1 rfl (Nat.le_of_ble_eq_true rfl) d_La_law_327 ⟨show (cells + 1) ≤ 601024 from by omega, show (slots + 6) ≤ 7293000 from by omega⟩) (fun v327 e327 => ?_)
  have e327 : v327 = mth2_323 := e327
  refine lv_iload hx hb d_La_law_330 (lv_at hl 0 rfl) ?_
  refine lv_icmp_eq hx hb d_La_law_332 (tgt := 337) (by decide) (fun g332 => ?_) (fun g332 => ?_)
  · have g332 := ic_eq.mp g332
    refine lv_goto hx hb d_La_law_337 (tgt := 1245) (by decide) ?_
    have hP9 := hP.sub (ws' := [(xo, .inr (3, [.int sr, .ref kA, .ref kB, .ref kC, .ref kD, .ref tb, .ref so, .int cu])), (kA, .inr (0, [.int isr, .ref wA])), (wA, .inl (cL, kn, .inr (.inl gA2_273))), (kB, .inr (0, [.int isr, .ref wB])), (wB, .inl (cL, kn, .inr (.inl gB))), (kC, .inr (0, [.int isr, .ref wC])), (wC, .inl (cL, kn, .inr (.inl gC))), (kD, .inr (0, [.int isr, .ref wD])), (wD, .inl (cL, kn, .inr (.inl gD))), (tb, .inr (2, [.int wd, .ref cd, .ref vl, .int cnt, .int chg])), (cd, .inl (cL, nc, .inr (.inl fc))), (vl, .inl (cL, nv, .inr (.inl fv))), (so, .inr (1, [.ref bs, .int dp, .int rt, .ref la, .ref ca, .ref ha, .int opn])), (bs, .inl (cI, 4, .inl fb)), (la, .inl (cI, mb, .inl fl)), (ca, .inl (cI, mb, .inl fch)), (ha, .inl (cI, mb, .inl fh)), (mo, .inr (4, [.int mso, .ref m1, .ref m2, .ref m3, .ref m4, .ref m5, .ref m6, .int mct, .ref m7, .int mfr, .int mcu, .int mth2_323, .ref m8, .ref m9, .ref ma, .ref mq])), (m1, .inl (cL, 1503, .inr (.inl p1b_323))), (m2, .inl (cL, 1503, .inr (.inl p2b_323))), (m3, .inl (cI, 36072, .inl p3)), (m4, .inl (cI, 1503, .inl p4)), (m5, .inl (cL, 1500, .inr (.inl p5))), (m6, .inl (cI, 1500, .inl p6)), (m7, .inl (cI, 1500, .inl p7)), (m8, .inl (cI, 50, .inl p8)), (m9, .inl (cI, 50, .inl p9)), (ma, .inl (cI, 1500, .inl pa)), (mq, .inl (cI, 50, .inl pb)), (oa, .inl (cL, 1, .inr (.inl fo)))]) [1, 2, 3, 4, 5, 6, 7, 8, 9, 10, 11, 12, 13, 14, 15, 16, 17, 18, 19, 20, 21, 22, 23, 24, 25, 26, 27, 28, 29, 0] rfl
    have hD9 := hD.sub (ws' := [(xo, .inr (3, [.int sr, .ref kA, .ref kB, .ref kC, .ref kD, .ref tb, .ref so, .int cu])), (kA, .inr (0, [.int isr, .ref wA])), (wA, .inl (cL, kn, .inr (.inl gA2_273))), (kB, .inr (0, [.int isr, .ref wB])), (wB, .inl (cL, kn, .inr (.inl gB))), (kC, .inr (0, [.int isr, .ref wC])), (wC, .inl (cL, kn, .inr (.inl gC))), (kD, .inr (0, [.int isr, .ref wD])), (wD, .inl (cL, kn, .inr (.inl gD))), (tb, .inr (2, [.int wd, .ref cd, .ref vl, .int cnt, .int chg])), (cd, .inl (cL, nc, .inr (.inl fc))), (vl, .inl (cL, nv, .inr (.inl fv))), (so, .inr (1, [.ref bs, .int dp, .int rt, .ref la, .ref ca, .ref ha, .int opn])), (bs, .inl (cI, 4, .inl fb)), (la, .inl (cI, mb, .inl fl)), (ca, .inl (cI, mb, .inl fch)), (ha, .inl (cI, mb, .inl fh)), (mo, .inr (4, [.int mso, .ref m1, .ref m2, .ref m3, .ref m4, .ref m5, .ref m6, .int mct, .ref m7, .int mfr, .int mcu, .int mth2_323, .ref m8, .ref m9, .ref ma, .ref mq])), (m1, .inl (cL, 1503, .inr (.inl p1b_323))), (m2, .inl (cL, 1503, .inr (.inl p2b_323))), (m3, .inl (cI, 36072, .inl p3)), (m4, .inl (cI, 1503, .inl p4)), (m5, .inl (cL, 1500, .inr (.inl p5))), (m6, .inl (cI, 1500, .inl p6)), (m7, .inl (cI, 1500, .inl p7)), (m8, .inl (cI, 50, .inl p8)), (m9, .inl (cI, 50, .inl p9)), (ma, .inl (cI, 1500, .inl pa)), (mq, .inl (cI, 50, .inl pb)), (oa, .inl (cL, 1, .inr (.inl fo)))]) [1, 2, 3, 4, 5, 6, 7, 8, 9, 10, 11, 12, 13, 14, 15, 16, 17, 18, 19, 20, 21, 22, 23, 24, 25, 26, 27, 28, 29, 0] (by decide) rfl
    exact go H locs _ _ ls (lv_sub hl [1, 2, 3, 4, 5] rfl) ⟨kA, wA, kB, wB, kC, wC, kD, wD, kn, sr, cu, isr, gA2_273, gB, gC, gD, tb, cd, vl, nc, w, n, wd, cnt, chg, fc, nv, fv, so, bs, la, ca, ha, mb, dp, rt, opn, fb, fl, fch, fh, m1, m2, m3, m4, m5, m6, m7, m8, m9, ma, mq, mso, mct, mfr, mcu, mth2_323, p1b_323, p2b_323, p5, p3, p4, p6, p7, p8, p9, pa, pb, KW2, fo, hP9, hD9, hI, hR2, by omega, by omega, by omega⟩ hS
  · have g332 := ic_ne.mp g332
    exact absurd (by rw [e327, hth]) g332
set_option maxRecDepth 100000 in
set_option maxHeartbeats 4000000 in
theorem lo_2 {p : Program} {l : Launch} {e : Env} {s : State} {m : MethodId} {below : List Frame} {meth : Method} {c : Code} {Q : State → Prop} {b L : Nat} {xs : Nat → Int32} {D : va_G} {cL cI : ClassId} {A : Nat → Prop} (C : LC p l s m c b L xs D cL cI A) {i : Int32} {j : Nat} (hj : j < 512) (hi : i.toInt = 1 + 6 * (j : Int)) (hiL : i.toInt + 6 ≤ (L : Int)) {xo mo oa : Nat} {H : Heap} {locs : List Loc} {cells slots : Nat} {ls : Array Slot} (hl : lv_has ls 8 [(0, .ref b), (1, .ref xo), (2, .ref mo), (3, .ref oa), (4, .int i)]) (hLI : LI D cL cI A xo mo oa H cells slots j) (hS : va_S A s.heap H locs) (go : ∀ (H : Heap) (locs : List Loc) (cells slots : Nat) (ls : Array Slot), lv_has ls 8 [(0, .ref b), (1, .ref xo), (2, .ref mo), (3, .ref oa), (4, .int i)] → LI D cL cI A xo mo oa H cells slots (j + 1) → va_S A s.heap H locs → W p l e room_1 s m #[Value.ref b] below meth c H locs cells slots Q (F0 m 1245 ls [])) : W p l e room_1 s m #[Value.ref b] below meth c H locs cells slots Q (F0 m 340 ls []) := by
  obtain ⟨hx, hb, hml, hown, hts, hX, hbl, hbA, htr, hxe, hze, hK, hA, hAn, hL3⟩ := C
  obtain ⟨kA, wA, kB, wB, kC, wC, kD, wD, kn, sr, cu, isr, gA, gB, gC, gD, tb, cd, vl, nc, w, n, wd, cnt, chg, fc, nv, fv, so, bs, la, ca, ha, mb, dp, rt, opn, fb, fl, fch, fh, m1, m2, m3, m4, m5, m6, m7, m8, m9, ma, mq, mso, mct, mfr, mcu, mth, p1, p2, p5, p3, p4, p6, p7, p8, p9, pa, pb, KW, fo, hP, hD, hI, hR, hnj, hcz, hsz⟩ := hLI
  obtain ⟨hw, hw7, hcnt, hnc, hnv, hn, hkn, hmb, hs, hopn, hchg, hsh, hsr, hcu⟩ := id hI
  obtain ⟨r1, r2, hct, hfr, hmi, hkr, r7, r8, r9, r10, r11⟩ := id hR
  have hor := hmi.1
  have hos := rl_srt hR hs
  have hws : (mso.toInt = 0 ∧ w = 1) ∨ (mso.toInt = 1 ∧ w = 2) ∨ (mso.toInt = 2 ∧ w = 7) := by rw [r1]; rcases hsr with h | h | h
        · exact Or.inl ⟨h.1, h.2.1⟩
        · exact Or.inr (Or.inl ⟨h.1, h.2.1⟩)
        · exact Or.inr (Or.inr ⟨h.1, h.2.1⟩)
  obtain ⟨hcB, hsB⟩ := lb_num hw7 hnv hj hcz hsz
  refine lv_aload_n hx hb d_La_law_340 rfl (lv_at hl 1 rfl) ?_
  refine lv_aload_n hx hb d_La_law_341 rfl (lv_at hl 0 rfl) ?_
  refine lv_iload hx hb d_La_law_342 (lv_at hl 4 rfl) ?_
  refine lv_iconst (v := 1) hx hb d_La_law_344 (by decide) ?_
  refine lv_topi (fun v344 e344 => ?_)
  have t344 : v344.toInt = 1 := by rw [e344]; rfl
  refine lv_iadd hx hb d_La_law_345 ?_
  refine lv_topi (fun v345 e345 => ?_)
  have t345 := ia_add e345 ⟨by omega, by omega⟩
  refine va_sld hx hb hX hbl hbA hS (ia_in ⟨by omega, by omega⟩) d_La_law_346 ?_
  refine lv_topi (fun v346 e346 => ?_)
  refine lv_aload_n hx hb d_La_law_347 rfl (lv_at hl 3 rfl) ?_
  have hPc := hP.sub (ws' := [(xo, .inr (3, [.int sr, .ref kA, .ref kB, .ref kC, .ref kD, .ref tb, .ref so, .int cu])), (kA, .inr (0, [.int isr, .ref wA])), (wA, .inl (cL, kn, .inr (.inl gA))), (kB, .inr (0, [.int isr, .ref wB])), (wB, .inl (cL, kn, .inr (.inl gB))), (kC, .inr (0, [.int isr, .ref wC])), (wC, .inl (cL, kn, .inr (.inl gC))), (kD, .inr (0, [.int isr, .ref wD])), (wD, .inl (cL, kn, .inr (.inl gD))), (tb, .inr (2, [.int wd, .ref cd, .ref vl, .int cnt, .int chg])), (cd, .inl (cL, nc, .inr (.inl fc))), (vl, .inl (cL, nv, .inr (.inl fv))), (so, .inr (1, [.ref bs, .int dp, .int rt, .ref la, .ref ca, .ref ha, .int opn])), (bs, .inl (cI, 4, .inl fb)), (la, .inl (cI, mb, .inl fl)), (ca, .inl (cI, mb, .inl fch)), (ha, .inl (cI, mb, .inl fh)), (oa, .inl (cL, 1, .inr (.inl fo)))]) [0, 1, 2, 3, 4, 5, 6, 7, 8, 9, 10, 11, 12, 13, 14, 15, 16, 29] rfl
  have hDc := hD.sub (ws' := [(xo, .inr (3, [.int sr, .ref kA, .ref kB, .ref kC, .ref kD, .ref tb, .ref so, .int cu])), (kA, .inr (0, [.int isr, .ref wA])), (wA, .inl (cL, kn, .inr (.inl gA))), (kB, .inr (0, [.int isr, .ref wB])), (wB, .inl (cL, kn, .inr (.inl gB))), (kC, .inr (0, [.int isr, .ref wC])), (wC, .inl (cL, kn, .inr (.inl gC))), (kD, .inr (0, [.int isr, .ref wD])), (wD, .inl (cL, kn, .inr (.inl gD))), (tb, .inr (2, [.int wd, .ref cd, .ref vl, .int cnt, .int chg])), (cd, .inl (cL, nc, .inr (.inl fc))), (vl, .inl (cL, nv, .inr (.inl fv))), (so, .inr (1, [.ref bs, .int dp, .int rt, .ref la, .ref ca, .ref ha, .int opn])), (bs, .inl (cI, 4, .inl fb)), (la, .inl (cI, mb, .inl fl)), (ca, .inl (cI, mb, .inl fch)), (ha, .inl (cI, mb, .inl fh)), (oa, .inl (cL, 1, .inr (.inl fo)))]) [0, 1, 2, 3, 4, 5, 6, 7, 8, 9, 10, 11, 12, 13, 14, 15, 16, 29] (by decide) rfl
  have hFc := va_free (wc := [(xo, .inr (3, [.int sr, .ref kA, .ref kB, .ref kC, .ref kD, .ref tb, .ref so, .int cu])), (kA, .inr (0, [.int isr, .ref wA])), (wA, .inl (cL, kn, .inr (.inl gA))), (kB, .inr (0, [.int isr, .ref wB])), (wB, .inl (cL, kn, .inr (.inl gB))), (kC, .inr (0, [.int isr, .ref wC])), (wC, .inl (cL, kn, .inr (.inl gC))), (kD, .inr (0, [.int isr, .ref wD])), (wD, .inl (cL, kn, .inr (.inl gD))), (tb, .inr (2, [.int wd, .ref cd, .ref vl, .int cnt, .int chg])), (cd, .inl (cL, nc, .inr (.inl fc))), (vl, .inl (cL, nv, .inr (.inl fv))), (so, .inr (1, [.ref bs, .int dp, .int rt, .ref la, .ref ca, .ref ha, .int opn])), (bs, .inl (cI, 4, .inl fb)), (la, .inl (cI, mb, .inl fl)), (ca, .inl (cI, mb, .inl fch)), (ha, .inl (cI, mb, .inl fh)), (oa, .inl (cL, 1, .inr (.inl fo)))]) hD hS hA [0, 1, 2, 3, 4, 5, 6, 7, 8, 9, 10, 11, 12, 13, 14, 15, 16, 29] rfl
  refine va_calli (xr_msw (As := [.ref xo, .int v346, .ref oa]) (rest := []) ⟨hx, hb, hml, hown, hts⟩ (c_La_letter l D cL cI htr xo kA wA kB wB kC wC kD wD kn sr cu isr gA gB gC gD tb cd vl nc w n wd cnt chg fc nv fv so bs la ca ha mb dp rt opn fb fl fch fh v346 ((mk_let p3 p4 1500)) oa fo H.size (hw) (hw7) (hcnt) (hnc) (hnv) (hn) (hkn) (hmb) (hs) (hopn) (hchg) (hsh) (hsr) (hcu) (rl_let hI hR (by omega) r7)) tw_359 tw_357 tw_358 tw_0 rfl rfl (by decide) (⟨Nat.le_of_ble_eq_true rfl, Nat.le_of_ble_eq_true rfl⟩) hK hPc (hDc.weaken (fun _ _ _ _ => trivial)) (lx_go hxe hS hAn) rfl hl.1 rfl (Nat.le_of_ble_eq_true rfl) d_La_law_348 ⟨show cells + 1 ≤ 601024 from by omega, show slots + 6 ≤ 7293000 from by omega⟩) hS (fun q _ h => hFc q h) hFc (fun v348 u348 tt348 H1 locs ht348 hvm348 e348 hB348 hz348 hk348 hS => ?_)
  obtain ⟨gA2_348, fo2_348⟩ := u348
  have e348 : (v348 = 0 ∧ (sr.toInt = 2 ∧ 0 ≤ v346.toInt ∧ v346.toInt ≤ 255 ∧ ((mk_let p3 p4 1500)).length < 24) ∧ (∃ vr : Int32, (vr.toInt = (((mk_let p3 p4 1500)).length : Int) + 1 ∧ ∀ d, d < 56 → by_w gA2_348 d = rw_b (((mk_let p3 p4 1500)) ++ [v346.toInt.toNat]) d) ∧ fo2_348 0 = vr.toInt64)) ∨ (v348 = 1 ∧ (sr.toInt ≠ 2) ∧ gA2_348 = gA ∧ fo2_348 = fo) ∨ (v348 = 2 ∧ (sr.toInt = 2 ∧ (v346.toInt < 0 ∨ 255 < v346.toInt)) ∧ gA2_348 = gA ∧ fo2_348 = fo) ∨ (v348 = 3 ∧ (sr.toInt = 2 ∧ 0 ≤ v346.toInt ∧ v346.toInt ≤ 255 ∧ ((mk_let p3 p4 1500)).length = 24) ∧ gA2_348 = gA ∧ fo2_348 = fo) := e348
  obtain ⟨hP1, hK1, hD1⟩ := hB348
  rw [ht348] at hP1
  obtain ⟨hP, hD⟩ := va_join (wr := [(mo, .inr (4, [.int mso, .ref m1, .ref m2, .ref m3, .ref m4, .ref m5, .ref m6, .int mct, .ref m7, .int mfr, .int mcu, .int mth, .ref m8, .ref m9, .ref ma, .ref mq])), (m1, .inl (cL, 1503, .inr (.inl p1))), (m2, .inl (cL, 1503, .inr (.inl p2))), (m3, .inl (cI, 36072, .inl p3)), (m4, .inl (cI, 1503, .inl p4)), (m5, .inl (cL, 1500, .inr (.inl p5))), (m6, .inl (cI, 1500, .inl p6)), (m7, .inl (cI, 1500, .inl p7)), (m8, .inl (cI, 50, .inl p8)), (m9, .inl (cI, 50, .inl p9)), (ma, .inl (cI, 1500, .inl pa)), (mq, .inl (cI, 50, .inl pb))]) (w1 := [(xo, .inr (3, [.int sr, .ref kA, .ref kB, .ref kC, .ref kD, .ref tb, .ref so, .int cu])), (kA, .inr (0, [.int isr, .ref wA])), (wA, .inl (cL, kn, .inr (.inl gA2_348))), (kB, .inr (0, [.int isr, .ref wB])), (wB, .inl (cL, kn, .inr (.inl gB))), (kC, .inr (0, [.int isr, .ref wC])), (wC, .inl (cL, kn, .inr (.inl gC))), (kD, .inr (0, [.int isr, .ref wD])), (wD, .inl (cL, kn, .inr (.inl gD))), (tb, .inr (2, [.int wd, .ref cd, .ref vl, .int cnt, .int chg])), (cd, .inl (cL, nc, .inr (.inl fc))), (vl, .inl (cL, nv, .inr (.inl fv))), (so, .inr (1, [.ref bs, .int dp, .int rt, .ref la, .ref ca, .ref ha, .int opn])), (bs, .inl (cI, 4, .inl fb)), (la, .inl (cI, mb, .inl fl)), (ca, .inl (cI, mb, .inl fch)), (ha, .inl (cI, mb, .inl fh)), (oa, .inl (cL, 1, .inr (.inl fo2_348)))]) hP hD [0, 1, 2, 3, 4, 5, 6, 7, 8, 9, 10, 11, 12, 13, 14, 15, 16, 29] [17, 18, 19, 20, 21, 22, 23, 24, 25, 26, 27, 28] rfl rfl (by decide) (by decide) hk348 hFc hP1 hD1
  clear hP1 hD1 hPc hDc hFc
  generalize H1 = H at hP hS ⊢
  have hP : va_P D classes [(mo, .inr (4, [.int mso, .ref m1, .ref m2, .ref m3, .ref m4, .ref m5, .ref m6, .int mct, .ref m7, .int mfr, .int mcu, .int mth, .ref m8, .ref m9, .ref ma, .ref mq])), (m1, .inl (cL, 1503, .inr (.inl p1))), (m2, .inl (cL, 1503, .inr (.inl p2))), (m3, .inl (cI, 36072, .inl p3)), (m4, .inl (cI, 1503, .inl p4)), (m5, .inl (cL, 1500, .inr (.inl p5))), (m6, .inl (cI, 1500, .inl p6)), (m7, .inl (cI, 1500, .inl p7)), (m8, .inl (cI, 50, .inl p8)), (m9, .inl (cI, 50, .inl p9)), (ma, .inl (cI, 1500, .inl pa)), (mq, .inl (cI, 50, .inl pb)), (xo, .inr (3, [.int sr, .ref kA, .ref kB, .ref kC, .ref kD, .ref tb, .ref so, .int cu])), (kA, .inr (0, [.int isr, .ref wA])), (wA, .inl (cL, kn, .inr (.inl gA2_348))), (kB, .inr (0, [.int isr, .ref wB])), (wB, .inl (cL, kn, .inr (.inl gB))), (kC, .inr (0, [.int isr, .ref wC])), (wC, .inl (cL, kn, .inr (.inl gC))), (kD, .inr (0, [.int isr, .ref wD])), (wD, .inl (cL, kn, .inr (.inl gD))), (tb, .inr (2, [.int wd, .ref cd, .ref vl, .int cnt, .int chg])), (cd, .inl (cL, nc, .inr (.inl fc))), (vl, .inl (cL, nv, .inr (.inl fv))), (so, .inr (1, [.ref bs, .int dp, .int rt, .ref la, .ref ca, .ref ha, .int opn])), (bs, .inl (cI, 4, .inl fb)), (la, .inl (cI, mb, .inl fl)), (ca, .inl (cI, mb, .inl fch)), (ha, .inl (cI, mb, .inl fh)), (oa, .inl (cL, 1, .inr (.inl fo2_348)))] H := hP
  have hD : va_D A [(mo, .inr (4, [.int mso, .ref m1, .ref m2, .ref m3, .ref m4, .ref m5, .ref m6, .int mct, .ref m7, .int mfr, .int mcu, .int mth, .ref m8, .ref m9, .ref ma, .ref mq])), (m1, .inl (cL, 1503, .inr (.inl p1))), (m2, .inl (cL, 1503, .inr (.inl p2))), (m3, .inl (cI, 36072, .inl p3)), (m4, .inl (cI, 1503, .inl p4)), (m5, .inl (cL, 1500, .inr (.inl p5))), (m6, .inl (cI, 1500, .inl p6)), (m7, .inl (cI, 1500, .inl p7)), (m8, .inl (cI, 50, .inl p8)), (m9, .inl (cI, 50, .inl p9)), (ma, .inl (cI, 1500, .inl pa)), (mq, .inl (cI, 50, .inl pb)), (xo, .inr (3, [.int sr, .ref kA, .ref kB, .ref kC, .ref kD, .ref tb, .ref so, .int cu])), (kA, .inr (0, [.int isr, .ref wA])), (wA, .inl (cL, kn, .inr (.inl gA2_348))), (kB, .inr (0, [.int isr, .ref wB])), (wB, .inl (cL, kn, .inr (.inl gB))), (kC, .inr (0, [.int isr, .ref wC])), (wC, .inl (cL, kn, .inr (.inl gC))), (kD, .inr (0, [.int isr, .ref wD])), (wD, .inl (cL, kn, .inr (.inl gD))), (tb, .inr (2, [.int wd, .ref cd, .ref vl, .int cnt, .int chg])), (cd, .inl (cL, nc, .inr (.inl fc))), (vl, .inl (cL, nv, .inr (.inl fv))), (so, .inr (1, [.ref bs, .int dp, .int rt, .ref la, .ref ca, .ref ha, .int opn])), (bs, .inl (cI, 4, .inl fb)), (la, .inl (cI, mb, .inl fl)), (ca, .inl (cI, mb, .inl fch)), (ha, .inl (cI, mb, .inl fh)), (oa, .inl (cL, 1, .inr (.inl fo2_348)))] := hD
  refine lv_istore (lv' := [(5, .int v348), (0, .ref b), (1, .ref xo), (2, .ref mo), (3, .ref oa), (4, .int i)]) hx hb d_La_law_351 hl (by decide) rfl (fun ls hl => ?_)
  refine lv_aload_n hx hb d_La_law_353 rfl (lv_at hl 3 rfl) ?_
  refine lv_aload_n hx hb d_La_law_354 rfl (lv_at hl 1 rfl) ?_
  refine lv_iload hx hb d_La_law_355 (lv_at hl 5 rfl) ?_
  refine lv_iconst (v := 1) hx hb d_La_law_357 (by decide) ?_
  refine lv_topi (fun v357 e357 => ?_)
  have t357 : v357.toInt = 1 := by rw [e357]; rfl
  refine lv_iadd hx hb d_La_law_358 ?_
  refine lv_topi (fun v358 e358 => ?_)
  have t358 := ia_add e358 ⟨by omega, by omega⟩
  refine va_sld hx hb hX hbl hbA hS (ia_in ⟨by omega, by omega⟩) d_La_law_359 ?_
  refine lv_topi (fun v359 e359 => ?_)
  obtain rfl : v346 = v359 := by simp only [e344, e345, e346, e357, e358, e359]
  have hPc := hP.sub (ws' := [(mo, .inr (4, [.int mso, .ref m1, .ref m2, .ref m3, .ref m4, .ref m5, .ref m6, .int mct, .ref m7, .int mfr, .int mcu, .int mth, .ref m8, .ref m9, .ref ma, .ref mq])), (m1, .inl (cL, 1503, .inr (.inl p1))), (m2, .inl (cL, 1503, .inr (.inl p2))), (m3, .inl (cI, 36072, .inl p3)), (m4, .inl (cI, 1503, .inl p4)), (m5, .inl (cL, 1500, .inr (.inl p5))), (m6, .inl (cI, 1500, .inl p6)), (m7, .inl (cI, 1500, .inl p7)), (m8, .inl (cI, 50, .inl p8)), (m9, .inl (cI, 50, .inl p9)), (ma, .inl (cI, 1500, .inl pa)), (mq, .inl (cI, 50, .inl pb))]) [0, 1, 2, 3, 4, 5, 6, 7, 8, 9, 10, 11] rfl
  have hDc := hD.sub (ws' := [(mo, .inr (4, [.int mso, .ref m1, .ref m2, .ref m3, .ref m4, .ref m5, .ref m6, .int mct, .ref m7, .int mfr, .int mcu, .int mth, .ref m8, .ref m9, .ref ma, .ref mq])), (m1, .inl (cL, 1503, .inr (.inl p1))), (m2, .inl (cL, 1503, .inr (.inl p2))), (m3, .inl (cI, 36072, .inl p3)), (m4, .inl (cI, 1503, .inl p4)), (m5, .inl (cL, 1500, .inr (.inl p5))), (m6, .inl (cI, 1500, .inl p6)), (m7, .inl (cI, 1500, .inl p7)), (m8, .inl (cI, 50, .inl p8)), (m9, .inl (cI, 50, .inl p9)), (ma, .inl (cI, 1500, .inl pa)), (mq, .inl (cI, 50, .inl pb))]) [0, 1, 2, 3, 4, 5, 6, 7, 8, 9, 10, 11] (by decide) rfl
  have hFc := va_free (wc := [(mo, .inr (4, [.int mso, .ref m1, .ref m2, .ref m3, .ref m4, .ref m5, .ref m6, .int mct, .ref m7, .int mfr, .int mcu, .int mth, .ref m8, .ref m9, .ref ma, .ref mq])), (m1, .inl (cL, 1503, .inr (.inl p1))), (m2, .inl (cL, 1503, .inr (.inl p2))), (m3, .inl (cI, 36072, .inl p3)), (m4, .inl (cI, 1503, .inl p4)), (m5, .inl (cL, 1500, .inr (.inl p5))), (m6, .inl (cI, 1500, .inl p6)), (m7, .inl (cI, 1500, .inl p7)), (m8, .inl (cI, 50, .inl p8)), (m9, .inl (cI, 50, .inl p9)), (ma, .inl (cI, 1500, .inl pa)), (mq, .inl (cI, 50, .inl pb))]) hD hS hA [0, 1, 2, 3, 4, 5, 6, 7, 8, 9, 10, 11] rfl
  refine va_calli (xr_mv (As := [.int v346]) (rest := []) ⟨hx, hb, hml, hown, hts⟩ (c_Mo_letter l D cL cI mo m1 m2 m3 m4 m5 m6 m7 m8 m9 ma mq mso mct mfr mcu mth p1 p2 p5 p3 p4 p6 p7 p8 p9 pa pb w KW v346 H.size (hws) (hkr)) (xr_cv 1 hts tw_671 tw_668 tw_669 tw_670 tw_7 rfl rfl (by decide) ⟨Nat.le_of_ble_eq_true rfl, Nat.le_of_ble_eq_true rfl⟩) hK hPc (hDc.weaken (fun _ _ _ _ => trivial)) (va_recv hK hP rfl (q0 := 0) (ci := 4) rfl) rfl hl.1 rfl (Nat.le_of_ble_eq_true rfl) d_La_law_360 ⟨show (cells + 1) + 0 ≤ 601024 from by omega, show (slots + 6) + 0 ≤ 7293000 from by omega⟩) hS (fun q _ h => hFc q h) hFc (fun v360 u360 tt360 H1 locs ht360 hvm360 e360 hB360 hz360 hk360 hS => ?_)
  obtain ⟨mth2_360, p3b_360, p4b_360⟩ := u360
  have e360 : (mso.toInt ≠ 2 ∧ mth2_360.toInt = 1 ∧ p3b_360 = p3 ∧ p4b_360 = p4) ∨ (mso.toInt = 2 ∧ ¬ (0 ≤ v346.toInt ∧ v346.toInt ≤ 255) ∧ mth2_360.toInt = 2 ∧ p3b_360 = p3 ∧ p4b_360 = p4) ∨ (mso.toInt = 2 ∧ (0 ≤ v346.toInt ∧ v346.toInt ≤ 255) ∧ (p4 1500).toInt = 24 ∧ mth2_360.toInt = 3 ∧ p3b_360 = p3 ∧ p4b_360 = p4) ∨ (mso.toInt = 2 ∧ (0 ≤ v346.toInt ∧ v346.toInt ≤ 255) ∧ (p4 1500).toInt < 24 ∧ mth2_360.toInt = 0 ∧ v360.toInt = (p4 1500).toInt + 1 ∧ (∀ j, p3b_360 j = if j = 36000 + (p4 1500).toInt.toNat then v346 else p3 j) ∧ (p4b_360 1500).toInt = (p4 1500).toInt + 1 ∧ ∀ j, ¬ j = 1500 → p4b_360 j = p4 j) := e360
  obtain ⟨hP1, hK1, hD1⟩ := hB360
  rw [ht360] at hP1
  obtain ⟨hP, hD⟩ := va_join (wr := [(xo, .inr (3, [.int sr, .ref kA, .ref kB, .ref kC, .ref kD, .ref tb, .ref so, .int cu])), (kA, .inr (0, [.int isr, .ref wA])), (wA, .inl (cL, kn, .inr (.inl gA2_348))), (kB, .inr (0, [.int isr, .ref wB])), (wB, .inl (cL, kn, .inr (.inl gB))), (kC, .inr (0, [.int isr, .ref wC])), (wC, .inl (cL, kn, .inr (.inl gC))), (kD, .inr (0, [.int isr, .ref wD])), (wD, .inl (cL, kn, .inr (.inl gD))), (tb, .inr (2, [.int wd, .ref cd, .ref vl, .int cnt, .int chg])), (cd, .inl (cL, nc, .inr (.inl fc))), (vl, .inl (cL, nv, .inr (.inl fv))), (so, .inr (1, [.ref bs, .int dp, .int rt, .ref la, .ref ca, .ref ha, .int opn])), (bs, .inl (cI, 4, .inl fb)), (la, .inl (cI, mb, .inl fl)), (ca, .inl (cI, mb, .inl fch)), (ha, .inl (cI, mb, .inl fh)), (oa, .inl (cL, 1, .inr (.inl fo2_348)))]) (w1 := [(mo, .inr (4, [.int mso, .ref m1, .ref m2, .ref m3, .ref m4, .ref m5, .ref m6, .int mct, .ref m7, .int mfr, .int mcu, .int mth2_360, .ref m8, .ref m9, .ref ma, .ref mq])), (m1, .inl (cL, 1503, .inr (.inl p1))), (m2, .inl (cL, 1503, .inr (.inl p2))), (m3, .inl (cI, 36072, .inl p3b_360)), (m4, .inl (cI, 1503, .inl p4b_360)), (m5, .inl (cL, 1500, .inr (.inl p5))), (m6, .inl (cI, 1500, .inl p6)), (m7, .inl (cI, 1500, .inl p7)), (m8, .inl (cI, 50, .inl p8)), (m9, .inl (cI, 50, .inl p9)), (ma, .inl (cI, 1500, .inl pa)), (mq, .inl (cI, 50, .inl pb))]) hP hD [0, 1, 2, 3, 4, 5, 6, 7, 8, 9, 10, 11] [12, 13, 14, 15, 16, 17, 18, 19, 20, 21, 22, 23, 24, 25, 26, 27, 28, 29] rfl rfl (by decide) (by decide) hk360 hFc hP1 hD1
  clear hP1 hD1 hPc hDc hFc
  generalize H1 = H at hP hS ⊢
  have hP : va_P D classes [(xo, .inr (3, [.int sr, .ref kA, .ref kB, .ref kC, .ref kD, .ref tb, .ref so, .int cu])), (kA, .inr (0, [.int isr, .ref wA])), (wA, .inl (cL, kn, .inr (.inl gA2_348))), (kB, .inr (0, [.int isr, .ref wB])), (wB, .inl (cL, kn, .inr (.inl gB))), (kC, .inr (0, [.int isr, .ref wC])), (wC, .inl (cL, kn, .inr (.inl gC))), (kD, .inr (0, [.int isr, .ref wD])), (wD, .inl (cL, kn, .inr (.inl gD))), (tb, .inr (2, [.int wd, .ref cd, .ref vl, .int cnt, .int chg])), (cd, .inl (cL, nc, .inr (.inl fc))), (vl, .inl (cL, nv, .inr (.inl fv))), (so, .inr (1, [.ref bs, .int dp, .int rt, .ref la, .ref ca, .ref ha, .int opn])), (bs, .inl (cI, 4, .inl fb)), (la, .inl (cI, mb, .inl fl)), (ca, .inl (cI, mb, .inl fch)), (ha, .inl (cI, mb, .inl fh)), (oa, .inl (cL, 1, .inr (.inl fo2_348))), (mo, .inr (4, [.int mso, .ref m1, .ref m2, .ref m3, .ref m4, .ref m5, .ref m6, .int mct, .ref m7, .int mfr, .int mcu, .int mth2_360, .ref m8, .ref m9, .ref ma, .ref mq])), (m1, .inl (cL, 1503, .inr (.inl p1))), (m2, .inl (cL, 1503, .inr (.inl p2))), (m3, .inl (cI, 36072, .inl p3b_360)), (m4, .inl (cI, 1503, .inl p4b_360)), (m5, .inl (cL, 1500, .inr (.inl p5))), (m6, .inl (cI, 1500, .inl p6)), (m7, .inl (cI, 1500, .inl p7)), (m8, .inl (cI, 50, .inl p8)), (m9, .inl (cI, 50, .inl p9)), (ma, .inl (cI, 1500, .inl pa)), (mq, .inl (cI, 50, .inl pb))] H := hP
  have hD : va_D A [(xo, .inr (3, [.int sr, .ref kA, .ref kB, .ref kC, .ref kD, .ref tb, .ref so, .int cu])), (kA, .inr (0, [.int isr, .ref wA])), (wA, .inl (cL, kn, .inr (.inl gA2_348))), (kB, .inr (0, [.int isr, .ref wB])), (wB, .inl (cL, kn, .inr (.inl gB))), (kC, .inr (0, [.int isr, .ref wC])), (wC, .inl (cL, kn, .inr (.inl gC))), (kD, .inr (0, [.int isr, .ref wD])), (wD, .inl (cL, kn, .inr (.inl gD))), (tb, .inr (2, [.int wd, .ref cd, .ref vl, .int cnt, .int chg])), (cd, .inl (cL, nc, .inr (.inl fc))), (vl, .inl (cL, nv, .inr (.inl fv))), (so, .inr (1, [.ref bs, .int dp, .int rt, .ref la, .ref ca, .ref ha, .int opn])), (bs, .inl (cI, 4, .inl fb)), (la, .inl (cI, mb, .inl fl)), (ca, .inl (cI, mb, .inl fch)), (ha, .inl (cI, mb, .inl fh)), (oa, .inl (cL, 1, .inr (.inl fo2_348))), (mo, .inr (4, [.int mso, .ref m1, .ref m2, .ref m3, .ref m4, .ref m5, .ref m6, .int mct, .ref m7, .int mfr, .int mcu, .int mth2_360, .ref m8, .ref m9, .ref ma, .ref mq])), (m1, .inl (cL, 1503, .inr (.inl p1))), (m2, .inl (cL, 1503, .inr (.inl p2))), (m3, .inl (cI, 36072, .inl p3b_360)), (m4, .inl (cI, 1503, .inl p4b_360)), (m5, .inl (cL, 1500, .inr (.inl p5))), (m6, .inl (cI, 1500, .inl p6)), (m7, .inl (cI, 1500, .inl p7)), (m8, .inl (cI, 50, .inl p8)), (m9, .inl (cI, 50, .inl p9)), (ma, .inl (cI, 1500, .inl pa)), (mq, .inl (cI, 50, .inl pb))] := hD
  refine lv_istore (lv' := [(6, .int v360), (5, .int v348), (0, .ref b), (1, .ref xo), (2, .ref mo), (3, .ref oa), (4, .int i)]) hx hb d_La_law_363 hl (by decide) rfl (fun ls hl => ?_)
  refine lv_aload_n hx hb d_La_law_365 rfl (lv_at hl 4 rfl) ?_
  obtain ⟨hth, hout, KW2, hR2⟩ := sm_letter hI hR e348 e360
  refine vp_callSi (xr_rv (As := []) (rest := []) ⟨hx, hb, hml, hown, hts⟩ (c_Mo_thrown l D cL cI mo m1 m2 m3 m4 m5 m6 m7 m8 m9 ma mq mso mct mfr mcu mth2_360 p1 p2 p5 p3b_360 p4b_360 p6 p7 p8 p9 pa pb ) (xr_cv 0 hts tw_655 tw_652 tw_653 tw_654 tw_7 rfl rfl (by decide) ⟨Nat.le_of_ble_eq_true rfl, Nat.le_of_ble_eq_true rfl⟩) hK (hP.sub (ws' := [(mo, .inr (4, [.int mso, .ref m1, .ref m2, .ref m3, .ref m4, .ref m5, .ref m6, .int mct, .ref m7, .int mfr, .int mcu, .int mth2_360, .ref m8, .ref m9, .ref ma, .ref mq])), (m1, .inl (cL, 1503, .inr (.inl p1))), (m2, .inl (cL, 1503, .inr (.inl p2))), (m3, .inl (cI, 36072, .inl p3b_360)), (m4, .inl (cI, 1503, .inl p4b_360)), (m5, .inl (cL, 1500, .inr (.inl p5))), (m6, .inl (cI, 1500, .inl p6)), (m7, .inl (cI, 1500, .inl p7)), (m8, .inl (cI, 50, .inl p8)), (m9, .inl (cI, 50, .inl p9)), (ma, .inl (cI, 1500, .inl pa)), (mq, .inl (cI, 50, .inl pb))]) [18, 19, 20, 21, 22, 23, 24, 25, 26, 27, 28, 29] rfl) (va_recv hK hP rfl (q0 := 18) (ci := 4) rfl) rfl hl.1 rfl (Nat.le_of_ble_eq_true rfl) d_La_law_366 ⟨show (cells + 1) ≤ 601024 from by omega, show (slots + 6) ≤ 7293000 from by omega⟩) (fun v366 e366 => ?_)
  have e366 : v366 = mth2_360 := e366
  refine lv_iload hx hb d_La_law_369 (lv_at hl 1 rfl) ?_
  refine lv_icmp_eq hx hb d_La_law_371 (tgt := 376) (by decide) (fun g371 => ?_) (fun g371 => ?_)
  · have g371 := ic_eq.mp g371
    refine lv_iload hx hb d_La_law_376 (lv_at hl 1 rfl) ?_
    refine lv_if_ne hx hb d_La_law_378 (tgt := 393) (by decide) (fun g378 => ?_) (fun g378 => ?_)
    · have g378 := (iz_ne).mp g378
      refine lv_goto hx hb d_La_law_393 (tgt := 1245) (by decide) ?_
      have hP9 := hP.sub (ws' := [(xo, .inr (3, [.int sr, .ref kA, .ref kB, .ref kC, .ref kD, .ref tb, .ref so, .int cu])), (kA, .inr (0, [.int isr, .ref wA])), (wA, .inl (cL, kn, .inr (.inl gA2_348))), (kB, .inr (0, [.int isr, .ref wB])), (wB, .inl (cL, kn, .inr (.inl gB))), (kC, .inr (0, [.int isr, .ref wC])), (wC, .inl (cL, kn, .inr (.inl gC))), (kD, .inr (0, [.int isr, .ref wD])), (wD, .inl (cL, kn, .inr (.inl gD))), (tb, .inr (2, [.int wd, .ref cd, .ref vl, .int cnt, .int chg])), (cd, .inl (cL, nc, .inr (.inl fc))), (vl, .inl (cL, nv, .inr (.inl fv))), (so, .inr (1, [.ref bs, .int dp, .int rt, .ref la, .ref ca, .ref ha, .int opn])), (bs, .inl (cI, 4, .inl fb)), (la, .inl (cI, mb, .inl fl)), (ca, .inl (cI, mb, .inl fch)), (ha, .inl (cI, mb, .inl fh)), (mo, .inr (4, [.int mso, .ref m1, .ref m2, .ref m3, .ref m4, .ref m5, .ref m6, .int mct, .ref m7, .int mfr, .int mcu, .int mth2_360, .ref m8, .ref m9, .ref ma, .ref mq])), (m1, .inl (cL, 1503, .inr (.inl p1))), (m2, .inl (cL, 1503, .inr (.inl p2))), (m3, .inl (cI, 36072, .inl p3b_360)), (m4, .inl (cI, 1503, .inl p4b_360)), (m5, .inl (cL, 1500, .inr (.inl p5))), (m6, .inl (cI, 1500, .inl p6)), (m7, .inl (cI, 1500, .inl p7)), (m8, .inl (cI, 50, .inl p8)), (m9, .inl (cI, 50, .inl p9)), (ma, .inl (cI, 1500, .inl pa)), (mq, .inl (cI, 50, .inl pb)), (oa, .inl (cL, 1, .inr (.inl fo2_348)))]) [0, 1, 2, 3, 4, 5, 6, 7, 8, 9, 10, 11, 12, 13, 14, 15, 16, 18, 19, 20, 21, 22, 23, 24, 25, 26, 27, 28, 29, 17] rfl
      have hD9 := hD.sub (ws' := [(xo, .inr (3, [.int sr, .ref kA, .ref kB, .ref kC, .ref kD, .ref tb, .ref so, .int cu])), (kA, .inr (0, [.int isr, .ref wA])), (wA, .inl (cL, kn, .inr (.inl gA2_348))), (kB, .inr (0, [.int isr, .ref wB])), (wB, .inl (cL, kn, .inr (.inl gB))), (kC, .inr (0, [.int isr, .ref wC])), (wC, .inl (cL, kn, .inr (.inl gC))), (kD, .inr (0, [.int isr, .ref wD])), (wD, .inl (cL, kn, .inr (.inl gD))), (tb, .inr (2, [.int wd, .ref cd, .ref vl, .int cnt, .int chg])), (cd, .inl (cL, nc, .inr (.inl fc))), (vl, .inl (cL, nv, .inr (.inl fv))), (so, .inr (1, [.ref bs, .int dp, .int rt, .ref la, .ref ca, .ref ha, .int opn])), (bs, .inl (cI, 4, .inl fb)), (la, .inl (cI, mb, .inl fl)), (ca, .inl (cI, mb, .inl fch)), (ha, .inl (cI, mb, .inl fh)), (mo, .inr (4, [.int mso, .ref m1, .ref m2, .ref m3, .ref m4, .ref m5, .ref m6, .int mct, .ref m7, .int mfr, .int mcu, .int mth2_360, .ref m8, .ref m9, .ref ma, .ref mq])), (m1, .inl (cL, 1503, .inr (.inl p1))), (m2, .inl (cL, 1503, .inr (.inl p2))), (m3, .inl (cI, 36072, .inl p3b_360)), (m4, .inl (cI, 1503, .inl p4b_360)), (m5, .inl (cL, 1500, .inr (.inl p5))), (m6, .inl (cI, 1500, .inl p6)), (m7, .inl (cI, 1500, .inl p7)), (m8, .inl (cI, 50, .inl p8)), (m9, .inl (cI, 50, .inl p9)), (ma, .inl (cI, 1500, .inl pa)), (mq, .inl (cI, 50, .inl pb)), (oa, .inl (cL, 1, .inr (.inl fo2_348)))]) [0, 1, 2, 3, 4, 5, 6, 7, 8, 9, 10, 11, 12, 13, 14, 15, 16, 18, 19, 20, 21, 22, 23, 24, 25, 26, 27, 28, 29, 17] (by decide) rfl
      exact go H locs _ _ ls (lv_sub hl [2, 3, 4, 5, 6] rfl) ⟨kA, wA, kB, wB, kC, wC, kD, wD, kn, sr, cu, isr, gA2_348, gB, gC, gD, tb, cd, vl, nc, w, n, wd, cnt, chg, fc, nv, fv, so, bs, la, ca, ha, mb, dp, rt, opn, fb, fl, fch, fh, m1, m2, m3, m4, m5, m6, m7, m8, m9, ma, mq, mso, mct, mfr, mcu, mth2_360, p1, p2, p5, p3b_360, p4b_360, p6, p7, p8, p9, pa, pb, KW2, fo2_348, hP9, hD9, hI, hR2, by omega, by omega, by omega⟩ hS
    · have g378 := (iz_eq).mp g378
      refine lv_aload_n hx hb d_La_law_381 rfl (lv_at hl 5 rfl) ?_
      refine lv_iconst (v := 0) hx hb d_La_law_382 (by decide) ?_
      refine lv_topi (fun v382 e382 => ?_)
      have t382 : v382.toInt = 0 := by rw [e382]; rfl
      refine va_lald hx hb hK hP 17 0 rfl rfl (ia_in ⟨by omega, by omega⟩) d_La_law_383 ?_
      refine lv_topl (fun v383 e383 => ?_)
      have e383 : v383 = fo2_348 v382.toInt.toNat := e383
      refine lv_iload hx hb d_La_law_384 (lv_at hl 0 rfl) ?_
      refine lv_i2l hx hb d_La_law_386 rfl ?_
      refine lv_topl (fun v386 e386 => ?_)
      refine W.lcmp hx hb d_La_law_387 ?_
      refine lv_topi (fun v387 e387 => ?_)
      refine lv_if_eq hx hb d_La_law_388 (tgt := 393) (by decide) (fun g388 => ?_) (fun g388 => ?_)
      · have g388 := (lc_eq e387).mp g388
        refine lv_goto hx hb d_La_law_393 (tgt := 1245) (by decide) ?_
        have hP9 := hP.sub (ws' := [(xo, .inr (3, [.int sr, .ref kA, .ref kB, .ref kC, .ref kD, .ref tb, .ref so, .int cu])), (kA, .inr (0, [.int isr, .ref wA])), (wA, .inl (cL, kn, .inr (.inl gA2_348))), (kB, .inr (0, [.int isr, .ref wB])), (wB, .inl (cL, kn, .inr (.inl gB))), (kC, .inr (0, [.int isr, .ref wC])), (wC, .inl (cL, kn, .inr (.inl gC))), (kD, .inr (0, [.int isr, .ref wD])), (wD, .inl (cL, kn, .inr (.inl gD))), (tb, .inr (2, [.int wd, .ref cd, .ref vl, .int cnt, .int chg])), (cd, .inl (cL, nc, .inr (.inl fc))), (vl, .inl (cL, nv, .inr (.inl fv))), (so, .inr (1, [.ref bs, .int dp, .int rt, .ref la, .ref ca, .ref ha, .int opn])), (bs, .inl (cI, 4, .inl fb)), (la, .inl (cI, mb, .inl fl)), (ca, .inl (cI, mb, .inl fch)), (ha, .inl (cI, mb, .inl fh)), (mo, .inr (4, [.int mso, .ref m1, .ref m2, .ref m3, .ref m4, .ref m5, .ref m6, .int mct, .ref m7, .int mfr, .int mcu, .int mth2_360, .ref m8, .ref m9, .ref ma, .ref mq])), (m1, .inl (cL, 1503, .inr (.inl p1))), (m2, .inl (cL, 1503, .inr (.inl p2))), (m3, .inl (cI, 36072, .inl p3b_360)), (m4, .inl (cI, 1503, .inl p4b_360)), (m5, .inl (cL, 1500, .inr (.inl p5))), (m6, .inl (cI, 1500, .inl p6)), (m7, .inl (cI, 1500, .inl p7)), (m8, .inl (cI, 50, .inl p8)), (m9, .inl (cI, 50, .inl p9)), (ma, .inl (cI, 1500, .inl pa)), (mq, .inl (cI, 50, .inl pb)), (oa, .inl (cL, 1, .inr (.inl fo2_348)))]) [0, 1, 2, 3, 4, 5, 6, 7, 8, 9, 10, 11, 12, 13, 14, 15, 16, 18, 19, 20, 21, 22, 23, 24, 25, 26, 27, 28, 29, 17] rfl
        have hD9 := hD.sub (ws' := [(xo, .inr (3, [.int sr, .ref kA, .ref kB, .ref kC, .ref kD, .ref tb, .ref so, .int cu])), (kA, .inr (0, [.int isr, .ref wA])), (wA, .inl (cL, kn, .inr (.inl gA2_348))), (kB, .inr (0, [.int isr, .ref wB])), (wB, .inl (cL, kn, .inr (.inl gB))), (kC, .inr (0, [.int isr, .ref wC])), (wC, .inl (cL, kn, .inr (.inl gC))), (kD, .inr (0, [.int isr, .ref wD])), (wD, .inl (cL, kn, .inr (.inl gD))), (tb, .inr (2, [.int wd, .ref cd, .ref vl, .int cnt, .int chg])), (cd, .inl (cL, nc, .inr (.inl fc))), (vl, .inl (cL, nv, .inr (.inl fv))), (so, .inr (1, [.ref bs, .int dp, .int rt, .ref la, .ref ca, .ref ha, .int opn])), (bs, .inl (cI, 4, .inl fb)), (la, .inl (cI, mb, .inl fl)), (ca, .inl (cI, mb, .inl fch)), (ha, .inl (cI, mb, .inl fh)), (mo, .inr (4, [.int mso, .ref m1, .ref m2, .ref m3, .ref m4, .ref m5, .ref m6, .int mct, .ref m7, .int mfr, .int mcu, .int mth2_360, .ref m8, .ref m9, .ref ma, .ref mq])), (m1, .inl (cL, 1503, .inr (.inl p1))), (m2, .inl (cL, 1503, .inr (.inl p2))), (m3, .inl (cI, 36072, .inl p3b_360)), (m4, .inl (cI, 1503, .inl p4b_360)), (m5, .inl (cL, 1500, .inr (.inl p5))), (m6, .inl (cI, 1500, .inl p6)), (m7, .inl (cI, 1500, .inl p7)), (m8, .inl (cI, 50, .inl p8)), (m9, .inl (cI, 50, .inl p9)), (ma, .inl (cI, 1500, .inl pa)), (mq, .inl (cI, 50, .inl pb)), (oa, .inl (cL, 1, .inr (.inl fo2_348)))]) [0, 1, 2, 3, 4, 5, 6, 7, 8, 9, 10, 11, 12, 13, 14, 15, 16, 18, 19, 20, 21, 22, 23, 24, 25, 26, 27, 28, 29, 17] (by decide) rfl
        exact go H locs _ _ ls (lv_sub hl [2, 3, 4, 5, 6] rfl) ⟨kA, wA, kB, wB, kC, wC, kD, wD, kn, sr, cu, isr, gA2_348, gB, gC, gD, tb, cd, vl, nc, w, n, wd, cnt, chg, fc, nv, fv, so, bs, la, ca, ha, mb, dp, rt, opn, fb, fl, fch, fh, m1, m2, m3, m4, m5, m6, m7, m8, m9, ma, mq, mso, mct, mfr, mcu, mth2_360, p1, p2, p5, p3b_360, p4b_360, p6, p7, p8, p9, pa, pb, KW2, fo2_348, hP9, hD9, hI, hR2, by omega, by omega, by omega⟩ hS
      · have g388 := (lc_ne e387).mp g388
        exact absurd (by rw [e383, show v382.toInt.toNat = 0 by omega, hout (iz_eq.mpr g378), e386]) g388
  · have g371 := ic_ne.mp g371
    exact absurd (by rw [e366, hth]) g371
