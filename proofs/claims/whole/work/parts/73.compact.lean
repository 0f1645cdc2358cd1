set_option maxRecDepth 100000 in
set_option maxHeartbeats 4000000 in
theorem c_St_compact (l : Launch) (D : va_G) (cL cI : ClassId) (xo kA wA kB wB kC wC kD wD kn : Nat) (sr cu isr : Int32) (gA gB gC gD : Nat → Int64) (tb cd vl nc w n : Nat) (wd cnt chg : Int32) (fc : Nat → Int64) (nv : Nat) (fv : Nat → Int64) (so bs la ca ha mb : Nat) (dp rt opn : Int32) (fb fl fch fh : Nat → Int32) (LL : Nat → List Nat) (sz : Nat) (hw : wd.toInt = (w : Int)) (hw7 : 1 ≤ w ∧ w ≤ 7) (hcnt : cnt.toInt = (n : Int)) (hnc : nc = nv * w) (hnv : n ≤ nv ∧ 1 ≤ nv ∧ nv ≤ 3000) (hn : n ≤ 1500) (hkn : kn = w) (hmb : mb = 8 * w) (hs : tb_srt w n fc) (hopn : opn.toInt = 0) (hchg : chg = 0 ∨ chg = 1) (hsh : chg = 0 → sh_ok w fc n fb dp rt) (hsr : (sr.toInt = 0 ∧ w = 1 ∧ isr = 0) ∨ (sr.toInt = 1 ∧ w = 2 ∧ isr = 0) ∨ (sr.toInt = 2 ∧ w = 7 ∧ isr = 1)) (hcu : cu = 0 ∨ cu = 1) (hLL : ¬ isr = 0 → ∀ k, k < n → (∀ d, d < 56 → by_w (kr fc w k) d = rw_b (LL k) d) ∧ (LL k).length ≤ 24) : Met l y_St_compact (Cond.code y_St_compact prog_1_method_23_code 3 (some .int) :: TW) ({ frames := 5, cells := 0, slots := 0, locals := 133 } : Room) (PZ D cL cI [.ref xo] [(xo, .inr (3, [.int sr, .ref kA, .ref kB, .ref kC, .ref kD, .ref tb, .ref so, .int cu])), (kA, .inr (0, [.int isr, .ref wA])), (wA, .inl (cL, kn, .inr (.inl gA))), (kB, .inr (0, [.int isr, .ref wB])), (wB, .inl (cL, kn, .inr (.inl gB))), (kC, .inr (0, [.int isr, .ref wC])), (wC, .inl (cL, kn, .inr (.inl gC))), (kD, .inr (0, [.int isr, .ref wD])), (wD, .inl (cL, kn, .inr (.inl gD))), (tb, .inr (2, [.int wd, .ref cd, .ref vl, .int cnt, .int chg])), (cd, .inl (cL, nc, .inr (.inl fc))), (vl, .inl (cL, nv, .inr (.inl fv))), (so, .inr (1, [.ref bs, .int dp, .int rt, .ref la, .ref ca, .ref ha, .int opn])), (bs, .inl (cI, 4, .inl fb)), (la, .inl (cI, mb, .inl fl)), (ca, .inl (cI, mb, .inl fch)), (ha, .inl (cI, mb, .inl fh))] sz) (va_Qi (fun (r : Int32) (u : (Int32) × (Int32) × (Int32) × (Int32) × (Nat → Int32) × (Nat → Int32) × (Nat → Int32) × (Nat → Int32) × (Nat → Int64)) => (u.2.2.2.1 = 0 ∧ u.2.2.1.toInt = 0 ∧ sh_ok w fc n u.2.2.2.2.1 u.1 u.2.1) ∧ r.toInt = (cp_k (fun k => if isr = 0 then 8 * w else rw_n (LL k) + 2) n : Int) + ((cb_end (tb_gap w fc) (n - 1)).2.1 0 * 9 + (cb_end (tb_gap w fc) (n - 1)).2.1 1 * 24 + (cb_end (tb_gap w fc) (n - 1)).2.1 2 * 116 + (cb_end (tb_gap w fc) (n - 1)).2.1 3 * 260 : Nat)) (fun (u : (Int32) × (Int32) × (Int32) × (Int32) × (Nat → Int32) × (Nat → Int32) × (Nat → Int32) × (Nat → Int32) × (Nat → Int64)) (t : State) => va_P D classes [(xo, .inr (3, [.int sr, .ref kA, .ref kB, .ref kC, .ref kD, .ref tb, .ref so, .int cu])), (kA, .inr (0, [.int isr, .ref wA])), (wA, .inl (cL, kn, .inr (.inl gA))), (kB, .inr (0, [.int isr, .ref wB])), (wB, .inl (cL, kn, .inr (.inl gB))), (kC, .inr (0, [.int isr, .ref wC])), (wC, .inl (cL, kn, .inr (.inl gC))), (kD, .inr (0, [.int isr, .ref wD])), (wD, .inl (cL, kn, .inr (.inl u.2.2.2.2.2.2.2.2))), (tb, .inr (2, [.int wd, .ref cd, .ref vl, .int cnt, .int u.2.2.2.1])), (cd, .inl (cL, nc, .inr (.inl fc))), (vl, .inl (cL, nv, .inr (.inl fv))), (so, .inr (1, [.ref bs, .int u.1, .int u.2.1, .ref la, .ref ca, .ref ha, .int u.2.2.1])), (bs, .inl (cI, 4, .inl u.2.2.2.2.1)), (la, .inl (cI, mb, .inl u.2.2.2.2.2.1)), (ca, .inl (cI, mb, .inl u.2.2.2.2.2.2.1)), (ha, .inl (cI, mb, .inl u.2.2.2.2.2.2.2.1))] t.heap ∧ va_K D classes (tyz cL cI) t ∧ va_D (va_A [(xo, .inr (3, [.int sr, .ref kA, .ref kB, .ref kC, .ref kD, .ref tb, .ref so, .int cu])), (kA, .inr (0, [.int isr, .ref wA])), (wA, .inl (cL, kn, .inr (.inl gA))), (kB, .inr (0, [.int isr, .ref wB])), (wB, .inl (cL, kn, .inr (.inl gB))), (kC, .inr (0, [.int isr, .ref wC])), (wC, .inl (cL, kn, .inr (.inl gC))), (kD, .inr (0, [.int isr, .ref wD])), (wD, .inl (cL, kn, .inr (.inl gD))), (tb, .inr (2, [.int wd, .ref cd, .ref vl, .int cnt, .int chg])), (cd, .inl (cL, nc, .inr (.inl fc))), (vl, .inl (cL, nv, .inr (.inl fv))), (so, .inr (1, [.ref bs, .int dp, .int rt, .ref la, .ref ca, .ref ha, .int opn])), (bs, .inl (cI, 4, .inl fb)), (la, .inl (cI, mb, .inl fl)), (ca, .inl (cI, mb, .inl fch)), (ha, .inl (cI, mb, .inl fh))] sz) [(xo, .inr (3, [.int sr, .ref kA, .ref kB, .ref kC, .ref kD, .ref tb, .ref so, .int cu])), (kA, .inr (0, [.int isr, .ref wA])), (wA, .inl (cL, kn, .inr (.inl gA))), (kB, .inr (0, [.int isr, .ref wB])), (wB, .inl (cL, kn, .inr (.inl gB))), (kC, .inr (0, [.int isr, .ref wC])), (wC, .inl (cL, kn, .inr (.inl gC))), (kD, .inr (0, [.int isr, .ref wD])), (wD, .inl (cL, kn, .inr (.inl u.2.2.2.2.2.2.2.2))), (tb, .inr (2, [.int wd, .ref cd, .ref vl, .int cnt, .int u.2.2.2.1])), (cd, .inl (cL, nc, .inr (.inl fc))), (vl, .inl (cL, nv, .inr (.inl fv))), (so, .inr (1, [.ref bs, .int u.1, .int u.2.1, .ref la, .ref ca, .ref ha, .int u.2.2.1])), (bs, .inl (cI, 4, .inl u.2.2.2.2.1)), (la, .inl (cI, mb, .inl u.2.2.2.2.2.1)), (ca, .inl (cI, mb, .inl u.2.2.2.2.2.2.1)), (ha, .inl (cI, mb, .inl u.2.2.2.2.2.2.2.1))]) (va_A [(xo, .inr (3, [.int sr, .ref kA, .ref kB, .ref kC, .ref kD, .ref tb, .ref so, .int cu])), (kA, .inr (0, [.int isr, .ref wA])), (wA, .inl (cL, kn, .inr (.inl gA))), (kB, .inr (0, [.int isr, .ref wB])), (wB, .inl (cL, kn, .inr (.inl gB))), (kC, .inr (0, [.int isr, .ref wC])), (wC, .inl (cL, kn, .inr (.inl gC))), (kD, .inr (0, [.int isr, .ref wD])), (wD, .inl (cL, kn, .inr (.inl gD))), (tb, .inr (2, [.int wd, .ref cd, .ref vl, .int cnt, .int chg])), (cd, .inl (cL, nc, .inr (.inl fc))), (vl, .inl (cL, nv, .inr (.inl fv))), (so, .inr (1, [.ref bs, .int dp, .int rt, .ref la, .ref ca, .ref ha, .int opn])), (bs, .inl (cI, 4, .inl fb)), (la, .inl (cI, mb, .inl fl)), (ca, .inl (cI, mb, .inl fch)), (ha, .inl (cI, mb, .inl fh))] sz)) 0 0 (va_A [(xo, .inr (3, [.int sr, .ref kA, .ref kB, .ref kC, .ref kD, .ref tb, .ref so, .int cu])), (kA, .inr (0, [.int isr, .ref wA])), (wA, .inl (cL, kn, .inr (.inl gA))), (kB, .inr (0, [.int isr, .ref wB])), (wB, .inl (cL, kn, .inr (.inl gB))), (kC, .inr (0, [.int isr, .ref wC])), (wC, .inl (cL, kn, .inr (.inl gC))), (kD, .inr (0, [.int isr, .ref wD])), (wD, .inl (cL, kn, .inr (.inl gD))), (tb, .inr (2, [.int wd, .ref cd, .ref vl, .int cnt, .int chg])), (cd, .inl (cL, nc, .inr (.inl fc))), (vl, .inl (cL, nv, .inr (.inl fv))), (so, .inr (1, [.ref bs, .int dp, .int rt, .ref la, .ref ca, .ref ha, .int opn])), (bs, .inl (cI, 4, .inl fb)), (la, .inl (cI, mb, .inl fl)), (ca, .inl (cI, mb, .inl fch)), (ha, .inl (cI, mb, .inl fh))] sz) := by
  refine xr_met (by decide) ?_
  intro p e s m args below meth c hx hb hr hts hown hlocks hname hml hv
  obtain ⟨rfl, hsz, hP, hK, hD0, hze⟩ := hv
  subst hsz
  have hD := hD0.self (sz := s.heap.size)
  generalize hAe : va_A [(xo, .inr (3, [.int sr, .ref kA, .ref kB, .ref kC, .ref kD, .ref tb, .ref so, .int cu])), (kA, .inr (0, [.int isr, .ref wA])), (wA, .inl (cL, kn, .inr (.inl gA))), (kB, .inr (0, [.int isr, .ref wB])), (wB, .inl (cL, kn, .inr (.inl gB))), (kC, .inr (0, [.int isr, .ref wC])), (wC, .inl (cL, kn, .inr (.inl gC))), (kD, .inr (0, [.int isr, .ref wD])), (wD, .inl (cL, kn, .inr (.inl gD))), (tb, .inr (2, [.int wd, .ref cd, .ref vl, .int cnt, .int chg])), (cd, .inl (cL, nc, .inr (.inl fc))), (vl, .inl (cL, nv, .inr (.inl fv))), (so, .inr (1, [.ref bs, .int dp, .int rt, .ref la, .ref ca, .ref ha, .int opn])), (bs, .inl (cI, 4, .inl fb)), (la, .inl (cI, mb, .inl fl)), (ca, .inl (cI, mb, .inl fch)), (ha, .inl (cI, mb, .inl fh))] s.heap.size = A at hD hze ⊢
  have hA : ∀ q : Nat, s.heap.size ≤ q → A q := fun q h => by rw [← hAe]; exact Or.inr h
  have hS : va_S A s.heap s.heap [] := va_S.rf
  have hD : va_D A [(xo, .inr (3, [.int sr, .ref kA, .ref kB, .ref kC, .ref kD, .ref tb, .ref so, .int cu])), (kA, .inr (0, [.int isr, .ref wA])), (wA, .inl (cL, kn, .inr (.inl gA))), (kB, .inr (0, [.int isr, .ref wB])), (wB, .inl (cL, kn, .inr (.inl gB))), (kC, .inr (0, [.int isr, .ref wC])), (wC, .inl (cL, kn, .inr (.inl gC))), (kD, .inr (0, [.int isr, .ref wD])), (wD, .inl (cL, kn, .inr (.inl gD))), (tb, .inr (2, [.int wd, .ref cd, .ref vl, .int cnt, .int chg])), (cd, .inl (cL, nc, .inr (.inl fc))), (vl, .inl (cL, nv, .inr (.inl fv))), (so, .inr (1, [.ref bs, .int dp, .int rt, .ref la, .ref ca, .ref ha, .int opn])), (bs, .inl (cI, 4, .inl fb)), (la, .inl (cI, mb, .inl fl)), (ca, .inl (cI, mb, .inl fch)), (ha, .inl (cI, mb, .inl fh))] := hD
  obtain ⟨hz3, zt, hz1, hz2⟩ := id hze
  have hown : s.vm.findClass "BranchStore" = some m.cls := hown
  have hP : va_P D classes [(xo, .inr (3, [.int sr, .ref kA, .ref kB, .ref kC, .ref kD, .ref tb, .ref so, .int cu])), (kA, .inr (0, [.int isr, .ref wA])), (wA, .inl (cL, kn, .inr (.inl gA))), (kB, .inr (0, [.int isr, .ref wB])), (wB, .inl (cL, kn, .inr (.inl gB))), (kC, .inr (0, [.int isr, .ref wC])), (wC, .inl (cL, kn, .inr (.inl gC))), (kD, .inr (0, [.int isr, .ref wD])), (wD, .inl (cL, kn, .inr (.inl gD))), (tb, .inr (2, [.int wd, .ref cd, .ref vl, .int cnt, .int chg])), (cd, .inl (cL, nc, .inr (.inl fc))), (vl, .inl (cL, nv, .inr (.inl fv))), (so, .inr (1, [.ref bs, .int dp, .int rt, .ref la, .ref ca, .ref ha, .int opn])), (bs, .inl (cI, 4, .inl fb)), (la, .inl (cI, mb, .inl fl)), (ca, .inl (cI, mb, .inl fch)), (ha, .inl (cI, mb, .inl fh))] s.heap := hP
  have hl := lv_entry ([.ref xo]) (n := 3) (Nat.le_of_ble_eq_true rfl)
  rw [lg_entry_eq]
  generalize (lg_sl ([.ref xo]) ++ List.replicate (3 - (lg_sl ([.ref xo])).length) Slot.unset).toArray = ls at hl ⊢
  have hl : lv_has ls 3 [(0, .ref xo)] := hl
  obtain ⟨Q, hQ⟩ : ∃ Q, Q = MQ below (va_Qi (fun (r : Int32) (u : (Int32) × (Int32) × (Int32) × (Int32) × (Nat → Int32) × (Nat → Int32) × (Nat → Int32) × (Nat → Int32) × (Nat → Int64)) => (u.2.2.2.1 = 0 ∧ u.2.2.1.toInt = 0 ∧ sh_ok w fc n u.2.2.2.2.1 u.1 u.2.1) ∧ r.toInt = (cp_k (fun k => if isr = 0 then 8 * w else rw_n (LL k) + 2) n : Int) + ((cb_end (tb_gap w fc) (n - 1)).2.1 0 * 9 + (cb_end (tb_gap w fc) (n - 1)).2.1 1 * 24 + (cb_end (tb_gap w fc) (n - 1)).2.1 2 * 116 + (cb_end (tb_gap w fc) (n - 1)).2.1 3 * 260 : Nat)) (fun (u : (Int32) × (Int32) × (Int32) × (Int32) × (Nat → Int32) × (Nat → Int32) × (Nat → Int32) × (Nat → Int32) × (Nat → Int64)) (t : State) => va_P D classes [(xo, .inr (3, [.int sr, .ref kA, .ref kB, .ref kC, .ref kD, .ref tb, .ref so, .int cu])), (kA, .inr (0, [.int isr, .ref wA])), (wA, .inl (cL, kn, .inr (.inl gA))), (kB, .inr (0, [.int isr, .ref wB])), (wB, .inl (cL, kn, .inr (.inl gB))), (kC, .inr (0, [.int isr, .ref wC])), (wC, .inl (cL, kn, .inr (.inl gC))), (kD, .inr (0, [.int isr, .ref wD])), (wD, .inl (cL, kn, .inr (.inl u.2.2.2.2.2.2.2.2))), (tb, .inr (2, [.int wd, .ref cd, .ref vl, .int cnt, .int u.2.2.2.1])), (cd, .inl (cL, nc, .inr (.inl fc))), (vl, .inl (cL, nv, .inr (.inl fv))), (so, .inr (1, [.ref bs, .int u.1, .int u.2.1, .ref la, .ref ca, .ref ha, .int u.2.2.1])), (bs, .inl (cI, 4, .inl u.2.2.2.2.1)), (la, .inl (cI, mb, .inl u.2.2.2.2.2.1)), (ca, .inl (cI, mb, .inl u.2.2.2.2.2.2.1)), (ha, .inl (cI, mb, .inl u.2.2.2.2.2.2.2.1))] t.heap ∧ va_K D classes (tyz cL cI) t ∧ va_D (A) [(xo, .inr (3, [.int sr, .ref kA, .ref kB, .ref kC, .ref kD, .ref tb, .ref so, .int cu])), (kA, .inr (0, [.int isr, .ref wA])), (wA, .inl (cL, kn, .inr (.inl gA))), (kB, .inr (0, [.int isr, .ref wB])), (wB, .inl (cL, kn, .inr (.inl gB))), (kC, .inr (0, [.int isr, .ref wC])), (wC, .inl (cL, kn, .inr (.inl gC))), (kD, .inr (0, [.int isr, .ref wD])), (wD, .inl (cL, kn, .inr (.inl u.2.2.2.2.2.2.2.2))), (tb, .inr (2, [.int wd, .ref cd, .ref vl, .int cnt, .int u.2.2.2.1])), (cd, .inl (cL, nc, .inr (.inl fc))), (vl, .inl (cL, nv, .inr (.inl fv))), (so, .inr (1, [.ref bs, .int u.1, .int u.2.1, .ref la, .ref ca, .ref ha, .int u.2.2.1])), (bs, .inl (cI, 4, .inl u.2.2.2.2.1)), (la, .inl (cI, mb, .inl u.2.2.2.2.2.1)), (ca, .inl (cI, mb, .inl u.2.2.2.2.2.2.1)), (ha, .inl (cI, mb, .inl u.2.2.2.2.2.2.2.1))]) (A)) ([.ref xo] : List Value).toArray s 0 0 A := ⟨_, rfl⟩
  rw [← hQ]
  have hncb : nc < 16777216 := by rw [hnc]; have h9 : nv * w ≤ 3000 * 7 := Nat.mul_le_mul hnv.2.2 hw7.2; omega
  have hcap := tb_cap hnc hnv.1
  have hncn : n * w ≤ nc := by rw [hnc]; exact Nat.mul_le_mul_right w hnv.1
  have hEb : ∀ s, (cb_end (tb_gap w fc) (n - 1)).2.1 s ≤ 1500 := fun s => by rw [cb_end_sizes]; have h5 := cz_le (p := fun i => cb_first (tb_gap w fc) i && (cb_size (cb_ch (tb_gap w fc) (n - 1) i) == s)) (n - 1); omega
  refine lv_aload_n hx hb d_St_compact_0 rfl (lv_at hl 0 rfl) ?_
  refine va_get (D := D) (ci := 3) (v := .ref so) (C := R_St) (T := F_St) (N := 8) hx hb hts in_St hown hK hP 0 rfl rfl 6 (by decide) (hts _ tw_123) (fun _ h9 => h9) rfl d_St_compact_1 ?_
  refine lv_aload_n hx hb d_St_compact_4 rfl (lv_at hl 0 rfl) ?_
  refine va_get (D := D) (ci := 3) (v := .ref tb) (C := R_St) (T := F_St) (N := 8) hx hb hts in_St hown hK hP 0 rfl rfl 5 (by decide) (hts _ tw_122) (fun _ h9 => h9) rfl d_St_compact_5 ?_
  have hPc := hP.sub (ws' := [(so, .inr (1, [.ref bs, .int dp, .int rt, .ref la, .ref ca, .ref ha, .int opn])), (bs, .inl (cI, 4, .inl fb)), (la, .inl (cI, mb, .inl fl)), (ca, .inl (cI, mb, .inl fch)), (ha, .inl (cI, mb, .inl fh)), (tb, .inr (2, [.int wd, .ref cd, .ref vl, .int cnt, .int chg])), (cd, .inl (cL, nc, .inr (.inl fc)))]) [12, 13, 14, 15, 16, 9, 10] rfl
  have hDc := hD.sub (ws' := [(so, .inr (1, [.ref bs, .int dp, .int rt, .ref la, .ref ca, .ref ha, .int opn])), (bs, .inl (cI, 4, .inl fb)), (la, .inl (cI, mb, .inl fl)), (ca, .inl (cI, mb, .inl fch)), (ha, .inl (cI, mb, .inl fh)), (tb, .inr (2, [.int wd, .ref cd, .ref vl, .int cnt, .int chg])), (cd, .inl (cL, nc, .inr (.inl fc)))]) [12, 13, 14, 15, 16, 9, 10] (by decide) rfl
  have hFc := va_free (wc := [(so, .inr (1, [.ref bs, .int dp, .int rt, .ref la, .ref ca, .ref ha, .int opn])), (bs, .inl (cI, 4, .inl fb)), (la, .inl (cI, mb, .inl fl)), (ca, .inl (cI, mb, .inl fch)), (ha, .inl (cI, mb, .inl fh)), (tb, .inr (2, [.int wd, .ref cd, .ref vl, .int cnt, .int chg])), (cd, .inl (cL, nc, .inr (.inl fc)))]) hD hS hA [12, 13, 14, 15, 16, 9, 10] rfl
  refine va_callv (xr_mv (As := [.ref tb]) (rest := []) ⟨hx, hb, hml, hown, hts⟩ (c_Sh_measure l D cL cI so bs la ca ha mb dp rt opn fb fl fch fh tb cd vl nc w n wd cnt chg fc s.heap.size (by first | omega | exact hw) (by first | omega | exact hw7) (by first | omega | exact hcnt) (by first | omega | exact hnc) (by first | omega | exact hcap) (by first | omega | exact hn) (by first | omega | exact hs) (by first | omega | exact hmb) (by first | omega | exact hopn) (by first | omega | exact hchg) (by first | omega | exact hsh)) (xr_cv 1 hts tw_220 tw_217 tw_218 tw_219 tw_6 rfl rfl (by decide) ⟨Nat.le_of_ble_eq_true rfl, Nat.le_of_ble_eq_true rfl⟩) hK hPc (hDc.weaken (fun _ _ _ _ => trivial)) (va_recv hK hP rfl (q0 := 12) (ci := 1) rfl) rfl hl.1 rfl (Nat.le_of_ble_eq_true rfl) d_St_compact_8 ⟨Nat.le_of_ble_eq_true rfl, Nat.le_of_ble_eq_true rfl⟩) hS (fun q _ h => hFc q h) hFc (fun u8 tt8 H1 locs ht8 hvm8 e8 hB8 hz8 hk8 hS => ?_)
  obtain ⟨dp2_8, rt2_8, opn2_8, chg2_8, fb2_8, fl2_8, fch2_8, fh2_8⟩ := u8
  have e8 : chg2_8 = 0 ∧ opn2_8.toInt = 0 ∧ sh_ok w fc n fb2_8 dp2_8 rt2_8 := e8
  obtain ⟨hP1, hK1, hD1⟩ := hB8
  rw [ht8] at hP1
  obtain ⟨hP, hD⟩ := va_join (wr := [(xo, .inr (3, [.int sr, .ref kA, .ref kB, .ref kC, .ref kD, .ref tb, .ref so, .int cu])), (kA, .inr (0, [.int isr, .ref wA])), (wA, .inl (cL, kn, .inr (.inl gA))), (kB, .inr (0, [.int isr, .ref wB])), (wB, .inl (cL, kn, .inr (.inl gB))), (kC, .inr (0, [.int isr, .ref wC])), (wC, .inl (cL, kn, .inr (.inl gC))), (kD, .inr (0, [.int isr, .ref wD])), (wD, .inl (cL, kn, .inr (.inl gD))), (vl, .inl (cL, nv, .inr (.inl fv)))]) (w1 := [(so, .inr (1, [.ref bs, .int dp2_8, .int rt2_8, .ref la, .ref ca, .ref ha, .int opn2_8])), (bs, .inl (cI, 4, .inl fb2_8)), (la, .inl (cI, mb, .inl fl2_8)), (ca, .inl (cI, mb, .inl fch2_8)), (ha, .inl (cI, mb, .inl fh2_8)), (tb, .inr (2, [.int wd, .ref cd, .ref vl, .int cnt, .int chg2_8])), (cd, .inl (cL, nc, .inr (.inl fc)))]) hP hD [12, 13, 14, 15, 16, 9, 10] [0, 1, 2, 3, 4, 5, 6, 7, 8, 11] rfl rfl (by decide) (by decide) hk8 hFc hP1 hD1
  clear hP1 hD1 hPc hDc hFc
  generalize H1 = H at hP hS ⊢
  have hP : va_P D classes [(xo, .inr (3, [.int sr, .ref kA, .ref kB, .ref kC, .ref kD, .ref tb, .ref so, .int cu])), (kA, .inr (0, [.int isr, .ref wA])), (wA, .inl (cL, kn, .inr (.inl gA))), (kB, .inr (0, [.int isr, .ref wB])), (wB, .inl (cL, kn, .inr (.inl gB))), (kC, .inr (0, [.int isr, .ref wC])), (wC, .inl (cL, kn, .inr (.inl gC))), (kD, .inr (0, [.int isr, .ref wD])), (wD, .inl (cL, kn, .inr (.inl gD))), (vl, .inl (cL, nv, .inr (.inl fv))), (so, .inr (1, [.ref bs, .int dp2_8, .int rt2_8, .ref la, .ref ca, .ref ha, .int opn2_8])), (bs, .inl (cI, 4, .inl fb2_8)), (la, .inl (cI, mb, .inl fl2_8)), (ca, .inl (cI, mb, .inl fch2_8)), (ha, .inl (cI, mb, .inl fh2_8)), (tb, .inr (2, [.int wd, .ref cd, .ref vl, .int cnt, .int chg2_8])), (cd, .inl (cL, nc, .inr (.inl fc)))] H := hP
  have hD : va_D A [(xo, .inr (3, [.int sr, .ref kA, .ref kB, .ref kC, .ref kD, .ref tb, .ref so, .int cu])), (kA, .inr (0, [.int isr, .ref wA])), (wA, .inl (cL, kn, .inr (.inl gA))), (kB, .inr (0, [.int isr, .ref wB])), (wB, .inl (cL, kn, .inr (.inl gB))), (kC, .inr (0, [.int isr, .ref wC])), (wC, .inl (cL, kn, .inr (.inl gC))), (kD, .inr (0, [.int isr, .ref wD])), (wD, .inl (cL, kn, .inr (.inl gD))), (vl, .inl (cL, nv, .inr (.inl fv))), (so, .inr (1, [.ref bs, .int dp2_8, .int rt2_8, .ref la, .ref ca, .ref ha, .int opn2_8])), (bs, .inl (cI, 4, .inl fb2_8)), (la, .inl (cI, mb, .inl fl2_8)), (ca, .inl (cI, mb, .inl fch2_8)), (ha, .inl (cI, mb, .inl fh2_8)), (tb, .inr (2, [.int wd, .ref cd, .ref vl, .int cnt, .int chg2_8])), (cd, .inl (cL, nc, .inr (.inl fc)))] := hD
  obtain ⟨m1, m2, m3⟩ := e8
  have m4 := m3.1
  refine lv_iconst (v := 0) hx hb d_St_compact_11 (by decide) ?_
  refine lv_topi (fun v11 e11 => ?_)
  have t11 : v11.toInt = 0 := by rw [e11]; rfl
  refine lv_istore_n (lv' := [(1, .int v11), (0, .ref xo)]) hx hb d_St_compact_12 rfl hl (by decide) rfl (fun ls hl => ?_)
  refine lv_iconst (v := 0) hx hb d_St_compact_13 (by decide) ?_
  refine lv_topi (fun v13 e13 => ?_)
  have t13 : v13.toInt = 0 := by rw [e13]; rfl
  refine lv_istore_n (lv' := [(2, .int v13), (1, .int v11), (0, .ref xo)]) hx hb d_St_compact_14 rfl hl (by decide) rfl (fun ls hl => ?_)
  have lp15 : ∀ (fuel15 : Nat) (jj : Int32) (nn : Int32) (ls : Array Slot), lv_has ls 3 [(2, .int jj), (1, .int nn), (0, .ref xo)] → (0 ≤ jj.toInt ∧ jj.toInt ≤ 4) → (0 ≤ nn.toInt ∧ nn.toInt ≤ 400000 * jj.toInt) → (nn.toInt = (cz_s (cb_end (tb_gap w fc) (n - 1)).2.1 jj.toInt.toNat : Int)) → 4 - jj.toInt.toNat < fuel15 → W p l e ({ frames := 5, cells := 0, slots := 0, locals := 133 } : Room) s m ([.ref xo] : List Value).toArray below meth c H locs 0 0 Q (F0 m 15 ls []) := by
    intro fuel15
    induction fuel15 with
    | zero => intro jj nn ls hl h1 h3 h4 hm15; exact absurd hm15 (Nat.not_lt_zero _)
    | succ fuel15 ih15 =>
      intro jj nn ls hl h1 h3 h4 hm15
      refine lv_iload_n hx hb d_St_compact_15 rfl (lv_at hl 0 rfl) ?_
      refine va_gets hx hb hz1 hS hown (hts _ tw_240) (fun _ h9 => h9) d_St_compact_16 ?_
      refine va_tlen hx hb hz2 hS rfl d_St_compact_19 ?_
      refine lv_topi (fun v19 e19 => ?_)
      have t19 : v19.toInt = 4 := by rw [e19]; rfl
      refine lv_icmp_ge hx hb d_St_compact_20 (tgt := 47) (by decide) (fun g20 => ?_) (fun g20 => ?_)
      · have g20 := ic_le.mp g20
        refine lv_iconst (v := 0) hx hb d_St_compact_47 (by decide) ?_
        refine lv_topi (fun v47 e47 => ?_)
        have t47 : v47.toInt = 0 := by rw [e47]; rfl
        refine lv_istore_n (lv' := [(2, .int v47), (1, .int nn), (0, .ref xo)]) hx hb d_St_compact_48 rfl hl (by decide) rfl (fun ls hl => ?_)
        have lp49 : ∀ (fuel49 : Nat) (kk : Int32) (n2 : Int32) (gDz : Nat → Int64) (H : Heap) (locs : List Loc) (ls : Array Slot), lv_has ls 3 [(2, .int kk), (1, .int n2), (0, .ref xo)] → va_P D classes [(xo, .inr (3, [.int sr, .ref kA, .ref kB, .ref kC, .ref kD, .ref tb, .ref so, .int cu])), (kA, .inr (0, [.int isr, .ref wA])), (wA, .inl (cL, kn, .inr (.inl gA))), (kB, .inr (0, [.int isr, .ref wB])), (wB, .inl (cL, kn, .inr (.inl gB))), (kC, .inr (0, [.int isr, .ref wC])), (wC, .inl (cL, kn, .inr (.inl gC))), (kD, .inr (0, [.int isr, .ref wD])), (wD, .inl (cL, kn, .inr (.inl gDz))), (vl, .inl (cL, nv, .inr (.inl fv))), (so, .inr (1, [.ref bs, .int dp2_8, .int rt2_8, .ref la, .ref ca, .ref ha, .int opn2_8])), (bs, .inl (cI, 4, .inl fb2_8)), (la, .inl (cI, mb, .inl fl2_8)), (ca, .inl (cI, mb, .inl fch2_8)), (ha, .inl (cI, mb, .inl fh2_8)), (tb, .inr (2, [.int wd, .ref cd, .ref vl, .int cnt, .int chg2_8])), (cd, .inl (cL, nc, .inr (.inl fc)))] H → va_D A [(xo, .inr (3, [.int sr, .ref kA, .ref kB, .ref kC, .ref kD, .ref tb, .ref so, .int cu])), (kA, .inr (0, [.int isr, .ref wA])), (wA, .inl (cL, kn, .inr (.inl gA))), (kB, .inr (0, [.int isr, .ref wB])), (wB, .inl (cL, kn, .inr (.inl gB))), (kC, .inr (0, [.int isr, .ref wC])), (wC, .inl (cL, kn, .inr (.inl gC))), (kD, .inr (0, [.int isr, .ref wD])), (wD, .inl (cL, kn, .inr (.inl gDz))), (vl, .inl (cL, nv, .inr (.inl fv))), (so, .inr (1, [.ref bs, .int dp2_8, .int rt2_8, .ref la, .ref ca, .ref ha, .int opn2_8])), (bs, .inl (cI, 4, .inl fb2_8)), (la, .inl (cI, mb, .inl fl2_8)), (ca, .inl (cI, mb, .inl fch2_8)), (ha, .inl (cI, mb, .inl fh2_8)), (tb, .inr (2, [.int wd, .ref cd, .ref vl, .int cnt, .int chg2_8])), (cd, .inl (cL, nc, .inr (.inl fc)))] → va_S A s.heap H locs → (0 ≤ kk.toInt) → (kk.toInt ≤ (n : Int)) → (0 ≤ n2.toInt ∧ n2.toInt ≤ 1600000 + 100 * kk.toInt) → (n2.toInt = (cz_s (cb_end (tb_gap w fc) (n - 1)).2.1 4 : Int) + (cp_k (fun k => if isr = 0 then 8 * w else rw_n (LL k) + 2) kk.toInt.toNat : Nat)) → n - kk.toInt.toNat < fuel49 → W p l e ({ frames := 5, cells := 0, slots := 0, locals := 133 } : Room) s m ([.ref xo] : List Value).toArray below meth c H locs 0 0 Q (F0 m 49 ls []) := by
          intro fuel49
          induction fuel49 with
          | zero => intro kk n2 gDz H locs ls hl hP hD hS k1 k2 k3 k4 hm49; exact absurd hm49 (Nat.not_lt_zero _)
          | succ fuel49 ih49 =>
            intro kk n2 gDz H locs ls hl hP hD hS k1 k2 k3 k4 hm49
            refine lv_iload_n hx hb d_St_compact_49 rfl (lv_at hl 0 rfl) ?_
            refine lv_aload_n hx hb d_St_compact_50 rfl (lv_at hl 2 rfl) ?_
            refine va_get (D := D) (ci := 3) (v := .ref tb) (C := R_St) (T := F_St) (N := 8) hx hb hts in_St hown hK hP 0 rfl rfl 5 (by decide) (hts _ tw_122) (fun _ h9 => h9) rfl d_St_compact_51 ?_
            refine va_get (D := D) (ci := 2) (v := .int cnt) (C := R_Ta) (T := F_Ta) (N := 5) hx hb hts in_Ta hown hK hP 15 rfl rfl 3 (by decide) (hts _ tw_65) (fun _ h9 => h9) rfl d_St_compact_54 ?_
            refine lv_icmp_ge hx hb d_St_compact_57 (tgt := 96) (by decide) (fun g57 => ?_) (fun g57 => ?_)
            · have g57 := ic_le.mp g57
              refine lv_iload_n hx hb d_St_compact_96 rfl (lv_at hl 1 rfl) ?_
              have hpost : (chg2_8 = 0 ∧ opn2_8.toInt = 0 ∧ sh_ok w fc n fb2_8 dp2_8 rt2_8) ∧ n2.toInt = (cp_k (fun k => if isr = 0 then 8 * w else rw_n (LL k) + 2) n : Int) + ((cb_end (tb_gap w fc) (n - 1)).2.1 0 * 9 + (cb_end (tb_gap w fc) (n - 1)).2.1 1 * 24 + (cb_end (tb_gap w fc) (n - 1)).2.1 2 * 116 + (cb_end (tb_gap w fc) (n - 1)).2.1 3 * 260 : Nat) := by
                refine ⟨⟨m1, m2, m3⟩, ?_⟩
                rw [k4, show kk.toInt.toNat = n by omega]
                have hc4 : cz_s (cb_end (tb_gap w fc) (n - 1)).2.1 4 = (cb_end (tb_gap w fc) (n - 1)).2.1 0 * 9 + (cb_end (tb_gap w fc) (n - 1)).2.1 1 * 24 + (cb_end (tb_gap w fc) (n - 1)).2.1 2 * 116 + (cb_end (tb_gap w fc) (n - 1)).2.1 3 * 260 := cz_4 _
                rw [hc4]
                omega
              have hP9 := hP.sub (ws' := [(xo, .inr (3, [.int sr, .ref kA, .ref kB, .ref kC, .ref kD, .ref tb, .ref so, .int cu])), (kA, .inr (0, [.int isr, .ref wA])), (wA, .inl (cL, kn, .inr (.inl gA))), (kB, .inr (0, [.int isr, .ref wB])), (wB, .inl (cL, kn, .inr (.inl gB))), (kC, .inr (0, [.int isr, .ref wC])), (wC, .inl (cL, kn, .inr (.inl gC))), (kD, .inr (0, [.int isr, .ref wD])), (wD, .inl (cL, kn, .inr (.inl gDz))), (tb, .inr (2, [.int wd, .ref cd, .ref vl, .int cnt, .int chg2_8])), (cd, .inl (cL, nc, .inr (.inl fc))), (vl, .inl (cL, nv, .inr (.inl fv))), (so, .inr (1, [.ref bs, .int dp2_8, .int rt2_8, .ref la, .ref ca, .ref ha, .int opn2_8])), (bs, .inl (cI, 4, .inl fb2_8)), (la, .inl (cI, mb, .inl fl2_8)), (ca, .inl (cI, mb, .inl fch2_8)), (ha, .inl (cI, mb, .inl fh2_8))]) [0, 1, 2, 3, 4, 5, 6, 7, 8, 15, 16, 9, 10, 11, 12, 13, 14] rfl
              have hD9 := hD.sub (ws' := [(xo, .inr (3, [.int sr, .ref kA, .ref kB, .ref kC, .ref kD, .ref tb, .ref so, .int cu])), (kA, .inr (0, [.int isr, .ref wA])), (wA, .inl (cL, kn, .inr (.inl gA))), (kB, .inr (0, [.int isr, .ref wB])), (wB, .inl (cL, kn, .inr (.inl gB))), (kC, .inr (0, [.int isr, .ref wC])), (wC, .inl (cL, kn, .inr (.inl gC))), (kD, .inr (0, [.int isr, .ref wD])), (wD, .inl (cL, kn, .inr (.inl gDz))), (tb, .inr (2, [.int wd, .ref cd, .ref vl, .int cnt, .int chg2_8])), (cd, .inl (cL, nc, .inr (.inl fc))), (vl, .inl (cL, nv, .inr (.inl fv))), (so, .inr (1, [.ref bs, .int dp2_8, .int rt2_8, .ref la, .ref ca, .ref ha, .int opn2_8])), (bs, .inl (cI, 4, .inl fb2_8)), (la, .inl (cI, mb, .inl fl2_8)), (ca, .inl (cI, mb, .inl fch2_8)), (ha, .inl (cI, mb, .inl fh2_8))]) [0, 1, 2, 3, 4, 5, 6, 7, 8, 15, 16, 9, 10, 11, 12, 13, 14] (by decide) rfl
              rw [hQ]
              exact W.iret (v := n2) hx hb hr (fun t ht hW => ⟨⟨n2, (dp2_8, rt2_8, opn2_8, chg2_8, fb2_8, fl2_8, fch2_8, fh2_8, gDz), rfl, hpost, by rw [ht]; exact hP9, va_K.moved hW.alike hK, hD9⟩, hS.F ht⟩) hS.2.2 d_St_compact_97
            · have g57 := ic_nle.mp g57
              have hpb := hcap kk.toInt.toNat (by omega)
              refine lv_aload_n hx hb d_St_compact_60 rfl (lv_at hl 2 rfl) ?_
              refine va_get (D := D) (ci := 3) (v := .ref tb) (C := R_St) (T := F_St) (N := 8) hx hb hts in_St hown hK hP 0 rfl rfl 5 (by decide) (hts _ tw_122) (fun _ h9 => h9) rfl d_St_compact_61 ?_
              refine lv_iload_n hx hb d_St_compact_64 rfl (lv_at hl 0 rfl) ?_
              refine lv_aload_n hx hb d_St_compact_65 rfl (lv_at hl 2 rfl) ?_
              refine va_get (D := D) (ci := 3) (v := .ref kD) (C := R_St) (T := F_St) (N := 8) hx hb hts in_St hown hK hP 0 rfl rfl 4 (by decide) (hts _ tw_121) (fun _ h9 => h9) rfl d_St_compact_66 ?_
              have hPc := hP.sub (ws' := [(tb, .inr (2, [.int wd, .ref cd, .ref vl, .int cnt, .int chg2_8])), (cd, .inl (cL, nc, .inr (.inl fc))), (kD, .inr (0, [.int isr, .ref wD])), (wD, .inl (cL, kn, .inr (.inl gDz)))]) [15, 16, 7, 8] rfl
              have hDc := hD.sub (ws' := [(tb, .inr (2, [.int wd, .ref cd, .ref vl, .int cnt, .int chg2_8])), (cd, .inl (cL, nc, .inr (.inl fc))), (kD, .inr (0, [.int isr, .ref wD])), (wD, .inl (cL, kn, .inr (.inl gDz)))]) [15, 16, 7, 8] (by decide) rfl
              have hFc := va_free (wc := [(tb, .inr (2, [.int wd, .ref cd, .ref vl, .int cnt, .int chg2_8])), (cd, .inl (cL, nc, .inr (.inl fc))), (kD, .inr (0, [.int isr, .ref wD])), (wD, .inl (cL, kn, .inr (.inl gDz)))]) hD hS hA [15, 16, 7, 8] rfl
              refine va_callv (xr_mv (As := [.int kk, .ref kD]) (rest := []) ⟨hx, hb, hml, hown, hts⟩ (c_Ta_copyTo l D cL cI tb cd vl nc w n wd cnt chg2_8 fc kD wD kn isr gDz kk H.size (by first | omega | exact hw) (by first | omega | exact hw7) (by first | omega | exact hnc) (by first | omega | exact hpl) (by first | omega | exact hpb) (by first | omega | exact hkn)) (xr_cv 2 hts tw_244 tw_241 tw_242 tw_243 tw_5 rfl rfl (by decide) ⟨Nat.le_of_ble_eq_true rfl, Nat.le_of_ble_eq_true rfl⟩) hK hPc (hDc.weaken (fun _ _ _ _ => trivial)) (va_recv hK hP rfl (q0 := 15) (ci := 2) rfl) rfl hl.1 rfl (Nat.le_of_ble_eq_true rfl) d_St_compact_69 ⟨Nat.le_of_ble_eq_true rfl, Nat.le_of_ble_eq_true rfl⟩) hS (fun q _ h => hFc q h) hFc (fun u69 tt69 H1 locs ht69 hvm69 e69 hB69 hz69 hk69 hS => ?_)
              obtain ⟨kg_69, rfl⟩ : ∃ z, z = u69 := ⟨_, rfl⟩
              have e69 : ∀ j, j < w → kg_69 j = kr fc w kk.toInt.toNat j := e69
              obtain ⟨hP1, hK1, hD1⟩ := hB69
              rw [ht69] at hP1
              obtain ⟨hP, hD⟩ := va_join (wr := [(xo, .inr (3, [.int sr, .ref kA, .ref kB, .ref kC, .ref kD, .ref tb, .ref so, .int cu])), (kA, .inr (0, [.int isr, .ref wA])), (wA, .inl (cL, kn, .inr (.inl gA))), (kB, .inr (0, [.int isr, .ref wB])), (wB, .inl (cL, kn, .inr (.inl gB))), (kC, .inr (0, [.int isr, .ref wC])), (wC, .inl (cL, kn, .inr (.inl gC))), (vl, .inl (cL, nv, .inr (.inl fv))), (so, .inr (1, [.ref bs, .int dp2_8, .int rt2_8, .ref la, .ref ca, .ref ha, .int opn2_8])), (bs, .inl (cI, 4, .inl fb2_8)), (la, .inl (cI, mb, .inl fl2_8)), (ca, .inl (cI, mb, .inl fch2_8)), (ha, .inl (cI, mb, .inl fh2_8))]) (w1 := [(tb, .inr (2, [.int wd, .ref cd, .ref vl, .int cnt, .int chg2_8])), (cd, .inl (cL, nc, .inr (.inl fc))), (kD, .inr (0, [.int isr, .ref wD])), (wD, .inl (cL, kn, .inr (.inl kg_69)))]) hP hD [15, 16, 7, 8] [0, 1, 2, 3, 4, 5, 6, 9, 10, 11, 12, 13, 14] rfl rfl (by decide) (by decide) hk69 hFc hP1 hD1
              clear hP1 hD1 hPc hDc hFc
              generalize H1 = H at hP hS ⊢
              have hP : va_P D classes [(xo, .inr (3, [.int sr, .ref kA, .ref kB, .ref kC, .ref kD, .ref tb, .ref so, .int cu])), (kA, .inr (0, [.int isr, .ref wA])), (wA, .inl (cL, kn, .inr (.inl gA))), (kB, .inr (0, [.int isr, .ref wB])), (wB, .inl (cL, kn, .inr (.inl gB))), (kC, .inr (0, [.int isr, .ref wC])), (wC, .inl (cL, kn, .inr (.inl gC))), (vl, .inl (cL, nv, .inr (.inl fv))), (so, .inr (1, [.ref bs, .int dp2_8, .int rt2_8, .ref la, .ref ca, .ref ha, .int opn2_8])), (bs, .inl (cI, 4, .inl fb2_8)), (la, .inl (cI, mb, .inl fl2_8)), (ca, .inl (cI, mb, .inl fch2_8)), (ha, .inl (cI, mb, .inl fh2_8)), (tb, .inr (2, [.int wd, .ref cd, .ref vl, .int cnt, .int chg2_8])), (cd, .inl (cL, nc, .inr (.inl fc))), (kD, .inr (0, [.int isr, .ref wD])), (wD, .inl (cL, kn, .inr (.inl kg_69)))] H := hP
              have hD : va_D A [(xo, .inr (3, [.int sr, .ref kA, .ref kB, .ref kC, .ref kD, .ref tb, .ref so, .int cu])), (kA, .inr (0, [.int isr, .ref wA])), (wA, .inl (cL, kn, .inr (.inl gA))), (kB, .inr (0, [.int isr, .ref wB])), (wB, .inl (cL, kn, .inr (.inl gB))), (kC, .inr (0, [.int isr, .ref wC])), (wC, .inl (cL, kn, .inr (.inl gC))), (vl, .inl (cL, nv, .inr (.inl fv))), (so, .inr (1, [.ref bs, .int dp2_8, .int rt2_8, .ref la, .ref ca, .ref ha, .int opn2_8])), (bs, .inl (cI, 4, .inl fb2_8)), (la, .inl (cI, mb, .inl fl2_8)), (ca, .inl (cI, mb, .inl fch2_8)), (ha, .inl (cI, mb, .inl fh2_8)), (tb, .inr (2, [.int wd, .ref cd, .ref vl, .int cnt, .int chg2_8])), (cd, .inl (cL, nc, .inr (.inl fc))), (kD, .inr (0, [.int isr, .ref wD])), (wD, .inl (cL, kn, .inr (.inl kg_69)))] := hD
              refine lv_iload_n hx hb d_St_compact_72 rfl (lv_at hl 1 rfl) ?_
              refine lv_iconst (v := 4) hx hb d_St_compact_73 (by decide) ?_
              refine lv_topi (fun v73 e73 => ?_)
              have t73 : v73.toInt = 4 := by rw [e73]; rfl
              refine lv_aload_n hx hb d_St_compact_74 rfl (lv_at hl 2 rfl) ?_
              refine va_get (D := D) (ci := 3) (v := .ref kD) (C := R_St) (T := F_St) (N := 8) hx hb hts in_St hown hK hP 0 rfl rfl 4 (by decide) (hts _ tw_121) (fun _ h9 => h9) rfl d_St_compact_75 ?_
              refine vp_callSi (xr_rv (As := []) (rest := [.int v73, .int n2]) ⟨hx, hb, hml, hown, hts⟩ (c_Ke_codeBytes l D cL cI kD wD kn isr kg_69 (by first | omega | exact hkn)) (xr_cv 0 hts tw_248 tw_245 tw_246 tw_247 tw_3 rfl rfl (by decide) ⟨Nat.le_of_ble_eq_true rfl, Nat.le_of_ble_eq_true rfl⟩) hK (hP.sub (ws' := [(kD, .inr (0, [.int isr, .ref wD])), (wD, .inl (cL, kn, .inr (.inl kg_69)))]) [15, 16] rfl) (va_recv hK hP rfl (q0 := 15) (ci := 0) rfl) rfl hl.1 rfl (Nat.le_of_ble_eq_true rfl) d_St_compact_78 ⟨Nat.le_of_ble_eq_true rfl, Nat.le_of_ble_eq_true rfl⟩) (fun v78 e78 => ?_)
              have e78 : (isr = 0 → v78.toInt = 8 * (kn : Int)) ∧ (¬ isr = 0 → ∃ z : Nat, v78.toInt = (z : Int) + 2 ∧ z ≤ 8 * kn ∧ (∀ d, z ≤ d → d < 8 * kn → by_w kg_69 d = 0) ∧ (0 < z → by_w kg_69 (z - 1) ≠ 0)) := e78
              have hcb : v78.toInt = ((fun k => if isr = 0 then 8 * w else rw_n (LL k) + 2) kk.toInt.toNat : Int) := by
                    by_cases h5 : isr = 0
                    · rw [e78.1 h5]; show _ = ((if isr = 0 then 8 * w else rw_n (LL kk.toInt.toNat) + 2 : Nat) : Int); rw [if_pos h5]; omega
                    · obtain ⟨z, z1, z2, z3, z4⟩ := e78.2 h5
                      have hw7 : w = 7 := by rcases hsr with h7 | h7 | h7 <;> first | exact absurd h7.2.2 h5 | exact h7.2.1
                      obtain ⟨l1, l2⟩ := hLL h5 kk.toInt.toNat (by omega)
                      have l3 := rw_n_le (LL kk.toInt.toNat)
                      have hby : ∀ d, d < 56 → by_w kg_69 d = rw_b (LL kk.toInt.toNat) d := fun d hd => by
                        have h8 : kw_eq 7 kg_69 (kr fc w kk.toInt.toNat) := fun j hj => e69 j (by omega)
                        rw [kw_bytes.mp h8 d (by omega)]; exact l1 d hd
                      have hz := rw_end hby (by omega) (by omega) (fun d h9 h10 => z3 d h9 (by omega)) z4
                      show _ = ((if isr = 0 then 8 * w else rw_n (LL kk.toInt.toNat) + 2 : Nat) : Int)
                      rw [if_neg h5, z1, hz]
                      rfl
              have hkst : cp_k (fun k => if isr = 0 then 8 * w else rw_n (LL k) + 2) (kk.toInt.toNat + 1) = cp_k (fun k => if isr = 0 then 8 * w else rw_n (LL k) + 2) kk.toInt.toNat + (4 + ((fun k => if isr = 0 then 8 * w else rw_n (LL k) + 2) kk.toInt.toNat + 3) / 4) := rfl
              have hcl2 : 0 ≤ v78.toInt ∧ v78.toInt ≤ 58 := by
                    by_cases h5 : isr = 0
                    · rw [e78.1 h5]; omega
                    · obtain ⟨z, z1, z2, _⟩ := e78.2 h5
                      omega
              refine lv_iconst (v := 4) hx hb d_St_compact_81 (by decide) ?_
              refine lv_topi (fun v81 e81 => ?_)
              have t81 : v81.toInt = 4 := by rw [e81]; rfl
              refine lv_iadd hx hb d_St_compact_82 ?_
              refine lv_topi (fun v82 e82 => ?_)
              have t82 := ia_add e82 ⟨by omega, by omega⟩
              refine lv_iconst (v := 1) hx hb d_St_compact_83 (by decide) ?_
              refine lv_topi (fun v83 e83 => ?_)
              have t83 : v83.toInt = 1 := by rw [e83]; rfl
              refine lv_isub hx hb d_St_compact_84 ?_
              refine lv_topi (fun v84 e84 => ?_)
              have t84 := ia_sub e84 ⟨by omega, by omega⟩
              refine lv_iconst (v := 4) hx hb d_St_compact_85 (by decide) ?_
              refine lv_topi (fun v85 e85 => ?_)
              have t85 : v85.toInt = 4 := by rw [e85]; rfl
              refine lv_idiv hx hb d_St_compact_86 (ia_ne0 (by omega)) ?_
              refine lv_topi (fun v86 e86 => ?_)
              have t86 := ia_div 4 e86 (by omega) (by omega) (by omega)
              refine lv_iadd hx hb d_St_compact_87 ?_
              refine lv_topi (fun v87 e87 => ?_)
              have t87 := ia_add e87 ⟨by omega, by omega⟩
              refine lv_iadd hx hb d_St_compact_88 ?_
              refine lv_topi (fun v88 e88 => ?_)
              have t88 := ia_add e88 ⟨by omega, by omega⟩
              refine lv_istore_n (lv' := [(1, .int v88), (2, .int kk), (0, .ref xo)]) hx hb d_St_compact_89 rfl hl (by decide) rfl (fun ls hl => ?_)
              obtain ⟨v90, e90⟩ : ∃ z, z = kk + Int32.ofInt 1 := ⟨_, rfl⟩
              have t90 := ia_inc 1 e90 (by decide) ⟨by omega, by omega⟩
              refine lv_iinc (k := 1) (lv' := [(2, .int v90), (1, .int v88), (0, .ref xo)]) hx hb d_St_compact_90 hl rfl e90.symm (by decide) rfl (fun ls hl => ?_)
              refine lv_goto hx hb d_St_compact_93 (tgt := 49) (by decide) ?_
              have hPz := hP.sub (ws' := [(xo, .inr (3, [.int sr, .ref kA, .ref kB, .ref kC, .ref kD, .ref tb, .ref so, .int cu])), (kA, .inr (0, [.int isr, .ref wA])), (wA, .inl (cL, kn, .inr (.inl gA))), (kB, .inr (0, [.int isr, .ref wB])), (wB, .inl (cL, kn, .inr (.inl gB))), (kC, .inr (0, [.int isr, .ref wC])), (wC, .inl (cL, kn, .inr (.inl gC))), (kD, .inr (0, [.int isr, .ref wD])), (wD, .inl (cL, kn, .inr (.inl kg_69))), (vl, .inl (cL, nv, .inr (.inl fv))), (so, .inr (1, [.ref bs, .int dp2_8, .int rt2_8, .ref la, .ref ca, .ref ha, .int opn2_8])), (bs, .inl (cI, 4, .inl fb2_8)), (la, .inl (cI, mb, .inl fl2_8)), (ca, .inl (cI, mb, .inl fch2_8)), (ha, .inl (cI, mb, .inl fh2_8)), (tb, .inr (2, [.int wd, .ref cd, .ref vl, .int cnt, .int chg2_8])), (cd, .inl (cL, nc, .inr (.inl fc)))]) [0, 1, 2, 3, 4, 5, 6, 15, 16, 7, 8, 9, 10, 11, 12, 13, 14] rfl
              have hDz := hD.sub (ws' := [(xo, .inr (3, [.int sr, .ref kA, .ref kB, .ref kC, .ref kD, .ref tb, .ref so, .int cu])), (kA, .inr (0, [.int isr, .ref wA])), (wA, .inl (cL, kn, .inr (.inl gA))), (kB, .inr (0, [.int isr, .ref wB])), (wB, .inl (cL, kn, .inr (.inl gB))), (kC, .inr (0, [.int isr, .ref wC])), (wC, .inl (cL, kn, .inr (.inl gC))), (kD, .inr (0, [.int isr, .ref wD])), (wD, .inl (cL, kn, .inr (.inl kg_69))), (vl, .inl (cL, nv, .inr (.inl fv))), (so, .inr (1, [.ref bs, .int dp2_8, .int rt2_8, .ref la, .ref ca, .ref ha, .int opn2_8])), (bs, .inl (cI, 4, .inl fb2_8)), (la, .inl (cI, mb, .inl fl2_8)), (ca, .inl (cI, mb, .inl fch2_8)), (ha, .inl (cI, mb, .inl fh2_8)), (tb, .inr (2, [.int wd, .ref cd, .ref vl, .int cnt, .int chg2_8])), (cd, .inl (cL, nc, .inr (.inl fc)))]) [0, 1, 2, 3, 4, 5, 6, 15, 16, 7, 8, 9, 10, 11, 12, 13, 14] (by decide) rfl
              exact ih49 v90 v88 kg_69 H locs ls hl hPz hDz hS (by omega) (by omega) (by omega) (by rw [show v90.toInt.toNat = kk.toInt.toNat + 1 by omega, hkst]; omega) (by omega)
        exact lp49 _ v47 nn gD H locs ls hl hP hD hS (by omega) (by omega) (by omega) (by rw [h4, show jj.toInt.toNat = 4 by omega, show v47.toInt.toNat = 0 by omega]; show _ = _ + ((0 : Nat) : Int); omega) (Nat.lt_succ_self _)
      · have g20 := ic_nle.mp g20
        refine lv_iload_n hx hb d_St_compact_23 rfl (lv_at hl 1 rfl) ?_
        refine lv_aload_n hx hb d_St_compact_24 rfl (lv_at hl 2 rfl) ?_
        refine va_get (D := D) (ci := 3) (v := .ref so) (C := R_St) (T := F_St) (N := 8) hx hb hts in_St hown hK hP 0 rfl rfl 6 (by decide) (hts _ tw_123) (fun _ h9 => h9) rfl d_St_compact_25 ?_
        refine va_get (D := D) (ci := 1) (v := .ref bs) (C := R_Sh) (T := F_Sh) (N := 7) hx hb hts in_Sh hown hK hP 10 rfl rfl 0 (by decide) (hts _ tw_92) (fun _ h9 => h9) rfl d_St_compact_28 ?_
        refine lv_iload_n hx hb d_St_compact_31 rfl (lv_at hl 0 rfl) ?_
        refine va_iald hx hb hK hP 11 1 rfl rfl (ia_in ⟨by omega, by omega⟩) d_St_compact_32 ?_
        refine lv_topi (fun v32 e32 => ?_)
        have e32 : v32 = fb2_8 jj.toInt.toNat := e32
        have h32 : v32.toInt = ((cb_end (tb_gap w fc) (n - 1)).2.1 jj.toInt.toNat : Int) := by rw [e32]; exact m4 _ (by omega)
        have h32b := hEb jj.toInt.toNat
        refine va_gets hx hb hz1 hS hown (hts _ tw_240) (fun _ h9 => h9) d_St_compact_33 ?_
        refine lv_iload_n hx hb d_St_compact_36 rfl (lv_at hl 0 rfl) ?_
        refine va_ti hx hb hz2 hS (ia_in ⟨by omega, by omega⟩) (v := .int (zc jj.toNatClampNeg)) rfl d_St_compact_37 ?_
        refine lv_topi (fun v37 e37 => ?_)
        have h37 : v37.toInt = (bcell jj.toInt.toNat : Int) := by
              rw [e37]
              have h5 : jj.toNatClampNeg = jj.toInt.toNat := rfl
              rw [h5]
              rcases (show jj.toInt.toNat = 0 ∨ jj.toInt.toNat = 1 ∨ jj.toInt.toNat = 2 ∨ jj.toInt.toNat = 3 by omega) with h6 | h6 | h6 | h6 <;> (rw [h6]; rfl)
        have hbc : bcell jj.toInt.toNat ≤ 260 := bcell_le _
        have hm : v32.toInt * v37.toInt = (((cb_end (tb_gap w fc) (n - 1)).2.1 jj.toInt.toNat * bcell jj.toInt.toNat : Nat) : Int) := by rw [h32, h37, Int.natCast_mul]
        have hmb9 : (cb_end (tb_gap w fc) (n - 1)).2.1 jj.toInt.toNat * bcell jj.toInt.toNat ≤ 1500 * 260 := Nat.mul_le_mul h32b hbc
        refine lv_imul hx hb d_St_compact_38 ?_
        refine lv_topi (fun v38 e38 => ?_)
        have t38 := ia_mul e38 ⟨by rw [hm]; omega, by rw [hm]; omega⟩
        have t38 := t38.trans hm
        have hcz : cz_s (cb_end (tb_gap w fc) (n - 1)).2.1 (jj.toInt.toNat + 1) = cz_s (cb_end (tb_gap w fc) (n - 1)).2.1 jj.toInt.toNat + (cb_end (tb_gap w fc) (n - 1)).2.1 jj.toInt.toNat * bcell jj.toInt.toNat := rfl
        refine lv_iadd hx hb d_St_compact_39 ?_
        refine lv_topi (fun v39 e39 => ?_)
        have t39 := ia_add e39 ⟨by omega, by omega⟩
        refine lv_istore_n (lv' := [(1, .int v39), (2, .int jj), (0, .ref xo)]) hx hb d_St_compact_40 rfl hl (by decide) rfl (fun ls hl => ?_)
        obtain ⟨v41, e41⟩ : ∃ z, z = jj + Int32.ofInt 1 := ⟨_, rfl⟩
        have t41 := ia_inc 1 e41 (by decide) ⟨by omega, by omega⟩
        refine lv_iinc (k := 1) (lv' := [(2, .int v41), (1, .int v39), (0, .ref xo)]) hx hb d_St_compact_41 hl rfl e41.symm (by decide) rfl (fun ls hl => ?_)
        refine lv_goto hx hb d_St_compact_44 (tgt := 15) (by decide) ?_
        exact ih15 v41 v39 ls hl (by omega) (by omega) (by rw [show v41.toInt.toNat = jj.toInt.toNat + 1 by omega, hcz]; omega) (by omega)
  exact lp15 _ v13 v11  ls hl (by omega) (by omega) (by rw [show v13.toInt.toNat = 0 by omega]; exact t11) (Nat.lt_succ_self _)
