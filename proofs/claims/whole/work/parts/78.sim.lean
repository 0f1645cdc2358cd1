/-! class and model stay alike, call by call -/
def SI (w n nc nv kn mb : Nat) (sr isr cu wd cnt chg opn dp rt : Int32) (fc : Nat → Int64) (fb : Nat → Int32) : Prop :=
  wd.toInt = (w : Int) ∧ (1 ≤ w ∧ w ≤ 7) ∧ cnt.toInt = (n : Int) ∧ nc = nv * w ∧ (n ≤ nv ∧ 1 ≤ nv ∧ nv ≤ 3000) ∧ n ≤ 1500 ∧ kn = w ∧ mb = 8 * w ∧ tb_srt w n fc ∧ opn.toInt = 0 ∧ (chg = 0 ∨ chg = 1) ∧ (chg = 0 → sh_ok w fc n fb dp rt) ∧ ((sr.toInt = 0 ∧ w = 1 ∧ isr = 0) ∨ (sr.toInt = 1 ∧ w = 2 ∧ isr = 0) ∨ (sr.toInt = 2 ∧ w = 7 ∧ isr = 1)) ∧ (cu = 0 ∨ cu = 1)
def RL (w n : Nat) (sr cu : Int32) (gA gB gC fc fv : Nat → Int64) (mso mct mfr mcu : Int32) (p1 p2 p5 : Nat → Int64) (p3 p4 p6 p7 : Nat → Int32) (KW : Nat → Nat → Int64) : Prop :=
  mso.toInt = sr.toInt ∧ mcu = cu ∧ mct.toInt = (n : Int) ∧ mfr.toInt = 1500 - (n : Int) ∧ MI n p6 p7 ∧ KRs mso.toInt p1 p2 p3 p4 KW ∧ kw_eq w gA (KW 1500) ∧ kw_eq w gB (KW 1501) ∧ kw_eq w gC (KW 1502) ∧ (∀ k, k < n → kw_eq w (kr fc w k) (KW (p6 k).toInt.toNat)) ∧ ∀ k, k < n → fv k = p5 (p6 k).toInt.toNat
theorem ik {a k : Int32} {z : Int} (h1 : a.toInt = z) (h2 : k.toInt = z) : a = k := ic_eq.mpr (h1.trans h2.symm)
theorem kt0 {k : Int32} (h : k = 0) : k.toInt = 0 := by rw [h]; rfl
theorem kt1 {k : Int32} (h : k = 1) : k.toInt = 1 := by rw [h]; rfl
theorem kt2 {k : Int32} (h : k = 2) : k.toInt = 2 := by rw [h]; rfl
theorem kt3 {k : Int32} (h : k = 3) : k.toInt = 3 := by rw [h]; rfl
theorem xr_xor (x : Int64) : x ^^^ (-9223372036854775808) ^^^ (-9223372036854775808) = x := by rw [Int64.xor_assoc, Int64.xor_self, Int64.xor_zero]
theorem kl64 {a b : Int32} (h : a.toInt = b.toInt) : a.toInt64 = b.toInt64 := by rw [ic_eq.mpr h]
section SIM
variable {w n nv nc kn mb : Nat} {sr isr cu wd cnt chg opn dp rt : Int32} {gA gB gC gD fc fv fo : Nat → Int64} {fb : Nat → Int32} {mso mct mfr mcu kk mth2 : Int32} {p1 p2 p5 : Nat → Int64} {p3 p4 p6 p7 : Nat → Int32} {KW : Nat → Nat → Int64}
theorem rl_isb {g : Nat → Int64} {t q : Nat} (hR : RL w n sr cu gA gB gC fc fv mso mct mfr mcu p1 p2 p5 p3 p4 p6 p7 KW) (hg : kw_eq w g (KW t)) (h : tb_isb w n fc g q) : ob_isb w n (fun k => KW (p6 k).toInt.toNat) (KW t) q := by
  obtain ⟨-, -, -, -, -, -, -, -, -, hrw, -⟩ := hR
  obtain ⟨h1, h2, h3⟩ := h
  exact ⟨h1, fun k hk => kw_lt_congr (hrw k (by omega)) hg (h2 k hk), fun k h4 h5 h6 => h3 k h4 h5 (kw_lt_congr (kw_eq_symm (hrw k h5)) (kw_eq_symm hg) h6)⟩
theorem rl_srt (hR : RL w n sr cu gA gB gC fc fv mso mct mfr mcu p1 p2 p5 p3 p4 p6 p7 KW) (h : tb_srt w n fc) : ob_srt w n (fun k => KW (p6 k).toInt.toNat) := by
  obtain ⟨-, -, -, -, -, -, -, -, -, hrw, -⟩ := hR
  exact fun a b h1 h2 => kw_lt_congr (hrw a (by omega)) (hrw b h2) (h a b h1 h2)
theorem rl_q {g : Nat → Int64} {t q q2 : Nat} (hR : RL w n sr cu gA gB gC fc fv mso mct mfr mcu p1 p2 p5 p3 p4 p6 p7 KW) (hg : kw_eq w g (KW t)) (h : tb_isb w n fc g q) (h2 : ob_isb w n (fun k => KW (p6 k).toInt.toNat) (KW t) q2) : q2 = q ∧ ((q < n ∧ kw_eq w (kr fc w q) g) ↔ (q2 < n ∧ kw_eq w ((fun k => KW (p6 k).toInt.toNat) q2) (KW t))) := by
  have h3 : q2 = q := ob_one h2 (rl_isb hR hg h)
  subst h3
  obtain ⟨-, -, -, -, -, -, -, -, -, hrw, -⟩ := hR
  refine ⟨rfl, fun h4 => ⟨h4.1, ?_⟩, fun h4 => ⟨h4.1, ?_⟩⟩
  · exact kw_eq_trans (kw_eq_symm (hrw q2 h4.1)) (kw_eq_trans h4.2 hg)
  · exact kw_eq_trans (hrw q2 h4.1) (kw_eq_trans h4.2 (kw_eq_symm hg))
theorem rl_up {g : Nat → Int64} {t q q2 : Nat} {up up2 : Int} (hR : RL w n sr cu gA gB gC fc fv mso mct mfr mcu p1 p2 p5 p3 p4 p6 p7 KW) (hg : kw_eq w g (KW t)) (h : tb_isb w n fc g q) (h2 : ob_isb w n (fun k => KW (p6 k).toInt.toNat) (KW t) q2) (hu : (q < n ∧ kw_eq w (kr fc w q) g ∧ up = (q : Int) + 1) ∨ (¬ (q < n ∧ kw_eq w (kr fc w q) g) ∧ up = (q : Int))) (hu2 : ((q2 < n ∧ kw_eq w ((fun k => KW (p6 k).toInt.toNat) q2) (KW t)) ∧ up2 = (q2 : Int) + 1) ∨ (¬ (q2 < n ∧ kw_eq w ((fun k => KW (p6 k).toInt.toNat) q2) (KW t)) ∧ up2 = (q2 : Int))) : q2 = q ∧ up2 = up := by
  obtain ⟨h3, h4⟩ := rl_q hR hg h h2
  refine ⟨h3, ?_⟩
  rcases hu with h5 | h5 <;> rcases hu2 with h6 | h6
  · omega
  · exact absurd (h4.mp ⟨h5.1, h5.2.1⟩) h6.1
  · exact absurd (h4.mpr h6.1) h5.1
  · omega
/-- the key at hand, the other one, the cursor's -/
theorem rl_A {gA2 v p1b p2b : Nat → Int64} {p3b p4b : Nat → Int32} (hR : RL w n sr cu gA gB gC fc fv mso mct mfr mcu p1 p2 p5 p3 p4 p6 p7 KW) (hn : n ≤ 1500) (hk : KRs mso.toInt p1b p2b p3b p4b (kset KW 1500 v)) (hv : kw_eq w gA2 v) : RL w n sr cu gA2 gB gC fc fv mso mct mfr mcu p1b p2b p5 p3b p4b p6 p7 (kset KW 1500 v) := by
  obtain ⟨h1, h2, h3, h4, h5, -, -, h8, h9, h10, h11⟩ := hR
  refine ⟨h1, h2, h3, h4, h5, hk, by rw [kset_at]; exact hv, by rw [kset_ne _ _ _ (by omega)]; exact h8, by rw [kset_ne _ _ _ (by omega)]; exact h9, fun k hk => ?_, h11⟩
  have := h5.1 k hk
  rw [kset_ne _ _ _ (by omega)]; exact h10 k hk
theorem rl_B {gB2 v p1b p2b : Nat → Int64} {p3b p4b : Nat → Int32} (hR : RL w n sr cu gA gB gC fc fv mso mct mfr mcu p1 p2 p5 p3 p4 p6 p7 KW) (hn : n ≤ 1500) (hk : KRs mso.toInt p1b p2b p3b p4b (kset KW 1501 v)) (hv : kw_eq w gB2 v) : RL w n sr cu gA gB2 gC fc fv mso mct mfr mcu p1b p2b p5 p3b p4b p6 p7 (kset KW 1501 v) := by
  obtain ⟨h1, h2, h3, h4, h5, -, h7, -, h9, h10, h11⟩ := hR
  refine ⟨h1, h2, h3, h4, h5, hk, by rw [kset_ne _ _ _ (by omega)]; exact h7, by rw [kset_at]; exact hv, by rw [kset_ne _ _ _ (by omega)]; exact h9, fun k hk => ?_, h11⟩
  have := h5.1 k hk
  rw [kset_ne _ _ _ (by omega)]; exact h10 k hk
theorem rl_C {gC2 v p1b p2b : Nat → Int64} {p3b p4b : Nat → Int32} {cu2 mcu2 : Int32} (hR : RL w n sr cu gA gB gC fc fv mso mct mfr mcu p1 p2 p5 p3 p4 p6 p7 KW) (hn : n ≤ 1500) (hcu : mcu2 = cu2) (hk : KRs mso.toInt p1b p2b p3b p4b (kset KW 1502 v)) (hv : kw_eq w gC2 v) : RL w n sr cu2 gA gB gC2 fc fv mso mct mfr mcu2 p1b p2b p5 p3b p4b p6 p7 (kset KW 1502 v) := by
  obtain ⟨h1, -, h3, h4, h5, -, h7, h8, -, h10, h11⟩ := hR
  refine ⟨h1, hcu, h3, h4, h5, hk, by rw [kset_ne _ _ _ (by omega)]; exact h7, by rw [kset_ne _ _ _ (by omega)]; exact h8, by rw [kset_at]; exact hv, fun k hk => ?_, h11⟩
  have := h5.1 k hk
  rw [kset_ne _ _ _ (by omega)]; exact h10 k hk
theorem rl_go {pl : Int} {rc rm cu2 mcu2 : Int32} {gC2 p1b p2b : Nat → Int64} {p3b p4b : Nat → Int32} (hn : n ≤ 1500) (hR : RL w n sr cu gA gB gC fc fv mso mct mfr mcu p1 p2 p5 p3 p4 p6 p7 KW)
    (hc : (rc = 1 ∧ 0 ≤ pl ∧ pl < (n : Int) ∧ cu2 = 1 ∧ ∀ j, j < w → gC2 j = kr fc w pl.toNat j) ∨ (rc = 0 ∧ ¬ (0 ≤ pl ∧ pl < (n : Int)) ∧ cu2 = cu ∧ ∀ j, j < w → gC2 j = gC j))
    (hm : (rm = 1 ∧ 0 ≤ pl ∧ pl < (n : Int) ∧ mcu2 = 1 ∧ KRs mso.toInt p1b p2b p3b p4b (kset KW 1502 (KW (p6 pl.toNat).toInt.toNat))) ∨ (rm = 0 ∧ ¬ (0 ≤ pl ∧ pl < (n : Int)) ∧ mcu2 = mcu ∧ p1b = p1 ∧ p2b = p2 ∧ p3b = p3 ∧ p4b = p4)) :
    rc = rm ∧ (cu2 = 1 ∨ cu2 = cu) ∧ ∃ KW2, RL w n sr cu2 gA gB gC2 fc fv mso mct mfr mcu2 p1b p2b p5 p3b p4b p6 p7 KW2 := by
  rcases hc with ⟨c1, c2, c3, c4, c5⟩ | ⟨c1, c2, c3, c4⟩
  · rcases hm with ⟨m1, m2, m3, m4, m5⟩ | ⟨m1, m2, -⟩
    · refine ⟨c1.trans m1.symm, Or.inl c4, _, rl_C hR hn (m4.trans c4.symm) m5 ?_⟩
      intro j hj
      rw [c5 j hj]
      exact hR.2.2.2.2.2.2.2.2.2.1 pl.toNat (by omega) j hj
    · exact absurd ⟨c2, c3⟩ m2
  · rcases hm with ⟨m1, m2, m3, -⟩ | ⟨m1, m2, m3, rfl, rfl, rfl, rfl⟩
    · exact absurd ⟨m2, m3⟩ c2
    · refine ⟨c1.trans m1.symm, Or.inr c3, KW, ?_⟩
      obtain ⟨h1, h2, h3, h4, h5, h6, h7, h8, h9, h10⟩ := hR
      exact ⟨h1, by rw [m3, c3]; exact h2, h3, h4, h5, h6, h7, h8, fun j hj => by rw [c4 j hj]; exact h9 j hj, h10⟩
theorem si_cu {cu2 : Int32} (hI : SI w n nc nv kn mb sr isr cu wd cnt chg opn dp rt fc fb) (h : cu2 = 1 ∨ cu2 = cu) : SI w n nc nv kn mb sr isr cu2 wd cnt chg opn dp rt fc fb := by
  obtain ⟨hw, hw7, hcnt, hnc, hnv, hn, hkn, hmb, hs, hopn, hchg, hsh, hsr, hcu⟩ := hI
  exact ⟨hw, hw7, hcnt, hnc, hnv, hn, hkn, hmb, hs, hopn, hchg, hsh, hsr, by rcases h with h | h; exact Or.inr h; rw [h]; exact hcu⟩
/-- letters of a key that is a row -/
theorem rl_let {g : Nat → Int64} {t : Nat} (hI : SI w n nc nv kn mb sr isr cu wd cnt chg opn dp rt fc fb) (hR : RL w n sr cu gA gB gC fc fv mso mct mfr mcu p1 p2 p5 p3 p4 p6 p7 KW) (ht : t < 1503) (hg : kw_eq w g (KW t)) : sr.toInt = 2 → (∀ d, d < 56 → by_w g d = rw_b (mk_let p3 p4 t) d) ∧ (mk_let p3 p4 t).length ≤ 24 := by
  intro h2
  obtain ⟨-, -, -, -, -, -, -, -, -, -, -, -, hsr, -⟩ := hI
  obtain ⟨r1, -, -, -, -, r6, -⟩ := hR
  rcases r6 t ht with h | h | h
  · omega
  · omega
  · refine ⟨fun d hd => ?_, ?_⟩
    · have h7 : w = 7 := by omega
      rw [h7] at hg
      rw [kw_bytes.mp hg d (by omega)]
      exact h.2.1 d hd
    · unfold mk_let; rw [ml_len]; omega
theorem rl_len {t : Nat} : (mk_let p3 p4 t).length = (p4 t).toInt.toNat := by unfold mk_let; rw [ml_len]
theorem sm_number {gA2 : Nat → Int64} {mth2 : Int32} {p1b : Nat → Int64} (hI : SI w n nc nv kn mb sr isr cu wd cnt chg opn dp rt fc fb) (hR : RL w n sr cu gA gB gC fc fv mso mct mfr mcu p1 p2 p5 p3 p4 p6 p7 KW) {x0 : Int64} (hc : (kk = 0 ∧ (sr.toInt = 0) ∧ (∀ j, j < w → gA2 j = if j = 0 then x0 ^^^ (-9223372036854775808) else gA j)) ∨ (kk = 1 ∧ (sr.toInt ≠ 0) ∧ gA2 = gA)) (hm : (mso.toInt ≠ 0 ∧ mth2.toInt = 1 ∧ p1b = p1) ∨ (mso.toInt = 0 ∧ mth2.toInt = 0 ∧ KRs mso.toInt p1b p2 p3 p4 (kset KW 1500 (fun _ => x0 ^^^ (-9223372036854775808))))) : mth2 = kk ∧ ∃ KW2, RL w n sr cu gA2 gB gC fc fv mso mct mfr mcu p1b p2 p5 p3 p4 p6 p7 KW2 := by
  obtain ⟨hw, hw7, hcnt, hnc, hnv, hn, hkn, hmb, hs, hopn, hchg, hsh, hsr, hcu⟩ := id hI
  obtain ⟨r1, r2, r3, r4, r5, r6, r7, r8, r9, r10, r11⟩ := id hR
  
  rcases hc with ⟨c1, c2, c3⟩ | ⟨c1, c2, rfl⟩
  · rcases hm with ⟨m1, -⟩ | ⟨m1, m2, m3⟩
    · omega
    · exact ⟨ik m2 (kt0 c1), _, rl_A hR hn m3 (fun j hj => by rw [c3 j hj, if_pos (by omega)])⟩
  · rcases hm with ⟨m1, m2, rfl⟩ | ⟨m1, -⟩
    · exact ⟨ik m2 (kt1 c1), KW, hR⟩
    · omega
theorem sm_pair {gA2 : Nat → Int64} {mth2 : Int32} {p1b : Nat → Int64} {p2b : Nat → Int64} (hI : SI w n nc nv kn mb sr isr cu wd cnt chg opn dp rt fc fb) (hR : RL w n sr cu gA gB gC fc fv mso mct mfr mcu p1 p2 p5 p3 p4 p6 p7 KW) {x0 y0 : Int64} (hc : (kk = 0 ∧ (sr.toInt = 1) ∧ (gA2 0 = x0 ^^^ (-9223372036854775808) ∧ gA2 1 = y0 ^^^ (-9223372036854775808))) ∨ (kk = 1 ∧ (sr.toInt ≠ 1) ∧ gA2 = gA)) (hm : (mso.toInt ≠ 1 ∧ mth2.toInt = 1 ∧ p1b = p1 ∧ p2b = p2) ∨ (mso.toInt = 1 ∧ mth2.toInt = 0 ∧ KRs mso.toInt p1b p2b p3 p4 (kset KW 1500 (fun j => if j = 0 then x0 ^^^ (-9223372036854775808) else y0 ^^^ (-9223372036854775808))))) : mth2 = kk ∧ ∃ KW2, RL w n sr cu gA2 gB gC fc fv mso mct mfr mcu p1b p2b p5 p3 p4 p6 p7 KW2 := by
  obtain ⟨hw, hw7, hcnt, hnc, hnv, hn, hkn, hmb, hs, hopn, hchg, hsh, hsr, hcu⟩ := id hI
  obtain ⟨r1, r2, r3, r4, r5, r6, r7, r8, r9, r10, r11⟩ := id hR
  
  rcases hc with ⟨c1, c2, c3, c4⟩ | ⟨c1, c2, rfl⟩
  · rcases hm with ⟨m1, -⟩ | ⟨m1, m2, m3⟩
    · omega
    · refine ⟨ik m2 (kt0 c1), _, rl_A hR hn m3 (fun j hj => ?_)⟩
      by_cases h5 : j = 0
      · rw [h5, if_pos rfl]; exact c3
      · rw [if_neg h5, show j = 1 by omega]; exact c4
  · rcases hm with ⟨m1, m2, rfl, rfl⟩ | ⟨m1, -⟩
    · exact ⟨ik m2 (kt1 c1), KW, hR⟩
    · omega
theorem sm_letter {gA2 : Nat → Int64} {fo2 : Nat → Int64} {mth2 : Int32} {p3b : Nat → Int32} {p4b : Nat → Int32} (hI : SI w n nc nv kn mb sr isr cu wd cnt chg opn dp rt fc fb) (hR : RL w n sr cu gA gB gC fc fv mso mct mfr mcu p1 p2 p5 p3 p4 p6 p7 KW) {c0 rm : Int32} (hc : (kk = 0 ∧ (sr.toInt = 2 ∧ 0 ≤ c0.toInt ∧ c0.toInt ≤ 255 ∧ (mk_let p3 p4 1500).length < 24) ∧ (∃ vr : Int32, (vr.toInt = ((mk_let p3 p4 1500).length : Int) + 1 ∧ ∀ d, d < 56 → by_w gA2 d = rw_b ((mk_let p3 p4 1500) ++ [c0.toInt.toNat]) d) ∧ fo2 0 = vr.toInt64)) ∨ (kk = 1 ∧ (sr.toInt ≠ 2) ∧ gA2 = gA ∧ fo2 = fo) ∨ (kk = 2 ∧ (sr.toInt = 2 ∧ (c0.toInt < 0 ∨ 255 < c0.toInt)) ∧ gA2 = gA ∧ fo2 = fo) ∨ (kk = 3 ∧ (sr.toInt = 2 ∧ 0 ≤ c0.toInt ∧ c0.toInt ≤ 255 ∧ (mk_let p3 p4 1500).length = 24) ∧ gA2 = gA ∧ fo2 = fo)) (hm : (mso.toInt ≠ 2 ∧ mth2.toInt = 1 ∧ p3b = p3 ∧ p4b = p4) ∨ (mso.toInt = 2 ∧ ¬ (0 ≤ c0.toInt ∧ c0.toInt ≤ 255) ∧ mth2.toInt = 2 ∧ p3b = p3 ∧ p4b = p4) ∨ (mso.toInt = 2 ∧ (0 ≤ c0.toInt ∧ c0.toInt ≤ 255) ∧ (p4 1500).toInt = 24 ∧ mth2.toInt = 3 ∧ p3b = p3 ∧ p4b = p4) ∨ (mso.toInt = 2 ∧ (0 ≤ c0.toInt ∧ c0.toInt ≤ 255) ∧ (p4 1500).toInt < 24 ∧ mth2.toInt = 0 ∧ rm.toInt = (p4 1500).toInt + 1 ∧ (∀ j, p3b j = if j = 36000 + (p4 1500).toInt.toNat then c0 else p3 j) ∧ (p4b 1500).toInt = (p4 1500).toInt + 1 ∧ ∀ j, ¬ j = 1500 → p4b j = p4 j)) : mth2 = kk ∧ (kk = 0 → fo2 0 = rm.toInt64) ∧ ∃ KW2, RL w n sr cu gA2 gB gC fc fv mso mct mfr mcu p1 p2 p5 p3b p4b p6 p7 KW2 := by
  obtain ⟨hw, hw7, hcnt, hnc, hnv, hn, hkn, hmb, hs, hopn, hchg, hsh, hsr, hcu⟩ := id hI
  obtain ⟨r1, r2, r3, r4, r5, r6, r7, r8, r9, r10, r11⟩ := id hR
  
  have hl4 : (mk_let p3 p4 1500).length = (p4 1500).toInt.toNat := rl_len
  rcases hc with ⟨c1, ⟨c2, c3, c4, c5⟩, vr, ⟨c6, c7⟩, c8⟩ | ⟨c1, c2, rfl, rfl⟩ | ⟨c1, c2, rfl, rfl⟩ | ⟨c1, c2, rfl, rfl⟩
  · rcases hm with ⟨m1, -⟩ | ⟨m1, m2, -⟩ | ⟨m1, m2, m3, -⟩ | ⟨m1, m2, m3, m4, m5, m6, m7, m8⟩
    · omega
    · omega
    · omega
    · have h0 := rl_let hI hR (t := 1500) (by omega) r7 (by omega)
      rcases r6 1500 (by omega) with h9 | h9 | ⟨-, h9, h10, h11, h12⟩
      · omega
      · omega
      have hlet : mk_let p3b p4b 1500 = mk_let p3 p4 1500 ++ [c0.toInt.toNat] := by
        unfold mk_let
        rw [show (p4b 1500).toInt.toNat = (p4 1500).toInt.toNat + 1 by omega, ml_add]
        congr 1
        · refine ml_congr _ _ _ (fun k hk => ?_)
          rw [m6, if_neg (by omega)]
        · rw [m6, if_pos (by omega)]
      have hK : KRs mso.toInt p1 p2 p3b p4b (kset KW 1500 gA2) := by
        intro x hx
        by_cases h5 : x = 1500
        · rw [h5, kset_at]
          refine Or.inr (Or.inr ⟨by omega, fun d hd => by rw [hlet]; exact c7 d hd, by omega, by omega, fun k hk => ?_⟩)
          rw [m6]
          by_cases h6 : 24 * 1500 + k = 36000 + (p4 1500).toInt.toNat
          · rw [if_pos h6]; omega
          · rw [if_neg h6]; exact h12 k (by omega)
        · rw [kset_ne _ _ _ h5]
          refine kr_at (r6 x hx) rfl rfl (m8 x h5) (fun k hk => ?_)
          rw [m6, if_neg (by omega)]
      exact ⟨ik m4 (kt0 c1), fun _ => by rw [c8]; exact kl64 (by omega), _, rl_A hR hn hK (fun j hj => rfl)⟩
  · rcases hm with ⟨m1, m2, rfl, rfl⟩ | ⟨m1, -⟩ | ⟨m1, -⟩ | ⟨m1, -⟩
    · exact ⟨ik m2 (kt1 c1), fun h5 => by rw [c1] at h5; exact absurd h5 (by decide), KW, hR⟩
    · omega
    · omega
    · omega
  · rcases hm with ⟨m1, -⟩ | ⟨m1, m3, m2, rfl, rfl⟩ | ⟨m1, m2, -⟩ | ⟨m1, m2, -⟩
    · omega
    · exact ⟨ik m2 (kt2 c1), fun h5 => by rw [c1] at h5; exact absurd h5 (by decide), KW, hR⟩
    · omega
    · omega
  · rcases hm with ⟨m1, -⟩ | ⟨m1, m3, -⟩ | ⟨m1, m3, m4, m2, rfl, rfl⟩ | ⟨m1, m2, m3, -⟩
    · omega
    · omega
    · exact ⟨ik m2 (kt3 c1), fun h5 => by rw [c1] at h5; exact absurd h5 (by decide), KW, hR⟩
    · omega
theorem sm_erase {gA2 : Nat → Int64} {mth2 : Int32} {p1b : Nat → Int64} {p2b : Nat → Int64} {p4b : Nat → Int32} (hI : SI w n nc nv kn mb sr isr cu wd cnt chg opn dp rt fc fb) (hR : RL w n sr cu gA gB gC fc fv mso mct mfr mcu p1 p2 p5 p3 p4 p6 p7 KW) (hc : (isr = 0 → ∀ j, j < kn → gA2 j = -9223372036854775808) ∧ (¬ isr = 0 → ∀ j, j < kn → gA2 j = 0)) (hm : mth2.toInt = 0 ∧ KRs mso.toInt p1b p2b p3 p4b (kset KW 1500 (fun _ => if mso.toInt = 2 then 0 else -9223372036854775808))) : ∃ KW2, RL w n sr cu gA2 gB gC fc fv mso mct mfr mcu p1b p2b p5 p3 p4b p6 p7 KW2 := by
  obtain ⟨hw, hw7, hcnt, hnc, hnv, hn, hkn, hmb, hs, hopn, hchg, hsh, hsr, hcu⟩ := id hI
  obtain ⟨r1, r2, r3, r4, r5, r6, r7, r8, r9, r10, r11⟩ := id hR
  
  refine ⟨_, rl_A hR hn hm.2 (fun j hj => ?_)⟩
  rcases hsr with h5 | h5 | h5
  · rw [if_neg (by omega)]; exact hc.1 h5.2.2 j (by omega)
  · rw [if_neg (by omega)]; exact hc.1 h5.2.2 j (by omega)
  · rw [if_pos (by omega)]; exact hc.2 (by rw [h5.2.2]; decide) j (by omega)
theorem sm_keep {gB2 : Nat → Int64} {mth2 : Int32} {p1b : Nat → Int64} {p2b : Nat → Int64} {p3b : Nat → Int32} {p4b : Nat → Int32} (hI : SI w n nc nv kn mb sr isr cu wd cnt chg opn dp rt fc fb) (hR : RL w n sr cu gA gB gC fc fv mso mct mfr mcu p1 p2 p5 p3 p4 p6 p7 KW) (hc : ∀ j, j < kn → gB2 j = gA j) (hm : mth2.toInt = 0 ∧ KRs mso.toInt p1b p2b p3b p4b (kset KW 1501 (KW 1500))) : ∃ KW2, RL w n sr cu gA gB2 gC fc fv mso mct mfr mcu p1b p2b p5 p3b p4b p6 p7 KW2 := by
  obtain ⟨hw, hw7, hcnt, hnc, hnv, hn, hkn, hmb, hs, hopn, hchg, hsh, hsr, hcu⟩ := id hI
  obtain ⟨r1, r2, r3, r4, r5, r6, r7, r8, r9, r10, r11⟩ := id hR
  
  exact ⟨_, rl_B hR hn hm.2 (fun j hj => by rw [hc j (by omega)]; exact r7 j hj)⟩
theorem sm_take {gA2 : Nat → Int64} {mth2 : Int32} {p1b : Nat → Int64} {p2b : Nat → Int64} {p3b : Nat → Int32} {p4b : Nat → Int32} (hI : SI w n nc nv kn mb sr isr cu wd cnt chg opn dp rt fc fb) (hR : RL w n sr cu gA gB gC fc fv mso mct mfr mcu p1 p2 p5 p3 p4 p6 p7 KW) (hc : (kk = 0 ∧ (¬ cu = 0) ∧ (∀ j, j < w → gA2 j = gC j)) ∨ (kk = 1 ∧ (cu = 0) ∧ gA2 = gA)) (hm : (mcu = 0 ∧ mth2.toInt = 1 ∧ p1b = p1 ∧ p2b = p2 ∧ p3b = p3 ∧ p4b = p4) ∨ (¬ mcu = 0 ∧ mth2.toInt = 0 ∧ KRs mso.toInt p1b p2b p3b p4b (kset KW 1500 (KW 1502)))) : mth2 = kk ∧ ∃ KW2, RL w n sr cu gA2 gB gC fc fv mso mct mfr mcu p1b p2b p5 p3b p4b p6 p7 KW2 := by
  obtain ⟨hw, hw7, hcnt, hnc, hnv, hn, hkn, hmb, hs, hopn, hchg, hsh, hsr, hcu⟩ := id hI
  obtain ⟨r1, r2, r3, r4, r5, r6, r7, r8, r9, r10, r11⟩ := id hR
  
  rcases hc with ⟨c1, c2, c3⟩ | ⟨c1, c2, rfl⟩
  · rcases hm with ⟨m1, -⟩ | ⟨m1, m2, m3⟩
    · exact absurd (r2.symm.trans m1) c2
    · exact ⟨ik m2 (kt0 c1), _, rl_A hR hn m3 (fun j hj => by rw [c3 j hj]; exact r9 j hj)⟩
  · rcases hm with ⟨m1, m2, rfl, rfl, rfl, rfl⟩ | ⟨m1, -⟩
    · exact ⟨ik m2 (kt1 c1), KW, hR⟩
    · exact absurd (r2.trans c2) m1
theorem sm_get {fo2 : Nat → Int64} {mth2 : Int32} (hI : SI w n nc nv kn mb sr isr cu wd cnt chg opn dp rt fc fb) (hR : RL w n sr cu gA gB gC fc fv mso mct mfr mcu p1 p2 p5 p3 p4 p6 p7 KW) {rm : Int64} (hc : (kk = 0 ∧ (∃ q, tb_isb w n fc gA q ∧ (q < n ∧ kw_eq w (kr fc w q) gA)) ∧ (∃ vr : Int64, (∃ q, tb_isb w n fc gA q ∧ (q < n ∧ kw_eq w (kr fc w q) gA) ∧ vr = fv q) ∧ fo2 0 = vr)) ∨ (kk = 1 ∧ (∃ q, tb_isb w n fc gA q ∧ ¬ (q < n ∧ kw_eq w (kr fc w q) gA)) ∧ fo2 = fo)) (hm : ∃ q : Nat, ob_isb w n (fun k => KW (p6 k).toInt.toNat) (KW 1500) q ∧ (((q < n ∧ kw_eq w ((fun k => KW (p6 k).toInt.toNat) q) (KW 1500)) ∧ mth2.toInt = 0 ∧ rm = p5 (p6 q).toInt.toNat) ∨ (¬ (q < n ∧ kw_eq w ((fun k => KW (p6 k).toInt.toNat) q) (KW 1500)) ∧ mth2.toInt = 1))) : mth2 = kk ∧ (kk = 0 → fo2 0 = rm) := by
  obtain ⟨hw, hw7, hcnt, hnc, hnv, hn, hkn, hmb, hs, hopn, hchg, hsh, hsr, hcu⟩ := id hI
  obtain ⟨r1, r2, r3, r4, r5, r6, r7, r8, r9, r10, r11⟩ := id hR
  
  obtain ⟨q2, m1, m2⟩ := hm
  rcases hc with ⟨c1, -, vr, ⟨q, c2, c3, c4⟩, c5⟩ | ⟨c1, ⟨q, c2, c3⟩, rfl⟩
  · obtain ⟨rfl, h6⟩ := rl_q hR r7 c2 m1
    rcases m2 with ⟨m3, m4, m5⟩ | ⟨m3, -⟩
    · exact ⟨ik m4 (kt0 c1), fun _ => by rw [c5, c4, m5]; exact r11 q2 c3.1⟩
    · exact absurd (h6.mp c3) m3
  · obtain ⟨rfl, h6⟩ := rl_q hR r7 c2 m1
    rcases m2 with ⟨m3, -⟩ | ⟨m3, m4⟩
    · exact absurd (h6.mpr m3) c3
    · exact ⟨ik m4 (kt1 c1), fun h5 => by rw [c1] at h5; exact absurd h5 (by decide)⟩
theorem sm_value {fo2 : Nat → Int64} {mth2 : Int32} (hI : SI w n nc nv kn mb sr isr cu wd cnt chg opn dp rt fc fb) (hR : RL w n sr cu gA gB gC fc fv mso mct mfr mcu p1 p2 p5 p3 p4 p6 p7 KW) {rm : Int64} (hc : (kk = 0 ∧ (¬ cu = 0 ∧ ∃ q, tb_isb w n fc gC q ∧ (q < n ∧ kw_eq w (kr fc w q) gC)) ∧ (∃ vr : Int64, (∃ q, tb_isb w n fc gC q ∧ (q < n ∧ kw_eq w (kr fc w q) gC) ∧ vr = fv q) ∧ fo2 0 = vr)) ∨ (kk = 1 ∧ (cu = 0 ∨ ∃ q, tb_isb w n fc gC q ∧ ¬ (q < n ∧ kw_eq w (kr fc w q) gC)) ∧ fo2 = fo)) (hm : (mcu = 0 ∧ mth2.toInt = 1) ∨ (¬ mcu = 0 ∧ ∃ q : Nat, ob_isb w n (fun k => KW (p6 k).toInt.toNat) (KW 1502) q ∧ (((q < n ∧ kw_eq w ((fun k => KW (p6 k).toInt.toNat) q) (KW 1502)) ∧ mth2.toInt = 0 ∧ rm = p5 (p6 q).toInt.toNat) ∨ (¬ (q < n ∧ kw_eq w ((fun k => KW (p6 k).toInt.toNat) q) (KW 1502)) ∧ mth2.toInt = 1)))) : mth2 = kk ∧ (kk = 0 → fo2 0 = rm) := by
  obtain ⟨hw, hw7, hcnt, hnc, hnv, hn, hkn, hmb, hs, hopn, hchg, hsh, hsr, hcu⟩ := id hI
  obtain ⟨r1, r2, r3, r4, r5, r6, r7, r8, r9, r10, r11⟩ := id hR
  
  rcases hc with ⟨c1, ⟨c0, -⟩, vr, ⟨q, c2, c3, c4⟩, c5⟩ | ⟨c1, c2, rfl⟩
  · rcases hm with ⟨m0, -⟩ | ⟨m0, q2, m1, m2⟩
    · exact absurd (r2.symm.trans m0) c0
    obtain ⟨rfl, h6⟩ := rl_q hR r9 c2 m1
    rcases m2 with ⟨m3, m4, m5⟩ | ⟨m3, -⟩
    · exact ⟨ik m4 (kt0 c1), fun _ => by rw [c5, c4, m5]; exact r11 q2 c3.1⟩
    · exact absurd (h6.mp c3) m3
  · refine ⟨?_, fun h5 => by rw [c1] at h5; exact absurd h5 (by decide)⟩
    rcases hm with ⟨m0, m1⟩ | ⟨m0, q2, m1, m2⟩
    · exact ik m1 (kt1 c1)
    rcases c2 with c2 | ⟨q, c2, c3⟩
    · exact absurd (r2.trans c2) m0
    obtain ⟨rfl, h6⟩ := rl_q hR r9 c2 m1
    rcases m2 with ⟨m3, -⟩ | ⟨m3, m4⟩
    · exact absurd (h6.mpr m3) c3
    · exact ik m4 (kt1 c1)
theorem sm_there {mth2 : Int32} (hI : SI w n nc nv kn mb sr isr cu wd cnt chg opn dp rt fc fb) (hR : RL w n sr cu gA gB gC fc fv mso mct mfr mcu p1 p2 p5 p3 p4 p6 p7 KW) {rc rm : Int32} (hc : (rc = 0 ∨ rc = 1) ∧ (rc = 1 ↔ ¬ cu = 0 ∧ ∃ q, tb_isb w n fc gC q ∧ q < n ∧ kw_eq w (kr fc w q) gC)) (hm : mth2.toInt = 0 ∧ ((rm = 1 ∧ ¬ mcu = 0 ∧ ∃ q, ob_isb w n (fun k => KW (p6 k).toInt.toNat) (KW 1502) q ∧ (q < n ∧ kw_eq w ((fun k => KW (p6 k).toInt.toNat) q) (KW 1502))) ∨ (rm = 0 ∧ (mcu = 0 ∨ ∃ q, ob_isb w n (fun k => KW (p6 k).toInt.toNat) (KW 1502) q ∧ ¬ (q < n ∧ kw_eq w ((fun k => KW (p6 k).toInt.toNat) q) (KW 1502)))))) : rc = rm := by
  obtain ⟨hw, hw7, hcnt, hnc, hnv, hn, hkn, hmb, hs, hopn, hchg, hsh, hsr, hcu⟩ := id hI
  obtain ⟨r1, r2, r3, r4, r5, r6, r7, r8, r9, r10, r11⟩ := id hR
  
  obtain ⟨c1, c2⟩ := hc
  obtain ⟨-, ⟨m1, m2, q2, m3, m4⟩ | ⟨m1, m2⟩⟩ := hm
  · rw [m1]
    refine c2.mpr ⟨by rw [← r2]; exact m2, q2, ?_⟩
    have h5 : ∃ q, tb_isb w n fc gC q := by
      refine ⟨q2, m3.1, fun k hk => ?_, fun k h6 h7 h8 => ?_⟩
      · exact kw_lt_congr (kw_eq_symm (r10 k (by have := m3.1; omega))) (kw_eq_symm r9) (m3.2.1 k hk)
      · exact m3.2.2 k h6 h7 (kw_lt_congr (r10 k h7) r9 h8)
    obtain ⟨q, h5⟩ := h5
    obtain ⟨rfl, h6⟩ := rl_q hR r9 h5 m3
    exact ⟨h5, h6.mpr m4⟩
  · rcases c1 with c1 | c1
    · rw [c1, m1]
    · exfalso
      obtain ⟨c3, q, c4, c5⟩ := c2.mp c1
      rcases m2 with m2 | ⟨q2, m3, m4⟩
      · exact c3 (r2.symm.trans m2)
      · obtain ⟨rfl, h6⟩ := rl_q hR r9 c4 m3
        exact m4 (h6.mp c5)
theorem sm_rank {mth2 : Int32} (hI : SI w n nc nv kn mb sr isr cu wd cnt chg opn dp rt fc fb) (hR : RL w n sr cu gA gB gC fc fv mso mct mfr mcu p1 p2 p5 p3 p4 p6 p7 KW) {rc rm : Int32} (hc : ∃ q : Nat, rc.toInt = (q : Int) ∧ tb_isb w n fc gA q) (hm : mth2.toInt = 0 ∧ ∃ q : Nat, rm.toInt = (q : Int) ∧ ob_isb w n (fun k => KW (p6 k).toInt.toNat) (KW 1500) q) : rc = rm := by
  obtain ⟨hw, hw7, hcnt, hnc, hnv, hn, hkn, hmb, hs, hopn, hchg, hsh, hsr, hcu⟩ := id hI
  obtain ⟨r1, r2, r3, r4, r5, r6, r7, r8, r9, r10, r11⟩ := id hR
  
  obtain ⟨q, c1, c2⟩ := hc
  obtain ⟨-, q2, m1, m2⟩ := hm
  obtain ⟨rfl, -⟩ := rl_q hR r7 c2 m2
  exact ik c1 m1
theorem sm_range {mth2 : Int32} (hI : SI w n nc nv kn mb sr isr cu wd cnt chg opn dp rt fc fb) (hR : RL w n sr cu gA gB gC fc fv mso mct mfr mcu p1 p2 p5 p3 p4 p6 p7 KW) {rc rm : Int32} (hc : ∃ (q q2 : Nat) (up : Int), tb_isb w n fc gA q ∧ tb_isb w n fc gB q2 ∧ ((q < n ∧ kw_eq w (kr fc w q) gA ∧ up = (q : Int) + 1) ∨ (¬ (q < n ∧ kw_eq w (kr fc w q) gA) ∧ up = (q : Int))) ∧ rc.toInt = if 0 < up - q2 then up - q2 else 0) (hm : mth2.toInt = 0 ∧ (∃ (q q2 : Nat) (up : Int), ob_isb w n (fun k => KW (p6 k).toInt.toNat) (KW 1500) q ∧ ob_isb w n (fun k => KW (p6 k).toInt.toNat) (KW 1501) q2 ∧ (((q < n ∧ kw_eq w ((fun k => KW (p6 k).toInt.toNat) q) (KW 1500)) ∧ up = (q : Int) + 1) ∨ (¬ (q < n ∧ kw_eq w ((fun k => KW (p6 k).toInt.toNat) q) (KW 1500)) ∧ up = (q : Int))) ∧ rm.toInt = if 0 < up - q2 then up - q2 else 0)) : rc = rm := by
  obtain ⟨hw, hw7, hcnt, hnc, hnv, hn, hkn, hmb, hs, hopn, hchg, hsh, hsr, hcu⟩ := id hI
  obtain ⟨r1, r2, r3, r4, r5, r6, r7, r8, r9, r10, r11⟩ := id hR
  
  obtain ⟨q, q2, up, c1, c2, c3, c4⟩ := hc
  obtain ⟨-, p, p2, up2, m1, m2, m3, m4⟩ := hm
  obtain ⟨rfl, rfl⟩ := rl_up hR r7 c1 m1 c3 m3
  obtain ⟨rfl, -⟩ := rl_q hR r8 c2 m2
  exact ik c4 m4
theorem sm_seek {cu2 : Int32} {gC2 : Nat → Int64} {fo2 : Nat → Int64} {mth2 : Int32} {mcu2 : Int32} {p1b : Nat → Int64} {p2b : Nat → Int64} {p3b : Nat → Int32} {p4b : Nat → Int32} (hI : SI w n nc nv kn mb sr isr cu wd cnt chg opn dp rt fc fb) (hR : RL w n sr cu gA gB gC fc fv mso mct mfr mcu p1 p2 p5 p3 p4 p6 p7 KW) {ho rm : Int32} (hc : (kk = 0 ∧ (0 ≤ ho.toInt ∧ ho.toInt ≤ 5) ∧ (∃ vr : Int32, ((ho.toInt = 0 ∧ ∃ (q : Nat) (up : Int), tb_isb w n fc gA q ∧ ((q < n ∧ kw_eq w (kr fc w q) gA ∧ up = (q : Int) + 1) ∨ (¬ (q < n ∧ kw_eq w (kr fc w q) gA) ∧ up = (q : Int))) ∧ ((vr = 1 ∧ 0 ≤ (up - 1) ∧ (up - 1) < (n : Int) ∧ cu2 = 1 ∧ ∀ j, j < w → gC2 j = kr fc w ((up - 1)).toNat j) ∨ (vr = 0 ∧ ¬ (0 ≤ (up - 1) ∧ (up - 1) < (n : Int)) ∧ cu2 = cu ∧ ∀ j, j < w → gC2 j = gC j))) ∨ (ho.toInt = 1 ∧ ∃ q : Nat, tb_isb w n fc gA q ∧ ((vr = 1 ∧ 0 ≤ ((q : Int)) ∧ ((q : Int)) < (n : Int) ∧ cu2 = 1 ∧ ∀ j, j < w → gC2 j = kr fc w (((q : Int))).toNat j) ∨ (vr = 0 ∧ ¬ (0 ≤ ((q : Int)) ∧ ((q : Int)) < (n : Int)) ∧ cu2 = cu ∧ ∀ j, j < w → gC2 j = gC j))) ∨ (ho.toInt = 2 ∧ ∃ q : Nat, tb_isb w n fc gA q ∧ ((vr = 1 ∧ 0 ≤ ((q : Int) - 1) ∧ ((q : Int) - 1) < (n : Int) ∧ cu2 = 1 ∧ ∀ j, j < w → gC2 j = kr fc w (((q : Int) - 1)).toNat j) ∨ (vr = 0 ∧ ¬ (0 ≤ ((q : Int) - 1) ∧ ((q : Int) - 1) < (n : Int)) ∧ cu2 = cu ∧ ∀ j, j < w → gC2 j = gC j))) ∨ (ho.toInt = 3 ∧ ∃ (q : Nat) (up : Int), tb_isb w n fc gA q ∧ ((q < n ∧ kw_eq w (kr fc w q) gA ∧ up = (q : Int) + 1) ∨ (¬ (q < n ∧ kw_eq w (kr fc w q) gA) ∧ up = (q : Int))) ∧ ((vr = 1 ∧ 0 ≤ (up) ∧ (up) < (n : Int) ∧ cu2 = 1 ∧ ∀ j, j < w → gC2 j = kr fc w ((up)).toNat j) ∨ (vr = 0 ∧ ¬ (0 ≤ (up) ∧ (up) < (n : Int)) ∧ cu2 = cu ∧ ∀ j, j < w → gC2 j = gC j))) ∨ (ho.toInt = 4 ∧ ((vr = 1 ∧ 0 ≤ (0 : Int) ∧ (0 : Int) < (n : Int) ∧ cu2 = 1 ∧ ∀ j, j < w → gC2 j = kr fc w ((0 : Int)).toNat j) ∨ (vr = 0 ∧ ¬ (0 ≤ (0 : Int) ∧ (0 : Int) < (n : Int)) ∧ cu2 = cu ∧ ∀ j, j < w → gC2 j = gC j))) ∨ (ho.toInt = 5 ∧ ((vr = 1 ∧ 0 ≤ ((n : Int) - 1) ∧ ((n : Int) - 1) < (n : Int) ∧ cu2 = 1 ∧ ∀ j, j < w → gC2 j = kr fc w (((n : Int) - 1)).toNat j) ∨ (vr = 0 ∧ ¬ (0 ≤ ((n : Int) - 1) ∧ ((n : Int) - 1) < (n : Int)) ∧ cu2 = cu ∧ ∀ j, j < w → gC2 j = gC j)))) ∧ fo2 0 = if vr = 0 then 0 else 1)) ∨ (kk = 1 ∧ (ho.toInt < 0 ∨ 5 < ho.toInt) ∧ cu2 = cu ∧ gC2 = gC ∧ fo2 = fo)) (hm : ((ho.toInt < 0 ∨ 5 < ho.toInt) ∧ mth2.toInt = 1 ∧ mcu2 = mcu ∧ p1b = p1 ∧ p2b = p2 ∧ p3b = p3 ∧ p4b = p4) ∨ (0 ≤ ho.toInt ∧ ho.toInt ≤ 5 ∧ mth2.toInt = 0 ∧ ((ho.toInt = 0 ∧ ∃ (q : Nat) (up : Int), ob_isb w n (fun k => KW (p6 k).toInt.toNat) (KW 1500) q ∧ (((q < n ∧ kw_eq w ((fun k => KW (p6 k).toInt.toNat) q) (KW 1500)) ∧ up = (q : Int) + 1) ∨ (¬ (q < n ∧ kw_eq w ((fun k => KW (p6 k).toInt.toNat) q) (KW 1500)) ∧ up = (q : Int))) ∧ ((rm = 1 ∧ 0 ≤ (up - 1) ∧ (up - 1) < (n : Int) ∧ mcu2 = 1 ∧ KRs mso.toInt p1b p2b p3b p4b (kset KW 1502 (KW (p6 ((up - 1)).toNat).toInt.toNat))) ∨ (rm = 0 ∧ ¬ (0 ≤ (up - 1) ∧ (up - 1) < (n : Int)) ∧ mcu2 = mcu ∧ p1b = p1 ∧ p2b = p2 ∧ p3b = p3 ∧ p4b = p4))) ∨ (ho.toInt = 1 ∧ ∃ q : Nat, ob_isb w n (fun k => KW (p6 k).toInt.toNat) (KW 1500) q ∧ ((rm = 1 ∧ 0 ≤ ((q : Int)) ∧ ((q : Int)) < (n : Int) ∧ mcu2 = 1 ∧ KRs mso.toInt p1b p2b p3b p4b (kset KW 1502 (KW (p6 (((q : Int))).toNat).toInt.toNat))) ∨ (rm = 0 ∧ ¬ (0 ≤ ((q : Int)) ∧ ((q : Int)) < (n : Int)) ∧ mcu2 = mcu ∧ p1b = p1 ∧ p2b = p2 ∧ p3b = p3 ∧ p4b = p4))) ∨ (ho.toInt = 2 ∧ ∃ q : Nat, ob_isb w n (fun k => KW (p6 k).toInt.toNat) (KW 1500) q ∧ ((rm = 1 ∧ 0 ≤ ((q : Int) - 1) ∧ ((q : Int) - 1) < (n : Int) ∧ mcu2 = 1 ∧ KRs mso.toInt p1b p2b p3b p4b (kset KW 1502 (KW (p6 (((q : Int) - 1)).toNat).toInt.toNat))) ∨ (rm = 0 ∧ ¬ (0 ≤ ((q : Int) - 1) ∧ ((q : Int) - 1) < (n : Int)) ∧ mcu2 = mcu ∧ p1b = p1 ∧ p2b = p2 ∧ p3b = p3 ∧ p4b = p4))) ∨ (ho.toInt = 3 ∧ ∃ (q : Nat) (up : Int), ob_isb w n (fun k => KW (p6 k).toInt.toNat) (KW 1500) q ∧ (((q < n ∧ kw_eq w ((fun k => KW (p6 k).toInt.toNat) q) (KW 1500)) ∧ up = (q : Int) + 1) ∨ (¬ (q < n ∧ kw_eq w ((fun k => KW (p6 k).toInt.toNat) q) (KW 1500)) ∧ up = (q : Int))) ∧ ((rm = 1 ∧ 0 ≤ (up) ∧ (up) < (n : Int) ∧ mcu2 = 1 ∧ KRs mso.toInt p1b p2b p3b p4b (kset KW 1502 (KW (p6 ((up)).toNat).toInt.toNat))) ∨ (rm = 0 ∧ ¬ (0 ≤ (up) ∧ (up) < (n : Int)) ∧ mcu2 = mcu ∧ p1b = p1 ∧ p2b = p2 ∧ p3b = p3 ∧ p4b = p4))) ∨ (ho.toInt = 4 ∧ ((rm = 1 ∧ 0 ≤ (0 : Int) ∧ (0 : Int) < (n : Int) ∧ mcu2 = 1 ∧ KRs mso.toInt p1b p2b p3b p4b (kset KW 1502 (KW (p6 ((0 : Int)).toNat).toInt.toNat))) ∨ (rm = 0 ∧ ¬ (0 ≤ (0 : Int) ∧ (0 : Int) < (n : Int)) ∧ mcu2 = mcu ∧ p1b = p1 ∧ p2b = p2 ∧ p3b = p3 ∧ p4b = p4))) ∨ (ho.toInt = 5 ∧ ((rm = 1 ∧ 0 ≤ ((n : Int) - 1) ∧ ((n : Int) - 1) < (n : Int) ∧ mcu2 = 1 ∧ KRs mso.toInt p1b p2b p3b p4b (kset KW 1502 (KW (p6 (((n : Int) - 1)).toNat).toInt.toNat))) ∨ (rm = 0 ∧ ¬ (0 ≤ ((n : Int) - 1) ∧ ((n : Int) - 1) < (n : Int)) ∧ mcu2 = mcu ∧ p1b = p1 ∧ p2b = p2 ∧ p3b = p3 ∧ p4b = p4)))))) : mth2 = kk ∧ (kk = 0 → fo2 0 = if rm = 0 then 0 else 1) ∧ SI w n nc nv kn mb sr isr cu2 wd cnt chg opn dp rt fc fb ∧ ∃ KW2, RL w n sr cu2 gA gB gC2 fc fv mso mct mfr mcu2 p1b p2b p5 p3b p4b p6 p7 KW2 := by
  obtain ⟨hw, hw7, hcnt, hnc, hnv, hn, hkn, hmb, hs, hopn, hchg, hsh, hsr, hcu⟩ := id hI
  obtain ⟨r1, r2, r3, r4, r5, r6, r7, r8, r9, r10, r11⟩ := id hR
  
  rcases hc with ⟨c1, c2, vr, c3, c4⟩ | ⟨c1, c2, rfl, rfl, rfl⟩
  · rcases hm with ⟨m1, -⟩ | ⟨m1, m2, m3, m4⟩
    · omega
    refine ⟨ik m3 (kt0 c1), ?_⟩
    suffices h9 : vr = rm ∧ (cu2 = 1 ∨ cu2 = cu) ∧ ∃ KW2, RL w n sr cu2 gA gB gC2 fc fv mso mct mfr mcu2 p1b p2b p5 p3b p4b p6 p7 KW2 by
      exact ⟨fun _ => by rw [c4, h9.1], si_cu hI h9.2.1, h9.2.2⟩
    rcases c3 with ⟨c5, q, up, c6, c7, c8⟩ | ⟨c5, q, c6, c8⟩ | ⟨c5, q, c6, c8⟩ | ⟨c5, q, up, c6, c7, c8⟩ | ⟨c5, c8⟩ | ⟨c5, c8⟩
    · rcases m4 with ⟨m5, p, up2, m6, m7, m8⟩ | ⟨m5, -⟩ | ⟨m5, -⟩ | ⟨m5, -⟩ | ⟨m5, -⟩ | ⟨m5, -⟩
      · obtain ⟨rfl, rfl⟩ := rl_up hR r7 c6 m6 c7 m7
        exact rl_go hn hR c8 m8
      all_goals omega
    · rcases m4 with ⟨m5, -⟩ | ⟨m5, p, m6, m8⟩ | ⟨m5, -⟩ | ⟨m5, -⟩ | ⟨m5, -⟩ | ⟨m5, -⟩
      · omega
      · obtain ⟨rfl, -⟩ := rl_q hR r7 c6 m6
        exact rl_go hn hR c8 m8
      all_goals omega
    · rcases m4 with ⟨m5, -⟩ | ⟨m5, -⟩ | ⟨m5, p, m6, m8⟩ | ⟨m5, -⟩ | ⟨m5, -⟩ | ⟨m5, -⟩
      · omega
      · omega
      · obtain ⟨rfl, -⟩ := rl_q hR r7 c6 m6
        exact rl_go hn hR c8 m8
      all_goals omega
    · rcases m4 with ⟨m5, -⟩ | ⟨m5, -⟩ | ⟨m5, -⟩ | ⟨m5, p, up2, m6, m7, m8⟩ | ⟨m5, -⟩ | ⟨m5, -⟩
      · omega
      · omega
      · omega
      · obtain ⟨rfl, rfl⟩ := rl_up hR r7 c6 m6 c7 m7
        exact rl_go hn hR c8 m8
      all_goals omega
    · rcases m4 with ⟨m5, -⟩ | ⟨m5, -⟩ | ⟨m5, -⟩ | ⟨m5, -⟩ | ⟨m5, m8⟩ | ⟨m5, -⟩
      · omega
      · omega
      · omega
      · omega
      · exact rl_go hn hR c8 m8
      · omega
    · rcases m4 with ⟨m5, -⟩ | ⟨m5, -⟩ | ⟨m5, -⟩ | ⟨m5, -⟩ | ⟨m5, -⟩ | ⟨m5, m8⟩
      · omega
      · omega
      · omega
      · omega
      · omega
      · exact rl_go hn hR c8 m8
  · rcases hm with ⟨m1, m2, rfl, rfl, rfl, rfl, rfl⟩ | ⟨m1, m2, -⟩
    · exact ⟨ik m2 (kt1 c1), fun h5 => by rw [c1] at h5; exact absurd h5 (by decide), hI, KW, hR⟩
    · omega
theorem sm_move {cu2 : Int32} {gC2 : Nat → Int64} {fo2 : Nat → Int64} {mth2 : Int32} {mcu2 : Int32} {p1b : Nat → Int64} {p2b : Nat → Int64} {p3b : Nat → Int32} {p4b : Nat → Int32} (hI : SI w n nc nv kn mb sr isr cu wd cnt chg opn dp rt fc fb) (hR : RL w n sr cu gA gB gC fc fv mso mct mfr mcu p1 p2 p5 p3 p4 p6 p7 KW) {on rm : Int32} (hc : (kk = 0 ∧ (¬ cu = 0) ∧ (∃ vr : Int32, ((¬ on = 0 ∧ ∃ (q : Nat) (up : Int), tb_isb w n fc gC q ∧ ((q < n ∧ kw_eq w (kr fc w q) gC ∧ up = (q : Int) + 1) ∨ (¬ (q < n ∧ kw_eq w (kr fc w q) gC) ∧ up = (q : Int))) ∧ ((vr = 1 ∧ 0 ≤ (up) ∧ (up) < (n : Int) ∧ cu2 = 1 ∧ ∀ j, j < w → gC2 j = kr fc w ((up)).toNat j) ∨ (vr = 0 ∧ ¬ (0 ≤ (up) ∧ (up) < (n : Int)) ∧ cu2 = cu ∧ ∀ j, j < w → gC2 j = gC j))) ∨ (on = 0 ∧ ∃ q : Nat, tb_isb w n fc gC q ∧ ((vr = 1 ∧ 0 ≤ ((q : Int) - 1) ∧ ((q : Int) - 1) < (n : Int) ∧ cu2 = 1 ∧ ∀ j, j < w → gC2 j = kr fc w (((q : Int) - 1)).toNat j) ∨ (vr = 0 ∧ ¬ (0 ≤ ((q : Int) - 1) ∧ ((q : Int) - 1) < (n : Int)) ∧ cu2 = cu ∧ ∀ j, j < w → gC2 j = gC j)))) ∧ fo2 0 = if vr = 0 then 0 else 1)) ∨ (kk = 1 ∧ (cu = 0) ∧ cu2 = cu ∧ gC2 = gC ∧ fo2 = fo)) (hm : (mcu = 0 ∧ mth2.toInt = 1 ∧ mcu2 = mcu ∧ p1b = p1 ∧ p2b = p2 ∧ p3b = p3 ∧ p4b = p4) ∨ (¬ mcu = 0 ∧ mth2.toInt = 0 ∧ ((¬ on = 0 ∧ ∃ (q : Nat) (up : Int), ob_isb w n (fun k => KW (p6 k).toInt.toNat) (KW 1502) q ∧ (((q < n ∧ kw_eq w ((fun k => KW (p6 k).toInt.toNat) q) (KW 1502)) ∧ up = (q : Int) + 1) ∨ (¬ (q < n ∧ kw_eq w ((fun k => KW (p6 k).toInt.toNat) q) (KW 1502)) ∧ up = (q : Int))) ∧ ((rm = 1 ∧ 0 ≤ (up) ∧ (up) < (n : Int) ∧ mcu2 = 1 ∧ KRs mso.toInt p1b p2b p3b p4b (kset KW 1502 (KW (p6 ((up)).toNat).toInt.toNat))) ∨ (rm = 0 ∧ ¬ (0 ≤ (up) ∧ (up) < (n : Int)) ∧ mcu2 = mcu ∧ p1b = p1 ∧ p2b = p2 ∧ p3b = p3 ∧ p4b = p4))) ∨ (on = 0 ∧ ∃ q : Nat, ob_isb w n (fun k => KW (p6 k).toInt.toNat) (KW 1502) q ∧ ((rm = 1 ∧ 0 ≤ ((q : Int) - 1) ∧ ((q : Int) - 1) < (n : Int) ∧ mcu2 = 1 ∧ KRs mso.toInt p1b p2b p3b p4b (kset KW 1502 (KW (p6 (((q : Int) - 1)).toNat).toInt.toNat))) ∨ (rm = 0 ∧ ¬ (0 ≤ ((q : Int) - 1) ∧ ((q : Int) - 1) < (n : Int)) ∧ mcu2 = mcu ∧ p1b = p1 ∧ p2b = p2 ∧ p3b = p3 ∧ p4b = p4)))))) : mth2 = kk ∧ (kk = 0 → fo2 0 = if rm = 0 then 0 else 1) ∧ SI w n nc nv kn mb sr isr cu2 wd cnt chg opn dp rt fc fb ∧ ∃ KW2, RL w n sr cu2 gA gB gC2 fc fv mso mct mfr mcu2 p1b p2b p5 p3b p4b p6 p7 KW2 := by
  obtain ⟨hw, hw7, hcnt, hnc, hnv, hn, hkn, hmb, hs, hopn, hchg, hsh, hsr, hcu⟩ := id hI
  obtain ⟨r1, r2, r3, r4, r5, r6, r7, r8, r9, r10, r11⟩ := id hR
  
  rcases hc with ⟨c1, c2, vr, c3, c4⟩ | ⟨c1, c2, rfl, rfl, rfl⟩
  · rcases hm with ⟨m1, -⟩ | ⟨m1, m3, m4⟩
    · exact absurd (r2.symm.trans m1) c2
    refine ⟨ik m3 (kt0 c1), ?_⟩
    suffices h9 : vr = rm ∧ (cu2 = 1 ∨ cu2 = cu) ∧ ∃ KW2, RL w n sr cu2 gA gB gC2 fc fv mso mct mfr mcu2 p1b p2b p5 p3b p4b p6 p7 KW2 by
      exact ⟨fun _ => by rw [c4, h9.1], si_cu hI h9.2.1, h9.2.2⟩
    rcases c3 with ⟨c5, q, up, c6, c7, c8⟩ | ⟨c5, q, c6, c8⟩
    · rcases m4 with ⟨m5, p, up2, m6, m7, m8⟩ | ⟨m5, -⟩
      · obtain ⟨rfl, rfl⟩ := rl_up hR r9 c6 m6 c7 m7
        exact rl_go hn hR c8 m8
      · exact absurd m5 c5
    · rcases m4 with ⟨m5, -⟩ | ⟨m5, p, m6, m8⟩
      · exact absurd c5 m5
      · obtain ⟨rfl, -⟩ := rl_q hR r9 c6 m6
        exact rl_go hn hR c8 m8
  · rcases hm with ⟨m1, m2, rfl, rfl, rfl, rfl, rfl⟩ | ⟨m1, m2, -⟩
    · exact ⟨ik m2 (kt1 c1), fun h5 => by rw [c1] at h5; exact absurd h5 (by decide), hI, KW, hR⟩
    · exact absurd (r2.trans c2) m1
theorem sm_select {cu2 : Int32} {gC2 : Nat → Int64} {mth2 : Int32} {mcu2 : Int32} {p1b : Nat → Int64} {p2b : Nat → Int64} {p3b : Nat → Int32} {p4b : Nat → Int32} (hI : SI w n nc nv kn mb sr isr cu wd cnt chg opn dp rt fc fb) (hR : RL w n sr cu gA gB gC fc fv mso mct mfr mcu p1 p2 p5 p3 p4 p6 p7 KW) {pl : Int32} (hc : (kk = 0 ∧ (0 ≤ pl.toInt ∧ pl.toInt < (n : Int)) ∧ (cu2 = 1 ∧ ∀ j, j < w → gC2 j = kr fc w pl.toInt.toNat j)) ∨ (kk = 1 ∧ (¬ (0 ≤ pl.toInt ∧ pl.toInt < (n : Int))) ∧ cu2 = cu ∧ gC2 = gC)) (hm : (¬ (0 ≤ pl.toInt ∧ pl.toInt < (n : Int)) ∧ mth2.toInt = 1 ∧ mcu2 = mcu ∧ p1b = p1 ∧ p2b = p2 ∧ p3b = p3 ∧ p4b = p4) ∨ ((0 ≤ pl.toInt ∧ pl.toInt < (n : Int)) ∧ mth2.toInt = 0 ∧ mcu2 = 1 ∧ KRs mso.toInt p1b p2b p3b p4b (kset KW 1502 (KW (p6 pl.toInt.toNat).toInt.toNat)))) : mth2 = kk ∧ SI w n nc nv kn mb sr isr cu2 wd cnt chg opn dp rt fc fb ∧ ∃ KW2, RL w n sr cu2 gA gB gC2 fc fv mso mct mfr mcu2 p1b p2b p5 p3b p4b p6 p7 KW2 := by
  obtain ⟨hw, hw7, hcnt, hnc, hnv, hn, hkn, hmb, hs, hopn, hchg, hsh, hsr, hcu⟩ := id hI
  obtain ⟨r1, r2, r3, r4, r5, r6, r7, r8, r9, r10, r11⟩ := id hR
  
  rcases hc with ⟨c1, c2, c3, c4⟩ | ⟨c1, c2, rfl, rfl⟩
  · rcases hm with ⟨m1, -⟩ | ⟨m1, m2, m3, m4⟩
    · exact absurd c2 m1
    · exact ⟨ik m2 (kt0 c1), si_cu hI (Or.inl c3), _, rl_C hR hn (m3.trans c3.symm) m4 (fun j hj => by rw [c4 j hj]; exact r10 pl.toInt.toNat (by omega) j hj)⟩
  · rcases hm with ⟨m1, m2, rfl, rfl, rfl, rfl, rfl⟩ | ⟨m1, -⟩
    · exact ⟨ik m2 (kt1 c1), hI, KW, hR⟩
    · exact absurd m1 c2
theorem sm_length {fo2 : Nat → Int64} {mth2 : Int32} (hI : SI w n nc nv kn mb sr isr cu wd cnt chg opn dp rt fc fb) (hR : RL w n sr cu gA gB gC fc fv mso mct mfr mcu p1 p2 p5 p3 p4 p6 p7 KW) {rm : Int32} (hc : (kk = 0 ∧ (¬ cu = 0) ∧ (∃ vr : Int32, ((isr = 0 → vr.toInt = (w : Int)) ∧ (¬ isr = 0 → vr.toInt = ((mk_let p3 p4 1502).length : Int))) ∧ fo2 0 = vr.toInt64)) ∨ (kk = 1 ∧ (cu = 0) ∧ fo2 = fo)) (hm : (mcu = 0 ∧ mth2.toInt = 1) ∨ (¬ mcu = 0 ∧ mth2.toInt = 0 ∧ (mso.toInt < 2 → rm.toInt = mso.toInt + 1) ∧ (mso.toInt = 2 → rm = p4 1502))) : mth2 = kk ∧ (kk = 0 → fo2 0 = rm.toInt64) := by
  obtain ⟨hw, hw7, hcnt, hnc, hnv, hn, hkn, hmb, hs, hopn, hchg, hsh, hsr, hcu⟩ := id hI
  obtain ⟨r1, r2, r3, r4, r5, r6, r7, r8, r9, r10, r11⟩ := id hR
  
  have hl4 : (mk_let p3 p4 1502).length = (p4 1502).toInt.toNat := rl_len
  rcases hc with ⟨c1, c2, vr, ⟨c3, c4⟩, c5⟩ | ⟨c1, c2, rfl⟩
  · rcases hm with ⟨m1, -⟩ | ⟨m1, m2, m3, m4⟩
    · exact absurd (r2.symm.trans m1) c2
    · refine ⟨ik m2 (kt0 c1), fun _ => ?_⟩
      rw [c5]
      refine kl64 ?_
      rcases hsr with h5 | h5 | h5
      · rw [c3 h5.2.2, m3 (by omega)]; omega
      · rw [c3 h5.2.2, m3 (by omega)]; omega
      · rw [c4 (by rw [h5.2.2]; decide), m4 (by omega)]
        rcases r6 1502 (by omega) with h9 | h9 | ⟨-, h9, h10, h11, h12⟩ <;> omega
  · rcases hm with ⟨m1, m2⟩ | ⟨m1, -⟩
    · exact ⟨ik m2 (kt1 c1), fun h5 => by rw [c1] at h5; exact absurd h5 (by decide)⟩
    · exact absurd (r2.trans c2) m1
theorem sm_part {fo2 : Nat → Int64} {mth2 : Int32} (hI : SI w n nc nv kn mb sr isr cu wd cnt chg opn dp rt fc fb) (hR : RL w n sr cu gA gB gC fc fv mso mct mfr mcu p1 p2 p5 p3 p4 p6 p7 KW) {i0 : Int32} {rm : Int64} {pn : Nat} (hpn0 : (isr = 0 → pn = w) ∧ (¬ isr = 0 → pn = (mk_let p3 p4 1502).length)) (hc : (kk = 0 ∧ (¬ cu = 0 ∧ 0 ≤ i0.toInt ∧ i0.toInt < (pn : Int)) ∧ (∃ vr : Int64, ((isr = 0 → vr = gC i0.toInt.toNat ^^^ (-9223372036854775808)) ∧ (¬ isr = 0 → vr.toInt = ((mk_let p3 p4 1502).getD i0.toInt.toNat 0 : Int))) ∧ fo2 0 = vr)) ∨ (kk = 1 ∧ (cu = 0) ∧ fo2 = fo) ∨ (kk = 2 ∧ (¬ cu = 0 ∧ ¬ (0 ≤ i0.toInt ∧ i0.toInt < (pn : Int))) ∧ fo2 = fo)) (hm : (mcu = 0 ∧ mth2.toInt = 1) ∨ (¬ mcu = 0 ∧ ¬ (0 ≤ i0.toInt ∧ i0.toInt < (if mso.toInt < 2 then mso.toInt + 1 else (p4 1502).toInt)) ∧ mth2.toInt = 2) ∨ (¬ mcu = 0 ∧ 0 ≤ i0.toInt ∧ i0.toInt < (if mso.toInt < 2 then mso.toInt + 1 else (p4 1502).toInt) ∧ mth2.toInt = 0 ∧ (mso.toInt = 2 → rm.toInt = (p3 (36048 + i0.toInt.toNat)).toInt) ∧ (mso.toInt < 2 → rm = if i0.toInt = 0 then p1 1502 else p2 1502))) : mth2 = kk ∧ (kk = 0 → fo2 0 = rm) := by
  obtain ⟨hw, hw7, hcnt, hnc, hnv, hn, hkn, hmb, hs, hopn, hchg, hsh, hsr, hcu⟩ := id hI
  obtain ⟨r1, r2, r3, r4, r5, r6, r7, r8, r9, r10, r11⟩ := id hR
  
  have hl4 : (mk_let p3 p4 1502).length = (p4 1502).toInt.toNat := rl_len
  have hpn : (pn : Int) = if mso.toInt < 2 then mso.toInt + 1 else (p4 1502).toInt := by
    rcases hsr with h5 | h5 | h5
    · rw [if_pos (by omega), hpn0.1 h5.2.2]; omega
    · rw [if_pos (by omega), hpn0.1 h5.2.2]; omega
    · rw [if_neg (by omega), hpn0.2 (by rw [h5.2.2]; decide)]
      rcases r6 1502 (by omega) with h9 | h9 | ⟨-, h9, h10, h11, h12⟩ <;> omega
  rw [← hpn] at hm
  rcases hc with ⟨c1, ⟨c2, c6, c7⟩, vr, ⟨c3, c4⟩, c5⟩ | ⟨c1, c2, rfl⟩ | ⟨c1, ⟨c2, c3⟩, rfl⟩
  · rcases hm with ⟨m1, -⟩ | ⟨m1, m2, -⟩ | ⟨m1, m2, m3, m4, m5, m6⟩
    · exact absurd (r2.symm.trans m1) c2
    · exact absurd ⟨c6, c7⟩ m2
    · refine ⟨ik m4 (kt0 c1), fun _ => ?_⟩
      rw [c5]
      rw [hpn] at m3
      rcases r6 1502 (by omega) with h9 | h9 | ⟨h13, h9, h10, h11, h12⟩
      · rw [if_pos (by omega)] at m3
        rw [c3 (by rcases hsr with h5 | h5 | h5 <;> first | exact h5.2.2 | omega), m6 (by omega), if_pos (by omega), show i0.toInt.toNat = 0 by omega, r9 0 (by omega), h9.2]
        exact xr_xor _
      · rw [if_pos (by omega)] at m3
        rw [c3 (by rcases hsr with h5 | h5 | h5 <;> first | exact h5.2.2 | omega), m6 (by omega)]
        by_cases h5 : i0.toInt = 0
        · rw [if_pos h5, show i0.toInt.toNat = 0 by omega, r9 0 (by omega), h9.2.1]
          exact xr_xor _
        · rw [if_neg h5, show i0.toInt.toNat = 1 by omega, r9 1 (by omega), h9.2.2]
          exact xr_xor _
      · rw [if_neg (by omega)] at m3
        have hisr : ¬ isr = 0 := by rcases hsr with h5 | h5 | h5 <;> first | omega | (rw [h5.2.2]; decide)
        apply Int64.toInt_inj.mp
        rw [c4 hisr, m5 (by omega)]
        unfold mk_let
        rw [ml_get _ _ _ (by omega)]
        have h14 := h12 i0.toInt.toNat (by omega)
        rw [show 36048 + i0.toInt.toNat = 24 * 1502 + i0.toInt.toNat by omega]
        omega
  · rcases hm with ⟨m1, m2⟩ | ⟨m1, -⟩ | ⟨m1, -⟩
    · exact ⟨ik m2 (kt1 c1), fun h5 => by rw [c1] at h5; exact absurd h5 (by decide)⟩
    · exact absurd (r2.trans c2) m1
    · exact absurd (r2.trans c2) m1
  · rcases hm with ⟨m1, -⟩ | ⟨m1, m3, m2⟩ | ⟨m1, m2, m3, -⟩
    · exact absurd (r2.symm.trans m1) c2
    · exact ⟨ik m2 (kt2 c1), fun h5 => by rw [c1] at h5; exact absurd h5 (by decide)⟩
    · exact absurd ⟨m2, m3⟩ c3
end SIM
