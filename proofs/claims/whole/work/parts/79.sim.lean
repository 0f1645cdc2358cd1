/-! class and model stay alike: the calls that change the keys, and the shape -/
section SIM2
variable {w n nv nc kn mb cd vl : Nat} {fl fch fh : Nat → Int32} {sr isr cu wd cnt chg opn dp rt : Int32} {gA gB gC gD fc fv fo : Nat → Int64} {fb : Nat → Int32} {mso mct mfr mcu kk mth2 : Int32} {p1 p2 p5 : Nat → Int64} {p3 p4 p6 p7 : Nat → Int32} {KW : Nat → Nat → Int64}
theorem srt_sub {n2 : Nat} {fc2 : Nat → Int64} (f : Nat → Nat) (hs : tb_srt w n fc) (hf : ∀ a b, a < b → b < n2 → f a < f b ∧ f b < n) (hr : ∀ k, k < n2 → kw_eq w (kr fc2 w k) (kr fc w (f k))) : tb_srt w n2 fc2 := fun a b h1 h2 =>
  kw_lt_congr (kw_eq_symm (hr a (by omega))) (kw_eq_symm (hr b h2)) (hs (f a) (f b) (hf a b h1 h2).1 (hf a b h1 h2).2)
theorem rl_sub {n2 : Nat} {fc2 fv2 : Nat → Int64} {p6b p7b : Nat → Int32} {mct2 mfr2 : Int32} (f : Nat → Nat) (hR : RL w n sr cu gA gB gC fc fv mso mct mfr mcu p1 p2 p5 p3 p4 p6 p7 KW) (hf : ∀ k, k < n2 → f k < n) (hr : ∀ k, k < n2 → kw_eq w (kr fc2 w k) (kr fc w (f k))) (hv : ∀ k, k < n2 → fv2 k = fv (f k)) (h6 : ∀ k, k < n2 → p6b k = p6 (f k)) (hmi : MI n2 p6b p7b) (hct : mct2.toInt = (n2 : Int)) (hfr : mfr2.toInt = 1500 - (n2 : Int)) : RL w n2 sr cu gA gB gC fc2 fv2 mso mct2 mfr2 mcu p1 p2 p5 p3 p4 p6b p7b KW := by
  obtain ⟨r1, r2, r3, r4, r5, r6, r7, r8, r9, r10, r11⟩ := hR
  refine ⟨r1, r2, hct, hfr, hmi, r6, r7, r8, r9, fun k hk => ?_, fun k hk => ?_⟩
  · rw [h6 k hk]; exact kw_eq_trans (hr k hk) (r10 (f k) (hf k hk))
  · rw [h6 k hk, hv k hk]; exact r11 (f k) (hf k hk)
theorem si_sub {n2 : Nat} {fc2 : Nat → Int64} {cnt2 chg2 : Int32} (hI : SI w n nc nv kn mb sr isr cu wd cnt chg opn dp rt fc fb) (hn2 : n2 ≤ n) (hc2 : cnt2.toInt = (n2 : Int)) (hch : chg2 = 1) (hs2 : tb_srt w n2 fc2) : SI w n2 nc nv kn mb sr isr cu wd cnt2 chg2 opn dp rt fc2 fb := by
  obtain ⟨hw, hw7, hcnt, hnc, hnv, hn, hkn, hmb, hs, hopn, hchg, hsh, hsr, hcu⟩ := hI
  exact ⟨hw, hw7, hc2, hnc, by omega, by omega, hkn, hmb, hs2, hopn, Or.inr hch, fun h => by rw [hch] at h; exact absurd h (by decide), hsr, hcu⟩
theorem cb_rng {p : Nat → Bool} {a b : Nat} (h1 : ∀ k, a ≤ k → k < b → p k = true) (h2 : ∀ k, k < a → p k = false) : ∀ m, m ≤ b → cb_num p m = m - a := by
  intro m
  induction m with
  | zero => intro _; show 0 = 0 - a; omega
  | succ m ih =>
    intro h
    rw [cb_num, ih (by omega)]
    by_cases h3 : a ≤ m
    · rw [h1 m h3 (by omega), if_pos rfl]; omega
    · rw [h2 m (by omega), if_neg (by decide)]; omega
theorem cp_k_congr {c c2 : Nat → Nat} : ∀ m, (∀ k, k < m → c k = c2 k) → cp_k c m = cp_k c2 m := by
  intro m
  induction m with
  | zero => intro _; rfl
  | succ m ih => intro h; rw [cp_k, cp_k, ih (fun k hk => h k (by omega)), h m (by omega)]
theorem rl_gap (hR : RL w n sr cu gA gB gC fc fv mso mct mfr mcu p1 p2 p5 p3 p4 p6 p7 KW) : ∀ i, i < n - 1 → tb_gap w fc i = sh_w w ((fun k => KW (p6 k).toInt.toNat) (i + 1)) ((fun k => KW (p6 k).toInt.toNat) i) := by
  obtain ⟨-, -, -, -, -, -, -, -, -, r10, -⟩ := hR
  intro i hi
  exact sh_w_congr (r10 (i + 1) (by omega)) (r10 i (by omega))
theorem ld_at {f x : Int64} {k : Nat} {N : Int} (hx : 1 ≤ x.toInt) (hok : ft_ok f x N) (hk : (k : Int) < N) (hk2 : k < 1500) : (f + (Int32.ofNat k).toInt64 * x).toInt = f.toInt + k * x.toInt := by
  have h1 : ((Int32.ofNat k).toInt64).toInt = (k : Int) := by rw [Jvm.Kit.i64_of_i32, ia_of _ (by omega)]
  have h2 : (f + (Int32.ofNat k).toInt64 * x).toInt = (f.toInt + ((Int32.ofNat k).toInt64 * x).toInt).bmod (2 ^ 64) := Int64.toInt_add _ _
  have h3 : ((Int32.ofNat k).toInt64 * x).toInt = (((Int32.ofNat k).toInt64).toInt * x.toInt).bmod (2 ^ 64) := Int64.toInt_mul _ _
  have hu := uN_pos (x := x) (by omega)
  have h4 : k ≤ ft_w f / uN x := by unfold ft_ok at hok; omega
  have h5 : k * uN x ≤ ft_w f := (Nat.le_div_iff_mul_le (by omega)).mp h4
  have h6 := il_rng f
  have h7 : ((k * uN x : Nat) : Int) = (k : Int) * x.toInt := by rw [Int.natCast_mul, hu]
  rw [h1] at h3
  have h8 : ft_w f = (9223372036854775807 - f.toInt).toNat := rfl
  generalize hP : (k : Int) * x.toInt = P at h3 h7 ⊢
  generalize hN : k * uN x = M at h5 h7
  rw [h2, h3, Int.bmod_def, Int.bmod_def]
  omega
theorem sm_remove {cnt2 : Int32} {chg2 : Int32} {fc2 : Nat → Int64} {fv2 : Nat → Int64} {fo2 : Nat → Int64} {mth2 : Int32} {mct2 : Int32} {mfr2 : Int32} {p6b : Nat → Int32} {p7b : Nat → Int32} (hI : SI w n nc nv kn mb sr isr cu wd cnt chg opn dp rt fc fb) (hR : RL w n sr cu gA gB gC fc fv mso mct mfr mcu p1 p2 p5 p3 p4 p6 p7 KW) {rm : Int64} (hc : (kk = 0 ∧ (∃ q, tb_isb w n fc gA q ∧ (q < n ∧ kw_eq w (kr fc w q) gA)) ∧ (∃ vr : Int64, (∃ q, tb_isb w n fc gA q ∧ (q < n ∧ kw_eq w (kr fc w q) gA) ∧ vr = fv q ∧ cnt2.toInt = (n : Int) - 1 ∧ chg2 = 1 ∧ (∀ k j, k < n - 1 → j < w → fc2 (k * w + j) = if k < q then fc (k * w + j) else fc ((k + 1) * w + j)) ∧ (∀ k, k < n - 1 → fv2 k = if k < q then fv k else fv (k + 1))) ∧ fo2 0 = vr)) ∨ (kk = 1 ∧ (∃ q, tb_isb w n fc gA q ∧ ¬ (q < n ∧ kw_eq w (kr fc w q) gA)) ∧ cnt2 = cnt ∧ chg2 = chg ∧ fc2 = fc ∧ fv2 = fv ∧ fo2 = fo)) (hm : ∃ q : Nat, ob_isb w n (fun k => KW (p6 k).toInt.toNat) (KW 1500) q ∧ (((q < n ∧ kw_eq w ((fun k => KW (p6 k).toInt.toNat) q) (KW 1500)) ∧ mth2.toInt = 0 ∧ rm = p5 (p6 q).toInt.toNat ∧ mct2.toInt = (n : Int) - 1 ∧ mfr2.toInt = 1500 - ((n : Int) - 1) ∧ MI (n - 1) p6b p7b ∧ (∀ k, k < n - 1 → p6b k = if k < q then p6 k else p6 (k + 1))) ∨ (¬ (q < n ∧ kw_eq w ((fun k => KW (p6 k).toInt.toNat) q) (KW 1500)) ∧ mth2.toInt = 1 ∧ mct2 = mct ∧ mfr2 = mfr ∧ p6b = p6 ∧ p7b = p7))) : mth2 = kk ∧ (kk = 0 → fo2 0 = rm) ∧ ∃ n2, n2 ≤ n ∧ SI w n2 nc nv kn mb sr isr cu wd cnt2 chg2 opn dp rt fc2 fb ∧ RL w n2 sr cu gA gB gC fc2 fv2 mso mct2 mfr2 mcu p1 p2 p5 p3 p4 p6b p7b KW := by
  obtain ⟨hw, hw7, hcnt, hnc, hnv, hn, hkn, hmb, hs, hopn, hchg, hsh, hsr, hcu⟩ := id hI
  obtain ⟨r1, r2, r3, r4, r5, r6, r7, r8, r9, r10, r11⟩ := id hR
  
  obtain ⟨q2, m1, m2⟩ := hm
  rcases hc with ⟨c1, -, vr, ⟨q, c2, c3, c4, c5, c6, c7, c8⟩, c9⟩ | ⟨c1, ⟨q, c2, c3⟩, rfl, rfl, rfl, rfl, rfl⟩
  · obtain ⟨rfl, h6⟩ := rl_q hR r7 c2 m1
    rcases m2 with ⟨m3, m4, m5, m6, m7, m8, m9⟩ | ⟨m3, -⟩
    · have hr : ∀ k, k < n - 1 → kw_eq w (kr fc2 w k) (kr fc w (if k < q2 then k else k + 1)) := by
        intro k hk j hj
        show fc2 (k * w + j) = fc ((if k < q2 then k else k + 1) * w + j)
        rw [c7 k j hk hj]
        by_cases h7 : k < q2
        · rw [if_pos h7, if_pos h7]
        · rw [if_neg h7, if_neg h7]
      refine ⟨ik m4 (kt0 c1), fun _ => by rw [c9, c4, m5]; exact r11 q2 c3.1, n - 1, by omega, si_sub hI (by omega) (by omega) c6 (srt_sub (fun k => if k < q2 then k else k + 1) hs (fun a b h7 h8 => ?_) hr), rl_sub (fun k => if k < q2 then k else k + 1) hR (fun k hk => ?_) hr (fun k hk => ?_) (fun k hk => ?_) m8 (by omega) (by omega)⟩
      · show (if a < q2 then a else a + 1) < (if b < q2 then b else b + 1) ∧ (if b < q2 then b else b + 1) < n
        split <;> split <;> omega
      · show (if k < q2 then k else k + 1) < n
        split <;> omega
      · rw [c8 k hk]; show _ = fv (if k < q2 then k else k + 1); split <;> rfl
      · rw [m9 k hk]; show _ = p6 (if k < q2 then k else k + 1); split <;> rfl
    · exact absurd (h6.mp c3) m3
  · obtain ⟨rfl, h6⟩ := rl_q hR r7 c2 m1
    rcases m2 with ⟨m3, -⟩ | ⟨m3, m4, rfl, rfl, rfl, rfl⟩
    · exact absurd (h6.mpr m3) c3
    · exact ⟨ik m4 (kt1 c1), fun h5 => by rw [c1] at h5; exact absurd h5 (by decide), n, Nat.le_refl _, hI, hR⟩
theorem sm_cut {cnt2 : Int32} {chg2 : Int32} {fc2 : Nat → Int64} {fv2 : Nat → Int64} {mth2 : Int32} {mct2 : Int32} {mfr2 : Int32} {p6b : Nat → Int32} {p7b : Nat → Int32} (hI : SI w n nc nv kn mb sr isr cu wd cnt chg opn dp rt fc fb) (hR : RL w n sr cu gA gB gC fc fv mso mct mfr mcu p1 p2 p5 p3 p4 p6 p7 KW) {rc rm : Int32} (hc : ∃ (q q2 : Nat) (up : Int), tb_isb w n fc gA q ∧ tb_isb w n fc gB q2 ∧ ((q < n ∧ kw_eq w (kr fc w q) gA ∧ up = (q : Int) + 1) ∨ (¬ (q < n ∧ kw_eq w (kr fc w q) gA) ∧ up = (q : Int))) ∧ ((up ≤ q2 ∧ rc = 0 ∧ cnt2 = cnt ∧ chg2 = chg ∧ fc2 = fc ∧ fv2 = fv) ∨ ((q2 : Int) < up ∧ rc.toInt = up - q2 ∧ cnt2.toInt = (n : Int) - (up - q2) ∧ chg2 = 1 ∧ (∀ k j, k < n - (up.toNat - q2) → j < w → fc2 (k * w + j) = if k < q2 then fc (k * w + j) else fc ((k + (up.toNat - q2)) * w + j)) ∧ (∀ k, k < n - (up.toNat - q2) → fv2 k = if k < q2 then fv k else fv (k + (up.toNat - q2)))))) (hm : mth2.toInt = 0 ∧ ∃ (q q2 : Nat) (up : Int), ob_isb w n (fun k => KW (p6 k).toInt.toNat) (KW 1500) q ∧ ob_isb w n (fun k => KW (p6 k).toInt.toNat) (KW 1501) q2 ∧ (((q < n ∧ kw_eq w ((fun k => KW (p6 k).toInt.toNat) q) (KW 1500)) ∧ up = (q : Int) + 1) ∨ (¬ (q < n ∧ kw_eq w ((fun k => KW (p6 k).toInt.toNat) q) (KW 1500)) ∧ up = (q : Int))) ∧ rm.toInt = (if 0 < up - q2 then up - q2 else 0) ∧ mct2.toInt = (n : Int) - rm.toInt ∧ mfr2.toInt = 1500 - ((n : Int) - rm.toInt) ∧ MI (n - rm.toInt.toNat) p6b p7b ∧ (∀ k, k < n - rm.toInt.toNat → p6b k = if k < q2 then p6 k else p6 (k + rm.toInt.toNat))) : rc = rm ∧ ∃ n2, n2 ≤ n ∧ SI w n2 nc nv kn mb sr isr cu wd cnt2 chg2 opn dp rt fc2 fb ∧ RL w n2 sr cu gA gB gC fc2 fv2 mso mct2 mfr2 mcu p1 p2 p5 p3 p4 p6b p7b KW := by
  obtain ⟨hw, hw7, hcnt, hnc, hnv, hn, hkn, hmb, hs, hopn, hchg, hsh, hsr, hcu⟩ := id hI
  obtain ⟨r1, r2, r3, r4, r5, r6, r7, r8, r9, r10, r11⟩ := id hR
  
  obtain ⟨q, q2, up, c1, c2, c3, c4⟩ := hc
  obtain ⟨-, p, p2, up2, m1, m2, m3, m4, m5, m6, m7, m8⟩ := hm
  obtain ⟨rfl, rfl⟩ := rl_up hR r7 c1 m1 c3 m3
  obtain ⟨rfl, -⟩ := rl_q hR r8 c2 m2
  have h20 := c1.1
  have h21 := c2.1
  have h22 : up2 ≤ (n : Int) := by rcases c3 with h5 | h5 <;> omega
  rcases c4 with ⟨c5, c6, rfl, rfl, rfl, rfl⟩ | ⟨c5, c6, c7, c8, c9, c10⟩
  · rw [if_neg (by omega)] at m4
    rw [show rm.toInt.toNat = 0 by omega] at m7 m8
    refine ⟨ik (kt0 c6) m4, n, Nat.le_refl _, hI, rl_sub (fun k => k) hR (fun k hk => hk) (fun k hk j hj => rfl) (fun k hk => rfl) (fun k hk => ?_) m7 (by omega) (by omega)⟩
    rw [m8 k hk]; split <;> rfl
  · rw [if_pos (by omega)] at m4
    have h23 : rm.toInt.toNat = up2.toNat - p2 := by omega
    rw [h23] at m7 m8
    have hr : ∀ k, k < n - (up2.toNat - p2) → kw_eq w (kr fc2 w k) (kr fc w (if k < p2 then k else k + (up2.toNat - p2))) := by
      intro k hk j hj
      show fc2 (k * w + j) = fc ((if k < p2 then k else k + (up2.toNat - p2)) * w + j)
      rw [c9 k j hk hj]
      by_cases h7 : k < p2
      · rw [if_pos h7, if_pos h7]
      · rw [if_neg h7, if_neg h7]
    refine ⟨ik c6 m4, n - (up2.toNat - p2), by omega, si_sub hI (by omega) (by omega) c8 (srt_sub (fun k => if k < p2 then k else k + (up2.toNat - p2)) hs (fun a b h7 h8 => ?_) hr), rl_sub (fun k => if k < p2 then k else k + (up2.toNat - p2)) hR (fun k hk => ?_) hr (fun k hk => ?_) (fun k hk => ?_) m7 (by omega) (by omega)⟩
    · show (if a < p2 then a else a + (up2.toNat - p2)) < (if b < p2 then b else b + (up2.toNat - p2)) ∧ (if b < p2 then b else b + (up2.toNat - p2)) < n
      split <;> split <;> omega
    · show (if k < p2 then k else k + (up2.toNat - p2)) < n
      split <;> omega
    · rw [c10 k hk]; show _ = fv (if k < p2 then k else k + (up2.toNat - p2)); split <;> rfl
    · rw [m8 k hk]; show _ = p6 (if k < p2 then k else k + (up2.toNat - p2)); split <;> rfl
theorem sm_clear {cnt2 chg2 mth2 mct2 mfr2 : Int32} {p6b p7b : Nat → Int32} (hI : SI w n nc nv kn mb sr isr cu wd cnt chg opn dp rt fc fb) (hR : RL w n sr cu gA gB gC fc fv mso mct mfr mcu p1 p2 p5 p3 p4 p6 p7 KW) {rc rm : Int32}{fc2 fv2 : Nat → Int64} (hc : cnt2.toInt = 0 ∧ chg2 = 1 ∧ rc.toInt = (n : Int)) (hm : mth2.toInt = 0 ∧ rm.toInt = (n : Int) ∧ mct2.toInt = 0 ∧ mfr2.toInt = 1500 ∧ MI 0 p6b p7b) : rc = rm ∧ SI w 0 nc nv kn mb sr isr cu wd cnt2 chg2 opn dp rt fc2 fb ∧ RL w 0 sr cu gA gB gC fc2 fv2 mso mct2 mfr2 mcu p1 p2 p5 p3 p4 p6b p7b KW := by
  obtain ⟨hw, hw7, hcnt, hnc, hnv, hn, hkn, hmb, hs, hopn, hchg, hsh, hsr, hcu⟩ := id hI
  obtain ⟨r1, r2, r3, r4, r5, r6, r7, r8, r9, r10, r11⟩ := id hR
  
  obtain ⟨c1, c2, c3⟩ := hc
  obtain ⟨-, m1, m2, m3, m4⟩ := hm
  exact ⟨ik c3 m1, si_sub hI (by omega) c1 c2 (fun a b h1 h2 => by omega), rl_sub (fun k => k) hR (fun k hk => by omega) (fun k hk => by omega) (fun k hk => by omega) (fun k hk => by omega) m4 m2 m3⟩
theorem sm_put {cd2 : Nat} {vl2 : Nat} {nc2 : Nat} {nv2 : Nat} {cnt2 : Int32} {chg2 : Int32} {fc2 : Nat → Int64} {fv2 : Nat → Int64} {fo2 : Nat → Int64} {mth2 : Int32} {mct2 : Int32} {mfr2 : Int32} {p1b : Nat → Int64} {p2b : Nat → Int64} {p3b : Nat → Int32} {p4b : Nat → Int32} {p5b : Nat → Int64} {p6b : Nat → Int32} (hI : SI w n nc nv kn mb sr isr cu wd cnt chg opn dp rt fc fb) (hR : RL w n sr cu gA gB gC fc fv mso mct mfr mcu p1 p2 p5 p3 p4 p6 p7 KW) {x0 : Int64} {rm : Int32} (hc : (kk = 0 ∧ (∃ q, tb_isb w n fc gA q ∧ ((q < n ∧ kw_eq w (kr fc w q) gA) ∨ n < 1500)) ∧ (∃ vr : Int32, (∃ q, tb_isb w n fc gA q ∧ (((q < n ∧ kw_eq w (kr fc w q) gA) ∧ vr = 0 ∧ cd2 = cd ∧ vl2 = vl ∧ nc2 = nc ∧ nv2 = nv ∧ cnt2 = cnt ∧ chg2 = chg ∧ fc2 = fc ∧ ∀ k, fv2 k = if k = q then x0 else fv k) ∨ (¬ (q < n ∧ kw_eq w (kr fc w q) gA) ∧ n < 1500 ∧ vr = 1 ∧ cnt2.toInt = (n : Int) + 1 ∧ chg2 = 1 ∧ n < nv2 ∧ nc2 = nv2 * w ∧ nv2 = (if n = nv then 2 * nv else nv) ∧ (∀ k j, k < n + 1 → j < w → fc2 (k * w + j) = if k < q then fc (k * w + j) else if k = q then gA j else fc ((k - 1) * w + j)) ∧ (∀ k, k < n + 1 → fv2 k = if k < q then fv k else if k = q then x0 else fv (k - 1))))) ∧ fo2 0 = if vr = 0 then 0 else 1)) ∨ (kk = 1 ∧ (n = 1500 ∧ ∃ q, tb_isb w n fc gA q ∧ ¬ (q < n ∧ kw_eq w (kr fc w q) gA)) ∧ cd2 = cd ∧ vl2 = vl ∧ nc2 = nc ∧ nv2 = nv ∧ cnt2 = cnt ∧ chg2 = chg ∧ fc2 = fc ∧ fv2 = fv ∧ fo2 = fo)) (hm : ∃ q : Nat, ob_isb w n (fun k => KW (p6 k).toInt.toNat) (KW 1500) q ∧ (((q < n ∧ kw_eq w ((fun k => KW (p6 k).toInt.toNat) q) (KW 1500)) ∧ mth2.toInt = 0 ∧ rm = 0 ∧ mct2 = mct ∧ mfr2 = mfr ∧ p6b = p6 ∧ p1b = p1 ∧ p2b = p2 ∧ p3b = p3 ∧ p4b = p4 ∧ ∀ y, p5b y = if y = (p6 q).toInt.toNat then x0 else p5 y) ∨ (¬ (q < n ∧ kw_eq w ((fun k => KW (p6 k).toInt.toNat) q) (KW 1500)) ∧ n = 1500 ∧ mth2.toInt = 1 ∧ mct2 = mct ∧ mfr2 = mfr ∧ p6b = p6 ∧ p1b = p1 ∧ p2b = p2 ∧ p3b = p3 ∧ p4b = p4 ∧ p5b = p5) ∨ (¬ (q < n ∧ kw_eq w ((fun k => KW (p6 k).toInt.toNat) q) (KW 1500)) ∧ n < 1500 ∧ mth2.toInt = 0 ∧ rm = 1 ∧ mct2.toInt = (n : Int) + 1 ∧ mfr2.toInt = 1500 - ((n : Int) + 1) ∧ MI (n + 1) p6b p7 ∧ (∀ k, k < n + 1 → p6b k = if k < q then p6 k else if k = q then p7 (1499 - n) else p6 (k - 1)) ∧ KRs mso.toInt p1b p2b p3b p4b (kset KW (p7 (1499 - n)).toInt.toNat (KW 1500)) ∧ ∀ y, p5b y = if y = (p7 (1499 - n)).toInt.toNat then x0 else p5 y))) : mth2 = kk ∧ (kk = 0 → fo2 0 = if rm = 0 then 0 else 1) ∧ nv ≤ nv2 ∧ ∃ n2 KW2, n2 ≤ n + 1 ∧ SI w n2 nc2 nv2 kn mb sr isr cu wd cnt2 chg2 opn dp rt fc2 fb ∧ RL w n2 sr cu gA gB gC fc2 fv2 mso mct2 mfr2 mcu p1b p2b p5b p3b p4b p6b p7 KW2 := by
  obtain ⟨hw, hw7, hcnt, hnc, hnv, hn, hkn, hmb, hs, hopn, hchg, hsh, hsr, hcu⟩ := id hI
  obtain ⟨r1, r2, r3, r4, r5, r6, r7, r8, r9, r10, r11⟩ := id hR
  
  obtain ⟨q2, m1, m2⟩ := hm
  rcases hc with ⟨c1, -, vr, ⟨q, c2, c3⟩, c9⟩ | ⟨c1, ⟨c2, q, c3, c4⟩, rfl, rfl, rfl, rfl, rfl, rfl, rfl, rfl, rfl⟩
  · obtain ⟨rfl, h6⟩ := rl_q hR r7 c2 m1
    have hinj : ∀ a b, a < n → b < n → (p6 a).toInt.toNat = (p6 b).toInt.toNat → a = b := fun a b ha hb h5 => by
      have h7 := r5.1 a ha
      have h8 := r5.1 b hb
      exact r5.2.2 a b (by omega) (by omega) (by unfold sl; rw [if_pos ha, if_pos hb, ic_eq]; omega)
    rcases c3 with ⟨d1, d2, rfl, rfl, rfl, rfl, rfl, rfl, rfl, d3⟩ | ⟨d1, d2, d3, d4, d5, d6, d7, d8, d9, d10⟩
    · rcases m2 with ⟨m3, m4, m5, rfl, rfl, rfl, rfl, rfl, rfl, rfl, m6⟩ | ⟨m3, -⟩ | ⟨m3, -⟩
      · refine ⟨ik m4 (kt0 c1), fun _ => by rw [c9, d2, m5], Nat.le_refl _, n, KW, by omega, hI, r1, r2, r3, r4, r5, r6, r7, r8, r9, r10, fun k hk => ?_⟩
        rw [d3, m6]
        by_cases h7 : k = q2
        · rw [if_pos h7, h7, if_pos rfl]
        · rw [if_neg h7, if_neg (fun h8 => h7 (hinj k q2 hk m3.1 h8))]; exact r11 k hk
      · exact absurd (h6.mp d1) m3
      · exact absurd (h6.mp d1) m3
    · rcases m2 with ⟨m3, -⟩ | ⟨m3, m4, -⟩ | ⟨m3, m4, m5, m6, m7, m8, m9, m10, m11, m12⟩
      · exact absurd (h6.mpr m3) d1
      · omega
      · have h20 := c2.1
        have hz := r5.2.1 (1499 - n) (by omega)
        have hne : ∀ a, a < n → ¬ (p6 a).toInt.toNat = (p7 (1499 - n)).toInt.toNat := fun a ha h5 => by
          have h7 := r5.1 a ha
          have h8 := r5.2.2 a n (by omega) (by omega) (by unfold sl; rw [if_pos ha, if_neg (by omega), ic_eq]; omega)
          omega
        have hrow : ∀ k, k < n + 1 → kw_eq w (kr fc2 w k) (if k < q2 then kr fc w k else if k = q2 then gA else kr fc w (k - 1)) := by
          intro k hk j hj
          show fc2 (k * w + j) = _
          rw [d9 k j hk hj]
          by_cases h7 : k < q2
          · rw [if_pos h7, if_pos h7]; rfl
          · rw [if_neg h7, if_neg h7]
            by_cases h8 : k = q2
            · rw [if_pos h8, if_pos h8]
            · rw [if_neg h8, if_neg h8]; rfl
        have hgt : ∀ k, q2 ≤ k → k < n → kw_lt w gA (kr fc w k) := fun k h7 h8 => by
          rcases kw_tri w (kr fc w k) gA with h9 | h9 | h9
          · exact absurd h9 (c2.2.2 k h7 h8)
          · by_cases h10 : k = q2
            · subst h10; exact absurd ⟨h8, h9⟩ d1
            · exact absurd (kw_lt_congr (fun _ _ => rfl) h9 (hs q2 k (by omega) h8)) (c2.2.2 q2 (Nat.le_refl _) (by omega))
          · exact h9
        have hs2 : tb_srt w (n + 1) fc2 := by
          intro a b h7 h8
          refine kw_lt_congr (kw_eq_symm (hrow a (by omega))) (kw_eq_symm (hrow b h8)) ?_
          by_cases h9 : b < q2
          · rw [if_pos h9, if_pos (by omega)]; exact hs a b h7 (by omega)
          · rw [if_neg h9]
            by_cases h10 : b = q2
            · rw [if_pos h10, if_pos (by omega)]; exact c2.2.1 a (by omega)
            · rw [if_neg h10]
              by_cases h11 : a < q2
              · rw [if_pos h11]; exact hs a (b - 1) (by omega) (by omega)
              · rw [if_neg h11]
                by_cases h12 : a = q2
                · rw [if_pos h12]; exact hgt (b - 1) (by omega) (by omega)
                · rw [if_neg h12]; exact hs (a - 1) (b - 1) (by omega) (by omega)
        have hnv2 : nv ≤ nv2 ∧ nv2 ≤ 3000 := by rw [d8]; split <;> omega
        refine ⟨ik m5 (kt0 c1), fun _ => by rw [c9, d3, m6], hnv2.1, n + 1, kset KW (p7 (1499 - n)).toInt.toNat (KW 1500), Nat.le_refl _, ⟨hw, hw7, by omega, d7, by omega, by omega, hkn, hmb, hs2, hopn, Or.inr d5, fun h => by rw [d5] at h; exact absurd h (by decide), hsr, hcu⟩, r1, r2, by omega, by omega, m9, m11, ?_, ?_, ?_, fun k hk => ?_, fun k hk => ?_⟩
        · rw [kset_ne _ _ _ (by omega)]; exact r7
        · rw [kset_ne _ _ _ (by omega)]; exact r8
        · rw [kset_ne _ _ _ (by omega)]; exact r9
        · refine kw_eq_trans (hrow k hk) ?_
          rw [m10 k hk]
          by_cases h7 : k < q2
          · rw [if_pos h7, if_pos h7, kset_ne _ _ _ (hne k (by omega))]; exact r10 k (by omega)
          · rw [if_neg h7, if_neg h7]
            by_cases h8 : k = q2
            · rw [if_pos h8, if_pos h8, kset_at]; exact r7
            · rw [if_neg h8, if_neg h8, kset_ne _ _ _ (hne (k - 1) (by omega))]; exact r10 (k - 1) (by omega)
        · rw [d10 k hk, m10 k hk, m12]
          by_cases h7 : k < q2
          · rw [if_pos h7, if_pos h7, if_neg (hne k (by omega))]; exact r11 k (by omega)
          · rw [if_neg h7, if_neg h7]
            by_cases h8 : k = q2
            · rw [if_pos h8, if_pos h8, if_pos rfl]
            · rw [if_neg h8, if_neg h8, if_neg (hne (k - 1) (by omega))]; exact r11 (k - 1) (by omega)
  · obtain ⟨rfl, h6⟩ := rl_q hR r7 c3 m1
    rcases m2 with ⟨m3, -⟩ | ⟨m3, m4, m5, rfl, rfl, rfl, rfl, rfl, rfl, rfl, rfl⟩ | ⟨m3, m4, -⟩
    · exact absurd (h6.mpr m3) c4
    · exact ⟨ik m5 (kt1 c1), fun h5 => by rw [c1] at h5; exact absurd h5 (by decide), Nat.le_refl _, n, KW, by omega, hI, hR⟩
    · omega
theorem sm_begins {fo2 : Nat → Int64} {mth2 : Int32} (hI : SI w n nc nv kn mb sr isr cu wd cnt chg opn dp rt fc fb) (hR : RL w n sr cu gA gB gC fc fv mso mct mfr mcu p1 p2 p5 p3 p4 p6 p7 KW) {rm : Int32} (hc : (kk = 0 ∧ (sr.toInt = 2) ∧ (∃ vr : Int32, (∃ q ee : Nat, tb_isb w n fc gA q ∧ q ≤ ee ∧ ee ≤ n ∧ vr.toInt = (ee : Int) - q ∧ (∀ k, q ≤ k → k < ee → rw_n (mk_let p3 p4 1500) ≤ sh_w w (kr fc w k) gA) ∧ (ee < n → sh_w w (kr fc w ee) gA < rw_n (mk_let p3 p4 1500))) ∧ fo2 0 = vr.toInt64)) ∨ (kk = 1 ∧ (sr.toInt ≠ 2) ∧ fo2 = fo)) (hm : (mso.toInt ≠ 2 ∧ mth2.toInt = 1) ∨ (mso.toInt = 2 ∧ mth2.toInt = 0 ∧ rm.toInt = (cb_num (fun k => decide (rw_n (mk_let p3 p4 1500) ≤ sh_w w ((fun k => KW (p6 k).toInt.toNat) k) (KW 1500))) n : Int))) : mth2 = kk ∧ (kk = 0 → fo2 0 = rm.toInt64) := by
  obtain ⟨hw, hw7, hcnt, hnc, hnv, hn, hkn, hmb, hs, hopn, hchg, hsh, hsr, hcu⟩ := id hI
  obtain ⟨r1, r2, r3, r4, r5, r6, r7, r8, r9, r10, r11⟩ := id hR
  
  rcases hc with ⟨c1, c2, vr, ⟨q, ee, c3, c4, c5, c6, c7, c8⟩, c9⟩ | ⟨c1, c2, rfl⟩
  · rcases hm with ⟨m1, -⟩ | ⟨m1, m2, m3⟩
    · omega
    refine ⟨ik m2 (kt0 c1), fun _ => ?_⟩
    rw [c9]
    refine kl64 ?_
    rw [c6, m3]
    obtain ⟨hL1, hL2⟩ := rl_let hI hR (t := 1500) (by omega) r7 c2
    have hw7b : w = 7 := by omega
    have hP : ∀ k, k < n → decide (rw_n (mk_let p3 p4 1500) ≤ sh_w w ((fun k => KW (p6 k).toInt.toNat) k) (KW 1500)) = decide (rw_n (mk_let p3 p4 1500) ≤ sh_w w (kr fc w k) gA) := fun k hk => by
      rw [show sh_w w ((fun k => KW (p6 k).toInt.toNat) k) (KW 1500) = sh_w w (kr fc w k) gA from sh_w_congr (kw_eq_symm (r10 k hk)) (kw_eq_symm r7)]
    have hlow : ∀ k, k < q → ¬ rw_n (mk_let p3 p4 1500) ≤ sh_w w (kr fc w k) gA := fun k hk h5 => by
      have h6 := c3.2.1 k hk
      have h7 : sh_w w (kr fc w k) gA < 8 * w := by
        have h8 := sh_w_le w (kr fc w k) gA
        have h9 : ¬ sh_w w (kr fc w k) gA = 8 * w := fun h10 => kw_irr (sh_w_full.mp h10) h6
        omega
      have h8 := sh_w_ne h7
      have h9 : by_w gA (sh_w w (kr fc w k) gA) = 0 := by rw [hL1 _ (by omega)]; exact rw_b_far _ _ h5
      rw [h9] at h8
      exact kw_asym h6 (kw_lt_byte h7 (fun i hi => (sh_w_eq w _ _ i hi).symm) (by rw [h9]; omega))
    have hhigh : ∀ k, ee ≤ k → k < n → ¬ rw_n (mk_let p3 p4 1500) ≤ sh_w w (kr fc w k) gA := fun k h5 h6 h7 => by
      have h8 := c8 (by omega)
      by_cases h9 : k = ee
      · rw [h9] at h7; omega
      have h10 := sh_w_le w (kr fc w k) gA
      have h11 : sh_w w (kr fc w ee) gA < 8 * w := by omega
      have h12 := sh_w_ne h11
      have h13 : by_w (kr fc w k) (sh_w w (kr fc w ee) gA) = by_w gA (sh_w w (kr fc w ee) gA) := sh_w_eq w _ _ _ (by omega)
      have h14 : ∀ i, i < sh_w w (kr fc w ee) gA → by_w (kr fc w k) i = by_w (kr fc w ee) i := fun i hi => (sh_w_eq w (kr fc w k) gA i (by omega)).trans (sh_w_eq w (kr fc w ee) gA i hi).symm
      have h15 := hs ee k (by omega) h6
      rcases Nat.lt_or_ge (by_w (kr fc w ee) (sh_w w (kr fc w ee) gA)) (by_w gA (sh_w w (kr fc w ee) gA)) with h16 | h16
      · exact c3.2.2 ee c4 (by omega) (kw_lt_byte h11 (fun i hi => sh_w_eq w _ _ i hi) h16)
      · exact kw_asym h15 (kw_lt_byte h11 h14 (by rw [h13]; omega))
    rw [cb_num_cut (m := ee) n c5 (fun i h5 h6 => by rw [hP i h6]; exact decide_eq_false (hhigh i h5 h6)), cb_rng (a := q) (b := ee) (fun k h5 h6 => by rw [hP k (by omega)]; exact decide_eq_true (c7 k h5 h6)) (fun k h5 => by rw [hP k (by omega)]; exact decide_eq_false (hlow k h5)) ee (Nat.le_refl _)]
    omega
  · rcases hm with ⟨m1, m2⟩ | ⟨m1, -⟩
    · exact ⟨ik m2 (kt1 c1), fun h5 => by rw [c1] at h5; exact absurd h5 (by decide)⟩
    · omega
theorem sm_about {dp2 : Int32} {rt2 : Int32} {opn2 : Int32} {chg2 : Int32} {fb2 : Nat → Int32} {fl2 : Nat → Int32} {fch2 : Nat → Int32} {fh2 : Nat → Int32} {fo2 : Nat → Int64} {mth2 : Int32} {p8b : Nat → Int32} {p9b : Nat → Int32} {pab : Nat → Int32} {pbb : Nat → Int32} (hI : SI w n nc nv kn mb sr isr cu wd cnt chg opn dp rt fc fb) (hR : RL w n sr cu gA gB gC fc fv mso mct mfr mcu p1 p2 p5 p3 p4 p6 p7 KW) {wh rm : Int32} (hc : (kk = 0 ∧ (0 ≤ wh.toInt ∧ wh.toInt ≤ 7) ∧ (∃ vr : Int32, (((chg2 = 0 ∨ chg2 = 1) ∧ opn2.toInt = 0 ∧ (chg2 = 0 → sh_ok w fc n fb2 dp2 rt2)) ∧ ((wh.toInt = 0 ∧ vr.toInt = (n : Int)) ∨ (1 ≤ wh.toInt ∧ wh.toInt ≤ 4 ∧ vr.toInt = ((cb_end (tb_gap w fc) (n - 1)).2.1 (wh.toInt.toNat - 1) : Int)) ∨ (wh.toInt = 5 ∧ vr.toInt = ((cb_end (tb_gap w fc) (n - 1)).1 : Int)) ∨ (wh.toInt = 6 ∧ ∃ q : Nat, tb_isb w n fc gA q ∧ (((q < n ∧ kw_eq w (kr fc w q) gA) ∧ vr.toInt = (cb_N (tb_gap w fc) 64 (n - 1) q 0 : Int)) ∨ (¬ (q < n ∧ kw_eq w (kr fc w q) gA) ∧ vr.toInt = -1))) ∨ (wh.toInt = 7 ∧ vr.toInt = ((cb_end (tb_gap w fc) (n - 1)).2.2 : Int)))) ∧ fo2 0 = vr.toInt64)) ∨ (kk = 1 ∧ (wh.toInt < 0 ∨ 7 < wh.toInt) ∧ dp2 = dp ∧ rt2 = rt ∧ opn2 = opn ∧ chg2 = chg ∧ fb2 = fb ∧ fl2 = fl ∧ fch2 = fch ∧ fh2 = fh ∧ fo2 = fo)) (hm : ((wh.toInt < 0 ∨ 7 < wh.toInt) ∧ mth2.toInt = 1) ∨ (0 ≤ wh.toInt ∧ wh.toInt ≤ 7 ∧ mth2.toInt = 0 ∧ ((wh.toInt = 0 ∧ rm.toInt = (n : Int)) ∨ (1 ≤ wh.toInt ∧ wh.toInt ≤ 4 ∧ rm.toInt = ((cb_end (fun k => sh_w w ((fun k => KW (p6 k).toInt.toNat) (k + 1)) ((fun k => KW (p6 k).toInt.toNat) k)) (n - 1)).2.1 (wh.toInt.toNat - 1) : Int)) ∨ (wh.toInt = 5 ∧ rm.toInt = ((cb_end (fun k => sh_w w ((fun k => KW (p6 k).toInt.toNat) (k + 1)) ((fun k => KW (p6 k).toInt.toNat) k)) (n - 1)).1 : Int)) ∨ (wh.toInt = 6 ∧ ∃ q : Nat, ob_isb w n (fun k => KW (p6 k).toInt.toNat) (KW 1500) q ∧ (((q < n ∧ kw_eq w ((fun k => KW (p6 k).toInt.toNat) q) (KW 1500)) ∧ rm.toInt = (cb_N (fun k => sh_w w ((fun k => KW (p6 k).toInt.toNat) (k + 1)) ((fun k => KW (p6 k).toInt.toNat) k)) 64 (n - 1) q 0 : Int)) ∨ (¬ (q < n ∧ kw_eq w ((fun k => KW (p6 k).toInt.toNat) q) (KW 1500)) ∧ rm.toInt = -1))) ∨ (wh.toInt = 7 ∧ rm.toInt = ((cb_end (fun k => sh_w w ((fun k => KW (p6 k).toInt.toNat) (k + 1)) ((fun k => KW (p6 k).toInt.toNat) k)) (n - 1)).2.2 : Int))))) : mth2 = kk ∧ (kk = 0 → fo2 0 = rm.toInt64) ∧ SI w n nc nv kn mb sr isr cu wd cnt chg2 opn2 dp2 rt2 fc fb2 := by
  obtain ⟨hw, hw7, hcnt, hnc, hnv, hn, hkn, hmb, hs, hopn, hchg, hsh, hsr, hcu⟩ := id hI
  obtain ⟨r1, r2, r3, r4, r5, r6, r7, r8, r9, r10, r11⟩ := id hR
  
  have hg := rl_gap hR
  have hE := cb_end_congr hg
  rcases hc with ⟨c1, c2, vr, ⟨⟨c3, c4, c5⟩, c6⟩, c9⟩ | ⟨c1, c2, rfl, rfl, rfl, rfl, rfl, rfl, rfl, rfl, rfl⟩
  · rcases hm with ⟨m1, -⟩ | ⟨m1, m2, m3, m4⟩
    · omega
    refine ⟨ik m3 (kt0 c1), fun _ => ?_, hw, hw7, hcnt, hnc, hnv, hn, hkn, hmb, hs, c4, c3, c5, hsr, hcu⟩
    rw [c9]
    refine kl64 ?_
    rw [hE] at c6
    rcases c6 with ⟨d1, d2⟩ | ⟨d1, d0, d2⟩ | ⟨d1, d2⟩ | ⟨d1, q, d2, d3⟩ | ⟨d1, d2⟩
    · rcases m4 with ⟨m5, m6⟩ | ⟨m5, -⟩ | ⟨m5, -⟩ | ⟨m5, -⟩ | ⟨m5, -⟩
      · rw [d2, m6]
      all_goals omega
    · rcases m4 with ⟨m5, -⟩ | ⟨m5, m7, m6⟩ | ⟨m5, -⟩ | ⟨m5, -⟩ | ⟨m5, -⟩
      · omega
      · rw [d2, m6]
      all_goals omega
    · rcases m4 with ⟨m5, -⟩ | ⟨m5, m7, -⟩ | ⟨m5, m6⟩ | ⟨m5, -⟩ | ⟨m5, -⟩
      · omega
      · omega
      · rw [d2, m6]
      all_goals omega
    · rcases m4 with ⟨m5, -⟩ | ⟨m5, m7, -⟩ | ⟨m5, -⟩ | ⟨m5, q2, m6, m8⟩ | ⟨m5, -⟩
      · omega
      · omega
      · omega
      · obtain ⟨rfl, h6⟩ := rl_q hR r7 d2 m6
        rcases d3 with ⟨d3, d4⟩ | ⟨d3, d4⟩
        · rcases m8 with ⟨m8, m9⟩ | ⟨m8, -⟩
          · rw [d4, m9, cb_N_congr (by have := d3.1; omega) hg]
          · exact absurd (h6.mp d3) m8
        · rcases m8 with ⟨m8, -⟩ | ⟨m8, m9⟩
          · exact absurd (h6.mpr m8) d3
          · rw [d4, m9]
      · omega
    · rcases m4 with ⟨m5, -⟩ | ⟨m5, m7, -⟩ | ⟨m5, -⟩ | ⟨m5, -⟩ | ⟨m5, m6⟩
      · omega
      · omega
      · omega
      · omega
      · rw [d2, m6]
  · rcases hm with ⟨m1, m2⟩ | ⟨m1, m2, -⟩
    · exact ⟨ik m2 (kt1 c1), fun h5 => by rw [c1] at h5; exact absurd h5 (by decide), hI⟩
    · omega
theorem sm_compact {dp2 : Int32} {rt2 : Int32} {opn2 : Int32} {chg2 : Int32} {fb2 : Nat → Int32} {fl2 : Nat → Int32} {fch2 : Nat → Int32} {fh2 : Nat → Int32} {gD2 : Nat → Int64} {mth2 : Int32} {p8b : Nat → Int32} {p9b : Nat → Int32} {pab : Nat → Int32} (hI : SI w n nc nv kn mb sr isr cu wd cnt chg opn dp rt fc fb) (hR : RL w n sr cu gA gB gC fc fv mso mct mfr mcu p1 p2 p5 p3 p4 p6 p7 KW) {rc rm : Int32} (hc : (chg2 = 0 ∧ opn2.toInt = 0 ∧ sh_ok w fc n fb2 dp2 rt2) ∧ rc.toInt = (cp_k (fun k => if isr = 0 then 8 * w else rw_n ((fun k => mk_let p3 p4 (p6 k).toInt.toNat) k) + 2) n : Int) + ((cb_end (tb_gap w fc) (n - 1)).2.1 0 * 9 + (cb_end (tb_gap w fc) (n - 1)).2.1 1 * 24 + (cb_end (tb_gap w fc) (n - 1)).2.1 2 * 116 + (cb_end (tb_gap w fc) (n - 1)).2.1 3 * 260 : Nat)) (hm : mth2.toInt = 0 ∧ rm.toInt = (cp_k (fun k => cl mso.toInt w p3 p4 (p6 k).toInt.toNat) n : Int) + ((cb_end (fun k => sh_w w ((fun k => KW (p6 k).toInt.toNat) (k + 1)) ((fun k => KW (p6 k).toInt.toNat) k)) (n - 1)).2.1 0 * 9 + (cb_end (fun k => sh_w w ((fun k => KW (p6 k).toInt.toNat) (k + 1)) ((fun k => KW (p6 k).toInt.toNat) k)) (n - 1)).2.1 1 * 24 + (cb_end (fun k => sh_w w ((fun k => KW (p6 k).toInt.toNat) (k + 1)) ((fun k => KW (p6 k).toInt.toNat) k)) (n - 1)).2.1 2 * 116 + (cb_end (fun k => sh_w w ((fun k => KW (p6 k).toInt.toNat) (k + 1)) ((fun k => KW (p6 k).toInt.toNat) k)) (n - 1)).2.1 3 * 260 : Nat)) : rc = rm ∧ SI w n nc nv kn mb sr isr cu wd cnt chg2 opn2 dp2 rt2 fc fb2 := by
  obtain ⟨hw, hw7, hcnt, hnc, hnv, hn, hkn, hmb, hs, hopn, hchg, hsh, hsr, hcu⟩ := id hI
  obtain ⟨r1, r2, r3, r4, r5, r6, r7, r8, r9, r10, r11⟩ := id hR
  
  have hE := cb_end_congr (rl_gap hR)
  obtain ⟨⟨c1, c2, c3⟩, c4⟩ := hc
  obtain ⟨-, m1⟩ := hm
  refine ⟨ik ?_ m1, hw, hw7, hcnt, hnc, hnv, hn, hkn, hmb, hs, c2, Or.inl c1, fun _ => c3, hsr, hcu⟩
  rw [c4, hE, cp_k_congr (c2 := fun k => cl mso.toInt w p3 p4 (p6 k).toInt.toNat) n (fun k hk => ?_)]
  show (if isr = 0 then 8 * w else rw_n (mk_let p3 p4 (p6 k).toInt.toNat) + 2) = _
  unfold cl
  rcases hsr with h5 | h5 | h5
  · rw [if_pos h5.2.2, if_neg (by omega)]
  · rw [if_pos h5.2.2, if_neg (by omega)]
  · rw [if_neg (by rw [h5.2.2]; decide), if_pos (by omega)]
theorem rl_LL (hI : SI w n nc nv kn mb sr isr cu wd cnt chg opn dp rt fc fb) (hR : RL w n sr cu gA gB gC fc fv mso mct mfr mcu p1 p2 p5 p3 p4 p6 p7 KW) : ¬ isr = 0 → ∀ k, k < n → (∀ d, d < 56 → by_w (kr fc w k) d = rw_b ((fun k => mk_let p3 p4 (p6 k).toInt.toNat) k) d) ∧ ((fun k => mk_let p3 p4 (p6 k).toInt.toNat) k).length ≤ 24 := by
  intro hi k hk
  obtain ⟨-, -, -, -, -, -, -, -, -, -, -, -, hsr, -⟩ := id hI
  obtain ⟨-, -, -, -, r5, -, -, -, -, r10, -⟩ := id hR
  have h1 := r5.1 k hk
  exact rl_let hI hR (t := (p6 k).toInt.toNat) (by omega) (r10 k hk) (by rcases hsr with h5 | h5 | h5 <;> first | exact absurd h5.2.2 hi | exact h5.1)
theorem sm_load {cd2 : Nat} {vl2 : Nat} {nc2 : Nat} {nv2 : Nat} {cnt2 : Int32} {chg2 : Int32} {fc2 : Nat → Int64} {fv2 : Nat → Int64} {gD2 : Nat → Int64} {mth2 : Int32} {mct2 : Int32} {mfr2 : Int32} {p1b : Nat → Int64} {p2b : Nat → Int64} {p3b : Nat → Int32} {p4b : Nat → Int32} {p5b : Nat → Int64} {p6b : Nat → Int32}  (hI : SI w n nc nv kn mb sr isr cu wd cnt chg opn dp rt fc fb) (hR : RL w n sr cu gA gB gC fc fv mso mct mfr mcu p1 p2 p5 p3 p4 p6 p7 KW) {x0 y0 : Int64} {n0 : Int32} (hok : sr.toInt = 0 ∧ n = 0 ∧ 1 ≤ x0.toInt ∧ 0 ≤ n0.toInt ∧ n0.toInt ≤ 1500 ∧ ft_ok (gA 0 ^^^ (-9223372036854775808)) x0 n0.toInt) (hc : (kk = 0 ∧ (sr.toInt = 0 ∧ n = 0 ∧ 1 ≤ x0.toInt ∧ 0 ≤ n0.toInt ∧ n0.toInt ≤ 1500 ∧ ft_ok (gA 0 ^^^ (-9223372036854775808)) x0 n0.toInt) ∧ (cnt2 = n0 ∧ (chg2 = 1 ∨ (n0.toInt = 0 ∧ chg2 = chg)) ∧ nv2 = gw nv n0.toInt.toNat ∧ nc2 = nv2 * w ∧ (∀ k, k < n0.toInt.toNat → fc2 k = ((gA 0 ^^^ (-9223372036854775808)) + (Int32.ofNat k).toInt64 * x0) ^^^ (-9223372036854775808)) ∧ (∀ k, k < n0.toInt.toNat → fv2 k = y0 + (Int32.ofNat k).toInt64))) ∨ (kk = 1 ∧ (sr.toInt ≠ 0 ∨ 0 < n) ∧ cd2 = cd ∧ vl2 = vl ∧ nc2 = nc ∧ nv2 = nv ∧ cnt2 = cnt ∧ chg2 = chg ∧ fc2 = fc ∧ fv2 = fv ∧ gD2 = gD) ∨ (kk = 2 ∧ (sr.toInt = 0 ∧ n = 0 ∧ ¬ (1 ≤ x0.toInt ∧ 0 ≤ n0.toInt ∧ ft_ok (gA 0 ^^^ (-9223372036854775808)) x0 n0.toInt)) ∧ cd2 = cd ∧ vl2 = vl ∧ nc2 = nc ∧ nv2 = nv ∧ cnt2 = cnt ∧ chg2 = chg ∧ fc2 = fc ∧ fv2 = fv ∧ gD2 = gD) ∨ (kk = 3 ∧ (sr.toInt = 0 ∧ n = 0 ∧ 1 ≤ x0.toInt ∧ 1500 < n0.toInt ∧ ft_ok (gA 0 ^^^ (-9223372036854775808)) x0 n0.toInt) ∧ cd2 = cd ∧ vl2 = vl ∧ nc2 = nc ∧ nv2 = nv ∧ cnt2 = cnt ∧ chg2 = chg ∧ fc2 = fc ∧ fv2 = fv ∧ gD2 = gD)) (hm : ((mso.toInt ≠ 0 ∨ 0 < n) ∧ mth2.toInt = 1 ∧ mct2 = mct ∧ mfr2 = mfr ∧ p6b = p6 ∧ p5b = p5 ∧ p1b = p1 ∧ p2b = p2 ∧ p3b = p3 ∧ p4b = p4) ∨ (mso.toInt = 0 ∧ n = 0 ∧ ¬ (1 ≤ x0.toInt ∧ 0 ≤ n0.toInt ∧ ft_ok (p1 1500) x0 n0.toInt) ∧ mth2.toInt = 2 ∧ mct2 = mct ∧ mfr2 = mfr ∧ p6b = p6 ∧ p5b = p5 ∧ p1b = p1 ∧ p2b = p2 ∧ p3b = p3 ∧ p4b = p4) ∨ (mso.toInt = 0 ∧ n = 0 ∧ 1 ≤ x0.toInt ∧ 0 ≤ n0.toInt ∧ ft_ok (p1 1500) x0 n0.toInt ∧ 1500 < n0.toInt ∧ mth2.toInt = 3 ∧ mct2 = mct ∧ mfr2 = mfr ∧ p6b = p6 ∧ p5b = p5 ∧ p1b = p1 ∧ p2b = p2 ∧ p3b = p3 ∧ p4b = p4) ∨ (mso.toInt = 0 ∧ n = 0 ∧ 1 ≤ x0.toInt ∧ 0 ≤ n0.toInt ∧ ft_ok (p1 1500) x0 n0.toInt ∧ n0.toInt ≤ 1500 ∧ mth2.toInt = 0 ∧ ∃ KW2 : Nat → Nat → Int64, mct2 = n0 ∧ mfr2.toInt = 1500 - n0.toInt ∧ MI n0.toInt.toNat p6b p7 ∧ KRs mso.toInt p1b p2b p3b p4b KW2 ∧ KW2 1500 0 = KW 1500 0 ∧ KW2 1501 = KW 1501 ∧ KW2 1502 = KW 1502 ∧ (∀ k, k < n0.toInt.toNat → KW2 (p6b k).toInt.toNat 0 = ((p1 1500) + (Int32.ofNat k).toInt64 * x0) ^^^ (-9223372036854775808)) ∧ (∀ k, k < n0.toInt.toNat → p5b (p6b k).toInt.toNat = y0 + (Int32.ofNat k).toInt64))) : mth2 = kk ∧ nv2 = gw nv n0.toInt.toNat ∧ ∃ n2 KW2, SI w n2 nc2 nv2 kn mb sr isr cu wd cnt2 chg2 opn dp rt fc2 fb ∧ RL w n2 sr cu gA gB gC fc2 fv2 mso mct2 mfr2 mcu p1b p2b p5b p3b p4b p6b p7 KW2 := by
  obtain ⟨hw, hw7, hcnt, hnc, hnv, hn, hkn, hmb, hs, hopn, hchg, hsh, hsr, hcu⟩ := id hI
  obtain ⟨r1, r2, r3, r4, r5, r6, r7, r8, r9, r10, r11⟩ := id hR
  
  obtain ⟨o1, o2, o3, o4, o5, o6⟩ := hok
  rcases hc with ⟨c1, -, c2, c3, c4, c5, c6, c7⟩ | ⟨c1, c2, -⟩ | ⟨c1, c2, -⟩ | ⟨c1, c2, -⟩
  · have hw1 : w = 1 := by omega
    have hp1 : gA 0 ^^^ (-9223372036854775808) = p1 1500 := by
      rcases r6 1500 (by omega) with h9 | h9 | h9
      · rw [r7 0 (by omega), h9.2]; exact xr_xor _
      · omega
      · omega
    rw [hp1] at c6 o6
    rcases hm with ⟨m1, -⟩ | ⟨-, -, m1, -⟩ | ⟨-, -, -, -, -, m1, -⟩ | ⟨-, -, -, -, -, -, m1, KW2, m2, m3, m4, m5, m6, m7, m8, m9, m10⟩
    · omega
    · exact absurd ⟨o3, o4, o6⟩ m1
    · omega
    have hrow : ∀ k j, j < w → kr fc2 w k j = fc2 k := fun k j hj => by
      show fc2 (k * w + j) = fc2 k
      rw [hw1, Nat.mul_one, show j = 0 by omega, Nat.add_zero]
    have hs2 : tb_srt w n0.toInt.toNat fc2 := fun a b h1 h2 => by
      refine ⟨0, by omega, fun j hj => by omega, ?_⟩
      rw [hrow a 0 (by omega), hrow b 0 (by omega), c6 a (by omega), c6 b h2, xorL, ld_at (N := n0.toInt) o3 o6 (by omega) (by omega), ld_at (N := n0.toInt) o3 o6 (by omega) (by omega)]
      have h5 : (a : Int) * x0.toInt < (b : Int) * x0.toInt := Int.mul_lt_mul_of_pos_right (by omega) (by omega)
      omega
    have hg1 := gw_ge nv n0.toInt.toNat
    have hg2 := gw_in hnv.2.1 n0.toInt.toNat
    have hg3 := gw_up (nv := nv) n0.toInt.toNat
    refine ⟨ik m1 (kt0 c1), c4, n0.toInt.toNat, KW2, ⟨hw, hw7, by rw [c2]; omega, c5, by omega, by omega, hkn, hmb, hs2, hopn, ?_, fun h => ?_, hsr, hcu⟩, r1, r2, by rw [m2]; omega, by omega, m4, m5, fun j hj => ?_, by rw [m7]; exact r8, by rw [m8]; exact r9, fun k hk j hj => ?_, fun k hk => ?_⟩
    · rcases c3 with h5 | h5
      · exact Or.inr h5
      · rw [h5.2]; exact hchg
    · rcases c3 with h5 | h5
      · rw [h5] at h; exact absurd h (by decide)
      · rw [h5.2] at h
        have h6 := hsh h
        rw [show n0.toInt.toNat = 0 by omega]
        rw [o2] at h6
        unfold sh_ok at h6 ⊢
        rw [cb_end_congr (c := tb_gap w fc2) (c2 := tb_gap w fc) (g := 0 - 1) (fun i hi => by omega)]
        exact h6
    · rw [show j = 0 by omega, m6]; exact r7 0 (by omega)
    · rw [hrow k j hj, c6 k hk, show j = 0 by omega]; exact (m9 k hk).symm
    · rw [c7 k hk]; exact (m10 k hk).symm
  · omega
  · exact absurd ⟨o3, o4, o6⟩ c2.2.2
  · omega
theorem sm_load_no {mth2 : Int32} {mct2 : Int32} {mfr2 : Int32} {p1b : Nat → Int64} {p2b : Nat → Int64} {p3b : Nat → Int32} {p4b : Nat → Int32} {p5b : Nat → Int64} {p6b : Nat → Int32} (hI : SI w n nc nv kn mb sr isr cu wd cnt chg opn dp rt fc fb) (hR : RL w n sr cu gA gB gC fc fv mso mct mfr mcu p1 p2 p5 p3 p4 p6 p7 KW) {x0 y0 : Int64} {n0 : Int32} (hc : (kk = 0 ∧ (False) ∧ (True)) ∨ (kk = 1 ∧ (sr.toInt ≠ 0 ∨ 0 < n)) ∨ (kk = 2 ∧ (sr.toInt = 0 ∧ n = 0 ∧ ¬ (1 ≤ x0.toInt ∧ 0 ≤ n0.toInt ∧ ft_ok (gA 0 ^^^ (-9223372036854775808)) x0 n0.toInt))) ∨ (kk = 3 ∧ (sr.toInt = 0 ∧ n = 0 ∧ 1 ≤ x0.toInt ∧ 1500 < n0.toInt ∧ ft_ok (gA 0 ^^^ (-9223372036854775808)) x0 n0.toInt))) (hm : ((mso.toInt ≠ 0 ∨ 0 < n) ∧ mth2.toInt = 1 ∧ mct2 = mct ∧ mfr2 = mfr ∧ p6b = p6 ∧ p5b = p5 ∧ p1b = p1 ∧ p2b = p2 ∧ p3b = p3 ∧ p4b = p4) ∨ (mso.toInt = 0 ∧ n = 0 ∧ ¬ (1 ≤ x0.toInt ∧ 0 ≤ n0.toInt ∧ ft_ok (p1 1500) x0 n0.toInt) ∧ mth2.toInt = 2 ∧ mct2 = mct ∧ mfr2 = mfr ∧ p6b = p6 ∧ p5b = p5 ∧ p1b = p1 ∧ p2b = p2 ∧ p3b = p3 ∧ p4b = p4) ∨ (mso.toInt = 0 ∧ n = 0 ∧ 1 ≤ x0.toInt ∧ 0 ≤ n0.toInt ∧ ft_ok (p1 1500) x0 n0.toInt ∧ 1500 < n0.toInt ∧ mth2.toInt = 3 ∧ mct2 = mct ∧ mfr2 = mfr ∧ p6b = p6 ∧ p5b = p5 ∧ p1b = p1 ∧ p2b = p2 ∧ p3b = p3 ∧ p4b = p4) ∨ (mso.toInt = 0 ∧ n = 0 ∧ 1 ≤ x0.toInt ∧ 0 ≤ n0.toInt ∧ ft_ok (p1 1500) x0 n0.toInt ∧ n0.toInt ≤ 1500 ∧ mth2.toInt = 0 ∧ ∃ KW2 : Nat → Nat → Int64, mct2 = n0 ∧ mfr2.toInt = 1500 - n0.toInt ∧ MI n0.toInt.toNat p6b p7 ∧ KRs mso.toInt p1b p2b p3b p4b KW2 ∧ KW2 1500 0 = KW 1500 0 ∧ KW2 1501 = KW 1501 ∧ KW2 1502 = KW 1502 ∧ (∀ k, k < n0.toInt.toNat → KW2 (p6b k).toInt.toNat 0 = ((p1 1500) + (Int32.ofNat k).toInt64 * x0) ^^^ (-9223372036854775808)) ∧ (∀ k, k < n0.toInt.toNat → p5b (p6b k).toInt.toNat = y0 + (Int32.ofNat k).toInt64))) : mth2 = kk ∧ ∃ KW2, RL w n sr cu gA gB gC fc fv mso mct2 mfr2 mcu p1b p2b p5b p3b p4b p6b p7 KW2 := by
  obtain ⟨hw, hw7, hcnt, hnc, hnv, hn, hkn, hmb, hs, hopn, hchg, hsh, hsr, hcu⟩ := id hI
  obtain ⟨r1, r2, r3, r4, r5, r6, r7, r8, r9, r10, r11⟩ := id hR
  
  have hp1 : sr.toInt = 0 → gA 0 ^^^ (-9223372036854775808) = p1 1500 := fun h0 => by
    rcases r6 1500 (by omega) with h9 | h9 | h9
    · rw [r7 0 (by omega), h9.2]; exact xr_xor _
    · omega
    · omega
  rcases hc with ⟨c1, c2, -⟩ | ⟨c1, c2⟩ | ⟨c1, c2, c3, c4⟩ | ⟨c1, c2, c3, c4, c5, c6⟩
  · exact c2.elim
  · rcases hm with ⟨-, m1, rfl, rfl, rfl, rfl, rfl, rfl, rfl, rfl⟩ | ⟨m1, m2, -⟩ | ⟨m1, m2, -⟩ | ⟨m1, m2, -⟩
    · exact ⟨ik m1 (kt1 c1), KW, hR⟩
    · omega
    · omega
    · omega
  · rw [hp1 c2] at c4
    rcases hm with ⟨m1, -⟩ | ⟨-, -, -, m1, rfl, rfl, rfl, rfl, rfl, rfl, rfl, rfl⟩ | ⟨-, -, m1, m2, m3, -⟩ | ⟨-, -, m1, m2, m3, -⟩
    · omega
    · exact ⟨ik m1 (kt2 c1), KW, hR⟩
    · exact absurd ⟨m1, m2, m3⟩ c4
    · exact absurd ⟨m1, m2, m3⟩ c4
  · rw [hp1 c2] at c6
    rcases hm with ⟨m1, -⟩ | ⟨-, -, m1, -⟩ | ⟨-, -, -, -, -, -, m1, rfl, rfl, rfl, rfl, rfl, rfl, rfl, rfl⟩ | ⟨-, -, m1, m2, m3, m4, -⟩
    · omega
    · exact absurd ⟨c4, by omega, c6⟩ m1
    · exact ⟨ik m1 (kt3 c1), KW, hR⟩
    · omega
theorem sm_init {s0 : Int32} {sr2 isr2 cu2 wd2 cnt2 chg2 dp2 rt2 opn2 : Int32} {gA2 gB2 gC2 gD2 fc2 fv2 : Nat → Int64} {fb2 : Nat → Int32} {mth : Int32} {mb9 : Nat} (hs0 : (s0.toInt % 3 = 0 ∧ w = 1) ∨ (s0.toInt % 3 = 1 ∧ w = 2) ∨ (s0.toInt % 3 = 2 ∧ w = 7)) (hm9 : mb9 = 8 * w) (hc : sr2.toInt = s0.toInt % 3 ∧ (isr2.toInt = if sr2.toInt = 2 then 1 else 0) ∧ wd2.toInt = (w : Int) ∧ cnt2.toInt = 0 ∧ chg2 = 0 ∧ cu2 = 0 ∧ dp2.toInt = 0 ∧ rt2.toInt = 0 ∧ opn2.toInt = 0 ∧ (∀ j : Nat, fb2 j = (0 : Int32)) ∧ ((isr2 = 0 → ∀ j, j < w → gA2 j = -9223372036854775808) ∧ (¬ isr2 = 0 → ∀ j, j < w → gA2 j = 0)) ∧ ((isr2 = 0 → ∀ j, j < w → gB2 j = -9223372036854775808) ∧ (¬ isr2 = 0 → ∀ j, j < w → gB2 j = 0)) ∧ ((isr2 = 0 → ∀ j, j < w → gC2 j = -9223372036854775808) ∧ (¬ isr2 = 0 → ∀ j, j < w → gC2 j = 0)) ∧ ((isr2 = 0 → ∀ j, j < w → gD2 j = -9223372036854775808) ∧ (¬ isr2 = 0 → ∀ j, j < w → gD2 j = 0))) (hm : mso.toInt = s0.toInt % 3 ∧ mct.toInt = 0 ∧ mfr.toInt = 1500 ∧ mcu = 0 ∧ mth.toInt = 0 ∧ (∀ k, k < 1500 → (p7 k).toInt = 1499 - (k : Int)) ∧ (∀ k : Nat, p1 k = (0 : Int64)) ∧ (∀ k : Nat, p2 k = (0 : Int64)) ∧ (∀ k : Nat, p4 k = (0 : Int32))) : SI w 0 (16 * w) 16 w mb9 sr2 isr2 cu2 wd2 cnt2 chg2 opn2 dp2 rt2 fc2 fb2 ∧ ∃ KW2, RL w 0 sr2 cu2 gA2 gB2 gC2 fc2 fv2 mso mct mfr mcu p1 p2 p5 p3 p4 p6 p7 KW2 := by
  obtain ⟨c1, c2, c3, c4, c5, c6, c7, c8, c9, c10, c11, c12, c13, c14⟩ := hc
  obtain ⟨m1, m2, m3, m4, m5, m6, m7, m8, m9⟩ := hm
  have hg : ∀ g : Nat → Int64, ((isr2 = 0 → ∀ j, j < w → g j = -9223372036854775808) ∧ (¬ isr2 = 0 → ∀ j, j < w → g j = 0)) → kw_eq w g (fun _ => if mso.toInt = 2 then 0 else -9223372036854775808) := fun g h j hj => by
    by_cases h5 : mso.toInt = 2
    · rw [if_pos h5]; exact h.2 (by intro h6; rw [h6, if_pos (by omega)] at c2; exact absurd c2 (by decide)) j hj
    · rw [if_neg h5]; exact h.1 (ic_eq.mpr (by rw [c2, if_neg (by omega)]; rfl)) j hj
  refine ⟨⟨c3, by omega, by rw [c4]; rfl, rfl, by omega, by omega, rfl, hm9, fun a b h1 h2 => by omega, c9, Or.inl c5, fun _ => ⟨fun j hj => ?_, ?_, ?_⟩, ?_, Or.inl c6⟩, fun _ => (fun _ => if mso.toInt = 2 then 0 else -9223372036854775808), by omega, by rw [m4, c6], by rw [m2]; rfl, by omega, ⟨fun k hk => by omega, fun k hk => by rw [m6 k (by omega)]; omega, fun i j h1 h2 h3 => ?_⟩, fun x hx => ?_, hg _ c11, hg _ c12, hg _ c13, fun k hk => by omega, fun k hk => by omega⟩
  · rw [c10 j]; rfl
  · rw [c7]; rfl
  · rw [c8]; rfl
  · have h5 : sr2.toInt = 2 → isr2 = 1 := fun h6 => ic_eq.mpr (by rw [c2, if_pos h6]; rfl)
    have h7 : ¬ sr2.toInt = 2 → isr2 = 0 := fun h6 => ic_eq.mpr (by rw [c2, if_neg h6]; rfl)
    rcases hs0 with h8 | h8 | h8
    · exact Or.inl ⟨by omega, h8.2, h7 (by omega)⟩
    · exact Or.inr (Or.inl ⟨by omega, h8.2, h7 (by omega)⟩)
    · exact Or.inr (Or.inr ⟨by omega, h8.2, h5 (by omega)⟩)
  · unfold sl at h3
    rw [if_neg (by omega), if_neg (by omega), ic_eq, m6 _ (by omega), m6 _ (by omega)] at h3
    omega
  · exact kr_first (by omega) (m7 x) (m8 x) (by rw [m9 x]; rfl)
end SIM2
