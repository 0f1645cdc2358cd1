/-! numbers: a computed int by its value, where it doesn't run over -/
theorem ia_add {x y z : Int32} (e : z = x + y) (h : -2147483648 ≤ x.toInt + y.toInt ∧ x.toInt + y.toInt < 2147483648) : z.toInt = x.toInt + y.toInt := by rw [e]; exact Jvm.Kit.i32_add (by omega) (by omega)
theorem ia_sub {x y z : Int32} (e : z = x - y) (h : -2147483648 ≤ x.toInt - y.toInt ∧ x.toInt - y.toInt < 2147483648) : z.toInt = x.toInt - y.toInt := by rw [e]; exact Jvm.Kit.i32_sub (by omega) (by omega)
theorem ia_mul {x y z : Int32} (e : z = x * y) (h : -2147483648 ≤ x.toInt * y.toInt ∧ x.toInt * y.toInt < 2147483648) : z.toInt = x.toInt * y.toInt := by rw [e]; exact Jvm.Kit.i32_mul (by omega) (by omega)
/-- by a constant on the right, or on the left -/
theorem ia_mulr {x y z : Int32} (k : Int) (e : z = x * y) (hy : y.toInt = k) (h : -2147483648 ≤ x.toInt * k ∧ x.toInt * k < 2147483648) : z.toInt = x.toInt * k := by subst hy; exact ia_mul e h
theorem ia_mull {x y z : Int32} (k : Int) (e : z = x * y) (hx : x.toInt = k) (h : -2147483648 ≤ k * y.toInt ∧ k * y.toInt < 2147483648) : z.toInt = k * y.toInt := by subst hx; exact ia_mul e h
theorem ia_div {x y z : Int32} (k : Int) (e : z = x / y) (hy : y.toInt = k) (hx : 0 ≤ x.toInt) (hk : 0 < k) : z.toInt = x.toInt / k := by
  subst hy
  rw [e, Jvm.Kit.i32_div (by omega), Int.tdiv_eq_ediv_of_nonneg hx]
theorem ia_rem {x y z : Int32} (k : Int) (e : z = x - x / y * y) (hy : y.toInt = k) (hx : 0 ≤ x.toInt) (hk : 0 < k) : z.toInt = x.toInt % k := by
  subst hy
  rw [e, rem_toInt, Int.tmod_eq_emod_of_nonneg hx]
theorem ia_ne0 {y : Int32} (h : y.toInt ≠ 0) : ¬ y = 0 := fun e => h (by rw [e]; rfl)
theorem ic_le {x y : Int32} : x ≤ y ↔ x.toInt ≤ y.toInt := Int32.le_iff_toInt_le
theorem ic_lt {x y : Int32} : x < y ↔ x.toInt < y.toInt := Int32.lt_iff_toInt_lt
theorem ic_eq {x y : Int32} : x = y ↔ x.toInt = y.toInt := Int32.toInt_inj.symm
theorem ic_nle {x y : Int32} : ¬ x ≤ y ↔ y.toInt < x.toInt := by rw [ic_le]; omega
theorem ic_nlt {x y : Int32} : ¬ x < y ↔ y.toInt ≤ x.toInt := by rw [ic_lt]; omega
theorem ic_ne {x y : Int32} : ¬ x = y ↔ x.toInt ≠ y.toInt := by rw [ic_eq]
theorem ia_rng (x : Int32) : -2147483648 ≤ x.toInt ∧ x.toInt < 2147483648 := ⟨Int32.le_toInt x, Int32.toInt_lt x⟩
theorem ia_in {i : Int32} {n : Nat} (h : 0 ≤ i.toInt ∧ i.toInt < n) : vp_in i n := vp_in_iff.mpr h
theorem ia_bool {r : Int32} (h : r = 0 ∨ r = 1) : narrow .boolean (.int r) = .int r := by rcases h with rfl | rfl <;> decide +kernel
theorem ia_of (k : Nat) (h : k < 2147483648) : (Int32.ofNat k).toInt = (k : Int) := nI_toInt (by omega)
theorem ia_inc {x z : Int32} (n : Int) (e : z = x + Int32.ofInt n) (hn : -128 ≤ n ∧ n < 128) (h : -2147483648 ≤ x.toInt + n ∧ x.toInt + n < 2147483648) : z.toInt = x.toInt + n := by
  have h1 : (Int32.ofInt n).toInt = n := Int32.toInt_ofInt_of_le (by omega) (by omega)
  have h2 := ia_add e (by omega)
  omega
theorem ia_mask {x y z : Int32} (k : Nat) (e : z = x &&& y) (hk : k < 32) (hm : y.toBitVec.toNat = 2 ^ k - 1) : z.toInt = x.toInt % 2 ^ k := by rw [e]; exact Jvm.Kit.i32_mask x y hk hm
theorem iz_eq {x : Int32} : x = 0 ↔ x.toInt = 0 := ic_eq
theorem iz_ne {x : Int32} : ¬ x = 0 ↔ x.toInt ≠ 0 := ic_ne
theorem iz_lt {x : Int32} : x < 0 ↔ x.toInt < 0 := ic_lt
theorem iz_nlt {x : Int32} : ¬ x < 0 ↔ 0 ≤ x.toInt := ic_nlt
theorem iz_ge {x : Int32} : 0 ≤ x ↔ 0 ≤ x.toInt := ic_le
theorem iz_nge {x : Int32} : ¬ 0 ≤ x ↔ x.toInt < 0 := ic_nle
theorem iz_gt {x : Int32} : 0 < x ↔ 0 < x.toInt := ic_lt
theorem iz_ngt {x : Int32} : ¬ 0 < x ↔ x.toInt ≤ 0 := ic_nlt
theorem iz_le {x : Int32} : x ≤ 0 ↔ x.toInt ≤ 0 := ic_le
theorem iz_nle {x : Int32} : ¬ x ≤ 0 ↔ 0 < x.toInt := ic_nle
theorem lc_eq {v : Int32} {x y : Int64} (e : v = lg_cmp x y) : v = 0 ↔ x = y := by rw [e]; exact lg_cmp_eq x y
theorem lc_ne {v : Int32} {x y : Int64} (e : v = lg_cmp x y) : ¬ v = 0 ↔ ¬ x = y := not_congr (lc_eq e)
theorem lc_lt {v : Int32} {x y : Int64} (e : v = lg_cmp x y) : v < 0 ↔ x < y := by rw [e]; exact lg_cmp_lt x y
theorem lc_nlt {v : Int32} {x y : Int64} (e : v = lg_cmp x y) : ¬ v < 0 ↔ ¬ x < y := not_congr (lc_lt e)
theorem lc_ge {v : Int32} {x y : Int64} (e : v = lg_cmp x y) : 0 ≤ v ↔ y ≤ x := by rw [e]; exact lg_cmp_ge x y
theorem lc_nge {v : Int32} {x y : Int64} (e : v = lg_cmp x y) : ¬ 0 ≤ v ↔ ¬ y ≤ x := not_congr (lc_ge e)
theorem lc_gt {v : Int32} {x y : Int64} (e : v = lg_cmp x y) : 0 < v ↔ y < x := by rw [e]; exact lg_cmp_gt x y
theorem lc_ngt {v : Int32} {x y : Int64} (e : v = lg_cmp x y) : ¬ 0 < v ↔ ¬ y < x := not_congr (lc_gt e)
theorem lc_le {v : Int32} {x y : Int64} (e : v = lg_cmp x y) : v ≤ 0 ↔ x ≤ y := by rw [e]; exact lg_cmp_le x y
theorem lc_nle {v : Int32} {x y : Int64} (e : v = lg_cmp x y) : ¬ v ≤ 0 ↔ ¬ x ≤ y := not_congr (lc_le e)
/-! the worlds of read-only methods, and of others -/
abbrev tyz (cL cI : ClassId) : List (ClassId × FieldType) := [(cL, .long), (cI, .int)]
def PR (D : va_G) (cL cI : ClassId) (av : List Value) (wc : va_W) : Array Value → State → Prop := va_Pc av (fun U => va_P D classes wc U.heap ∧ va_K D classes (tyz cL cI) U)
theorem PR_blind {D : va_G} {cL cI : ClassId} {av : List Value} {wc : va_W} : FrameBlind (PR D cL cI av wc) := fun a U g mk q => ⟨q.1, q.2.1, va_K.moved (u := U) (U := U.calling g mk a) (Vm.Alike.refl U.vm) q.2.2⟩
def PM (D : va_G) (cL cI : ClassId) (av : List Value) (wc : va_W) (sz : Nat) : Array Value → State → Prop := va_Pc av (fun U => U.heap.size = sz ∧ va_P D classes wc U.heap ∧ va_K D classes (tyz cL cI) U ∧ va_D (fun _ => True) wc)
theorem PM_blind {D : va_G} {cL cI : ClassId} {av : List Value} {wc : va_W} {sz : Nat} : FrameBlind (PM D cL cI av wc sz) := fun a U g mk q => ⟨q.1, q.2.1, q.2.2.1, va_K.moved (u := U) (U := U.calling g mk a) (Vm.Alike.refl U.vm) q.2.2.2.1, q.2.2.2.2⟩
section XR
variable {p : Program} {l : Launch} {e : Env} {R : Room} {s : State} {m : MethodId} {args : Array Value} {below : List Frame} {meth : Method} {c : Code} {H : Heap} {locs : List Loc} {cells slots : Nat} {Q : State → Prop}
theorem xr_met {y : MethodName} {rm : Room} {Pc : Array Value → State → Prop} {Qc : Array Value → State → Outcome → State → Prop} {mc ms : Nat} {free : Addr → Prop} {cc : ByteArray} {maxL : Nat} {ret : Option FieldType} (hy : plainName y.cls = true)
    (body : ∀ (p : Program) (e : Env) (s : State) (m : MethodId) (args : Array Value) (below : List Frame) (meth : Method) (c : Code), p.tables.exec = Jvm.exec → c.code = cc → meth.sig.returnType = ret → (∀ w ∈ TW, w.before args s = true) → s.vm.findClass y.cls = some m.cls → meth.locks = false → meth.name = y.name → c.maxLocals = maxL → Pc args s →
      W p l e rm s m args below meth c s.heap [] 0 0 (MQ below Qc args s mc ms free) (entryFrame m args maxL)) : Met l y (Cond.code y cc maxL ret :: TW) rm Pc Qc mc ms free := by
  refine Met.ofW (cc := cc) (maxL := maxL) (ret := ret) hy rfl ?_
  intro p e s m args below meth c s₁ B hml hv
  have hts := atoms_spec (ws := Cond.code y cc maxL ret :: TW) B.pre
  exact body p e s m args below meth c B.exec B.bytes B.returns (fun w hw => hts w (List.mem_cons_of_mem _ hw)) (findClass_of_methodNamed B.named) B.notSynchronized (name_of_methodNamed B.named B.method).1 hml hv
theorem xr_gin {w : Cond} {ws : List Cond} (hw : w ∈ TW) (h : GoodIn TW ws) : GoodIn TW (w :: ws) := fun x hx => by
  rcases List.mem_cons.mp hx with rfl | hx
  · exact ⟨hw, good_of_word (List.mem_filter.mp hw).2⟩
  · exact h x hx
theorem xr_cv {own C : String} {index maxL mc ms : Nat} {y : MethodName} {bytes : ByteArray} {ret : Option FieldType} {rm : Room} (n : Nat) (hts : ∀ w ∈ TW, w.before args s = true) (hc : Cond.code y bytes maxL ret ∈ TW) (h1 : Cond.methodLink own index y ∈ TW) (h2 : Cond.instanceMethod y ∈ TW) (h3 : Cond.selects C y y ∈ TW) (h4 : Cond.initialized C ∈ TW) (hrc : rm.cells = mc) (hrs : rm.slots = ms)
    (hd : y.cls = C ∧ y.cls ≠ "java/lang/invoke/MethodHandle" ∧ y.cls ≠ "java/lang/invoke/VarHandle" ∧ (parseMethodDescriptor y.desc).map (fun d => d.parameters.length) = some n) (hR : rm.frames + 1 ≤ R.frames ∧ 8 + (maxL + 11) + rm.locals ≤ R.locals) :
    CallW R s args own C index y bytes maxL ret (Cond.code y bytes maxL ret :: TW) rm mc ms n :=
  cwV n hts (xr_gin h1 (xr_gin h2 (xr_gin h3 (xr_gin h4 (xr_gin hc (tw_good (fun w h => h))))))) rfl hrc hrs hd hR
/-- a static method of another class, or of the own one -/
theorem xr_cs {own : String} {index maxL mc ms : Nat} {y : MethodName} {bytes : ByteArray} {ret : Option FieldType} {rm : Room} (n : Nat) (hts : ∀ w ∈ TW, w.before args s = true) (hc : Cond.code y bytes maxL ret ∈ TW) (h1 : Cond.methodLink own index y ∈ TW) (h2 : Cond.static y ∈ TW) (h4 : Cond.initialized y.cls ∈ TW) (hrc : rm.cells = mc) (hrs : rm.slots = ms)
    (hd : y.cls ≠ "java/lang/invoke/MethodHandle" ∧ y.cls ≠ "java/lang/invoke/VarHandle" ∧ (parseMethodDescriptor y.desc).map (fun d => d.parameters.length) = some n) (hR : rm.frames + 1 ≤ R.frames ∧ 8 + (maxL + 11) + rm.locals ≤ R.locals) :
    CallB R s args own index y bytes maxL ret (Cond.code y bytes maxL ret :: TW) rm mc ms n ∧ (Cond.static y).before args s = true := by
  refine ⟨⟨hrc, hrs, hR.1, hR.2, pay_in hts (xr_gin hc (tw_good (fun w h => h))), List.mem_cons_self, hts _ hc, hts _ h4, ⟨hd.1, hd.2.1⟩, fun sig h => ?_, hts _ h1⟩, hts _ h2⟩
  have h2 := hd.2.2
  rw [h] at h2
  exact (Option.some.inj h2).symm
theorem xr_ci {own : String} {index maxL mc ms : Nat} {y : MethodName} {bytes : ByteArray} {rm : Room} (n : Nat) (hts : ∀ w ∈ TW, w.before args s = true) (hc : Cond.code y bytes maxL none ∈ TW) (h1 : Cond.methodLink own index y ∈ TW) (h2 : Cond.instanceMethod y ∈ TW) (h4 : Cond.initialized y.cls ∈ TW) (hy1 : y.name = "<init>") (hrc : rm.cells = mc) (hrs : rm.slots = ms)
    (hd : y.cls ≠ "java/lang/invoke/MethodHandle" ∧ y.cls ≠ "java/lang/invoke/VarHandle" ∧ (parseMethodDescriptor y.desc).map (fun d => d.parameters.length) = some n) (hR : rm.frames + 1 ≤ R.frames ∧ 8 + (maxL + 11) + rm.locals ≤ R.locals) :
    CallB R s args own index y bytes maxL none (Cond.code y bytes maxL none :: TW) rm mc ms n ∧ y.name = "<init>" ∧ (Cond.instanceMethod y).before args s = true :=
  cwI n hts (xr_gin hc (tw_good (fun w h => h))) rfl hrc hrs (hts _ h4) (hts _ h1) (hts _ h2) hy1 hd hR
variable {D : va_G} {cL cI : ClassId} {wc : va_W} {cc bytes : ByteArray} {nL maxL n index pc : Nat} {own C : String} {y : MethodName} {ret : Option FieldType} {rm : Room} {ws : List Cond} {Qc : Array Value → State → Outcome → State → Prop} {free : Addr → Prop} {mc ms : Nat} {As rest st : List Value} {a : Nat} {ls : Array Slot}
/-- calls of read-only methods -/
theorem xr_rv (S : CallFix p m c cc nL s args TW own) (hM : Met l y ws rm (PR D cL cI (.ref a :: As) wc) Qc 0 0 free) (cw : CallW R s args own C index y bytes maxL ret ws rm 0 0 n) (hK : va_K D classes (tyz cL cI) s) (hP : va_P D classes wc H) (hr : ∃ cell : Cell, H[a]? = some cell ∧ cell.vm.isStatics = false ∧ s.vm.findClass C = some cell.cls) (hn : As.length = n) (hls : ls.size = nL) (hst : st = As.reverse ++ .ref a :: rest) (hW : (rest.map fun v => v.category).sum ≤ 8) (hdg : decode cc pc = .ok (.invokevirtual index, 3)) (hf : cells ≤ R.cells ∧ slots ≤ R.slots) :
    CallRun p l e R s m args below meth c H locs cells slots 0 0 (F0 m pc ls st) rest (Qc (Value.ref a :: As).toArray) free :=
  W.runV S hM cw ⟨PR_blind, hr, fun U hU hW => ⟨rfl, by rw [hU]; exact hP, va_K.moved hW.alike hK⟩⟩ rfl hn hls hst (lv_room (m := m) (ls := ls) (rest := rest) (pc := pc) hW) hdg hf
theorem xr_rs (S : CallFix p m c cc nL s args TW own) (hM : Met l y ws rm (PR D cL cI As wc) Qc 0 0 free) (cw : CallB R s args own index y bytes maxL ret ws rm 0 0 n ∧ (Cond.static y).before args s = true) (hK : va_K D classes (tyz cL cI) s) (hP : va_P D classes wc H) (hn : As.length = n) (hls : ls.size = nL) (hst : st = As.reverse ++ rest) (hW : (rest.map fun v => v.category).sum ≤ 8) (hdg : decode cc pc = .ok (.invokestatic index, 3)) (hf : cells ≤ R.cells ∧ slots ≤ R.slots) :
    CallRun p l e R s m args below meth c H locs cells slots 0 0 (F0 m pc ls st) rest (Qc As.toArray) free :=
  W.runS S hM cw ⟨PR_blind, fun U hU hW => ⟨rfl, by rw [hU]; exact hP, va_K.moved hW.alike hK⟩⟩ rfl hn hls hst (lv_room (m := m) (ls := ls) (rest := rest) (pc := pc) hW) hdg hf
/-- calls of others -/
theorem xr_mv (S : CallFix p m c cc nL s args TW own) (hM : Met l y ws rm (PM D cL cI (.ref a :: As) wc H.size) Qc mc ms free) (cw : CallW R s args own C index y bytes maxL ret ws rm mc ms n) (hK : va_K D classes (tyz cL cI) s) (hP : va_P D classes wc H) (hD : va_D (fun _ => True) wc) (hr : ∃ cell : Cell, H[a]? = some cell ∧ cell.vm.isStatics = false ∧ s.vm.findClass C = some cell.cls) (hn : As.length = n) (hls : ls.size = nL) (hst : st = As.reverse ++ .ref a :: rest) (hW : (rest.map fun v => v.category).sum ≤ 8) (hdg : decode cc pc = .ok (.invokevirtual index, 3)) (hf : cells + mc ≤ R.cells ∧ slots + ms ≤ R.slots) :
    va_Run p l e R s m args below meth c H locs cells slots mc ms (F0 m pc ls st) rest (Qc (Value.ref a :: As).toArray) free :=
  va_runV S hM cw ⟨PM_blind, hr, fun U hU hW => ⟨rfl, by rw [hU], by rw [hU]; exact hP, va_K.moved hW.alike hK, hD⟩⟩ rfl hn hls hst (lv_room (m := m) (ls := ls) (rest := rest) (pc := pc) hW) hdg hf
theorem xr_ms (S : CallFix p m c cc nL s args TW own) (hM : Met l y ws rm (PM D cL cI As wc H.size) Qc mc ms free) (cw : CallB R s args own index y bytes maxL ret ws rm mc ms n ∧ (Cond.static y).before args s = true) (hK : va_K D classes (tyz cL cI) s) (hP : va_P D classes wc H) (hD : va_D (fun _ => True) wc) (hn : As.length = n) (hls : ls.size = nL) (hst : st = As.reverse ++ rest) (hW : (rest.map fun v => v.category).sum ≤ 8) (hdg : decode cc pc = .ok (.invokestatic index, 3)) (hf : cells + mc ≤ R.cells ∧ slots + ms ≤ R.slots) :
    va_Run p l e R s m args below meth c H locs cells slots mc ms (F0 m pc ls st) rest (Qc As.toArray) free :=
  va_runS S hM cw ⟨PM_blind, fun U hU hW => ⟨rfl, by rw [hU], by rw [hU]; exact hP, va_K.moved hW.alike hK, hD⟩⟩ rfl hn hls hst (lv_room (m := m) (ls := ls) (rest := rest) (pc := pc) hW) hdg hf
theorem xr_mi (S : CallFix p m c cc nL s args TW own) (hM : Met l y ws rm (PM D cL cI (.ref a :: As) wc H.size) Qc mc ms free) (cw : CallB R s args own index y bytes maxL none ws rm mc ms n ∧ y.name = "<init>" ∧ (Cond.instanceMethod y).before args s = true) (hK : va_K D classes (tyz cL cI) s) (hP : va_P D classes wc H) (hD : va_D (fun _ => True) wc) (hn : As.length = n) (hls : ls.size = nL) (hst : st = As.reverse ++ .ref a :: rest) (hW : (rest.map fun v => v.category).sum ≤ 8) (hdg : decode cc pc = .ok (.invokespecial index, 3)) (hf : cells + mc ≤ R.cells ∧ slots + ms ≤ R.slots) :
    va_Run p l e R s m args below meth c H locs cells slots mc ms (F0 m pc ls st) rest (Qc (Value.ref a :: As).toArray) free :=
  va_runI S hM cw ⟨PM_blind, fun U hU hW => ⟨rfl, by rw [hU], by rw [hU]; exact hP, va_K.moved hW.alike hK, hD⟩⟩ rfl hn hls hst (lv_room (m := m) (ls := ls) (rest := rest) (pc := pc) hW) hdg hf
/-- ends of read-only methods -/
theorem xr_reti {post : Int32 → Prop} {v : Int32} (hexec : p.tables.exec = Jvm.exec) (hb : c.code = cc) (hr : meth.sig.returnType = some .int) (hlocks : meth.locks = false) (hp : post v) (hdg : decode cc pc = .ok (.ireturn, 1)) : W p l e R s m args below meth c s.heap [] 0 0 (MQ below (vp_Si post) args s 0 0 (fun _ => False)) (F0 m pc ls [.int v]) :=
  W.iret hexec hb hr (fun t ht _ => ⟨v, rfl, hp, ht⟩) (fun q hq => by cases hq) hdg
theorem xr_retz {post : Int32 → Prop} {v : Int32} (hexec : p.tables.exec = Jvm.exec) (hb : c.code = cc) (hr : meth.sig.returnType = some .boolean) (hlocks : meth.locks = false) (h01 : v = 0 ∨ v = 1) (hp : post v) (hdg : decode cc pc = .ok (.ireturn, 1)) : W p l e R s m args below meth c s.heap [] 0 0 (MQ below (vp_Si post) args s 0 0 (fun _ => False)) (F0 m pc ls [.int v]) :=
  W.zret hexec hb hr (ia_bool h01) (fun t ht _ => ⟨v, rfl, hp, ht⟩) (fun q hq => by cases hq) hdg
theorem xr_retl {post : Int64 → Prop} {v : Int64} (hexec : p.tables.exec = Jvm.exec) (hb : c.code = cc) (hr : meth.sig.returnType = some .long) (hlocks : meth.locks = false) (hp : post v) (hdg : decode cc pc = .ok (.lreturn, 1)) : W p l e R s m args below meth c s.heap [] 0 0 (MQ below (vp_Sl post) args s 0 0 (fun _ => False)) (F0 m pc ls [.long v]) :=
  W.lret hexec hb hr (fun t ht _ => ⟨v, rfl, hp, ht⟩) (fun q hq => by cases hq) hdg
end XR
theorem ia_fitb {r : Int32} (h : r = 0 ∨ r = 1) : fits .boolean (.int r) = true := by rcases h with rfl | rfl <;> decide +kernel
