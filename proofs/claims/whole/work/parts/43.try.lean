/-! a throw by its class; the search for its handler; a call within a try -/
section XT3
variable {p : Program} {l : Launch} {e : Env} {R : Room} {s : State} {m : MethodId} {args : Array Value} {below : List Frame} {meth : Method} {c : Code} {H : Heap} {locs : List Loc} {cells slots : Nat} {Q : State → Prop}
/-- as xr_throw, of NoSuchElementException -/
theorem xr_throwN {Qc : Array Value → State → Outcome → State → Prop} {free : Addr → Prop} {mc ms : Nat} {cc bytes : ByteArray} {own cls up tx : String} {names : List String} {ic ix inew ildc q pc : Nat} {ls : Array Slot} (hexec : p.tables.exec = Jvm.exec) (hb : c.code = cc) (htr : l.stackTraces = false) (hlocks : meth.locks = false) (hno : c.exceptionTable.toList = []) (hown : s.vm.findClass own = some m.cls) (hls : ls.size = c.maxLocals)
    (hcls : Bundle.fit cls = true) (hup : Bundle.fit up = true) (hnames : ∀ n ∈ names, Bundle.fit n = true) (b0 : decode bytes 0 = .ok (.aload_n 0, 1)) (b1 : decode bytes 1 = .ok (.aload_n 1, 1)) (b2 : decode bytes 2 = .ok (.invokespecial ix, 3)) (b5 : decode bytes 5 = .ok (.return_, 1))
    (hT : ∀ w ∈ Bundle.throwableAtoms, w.before args s = true) (hTS : ∀ w ∈ Bundle.throwableSAtoms, w.before args s = true) (h1 : ∀ w ∈ Bundle.passSAtoms cls up ix bytes, w.before args s = true) (h2 : ∀ w ∈ Bundle.chainSAtoms up names, w.before args s = true) (hm : ∀ w ∈ xn_more own ic cls, w.before args s = true)
    (hcl : (Cond.classLink own inew cls).before args s = true) (hini : (Cond.initialized cls).before args s = true) (hR : vk_R own ildc tx q s)
    (d0 : decode cc pc = .ok (.new inew, 3)) (d3 : decode cc (pc + 3) = .ok (.dup, 1)) (d4 : decode cc (pc + 3 + 1) = .ok (.ldc ildc, 2)) (d6 : decode cc (pc + 3 + 1 + 2) = .ok (.invokespecial ic, 3)) (d9 : decode cc (pc + 3 + 1 + 2 + 3) = .ok (.athrow, 1))
    (hfr : names.length + 4 < R.frames) (hlo : 1 + (13 * (names.length + 2) + 42) ≤ R.locals) (hc : 1 ≤ R.cells) (hs : 6 ≤ R.slots) (hmc : 1 ≤ mc) (hms : 6 ≤ ms)
    (hq : ∀ (a : Nat) (t : State), s.heap.size ≤ t.heap.size → (∀ q : Nat, q < s.heap.size → t.heap[q]? = s.heap[q]?) → s.WarmedH t.vm → (∃ ce : Cell, t.heap[a]? = some ce ∧ s.vm.findClass cls = some ce.cls ∧ ∀ k, ce.vm ≠ .statics k) → Qc args s (.threw a) t) :
    W p l e R s m args below meth c s.heap [] 0 0 (MQX below Qc args s mc ms free) (F0 m pc ls []) := by
  have hins : (Cond.instantiable cls 6).before args s = true := hm _ (by simp [xn_more])
  refine W.newc hexec hb hown hcl hins hini rfl d0 (by omega) (by omega) (fun cC kC h3 h4 h5 h6 => ?_)
  refine W.eq (g2 := F0 m (pc + 3) ls [.ref s.heap.size]) rfl ?_
  refine lv_dup hexec hb d3 rfl ?_
  refine va_ldcS hexec hb hown hR d4 ?_
  intro T hT2 X
  have htr2 : e.platform.stackTraces = false := by
    obtain ⟨-, -, -, -, hp, -⟩ := X.admits
    rw [hp]; exact htr
  obtain ⟨U, hsteps, hrun, hend, hW, hsame, ce, hce, hc1, hc2⟩ := xn_ctor X (names := names) (msg := .ref q) (rest := []) hexec htr2 hlocks hown hcls hup hnames b0 b1 b2 b5 hT hTS h1 h2 hm (fun x hx => by cases hx) (a := s.heap.size) h3 h4 (by rw [hT2]; simp [freshCell]) (Nat.le_refl _) rfl (g := F0 m (pc + 3 + 1 + 2) ls [.ref q, .ref s.heap.size, .ref s.heap.size]) rfl hls rfl rfl rfl (by rw [hb]; exact d6) (by rw [hb]; exact d9) (fun x hx => by rw [hno] at hx; cases hx) hfr (by show 2 * 0 + (1 + 0) + _ ≤ _; omega)
  refine ⟨U, hsteps, .threw s.heap.size, hrun, hend, hq s.heap.size U hsame.2.1 ?_ hW ⟨ce, hce, by rw [hc1]; exact h3, ?_⟩, [], ⟨hW, hsame.mono (by omega) (by omega)⟩, fun x hx => by cases hx⟩
  · intro q2 hq2
    have hex : ∃ c0, s.heap[q2]? = some c0 := ⟨_, Array.getElem?_eq_some_iff.mpr ⟨hq2, rfl⟩⟩
    obtain ⟨c0, hc0⟩ := hex
    obtain ⟨c1, k1, k2, k3, k4⟩ := hsame.2.2.2.2.2 q2 c0 hc0
    have k1 : U.heap[q2]? = some c1 := k1
    rw [k1, hc0]
    congr 1
    rw [k2]
    have : c1.slots = c0.slots := by
      apply Array.ext_getElem?
      intro i
      exact k4 i (by simp)
    rw [this]
  · intro k hk
    rw [hc2] at hk; cases hk
theorem xt_ISE {Qc : Array Value → State → Outcome → State → Prop} {free : Addr → Prop} {mc ms : Nat} {cc : ByteArray} {tx : String} {ic inew ildc pc : Nat} {ls : Array Slot} (hexec : p.tables.exec = Jvm.exec) (hb : c.code = cc) (htr : l.stackTraces = false) (hlocks : meth.locks = false) (hno : c.exceptionTable.toList = []) (hown : s.vm.findClass "BranchStore" = some m.cls) (hls : ls.size = c.maxLocals) (hts : ∀ w ∈ TW, w.before args s = true) (hx : XE s)
    (hl : Cond.methodLink "BranchStore" ic ⟨"java/lang/IllegalStateException", "<init>", "(Ljava/lang/String;)V"⟩ ∈ TW) (hcl : Cond.classLink "BranchStore" inew "java/lang/IllegalStateException" ∈ TW) (hstr : (ildc, tx) ∈ xe_s)
    (d0 : decode cc pc = .ok (.new inew, 3)) (d3 : decode cc (pc + 3) = .ok (.dup, 1)) (d4 : decode cc (pc + 3 + 1) = .ok (.ldc ildc, 2)) (d6 : decode cc (pc + 3 + 1 + 2) = .ok (.invokespecial ic, 3)) (d9 : decode cc (pc + 3 + 1 + 2 + 3) = .ok (.athrow, 1)) (hfr : 6 < R.frames) (hlo : 96 ≤ R.locals) (hc : 1 ≤ R.cells) (hs : 6 ≤ R.slots) (hmc : 1 ≤ mc) (hms : 6 ≤ ms)
    (hq : ∀ (a : Nat) (t : State), s.heap.size ≤ t.heap.size → (∀ q : Nat, q < s.heap.size → t.heap[q]? = s.heap[q]?) → s.WarmedH t.vm → (∃ ce : Cell, t.heap[a]? = some ce ∧ s.vm.findClass "java/lang/IllegalStateException" = some ce.cls ∧ ∀ k, ce.vm ≠ .statics k) → Qc args s (.threw a) t) :
    W p l e R s m args below meth c s.heap [] 0 0 (MQX below Qc args s mc ms free) (F0 m pc ls []) := by
  obtain ⟨q, hR⟩ := hx.2.2.2.2 _ hstr
  exact xr_throw (names := ["java/lang/RuntimeException", "java/lang/Exception"]) hexec hb htr hlocks hno hown hls (by decide) (by decide) (oa_ISE hts hx ic (hts _ hl)) (hts _ hcl) (hts _ tw_11) hR d0 d3 d4 d6 d9 (show 2 + 3 < R.frames by omega) (show 1 + (13 * (2 + 1) + 42) ≤ R.locals by omega) hc hs hmc hms hq
theorem xt_IAE {Qc : Array Value → State → Outcome → State → Prop} {free : Addr → Prop} {mc ms : Nat} {cc : ByteArray} {tx : String} {ic inew ildc pc : Nat} {ls : Array Slot} (hexec : p.tables.exec = Jvm.exec) (hb : c.code = cc) (htr : l.stackTraces = false) (hlocks : meth.locks = false) (hno : c.exceptionTable.toList = []) (hown : s.vm.findClass "BranchStore" = some m.cls) (hls : ls.size = c.maxLocals) (hts : ∀ w ∈ TW, w.before args s = true) (hx : XE s)
    (hl : Cond.methodLink "BranchStore" ic ⟨"java/lang/IllegalArgumentException", "<init>", "(Ljava/lang/String;)V"⟩ ∈ TW) (hcl : Cond.classLink "BranchStore" inew "java/lang/IllegalArgumentException" ∈ TW) (hstr : (ildc, tx) ∈ xe_s)
    (d0 : decode cc pc = .ok (.new inew, 3)) (d3 : decode cc (pc + 3) = .ok (.dup, 1)) (d4 : decode cc (pc + 3 + 1) = .ok (.ldc ildc, 2)) (d6 : decode cc (pc + 3 + 1 + 2) = .ok (.invokespecial ic, 3)) (d9 : decode cc (pc + 3 + 1 + 2 + 3) = .ok (.athrow, 1)) (hfr : 6 < R.frames) (hlo : 96 ≤ R.locals) (hc : 1 ≤ R.cells) (hs : 6 ≤ R.slots) (hmc : 1 ≤ mc) (hms : 6 ≤ ms)
    (hq : ∀ (a : Nat) (t : State), s.heap.size ≤ t.heap.size → (∀ q : Nat, q < s.heap.size → t.heap[q]? = s.heap[q]?) → s.WarmedH t.vm → (∃ ce : Cell, t.heap[a]? = some ce ∧ s.vm.findClass "java/lang/IllegalArgumentException" = some ce.cls ∧ ∀ k, ce.vm ≠ .statics k) → Qc args s (.threw a) t) :
    W p l e R s m args below meth c s.heap [] 0 0 (MQX below Qc args s mc ms free) (F0 m pc ls []) := by
  obtain ⟨q, hR⟩ := hx.2.2.2.2 _ hstr
  exact xr_throw (names := ["java/lang/RuntimeException", "java/lang/Exception"]) hexec hb htr hlocks hno hown hls (by decide) (by decide) (oa_IAE hts hx ic (hts _ hl)) (hts _ hcl) (hts _ tw_12) hR d0 d3 d4 d6 d9 (show 2 + 3 < R.frames by omega) (show 1 + (13 * (2 + 1) + 42) ≤ R.locals by omega) hc hs hmc hms hq
theorem xt_UOE {Qc : Array Value → State → Outcome → State → Prop} {free : Addr → Prop} {mc ms : Nat} {cc : ByteArray} {tx : String} {ic inew ildc pc : Nat} {ls : Array Slot} (hexec : p.tables.exec = Jvm.exec) (hb : c.code = cc) (htr : l.stackTraces = false) (hlocks : meth.locks = false) (hno : c.exceptionTable.toList = []) (hown : s.vm.findClass "BranchStore" = some m.cls) (hls : ls.size = c.maxLocals) (hts : ∀ w ∈ TW, w.before args s = true) (hx : XE s)
    (hl : Cond.methodLink "BranchStore" ic ⟨"java/lang/UnsupportedOperationException", "<init>", "(Ljava/lang/String;)V"⟩ ∈ TW) (hcl : Cond.classLink "BranchStore" inew "java/lang/UnsupportedOperationException" ∈ TW) (hstr : (ildc, tx) ∈ xe_s)
    (d0 : decode cc pc = .ok (.new inew, 3)) (d3 : decode cc (pc + 3) = .ok (.dup, 1)) (d4 : decode cc (pc + 3 + 1) = .ok (.ldc ildc, 2)) (d6 : decode cc (pc + 3 + 1 + 2) = .ok (.invokespecial ic, 3)) (d9 : decode cc (pc + 3 + 1 + 2 + 3) = .ok (.athrow, 1)) (hfr : 6 < R.frames) (hlo : 96 ≤ R.locals) (hc : 1 ≤ R.cells) (hs : 6 ≤ R.slots) (hmc : 1 ≤ mc) (hms : 6 ≤ ms)
    (hq : ∀ (a : Nat) (t : State), s.heap.size ≤ t.heap.size → (∀ q : Nat, q < s.heap.size → t.heap[q]? = s.heap[q]?) → s.WarmedH t.vm → (∃ ce : Cell, t.heap[a]? = some ce ∧ s.vm.findClass "java/lang/UnsupportedOperationException" = some ce.cls ∧ ∀ k, ce.vm ≠ .statics k) → Qc args s (.threw a) t) :
    W p l e R s m args below meth c s.heap [] 0 0 (MQX below Qc args s mc ms free) (F0 m pc ls []) := by
  obtain ⟨q, hR⟩ := hx.2.2.2.2 _ hstr
  exact xr_throw (names := ["java/lang/RuntimeException", "java/lang/Exception"]) hexec hb htr hlocks hno hown hls (by decide) (by decide) (oa_UOE hts hx ic (hts _ hl)) (hts _ hcl) (hts _ tw_13) hR d0 d3 d4 d6 d9 (show 2 + 3 < R.frames by omega) (show 1 + (13 * (2 + 1) + 42) ≤ R.locals by omega) hc hs hmc hms hq
theorem xt_NSE {Qc : Array Value → State → Outcome → State → Prop} {free : Addr → Prop} {mc ms : Nat} {cc : ByteArray} {tx : String} {ic inew ildc pc : Nat} {ls : Array Slot} (hexec : p.tables.exec = Jvm.exec) (hb : c.code = cc) (htr : l.stackTraces = false) (hlocks : meth.locks = false) (hno : c.exceptionTable.toList = []) (hown : s.vm.findClass "BranchStore" = some m.cls) (hls : ls.size = c.maxLocals) (hts : ∀ w ∈ TW, w.before args s = true) (hx : XE s)
    (hl : Cond.methodLink "BranchStore" ic ⟨"java/util/NoSuchElementException", "<init>", "(Ljava/lang/String;)V"⟩ ∈ TW) (hcl : Cond.classLink "BranchStore" inew "java/util/NoSuchElementException" ∈ TW) (hstr : (ildc, tx) ∈ xe_s)
    (d0 : decode cc pc = .ok (.new inew, 3)) (d3 : decode cc (pc + 3) = .ok (.dup, 1)) (d4 : decode cc (pc + 3 + 1) = .ok (.ldc ildc, 2)) (d6 : decode cc (pc + 3 + 1 + 2) = .ok (.invokespecial ic, 3)) (d9 : decode cc (pc + 3 + 1 + 2 + 3) = .ok (.athrow, 1)) (hfr : 6 < R.frames) (hlo : 96 ≤ R.locals) (hc : 1 ≤ R.cells) (hs : 6 ≤ R.slots) (hmc : 1 ≤ mc) (hms : 6 ≤ ms)
    (hq : ∀ (a : Nat) (t : State), s.heap.size ≤ t.heap.size → (∀ q : Nat, q < s.heap.size → t.heap[q]? = s.heap[q]?) → s.WarmedH t.vm → (∃ ce : Cell, t.heap[a]? = some ce ∧ s.vm.findClass "java/util/NoSuchElementException" = some ce.cls ∧ ∀ k, ce.vm ≠ .statics k) → Qc args s (.threw a) t) :
    W p l e R s m args below meth c s.heap [] 0 0 (MQX below Qc args s mc ms free) (F0 m pc ls []) := by
  obtain ⟨q, hR⟩ := hx.2.2.2.2 _ hstr
  have hm : ∀ w ∈ xn_more "BranchStore" ic "java/util/NoSuchElementException", w.before args s = true := by
    unfold xn_more
    exact List.forall_mem_cons.mpr ⟨hts _ hl, List.forall_mem_cons.mpr ⟨hts _ tw_420, List.forall_mem_cons.mpr ⟨hts _ tw_422, List.forall_mem_cons.mpr ⟨hts _ tw_311, List.forall_mem_cons.mpr ⟨hts _ tw_423, List.forall_mem_cons.mpr ⟨hts _ tw_424, List.forall_mem_cons.mpr ⟨hts _ tw_425, List.forall_mem_cons.mpr ⟨hts _ tw_426, List.forall_mem_cons.mpr ⟨(xe_hm (args := args) (Vm.Alike.refl _) (fun _ _ => rfl) hx.2.1).2, List.forall_mem_cons.mpr ⟨(xe_hm (args := args) (Vm.Alike.refl _) (fun _ _ => rfl) hx.2.2.1).2, List.forall_mem_cons.mpr ⟨hts _ tw_296, List.forall_mem_cons.mpr ⟨hts _ tw_295, List.forall_mem_cons.mpr ⟨hts _ tw_427, fun _ h => absurd h List.not_mem_nil⟩⟩⟩⟩⟩⟩⟩⟩⟩⟩⟩⟩⟩
  have h1 : ∀ w ∈ Bundle.passSAtoms "java/util/NoSuchElementException" "java/lang/RuntimeException" 13 prog_20_method_4_code, w.before args s = true := by
    unfold Bundle.passSAtoms
    exact List.forall_mem_cons.mpr ⟨hts _ tw_430, List.forall_mem_cons.mpr ⟨hts _ tw_431, List.forall_mem_cons.mpr ⟨hts _ tw_432, List.forall_mem_cons.mpr ⟨hts _ tw_323, List.forall_mem_cons.mpr ⟨xe_ta (w := Cond.declares ⟨"java/lang/RuntimeException", "<init>", "(Ljava/lang/String;)V"⟩) (by decide) (hx.1 _ (by decide)), fun _ h => absurd h List.not_mem_nil⟩⟩⟩⟩⟩
  exact xr_throwN (names := ["java/lang/Exception"]) (bytes := prog_20_method_4_code) (ix := 13) hexec hb htr hlocks hno hown hls (by decide) (by decide) (by decide) (by decide +kernel) (by decide +kernel) (by decide +kernel) (by decide +kernel) (oa_thr hts hx) (oa_thrS hts) h1 (List.forall_mem_append.mpr ⟨oa_pR hts hx, oa_pE hts hx⟩) hm (hts _ hcl) (hts _ tw_15) hR d0 d3 d4 d6 d9 (show 1 + 4 < R.frames by omega) (show 1 + (13 * (1 + 2) + 42) ≤ R.locals by omega) hc hs hmc hms hq
theorem xt_IOB {Qc : Array Value → State → Outcome → State → Prop} {free : Addr → Prop} {mc ms : Nat} {cc : ByteArray} {tx : String} {ic inew ildc pc : Nat} {ls : Array Slot} (hexec : p.tables.exec = Jvm.exec) (hb : c.code = cc) (htr : l.stackTraces = false) (hlocks : meth.locks = false) (hno : c.exceptionTable.toList = []) (hown : s.vm.findClass "BranchStore" = some m.cls) (hls : ls.size = c.maxLocals) (hts : ∀ w ∈ TW, w.before args s = true) (hx : XE s)
    (hl : Cond.methodLink "BranchStore" ic ⟨"java/lang/IndexOutOfBoundsException", "<init>", "(Ljava/lang/String;)V"⟩ ∈ TW) (hcl : Cond.classLink "BranchStore" inew "java/lang/IndexOutOfBoundsException" ∈ TW) (hstr : (ildc, tx) ∈ xe_s)
    (d0 : decode cc pc = .ok (.new inew, 3)) (d3 : decode cc (pc + 3) = .ok (.dup, 1)) (d4 : decode cc (pc + 3 + 1) = .ok (.ldc ildc, 2)) (d6 : decode cc (pc + 3 + 1 + 2) = .ok (.invokespecial ic, 3)) (d9 : decode cc (pc + 3 + 1 + 2 + 3) = .ok (.athrow, 1)) (hfr : 6 < R.frames) (hlo : 96 ≤ R.locals) (hc : 1 ≤ R.cells) (hs : 6 ≤ R.slots) (hmc : 1 ≤ mc) (hms : 6 ≤ ms)
    (hq : ∀ (a : Nat) (t : State), s.heap.size ≤ t.heap.size → (∀ q : Nat, q < s.heap.size → t.heap[q]? = s.heap[q]?) → s.WarmedH t.vm → (∃ ce : Cell, t.heap[a]? = some ce ∧ s.vm.findClass "java/lang/IndexOutOfBoundsException" = some ce.cls ∧ ∀ k, ce.vm ≠ .statics k) → Qc args s (.threw a) t) :
    W p l e R s m args below meth c s.heap [] 0 0 (MQX below Qc args s mc ms free) (F0 m pc ls []) := by
  obtain ⟨q, hR⟩ := hx.2.2.2.2 _ hstr
  exact xr_throw (names := ["java/lang/RuntimeException", "java/lang/Exception"]) hexec hb htr hlocks hno hown hls (by decide) (by decide) (oa_IOB hts hx ic (hts _ hl)) (hts _ hcl) (hts _ tw_16) hR d0 d3 d4 d6 d9 (show 2 + 3 < R.frames by omega) (show 1 + (13 * (2 + 1) + 42) ≤ R.locals by omega) hc hs hmc hms hq
end XT3
