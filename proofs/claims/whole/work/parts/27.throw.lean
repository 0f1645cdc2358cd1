/-! methods that may throw: contracts with both ends; a handler's search that may resolve its classes -/
def FrameX (first t : State) (L : List Loc) (k n : Nat) : Prop := first.WarmedH t.vm ∧ first.sameButNew ({ t with vm := first.vm } : State) L k n
def MetX (l : Launch) (y : MethodName) (ws : List Cond) (rm : Room) (Pc : Array Value → State → Prop) (Qc : Array Value → State → Outcome → State → Prop) (mc ms : Nat) (free : Addr → Prop) : Prop :=
  MetFree l y (headSpec ws rm) Pc (fun _ _ _ _ _ => True) (fun a st o t => Qc a st o t ∧ ∃ L, FrameX st t L mc ms ∧ ∀ q ∈ L, free q.base)
def MQX (below : List Frame) (Qc : Array Value → State → Outcome → State → Prop) (a : Array Value) (s : State) (mc ms : Nat) (free : Addr → Prop) : State → Prop := fun t =>
  ∃ o, t.status = .running ∧ Ended t below o ∧ Qc a s o t ∧ ∃ L, FrameX s t L mc ms ∧ ∀ q ∈ L, free q.base
section XT
variable {p : Program} {l : Launch} {e : Env} {R : Room} {s : State} {m : MethodId} {args : Array Value} {below : List Frame} {meth : Method} {c : Code} {H : Heap} {locs : List Loc} {cells slots : Nat} {Q : State → Prop}
theorem W.mono {Q2 : State → Prop} {g : JFrame} (h : ∀ t, Q t → Q2 t) (k : W p l e R s m args below meth c H locs cells slots Q g) : W p l e R s m args below meth c H locs cells slots Q2 g := by
  intro T hT X
  obtain ⟨t, a1, b1⟩ := k T hT X
  exact ⟨t, a1, h t b1⟩
theorem W.toX {Qc : Array Value → State → Outcome → State → Prop} {mc ms : Nat} {free : Addr → Prop} {g : JFrame} (k : W p l e R s m args below meth c H locs cells slots (MQ below Qc args s mc ms free) g) : W p l e R s m args below meth c H locs cells slots (MQX below Qc args s mc ms free) g :=
  W.mono (fun t h => by
    obtain ⟨o, h1, h2, h3, L, h4, h5⟩ := h
    exact ⟨o, h1, h2, h3, L, h4.2, h5⟩) k
theorem xr_metX {y : MethodName} {rm : Room} {Pc : Array Value → State → Prop} {Qc : Array Value → State → Outcome → State → Prop} {mc ms : Nat} {free : Addr → Prop} {cc : ByteArray} {maxL : Nat} {ret : Option FieldType} (hy : plainName y.cls = true)
    (body : ∀ (p : Program) (e : Env) (s : State) (m : MethodId) (args : Array Value) (below : List Frame) (meth : Method) (c : Code), p.tables.exec = Jvm.exec → c.code = cc → meth.sig.returnType = ret → (∀ w ∈ TW, w.before args s = true) → s.vm.findClass y.cls = some m.cls → meth.locks = false → meth.name = y.name → c.maxLocals = maxL → c.exceptionTable.toList = [] → Pc args s →
      W p l e rm s m args below meth c s.heap [] 0 0 (MQX below Qc args s mc ms free) (entryFrame m args maxL)) : MetX l y (Cond.code y cc maxL ret :: TW) rm Pc Qc mc ms free := by
  refine MetFree.of_bodyS (code := cc) (maxLocals := maxL) (ret := ret) hy ?_ ?_
  · intro args s m h hn
    obtain ⟨meth, c, h1, h2, h3, h4, h5, h6, -, -⟩ := Cond.code_spec hn (atoms_spec (ws := Cond.code y cc maxL ret :: TW) h _ List.mem_cons_self)
    exact ⟨meth, c, h1, h2, h3, h4, h5, h6⟩
  · intro p e s m args below meth c s₁ B hml hP _
    have hh0 : s₁.heap = s.heap := by rw [B.state]; rfl
    have hts := atoms_spec (ws := Cond.code y cc maxL ret :: TW) B.pre
    have hno : c.exceptionTable.toList = [] := by
      have h1 := B.noHandlers (hts _ List.mem_cons_self)
      have h0 : c.exceptionTable.size = 0 := by simpa [Array.isEmpty] using h1
      exact List.eq_nil_of_length_eq_zero (by simpa using h0)
    obtain ⟨t, a1, o, b1, b2, b3⟩ := body p e s m args below meth c B.exec B.bytes B.returns (fun w hw => hts w (List.mem_cons_of_mem _ hw)) (findClass_of_methodNamed B.named) B.notSynchronized (name_of_methodNamed B.named B.method).1 hml hno hP s₁ hh0 (Stand.of_body B)
    exact ⟨t, o, a1, b1, b2, ⟨b3.1, b3.2⟩⟩
/-- 'new X(text)' and its throw, where nothing has been written yet -/
theorem xr_throw {Qc : Array Value → State → Outcome → State → Prop} {free : Addr → Prop} {mc ms : Nat} {cc : ByteArray} {own cls tx : String} {names : List String} {ic inew ildc q pc : Nat} {ls : Array Slot} (hexec : p.tables.exec = Jvm.exec) (hb : c.code = cc) (htr : l.stackTraces = false) (hlocks : meth.locks = false) (hno : c.exceptionTable.toList = []) (hown : s.vm.findClass own = some m.cls) (hls : ls.size = c.maxLocals)
    (hcls : Bundle.fit cls = true) (hnames : ∀ n ∈ names, Bundle.fit n = true) (h : ∀ a ∈ Bundle.ownAtoms own ic cls names, a.before args s = true)
    (hcl : (Cond.classLink own inew cls).before args s = true) (hini : (Cond.initialized cls).before args s = true) (hR : vk_R own ildc tx q s)
    (d0 : decode cc pc = .ok (.new inew, 3)) (d3 : decode cc (pc + 3) = .ok (.dup, 1)) (d4 : decode cc (pc + 3 + 1) = .ok (.ldc ildc, 2)) (d6 : decode cc (pc + 3 + 1 + 2) = .ok (.invokespecial ic, 3)) (d9 : decode cc (pc + 3 + 1 + 2 + 3) = .ok (.athrow, 1))
    (hfr : names.length + 3 < R.frames) (hlo : 1 + (13 * (names.length + 1) + 42) ≤ R.locals) (hc : 1 ≤ R.cells) (hs : 6 ≤ R.slots) (hmc : 1 ≤ mc) (hms : 6 ≤ ms)
    (hq : ∀ (a : Nat) (t : State), s.heap.size ≤ t.heap.size → (∀ q : Nat, q < s.heap.size → t.heap[q]? = s.heap[q]?) → s.WarmedH t.vm → (∃ ce : Cell, t.heap[a]? = some ce ∧ s.vm.findClass cls = some ce.cls ∧ ∀ k, ce.vm ≠ .statics k) → Qc args s (.threw a) t) :
    W p l e R s m args below meth c s.heap [] 0 0 (MQX below Qc args s mc ms free) (F0 m pc ls []) := by
  have hins : (Cond.instantiable cls 6).before args s = true := h _ (by simp [Bundle.ownAtoms])
  refine W.newc hexec hb hown hcl hins hini rfl d0 (by omega) (by omega) (fun cC kC h1 h2 h3 h4 => ?_)
  refine W.eq (g2 := F0 m (pc + 3) ls [.ref s.heap.size]) rfl ?_
  refine lv_dup hexec hb d3 rfl ?_
  refine va_ldcS hexec hb hown hR d4 ?_
  intro T hT X
  have htr2 : e.platform.stackTraces = false := by
    obtain ⟨-, -, -, -, hp, -⟩ := X.admits
    rw [hp]; exact htr
  obtain ⟨U, hsteps, hrun, hend, hW, hsame, ce, hce, hown2⟩ := X.ctorThrowS (names := names) (msg := .ref q) (rest := []) hexec htr2 hown hcls hnames h (fun x hx => by cases hx) (a := s.heap.size) h1 h2 (by rw [hT]; simp [freshCell]) (Nat.le_refl _) rfl (g := F0 m (pc + 3 + 1 + 2) ls [.ref q, .ref s.heap.size, .ref s.heap.size]) rfl hls rfl rfl rfl (by rw [hb]; exact d6) (by rw [hb]; exact d9) (fun x hx => by rw [hno] at hx; cases hx) hfr (by show 2 * 0 + (1 + 0) + _ ≤ _; omega) hlocks
  refine ⟨U, hsteps, .threw s.heap.size, hrun, hend, hq s.heap.size U hsame.2.1 ?_ hW ⟨ce, hce, hown2.cls, ?_⟩, [], ⟨hW, hsame.mono (by omega) (by omega)⟩, fun x hx => by cases hx⟩
  · intro q2 hq2
    have hex : ∃ c0, s.heap[q2]? = some c0 := ⟨_, Array.getElem?_eq_some_iff.mpr ⟨hq2, rfl⟩⟩
    obtain ⟨c0, hc0⟩ := hex
    obtain ⟨c1, k1, k2, k3, k4⟩ := hsame.2.2.2.2.2 q2 c0 hc0
    have k1 : U.heap[q2]? = some c1 := k1
    rw [k1, hc0]
    congr 1
    rw [k2]
    have : c1.slots = c0.slots := by
      apply Array.ext_getElem?
      intro i
      exact k4 i (by simp)
    rw [this]
  · intro k hk
    rw [hown2.vm] at hk; cases hk
end XT
