/-! methods with handlers: their contracts, a call within a try, calls of such methods -/
def et_k (q : Nat × Nat × Nat × Nat) : ExceptionTableEntry := ⟨q.1, q.2.1, q.2.2.1, q.2.2.2⟩
theorem et_of {t : List ExceptionTableEntry} {hh : List (Nat × Nat × Nat × Nat)} (h : t.map (fun h => (h.startPc, h.endPc, h.handlerPc, h.catchType)) = hh) : t = hh.map et_k := by
  subst h
  induction t with
  | nil => rfl
  | cons x t ih =>
    rw [List.map_cons, List.map_cons, ← ih]
    rfl
theorem xr_metW {l : Launch} {y : MethodName} {rm : Room} {Pc : Array Value → State → Prop} {Qc : Array Value → State → Outcome → State → Prop} {mc ms : Nat} {free : Addr → Prop} {cc : ByteArray} {maxL : Nat} {ret : Option FieldType} {hh : List (Nat × Nat × Nat × Nat)} (hy : plainName y.cls = true)
    (body : ∀ (p : Program) (e : Env) (s : State) (m : MethodId) (args : Array Value) (below : List Frame) (meth : Method) (c : Code), p.tables.exec = Jvm.exec → c.code = cc → meth.sig.returnType = ret → (∀ w ∈ TW, w.before args s = true) → s.vm.findClass y.cls = some m.cls → meth.locks = false → meth.name = y.name → c.maxLocals = maxL → c.exceptionTable.toList = hh.map et_k → Pc args s →
      W p l e rm s m args below meth c s.heap [] 0 0 (MQ below Qc args s mc ms free) (entryFrame m args maxL)) : Met l y (Cond.codeWith y cc maxL ret hh :: TW) rm Pc Qc mc ms free := by
  refine va_MetW (cc := cc) (maxL := maxL) (ret := ret) (hh := hh) (ws' := TW) hy rfl ?_
  intro p e s m args below meth c s₁ B hml hv
  have hts := atoms_spec (ws := Cond.codeWith y cc maxL ret hh :: TW) B.pre
  obtain ⟨m9, meth9, c9, hn9, h1, h2, -, -, h5, -⟩ := Cond.codeWith_spec (hts _ List.mem_cons_self)
  cases B.named.symm.trans hn9
  cases B.method.symm.trans h1
  cases (Stand.of_body B).code.symm.trans h2
  exact body p e s m args below meth c B.exec B.bytes B.returns (fun w hw => hts w (List.mem_cons_of_mem _ hw)) (findClass_of_methodNamed B.named) B.notSynchronized (name_of_methodNamed B.named B.method).1 hml (et_of h5) hv
section XW
variable {p : Program} {l : Launch} {e : Env} {R : Room} {s : State} {m : MethodId} {args : Array Value} {below : List Frame} {meth : Method} {c : Code} {H : Heap} {locs : List Loc} {cells slots : Nat} {Q : State → Prop}
/-- a call of a method that may throw, within a try -/
theorem xr_tryW {cc bytes : ByteArray} {nL maxL n index pc mc ms b : Nat} {own C : String} {y : MethodName} {ret : Option FieldType} {rm : Room} {ws : List Cond} {Pc : Array Value → State → Prop} {Qc : Array Value → State → Outcome → State → Prop} {free : Addr → Prop} {As rest st : List Value} {ls : Array Slot}
    (S : CallFix p m c cc nL s args TW own) (hM : MetX l y ws rm Pc Qc mc ms free) (cw : CallW R s args own C index y bytes maxL ret ws rm mc ms n) (hp : PreV s H C b Pc As) (hn : As.length = n) (hls : ls.size = nL) (hst : st = As.reverse ++ .ref b :: rest) (hW : (rest.map fun v => v.category).sum ≤ 8) (hdg : decode cc pc = .ok (.invokevirtual index, 3)) (hf : cells + mc ≤ R.cells ∧ slots + ms ≤ R.slots)
    (kret : ∀ (v : Option Value) (st₀ t : State) (L : List Loc), st₀.heap = H → s.WarmedH t.vm → Qc (Value.ref b :: As).toArray st₀ (.returned v) t → (∀ q ∈ L, free q.base) → W p l e R s m args below meth c t.heap (locs ++ L) (cells + mc) (slots + ms) Q (F0 m (pc + 3) ls (v.toList ++ rest)))
    (kthr : ∀ (x : Nat) (st₀ t : State) (L : List Loc), l.admits e → st₀.heap = H → s.WarmedH st₀.vm → s.WarmedH t.vm → Qc (Value.ref b :: As).toArray st₀ (.threw x) t → (∀ q ∈ L, free q.base) →
      ∃ hpc : Nat, (∀ T : State, T.heap = t.heap → s.WarmedH T.vm → ∃ vm' : Vm, s.WarmedH vm' ∧ FL e T (F0 m pc ls rest) x c.exceptionTable.toList (.found hpc) (T.setVm vm')) ∧ W p l e R s m args below meth c t.heap (locs ++ L) (cells + mc) (slots + ms) Q (F0 m hpc ls [.ref x])) :
    W p l e R s m args below meth c H locs cells slots Q (F0 m pc ls st) := by
  obtain ⟨hx, hb, hml, ho, -⟩ := S
  obtain ⟨⟨hrc, hrs, hfr, hlo, hws, hcw, hcode, hini, hnot, hlen, hlink⟩, hinst, hsel⟩ := cw
  obtain ⟨hbl, ⟨cellB, hcB, hoB, hclB⟩, hPc⟩ := hp
  intro T hT X
  obtain ⟨mk, methM, hnamed, hmethM, hstM, habM⟩ := Cond.instanceMethod_spec hinst
  obtain ⟨methM', cM, hmethM', -, -, -, -, -, -, hsigM⟩ := Cond.code_spec hnamed hcode
  cases hmethM.symm.trans hmethM'
  obtain ⟨c2, r2, m2, q1, q2, q3, q4, kP, hkP, hkPi⟩ := Cond.selects_spec hsel
  cases hclB.symm.trans q1
  cases (State.methodFound?_of_named hnamed hnot).symm.trans q2
  cases hnamed.symm.trans q3
  have hselP : selectMethod e.platform s.vm cellB.cls mk = .method mk := by rw [Launch.admits_selectMethod X.admits]; exact q4
  subst hst
  subst hb
  obtain ⟨vm₁, X₁, hstep₁⟩ := X.invokevirtual hx ho hlink hnamed hmethM hstM hkP hkPi hnot (a := b) (cell := cellB) (by rw [hT]; exact hcB)
    (fun z h => by rw [h] at hoB; cases hoB) hselP hmethM habM hkP hkPi (g := F0 m pc ls (As.reverse ++ .ref b :: rest)) rfl (argsL := As) (rest := rest) (hn.trans (hlen _ hsigM)) rfl hdg
  obtain ⟨o, t, B, L, hBh, hBv, hq, hL, XB, sret, sthr⟩ := xr_back (bytes := bytes) (maxL := maxL) (ret := ret) X₁ hM hbl hrc hrs hfr hlo hws hcw (fun a' U hW => word_at hW (Or.inl (by first | rfl | simp [Cond.onTables, Cond.keeps, Cond.steady])) hini)
    (g := F0 m pc ls rest) (ig := .invokevirtual index) (len := 3) (mk := mk) (a := (Value.ref b :: As).toArray) rfl (hls.trans hml.symm) hdg (lv_room (m := m) (ls := ls) (rest := rest) (pc := pc) hW) (X₁.named hnamed) hf.1 hf.2 (hPc (T.setVm vm₁) hT X₁.warmed)
  have hWt : s.WarmedH t.vm := by rw [← hBv]; exact XB.warmed
  cases o with
  | returned v =>
    obtain ⟨t2, a1, b1⟩ := kret v ((T.setVm vm₁).calling (F0 m pc ls rest) mk (Value.ref b :: As).toArray) t L hT hWt hq hL B hBh XB
    exact ⟨t2, hstep₁ _ (fun acts => by rw [doInvoke_state]; exact (sret v rfl).trans a1), b1⟩
  | threw x =>
    obtain ⟨hpc, hfind, kw⟩ := kthr x ((T.setVm vm₁).calling (F0 m pc ls rest) mk (Value.ref b :: As).toArray) t L X.admits hT X₁.warmed hWt hq hL
    obtain ⟨vm', hv1, hv2⟩ := hfind ((B.setTop (F0 m pc ls rest)).pushFrame (.throwing x)) hBh (by exact XB.warmed)
    obtain ⟨t2, a1, b1⟩ := kw (B.setVm vm') hBh (XB.noted hv1)
    refine ⟨t2, hstep₁ _ (fun acts => ?_), b1⟩
    rw [doInvoke_state]
    exact (sthr x rfl).trans (stx_caught (g := F0 m pc ls rest) XB.here XB.method' XB.code hv2 a1)
variable {D : va_G} {cL cI : ClassId} {wc ws : va_W} {A A1 : Nat → Prop} {H0 H1 : Heap} {L : List Loc} {st t : State} {X : String} {x : Nat}
/-- behind a call: what the callee left unchanged -/
theorem xw_S {free : Addr → Prop} (hS : va_S A H0 H locs) (h0 : st.heap = H) (hF : va_F A1 st t) (hA : ∀ q, q < H.size → A1 q → A q) (hf : ∀ q, free q → A q) (hL : ∀ q ∈ L, free q.base) : va_S A H0 t.heap (locs ++ L) := by
  obtain ⟨hz, hk⟩ := hF
  rw [h0] at hz hk
  refine ⟨Nat.le_trans hS.1 hz, fun q h1 h2 => ?_, fun q hq => ?_⟩
  · rw [hk q (Nat.lt_of_lt_of_le h1 hS.1) (fun z => h2 (hA q (Nat.lt_of_lt_of_le h1 hS.1) z))]; exact hS.2.1 q h1 h2
  · rcases List.mem_append.mp hq with h | h
    · exact hS.2.2 q h
    · exact hf _ (hL q h)
theorem xw_Sx {free : Addr → Prop} (hS : va_S A H0 H locs) (h0 : st.heap = H) (hz : st.heap.size ≤ t.heap.size) (hk : ∀ q : Nat, q < st.heap.size → t.heap[q]? = st.heap[q]?) (hf : ∀ q, free q → A q) (hL : ∀ q ∈ L, free q.base) : va_S A H0 t.heap (locs ++ L) :=
  xw_S (A1 := fun _ => False) hS h0 ⟨hz, fun q h _ => hk q h⟩ (fun q _ h => absurd h (fun z => z)) hf hL
theorem xw_P (hP : va_P D classes ws H) (h0 : st.heap = H) (hk : ∀ q : Nat, q < st.heap.size → t.heap[q]? = st.heap[q]?) : va_P D classes ws t.heap :=
  hP.kept (fun k q hq => by rw [← h0]; exact hk q.1 (by rw [h0]; exact (hP k q hq).lt))
theorem xw_ce (hW : s.WarmedH st.vm) (h : ∃ ce : Cell, t.heap[x]? = some ce ∧ st.vm.findClass X = some ce.cls ∧ ∀ k, ce.vm ≠ .statics k) : ∃ ce : Cell, t.heap[x]? = some ce ∧ s.vm.findClass X = some ce.cls ∧ ∀ k, ce.vm ≠ .statics k := by
  obtain ⟨ce, h1, h2, h3⟩ := h
  exact ⟨ce, h1, by rw [← hW.alike.findClass]; exact h2, h3⟩
theorem xw_ce2 {T : State} (hT : T.heap = t.heap) (h : ∃ ce : Cell, t.heap[x]? = some ce ∧ s.vm.findClass X = some ce.cls ∧ ∀ k, ce.vm ≠ .statics k) : ∃ ce : Cell, T.heap[x]? = some ce ∧ s.vm.findClass X = some ce.cls ∧ ∀ k, ce.vm ≠ .statics k := by
  rw [hT]; exact h
/-- a call of a static method that has handlers -/
theorem xr_msw {cc bytes : ByteArray} {nL maxL n index pc mc ms : Nat} {own : String} {y : MethodName} {ret : Option FieldType} {hh : List (Nat × Nat × Nat × Nat)} {rm : Room} {Qc : Array Value → State → Outcome → State → Prop} {free : Addr → Prop} {As rest st : List Value} {ls : Array Slot}
    (S : CallFix p m c cc nL s args TW own) (hM : Met l y (Cond.codeWith y bytes maxL ret hh :: TW) rm (PX D cL cI As wc H.size) Qc mc ms free) (hcd : Cond.codeWith y bytes maxL ret hh ∈ TW) (h1 : Cond.methodLink own index y ∈ TW) (h2 : Cond.static y ∈ TW) (h4 : Cond.initialized y.cls ∈ TW) (hrc : rm.cells = mc) (hrs : rm.slots = ms)
    (hd : y.cls ≠ "java/lang/invoke/MethodHandle" ∧ y.cls ≠ "java/lang/invoke/VarHandle" ∧ (parseMethodDescriptor y.desc).map (fun d => d.parameters.length) = some n) (hR : rm.frames + 1 ≤ R.frames ∧ 8 + (maxL + 11) + rm.locals ≤ R.locals)
    (hK : va_K D classes (tyz cL cI) s) (hP : va_P D classes wc H) (hD : va_D (fun _ => True) wc) (hxe : ∀ U : State, U.heap = H → s.WarmedH U.vm → XE U) (hn : As.length = n) (hls : ls.size = nL) (hst : st = As.reverse ++ rest) (hW : (rest.map fun v => v.category).sum ≤ 8) (hdg : decode cc pc = .ok (.invokestatic index, 3)) (hf : cells + mc ≤ R.cells ∧ slots + ms ≤ R.slots) :
    va_Run p l e R s m args below meth c H locs cells slots mc ms (F0 m pc ls st) rest (Qc As.toArray) free := by
  obtain ⟨hx, hb, hml, ho, hts⟩ := S
  have hws := pay_in hts (xr_gin hcd (tw_good (fun w h => h)))
  have hwi := pay_in hts (xr_gin h4 (tw_good (fun w h => h)))
  have hB : Back l R p e below s args y 3 8 (PreOf R mc ms (PX D cL cI As wc H.size)) (PostOf Qc mc ms free) :=
    va_backW (bytes := bytes) (maxL := maxL) (ret := ret) (hh := hh) hM PX_blind hrc hrs hR.1 hR.2 hws List.mem_cons_self (fun a' U hW => hwi _ List.mem_cons_self a' U hW)
  intro T hT X
  obtain ⟨mk, methM, cM, hnamed, hmethM, -, -, -, -, -, -, hsigM⟩ := Cond.codeWith_spec (hts _ hcd)
  have hstatic : methM.isStatic = true := Cond.static_spec hnamed hmethM (hts _ h2)
  obtain ⟨kP, hkP, -⟩ := className_of_methodNamed hnamed
  have hinitP : kP.init = .initialized := Cond.initialized_spec (findClass_of_methodNamed hnamed) hkP (hts _ h4)
  have hlen : As.length = methM.sig.parameters.length := by
    have h5 := hd.2.2
    rw [hsigM] at h5
    exact hn.trans (Option.some.inj h5).symm
  subst hb
  obtain ⟨vm₁, X₁, hstep₁⟩ := X.invokestatic hx ho (hts _ h1) hnamed hmethM hstatic hkP hinitP ⟨hd.1, hd.2.1⟩ (g := F0 m pc ls st) rfl (argsL := As) (rest := rest) hlen hst hdg
  obtain ⟨v, ⟨U', l2, c2, s2⟩, X', ⟨g', mk', t, L, e1, e2, hq, h1', hL, h2', h3'⟩, hsteps⟩ := hB m meth c ⟨T.setVm vm₁, locs, cells, slots⟩ (F0 m pc ls rest) (.invokestatic index) mk As.toArray X₁ rfl (hls.trans hml.symm) hdg (lv_room (m := m) (ls := ls) (rest := rest) (pc := pc) hW) (X₁.named hnamed)
    ⟨hf.1, hf.2, rfl, by show (T.setVm vm₁).heap.size = _; rw [show (T.setVm vm₁).heap = H from hT], by show va_P D classes wc (T.setVm vm₁).heap; rw [show (T.setVm vm₁).heap = H from hT]; exact hP, va_K.moved X₁.warmed.alike hK, hD, hxe (T.setVm vm₁) hT X₁.warmed⟩
  dsimp only [Pt.U, Pt.locs, Pt.cells, Pt.slots] at X' e1 e2 h1' h2' h3' hsteps
  subst h1'; subst h2'; subst h3'
  exact ⟨v, (T.setVm vm₁).calling g' mk' As.toArray, t, U', L, hT, X', hL, e1, e2, hq, fun target h => hstep₁ _ fun acts => by rw [doInvoke_state]; exact hsteps.trans h⟩
end XW
