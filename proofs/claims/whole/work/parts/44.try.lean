section XT4
variable {p : Program} {l : Launch} {e : Env} {R : Room} {s : State} {m : MethodId} {args : Array Value} {below : List Frame} {meth : Method} {c : Code} {H : Heap} {locs : List Loc} {cells slots : Nat} {Q : State → Prop}
/-- one entry of a handler's table: its class is resolved, if it wasn't -/
theorem fl_gives {T : State} {own C : String} {ct : Nat} (ha : l.admits e) (hW : s.WarmedH T.vm) (hown : s.vm.findClass own = some m.cls) (hcl : (Cond.classLink own ct C).before args s = true) :
    ∃ (ca : ClassId) (ck : Class) (vm' : Vm), s.vm.findClass C = some ca ∧ s.vm.classes[ca]? = some ck ∧ (resolveClass m.cls ct).Gives e.toSetting T.vm (.ok ca) vm' ∧ s.WarmedH vm' ∧ vm'.classes.size ≤ T.vm.classes.size := by
  have hpl : e.platform.magicAccessors = ({} : Platform).magicAccessors := by rw [ha.platform]
  obtain ⟨ca, hca, hl⟩ := Cond.classLink_spec hown hcl e.platform hpl
  obtain ⟨dk, _, _, ck, hd, _, _, _, hf, hck, _, hres⟩ := hl.here
  have hW2 : s.WarmedH (T.vm.noted m.cls ct (.cls ca)) := hW.noted hd hres (State.rightAt_cls hl)
  exact ⟨ca, ck, T.vm.noted m.cls ct (.cls ca), hca, hck, resolveClass_links e.toSetting (hW.classLinks hl), hW2, by rw [hW2.2.1, hW.2.1]; exact Nat.le_refl _⟩
theorem fl_hit {T : State} {g : JFrame} {x : Nat} {en : ExceptionTableEntry} {t : List ExceptionTableEntry} {own C X : String} (ha : l.admits e) (hW : s.WarmedH T.vm) (hgm : g.method = m) (hown : s.vm.findClass own = some m.cls) (hcl : (Cond.classLink own en.catchType C).before args s = true) (h0 : en.catchType ≠ 0) (hcov : covers en g.pc = true)
    (hce : ∃ ce : Cell, T.heap[x]? = some ce ∧ s.vm.findClass X = some ce.cls ∧ ∀ k, ce.vm ≠ .statics k) (hins : (Cond.instantiable X 6).before args s = true) (hasg : (Cond.castable X C).before #[] s = true) : ∃ vm' : Vm, s.WarmedH vm' ∧ FL e T g x (en :: t) (.found en.handlerPc) (T.setVm vm') := by
  obtain ⟨ca, ck, vm', h1, h2, h3, h4, h5⟩ := fl_gives ha hW hown hcl
  obtain ⟨ce, k1, k2, k3⟩ := hce
  obtain ⟨cX, kX, q1, q2, -⟩ := Cond.instantiable_spec hins
  cases Option.some.inj (q1.symm.trans k2)
  obtain ⟨c3, c4, z1, z2, z3⟩ := Cond.castable_spec hasg
  cases Option.some.inj (z1.symm.trans k2)
  cases Option.some.inj (z2.symm.trans h1)
  obtain ⟨kX2, y1, -⟩ := h4.alike.2.2 _ _ q2
  obtain ⟨kC2, y2, -⟩ := h4.alike.2.2 _ _ h2
  subst hgm
  exact ⟨vm', h4, FL.hit hcov h0 h3 h5 k1 k3 ⟨_, y1⟩ ⟨_, y2⟩ (by rw [h4.alike.assignable]; exact z3)⟩
theorem fl_pass {T : State} {g : JFrame} {x : Nat} {en : ExceptionTableEntry} {t : List ExceptionTableEntry} {h : Handler} {own C X : String} (ha : l.admits e) (hW : s.WarmedH T.vm) (hgm : g.method = m) (hown : s.vm.findClass own = some m.cls) (hcl : (Cond.classLink own en.catchType C).before args s = true) (h0 : en.catchType ≠ 0) (hcov : covers en g.pc = true)
    (hce : ∃ ce : Cell, T.heap[x]? = some ce ∧ s.vm.findClass X = some ce.cls ∧ ∀ k, ce.vm ≠ .statics k) (hins : (Cond.instantiable X 6).before args s = true) (hno : va_Nc X C s) (hrest : ∀ T2 : State, s.WarmedH T2.vm → T2.heap = T.heap → ∃ vm' : Vm, s.WarmedH vm' ∧ FL e T2 g x t h (T2.setVm vm')) : ∃ vm' : Vm, s.WarmedH vm' ∧ FL e T g x (en :: t) h (T.setVm vm') := by
  obtain ⟨ca, ck, vm', h1, h2, h3, h4, h5⟩ := fl_gives ha hW hown hcl
  obtain ⟨ce, k1, k2, k3⟩ := hce
  obtain ⟨cX, kX, q1, q2, -⟩ := Cond.instantiable_spec hins
  cases Option.some.inj (q1.symm.trans k2)
  obtain ⟨c3, c4, z1, z2, z3⟩ := hno
  cases Option.some.inj (z1.symm.trans k2)
  cases Option.some.inj (z2.symm.trans h1)
  obtain ⟨kX2, y1, -⟩ := h4.alike.2.2 _ _ q2
  obtain ⟨kC2, y2, -⟩ := h4.alike.2.2 _ _ h2
  subst hgm
  obtain ⟨vm2, w1, w2⟩ := hrest (T.setVm vm') h4 rfl
  exact ⟨vm2, w1, FL.pass hcov h0 h3 h5 k1 k3 ⟨_, y1⟩ ⟨_, y2⟩ (by rw [h4.alike.assignable]; exact z3) w2⟩
/-- a call of a method that may throw, within a try -/
theorem xr_tryV {cc bytes : ByteArray} {nL maxL n index pc mc ms b : Nat} {own C : String} {y : MethodName} {ret : Option FieldType} {rm : Room} {ws : List Cond} {Pc : Array Value → State → Prop} {Qc : Array Value → State → Outcome → State → Prop} {free : Addr → Prop} {As rest st : List Value} {ls : Array Slot}
    (S : CallFix p m c cc nL s args TW own) (hM : MetX l y ws rm Pc Qc mc ms free) (cw : CallW R s args own C index y bytes maxL ret ws rm mc ms n) (hp : PreV s H C b Pc As) (hn : As.length = n) (hls : ls.size = nL) (hst : st = As.reverse ++ .ref b :: rest) (hW : (rest.map fun v => v.category).sum ≤ 8) (hdg : decode cc pc = .ok (.invokevirtual index, 3)) (hf : cells + mc ≤ R.cells ∧ slots + ms ≤ R.slots)
    (kret : ∀ (v : Option Value) (st₀ t : State) (L : List Loc), st₀.heap = H → s.WarmedH t.vm → Qc (Value.ref b :: As).toArray st₀ (.returned v) t → (∀ q ∈ L, free q.base) → W p l e R s m args below meth c t.heap (locs ++ L) (cells + mc) (slots + ms) Q (F0 m (pc + 3) ls (v.toList ++ rest)))
    (kthr : ∀ (x : Nat) (st₀ t : State) (L : List Loc), l.admits e → st₀.heap = H → s.WarmedH t.vm → Qc (Value.ref b :: As).toArray st₀ (.threw x) t → (∀ q ∈ L, free q.base) →
      ∃ hpc : Nat, (∀ T : State, T.heap = t.heap → s.WarmedH T.vm → ∃ vm' : Vm, s.WarmedH vm' ∧ FL e T (F0 m pc ls rest) x c.exceptionTable.toList (.found hpc) (T.setVm vm')) ∧ W p l e R s m args below meth c t.heap (locs ++ L) (cells + mc) (slots + ms) Q (F0 m hpc ls [.ref x])) :
    W p l e R s m args below meth c H locs cells slots Q (F0 m pc ls st) := by
  obtain ⟨hx, hb, hml, ho, -⟩ := S
  obtain ⟨⟨hrc, hrs, hfr, hlo, hws, hcw, hcode, hini, hnot, hlen, hlink⟩, hinst, hsel⟩ := cw
  obtain ⟨hbl, ⟨cellB, hcB, hoB, hclB⟩, hPc⟩ := hp
  intro T hT X
  obtain ⟨mk, methM, hnamed, hmethM, hstM, habM⟩ := Cond.instanceMethod_spec hinst
  obtain ⟨methM', cM, hmethM', -, -, -, -, -, -, hsigM⟩ := Cond.code_spec hnamed hcode
  cases hmethM.symm.trans hmethM'
  obtain ⟨c2, r2, m2, q1, q2, q3, q4, kP, hkP, hkPi⟩ := Cond.selects_spec hsel
  cases hclB.symm.trans q1
  cases (State.methodFound?_of_named hnamed hnot).symm.trans q2
  cases hnamed.symm.trans q3
  have hselP : selectMethod e.platform s.vm cellB.cls mk = .method mk := by rw [Launch.admits_selectMethod X.admits]; exact q4
  subst hst
  subst hb
  obtain ⟨vm₁, X₁, hstep₁⟩ := X.invokevirtual hx ho hlink hnamed hmethM hstM hkP hkPi hnot (a := b) (cell := cellB) (by rw [hT]; exact hcB)
    (fun z h => by rw [h] at hoB; cases hoB) hselP hmethM habM hkP hkPi (g := F0 m pc ls (As.reverse ++ .ref b :: rest)) rfl (argsL := As) (rest := rest) (hn.trans (hlen _ hsigM)) rfl hdg
  obtain ⟨o, t, B, L, hBh, hBv, hq, hL, XB, sret, sthr⟩ := xr_back (bytes := bytes) (maxL := maxL) (ret := ret) X₁ hM hbl hrc hrs hfr hlo hws hcw (fun a' U hW => word_at hW (Or.inl (by first | rfl | simp [Cond.onTables, Cond.keeps, Cond.steady])) hini)
    (g := F0 m pc ls rest) (ig := .invokevirtual index) (len := 3) (mk := mk) (a := (Value.ref b :: As).toArray) rfl (hls.trans hml.symm) hdg (lv_room (m := m) (ls := ls) (rest := rest) (pc := pc) hW) (X₁.named hnamed) hf.1 hf.2 (hPc (T.setVm vm₁) hT X₁.warmed)
  have hWt : s.WarmedH t.vm := by rw [← hBv]; exact XB.warmed
  cases o with
  | returned v =>
    obtain ⟨t2, a1, b1⟩ := kret v ((T.setVm vm₁).calling (F0 m pc ls rest) mk (Value.ref b :: As).toArray) t L hT hWt hq hL B hBh XB
    exact ⟨t2, hstep₁ _ (fun acts => by rw [doInvoke_state]; exact (sret v rfl).trans a1), b1⟩
  | threw x =>
    obtain ⟨hpc, hfind, kw⟩ := kthr x ((T.setVm vm₁).calling (F0 m pc ls rest) mk (Value.ref b :: As).toArray) t L X.admits hT hWt hq hL
    obtain ⟨vm', hv1, hv2⟩ := hfind ((B.setTop (F0 m pc ls rest)).pushFrame (.throwing x)) hBh (by exact XB.warmed)
    obtain ⟨t2, a1, b1⟩ := kw (B.setVm vm') hBh (XB.noted hv1)
    refine ⟨t2, hstep₁ _ (fun acts => ?_), b1⟩
    rw [doInvoke_state]
    exact (sthr x rfl).trans (stx_caught (g := F0 m pc ls rest) XB.here XB.method' XB.code hv2 a1)
end XT4
