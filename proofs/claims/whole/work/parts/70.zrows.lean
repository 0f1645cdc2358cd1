/-! the table of a branch's cells: a static row that nobody writes -/
def zc (j : Nat) : Int32 := if j = 0 then 9 else if j = 1 then 24 else if j = 2 then 116 else 260
def ZE (A : Nat → Prop) (U : State) : Prop := va_Nw (.fieldLinkNest "BranchStore$Shape" 9 "BranchStore" "CELLS_OF_A_BRANCH" "[I" "BranchStore") U ∧ ∃ t : Nat, va_Z "BranchStore" "CELLS_OF_A_BRANCH" "[I" (.ref t) A U U.heap ∧ va_T .int t 4 (fun j => .int (zc j)) A U U.heap
theorem ze_go {s : State} {A B : Nat → Prop} {H : Heap} {locs : List Loc} (h : ZE A s) (hS : va_S A s.heap H locs) (hF : ∀ q, B q → A q) : ∀ U : State, U.heap = H → s.WarmedH U.vm → ZE B U := by
  intro U hU hW
  obtain ⟨h0, t, h1, h2⟩ := h
  refine ⟨va_Nw.warmF hW h0, t, ?_, ?_⟩
  · rw [hU]; exact ((h1.kept (fun a h3 h4 => hS.2.1 a h3 h4)).moved hW.alike).narrow hF
  · rw [hU]; exact ((h2.kept (fun a h3 h4 => hS.2.1 a h3 h4)).moved hW.alike).narrow hF
def PZ (D : va_G) (cL cI : ClassId) (av : List Value) (wc : va_W) (sz : Nat) : Array Value → State → Prop := va_Pc av (fun U => U.heap.size = sz ∧ va_P D classes wc U.heap ∧ va_K D classes (tyz cL cI) U ∧ va_D (fun _ => True) wc ∧ ZE (va_A wc sz) U)
theorem PZ_blind {D : va_G} {cL cI : ClassId} {av : List Value} {wc : va_W} {sz : Nat} : FrameBlind (PZ D cL cI av wc sz) := fun a U g mk q => ⟨q.1, q.2.1, q.2.2.1, va_K.moved (u := U) (U := U.calling g mk a) (Vm.Alike.refl U.vm) q.2.2.2.1, q.2.2.2.2.1, by
  obtain ⟨h0, t, h1, h2⟩ := q.2.2.2.2.2
  exact ⟨va_tabs (u := U) (U := U.calling g mk a) rfl rfl h0, t, va_Z.moved (u := U) (U := U.calling g mk a) (Vm.Alike.refl U.vm) h1, va_T.moved (u := U) (U := U.calling g mk a) (Vm.Alike.refl U.vm) h2⟩⟩
section XZ
variable {p : Program} {l : Launch} {e : Env} {R : Room} {s : State} {m : MethodId} {args : Array Value} {below : List Frame} {meth : Method} {c : Code} {H : Heap} {locs : List Loc} {cells slots : Nat} {Q : State → Prop}
variable {D : va_G} {cL cI : ClassId} {wc : va_W} {cc bytes : ByteArray} {nL maxL n index pc : Nat} {own C : String} {y : MethodName} {ret : Option FieldType} {rm : Room} {ws : List Cond} {Qc : Array Value → State → Outcome → State → Prop} {free : Addr → Prop} {mc ms : Nat} {As rest st : List Value} {a : Nat} {ls : Array Slot}
theorem xr_mvz (S : CallFix p m c cc nL s args TW own) (hM : Met l y ws rm (PZ D cL cI (.ref a :: As) wc H.size) Qc mc ms free) (cw : CallW R s args own C index y bytes maxL ret ws rm mc ms n) (hK : va_K D classes (tyz cL cI) s) (hP : va_P D classes wc H) (hD : va_D (fun _ => True) wc) (hz : ∀ U : State, U.heap = H → s.WarmedH U.vm → ZE (va_A wc H.size) U) (hr : ∃ cell : Cell, H[a]? = some cell ∧ cell.vm.isStatics = false ∧ s.vm.findClass C = some cell.cls) (hn : As.length = n) (hls : ls.size = nL) (hst : st = As.reverse ++ .ref a :: rest) (hW : (rest.map fun v => v.category).sum ≤ 8) (hdg : decode cc pc = .ok (.invokevirtual index, 3)) (hf : cells + mc ≤ R.cells ∧ slots + ms ≤ R.slots) :
    va_Run p l e R s m args below meth c H locs cells slots mc ms (F0 m pc ls st) rest (Qc (Value.ref a :: As).toArray) free :=
  va_runV S hM cw ⟨PZ_blind, hr, fun U hU hW => ⟨rfl, by rw [hU], by rw [hU]; exact hP, va_K.moved hW.alike hK, hD, hz U hU hW⟩⟩ rfl hn hls hst (lv_room (m := m) (ls := ls) (rest := rest) (pc := pc) hW) hdg hf
theorem xr_miz (S : CallFix p m c cc nL s args TW own) (hM : Met l y ws rm (PZ D cL cI (.ref a :: As) wc H.size) Qc mc ms free) (cw : CallB R s args own index y bytes maxL none ws rm mc ms n ∧ y.name = "<init>" ∧ (Cond.instanceMethod y).before args s = true) (hK : va_K D classes (tyz cL cI) s) (hP : va_P D classes wc H) (hD : va_D (fun _ => True) wc) (hz : ∀ U : State, U.heap = H → s.WarmedH U.vm → ZE (va_A wc H.size) U) (hn : As.length = n) (hls : ls.size = nL) (hst : st = As.reverse ++ .ref a :: rest) (hW : (rest.map fun v => v.category).sum ≤ 8) (hdg : decode cc pc = .ok (.invokespecial index, 3)) (hf : cells + mc ≤ R.cells ∧ slots + ms ≤ R.slots) :
    va_Run p l e R s m args below meth c H locs cells slots mc ms (F0 m pc ls st) rest (Qc (Value.ref a :: As).toArray) free :=
  va_runI S hM cw ⟨PZ_blind, fun U hU hW => ⟨rfl, by rw [hU], by rw [hU]; exact hP, va_K.moved hW.alike hK, hD, hz U hU hW⟩⟩ rfl hn hls hst (lv_room (m := m) (ls := ls) (rest := rest) (pc := pc) hW) hdg hf
end XZ
