/-! what the start gives: classes, exceptions, the table of cells; the script read; the loop -/
def R_law : String := "BranchStoreLaw"
def lw_P (b : Addr) (xs : List Int32) (args : Array Value) (s : State) : Prop := args = #[.ref b] ∧ s.IntsAt b xs ∧ xs.length ≤ 3073 ∧ (Jvm.Cond.and given_1 narrow_1).before args s = true
def lw_Q (_ : Array Value) (s : State) (o : Outcome) (t : State) : Prop := o = .returned (some (.int 1)) ∧ Framed s o t [] 601024 7293000
def lw_Z (below : List Frame) (a : Array Value) (s : State) : State → Prop := fun t => ∃ o, t.status = .running ∧ Ended t below o ∧ lw_Q a s o t
/-- the law's own end, with 1 on the stack, nothing written that was there before, its room as the claim has it -/
theorem lw_ret {p : Program} {l : Launch} {e : Env} {s : State} {m : MethodId} {below : List Frame} {meth : Method} {c : Code} {b : Nat} (hx : p.tables.exec = Jvm.exec) (hb : c.code = code) (hr : meth.sig.returnType = ret) (hlocks : meth.locks = false) {pc : Nat} {H : Heap} {ls : Array Slot} (hdg : decode code pc = .ok (.ireturn, 1)) : W p l e room_1 s m #[Value.ref b] below meth c H [] 601024 7293000 (lw_Z below #[Value.ref b] s) (F0 m pc ls [.int 1]) := by
  intro T hT X
  obtain ⟨fs, hret, hrun, hended, hW, hframe⟩ := X.leave (v := some (.int 1)) (hlocks := hlocks) (fun h => by rw [hr] at h; cases h)
  have hmeth' : T.vm.method? m = some meth := X.method'
  refine ⟨T.setFrames fs, ?_, .returned (some (.int 1)), hrun, hended, rfl, ⟨_, rfl⟩, hW, hframe⟩
  jvm_step X.here [X.here.top, hx, hb, hdg, hmeth', hr, ret, narrow_b1]
  (try refine ⟨rfl, ?_⟩); (try refine ⟨rfl, ?_⟩)
  first | (intro acts; rw [hret _ acts rfl rfl rfl]) | rw [hret _ _ rfl rfl rfl]
  exact Steps.refl _
/-- what holds at the law's entry: the machine, the code, the tables' words (any of lw_tbl by 'hts w (by decide +kernel)'), the script of L ints xs at the cell b, what the Statement gives of the start (any of its parts by flat_of_before) -/
def lw_At (p : Program) (s : State) (m : MethodId) (meth : Method) (c : Code) (b L : Nat) (xs : Nat → Int32) : Prop :=
  p.tables.exec = Jvm.exec ∧ c.code = code ∧ meth.sig.returnType = ret ∧ c.maxLocals = 8 ∧ s.vm.findClass R_law = some m.cls ∧ (∀ w ∈ lw_tbl, w.before #[Value.ref b] s = true) ∧ va_X b L xs s s.heap ∧ b < s.heap.size ∧ meth.locks = false ∧ (Jvm.Cond.and given_1 narrow_1).before #[Value.ref b] s = true
theorem lk_known {s : State} {args : Array Value} (hts : ∀ w ∈ TW, w.before args s = true) : ∃ (D : va_G) (cL cI : ClassId), va_K D classes (tyz cL cI) s := by
  obtain ⟨c0, i0, h0⟩ := u_known (ws := TW) (T := F_Ke) (N := 2) hts in_Ke (hts _ tw_30)
  obtain ⟨c1, i1, h1⟩ := u_known (ws := TW) (T := F_Sh) (N := 7) hts in_Sh (hts _ tw_80)
  obtain ⟨c2, i2, h2⟩ := u_known (ws := TW) (T := F_Ta) (N := 5) hts in_Ta (hts _ tw_54)
  obtain ⟨c3, i3, h3⟩ := u_known (ws := TW) (T := F_St) (N := 8) hts in_St (hts _ tw_19)
  obtain ⟨c4, i4, h4⟩ := u_known (ws := TW) (T := F_Mo) (N := 16) hts in_Mo (hts _ tw_597)
  obtain ⟨cL, kL, qL, a1, a2, a3⟩ := Cond.arrayClass_spec (hts _ tw_52)
  obtain ⟨cI, kI, qI, b1, b2, b3⟩ := Cond.arrayClass_spec (hts _ tw_116)
  refine ⟨(fun c => match c with | 0 => c0 | 1 => c1 | 2 => c2 | 3 => c3 | _ => c4, fun c => match c with | 0 => i0 | 1 => i1 | 2 => i2 | 3 => i3 | _ => i4), cL, cI, fun c q hq => ?_, fun k q hk => ?_⟩
  · match c, hq with
    | 0, hq => cases hq; exact h0
    | 1, hq => cases hq; exact h1
    | 2, hq => cases hq; exact h2
    | 3, hq => cases hq; exact h3
    | 4, hq => cases hq; exact h4
    | c + 5, hq => cases hq
  · match k, hk with
    | 0, hk => cases hk; exact ⟨fun n z => ⟨fun k h => (by cases h), kL, a2, qL, a3⟩, a1⟩
    | 1, hk => cases hk; exact ⟨fun n z => ⟨fun k h => (by cases h), kI, b2, qI, b3⟩, b1⟩
    | k + 2, hk => cases hk
theorem lk_str {s : State} {b k : Nat} {tx : String} (h1 : (Cond.stringRef "BranchStore" k tx).before #[Value.ref b] s = true) (h2 : (Cond.exactly (.string "BranchStore" k) "java/lang/String").before #[Value.ref b] s = true) : ∃ a, vk_R "BranchStore" k tx a s := by
  obtain ⟨a, -, -, -, h, -⟩ := Cond.exactly_spec h2
  exact ⟨a, vk_R.of h1 h⟩
set_option maxRecDepth 100000 in
theorem lk_xe {s : State} {b : Nat} (hts : ∀ w ∈ lw_tbl, w.before #[Value.ref b] s = true) (hgv : (Jvm.Cond.and given_1 narrow_1).before #[Value.ref b] s = true) : XE s := by
  have hs := flat_of_before _ hgv
  have u1 : (Cond.isRef (.static "java/lang/Throwable" "UNASSIGNED_STACK" "[Ljava/lang/StackTraceElement;")).before #[Value.ref b] s = true := hs _ (by decide +kernel)
  have u2 : (Cond.isRef (.static "java/lang/Throwable" "SUPPRESSED_SENTINEL" "Ljava/util/List;")).before #[Value.ref b] s = true := hs _ (by decide +kernel)
  refine ⟨?_, ⟨hts _ lb_302, u1⟩, ⟨hts _ lb_304, u2⟩, ?_, ?_⟩
  · unfold xe_t
    exact List.forall_mem_cons.mpr ⟨va_any rfl (hts _ lb_277), List.forall_mem_cons.mpr ⟨va_any rfl (hts _ lb_369), List.forall_mem_cons.mpr ⟨va_any rfl (hts _ lb_389), List.forall_mem_cons.mpr ⟨va_any rfl (hts _ lb_421), List.forall_mem_cons.mpr ⟨va_any rfl (hts _ lb_516), List.forall_mem_cons.mpr ⟨va_any rfl (hts _ lb_278), List.forall_mem_cons.mpr ⟨va_any rfl (hts _ lb_279), List.forall_mem_cons.mpr ⟨va_any rfl (hts _ lb_280), List.forall_mem_cons.mpr ⟨va_any rfl (hts _ lb_281), List.forall_mem_cons.mpr ⟨va_any rfl (hts _ lb_282), List.forall_mem_cons.mpr ⟨va_any rfl (hts _ lb_283), fun _ h => absurd h List.not_mem_nil⟩⟩⟩⟩⟩⟩⟩⟩⟩⟩⟩
  · unfold xe_n
    exact List.forall_mem_cons.mpr ⟨va_Nc.of (hs _ (by decide +kernel)), List.forall_mem_cons.mpr ⟨va_Nc.of (hs _ (by decide +kernel)), List.forall_mem_cons.mpr ⟨va_Nc.of (hs _ (by decide +kernel)), List.forall_mem_cons.mpr ⟨va_Nc.of (hs _ (by decide +kernel)), fun _ h => absurd h List.not_mem_nil⟩⟩⟩⟩
  · unfold xe_s
    exact List.forall_mem_cons.mpr ⟨lk_str (hts _ lb_318) (hs _ (by decide +kernel)), List.forall_mem_cons.mpr ⟨lk_str (hts _ lb_356) (hs _ (by decide +kernel)), List.forall_mem_cons.mpr ⟨lk_str (hts _ lb_366) (hs _ (by decide +kernel)), List.forall_mem_cons.mpr ⟨lk_str (hts _ lb_376) (hs _ (by decide +kernel)), List.forall_mem_cons.mpr ⟨lk_str (hts _ lb_396) (hs _ (by decide +kernel)), List.forall_mem_cons.mpr ⟨lk_str (hts _ lb_428) (hs _ (by decide +kernel)), List.forall_mem_cons.mpr ⟨lk_str (hts _ lb_442) (hs _ (by decide +kernel)), List.forall_mem_cons.mpr ⟨lk_str (hts _ lb_472) (hs _ (by decide +kernel)), List.forall_mem_cons.mpr ⟨lk_str (hts _ lb_491) (hs _ (by decide +kernel)), List.forall_mem_cons.mpr ⟨lk_str (hts _ lb_523) (hs _ (by decide +kernel)), List.forall_mem_cons.mpr ⟨lk_str (hts _ lb_541) (hs _ (by decide +kernel)), List.forall_mem_cons.mpr ⟨lk_str (hts _ lb_549) (hs _ (by decide +kernel)), List.forall_mem_cons.mpr ⟨lk_str (hts _ lb_566) (hs _ (by decide +kernel)), List.forall_mem_cons.mpr ⟨lk_str (hts _ lb_571) (hs _ (by decide +kernel)), List.forall_mem_cons.mpr ⟨lk_str (hts _ lb_572) (hs _ (by decide +kernel)), List.forall_mem_cons.mpr ⟨lk_str (hts _ lb_595) (hs _ (by decide +kernel)), fun _ h => absurd h List.not_mem_nil⟩⟩⟩⟩⟩⟩⟩⟩⟩⟩⟩⟩⟩⟩⟩⟩
set_option maxRecDepth 100000 in
theorem lk_ze {s : State} {b : Nat} {A : Nat → Prop} (hts : ∀ w ∈ lw_tbl, w.before #[Value.ref b] s = true) (hgv : (Jvm.Cond.and given_1 narrow_1).before #[Value.ref b] s = true) (hA : ∀ a : Nat, a < s.heap.size → ¬ A a) : ZE A s := by
  have hs := flat_of_before _ hgv
  have harr : (Cond.arrayOf (.static "BranchStore" "CELLS_OF_A_BRANCH" "[I") .int).before #[Value.ref b] s = true := hs _ (by decide +kernel)
  have hlen : (Cond.eq (.length (.static "BranchStore" "CELLS_OF_A_BRANCH" "[I")) (.int 4)).before #[Value.ref b] s = true := hs _ (by decide +kernel)
  have e0 : (Cond.eq (.elem (.static "BranchStore" "CELLS_OF_A_BRANCH" "[I") (.int 0)) (.int 9)).before #[Value.ref b] s = true := hs _ (by decide +kernel)
  have e1 : (Cond.eq (.elem (.static "BranchStore" "CELLS_OF_A_BRANCH" "[I") (.int 1)) (.int 24)).before #[Value.ref b] s = true := hs _ (by decide +kernel)
  have e2 : (Cond.eq (.elem (.static "BranchStore" "CELLS_OF_A_BRANCH" "[I") (.int 2)) (.int 116)).before #[Value.ref b] s = true := hs _ (by decide +kernel)
  have e3 : (Cond.eq (.elem (.static "BranchStore" "CELLS_OF_A_BRANCH" "[I") (.int 3)) (.int 260)).before #[Value.ref b] s = true := hs _ (by decide +kernel)
  obtain ⟨t, ht, hT⟩ := va_Tof (N := 4) (f := fun j => .int (zc j)) (A := A) (by decide) harr (va_eqt hlen) (fun j hj => by
    rcases (show j = 0 ∨ j = 1 ∨ j = 2 ∨ j = 3 by omega) with rfl | rfl | rfl | rfl
    · exact va_eqt e0
    · exact va_eqt e1
    · exact va_eqt e2
    · exact va_eqt e3) hA
  exact ⟨va_any rfl (hts _ lb_89), t, va_Zref (hts _ lb_90) (hts _ (List.mem_filter.mp tw_1).1) ht hA, hT⟩
set_option maxRecDepth 100000 in
theorem c_La_cell (l : Launch) (b L : Nat) (xs : Nat → Int32) (k : Int32) (hk : k.toInt = 0) (hL : L ≤ 3073) : Met l y_La_cell (Cond.code y_La_cell method_2_code 2 (some .int) :: TW) ({ frames := 1, cells := 0, slots := 0, locals := 40 } : Room) (va_Pc [.ref b, .int k] (fun U => va_X b L xs U U.heap)) (vp_Si (fun r => r = if 0 < L then xs 0 else 0)) 0 0 (fun _ => False) := by
  refine xr_met (by decide) ?_
  intro p e s m args below meth c hx hb hr hts hown hlocks hname hml hv
  obtain ⟨rfl, hX⟩ := hv
  have hl := lv_entry ([.ref b, .int k]) (n := 2) (Nat.le_of_ble_eq_true rfl)
  rw [lg_entry_eq]
  generalize (lg_sl ([.ref b, .int k]) ++ List.replicate (2 - (lg_sl ([.ref b, .int k])).length) Slot.unset).toArray = ls at hl ⊢
  have hl : lv_has ls 2 [(0, .ref b), (1, .int k)] := hl
  have hbl : b < s.heap.size := by
    obtain ⟨scr, h1, -⟩ := hX
    exact (Array.getElem?_eq_some_iff.mp h1).1
  have hS : va_S (fun _ => False) s.heap s.heap [] := va_S.rf
  refine lv_iload_n hx hb d_La_cell_0 rfl (lv_at hl 1 rfl) ?_
  refine lv_aload_n hx hb d_La_cell_1 rfl (lv_at hl 0 rfl) ?_
  refine va_slen hx hb hX hbl (fun h => h) hS d_La_cell_2 ?_
  refine lv_topi (fun v2 e2 => ?_)
  have t2 : v2.toInt = (L : Int) := by rw [e2]; exact ia_of _ (by omega)
  refine lv_icmp_ge hx hb d_La_cell_3 (tgt := 12) (by decide) (fun g3 => ?_) (fun g3 => ?_)
  · have g3 := ic_le.mp g3
    refine lv_iconst (v := 0) hx hb d_La_cell_12 (by decide) ?_
    refine lv_topi (fun v12 e12 => ?_)
    exact xr_reti (v := v12) hx hb hr hlocks (by rw [if_neg (by omega)]; exact e12) d_La_cell_13
  · have g3 := ic_nle.mp g3
    refine lv_aload_n hx hb d_La_cell_6 rfl (lv_at hl 0 rfl) ?_
    refine lv_iload_n hx hb d_La_cell_7 rfl (lv_at hl 1 rfl) ?_
    refine va_sld hx hb hX hbl (fun h => h) hS (ia_in ⟨by omega, by omega⟩) d_La_cell_8 ?_
    refine lv_topi (fun v8 e8 => ?_)
    have e8 : v8 = xs k.toInt.toNat := e8
    refine lv_goto hx hb d_La_cell_9 (tgt := 13) (by decide) ?_
    exact xr_reti (v := v8) hx hb hr hlocks (by rw [if_pos (by omega), e8, show k.toInt.toNat = 0 by omega]) d_La_cell_13
section XCELL
variable {p : Program} {l : Launch} {e : Env} {R : Room} {s : State} {m : MethodId} {args : Array Value} {below : List Frame} {meth : Method} {c : Code} {H : Heap} {locs : List Loc} {cells slots : Nat} {cc bytes : ByteArray} {nL maxL n index pc b L : Nat} {xs : Nat → Int32} {own : String} {y : MethodName} {ret : Option FieldType} {rm : Room} {ws : List Cond} {Qc : Array Value → State → Outcome → State → Prop} {free : Addr → Prop} {As rest st : List Value} {ls : Array Slot}
theorem xr_cell (S : CallFix p m c cc nL s args TW own) (hM : Met l y ws rm (va_Pc As (fun U => va_X b L xs U U.heap)) Qc 0 0 free) (cw : CallB R s args own index y bytes maxL ret ws rm 0 0 n ∧ (Cond.static y).before args s = true) (hX : va_X b L xs s H) (hn : As.length = n) (hls : ls.size = nL) (hst : st = As.reverse ++ rest) (hW : (rest.map fun v => v.category).sum ≤ 8) (hdg : decode cc pc = .ok (.invokestatic index, 3)) (hf : cells ≤ R.cells ∧ slots ≤ R.slots) :
    CallRun p l e R s m args below meth c H locs cells slots 0 0 (F0 m pc ls st) rest (Qc As.toArray) free :=
  W.runS S hM cw ⟨fun a U g mk q => ⟨q.1, va_X.moved (u := U) (U := U.calling g mk a) (Vm.Alike.refl U.vm) q.2⟩, fun U hU hW => ⟨rfl, by show va_X b L xs U U.heap; rw [hU]; exact hX.moved hW.alike⟩⟩ rfl hn hls hst (lv_room (m := m) (ls := ls) (rest := rest) (pc := pc) hW) hdg hf
end XCELL
