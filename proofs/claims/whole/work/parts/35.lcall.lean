/-! the law's two methods with handlers: entry, catch, call -/
theorem gd_metW {l : Launch} {y : MethodName} {ws : List Cond} {rm : Room} {Qc : Array Value → State → Outcome → State → Prop} {mc ms : Nat} {cc : ByteArray} {maxL : Nat} {ret : Option FieldType} {hh : List (Nat × Nat × Nat × Nat)} {D : va_G} {cl : List vw_C} {tys : List (ClassId × FieldType)} {wc : va_W} {sz : Nat} {av : List Value}
    (hy : plainName y.cls = true) (hw : ws = Cond.codeWith y cc maxL ret hh :: gd_tb) (hn : (lg_sl av).length ≤ maxL)
    (body : ∀ (p : Program) (e : Env) (s : State) (m : MethodId) (below : List Frame) (meth : Method) (c : Code) (ls : Array Slot), p.tables.exec = Jvm.exec → c.code = cc → meth.sig.returnType = ret → c.maxLocals = maxL → s.vm.findClass y.cls = some m.cls → (∀ w ∈ gd_tb, w.before av.toArray s = true) → meth.locks = false → s.heap.size = sz → gd_Ex s → meth.code = some c → c.exceptionTable.toList.map (fun h => (h.startPc, h.endPc, h.handlerPc, h.catchType)) = hh →
      va_K D cl tys s → va_P D cl wc s.heap → va_D (va_A wc sz) wc → lv_has ls maxL (lv_args 0 av) → W p l e rm s m av.toArray below meth c s.heap [] 0 0 (MQ below Qc av.toArray s mc ms (va_A wc sz)) (F0 m 0 ls [])) :
    Met l y ws rm (va_Pc av (gd_PreE gd_Ex D cl tys wc sz)) Qc mc ms (va_A wc sz) := by
  refine va_MetW (cc := cc) (maxL := maxL) (ret := ret) (hh := hh) hy hw ?_
  intro p e s m args below meth c s₁ B hml hv
  obtain ⟨rfl, ⟨hsz, hP, hK, hD0⟩, hE⟩ := hv
  have hl := lv_entry av (n := maxL) hn
  have hts := atoms_spec (ws := ws) B.pre
  have X0 := Stand.of_body B
  obtain ⟨m9, meth9, c9, hn9, h1, h2, -, -, h5, -⟩ := Cond.codeWith_spec (hts _ (by rw [hw]; exact List.mem_cons_self))
  cases (B.named).symm.trans hn9
  cases (X0.method).symm.trans h1
  cases (X0.code).symm.trans h2
  rw [lg_entry_eq]
  exact body p e s m below meth c _ B.exec B.bytes B.returns hml (findClass_of_methodNamed B.named) (fun w h => hts w (by rw [hw]; exact List.mem_cons_of_mem _ h)) B.notSynchronized hsz hE X0.code h5 hK hP hD0.self hl
section GLC
variable {p : Program} {l : Launch} {e : Env} {R : Room} {s : State} {m : MethodId} {args : Array Value} {below : List Frame} {meth : Method} {c : Code} {H : Heap} {locs : List Loc} {cells slots : Nat} {Q : State → Prop}
/-- the class entry of a handler, resolved: what the search takes -/
theorem gd_entry {T : State} (X : Stand p l e R s m args below meth c T locs cells slots) {own K : String} {idx : Nat} (hown : s.vm.findClass own = some m.cls) (hl : (Cond.classLink own idx K).before args s = true) :
    ∃ (cK : ClassId) (vm' : Vm), s.vm.findClass K = some cK ∧ (Jvm.resolveClass m.cls idx).Gives e.toSetting T.vm (.ok cK) vm' ∧ s.WarmedH vm' ∧ vm'.classReady m.cls idx cK ∧ vm'.classes.size ≤ T.vm.classes.size := by
  have hpl : e.platform.magicAccessors = ({} : Platform).magicAccessors := by rw [X.admits.platform]
  obtain ⟨cK, hfc, hcl⟩ := Cond.classLink_spec hown hl e.platform hpl
  obtain ⟨q1, q2, q3⟩ := State.classEntry (e := e) X.warmed hcl
  exact ⟨cK, _, hfc, q1, q2, q3, by no_record⟩
theorem gd_catch1 {T : State} (X : Stand p l e R s m args below meth c T locs cells slots) {own K : String} {idx a b h pc : Nat} {ls : Array Slot} {st rest : List Value} {x : Addr} {cell : Cell} {more : List ExceptionTableEntry} (hown : s.vm.findClass own = some m.cls) (hl : (Cond.classLink own idx K).before args s = true)
    (htab : c.exceptionTable.toList = ⟨a, b, h, idx⟩ :: more) (hcov : covers ⟨a, b, h, idx⟩ pc = true) (h0 : idx ≠ 0) (hcell : T.heap[x]? = some cell) (hvm : cell.vm = .none) (hcls : s.vm.findClass K = some cell.cls) (hcast : (Cond.castable K K).before args s = true) :
    ∃ vm' : Vm, Stand p l e R s m args below meth c (T.setVm vm') locs cells slots ∧ ∀ target, Steps p.tables e below ((T.setVm vm').setTop (F0 m h ls [.ref x])) target → Steps p.tables e below ((T.setTop (F0 m pc ls rest)).pushFrame (.throwing x)) target := by
  obtain ⟨cK, vm', hfc, q1, q2, q3, q4⟩ := gd_entry X hown hl
  cases hfc.symm.trans hcls
  obtain ⟨c3, t3, w1, w2, w3⟩ := Cond.castable_spec hcast
  cases hfc.symm.trans w1
  cases hfc.symm.trans w2
  have hk : ∃ k, vm'.classes[cell.cls]? = some k := Vm.classAt_of_findClass (by rw [q2.alike.findClass]; exact hfc)
  refine ⟨vm', X.noted q2, fun target ht => ?_⟩
  refine gd_caught (g := F0 m pc ls rest) (pc := h) (vm' := vm') X.here X.method' X.code ?_ ht
  rw [htab]
  exact gd_go_hit (c := cell.cls) (cell := cell) hcov h0 (by rw [Stand.throwing_vm]; exact q1) q3 (by rw [Stand.throwing_vm]; exact q4) (by rw [Stand.throwing_heap]; exact hcell) (by rw [hvm]; intro k; exact fun h => by cases h) hk hk (by rw [q2.alike.assignable]; exact w3)
theorem gd_catch2 {T : State} (X : Stand p l e R s m args below meth c T locs cells slots) {own K K2 : String} {idx a b h idx2 a2 b2 h2 pc : Nat} {ls : Array Slot} {st rest : List Value} {x : Addr} {cell : Cell} {more : List ExceptionTableEntry} (hown : s.vm.findClass own = some m.cls) (hl : (Cond.classLink own idx K).before args s = true) (hl2 : (Cond.classLink own idx2 K2).before args s = true)
    (htab : c.exceptionTable.toList = ⟨a, b, h, idx⟩ :: ⟨a2, b2, h2, idx2⟩ :: more) (hcov : covers ⟨a, b, h, idx⟩ pc = true) (hcov2 : covers ⟨a2, b2, h2, idx2⟩ pc = true) (h0 : idx ≠ 0) (h02 : idx2 ≠ 0) (hcell : T.heap[x]? = some cell) (hvm : cell.vm = .none) (hcls : s.vm.findClass K2 = some cell.cls) (hcast : (Cond.castable K2 K2).before args s = true) (hno : ∀ cK, s.vm.findClass K = some cK → s.vm.assignable cell.cls cK = false) :
    ∃ vm' : Vm, Stand p l e R s m args below meth c (T.setVm vm') locs cells slots ∧ ∀ target, Steps p.tables e below ((T.setVm vm').setTop (F0 m h2 ls [.ref x])) target → Steps p.tables e below ((T.setTop (F0 m pc ls rest)).pushFrame (.throwing x)) target := by
  obtain ⟨cK, vm', hfc, q1, q2, q3, q4⟩ := gd_entry X hown hl
  obtain ⟨c3, t3, w1, w2, w3⟩ := Cond.castable_spec hcast
  cases hcls.symm.trans w1
  cases hcls.symm.trans w2
  have X1 := X.noted q2
  obtain ⟨cK2, vm2, hfc2, r1, r2, r3, r4⟩ := gd_entry X1 hown hl2
  cases hfc2.symm.trans hcls
  have hk : ∃ k, vm'.classes[cell.cls]? = some k := Vm.classAt_of_findClass (by rw [q2.alike.findClass]; exact hcls)
  have hkc : ∃ k, vm'.classes[cK]? = some k := Vm.classAt_of_findClass (by rw [q2.alike.findClass]; exact hfc)
  have hk2 : ∃ k, vm2.classes[cell.cls]? = some k := Vm.classAt_of_findClass (by rw [r2.alike.findClass]; exact hcls)
  refine ⟨vm2, X.noted r2, fun target ht => ?_⟩
  refine gd_caught (g := F0 m pc ls rest) (pc := h2) (vm' := vm2) X.here X.method' X.code ?_ ht
  rw [htab]
  refine gd_go_miss (c := cK) (vm' := vm') (cell := cell) hcov h0 (by rw [Stand.throwing_vm]; exact q1) q3 (by rw [Stand.throwing_vm]; exact q4) (by rw [Stand.throwing_heap]; exact hcell) (by rw [hvm]; intro k; exact fun h => by cases h) hk hkc (by rw [q2.alike.assignable]; exact hno cK hfc) ?_
  exact gd_go_hit (c := cell.cls) (cell := cell) hcov2 h02 r1 r3 r4 (by show ((T.setTop (F0 m pc ls rest)).pushFrame (.throwing x)).heap[x]? = _; rw [Stand.throwing_heap]; exact hcell) (by rw [hvm]; intro k; exact fun h => by cases h) hk2 hk2 (by rw [r2.alike.assignable]; exact w3)
end GLC
