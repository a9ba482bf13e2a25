/-! a contract of a method that throws, and the call of it under a handler -/
def gd_MetT (l : Launch) (y : MethodName) (ws : List Cond) (rm : Room) (Pc : Array Value → State → Prop) (cls : String) (B : State → State → Prop) (mc ms : Nat) (A : Nat → Prop) : Prop :=
  MetFree l y (headSpec ws rm) Pc (fun _ _ _ _ _ => True) (fun _ st o t => ∃ (x : Addr) (cell : Cell) (L : List Loc), o = .threw x ∧ st.WarmedH t.vm ∧ st.sameButNew ({ t with vm := st.vm } : State) L mc ms ∧ (∀ q ∈ L, A q.base) ∧ t.heap[x]? = some cell ∧ st.vm.findClass cls = some cell.cls ∧ cell.vm = .none ∧ B st t)
theorem gd_blindE {D : va_G} {cl : List vw_C} {tys : List (ClassId × FieldType)} {ws : va_W} {sz : Nat} {av : List Value} : FrameBlind (va_Pc av (gd_PreE gd_Ex D cl tys ws sz)) := by
  intro a U g mk h
  obtain ⟨q0, q1, q2⟩ := h
  exact ⟨q0, (gd_blind (av := av) a U g mk ⟨q0, q1⟩).2, q2.same rfl rfl⟩
theorem gd_metT {l : Launch} {y : MethodName} {ws : List Cond} {rm : Room} {cls : String} {mc ms : Nat} {cc : ByteArray} {maxL : Nat} {ret : Option FieldType} {D : va_G} {cl : List vw_C} {tys : List (ClassId × FieldType)} {wc w1 : va_W} {sz : Nat} {av : List Value} (hfl : l.flags = Jvm.pinnedFlags ++ [Jvm.noTraceFlag])
    (hy : plainName y.cls = true) (hw : ws = Cond.code y cc maxL ret :: gd_tb) (hn : (lg_sl av).length ≤ maxL)
    (body : ∀ (p : Program) (e : Env) (s : State) (m : MethodId) (below : List Frame) (meth : Method) (c : Code) (ls : Array Slot), p.tables.exec = Jvm.exec → c.code = cc → meth.sig.returnType = ret → c.maxLocals = maxL → s.vm.findClass y.cls = some m.cls → (∀ w ∈ gd_tb, w.before av.toArray s = true) → meth.locks = false → meth.name = y.name → s.heap.size = sz → gd_Ex s → e.platform.stackTraces = false → c.exceptionTable.isEmpty = true →
      va_K D cl tys s → va_P D cl wc s.heap → va_D (va_A wc sz) wc → lv_has ls maxL (lv_args 0 av) → W p l e rm s m av.toArray below meth c s.heap [] 0 0 (gd_MT below s cls (va_A wc sz) mc ms (fun t => gd_Post D cl tys (va_A wc sz) w1 t ∧ va_F (va_A wc sz) s t)) (F0 m 0 ls [])) :
    gd_MetT l y ws rm (va_Pc av (gd_PreE gd_Ex D cl tys wc sz)) cls (fun s t => gd_Post D cl tys (va_A wc sz) w1 t ∧ va_F (va_A wc sz) s t) mc ms (va_A wc sz) := by
  refine MetFree.of_bodyS (code := cc) (maxLocals := maxL) (ret := ret) hy ?_ ?_
  · intro args s m h hn
    obtain ⟨meth, c, h1, h2, h3, h4, h5, h6, -, -⟩ := Cond.code_spec hn (atoms_spec (ws := ws) h _ (by rw [hw]; exact List.mem_cons_self))
    exact ⟨meth, c, h1, h2, h3, h4, h5, h6⟩
  · intro p e s m args below meth c s₁ B hml hv _
    obtain ⟨rfl, ⟨hsz, hP, hK, hD0⟩, hE⟩ := hv
    have hl := lv_entry av (n := maxL) hn
    have hts := atoms_spec (ws := ws) B.pre
    have hh0 : s₁.heap = s.heap := by rw [B.state]; rfl
    have X0 := Stand.of_body B
    have htr : e.platform.stackTraces = false := Launch.traces_off hfl X0.admits
    have hno : c.exceptionTable.isEmpty = true := B.noHandlers (hts _ (by rw [hw]; exact List.mem_cons_self))
    have K := body p e s m below meth c _ B.exec B.bytes B.returns hml (findClass_of_methodNamed B.named) (fun w h => hts w (by rw [hw]; exact List.mem_cons_of_mem _ h)) B.notSynchronized (name_of_methodNamed B.named B.method).1 hsz hE htr hno hK hP hD0.self hl
    rw [← lg_entry_eq] at K
    obtain ⟨t, a1, x, cell, L, b1, b2, b3⟩ := K s₁ hh0 X0
    exact ⟨t, .threw x, a1, b1, b2, x, cell, L, rfl, b3⟩
section GTC
variable {p : Program} {l : Launch} {e : Env} {R : Room} {s : State} {m : MethodId} {args : Array Value} {below : List Frame} {meth : Method} {c : Code} {H : Heap} {locs : List Loc} {cells slots : Nat} {Q : State → Prop}
variable {cc bytes : ByteArray} {nL maxL index n mc ms : Nat} {own C cls : String} {y : MethodName} {ret : Option FieldType} {Ts ws : List Cond} {rm : Room} {Pc : Array Value → State → Prop} {B : State → State → Prop} {A : Nat → Prop} {b : Addr} {As rest : List Value} {g : JFrame}
/-- a call of a method that throws, up to the throw in the caller's frame -/
theorem gd_runT (S : CallFix p m c cc nL s args Ts own) (hM : gd_MetT l y ws rm Pc cls B mc ms A) (cw : CallW R s args own C index y bytes maxL ret ws rm mc ms n) (hp : PreV s H C b Pc As)
    (hg : g.method = m) (hn : As.length = n) (hsize : g.locals.size = nL) (hstack : g.stack = As.reverse ++ .ref b :: rest) (hW : 2 * g.monitorRoom + (rest.map fun v => v.category).sum ≤ 8) (hdg : decode cc g.pc = .ok (.invokevirtual index, 3)) (hf : cells + mc ≤ R.cells ∧ slots + ms ≤ R.slots) :
    ∀ T : State, T.heap = H → Stand p l e R s m args below meth c T locs cells slots → ∃ (x : Addr) (cell : Cell) (st₀ t T' : State) (L : List Loc), st₀.heap = H ∧ st₀.vm.Alike s.vm ∧ Stand p l e R s m args below meth c T' (locs ++ L) (cells + mc) (slots + ms) ∧ (∀ q ∈ L, A q.base) ∧ T'.heap = t.heap ∧ T'.vm = t.vm ∧ t.heap[x]? = some cell ∧ s.vm.findClass cls = some cell.cls ∧ cell.vm = .none ∧ B st₀ t ∧
      ∀ target, Steps p.tables e below ((T'.setTop { g with stack := rest }).pushFrame (.throwing x)) target → Steps p.tables e below (T.setTop g) target := by
  obtain ⟨⟨hrc, hrs, hfr, hlo, hws, hcw, hcode, hini, hy, hlen, hl⟩, hin, hse⟩ := cw
  obtain ⟨hx, hb, hml, ho, -⟩ := S
  obtain ⟨hbl, ⟨cellB, hcB, hoB, hclB⟩, hPc⟩ := hp
  intro T hT X
  obtain ⟨mk, methM, hnamed, hmethM, hstM, habM⟩ := Cond.instanceMethod_spec hin
  obtain ⟨methM', cM, hmethM', hcM, -, hlM, -, -, -, hsigM⟩ := Cond.code_spec hnamed hcode
  cases hmethM.symm.trans hmethM'
  obtain ⟨c2, r2, m2, q1, q2, q3, q4, kP, hkP, hkPi⟩ := Cond.selects_spec hse
  cases hclB.symm.trans q1
  cases (State.methodFound?_of_named hnamed hy).symm.trans q2
  cases hnamed.symm.trans q3
  have hselP : selectMethod e.platform s.vm cellB.cls mk = .method mk := by rw [Launch.admits_selectMethod X.admits]; exact q4
  obtain ⟨vm₁, X₁, hstep₁⟩ := X.invokevirtual hx ho hl hnamed hmethM hstM hkP hkPi hy (a := b) (cell := cellB) (by rw [hT]; exact hcB)
    (fun z h => by rw [h] at hoB; cases hoB) hselP hmethM habM hkP hkPi (g := g) hg (argsL := As) (rest := rest) (hn.trans (hlen _ hsigM)) hstack (by rw [hb]; exact hdg)
  generalize hU : T.setVm vm₁ = U at X₁ hstep₁
  have hUh : U.heap = H := by rw [← hU]; exact hT
  have hnU : U.methodNamed? y = some mk := X₁.named hnamed
  have h2 := hws _ hcw (Value.ref b :: As).toArray U X₁.warmed
  obtain ⟨methY, cY, hmY, hcY, -, hlY, -, -, -, -⟩ := Cond.code_spec hnU h2
  obtain ⟨kY, hkY, -⟩ := className_of_methodNamed hnU
  have hinitY : kY.init = .initialized := Cond.initialized_spec (findClass_of_methodNamed hnU) hkY (word_at (a' := args) X₁.warmed (Or.inl (by first | rfl | simp [Cond.onTables, Cond.keeps, Cond.steady])) hini)
  have hat : At U ({ g with stack := rest } : JFrame).method c below := by
    show At U g.method c below
    rw [hg]; exact X₁.here
  have happ : (headSpec ws rm).appliesLoose y e.platform (U.calling { g with stack := rest } mk (Value.ref b :: As).toArray) = true :=
    Spec.appliesLoose_calling (g := { g with stack := rest }) (ig := .invokevirtual index) (len := 3) hat (by rw [hb]; exact hdg) hnU hkY hinitY
      (X₁.room_calling (g := { g with stack := rest }) (R' := rm) (hsize.trans hml.symm) hmY hcY hfr (by rw [hlY]; have h9 := hW; dsimp only; omega) (by rw [hrc]; exact hf.1) (by rw [hrs]; exact hf.2)) (atoms_intro fun w hw => hws w hw _ _ X₁.warmed)
  obtain ⟨mid, hmid⟩ := hat.above
  have hfr2 : (U.setTop { g with stack := rest }).frames = (.java { g with stack := rest } :: mid) ++ below := by rw [State.frames_setTop' _ hat.top, hmid]; rfl
  obtain ⟨o, s₂, hsteps, -, hend, hq⟩ := Steps.callFree hM p X.admits X.cas X.clock (acts := []) hfr2 happ (hbl _ _ _ _ (hPc U hUh X₁.warmed)) trivial
  have hq' : ∃ (x : Addr) (cell : Cell) (L : List Loc), o = .threw x ∧ (U.calling { g with stack := rest } mk (Value.ref b :: As).toArray).WarmedH s₂.vm ∧ (U.calling { g with stack := rest } mk (Value.ref b :: As).toArray).sameButNew ({ s₂ with vm := (U.calling { g with stack := rest } mk (Value.ref b :: As).toArray).vm } : State) L mc ms ∧ (∀ q ∈ L, A q.base) ∧ s₂.heap[x]? = some cell ∧ (U.calling { g with stack := rest } mk (Value.ref b :: As).toArray).vm.findClass cls = some cell.cls ∧ cell.vm = .none ∧ B (U.calling { g with stack := rest } mk (Value.ref b :: As).toArray) s₂ := hq
  obtain ⟨x, cell, L, rfl, w1, w2, w3, w4, w5, w6, w7⟩ := hq'
  rw [State.frames_setTop' _ hat.top] at hend
  have htl : U.frames.tail = below := X₁.tail
  rw [htl] at hend
  obtain ⟨T', X', hW', hsame', hs2⟩ := X₁.outOfThrown (g := { g with stack := rest }) hg (mk := mk) (a := (Value.ref b :: As).toArray) hend w1 w2
  have hT'h : T'.heap = s₂.heap := by rw [hs2]; rw [Stand.throwing_heap]
  have hT'v : T'.vm = s₂.vm := by rw [hs2]; rw [Stand.throwing_vm]
  have w5' : s.vm.findClass cls = some cell.cls := by
    have h9 : U.vm.findClass cls = some cell.cls := w5
    rw [X₁.warmed.alike.findClass] at h9
    exact h9
  refine ⟨x, cell, U.calling { g with stack := rest } mk (Value.ref b :: As).toArray, s₂, T', L, hUh, X₁.warmed.alike.symm, X', w3, hT'h, hT'v, w4, w5', w6, w7, fun target ht => ?_⟩
  rw [← hs2] at ht
  exact hstep₁ _ fun acts => by rw [doInvoke_state]; exact hsteps.trans ht
end GTC
