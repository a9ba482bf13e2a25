section GTH
variable {p : Program} {l : Launch} {e : Env} {R : Room} {s : State} {m : MethodId} {args : Array Value} {below : List Frame} {meth : Method} {c : Code} {T : State} {locs : List Loc} {cells slots : Nat}
/-- the same walk, counted from here -/
theorem gd_rebase (X : Stand p l e R s m args below meth c T locs cells slots) {a b : Nat} (ha : cells + a ≤ R.cells) (hb : slots + b ≤ R.slots) :
    Stand p l e { R with cells := a, slots := b } ({ s with heap := T.heap, slotsUsed := T.slotsUsed } : State) m args below meth c T [] 0 0 := by
  obtain ⟨r1, r2⟩ := X.roomAbove ha hb
  have hbook := X.book
  have hroom := X.room
  refine ⟨X.admits, X.cas, X.clock, X.frames, ?_, X.hears, X.method, X.code, X.here, X.tail, X.warmed, X.limits, X.bytes, ?_⟩
  · simp only [State.hasRoom, Bool.and_eq_true, decide_eq_true_eq] at hroom ⊢
    exact ⟨⟨⟨⟨hroom.1.1.1.1, hroom.1.1.1.2⟩, r1⟩, r2⟩, hbook⟩
  · obtain ⟨e1, -⟩ := X.same
    refine ⟨?_, Nat.le_refl _, Nat.le_refl _, ?_, ?_, ?_⟩
    · exact e1
    · show T.slotsUsed = T.slotsUsed + ((T.heap.toList.drop T.heap.size).map _).sum
      rw [List.drop_eq_nil_of_le (by simp)]
      rfl
    · show ((T.heap.toList.drop T.heap.size).map _).sum ≤ 0
      rw [List.drop_eq_nil_of_le (by simp)]
      exact Nat.le_refl _
    · intro q cell hq
      exact ⟨cell, hq, rfl, rfl, fun _ _ => rfl⟩
/-- a method's end by a throw of a new object of the class cls -/
def gd_MT (below : List Frame) (s : State) (cls : String) (A : Nat → Prop) (mc ms : Nat) (B : State → Prop) : State → Prop := fun t => ∃ (x : Addr) (cell : Cell) (L : List Loc), t.status = .running ∧ Ended t below (.threw x) ∧ s.WarmedH t.vm ∧ s.sameButNew ({ t with vm := s.vm } : State) L mc ms ∧ (∀ q ∈ L, A q.base) ∧ t.heap[x]? = some cell ∧ s.vm.findClass cls = some cell.cls ∧ cell.vm = .none ∧ B t
theorem gd_cellEq {c c' : Cell} (h1 : c' = { c with slots := c'.slots }) (h2 : c'.slots.size = c.slots.size) (h3 : ∀ i : Nat, c'.slots[i]? = c.slots[i]?) : c' = c := by
  have e : c'.slots = c.slots := Array.ext_getElem? h3
  rw [h1, e]
theorem gd_throw {H : Heap} {cc : ByteArray} {pc : Nat} {ls : Array Slot} {D : va_G} {cl : List vw_C} {tys : List (ClassId × FieldType)} {ws w1 wc : va_W} {A : Nat → Prop} {cls text : String} {ic ik ix : Nat}
    (hx : p.tables.exec = Jvm.exec) (hb : c.code = cc) (hown : s.vm.findClass R_X = some m.cls) (htr : e.platform.stackTraces = false) (hno : c.exceptionTable.isEmpty = true) (hEx : gd_Ex s) (hlocks : meth.locks = false)
    (hoa : ∀ w ∈ gd_oa ic cls, w ∈ lw_tbl ∧ gd_wk w = true) (hfit : Bundle.fit cls = true) (hwl : (Cond.classLink R_X ik cls) ∈ lw_tbl ∧ (Cond.initialized cls) ∈ lw_tbl ∧ (Cond.stringRef R_X ix text) ∈ lw_tbl)
    (hK : va_K D cl tys s) (hP0 : va_P D cl wc s.heap) (hAe : va_A wc s.heap.size = A) (hP : va_P D cl ws H) (hD : va_D A ws) (hS : va_S A s.heap H locs) (is : List Nat) (hn : va_nd is = true) (hs : is.map (fun i => ws[i]?) = w1.map some)
    (hc1 : cells + 1 ≤ R.cells) (hs6 : slots + 6 ≤ R.slots) (hf : 5 < R.frames) (hlo : 90 ≤ R.locals) (hsize : ls.size = c.maxLocals)
    (d1 : decode cc pc = .ok (.new ik, 3)) (d2 : decode cc (pc + 3) = .ok (.dup, 1)) (d3 : decode cc (pc + 4) = .ok (.ldc ix, 2)) (d4 : decode cc (pc + 6) = .ok (.invokespecial ic, 3)) (d5 : decode cc (pc + 9) = .ok (.athrow, 1)) :
    W p l e R s m args below meth c H locs cells slots (gd_MT below s cls A (cells + 1) (slots + 6) (fun t => gd_Post D cl tys A w1 t ∧ va_F A s t)) (F0 m pc ls []) := by
  intro T hT X
  subst hb
  have X' := gd_rebase X (a := 1) (b := 6) hc1 hs6
  have hE' : gd_Ex ({ s with heap := T.heap, slotsUsed := T.slotsUsed } : State) := hEx.move (State.WarmedH.refl _) (fun q cell hq hst => by
    show T.heap[q]? = some cell
    rw [hT]; exact gd_stat hP0 hAe hS q cell hq hst)
  generalize hs' : ({ s with heap := T.heap, slotsUsed := T.slotsUsed } : State) = s' at X' hE'
  have hvm : s'.vm = s.vm := by rw [← hs']
  have hheap : s'.heap = H := by rw [← hs']; exact hT
  have hown' : s'.vm.findClass R_X = some m.cls := by rw [hvm]; exact hown
  have hwo := gd_own hoa hE' args
  obtain ⟨vm₁, cX, kX, hfX, hkX, -, -, X₁, st1⟩ := X'.newCold hx (own := R_X) (C := cls) (index := ik) (n := 6) hown' (hE'.word hwl.1 rfl args) (hwo _ (by simp [Bundle.ownAtoms])) (hE'.word hwl.2.1 rfl args)
    (g := F0 m pc ls []) rfl d1 (Nat.le_refl _) (by simp)
  have hTs : T.heap.size = s'.heap.size := by rw [hheap, hT]
  generalize hT2 : (T.setVm vm₁).pushCell { cls := cX, slots := kX.instanceTypes.map defaultValue, vm := .none } = T2 at X₁ st1
  have hcellA : T2.heap[T.heap.size]? = some (freshCell cX kX) := by rw [← hT2]; exact State.heap_pushCell_size _ _
  have hconst := hE'.word hwl.2.2 rfl args
  obtain ⟨-, -, -, sa, -, -, -, -, -, hev⟩ := Cond.stringRef_spec hown' hconst
  obtain ⟨U, hsteps, hrun, hend, hW, hsame, ce, hce, K⟩ := X₁.ctorThrowS hx htr (own := R_X) (cls := cls) (names := gd_up) (ic := ic) hown' hfit (by decide +kernel)
    hwo (fun y hy => by cases hy) hfX hkX hcellA (by rw [hTs]; exact Nat.le_refl _) (msg := .ref sa) rfl
    (g := F0 m (pc + 6) ls [.ref sa, .ref T.heap.size, .ref T.heap.size]) rfl hsize rfl rfl (rest := []) rfl d4 d5 (covers_of_empty hno _) (by simpa [gd_up] using hf) (by simp [gd_up, JFrame.monitorRoom, Value.category]; omega) hlocks
  have hkeep : ∀ (q : Nat) (cell : Cell), H[q]? = some cell → U.heap[q]? = some cell := by
    intro q cell hq
    obtain ⟨c', g1, g2, g3, g4⟩ := hsame.2.2.2.2.2 q cell (by rw [hheap]; exact hq)
    rw [gd_cellEq g2 g3 (fun i => g4 i (by simp))] at g1
    exact g1
  have hsz : H.size ≤ U.heap.size := by
    have h9 : s'.heap.size ≤ U.heap.size := hsame.2.1
    rw [hheap] at h9
    exact h9
  have hkq : ∀ q, q < H.size → U.heap[q]? = H[q]? := by
    intro q hq
    rw [hkeep q H[q] (Array.getElem?_eq_getElem hq), Array.getElem?_eq_getElem hq]
  refine ⟨U, ?_, T.heap.size, ce, locs ++ [], hrun, hend, ?_, ?_, ?_, hce, ?_, K.vm, ⟨?_, ?_, ?_⟩, ?_, ?_⟩
  · refine st1 _ ?_
    show Steps p.tables e below (T2.setTop (F0 m (pc + 3) ls [.ref T.heap.size])) _
    jvm_step X₁.here [X₁.here.top, hx, d2, Value.category]
    exact X₁.ldcString hx (own := R_X) (text := text) (index := ix) (a := sa) hown' hconst hev (g := F0 m (pc + 4) ls [.ref T.heap.size, .ref T.heap.size]) rfl d3 _ hsteps
  · rw [← hs'] at hW
    exact hW
  · rw [← hs'] at hsame
    obtain ⟨q1, q2⟩ := hsame
    refine X.same.trans (t := T.setVm s.vm) ⟨?_, q2⟩
    obtain ⟨e1, -⟩ := X.same
    refine q1.trans ?_
    rw [e1]
    show _ = ({ ((s.setFrames (T.setVm s.vm).frames)).setFrames U.frames with heap := U.heap, slotsUsed := U.slotsUsed } : State)
    rw [State.setFrames_setFrames]
    rfl
  · intro q hq
    rw [List.append_nil] at hq
    exact hS.2.2 q hq
  · have := K.cls
    rw [hvm] at this
    exact this
  · exact (hP.kept (fun k q hk => hkq q.1 ((hP k q hk).lt))).sub is (gd_fm _ _ _ hs)
  · rw [← hs'] at hW
    exact va_K.moved (u := s) (U := U) hW.alike hK
  · exact hD.sub is hn hs
  · exact Nat.le_trans hS.1 hsz
  · intro q h1 h2
    rw [hkq q (Nat.lt_of_lt_of_le h1 hS.1)]
    exact hS.2.1 q h1 h2
end GTH
