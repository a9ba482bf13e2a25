section GLR
variable {p : Program} {l : Launch} {e : Env} {R : Room} {s : State} {m : MethodId} {args : Array Value} {below : List Frame} {meth : Method} {c : Code} {H : Heap} {locs : List Loc} {cells slots : Nat} {Q : State → Prop}
variable {cc bytes : ByteArray} {nL maxL index n mc ms : Nat} {own C cls : String} {y : MethodName} {ret : Option FieldType} {Ts ws0 : List Cond} {rm : Room} {Pc : Array Value → State → Prop} {b : Addr} {As rest st0 : List Value}
variable {pc : Nat} {ls : Array Slot} {D : va_G} {cl : List vw_C} {tys : List (ClassId × FieldType)} {ws wc wr w1 : va_W} {A : Nat → Prop} {H0 : Heap}
/-- a call whose throw the caller's own handler at the place h takes -/
theorem gd_kT (h : Nat) (S : CallFix p m c cc nL s args Ts own) (hM : gd_MetT l y ws0 rm Pc cls (fun s t => gd_Post D cl tys (va_A wc H.size) w1 t ∧ va_F (va_A wc H.size) s t) mc ms (va_A wc H.size)) (cw : CallW R s args own C index y bytes maxL ret ws0 rm mc ms n) (hp : PreV s H C b Pc As)
    (hn : As.length = n) (hsize : ls.size = nL) (hstack : st0 = As.reverse ++ .ref b :: rest) (hW : 2 * (F0 m pc ls st0).monitorRoom + (rest.map fun v => v.category).sum ≤ 8) (hdg : decode cc pc = .ok (.invokevirtual index, 3)) (hf : cells + mc ≤ R.cells ∧ slots + ms ≤ R.slots)
    (hP : va_P D cl ws H) (hD : va_D A ws) (hS : va_S A H0 H locs) (hA : ∀ q, H0.size ≤ q → A q) (isC isR : List Nat) (hC : isC.map (fun i => ws[i]?) = wc.map some) (hR : isR.map (fun i => ws[i]?) = wr.map some) (hnd : va_nd isR = true) (hdis : ∀ i ∈ isR, i ∉ isC)
    (hcatch : ∀ (T : State) (L : List Loc) (x : Addr) (cell : Cell), T.heap[x]? = some cell → cell.vm = .none → s.vm.findClass cls = some cell.cls → Stand p l e R s m args below meth c T L (cells + mc) (slots + ms) → ∃ vm' : Vm, Stand p l e R s m args below meth c (T.setVm vm') L (cells + mc) (slots + ms) ∧ ∀ target, Steps p.tables e below ((T.setVm vm').setTop (F0 m h ls [.ref x])) target → Steps p.tables e below ((T.setTop (F0 m pc ls rest)).pushFrame (.throwing x)) target)
    (kk : ∀ (x : Nat) (H1 : Heap) (locs1 : List Loc), va_P D cl (wr ++ w1) H1 → va_D A (wr ++ w1) → va_S A H0 H1 locs1 → W p l e R s m args below meth c H1 locs1 (cells + mc) (slots + ms) Q (F0 m h ls [.ref x])) : W p l e R s m args below meth c H locs cells slots Q (F0 m pc ls st0) := by
  have hFc := va_free (wc := wc) hD hS hA isC hC
  intro T hT X
  obtain ⟨x, cell, st, t, T', L, e1, -, X', hL, e2, e3, hce, hcl, hvm, ⟨⟨hP1, hK1, hD1⟩, hF1, hF2⟩, hgo⟩ := gd_runT (g := F0 m pc ls st0) S hM cw hp rfl hn hsize hstack hW hdg hf T hT X
  rw [e1] at hF1 hF2
  obtain ⟨vm', X2, hgo2⟩ := hcatch T' (locs ++ L) x cell (by rw [e2]; exact hce) hvm hcl X'
  obtain ⟨hP2, hD2⟩ := va_join hP hD isC isR hC hR hnd hdis hF2 hFc hP1 hD1
  have hS2 : va_S A H0 t.heap (locs ++ L) := ⟨Nat.le_trans hS.1 hF1, fun q h1 h2 => by
      rw [hF2 q (Nat.lt_of_lt_of_le h1 hS.1) (fun h9 => h2 (hFc q h9))]
      exact hS.2.1 q h1 h2, fun q hq => (List.mem_append.mp hq).elim (hS.2.2 q) (fun h9 => hFc _ (hL q h9))⟩
  obtain ⟨t2, a1, b1⟩ := kk x t.heap (locs ++ L) hP2 hD2 hS2 (T'.setVm vm') e2 X2
  exact ⟨t2, hgo t2 (hgo2 t2 a1), b1⟩
/-- a static call of a method with handlers -/
theorem gd_runSW {free : Addr → Prop} {Qc : Array Value → State → Outcome → State → Prop} {hh : List (Nat × Nat × Nat × Nat)} {g : JFrame} (S : CallFix p m c cc nL s args Ts own) (hM : Met l y ws0 rm Pc Qc mc ms free)
    (hrc : rm.cells = mc) (hrs : rm.slots = ms) (hfr : rm.frames + 1 ≤ R.frames) (hlo : 8 + (maxL + 11) + rm.locals ≤ R.locals) (hws : ∀ w ∈ ws0, ∀ (a' : Array Value) (U : State), s.WarmedH U.vm → w.before a' U = true) (hcw : Cond.codeWith y bytes maxL ret hh ∈ ws0) (hini : (Cond.initialized y.cls).before args s = true)
    (hy : y.cls ≠ "java/lang/invoke/MethodHandle" ∧ y.cls ≠ "java/lang/invoke/VarHandle") (hlen : (parseMethodDescriptor y.desc).map (fun d => d.parameters.length) = some n) (hlk : (Cond.methodLink own index y).before args s = true) (hst : (Cond.static y).before args s = true) (hp : PreS s H Pc As)
    (hg : g.method = m) (hn : As.length = n) (hsize : g.locals.size = nL) (hstack : g.stack = As.reverse ++ rest) (hW : 2 * g.monitorRoom + (rest.map fun v => v.category).sum ≤ 8) (hdg : decode cc g.pc = .ok (.invokestatic index, 3)) (hf : cells + mc ≤ R.cells ∧ slots + ms ≤ R.slots) :
    va_Run p l e R s m args below meth c H locs cells slots mc ms g rest (Qc As.toArray) (free) := by
  have hK : Back l R p e below s args y 3 8 (PreOf R mc ms Pc) (PostOf Qc mc ms free) := va_backW (bytes := bytes) (maxL := maxL) (ret := ret) (hh := hh) hM hp.1 hrc hrs hfr hlo hws hcw (fun a' U hW => word_at hW (Or.inl (by first | rfl | simp [Cond.onTables, Cond.keeps, Cond.steady])) hini)
  obtain ⟨hx, hb, hml, ho, -⟩ := S
  intro T hT X
  have hcode := hws _ hcw args s (State.WarmedH.refl _)
  obtain ⟨mk, methM, cM, hnamed, hmethM, -, -, -, -, -, -, hsigM⟩ := Cond.codeWith_spec hcode
  have hstatic : methM.isStatic = true := Cond.static_spec hnamed hmethM hst
  obtain ⟨kP, hkP, -⟩ := className_of_methodNamed hnamed
  have hinitP : kP.init = .initialized := Cond.initialized_spec (findClass_of_methodNamed hnamed) hkP hini
  have hlen2 : As.length = methM.sig.parameters.length := by
    rw [hsigM] at hlen
    exact hn.trans (Option.some.inj hlen).symm
  obtain ⟨vm₁, X₁, hstep₁⟩ := X.invokestatic hx ho hlk hnamed hmethM hstatic hkP hinitP hy (g := g) hg (argsL := As) (rest := rest) hlen2 hstack (by rw [hb]; exact hdg)
  obtain ⟨v, ⟨U', l2, c2, s2⟩, X', ⟨g', mk', t, L, e1, e2, hq, h1, hL, h2, h3⟩, hsteps⟩ := hK m meth c ⟨T.setVm vm₁, locs, cells, slots⟩ { g with stack := rest } (.invokestatic index) mk As.toArray X₁ hg (hsize.trans hml.symm) (by rw [hb]; exact hdg) hW (X₁.named hnamed) ⟨hf.1, hf.2, hp.2 (T.setVm vm₁) hT X₁.warmed⟩
  dsimp only [Pt.U, Pt.locs, Pt.cells, Pt.slots] at X' e1 e2 h1 h2 h3 hsteps
  subst h1; subst h2; subst h3
  exact ⟨v, (T.setVm vm₁).calling g' mk' As.toArray, t, U', L, hT, X', hL, e1, e2, hq, fun target h => hstep₁ _ fun acts => by rw [doInvoke_state]; exact hsteps.trans h⟩
end GLR
theorem gd_preX {s : State} {H : Heap} {locs : List Loc} {D : va_G} {cl : List vw_C} {tys : List (ClassId × FieldType)} {wc wd : va_W} {A : Nat → Prop} {sz : Nat} {av : List Value} (hE : gd_Ex s) (hP0 : va_P D cl wd s.heap) (hAe : va_A wd s.heap.size = A) (hS : va_S A s.heap H locs) (h : ∀ U : State, U.heap = H → s.WarmedH U.vm → va_Pc av (gd_Pre D cl tys wc sz) av.toArray U) :
    ∀ U : State, U.heap = H → s.WarmedH U.vm → va_Pc av (gd_PreE gd_Ex D cl tys wc sz) av.toArray U := fun U hU hW =>
  ⟨(h U hU hW).1, (h U hU hW).2, hE.move hW (fun q c hq hst => by rw [hU]; exact gd_stat hP0 hAe hS q c hq hst)⟩
theorem gd_tab1 {t : List ExceptionTableEntry} {a b h i : Nat} (ht : t.map (fun h => (h.startPc, h.endPc, h.handlerPc, h.catchType)) = [(a, b, h, i)]) : t = [⟨a, b, h, i⟩] := by
  match t, ht with
  | [x], ht =>
    obtain ⟨x1, x2, x3, x4⟩ := x
    simp only [List.map_cons, List.map_nil, List.cons.injEq, and_true, Prod.mk.injEq] at ht
    obtain ⟨rfl, rfl, rfl, rfl⟩ := ht
    rfl
theorem gd_tab2 {t : List ExceptionTableEntry} {a b h i a2 b2 h2 i2 : Nat} (ht : t.map (fun h => (h.startPc, h.endPc, h.handlerPc, h.catchType)) = [(a, b, h, i), (a2, b2, h2, i2)]) : t = [⟨a, b, h, i⟩, ⟨a2, b2, h2, i2⟩] := by
  match t, ht with
  | [x, y], ht =>
    obtain ⟨x1, x2, x3, x4⟩ := x
    obtain ⟨y1, y2, y3, y4⟩ := y
    simp only [List.map_cons, List.map_nil, List.cons.injEq, and_true, Prod.mk.injEq] at ht
    obtain ⟨⟨rfl, rfl, rfl, rfl⟩, rfl, rfl, rfl, rfl⟩ := ht
    rfl
def w_L_grow : List Cond := Cond.codeWith y_L_grow b_L_grow 3 (some .int) [(0, 8, 11, 13)] :: gd_tb
def w_L_sent : List Cond := Cond.codeWith y_L_sent b_L_sent 5 (some .int) [(0, 10, 13, 19), (0, 10, 17, 21)] :: gd_tb
theorem gd_b2 (b : Bool) : b = true ∨ b = false := by cases b <;> simp
def gm_sok (gE : Nat) (px qx : Int32) : Bool := gm_has gE px && (!decide (qx < nI 0) && decide (qx ≤ nI 2))
theorem gd_sc (bH : Bool) (gE : Nat) (px qx : Int32) : bH = false ∨ (bH = true ∧ gm_sok gE px qx = true ∧ gm_has gE px = true ∧ ¬ (qx < nI 0) ∧ qx ≤ nI 2) ∨ (bH = true ∧ gm_sok gE px qx = false ∧ ¬ (gm_has gE px = true ∧ ¬ (qx < nI 0) ∧ qx ≤ nI 2)) := by
  unfold gm_sok
  cases bH
  · exact Or.inl rfl
  · by_cases h1 : gm_has gE px = true <;> by_cases h2 : qx < nI 0 <;> by_cases h3 : qx ≤ nI 2 <;> simp [h1, h2, h3]
theorem gd_Ex.nocast {U : State} (h : gd_Ex U) {c1 c2 : ClassId} (h1 : U.vm.findClass "java/lang/IllegalArgumentException" = some c1) (h2 : U.vm.findClass "java/lang/IllegalStateException" = some c2) : U.vm.assignable c1 c2 = false := by
  obtain ⟨s0, a0, -, -, -, h4, h5, -⟩ := h
  rw [h5.alike.findClass] at h1 h2
  rw [h5.alike.assignable]
  cases hh : s0.vm.assignable c1 c2 with
  | false => rfl
  | true =>
    simp [Cond.before, Cond.holds, Cond.value, h1, h2, hh] at h4
