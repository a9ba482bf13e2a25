/-! a handler whose class is not yet resolved in the tables: found as after the resolution -/
section GCA
variable {E : CtlPost} {e : Env} {d : Bool} {acts : List Action} {s : State} {f : JFrame} {a : Addr} {Q : Handler → Jvm.Pre}
theorem gd_goCold {x : ExceptionTableEntry} {t : List ExceptionTableEntry} {c : ClassId} {vm' : Vm} (hx : covers x f.pc = true) (h0 : x.catchType ≠ 0)
    (hg : (Jvm.resolveClass f.method.cls x.catchType).Gives e.toSetting s.vm (.ok c) vm') (hr : vm'.classReady f.method.cls x.catchType c) (hsz : vm'.classes.size ≤ s.vm.classes.size := by no_record) :
    Sem.wp (findHandler.go f a (x :: t)) Q E e d acts s ↔ Sem.wp (findHandler.go f a (x :: t)) Q E e d acts (s.setVm vm') := by
  simp only [covers] at hx
  obtain ⟨ha, ht⟩ := hg.op (op := VmOp.resolveClass f.method.cls x.catchType) rfl
  obtain ⟨k, hkd, hres⟩ := hr
  have e9 : (s.setVm vm').setVm vm' = s.setVm vm' := rfl
  simp [findHandler.go, hx, h0, ha, ht, hsz, resolveClass_memo e hkd hres, VmOp.dirties, VmOp.acts, e9]
/-- what the search through a table gives, and the tables that it leaves -/
def gd_Go (e : Env) (s : State) (f : JFrame) (a : Addr) (tb : List ExceptionTableEntry) (h : Handler) (vm' : Vm) : Prop :=
  ∀ (Q : Handler → Jvm.Pre) (E : CtlPost) (d : Bool) (acts : List Action), Sem.wp (findHandler.go f a tb) Q E e d acts s ↔ Q h d acts (s.setVm vm')
theorem gd_go_hit {x : ExceptionTableEntry} {t : List ExceptionTableEntry} {c : ClassId} {vm' : Vm} {cell : Cell} (hx : covers x f.pc = true) (h0 : x.catchType ≠ 0)
    (hg : (Jvm.resolveClass f.method.cls x.catchType).Gives e.toSetting s.vm (.ok c) vm') (hr : vm'.classReady f.method.cls x.catchType c) (hsz : vm'.classes.size ≤ s.vm.classes.size)
    (hcell : s.heap[a]? = some cell) (hobj : ∀ k, cell.vm ≠ .statics k) (hk : ∃ k, vm'.classes[cell.cls]? = some k) (hc : ∃ k, vm'.classes[c]? = some k) (hfit : vm'.assignable cell.cls c = true) : gd_Go e s f a (x :: t) (.found x.handlerPc) vm' := by
  intro Q E d acts
  rw [gd_goCold hx h0 hg hr hsz, W.findHandler_go_class (s := s.setVm vm') (c := c) (cell := cell) hx h0 hr hcell hobj hk hc, if_pos (show (s.setVm vm').vm.assignable cell.cls c = true from hfit)]
theorem gd_go_miss {x : ExceptionTableEntry} {t : List ExceptionTableEntry} {c : ClassId} {vm' vm2 : Vm} {cell : Cell} {h : Handler} (hx : covers x f.pc = true) (h0 : x.catchType ≠ 0)
    (hg : (Jvm.resolveClass f.method.cls x.catchType).Gives e.toSetting s.vm (.ok c) vm') (hr : vm'.classReady f.method.cls x.catchType c) (hsz : vm'.classes.size ≤ s.vm.classes.size)
    (hcell : s.heap[a]? = some cell) (hobj : ∀ k, cell.vm ≠ .statics k) (hk : ∃ k, vm'.classes[cell.cls]? = some k) (hc : ∃ k, vm'.classes[c]? = some k) (hfit : vm'.assignable cell.cls c = false) (hrest : gd_Go e (s.setVm vm') f a t h vm2) : gd_Go e s f a (x :: t) h vm2 := by
  intro Q E d acts
  rw [gd_goCold hx h0 hg hr hsz, W.findHandler_go_class (s := s.setVm vm') (c := c) (cell := cell) hx h0 hr hcell hobj hk hc, if_neg (show ¬ (s.setVm vm').vm.assignable cell.cls c = true from by rw [show (s.setVm vm').vm.assignable cell.cls c = false from hfit]; decide)]
  exact hrest Q E d acts
theorem gd_stepCatch {r : List Frame} {pc : Nat} {meth : Method} {code : Code} {vm' : Vm} (hm : s.vm.method? f.method = some meth) (hc : meth.code = some code) (hfind : gd_Go e s f a code.exceptionTable.toList (.found pc) vm') :
    (stepThrowing e s a (.java f :: r)).Is ((s.setVm vm').setFrames (.java { f with pc := pc, stack := [.ref a] } :: r)) [] := by
  simp only [stepThrowing, searchFrame, vmDo]
  generalize hr : Sem.go _ e false [] s = res
  have hfind' : ∀ (Q : Handler → Jvm.Pre) (E : CtlPost) (d : Bool) (acts : List Action), Sem.wp (findHandler f a) Q E e d acts s ↔ Q (.found pc) d acts (s.setVm vm') := fun Q E d acts => by
    rw [W.findHandler_eq hm hc]
    exact hfind Q E d acts
  obtain ⟨as, rfl, ha⟩ := Sem.eq_ok_of hr (a := Handler.found pc) (s' := s.setVm vm') (acts' := []) (by simp [hfind' _ _ _ _])
  exact ⟨rfl, ha⟩
theorem gd_caught {tb : Tables} {g : JFrame} {c : Code} {below : List Frame} {target : State} {meth : Method} {code : Code} {vm' : Vm} (h : At s g.method c below) {pc : Nat} (hm : s.vm.method? g.method = some meth) (hc : meth.code = some code)
    (hfind : gd_Go e ((s.setTop g).pushFrame (.throwing a)) g a code.exceptionTable.toList (.found pc) vm')
    (hrest : Steps tb e below ((s.setVm vm').setTop { g with pc := pc, stack := [.ref a] }) target) :
    Steps tb e below ((s.setTop g).pushFrame (.throwing a)) target := by
  obtain ⟨hgo, hw⟩ := h.throwing a
  refine Steps.head hgo hw ?_
  rw [stepThread_throwing (frames_entered h.top _), (gd_stepCatch (s := (s.setTop g).pushFrame (.throwing a)) (by rw [Stand.throwing_vm]; exact hm) hc hfind).1]
  obtain ⟨g₀, hg⟩ := Option.isSome_iff_exists.mp h.top
  obtain ⟨r, hr⟩ := State.topJava?_eq_some.mp hg
  have hr2 : (s.setVm vm').frames = .java g₀ :: r := hr
  rw [State.setTop_of_frames _ hr2] at hrest
  have e9 : (((s.setTop g).pushFrame (.throwing a)).setVm vm').setFrames (.java { g with pc := pc, stack := [.ref a] } :: s.frames.tail) = (s.setVm vm').setFrames (.java { g with pc := pc, stack := [.ref a] } :: r) := by
    rw [State.pushFrame, State.setTop_of_frames _ hr, State.setFrames_setFrames, hr]
    show (((s.setFrames _).setVm vm').setFrames _) = _
    rw [show ∀ (u : State) (fs : List Frame), (u.setFrames fs).setVm vm' = (u.setVm vm').setFrames fs from fun _ _ => rfl, State.setFrames_setFrames]
    rfl
  rw [e9]
  exact hrest
end GCA
