/-! constructors: what a state keeps beside the words: the four links of nest mates -/
def gd_N4 (U : State) : Prop := va_Nw (.methodLinkNest R_X 11 y_G_init R_X) U ∧ va_Nw (.methodLinkNest R_X 18 y_W_init R_X) U ∧ va_Nw (.methodLinkNest R_X 25 y_B_init R_X) U ∧ va_Nw (.methodLinkNest R_X 32 y_R_init R_X) U
theorem gd_N4.warm {s U : State} (hW : s.WarmedH U.vm) (h : gd_N4 s) : gd_N4 U := ⟨va_Nw.warmM hW h.1, va_Nw.warmM hW h.2.1, va_Nw.warmM hW h.2.2.1, va_Nw.warmM hW h.2.2.2⟩
theorem gd_N4.same {u U : State} (e : u.vm = U.vm) (h : gd_N4 u) : gd_N4 U := ⟨va_Nw.same rfl e h.1, va_Nw.same rfl e h.2.1, va_Nw.same rfl e h.2.2.1, va_Nw.same rfl e h.2.2.2⟩
def gd_PreE (Ex : State → Prop) (D : va_G) (cl : List vw_C) (tys : List (ClassId × FieldType)) (ws : va_W) (sz : Nat) (U : State) : Prop := gd_Pre D cl tys ws sz U ∧ Ex U
theorem gd_blindN {D : va_G} {cl : List vw_C} {tys : List (ClassId × FieldType)} {ws : va_W} {sz : Nat} {av : List Value} : FrameBlind (va_Pc av (gd_PreE gd_N4 D cl tys ws sz)) := by
  intro a U g mk h
  obtain ⟨q0, q1, q2⟩ := h
  exact ⟨q0, (gd_blind (av := av) a U g mk ⟨q0, q1⟩).2, q2.same rfl⟩
theorem gd_metE {l : Launch} {y : MethodName} {ws : List Cond} {rm : Room} {Qc : Array Value → State → Outcome → State → Prop} {mc ms : Nat} {cc : ByteArray} {maxL : Nat} {ret : Option FieldType} {D : va_G} {cl : List vw_C} {tys : List (ClassId × FieldType)} {wc : va_W} {sz : Nat} {av : List Value} {Ex : State → Prop}
    (hy : plainName y.cls = true) (hw : ws = Cond.code y cc maxL ret :: gd_tb) (hn : (lg_sl av).length ≤ maxL)
    (body : ∀ (p : Program) (e : Env) (s : State) (m : MethodId) (below : List Frame) (meth : Method) (c : Code) (ls : Array Slot), p.tables.exec = Jvm.exec → c.code = cc → meth.sig.returnType = ret → c.maxLocals = maxL → s.vm.findClass y.cls = some m.cls → (∀ w ∈ gd_tb, w.before av.toArray s = true) → meth.locks = false → meth.name = y.name → s.heap.size = sz → Ex s →
      va_K D cl tys s → va_P D cl wc s.heap → va_D (va_A wc sz) wc → lv_has ls maxL (lv_args 0 av) → W p l e rm s m av.toArray below meth c s.heap [] 0 0 (MQ below Qc av.toArray s mc ms (va_A wc sz)) (F0 m 0 ls [])) :
    Met l y ws rm (va_Pc av (gd_PreE Ex D cl tys wc sz)) Qc mc ms (va_A wc sz) := by
  refine Met.ofW (cc := cc) (maxL := maxL) (ret := ret) hy hw ?_
  intro p e s m args below meth c s₁ B hml hv
  obtain ⟨rfl, ⟨hsz, hP, hK, hD0⟩, hE⟩ := hv
  have hl := lv_entry av (n := maxL) hn
  have hts := atoms_spec (ws := ws) B.pre
  rw [lg_entry_eq]
  exact body p e s m below meth c _ B.exec B.bytes B.returns hml (findClass_of_methodNamed B.named) (fun w h => hts w (by rw [hw]; exact List.mem_cons_of_mem _ h)) B.notSynchronized (name_of_methodNamed B.named B.method).1 hsz hE hK hP hD0.self hl
theorem gd_dv_G (j : Nat) (hj : j < 7) : defaultValue (t_G j) = vp_V [.null, .null, .null, .int 0, .int 0, .int 0, .int 0] j := by
  rcases (show j = 0 ∨ j = 1 ∨ j = 2 ∨ j = 3 ∨ j = 4 ∨ j = 5 ∨ j = 6 by omega) with rfl | rfl | rfl | rfl | rfl | rfl | rfl <;> rfl
theorem gd_dv_W (j : Nat) (hj : j < 13) : defaultValue (t_W j) = vp_V [.null, .null, .null, .null, .null, .int 0, .int 0, .int 0, .int 0, .int 0, .int 0, .long 0, .long 0] j := by
  rcases (show j = 0 ∨ j = 1 ∨ j = 2 ∨ j = 3 ∨ j = 4 ∨ j = 5 ∨ j = 6 ∨ j = 7 ∨ j = 8 ∨ j = 9 ∨ j = 10 ∨ j = 11 ∨ j = 12 by omega) with rfl | rfl | rfl | rfl | rfl | rfl | rfl | rfl | rfl | rfl | rfl | rfl | rfl <;> rfl
theorem gd_dv_B (j : Nat) (hj : j < 9) : defaultValue (t_B j) = vp_V [.null, .null, .null, .null, .null, .null, .int 0, .long 0, .int 0] j := by
  rcases (show j = 0 ∨ j = 1 ∨ j = 2 ∨ j = 3 ∨ j = 4 ∨ j = 5 ∨ j = 6 ∨ j = 7 ∨ j = 8 by omega) with rfl | rfl | rfl | rfl | rfl | rfl | rfl | rfl | rfl <;> rfl
theorem gd_dv_R (j : Nat) (hj : j < 7) : defaultValue (t_R j) = vp_V [.null, .null, .null, .null, .int 0, .int 0, .long 0] j := by
  rcases (show j = 0 ∨ j = 1 ∨ j = 2 ∨ j = 3 ∨ j = 4 ∨ j = 5 ∨ j = 6 by omega) with rfl | rfl | rfl | rfl | rfl | rfl | rfl <;> rfl
theorem gd_dv_X (j : Nat) (hj : j < 4) : defaultValue (t_X j) = vp_V [.null, .null, .null, .null] j := by
  rcases (show j = 0 ∨ j = 1 ∨ j = 2 ∨ j = 3 by omega) with rfl | rfl | rfl | rfl <;> rfl
theorem gd_dv_M (j : Nat) (hj : j < 26) : defaultValue (t_M j) = vp_V [.int 0, .int 0, .int 0, .int 0, .null, .null, .null, .int 0, .int 0, .int 0, .int 0, .long 0, .long 0, .null, .null, .null, .null, .null, .int 0, .null, .null, .null, .null, .null, .int 0, .long 0] j := by
  rcases (show j = 0 ∨ j = 1 ∨ j = 2 ∨ j = 3 ∨ j = 4 ∨ j = 5 ∨ j = 6 ∨ j = 7 ∨ j = 8 ∨ j = 9 ∨ j = 10 ∨ j = 11 ∨ j = 12 ∨ j = 13 ∨ j = 14 ∨ j = 15 ∨ j = 16 ∨ j = 17 ∨ j = 18 ∨ j = 19 ∨ j = 20 ∨ j = 21 ∨ j = 22 ∨ j = 23 ∨ j = 24 ∨ j = 25 by omega) with rfl | rfl | rfl | rfl | rfl | rfl | rfl | rfl | rfl | rfl | rfl | rfl | rfl | rfl | rfl | rfl | rfl | rfl | rfl | rfl | rfl | rfl | rfl | rfl | rfl | rfl <;> rfl
