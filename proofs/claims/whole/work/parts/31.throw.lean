/-! what a throw needs of the state beside the words: all words of the start, its statics as they were -/
def gd_rf1 : Cond := .isRef (.static Bundle.tN "UNASSIGNED_STACK" Bundle.steD)
def gd_rf2 : Cond := .isRef (.static Bundle.tN "SUPPRESSED_SENTINEL" Bundle.listD)
def gd_Ex (U : State) : Prop := ∃ (s0 : State) (a0 : Array Value), (∀ w ∈ lw_tbl, w.before a0 s0 = true) ∧ gd_rf1.before a0 s0 = true ∧ gd_rf2.before a0 s0 = true ∧ (Cond.not (.castable "java/lang/IllegalArgumentException" "java/lang/IllegalStateException")).before a0 s0 = true ∧ s0.WarmedH U.vm ∧ ∀ (q : Nat) (c : Cell), s0.heap[q]? = some c → c.vm.isStatics = true → U.heap[q]? = some c
theorem gd_Ex.move {s U : State} (h : gd_Ex s) (hW : s.WarmedH U.vm) (hst : ∀ (q : Nat) (c : Cell), s.heap[q]? = some c → c.vm.isStatics = true → U.heap[q]? = some c) : gd_Ex U := by
  obtain ⟨s0, a0, h1, h2, h3, h4, h5, h6⟩ := h
  exact ⟨s0, a0, h1, h2, h3, h4, State.WarmedH.trans h5 hW, fun q c hq hc => hst q c (h6 q c hq hc) hc⟩
theorem gd_Ex.same {s U : State} (h : gd_Ex s) (e1 : s.vm = U.vm) (e2 : s.heap = U.heap) : gd_Ex U :=
  h.move (by rw [← e1]; exact State.WarmedH.refl _) (fun q c hq _ => by rw [← e2]; exact hq)
theorem gd_nost {D : va_G} {cl : List vw_C} {wc : va_W} {H : Heap} (hP : va_P D cl wc H) {q : Nat} (hq : va_A wc H.size q) {c : Cell} (hc : H[q]? = some c) : c.vm.isStatics = false := by
  rcases hq with ⟨k, e, hk⟩ | h
  · have h1 := hP k _ hk
    cases e with
    | inl a =>
      have h2 : H[q]? = some (vp_cell a.1 a.2) := h1
      rw [hc] at h2
      obtain rfl := Option.some.inj h2
      obtain ⟨cA, n, f⟩ := a
      rcases f with f | f | f | f | f <;> rfl
    | inr o =>
      obtain ⟨r, -, cell, g1, -, g3, -⟩ := h1
      have g1 : H[q]? = some cell := g1
      rw [hc] at g1
      obtain rfl := Option.some.inj g1
      rw [g3]; rfl
  · have := (Array.getElem?_eq_some_iff.mp hc).1
    omega
theorem gd_stat {D : va_G} {cl : List vw_C} {wc : va_W} {H0 H : Heap} {A : Nat → Prop} {locs : List Loc} (hP : va_P D cl wc H0) (hAe : va_A wc H0.size = A) (hS : va_S A H0 H locs) (q : Nat) (c : Cell) (hq : H0[q]? = some c) (hc : c.vm.isStatics = true) : H[q]? = some c := by
  rw [hS.2.1 q (Array.getElem?_eq_some_iff.mp hq).1 (fun ha => by
    rw [← hAe] at ha
    rw [gd_nost hP ha hq] at hc
    cases hc)]
  exact hq
/-- a word about a class's statics, at another state with the same statics -/
theorem gd_isRef {C n d : String} {s U : State} {a a' : Array Value} (hW : s.WarmedH U.vm) (hst : ∀ (q : Nat) (c : Cell), s.heap[q]? = some c → c.vm.isStatics = true → U.heap[q]? = some c) (h : (Cond.isRef (.static C n d)).before a s = true) : (Cond.isRef (.static C n d)).before a' U = true := by
  have h1 : (Cond.isRef (.static C n d)).before a (s.setVm U.vm) = true := Cond.holds_shifted (State.Shifted.of_warmed hW) _ [] rfl h
  have e : U.fieldNamed? C n d true = (s.setVm U.vm).fieldNamed? C n d true := rfl
  simp only [Cond.before, Cond.holds, Cond.value, Term.eval] at h1 ⊢
  rw [e]
  cases hf : (s.setVm U.vm).fieldNamed? C n d true with
  | none => simp [hf] at h1
  | some x =>
    obtain ⟨c, k, sl⟩ := x
    cases hk : k.statics with
    | none => simp [hf, hk] at h1
    | some q =>
      cases hq : s.heap[q]? with
      | none => simp [hf, hk, hq] at h1
      | some cell =>
        cases hs : cell.vm.isStatics with
        | false => simp [hf, hk, hq, hs] at h1
        | true => simpa [hf, hk, hq, hs, hst q cell hq hs] using h1
theorem gd_laysS {C n d : String} {s U : State} {a a' : Array Value} (hW : s.WarmedH U.vm) (hst : ∀ (q : Nat) (c : Cell), s.heap[q]? = some c → c.vm.isStatics = true → U.heap[q]? = some c) (h : (Cond.laysStatic C n d).before a s = true) : (Cond.laysStatic C n d).before a' U = true := by
  have h1 : (Cond.laysStatic C n d).before a (s.setVm U.vm) = true := Cond.holds_shifted (State.Shifted.of_warmed hW) _ [] rfl h
  have e : U.fieldFound? C n d = (s.setVm U.vm).fieldFound? C n d := rfl
  simp only [Cond.before, Cond.holds, Cond.value] at h1 ⊢
  rw [e]
  cases hc : U.vm.findClass C with
  | none => simp [hc] at h1
  | some c0 =>
    cases hf : (s.setVm U.vm).fieldFound? C n d with
    | none => simp [hc, hf] at h1
    | some x =>
      obtain ⟨c, k, i, f⟩ := x
      cases hk : k.statics with
      | none => simp [hc, hf, hk] at h1
      | some q =>
        cases hq : s.heap[q]? with
        | none => simp [hc, hf, hk, hq] at h1
        | some cell =>
          cases hs : cell.vm.isStatics with
          | false => simp [hc, hf, hk, hq, hs] at h1
          | true => simpa [hc, hf, hk, hq, hs, hst q cell hq hs] using h1
def gd_wk : Cond → Bool
  | .laysStatic .. | .castable .. | .declares _ | .stringRef .. => true
  | w => goodWord w
theorem gd_Ex.word {U : State} (h : gd_Ex U) {w : Cond} (hw : w ∈ lw_tbl) (hk : gd_wk w = true) (a : Array Value) : w.before a U = true := by
  obtain ⟨s0, a0, h1, h2, h3, h4, h5, h6⟩ := h
  have hb := h1 w hw
  cases w with
  | laysStatic o n d => exact gd_laysS h5 h6 hb
  | castable c d => exact va_tabs (u := s0.setVm U.vm) (U := U) (A := a0) (c := .castable c d) rfl rfl (Cond.before_warmed h5 _ trivial hb)
  | declares x => exact va_tabs (u := s0.setVm U.vm) (U := U) (A := a0) (c := .declares x) rfl rfl (Cond.before_warmed h5 _ trivial hb)
  | stringRef c i t => exact (show (Cond.stringRef c i t).before a U = (Cond.stringRef c i t).before a0 (s0.setVm U.vm) from rfl).trans (Cond.stringRef_warmed h5 hb)
  | _ => exact word_at h5 (good_of_word hk) hb
theorem gd_Ex.rf1 {U : State} (h : gd_Ex U) (a : Array Value) : gd_rf1.before a U = true := by
  obtain ⟨s0, a0, h1, h2, h3, h4, h5, h6⟩ := h
  exact gd_isRef h5 h6 h2
theorem gd_Ex.rf2 {U : State} (h : gd_Ex U) (a : Array Value) : gd_rf2.before a U = true := by
  obtain ⟨s0, a0, h1, h2, h3, h4, h5, h6⟩ := h
  exact gd_isRef h5 h6 h3
def gd_up : List String := ["java/lang/RuntimeException", "java/lang/Exception"]
def gd_oa (ic : Nat) (X : String) : List Cond := (Bundle.ownAtoms R_X ic X gd_up).filter (fun w => !(decide (w = gd_rf1) || decide (w = gd_rf2)))
theorem gd_oa_A : ∀ w ∈ gd_oa 80 "java/lang/ArithmeticException", w ∈ lw_tbl ∧ gd_wk w = true := by decide +kernel
theorem gd_oa_S : ∀ w ∈ gd_oa 116 "java/lang/IllegalStateException", w ∈ lw_tbl ∧ gd_wk w = true := by decide +kernel
theorem gd_oa_I : ∀ w ∈ gd_oa 124 "java/lang/IllegalArgumentException", w ∈ lw_tbl ∧ gd_wk w = true := by decide +kernel
theorem gd_own {ic : Nat} {X : String} (hoa : ∀ w ∈ gd_oa ic X, w ∈ lw_tbl ∧ gd_wk w = true) {U : State} (h : gd_Ex U) (a : Array Value) : ∀ w ∈ Bundle.ownAtoms R_X ic X gd_up, w.before a U = true := by
  intro w hw
  by_cases e1 : w = gd_rf1
  · rw [e1]; exact h.rf1 a
  by_cases e2 : w = gd_rf2
  · rw [e2]; exact h.rf2 a
  have hm : w ∈ gd_oa ic X := List.mem_filter.mpr ⟨hw, by simp [e1, e2]⟩
  exact h.word (hoa w hm).1 (hoa w hm).2 a
