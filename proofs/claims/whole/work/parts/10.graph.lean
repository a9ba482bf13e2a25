set_option maxHeartbeats 4000000 in
set_option maxRecDepth 100000 in
theorem c_G_hasPoint (l : Launch) (dC : Nat → ClassId) (dI : Nat → Nat → Nat) (cI cJ cZ : ClassId) (g g1 g2 g3 : Nat) (sz : Nat) (gA : Nat → Nat) (gC : Nat → Nat) (gL : Nat → Nat) (gP : Nat) (gE : Nat) (gB : Int32) (gF : Int32) (x : Int32) (hgP : gP ≤ 30) (hgE : gE ≤ 60) (hgA : ∀ q, gA q < 30) (hgC : ∀ q, gC q < 30) (hgL : ∀ q, gL q ≤ 20) : Met l y_G_hasPoint w_G_hasPoint ({ frames := 0, cells := 0, slots := 0, locals := 0 }) (va_Pc [.ref g, .int x] (gd_Pre (dC, dI) gd_cl [(cI, .int), (cJ, .long), (cZ, .boolean)] [(g, .inr (0, [.ref g1, .ref g2, .ref g3, .int (nI gP), .int (nI gE), .int gB, .int gF])), (g1, .inl (cI, 60, .inl (fun q => nI (gA q)))), (g2, .inl (cI, 60, .inl (fun q => nI (gC q)))), (g3, .inl (cI, 60, .inl (fun q => nI (gL q))))] sz)) (va_Qi (fun (r : Int32) (u : Unit) => r = bI (gm_has gP x)) (fun (u : Unit) t => gd_Post (dC, dI) gd_cl [(cI, .int), (cJ, .long), (cZ, .boolean)] (va_A [(g, .inr (0, [.ref g1, .ref g2, .ref g3, .int (nI gP), .int (nI gE), .int gB, .int gF])), (g1, .inl (cI, 60, .inl (fun q => nI (gA q)))), (g2, .inl (cI, 60, .inl (fun q => nI (gC q)))), (g3, .inl (cI, 60, .inl (fun q => nI (gL q))))] sz) [(g, .inr (0, [.ref g1, .ref g2, .ref g3, .int (nI gP), .int (nI gE), .int gB, .int gF])), (g1, .inl (cI, 60, .inl (fun q => nI (gA q)))), (g2, .inl (cI, 60, .inl (fun q => nI (gC q)))), (g3, .inl (cI, 60, .inl (fun q => nI (gL q))))] t) (va_A [(g, .inr (0, [.ref g1, .ref g2, .ref g3, .int (nI gP), .int (nI gE), .int gB, .int gF])), (g1, .inl (cI, 60, .inl (fun q => nI (gA q)))), (g2, .inl (cI, 60, .inl (fun q => nI (gC q)))), (g3, .inl (cI, 60, .inl (fun q => nI (gL q))))] sz)) 0 0 (va_A [(g, .inr (0, [.ref g1, .ref g2, .ref g3, .int (nI gP), .int (nI gE), .int gB, .int gF])), (g1, .inl (cI, 60, .inl (fun q => nI (gA q)))), (g2, .inl (cI, 60, .inl (fun q => nI (gC q)))), (g3, .inl (cI, 60, .inl (fun q => nI (gL q))))] sz) := by
  refine gd_met (maxL := 2) (ret := (some .boolean)) (by decide) rfl (Nat.le_of_ble_eq_true rfl) ?_
  intro p e s m below meth c ls hx hb hr hml hown hts hlocks hin hsz hK hP hD hl
  subst hsz
  have hown : s.vm.findClass R_G = some m.cls := hown
  have hr : meth.sig.returnType = (some .boolean) := hr
  generalize hAe : va_A [(g, .inr (0, [.ref g1, .ref g2, .ref g3, .int (nI gP), .int (nI gE), .int gB, .int gF])), (g1, .inl (cI, 60, .inl (fun q => nI (gA q)))), (g2, .inl (cI, 60, .inl (fun q => nI (gC q)))), (g3, .inl (cI, 60, .inl (fun q => nI (gL q))))] s.heap.size = A at hD ⊢
  have hA : ∀ q : Nat, s.heap.size ≤ q → A q := fun q h => by rw [← hAe]; exact Or.inr h
  have hS : va_S A s.heap s.heap [] := va_S.rf
  have hl : lv_has ls 2 [(0, .ref g), (1, .int x)] := hl
  have hP : va_P (dC, dI) gd_cl [(g, .inr (0, [.ref g1, .ref g2, .ref g3, .int (nI gP), .int (nI gE), .int gB, .int gF])), (g1, .inl (cI, 60, .inl (fun q => nI (gA q)))), (g2, .inl (cI, 60, .inl (fun q => nI (gC q)))), (g3, .inl (cI, 60, .inl (fun q => nI (gL q))))] s.heap := hP
  obtain ⟨H, hH⟩ : ∃ H : Heap, H = s.heap := ⟨_, rfl⟩
  rw [← hH] at hP hS
  have hS : va_S A s.heap H [] := by rw [hH]; exact va_S.rf
  suffices hgo : W p l e ({ frames := 0, cells := 0, slots := 0, locals := 0 }) s m [.ref g, .int x].toArray below meth c H [] 0 0 (MQ below _ [.ref g, .int x].toArray s 0 0 A) (F0 m 0 ls []) by rw [hH] at hgo; exact hgo
  generalize ([] : List Loc) = locs at hS ⊢
  refine lv_iload_n hx hb d_G_hasPoint_0 rfl (lv_at hl 1 rfl) ?_
  refine lv_if_lt (tgt := 16) hx hb d_G_hasPoint_1 (by decide) (fun c_1 => ?_) (fun c_1 => ?_)
  · have c_1 : x < (nI 0) := c_1
    refine lv_iconst (v := nI 0) hx hb d_G_hasPoint_16 (by decide) ?_
    exact gd_zret (v := nI 0) hx hb hr hlocks hK hP hD hS () [0, 1, 2, 3] rfl rfl (rfl) (by first | rfl | (simp only [gm_has, decide_eq_true c_1, if_pos c_1, Bool.not_true, Bool.not_false, Bool.and_true, Bool.true_and, Bool.and_false, Bool.false_and, Bool.or_true, Bool.true_or, Bool.or_false, Bool.false_or, eq_self, reduceIte, reduceCtorEq] <;> rfl)) d_G_hasPoint_17
  · have c_1 : ¬ (x < (nI 0)) := c_1
    refine lv_iload_n hx hb d_G_hasPoint_4 rfl (lv_at hl 1 rfl) ?_
    refine lv_aload_n hx hb d_G_hasPoint_5 rfl (lv_at hl 0 rfl) ?_
    refine va_get (D := (dC, dI)) (ci := 0) (v := .int (nI gP)) (C := R_G) (T := F_G) (N := 7) hx hb hts i_G hown hK hP 0 rfl rfl 3 (by decide) (hts _ wd_81) (fun _ h9 => h9) rfl d_G_hasPoint_6 ?_
    refine lv_icmp_ge (tgt := 16) hx hb d_G_hasPoint_9 (by decide) (fun c_2 => ?_) (fun c_2 => ?_)
    · have c_2 : (nI gP) ≤ x := c_2
      refine lv_iconst (v := nI 0) hx hb d_G_hasPoint_16 (by decide) ?_
      exact gd_zret (v := nI 0) hx hb hr hlocks hK hP hD hS () [0, 1, 2, 3] rfl rfl (rfl) (by first | rfl | (simp only [gm_has, decide_eq_false c_1, if_neg c_1, decide_eq_true c_2, if_pos c_2, Bool.not_true, Bool.not_false, Bool.and_true, Bool.true_and, Bool.and_false, Bool.false_and, Bool.or_true, Bool.true_or, Bool.or_false, Bool.false_or, eq_self, reduceIte, reduceCtorEq] <;> rfl)) d_G_hasPoint_17
    · have c_2 : ¬ ((nI gP) ≤ x) := c_2
      refine lv_iconst (v := nI 1) hx hb d_G_hasPoint_12 (by decide) ?_
      refine lv_goto (tgt := 17) hx hb d_G_hasPoint_13 (by decide) ?_
      exact gd_zret (v := nI 1) hx hb hr hlocks hK hP hD hS () [0, 1, 2, 3] rfl rfl (rfl) (by first | rfl | (simp only [gm_has, decide_eq_false c_1, if_neg c_1, decide_eq_false c_2, if_neg c_2, Bool.not_true, Bool.not_false, Bool.and_true, Bool.true_and, Bool.and_false, Bool.false_and, Bool.or_true, Bool.true_or, Bool.or_false, Bool.false_or, eq_self, reduceIte, reduceCtorEq] <;> rfl)) d_G_hasPoint_17
set_option maxHeartbeats 4000000 in
set_option maxRecDepth 100000 in
theorem c_G_hasEdge (l : Launch) (dC : Nat → ClassId) (dI : Nat → Nat → Nat) (cI cJ cZ : ClassId) (g g1 g2 g3 : Nat) (sz : Nat) (gA : Nat → Nat) (gC : Nat → Nat) (gL : Nat → Nat) (gP : Nat) (gE : Nat) (gB : Int32) (gF : Int32) (x : Int32) (hgP : gP ≤ 30) (hgE : gE ≤ 60) (hgA : ∀ q, gA q < 30) (hgC : ∀ q, gC q < 30) (hgL : ∀ q, gL q ≤ 20) : Met l y_G_hasEdge w_G_hasEdge ({ frames := 0, cells := 0, slots := 0, locals := 0 }) (va_Pc [.ref g, .int x] (gd_Pre (dC, dI) gd_cl [(cI, .int), (cJ, .long), (cZ, .boolean)] [(g, .inr (0, [.ref g1, .ref g2, .ref g3, .int (nI gP), .int (nI gE), .int gB, .int gF])), (g1, .inl (cI, 60, .inl (fun q => nI (gA q)))), (g2, .inl (cI, 60, .inl (fun q => nI (gC q)))), (g3, .inl (cI, 60, .inl (fun q => nI (gL q))))] sz)) (va_Qi (fun (r : Int32) (u : Unit) => r = bI (gm_has gE x)) (fun (u : Unit) t => gd_Post (dC, dI) gd_cl [(cI, .int), (cJ, .long), (cZ, .boolean)] (va_A [(g, .inr (0, [.ref g1, .ref g2, .ref g3, .int (nI gP), .int (nI gE), .int gB, .int gF])), (g1, .inl (cI, 60, .inl (fun q => nI (gA q)))), (g2, .inl (cI, 60, .inl (fun q => nI (gC q)))), (g3, .inl (cI, 60, .inl (fun q => nI (gL q))))] sz) [(g, .inr (0, [.ref g1, .ref g2, .ref g3, .int (nI gP), .int (nI gE), .int gB, .int gF])), (g1, .inl (cI, 60, .inl (fun q => nI (gA q)))), (g2, .inl (cI, 60, .inl (fun q => nI (gC q)))), (g3, .inl (cI, 60, .inl (fun q => nI (gL q))))] t) (va_A [(g, .inr (0, [.ref g1, .ref g2, .ref g3, .int (nI gP), .int (nI gE), .int gB, .int gF])), (g1, .inl (cI, 60, .inl (fun q => nI (gA q)))), (g2, .inl (cI, 60, .inl (fun q => nI (gC q)))), (g3, .inl (cI, 60, .inl (fun q => nI (gL q))))] sz)) 0 0 (va_A [(g, .inr (0, [.ref g1, .ref g2, .ref g3, .int (nI gP), .int (nI gE), .int gB, .int gF])), (g1, .inl (cI, 60, .inl (fun q => nI (gA q)))), (g2, .inl (cI, 60, .inl (fun q => nI (gC q)))), (g3, .inl (cI, 60, .inl (fun q => nI (gL q))))] sz) := by
  refine gd_met (maxL := 2) (ret := (some .boolean)) (by decide) rfl (Nat.le_of_ble_eq_true rfl) ?_
  intro p e s m below meth c ls hx hb hr hml hown hts hlocks hin hsz hK hP hD hl
  subst hsz
  have hown : s.vm.findClass R_G = some m.cls := hown
  have hr : meth.sig.returnType = (some .boolean) := hr
  generalize hAe : va_A [(g, .inr (0, [.ref g1, .ref g2, .ref g3, .int (nI gP), .int (nI gE), .int gB, .int gF])), (g1, .inl (cI, 60, .inl (fun q => nI (gA q)))), (g2, .inl (cI, 60, .inl (fun q => nI (gC q)))), (g3, .inl (cI, 60, .inl (fun q => nI (gL q))))] s.heap.size = A at hD ⊢
  have hA : ∀ q : Nat, s.heap.size ≤ q → A q := fun q h => by rw [← hAe]; exact Or.inr h
  have hS : va_S A s.heap s.heap [] := va_S.rf
  have hl : lv_has ls 2 [(0, .ref g), (1, .int x)] := hl
  have hP : va_P (dC, dI) gd_cl [(g, .inr (0, [.ref g1, .ref g2, .ref g3, .int (nI gP), .int (nI gE), .int gB, .int gF])), (g1, .inl (cI, 60, .inl (fun q => nI (gA q)))), (g2, .inl (cI, 60, .inl (fun q => nI (gC q)))), (g3, .inl (cI, 60, .inl (fun q => nI (gL q))))] s.heap := hP
  obtain ⟨H, hH⟩ : ∃ H : Heap, H = s.heap := ⟨_, rfl⟩
  rw [← hH] at hP hS
  have hS : va_S A s.heap H [] := by rw [hH]; exact va_S.rf
  suffices hgo : W p l e ({ frames := 0, cells := 0, slots := 0, locals := 0 }) s m [.ref g, .int x].toArray below meth c H [] 0 0 (MQ below _ [.ref g, .int x].toArray s 0 0 A) (F0 m 0 ls []) by rw [hH] at hgo; exact hgo
  generalize ([] : List Loc) = locs at hS ⊢
  refine lv_iload_n hx hb d_G_hasEdge_0 rfl (lv_at hl 1 rfl) ?_
  refine lv_if_lt (tgt := 16) hx hb d_G_hasEdge_1 (by decide) (fun c_1 => ?_) (fun c_1 => ?_)
  · have c_1 : x < (nI 0) := c_1
    refine lv_iconst (v := nI 0) hx hb d_G_hasEdge_16 (by decide) ?_
    exact gd_zret (v := nI 0) hx hb hr hlocks hK hP hD hS () [0, 1, 2, 3] rfl rfl (rfl) (by first | rfl | (simp only [gm_has, decide_eq_true c_1, if_pos c_1, Bool.not_true, Bool.not_false, Bool.and_true, Bool.true_and, Bool.and_false, Bool.false_and, Bool.or_true, Bool.true_or, Bool.or_false, Bool.false_or, eq_self, reduceIte, reduceCtorEq] <;> rfl)) d_G_hasEdge_17
  · have c_1 : ¬ (x < (nI 0)) := c_1
    refine lv_iload_n hx hb d_G_hasEdge_4 rfl (lv_at hl 1 rfl) ?_
    refine lv_aload_n hx hb d_G_hasEdge_5 rfl (lv_at hl 0 rfl) ?_
    refine va_get (D := (dC, dI)) (ci := 0) (v := .int (nI gE)) (C := R_G) (T := F_G) (N := 7) hx hb hts i_G hown hK hP 0 rfl rfl 4 (by decide) (hts _ wd_84) (fun _ h9 => h9) rfl d_G_hasEdge_6 ?_
    refine lv_icmp_ge (tgt := 16) hx hb d_G_hasEdge_9 (by decide) (fun c_2 => ?_) (fun c_2 => ?_)
    · have c_2 : (nI gE) ≤ x := c_2
      refine lv_iconst (v := nI 0) hx hb d_G_hasEdge_16 (by decide) ?_
      exact gd_zret (v := nI 0) hx hb hr hlocks hK hP hD hS () [0, 1, 2, 3] rfl rfl (rfl) (by first | rfl | (simp only [gm_has, decide_eq_false c_1, if_neg c_1, decide_eq_true c_2, if_pos c_2, Bool.not_true, Bool.not_false, Bool.and_true, Bool.true_and, Bool.and_false, Bool.false_and, Bool.or_true, Bool.true_or, Bool.or_false, Bool.false_or, eq_self, reduceIte, reduceCtorEq] <;> rfl)) d_G_hasEdge_17
    · have c_2 : ¬ ((nI gE) ≤ x) := c_2
      refine lv_iconst (v := nI 1) hx hb d_G_hasEdge_12 (by decide) ?_
      refine lv_goto (tgt := 17) hx hb d_G_hasEdge_13 (by decide) ?_
      exact gd_zret (v := nI 1) hx hb hr hlocks hK hP hD hS () [0, 1, 2, 3] rfl rfl (rfl) (by first | rfl | (simp only [gm_has, decide_eq_false c_1, if_neg c_1, decide_eq_false c_2, if_neg c_2, Bool.not_true, Bool.not_false, Bool.and_true, Bool.true_and, Bool.and_false, Bool.false_and, Bool.or_true, Bool.true_or, Bool.or_false, Bool.false_or, eq_self, reduceIte, reduceCtorEq] <;> rfl)) d_G_hasEdge_17
set_option maxHeartbeats 4000000 in
set_option maxRecDepth 100000 in
theorem c_G_isBoundary (l : Launch) (dC : Nat → ClassId) (dI : Nat → Nat → Nat) (cI cJ cZ : ClassId) (g g1 g2 g3 : Nat) (sz : Nat) (gA : Nat → Nat) (gC : Nat → Nat) (gL : Nat → Nat) (gP : Nat) (gE : Nat) (gB : Int32) (gF : Int32) (x : Int32) (hgP : gP ≤ 30) (hgE : gE ≤ 60) (hgA : ∀ q, gA q < 30) (hgC : ∀ q, gC q < 30) (hgL : ∀ q, gL q ≤ 20) : Met l y_G_isBoundary w_G_isBoundary ({ frames := 0, cells := 0, slots := 0, locals := 0 }) (va_Pc [.ref g, .int x] (gd_Pre (dC, dI) gd_cl [(cI, .int), (cJ, .long), (cZ, .boolean)] [(g, .inr (0, [.ref g1, .ref g2, .ref g3, .int (nI gP), .int (nI gE), .int gB, .int gF])), (g1, .inl (cI, 60, .inl (fun q => nI (gA q)))), (g2, .inl (cI, 60, .inl (fun q => nI (gC q)))), (g3, .inl (cI, 60, .inl (fun q => nI (gL q))))] sz)) (va_Qi (fun (r : Int32) (u : Unit) => r = bI (gm_bit gB x)) (fun (u : Unit) t => gd_Post (dC, dI) gd_cl [(cI, .int), (cJ, .long), (cZ, .boolean)] (va_A [(g, .inr (0, [.ref g1, .ref g2, .ref g3, .int (nI gP), .int (nI gE), .int gB, .int gF])), (g1, .inl (cI, 60, .inl (fun q => nI (gA q)))), (g2, .inl (cI, 60, .inl (fun q => nI (gC q)))), (g3, .inl (cI, 60, .inl (fun q => nI (gL q))))] sz) [(g, .inr (0, [.ref g1, .ref g2, .ref g3, .int (nI gP), .int (nI gE), .int gB, .int gF])), (g1, .inl (cI, 60, .inl (fun q => nI (gA q)))), (g2, .inl (cI, 60, .inl (fun q => nI (gC q)))), (g3, .inl (cI, 60, .inl (fun q => nI (gL q))))] t) (va_A [(g, .inr (0, [.ref g1, .ref g2, .ref g3, .int (nI gP), .int (nI gE), .int gB, .int gF])), (g1, .inl (cI, 60, .inl (fun q => nI (gA q)))), (g2, .inl (cI, 60, .inl (fun q => nI (gC q)))), (g3, .inl (cI, 60, .inl (fun q => nI (gL q))))] sz)) 0 0 (va_A [(g, .inr (0, [.ref g1, .ref g2, .ref g3, .int (nI gP), .int (nI gE), .int gB, .int gF])), (g1, .inl (cI, 60, .inl (fun q => nI (gA q)))), (g2, .inl (cI, 60, .inl (fun q => nI (gC q)))), (g3, .inl (cI, 60, .inl (fun q => nI (gL q))))] sz) := by
  refine gd_met (maxL := 2) (ret := (some .boolean)) (by decide) rfl (Nat.le_of_ble_eq_true rfl) ?_
  intro p e s m below meth c ls hx hb hr hml hown hts hlocks hin hsz hK hP hD hl
  subst hsz
  have hown : s.vm.findClass R_G = some m.cls := hown
  have hr : meth.sig.returnType = (some .boolean) := hr
  generalize hAe : va_A [(g, .inr (0, [.ref g1, .ref g2, .ref g3, .int (nI gP), .int (nI gE), .int gB, .int gF])), (g1, .inl (cI, 60, .inl (fun q => nI (gA q)))), (g2, .inl (cI, 60, .inl (fun q => nI (gC q)))), (g3, .inl (cI, 60, .inl (fun q => nI (gL q))))] s.heap.size = A at hD ⊢
  have hA : ∀ q : Nat, s.heap.size ≤ q → A q := fun q h => by rw [← hAe]; exact Or.inr h
  have hS : va_S A s.heap s.heap [] := va_S.rf
  have hl : lv_has ls 2 [(0, .ref g), (1, .int x)] := hl
  have hP : va_P (dC, dI) gd_cl [(g, .inr (0, [.ref g1, .ref g2, .ref g3, .int (nI gP), .int (nI gE), .int gB, .int gF])), (g1, .inl (cI, 60, .inl (fun q => nI (gA q)))), (g2, .inl (cI, 60, .inl (fun q => nI (gC q)))), (g3, .inl (cI, 60, .inl (fun q => nI (gL q))))] s.heap := hP
  obtain ⟨H, hH⟩ : ∃ H : Heap, H = s.heap := ⟨_, rfl⟩
  rw [← hH] at hP hS
  have hS : va_S A s.heap H [] := by rw [hH]; exact va_S.rf
  suffices hgo : W p l e ({ frames := 0, cells := 0, slots := 0, locals := 0 }) s m [.ref g, .int x].toArray below meth c H [] 0 0 (MQ below _ [.ref g, .int x].toArray s 0 0 A) (F0 m 0 ls []) by rw [hH] at hgo; exact hgo
  generalize ([] : List Loc) = locs at hS ⊢
  refine lv_aload_n hx hb d_G_isBoundary_0 rfl (lv_at hl 0 rfl) ?_
  refine va_get (D := (dC, dI)) (ci := 0) (v := .int gB) (C := R_G) (T := F_G) (N := 7) hx hb hts i_G hown hK hP 0 rfl rfl 5 (by decide) (hts _ wd_88) (fun _ h9 => h9) rfl d_G_isBoundary_1 ?_
  refine lv_iload_n hx hb d_G_isBoundary_4 rfl (lv_at hl 1 rfl) ?_
  refine lv_iushr (v := ju gB x) hx hb d_G_isBoundary_5 rfl ?_
  refine lv_iconst (v := nI 1) hx hb d_G_isBoundary_6 (by decide) ?_
  refine lv_iand hx hb d_G_isBoundary_7 ?_
  refine lv_if_eq (tgt := 15) hx hb d_G_isBoundary_8 (by decide) (fun c_1 => ?_) (fun c_1 => ?_)
  · have c_1 : (jb gB x) = (nI 0) := c_1
    refine lv_iconst (v := nI 0) hx hb d_G_isBoundary_15 (by decide) ?_
    exact gd_zret (v := nI 0) hx hb hr hlocks hK hP hD hS () [0, 1, 2, 3] rfl rfl (rfl) (by first | rfl | (simp only [gm_bit, decide_eq_true c_1, if_pos c_1, Bool.not_true, Bool.not_false, Bool.and_true, Bool.true_and, Bool.and_false, Bool.false_and, Bool.or_true, Bool.true_or, Bool.or_false, Bool.false_or, eq_self, reduceIte, reduceCtorEq] <;> rfl)) d_G_isBoundary_16
  · have c_1 : ¬ ((jb gB x) = (nI 0)) := c_1
    refine lv_iconst (v := nI 1) hx hb d_G_isBoundary_11 (by decide) ?_
    refine lv_goto (tgt := 16) hx hb d_G_isBoundary_12 (by decide) ?_
    exact gd_zret (v := nI 1) hx hb hr hlocks hK hP hD hS () [0, 1, 2, 3] rfl rfl (rfl) (by first | rfl | (simp only [gm_bit, decide_eq_false c_1, if_neg c_1, Bool.not_true, Bool.not_false, Bool.and_true, Bool.true_and, Bool.and_false, Bool.false_and, Bool.or_true, Bool.true_or, Bool.or_false, Bool.false_or, eq_self, reduceIte, reduceCtorEq] <;> rfl)) d_G_isBoundary_16
set_option maxHeartbeats 4000000 in
set_option maxRecDepth 100000 in
theorem c_G_isFired (l : Launch) (dC : Nat → ClassId) (dI : Nat → Nat → Nat) (cI cJ cZ : ClassId) (g g1 g2 g3 : Nat) (sz : Nat) (gA : Nat → Nat) (gC : Nat → Nat) (gL : Nat → Nat) (gP : Nat) (gE : Nat) (gB : Int32) (gF : Int32) (x : Int32) (hgP : gP ≤ 30) (hgE : gE ≤ 60) (hgA : ∀ q, gA q < 30) (hgC : ∀ q, gC q < 30) (hgL : ∀ q, gL q ≤ 20) : Met l y_G_isFired w_G_isFired ({ frames := 0, cells := 0, slots := 0, locals := 0 }) (va_Pc [.ref g, .int x] (gd_Pre (dC, dI) gd_cl [(cI, .int), (cJ, .long), (cZ, .boolean)] [(g, .inr (0, [.ref g1, .ref g2, .ref g3, .int (nI gP), .int (nI gE), .int gB, .int gF])), (g1, .inl (cI, 60, .inl (fun q => nI (gA q)))), (g2, .inl (cI, 60, .inl (fun q => nI (gC q)))), (g3, .inl (cI, 60, .inl (fun q => nI (gL q))))] sz)) (va_Qi (fun (r : Int32) (u : Unit) => r = bI (gm_bit gF x)) (fun (u : Unit) t => gd_Post (dC, dI) gd_cl [(cI, .int), (cJ, .long), (cZ, .boolean)] (va_A [(g, .inr (0, [.ref g1, .ref g2, .ref g3, .int (nI gP), .int (nI gE), .int gB, .int gF])), (g1, .inl (cI, 60, .inl (fun q => nI (gA q)))), (g2, .inl (cI, 60, .inl (fun q => nI (gC q)))), (g3, .inl (cI, 60, .inl (fun q => nI (gL q))))] sz) [(g, .inr (0, [.ref g1, .ref g2, .ref g3, .int (nI gP), .int (nI gE), .int gB, .int gF])), (g1, .inl (cI, 60, .inl (fun q => nI (gA q)))), (g2, .inl (cI, 60, .inl (fun q => nI (gC q)))), (g3, .inl (cI, 60, .inl (fun q => nI (gL q))))] t) (va_A [(g, .inr (0, [.ref g1, .ref g2, .ref g3, .int (nI gP), .int (nI gE), .int gB, .int gF])), (g1, .inl (cI, 60, .inl (fun q => nI (gA q)))), (g2, .inl (cI, 60, .inl (fun q => nI (gC q)))), (g3, .inl (cI, 60, .inl (fun q => nI (gL q))))] sz)) 0 0 (va_A [(g, .inr (0, [.ref g1, .ref g2, .ref g3, .int (nI gP), .int (nI gE), .int gB, .int gF])), (g1, .inl (cI, 60, .inl (fun q => nI (gA q)))), (g2, .inl (cI, 60, .inl (fun q => nI (gC q)))), (g3, .inl (cI, 60, .inl (fun q => nI (gL q))))] sz) := by
  refine gd_met (maxL := 2) (ret := (some .boolean)) (by decide) rfl (Nat.le_of_ble_eq_true rfl) ?_
  intro p e s m below meth c ls hx hb hr hml hown hts hlocks hin hsz hK hP hD hl
  subst hsz
  have hown : s.vm.findClass R_G = some m.cls := hown
  have hr : meth.sig.returnType = (some .boolean) := hr
  generalize hAe : va_A [(g, .inr (0, [.ref g1, .ref g2, .ref g3, .int (nI gP), .int (nI gE), .int gB, .int gF])), (g1, .inl (cI, 60, .inl (fun q => nI (gA q)))), (g2, .inl (cI, 60, .inl (fun q => nI (gC q)))), (g3, .inl (cI, 60, .inl (fun q => nI (gL q))))] s.heap.size = A at hD ⊢
  have hA : ∀ q : Nat, s.heap.size ≤ q → A q := fun q h => by rw [← hAe]; exact Or.inr h
  have hS : va_S A s.heap s.heap [] := va_S.rf
  have hl : lv_has ls 2 [(0, .ref g), (1, .int x)] := hl
  have hP : va_P (dC, dI) gd_cl [(g, .inr (0, [.ref g1, .ref g2, .ref g3, .int (nI gP), .int (nI gE), .int gB, .int gF])), (g1, .inl (cI, 60, .inl (fun q => nI (gA q)))), (g2, .inl (cI, 60, .inl (fun q => nI (gC q)))), (g3, .inl (cI, 60, .inl (fun q => nI (gL q))))] s.heap := hP
  obtain ⟨H, hH⟩ : ∃ H : Heap, H = s.heap := ⟨_, rfl⟩
  rw [← hH] at hP hS
  have hS : va_S A s.heap H [] := by rw [hH]; exact va_S.rf
  suffices hgo : W p l e ({ frames := 0, cells := 0, slots := 0, locals := 0 }) s m [.ref g, .int x].toArray below meth c H [] 0 0 (MQ below _ [.ref g, .int x].toArray s 0 0 A) (F0 m 0 ls []) by rw [hH] at hgo; exact hgo
  generalize ([] : List Loc) = locs at hS ⊢
  refine lv_aload_n hx hb d_G_isFired_0 rfl (lv_at hl 0 rfl) ?_
  refine va_get (D := (dC, dI)) (ci := 0) (v := .int gF) (C := R_G) (T := F_G) (N := 7) hx hb hts i_G hown hK hP 0 rfl rfl 6 (by decide) (hts _ wd_92) (fun _ h9 => h9) rfl d_G_isFired_1 ?_
  refine lv_iload_n hx hb d_G_isFired_4 rfl (lv_at hl 1 rfl) ?_
  refine lv_iushr (v := ju gF x) hx hb d_G_isFired_5 rfl ?_
  refine lv_iconst (v := nI 1) hx hb d_G_isFired_6 (by decide) ?_
  refine lv_iand hx hb d_G_isFired_7 ?_
  refine lv_if_eq (tgt := 15) hx hb d_G_isFired_8 (by decide) (fun c_1 => ?_) (fun c_1 => ?_)
  · have c_1 : (jb gF x) = (nI 0) := c_1
    refine lv_iconst (v := nI 0) hx hb d_G_isFired_15 (by decide) ?_
    exact gd_zret (v := nI 0) hx hb hr hlocks hK hP hD hS () [0, 1, 2, 3] rfl rfl (rfl) (by first | rfl | (simp only [gm_bit, decide_eq_true c_1, if_pos c_1, Bool.not_true, Bool.not_false, Bool.and_true, Bool.true_and, Bool.and_false, Bool.false_and, Bool.or_true, Bool.true_or, Bool.or_false, Bool.false_or, eq_self, reduceIte, reduceCtorEq] <;> rfl)) d_G_isFired_16
  · have c_1 : ¬ ((jb gF x) = (nI 0)) := c_1
    refine lv_iconst (v := nI 1) hx hb d_G_isFired_11 (by decide) ?_
    refine lv_goto (tgt := 16) hx hb d_G_isFired_12 (by decide) ?_
    exact gd_zret (v := nI 1) hx hb hr hlocks hK hP hD hS () [0, 1, 2, 3] rfl rfl (rfl) (by first | rfl | (simp only [gm_bit, decide_eq_false c_1, if_neg c_1, Bool.not_true, Bool.not_false, Bool.and_true, Bool.true_and, Bool.and_false, Bool.false_and, Bool.or_true, Bool.true_or, Bool.or_false, Bool.false_or, eq_self, reduceIte, reduceCtorEq] <;> rfl)) d_G_isFired_16
set_option maxHeartbeats 4000000 in
set_option maxRecDepth 100000 in
theorem c_G_canJoin (l : Launch) (dC : Nat → ClassId) (dI : Nat → Nat → Nat) (cI cJ cZ : ClassId) (g g1 g2 g3 : Nat) (sz : Nat) (gA : Nat → Nat) (gC : Nat → Nat) (gL : Nat → Nat) (gP : Nat) (gE : Nat) (gB : Int32) (gF : Int32) (x : Int32) (y : Int32) (hgP : gP ≤ 30) (hgE : gE ≤ 60) (hgA : ∀ q, gA q < 30) (hgC : ∀ q, gC q < 30) (hgL : ∀ q, gL q ≤ 20) : Met l y_G_canJoin w_G_canJoin ({ frames := 1, cells := 0, slots := 0, locals := 21 }) (va_Pc [.ref g, .int x, .int y] (gd_Pre (dC, dI) gd_cl [(cI, .int), (cJ, .long), (cZ, .boolean)] [(g, .inr (0, [.ref g1, .ref g2, .ref g3, .int (nI gP), .int (nI gE), .int gB, .int gF])), (g1, .inl (cI, 60, .inl (fun q => nI (gA q)))), (g2, .inl (cI, 60, .inl (fun q => nI (gC q)))), (g3, .inl (cI, 60, .inl (fun q => nI (gL q))))] sz)) (va_Qi (fun (r : Int32) (u : Unit) => r = bI (gm_join gP gB x y)) (fun (u : Unit) t => gd_Post (dC, dI) gd_cl [(cI, .int), (cJ, .long), (cZ, .boolean)] (va_A [(g, .inr (0, [.ref g1, .ref g2, .ref g3, .int (nI gP), .int (nI gE), .int gB, .int gF])), (g1, .inl (cI, 60, .inl (fun q => nI (gA q)))), (g2, .inl (cI, 60, .inl (fun q => nI (gC q)))), (g3, .inl (cI, 60, .inl (fun q => nI (gL q))))] sz) [(g, .inr (0, [.ref g1, .ref g2, .ref g3, .int (nI gP), .int (nI gE), .int gB, .int gF])), (g1, .inl (cI, 60, .inl (fun q => nI (gA q)))), (g2, .inl (cI, 60, .inl (fun q => nI (gC q)))), (g3, .inl (cI, 60, .inl (fun q => nI (gL q))))] t) (va_A [(g, .inr (0, [.ref g1, .ref g2, .ref g3, .int (nI gP), .int (nI gE), .int gB, .int gF])), (g1, .inl (cI, 60, .inl (fun q => nI (gA q)))), (g2, .inl (cI, 60, .inl (fun q => nI (gC q)))), (g3, .inl (cI, 60, .inl (fun q => nI (gL q))))] sz)) 0 0 (va_A [(g, .inr (0, [.ref g1, .ref g2, .ref g3, .int (nI gP), .int (nI gE), .int gB, .int gF])), (g1, .inl (cI, 60, .inl (fun q => nI (gA q)))), (g2, .inl (cI, 60, .inl (fun q => nI (gC q)))), (g3, .inl (cI, 60, .inl (fun q => nI (gL q))))] sz) := by
  refine gd_met (maxL := 3) (ret := (some .boolean)) (by decide) rfl (Nat.le_of_ble_eq_true rfl) ?_
  intro p e s m below meth c ls hx hb hr hml hown hts hlocks hin hsz hK hP hD hl
  subst hsz
  have hown : s.vm.findClass R_G = some m.cls := hown
  have hr : meth.sig.returnType = (some .boolean) := hr
  generalize hAe : va_A [(g, .inr (0, [.ref g1, .ref g2, .ref g3, .int (nI gP), .int (nI gE), .int gB, .int gF])), (g1, .inl (cI, 60, .inl (fun q => nI (gA q)))), (g2, .inl (cI, 60, .inl (fun q => nI (gC q)))), (g3, .inl (cI, 60, .inl (fun q => nI (gL q))))] s.heap.size = A at hD ⊢
  have hA : ∀ q : Nat, s.heap.size ≤ q → A q := fun q h => by rw [← hAe]; exact Or.inr h
  have hS : va_S A s.heap s.heap [] := va_S.rf
  have hl : lv_has ls 3 [(0, .ref g), (1, .int x), (2, .int y)] := hl
  have hP : va_P (dC, dI) gd_cl [(g, .inr (0, [.ref g1, .ref g2, .ref g3, .int (nI gP), .int (nI gE), .int gB, .int gF])), (g1, .inl (cI, 60, .inl (fun q => nI (gA q)))), (g2, .inl (cI, 60, .inl (fun q => nI (gC q)))), (g3, .inl (cI, 60, .inl (fun q => nI (gL q))))] s.heap := hP
  obtain ⟨H, hH⟩ : ∃ H : Heap, H = s.heap := ⟨_, rfl⟩
  rw [← hH] at hP hS
  have hS : va_S A s.heap H [] := by rw [hH]; exact va_S.rf
  suffices hgo : W p l e ({ frames := 1, cells := 0, slots := 0, locals := 21 }) s m [.ref g, .int x, .int y].toArray below meth c H [] 0 0 (MQ below _ [.ref g, .int x, .int y].toArray s 0 0 A) (F0 m 0 ls []) by rw [hH] at hgo; exact hgo
  generalize ([] : List Loc) = locs at hS ⊢
  refine lv_aload_n hx hb d_G_canJoin_0 rfl (lv_at hl 0 rfl) ?_
  refine lv_iload_n hx hb d_G_canJoin_1 rfl (lv_at hl 1 rfl) ?_
  refine gd_ki (wr := []) (va_runV (As := [.int x]) (rest := []) ⟨hx, hb, hml, hown, hts⟩ (c_G_hasPoint l dC dI cI cJ cZ g g1 g2 g3 H.size gA gC gL gP gE gB gF x hgP hgE hgA hgC hgL) ⟨cb_G_hasPoint (rm := { frames := 0, cells := 0, slots := 0, locals := 0 }) hts wd_266 ⟨Nat.le_of_ble_eq_true rfl, Nat.le_of_ble_eq_true rfl⟩, hts _ wd_267, hts _ wd_268⟩ ⟨gd_blind, va_recv hK hP (ci := 0) (q0 := 0) rfl rfl, gd_pre (wc := [(g, .inr (0, [.ref g1, .ref g2, .ref g3, .int (nI gP), .int (nI gE), .int gB, .int gF])), (g1, .inl (cI, 60, .inl (fun q => nI (gA q)))), (g2, .inl (cI, 60, .inl (fun q => nI (gC q)))), (g3, .inl (cI, 60, .inl (fun q => nI (gL q))))]) hK hP hD [0, 1, 2, 3] rfl rfl _⟩ rfl rfl hl.1 rfl (lv_room (Nat.le_of_ble_eq_true rfl)) d_G_canJoin_2 ⟨Nat.le_of_ble_eq_true rfl, Nat.le_of_ble_eq_true rfl⟩) hP hD hS hA [0, 1, 2, 3] [] rfl rfl rfl (by decide) (fun r_1 u_1 H locs hw_1 hP hD hS => ?_)
  try dsimp only at hw_1 hP hD
  obtain rfl := hw_1
  have hP : va_P (dC, dI) gd_cl [(g, .inr (0, [.ref g1, .ref g2, .ref g3, .int (nI gP), .int (nI gE), .int gB, .int gF])), (g1, .inl (cI, 60, .inl (fun q => nI (gA q)))), (g2, .inl (cI, 60, .inl (fun q => nI (gC q)))), (g3, .inl (cI, 60, .inl (fun q => nI (gL q))))] H := hP
  have hD : va_D A [(g, .inr (0, [.ref g1, .ref g2, .ref g3, .int (nI gP), .int (nI gE), .int gB, .int gF])), (g1, .inl (cI, 60, .inl (fun q => nI (gA q)))), (g2, .inl (cI, 60, .inl (fun q => nI (gC q)))), (g3, .inl (cI, 60, .inl (fun q => nI (gL q))))] := hD
  refine lv_if_eq (tgt := 41) hx hb d_G_canJoin_5 (by decide) (fun c_2 => ?_) (fun c_2 => ?_)
  · have c_2 : (gm_has gP x) = false := bI_f c_2
    refine lv_iconst (v := nI 0) hx hb d_G_canJoin_41 (by decide) ?_
    exact gd_zret (v := nI 0) hx hb hr hlocks hK hP hD hS () [0, 1, 2, 3] rfl rfl (rfl) (by first | rfl | (simp only [gm_join, c_2, Bool.not_true, Bool.not_false, Bool.and_true, Bool.true_and, Bool.and_false, Bool.false_and, Bool.or_true, Bool.true_or, Bool.or_false, Bool.false_or, eq_self, reduceIte, reduceCtorEq] <;> rfl)) d_G_canJoin_42
  · have c_2 : (gm_has gP x) = true := bI_t c_2
    refine lv_aload_n hx hb d_G_canJoin_8 rfl (lv_at hl 0 rfl) ?_
    refine lv_iload_n hx hb d_G_canJoin_9 rfl (lv_at hl 2 rfl) ?_
    refine gd_ki (wr := []) (va_runV (As := [.int y]) (rest := []) ⟨hx, hb, hml, hown, hts⟩ (c_G_hasPoint l dC dI cI cJ cZ g g1 g2 g3 H.size gA gC gL gP gE gB gF y hgP hgE hgA hgC hgL) ⟨cb_G_hasPoint (rm := { frames := 0, cells := 0, slots := 0, locals := 0 }) hts wd_266 ⟨Nat.le_of_ble_eq_true rfl, Nat.le_of_ble_eq_true rfl⟩, hts _ wd_267, hts _ wd_268⟩ ⟨gd_blind, va_recv hK hP (ci := 0) (q0 := 0) rfl rfl, gd_pre (wc := [(g, .inr (0, [.ref g1, .ref g2, .ref g3, .int (nI gP), .int (nI gE), .int gB, .int gF])), (g1, .inl (cI, 60, .inl (fun q => nI (gA q)))), (g2, .inl (cI, 60, .inl (fun q => nI (gC q)))), (g3, .inl (cI, 60, .inl (fun q => nI (gL q))))]) hK hP hD [0, 1, 2, 3] rfl rfl _⟩ rfl rfl hl.1 rfl (lv_room (Nat.le_of_ble_eq_true rfl)) d_G_canJoin_10 ⟨Nat.le_of_ble_eq_true rfl, Nat.le_of_ble_eq_true rfl⟩) hP hD hS hA [0, 1, 2, 3] [] rfl rfl rfl (by decide) (fun r_3 u_3 H locs hw_3 hP hD hS => ?_)
    try dsimp only at hw_3 hP hD
    obtain rfl := hw_3
    have hP : va_P (dC, dI) gd_cl [(g, .inr (0, [.ref g1, .ref g2, .ref g3, .int (nI gP), .int (nI gE), .int gB, .int gF])), (g1, .inl (cI, 60, .inl (fun q => nI (gA q)))), (g2, .inl (cI, 60, .inl (fun q => nI (gC q)))), (g3, .inl (cI, 60, .inl (fun q => nI (gL q))))] H := hP
    have hD : va_D A [(g, .inr (0, [.ref g1, .ref g2, .ref g3, .int (nI gP), .int (nI gE), .int gB, .int gF])), (g1, .inl (cI, 60, .inl (fun q => nI (gA q)))), (g2, .inl (cI, 60, .inl (fun q => nI (gC q)))), (g3, .inl (cI, 60, .inl (fun q => nI (gL q))))] := hD
    refine lv_if_eq (tgt := 41) hx hb d_G_canJoin_13 (by decide) (fun c_4 => ?_) (fun c_4 => ?_)
    · have c_4 : (gm_has gP y) = false := bI_f c_4
      refine lv_iconst (v := nI 0) hx hb d_G_canJoin_41 (by decide) ?_
      exact gd_zret (v := nI 0) hx hb hr hlocks hK hP hD hS () [0, 1, 2, 3] rfl rfl (rfl) (by first | rfl | (simp only [gm_join, c_2, c_4, Bool.not_true, Bool.not_false, Bool.and_true, Bool.true_and, Bool.and_false, Bool.false_and, Bool.or_true, Bool.true_or, Bool.or_false, Bool.false_or, eq_self, reduceIte, reduceCtorEq] <;> rfl)) d_G_canJoin_42
    · have c_4 : (gm_has gP y) = true := bI_t c_4
      refine lv_iload_n hx hb d_G_canJoin_16 rfl (lv_at hl 1 rfl) ?_
      refine lv_iload_n hx hb d_G_canJoin_17 rfl (lv_at hl 2 rfl) ?_
      refine lv_icmp_eq (tgt := 41) hx hb d_G_canJoin_18 (by decide) (fun c_5 => ?_) (fun c_5 => ?_)
      · have c_5 : x = y := c_5
        refine lv_iconst (v := nI 0) hx hb d_G_canJoin_41 (by decide) ?_
        exact gd_zret (v := nI 0) hx hb hr hlocks hK hP hD hS () [0, 1, 2, 3] rfl rfl (rfl) (by first | rfl | (simp only [gm_join, c_2, c_4, decide_eq_true c_5, if_pos c_5, Bool.not_true, Bool.not_false, Bool.and_true, Bool.true_and, Bool.and_false, Bool.false_and, Bool.or_true, Bool.true_or, Bool.or_false, Bool.false_or, eq_self, reduceIte, reduceCtorEq] <;> rfl)) d_G_canJoin_42
      · have c_5 : ¬ (x = y) := c_5
        refine lv_aload_n hx hb d_G_canJoin_21 rfl (lv_at hl 0 rfl) ?_
        refine lv_iload_n hx hb d_G_canJoin_22 rfl (lv_at hl 1 rfl) ?_
        refine gd_ki (wr := []) (va_runV (As := [.int x]) (rest := []) ⟨hx, hb, hml, hown, hts⟩ (c_G_isBoundary l dC dI cI cJ cZ g g1 g2 g3 H.size gA gC gL gP gE gB gF x hgP hgE hgA hgC hgL) ⟨cb_G_isBoundary (rm := { frames := 0, cells := 0, slots := 0, locals := 0 }) hts wd_270 ⟨Nat.le_of_ble_eq_true rfl, Nat.le_of_ble_eq_true rfl⟩, hts _ wd_271, hts _ wd_272⟩ ⟨gd_blind, va_recv hK hP (ci := 0) (q0 := 0) rfl rfl, gd_pre (wc := [(g, .inr (0, [.ref g1, .ref g2, .ref g3, .int (nI gP), .int (nI gE), .int gB, .int gF])), (g1, .inl (cI, 60, .inl (fun q => nI (gA q)))), (g2, .inl (cI, 60, .inl (fun q => nI (gC q)))), (g3, .inl (cI, 60, .inl (fun q => nI (gL q))))]) hK hP hD [0, 1, 2, 3] rfl rfl _⟩ rfl rfl hl.1 rfl (lv_room (Nat.le_of_ble_eq_true rfl)) d_G_canJoin_23 ⟨Nat.le_of_ble_eq_true rfl, Nat.le_of_ble_eq_true rfl⟩) hP hD hS hA [0, 1, 2, 3] [] rfl rfl rfl (by decide) (fun r_6 u_6 H locs hw_6 hP hD hS => ?_)
        try dsimp only at hw_6 hP hD
        obtain rfl := hw_6
        have hP : va_P (dC, dI) gd_cl [(g, .inr (0, [.ref g1, .ref g2, .ref g3, .int (nI gP), .int (nI gE), .int gB, .int gF])), (g1, .inl (cI, 60, .inl (fun q => nI (gA q)))), (g2, .inl (cI, 60, .inl (fun q => nI (gC q)))), (g3, .inl (cI, 60, .inl (fun q => nI (gL q))))] H := hP
        have hD : va_D A [(g, .inr (0, [.ref g1, .ref g2, .ref g3, .int (nI gP), .int (nI gE), .int gB, .int gF])), (g1, .inl (cI, 60, .inl (fun q => nI (gA q)))), (g2, .inl (cI, 60, .inl (fun q => nI (gC q)))), (g3, .inl (cI, 60, .inl (fun q => nI (gL q))))] := hD
        refine lv_if_eq (tgt := 37) hx hb d_G_canJoin_26 (by decide) (fun c_7 => ?_) (fun c_7 => ?_)
        · have c_7 : (gm_bit gB x) = false := bI_f c_7
          refine lv_iconst (v := nI 1) hx hb d_G_canJoin_37 (by decide) ?_
          refine lv_goto (tgt := 42) hx hb d_G_canJoin_38 (by decide) ?_
          exact gd_zret (v := nI 1) hx hb hr hlocks hK hP hD hS () [0, 1, 2, 3] rfl rfl (rfl) (by first | rfl | (simp only [gm_join, c_2, c_4, decide_eq_false c_5, if_neg c_5, c_7, Bool.not_true, Bool.not_false, Bool.and_true, Bool.true_and, Bool.and_false, Bool.false_and, Bool.or_true, Bool.true_or, Bool.or_false, Bool.false_or, eq_self, reduceIte, reduceCtorEq] <;> rfl)) d_G_canJoin_42
        · have c_7 : (gm_bit gB x) = true := bI_t c_7
          refine lv_aload_n hx hb d_G_canJoin_29 rfl (lv_at hl 0 rfl) ?_
          refine lv_iload_n hx hb d_G_canJoin_30 rfl (lv_at hl 2 rfl) ?_
          refine gd_ki (wr := []) (va_runV (As := [.int y]) (rest := []) ⟨hx, hb, hml, hown, hts⟩ (c_G_isBoundary l dC dI cI cJ cZ g g1 g2 g3 H.size gA gC gL gP gE gB gF y hgP hgE hgA hgC hgL) ⟨cb_G_isBoundary (rm := { frames := 0, cells := 0, slots := 0, locals := 0 }) hts wd_270 ⟨Nat.le_of_ble_eq_true rfl, Nat.le_of_ble_eq_true rfl⟩, hts _ wd_271, hts _ wd_272⟩ ⟨gd_blind, va_recv hK hP (ci := 0) (q0 := 0) rfl rfl, gd_pre (wc := [(g, .inr (0, [.ref g1, .ref g2, .ref g3, .int (nI gP), .int (nI gE), .int gB, .int gF])), (g1, .inl (cI, 60, .inl (fun q => nI (gA q)))), (g2, .inl (cI, 60, .inl (fun q => nI (gC q)))), (g3, .inl (cI, 60, .inl (fun q => nI (gL q))))]) hK hP hD [0, 1, 2, 3] rfl rfl _⟩ rfl rfl hl.1 rfl (lv_room (Nat.le_of_ble_eq_true rfl)) d_G_canJoin_31 ⟨Nat.le_of_ble_eq_true rfl, Nat.le_of_ble_eq_true rfl⟩) hP hD hS hA [0, 1, 2, 3] [] rfl rfl rfl (by decide) (fun r_8 u_8 H locs hw_8 hP hD hS => ?_)
          try dsimp only at hw_8 hP hD
          obtain rfl := hw_8
          have hP : va_P (dC, dI) gd_cl [(g, .inr (0, [.ref g1, .ref g2, .ref g3, .int (nI gP), .int (nI gE), .int gB, .int gF])), (g1, .inl (cI, 60, .inl (fun q => nI (gA q)))), (g2, .inl (cI, 60, .inl (fun q => nI (gC q)))), (g3, .inl (cI, 60, .inl (fun q => nI (gL q))))] H := hP
          have hD : va_D A [(g, .inr (0, [.ref g1, .ref g2, .ref g3, .int (nI gP), .int (nI gE), .int gB, .int gF])), (g1, .inl (cI, 60, .inl (fun q => nI (gA q)))), (g2, .inl (cI, 60, .inl (fun q => nI (gC q)))), (g3, .inl (cI, 60, .inl (fun q => nI (gL q))))] := hD
          refine lv_if_ne (tgt := 41) hx hb d_G_canJoin_34 (by decide) (fun c_9 => ?_) (fun c_9 => ?_)
          · have c_9 : (gm_bit gB y) = true := bI_t c_9
            refine lv_iconst (v := nI 0) hx hb d_G_canJoin_41 (by decide) ?_
            exact gd_zret (v := nI 0) hx hb hr hlocks hK hP hD hS () [0, 1, 2, 3] rfl rfl (rfl) (by first | rfl | (simp only [gm_join, c_2, c_4, decide_eq_false c_5, if_neg c_5, c_7, c_9, Bool.not_true, Bool.not_false, Bool.and_true, Bool.true_and, Bool.and_false, Bool.false_and, Bool.or_true, Bool.true_or, Bool.or_false, Bool.false_or, eq_self, reduceIte, reduceCtorEq] <;> rfl)) d_G_canJoin_42
          · have c_9 : (gm_bit gB y) = false := bI_f c_9
            refine lv_iconst (v := nI 1) hx hb d_G_canJoin_37 (by decide) ?_
            refine lv_goto (tgt := 42) hx hb d_G_canJoin_38 (by decide) ?_
            exact gd_zret (v := nI 1) hx hb hr hlocks hK hP hD hS () [0, 1, 2, 3] rfl rfl (rfl) (by first | rfl | (simp only [gm_join, c_2, c_4, decide_eq_false c_5, if_neg c_5, c_7, c_9, Bool.not_true, Bool.not_false, Bool.and_true, Bool.true_and, Bool.and_false, Bool.false_and, Bool.or_true, Bool.true_or, Bool.or_false, Bool.false_or, eq_self, reduceIte, reduceCtorEq] <;> rfl)) d_G_canJoin_42
set_option maxHeartbeats 4000000 in
set_option maxRecDepth 100000 in
theorem c_G_addPoint (l : Launch) (dC : Nat → ClassId) (dI : Nat → Nat → Nat) (cI cJ cZ : ClassId) (g g1 g2 g3 : Nat) (sz : Nat) (gA : Nat → Nat) (gC : Nat → Nat) (gL : Nat → Nat) (gP : Nat) (gE : Nat) (gB : Int32) (gF : Int32) (b : Bool) (hgP : gP ≤ 30) (hgE : gE ≤ 60) (hgA : ∀ q, gA q < 30) (hgC : ∀ q, gC q < 30) (hgL : ∀ q, gL q ≤ 20) : Met l y_G_addPoint w_G_addPoint ({ frames := 0, cells := 0, slots := 0, locals := 0 }) (va_Pc [.ref g, .int (bI b)] (gd_Pre (dC, dI) gd_cl [(cI, .int), (cJ, .long), (cZ, .boolean)] [(g, .inr (0, [.ref g1, .ref g2, .ref g3, .int (nI gP), .int (nI gE), .int gB, .int gF])), (g1, .inl (cI, 60, .inl (fun q => nI (gA q)))), (g2, .inl (cI, 60, .inl (fun q => nI (gC q)))), (g3, .inl (cI, 60, .inl (fun q => nI (gL q))))] sz)) (va_Qi (fun (r : Int32) (u : Nat × Int32) => r = nI gP ∧ u.1 = gP + 1 ∧ u.2 = gm_addB gP gB b) (fun (u : Nat × Int32) t => gd_Post (dC, dI) gd_cl [(cI, .int), (cJ, .long), (cZ, .boolean)] (va_A [(g, .inr (0, [.ref g1, .ref g2, .ref g3, .int (nI gP), .int (nI gE), .int gB, .int gF])), (g1, .inl (cI, 60, .inl (fun q => nI (gA q)))), (g2, .inl (cI, 60, .inl (fun q => nI (gC q)))), (g3, .inl (cI, 60, .inl (fun q => nI (gL q))))] sz) [(g, .inr (0, [.ref g1, .ref g2, .ref g3, .int (nI u.1), .int (nI gE), .int u.2, .int gF])), (g1, .inl (cI, 60, .inl (fun q => nI (gA q)))), (g2, .inl (cI, 60, .inl (fun q => nI (gC q)))), (g3, .inl (cI, 60, .inl (fun q => nI (gL q))))] t) (va_A [(g, .inr (0, [.ref g1, .ref g2, .ref g3, .int (nI gP), .int (nI gE), .int gB, .int gF])), (g1, .inl (cI, 60, .inl (fun q => nI (gA q)))), (g2, .inl (cI, 60, .inl (fun q => nI (gC q)))), (g3, .inl (cI, 60, .inl (fun q => nI (gL q))))] sz)) 0 0 (va_A [(g, .inr (0, [.ref g1, .ref g2, .ref g3, .int (nI gP), .int (nI gE), .int gB, .int gF])), (g1, .inl (cI, 60, .inl (fun q => nI (gA q)))), (g2, .inl (cI, 60, .inl (fun q => nI (gC q)))), (g3, .inl (cI, 60, .inl (fun q => nI (gL q))))] sz) := by
  refine gd_met (maxL := 3) (ret := (some .int)) (by decide) rfl (Nat.le_of_ble_eq_true rfl) ?_
  intro p e s m below meth c ls hx hb hr hml hown hts hlocks hin hsz hK hP hD hl
  subst hsz
  have hown : s.vm.findClass R_G = some m.cls := hown
  have hr : meth.sig.returnType = (some .int) := hr
  generalize hAe : va_A [(g, .inr (0, [.ref g1, .ref g2, .ref g3, .int (nI gP), .int (nI gE), .int gB, .int gF])), (g1, .inl (cI, 60, .inl (fun q => nI (gA q)))), (g2, .inl (cI, 60, .inl (fun q => nI (gC q)))), (g3, .inl (cI, 60, .inl (fun q => nI (gL q))))] s.heap.size = A at hD ⊢
  have hA : ∀ q : Nat, s.heap.size ≤ q → A q := fun q h => by rw [← hAe]; exact Or.inr h
  have hS : va_S A s.heap s.heap [] := va_S.rf
  have hl : lv_has ls 3 [(0, .ref g), (1, .int (bI b))] := hl
  have hP : va_P (dC, dI) gd_cl [(g, .inr (0, [.ref g1, .ref g2, .ref g3, .int (nI gP), .int (nI gE), .int gB, .int gF])), (g1, .inl (cI, 60, .inl (fun q => nI (gA q)))), (g2, .inl (cI, 60, .inl (fun q => nI (gC q)))), (g3, .inl (cI, 60, .inl (fun q => nI (gL q))))] s.heap := hP
  obtain ⟨H, hH⟩ : ∃ H : Heap, H = s.heap := ⟨_, rfl⟩
  rw [← hH] at hP hS
  have hS : va_S A s.heap H [] := by rw [hH]; exact va_S.rf
  suffices hgo : W p l e ({ frames := 0, cells := 0, slots := 0, locals := 0 }) s m [.ref g, .int (bI b)].toArray below meth c H [] 0 0 (MQ below _ [.ref g, .int (bI b)].toArray s 0 0 A) (F0 m 0 ls []) by rw [hH] at hgo; exact hgo
  generalize ([] : List Loc) = locs at hS ⊢
  refine lv_aload_n hx hb d_G_addPoint_0 rfl (lv_at hl 0 rfl) ?_
  refine va_get (D := (dC, dI)) (ci := 0) (v := .int (nI gP)) (C := R_G) (T := F_G) (N := 7) hx hb hts i_G hown hK hP 0 rfl rfl 3 (by decide) (hts _ wd_81) (fun _ h9 => h9) rfl d_G_addPoint_1 ?_
  refine lv_istore_n (lv' := [(2, .int (nI gP)), (0, .ref g), (1, .int (bI b))]) hx hb d_G_addPoint_4 rfl hl (by decide) rfl (fun ls hl => ?_)
  refine lv_iload_n hx hb d_G_addPoint_5 rfl (lv_at hl 2 rfl) ?_
  refine lv_if_eq (tgt := 21) hx hb d_G_addPoint_6 (by decide) (fun c_1 => ?_) (fun c_1 => ?_)
  · have c_1 : b = false := bI_f c_1
    refine lv_aload_n hx hb d_G_addPoint_21 rfl (lv_at hl 1 rfl) ?_
    refine lv_iload_n hx hb d_G_addPoint_22 rfl (lv_at hl 0 rfl) ?_
    refine lv_iconst (v := nI 1) hx hb d_G_addPoint_23 (by decide) ?_
    refine lv_iadd hx hb d_G_addPoint_24 ?_
    refine lv_topi (fun x_2 ex_2 => ?_)
    have ex_2 : x_2 = nI (gP + 1) := ex_2.trans (nI_add _ _)
    subst ex_2
    refine va_put (D := (dC, dI)) (ci := 0) (v := .int (nI (gP + 1))) (ty := .int) (C := R_G) (T := F_G) (N := 7) hx hb hts i_G t_G t_G_ok n_G hown hK hP hD hS 0 rfl rfl 3 (by decide) (hts _ wd_81) (fun _ h9 => h9) rfl (by decide +kernel) (rfl) (rfl) (Nat.le_of_ble_eq_true rfl) d_G_addPoint_25 (fun H locs hP hD hS => ?_)
    have hP : va_P (dC, dI) gd_cl [(g, .inr (0, [.ref g1, .ref g2, .ref g3, .int (nI (gP + 1)), .int (nI gE), .int gB, .int gF])), (g1, .inl (cI, 60, .inl (fun q => nI (gA q)))), (g2, .inl (cI, 60, .inl (fun q => nI (gC q)))), (g3, .inl (cI, 60, .inl (fun q => nI (gL q))))] H := hP
    have hD : va_D A [(g, .inr (0, [.ref g1, .ref g2, .ref g3, .int (nI (gP + 1)), .int (nI gE), .int gB, .int gF])), (g1, .inl (cI, 60, .inl (fun q => nI (gA q)))), (g2, .inl (cI, 60, .inl (fun q => nI (gC q)))), (g3, .inl (cI, 60, .inl (fun q => nI (gL q))))] := hD
    refine lv_iload_n hx hb d_G_addPoint_28 rfl (lv_at hl 0 rfl) ?_
    exact gd_iret (v := nI gP) hx hb hr hlocks hK hP hD hS (gP + 1, gB) [0, 1, 2, 3] rfl rfl (⟨by first | rfl | (simp only [gm_addB, c_1, Bool.not_true, Bool.not_false, Bool.and_true, Bool.true_and, Bool.and_false, Bool.false_and, Bool.or_true, Bool.true_or, Bool.or_false, Bool.false_or, eq_self, reduceIte, reduceCtorEq] <;> rfl), by first | rfl | (simp only [gm_addB, c_1, Bool.not_true, Bool.not_false, Bool.and_true, Bool.true_and, Bool.and_false, Bool.false_and, Bool.or_true, Bool.true_or, Bool.or_false, Bool.false_or, eq_self, reduceIte, reduceCtorEq] <;> rfl), by first | rfl | (simp only [gm_addB, c_1, Bool.not_true, Bool.not_false, Bool.and_true, Bool.true_and, Bool.and_false, Bool.false_and, Bool.or_true, Bool.true_or, Bool.or_false, Bool.false_or, eq_self, reduceIte, reduceCtorEq] <;> rfl)⟩) d_G_addPoint_29
  · have c_1 : b = true := bI_t c_1
    refine lv_aload_n hx hb d_G_addPoint_9 rfl (lv_at hl 1 rfl) ?_
    refine lv_dup hx hb d_G_addPoint_10 rfl ?_
    refine va_get (D := (dC, dI)) (ci := 0) (v := .int gB) (C := R_G) (T := F_G) (N := 7) hx hb hts i_G hown hK hP 0 rfl rfl 5 (by decide) (hts _ wd_88) (fun _ h9 => h9) rfl d_G_addPoint_11 ?_
    refine lv_iconst (v := nI 1) hx hb d_G_addPoint_14 (by decide) ?_
    refine lv_iload_n hx hb d_G_addPoint_15 rfl (lv_at hl 0 rfl) ?_
    refine lv_ishl hx hb d_G_addPoint_16 ?_
    refine lv_ior hx hb d_G_addPoint_17 ?_
    refine va_put (D := (dC, dI)) (ci := 0) (v := .int (gB ||| (jsh (nI 1) (nI gP)))) (ty := .int) (C := R_G) (T := F_G) (N := 7) hx hb hts i_G t_G t_G_ok n_G hown hK hP hD hS 0 rfl rfl 5 (by decide) (hts _ wd_88) (fun _ h9 => h9) rfl (by decide +kernel) (rfl) (rfl) (Nat.le_of_ble_eq_true rfl) d_G_addPoint_18 (fun H locs hP hD hS => ?_)
    have hP : va_P (dC, dI) gd_cl [(g, .inr (0, [.ref g1, .ref g2, .ref g3, .int (nI gP), .int (nI gE), .int (gB ||| (jsh (nI 1) (nI gP))), .int gF])), (g1, .inl (cI, 60, .inl (fun q => nI (gA q)))), (g2, .inl (cI, 60, .inl (fun q => nI (gC q)))), (g3, .inl (cI, 60, .inl (fun q => nI (gL q))))] H := hP
    have hD : va_D A [(g, .inr (0, [.ref g1, .ref g2, .ref g3, .int (nI gP), .int (nI gE), .int (gB ||| (jsh (nI 1) (nI gP))), .int gF])), (g1, .inl (cI, 60, .inl (fun q => nI (gA q)))), (g2, .inl (cI, 60, .inl (fun q => nI (gC q)))), (g3, .inl (cI, 60, .inl (fun q => nI (gL q))))] := hD
    refine lv_aload_n hx hb d_G_addPoint_21 rfl (lv_at hl 1 rfl) ?_
    refine lv_iload_n hx hb d_G_addPoint_22 rfl (lv_at hl 0 rfl) ?_
    refine lv_iconst (v := nI 1) hx hb d_G_addPoint_23 (by decide) ?_
    refine lv_iadd hx hb d_G_addPoint_24 ?_
    refine lv_topi (fun x_3 ex_3 => ?_)
    have ex_3 : x_3 = nI (gP + 1) := ex_3.trans (nI_add _ _)
    subst ex_3
    refine va_put (D := (dC, dI)) (ci := 0) (v := .int (nI (gP + 1))) (ty := .int) (C := R_G) (T := F_G) (N := 7) hx hb hts i_G t_G t_G_ok n_G hown hK hP hD hS 0 rfl rfl 3 (by decide) (hts _ wd_81) (fun _ h9 => h9) rfl (by decide +kernel) (rfl) (rfl) (Nat.le_of_ble_eq_true rfl) d_G_addPoint_25 (fun H locs hP hD hS => ?_)
    have hP : va_P (dC, dI) gd_cl [(g, .inr (0, [.ref g1, .ref g2, .ref g3, .int (nI (gP + 1)), .int (nI gE), .int (gB ||| (jsh (nI 1) (nI gP))), .int gF])), (g1, .inl (cI, 60, .inl (fun q => nI (gA q)))), (g2, .inl (cI, 60, .inl (fun q => nI (gC q)))), (g3, .inl (cI, 60, .inl (fun q => nI (gL q))))] H := hP
    have hD : va_D A [(g, .inr (0, [.ref g1, .ref g2, .ref g3, .int (nI (gP + 1)), .int (nI gE), .int (gB ||| (jsh (nI 1) (nI gP))), .int gF])), (g1, .inl (cI, 60, .inl (fun q => nI (gA q)))), (g2, .inl (cI, 60, .inl (fun q => nI (gC q)))), (g3, .inl (cI, 60, .inl (fun q => nI (gL q))))] := hD
    refine lv_iload_n hx hb d_G_addPoint_28 rfl (lv_at hl 0 rfl) ?_
    exact gd_iret (v := nI gP) hx hb hr hlocks hK hP hD hS (gP + 1, gB ||| (jsh (nI 1) (nI gP))) [0, 1, 2, 3] rfl rfl (⟨by first | rfl | (simp only [gm_addB, c_1, Bool.not_true, Bool.not_false, Bool.and_true, Bool.true_and, Bool.and_false, Bool.false_and, Bool.or_true, Bool.true_or, Bool.or_false, Bool.false_or, eq_self, reduceIte, reduceCtorEq] <;> rfl), by first | rfl | (simp only [gm_addB, c_1, Bool.not_true, Bool.not_false, Bool.and_true, Bool.true_and, Bool.and_false, Bool.false_and, Bool.or_true, Bool.true_or, Bool.or_false, Bool.false_or, eq_self, reduceIte, reduceCtorEq] <;> rfl), by first | rfl | (simp only [gm_addB, c_1, Bool.not_true, Bool.not_false, Bool.and_true, Bool.true_and, Bool.and_false, Bool.false_and, Bool.or_true, Bool.true_or, Bool.or_false, Bool.false_or, eq_self, reduceIte, reduceCtorEq] <;> rfl)⟩) d_G_addPoint_29
set_option maxHeartbeats 4000000 in
set_option maxRecDepth 100000 in
theorem c_G_addEdge (l : Launch) (dC : Nat → ClassId) (dI : Nat → Nat → Nat) (cI cJ cZ : ClassId) (g g1 g2 g3 : Nat) (sz : Nat) (gA : Nat → Nat) (gC : Nat → Nat) (gL : Nat → Nat) (gP : Nat) (gE : Nat) (gB : Int32) (gF : Int32) (x : Nat) (y : Nat) (z : Nat) (hgP : gP ≤ 30) (hgE : gE ≤ 60) (hgA : ∀ q, gA q < 30) (hgC : ∀ q, gC q < 30) (hgL : ∀ q, gL q ≤ 20) (hE : gE < 60) : Met l y_G_addEdge w_G_addEdge ({ frames := 0, cells := 0, slots := 0, locals := 0 }) (va_Pc [.ref g, .int (nI x), .int (nI y), .int (nI z)] (gd_Pre (dC, dI) gd_cl [(cI, .int), (cJ, .long), (cZ, .boolean)] [(g, .inr (0, [.ref g1, .ref g2, .ref g3, .int (nI gP), .int (nI gE), .int gB, .int gF])), (g1, .inl (cI, 60, .inl (fun q => nI (gA q)))), (g2, .inl (cI, 60, .inl (fun q => nI (gC q)))), (g3, .inl (cI, 60, .inl (fun q => nI (gL q))))] sz)) (va_Qi (fun (r : Int32) (u : Nat × (Nat → Nat) × (Nat → Nat) × (Nat → Nat)) => r = nI gE ∧ u.1 = gE + 1 ∧ u.2.1 = gd_uN gA gE x ∧ u.2.2.1 = gd_uN gC gE y ∧ u.2.2.2 = gd_uN gL gE z) (fun (u : Nat × (Nat → Nat) × (Nat → Nat) × (Nat → Nat)) t => gd_Post (dC, dI) gd_cl [(cI, .int), (cJ, .long), (cZ, .boolean)] (va_A [(g, .inr (0, [.ref g1, .ref g2, .ref g3, .int (nI gP), .int (nI gE), .int gB, .int gF])), (g1, .inl (cI, 60, .inl (fun q => nI (gA q)))), (g2, .inl (cI, 60, .inl (fun q => nI (gC q)))), (g3, .inl (cI, 60, .inl (fun q => nI (gL q))))] sz) [(g, .inr (0, [.ref g1, .ref g2, .ref g3, .int (nI gP), .int (nI u.1), .int gB, .int gF])), (g1, .inl (cI, 60, .inl (fun q => nI (u.2.1 q)))), (g2, .inl (cI, 60, .inl (fun q => nI (u.2.2.1 q)))), (g3, .inl (cI, 60, .inl (fun q => nI (u.2.2.2 q))))] t) (va_A [(g, .inr (0, [.ref g1, .ref g2, .ref g3, .int (nI gP), .int (nI gE), .int gB, .int gF])), (g1, .inl (cI, 60, .inl (fun q => nI (gA q)))), (g2, .inl (cI, 60, .inl (fun q => nI (gC q)))), (g3, .inl (cI, 60, .inl (fun q => nI (gL q))))] sz)) 0 0 (va_A [(g, .inr (0, [.ref g1, .ref g2, .ref g3, .int (nI gP), .int (nI gE), .int gB, .int gF])), (g1, .inl (cI, 60, .inl (fun q => nI (gA q)))), (g2, .inl (cI, 60, .inl (fun q => nI (gC q)))), (g3, .inl (cI, 60, .inl (fun q => nI (gL q))))] sz) := by
  refine gd_met (maxL := 5) (ret := (some .int)) (by decide) rfl (Nat.le_of_ble_eq_true rfl) ?_
  intro p e s m below meth c ls hx hb hr hml hown hts hlocks hin hsz hK hP hD hl
  subst hsz
  have hown : s.vm.findClass R_G = some m.cls := hown
  have hr : meth.sig.returnType = (some .int) := hr
  generalize hAe : va_A [(g, .inr (0, [.ref g1, .ref g2, .ref g3, .int (nI gP), .int (nI gE), .int gB, .int gF])), (g1, .inl (cI, 60, .inl (fun q => nI (gA q)))), (g2, .inl (cI, 60, .inl (fun q => nI (gC q)))), (g3, .inl (cI, 60, .inl (fun q => nI (gL q))))] s.heap.size = A at hD ⊢
  have hA : ∀ q : Nat, s.heap.size ≤ q → A q := fun q h => by rw [← hAe]; exact Or.inr h
  have hS : va_S A s.heap s.heap [] := va_S.rf
  have hl : lv_has ls 5 [(0, .ref g), (1, .int (nI x)), (2, .int (nI y)), (3, .int (nI z))] := hl
  have hP : va_P (dC, dI) gd_cl [(g, .inr (0, [.ref g1, .ref g2, .ref g3, .int (nI gP), .int (nI gE), .int gB, .int gF])), (g1, .inl (cI, 60, .inl (fun q => nI (gA q)))), (g2, .inl (cI, 60, .inl (fun q => nI (gC q)))), (g3, .inl (cI, 60, .inl (fun q => nI (gL q))))] s.heap := hP
  obtain ⟨H, hH⟩ : ∃ H : Heap, H = s.heap := ⟨_, rfl⟩
  rw [← hH] at hP hS
  have hS : va_S A s.heap H [] := by rw [hH]; exact va_S.rf
  suffices hgo : W p l e ({ frames := 0, cells := 0, slots := 0, locals := 0 }) s m [.ref g, .int (nI x), .int (nI y), .int (nI z)].toArray below meth c H [] 0 0 (MQ below _ [.ref g, .int (nI x), .int (nI y), .int (nI z)].toArray s 0 0 A) (F0 m 0 ls []) by rw [hH] at hgo; exact hgo
  generalize ([] : List Loc) = locs at hS ⊢
  refine lv_aload_n hx hb d_G_addEdge_0 rfl (lv_at hl 0 rfl) ?_
  refine va_get (D := (dC, dI)) (ci := 0) (v := .int (nI gE)) (C := R_G) (T := F_G) (N := 7) hx hb hts i_G hown hK hP 0 rfl rfl 4 (by decide) (hts _ wd_84) (fun _ h9 => h9) rfl d_G_addEdge_1 ?_
  refine lv_istore (lv' := [(4, .int (nI gE)), (0, .ref g), (1, .int (nI x)), (2, .int (nI y)), (3, .int (nI z))]) hx hb d_G_addEdge_4 hl (by decide) rfl (fun ls hl => ?_)
  refine lv_aload_n hx hb d_G_addEdge_6 rfl (lv_at hl 1 rfl) ?_
  refine va_get (D := (dC, dI)) (ci := 0) (v := .ref g1) (C := R_G) (T := F_G) (N := 7) hx hb hts i_G hown hK hP 0 rfl rfl 0 (by decide) (hts _ wd_70) (fun _ h9 => h9) rfl d_G_addEdge_7 ?_
  refine lv_iload hx hb d_G_addEdge_10 (lv_at hl 0 rfl) ?_
  refine lv_iload_n hx hb d_G_addEdge_12 rfl (lv_at hl 2 rfl) ?_
  refine gd_iastN hx hb hK hP hD hS 1 0 rfl rfl gE x rfl rfl (by omega) (by decide) d_G_addEdge_13 (fun H locs hP hD hS => ?_)
  have hP : va_P (dC, dI) gd_cl [(g, .inr (0, [.ref g1, .ref g2, .ref g3, .int (nI gP), .int (nI gE), .int gB, .int gF])), (g1, .inl (cI, 60, .inl (fun q => nI ((gd_uN gA gE x) q)))), (g2, .inl (cI, 60, .inl (fun q => nI (gC q)))), (g3, .inl (cI, 60, .inl (fun q => nI (gL q))))] H := hP
  have hD : va_D A [(g, .inr (0, [.ref g1, .ref g2, .ref g3, .int (nI gP), .int (nI gE), .int gB, .int gF])), (g1, .inl (cI, 60, .inl (fun q => nI ((gd_uN gA gE x) q)))), (g2, .inl (cI, 60, .inl (fun q => nI (gC q)))), (g3, .inl (cI, 60, .inl (fun q => nI (gL q))))] := hD
  refine lv_aload_n hx hb d_G_addEdge_14 rfl (lv_at hl 1 rfl) ?_
  refine va_get (D := (dC, dI)) (ci := 0) (v := .ref g2) (C := R_G) (T := F_G) (N := 7) hx hb hts i_G hown hK hP 0 rfl rfl 1 (by decide) (hts _ wd_73) (fun _ h9 => h9) rfl d_G_addEdge_15 ?_
  refine lv_iload hx hb d_G_addEdge_18 (lv_at hl 0 rfl) ?_
  refine lv_iload_n hx hb d_G_addEdge_20 rfl (lv_at hl 3 rfl) ?_
  refine gd_iastN hx hb hK hP hD hS 2 0 rfl rfl gE y rfl rfl (by omega) (by decide) d_G_addEdge_21 (fun H locs hP hD hS => ?_)
  have hP : va_P (dC, dI) gd_cl [(g, .inr (0, [.ref g1, .ref g2, .ref g3, .int (nI gP), .int (nI gE), .int gB, .int gF])), (g1, .inl (cI, 60, .inl (fun q => nI ((gd_uN gA gE x) q)))), (g2, .inl (cI, 60, .inl (fun q => nI ((gd_uN gC gE y) q)))), (g3, .inl (cI, 60, .inl (fun q => nI (gL q))))] H := hP
  have hD : va_D A [(g, .inr (0, [.ref g1, .ref g2, .ref g3, .int (nI gP), .int (nI gE), .int gB, .int gF])), (g1, .inl (cI, 60, .inl (fun q => nI ((gd_uN gA gE x) q)))), (g2, .inl (cI, 60, .inl (fun q => nI ((gd_uN gC gE y) q)))), (g3, .inl (cI, 60, .inl (fun q => nI (gL q))))] := hD
  refine lv_aload_n hx hb d_G_addEdge_22 rfl (lv_at hl 1 rfl) ?_
  refine va_get (D := (dC, dI)) (ci := 0) (v := .ref g3) (C := R_G) (T := F_G) (N := 7) hx hb hts i_G hown hK hP 0 rfl rfl 2 (by decide) (hts _ wd_76) (fun _ h9 => h9) rfl d_G_addEdge_23 ?_
  refine lv_iload hx hb d_G_addEdge_26 (lv_at hl 0 rfl) ?_
  refine lv_iload_n hx hb d_G_addEdge_28 rfl (lv_at hl 4 rfl) ?_
  refine gd_iastN hx hb hK hP hD hS 3 0 rfl rfl gE z rfl rfl (by omega) (by decide) d_G_addEdge_29 (fun H locs hP hD hS => ?_)
  have hP : va_P (dC, dI) gd_cl [(g, .inr (0, [.ref g1, .ref g2, .ref g3, .int (nI gP), .int (nI gE), .int gB, .int gF])), (g1, .inl (cI, 60, .inl (fun q => nI ((gd_uN gA gE x) q)))), (g2, .inl (cI, 60, .inl (fun q => nI ((gd_uN gC gE y) q)))), (g3, .inl (cI, 60, .inl (fun q => nI ((gd_uN gL gE z) q))))] H := hP
  have hD : va_D A [(g, .inr (0, [.ref g1, .ref g2, .ref g3, .int (nI gP), .int (nI gE), .int gB, .int gF])), (g1, .inl (cI, 60, .inl (fun q => nI ((gd_uN gA gE x) q)))), (g2, .inl (cI, 60, .inl (fun q => nI ((gd_uN gC gE y) q)))), (g3, .inl (cI, 60, .inl (fun q => nI ((gd_uN gL gE z) q))))] := hD
  refine lv_aload_n hx hb d_G_addEdge_30 rfl (lv_at hl 1 rfl) ?_
  refine lv_iload hx hb d_G_addEdge_31 (lv_at hl 0 rfl) ?_
  refine lv_iconst (v := nI 1) hx hb d_G_addEdge_33 (by decide) ?_
  refine lv_iadd hx hb d_G_addEdge_34 ?_
  refine lv_topi (fun x_1 ex_1 => ?_)
  have ex_1 : x_1 = nI (gE + 1) := ex_1.trans (nI_add _ _)
  subst ex_1
  refine va_put (D := (dC, dI)) (ci := 0) (v := .int (nI (gE + 1))) (ty := .int) (C := R_G) (T := F_G) (N := 7) hx hb hts i_G t_G t_G_ok n_G hown hK hP hD hS 0 rfl rfl 4 (by decide) (hts _ wd_84) (fun _ h9 => h9) rfl (by decide +kernel) (rfl) (rfl) (Nat.le_of_ble_eq_true rfl) d_G_addEdge_35 (fun H locs hP hD hS => ?_)
  have hP : va_P (dC, dI) gd_cl [(g, .inr (0, [.ref g1, .ref g2, .ref g3, .int (nI gP), .int (nI (gE + 1)), .int gB, .int gF])), (g1, .inl (cI, 60, .inl (fun q => nI ((gd_uN gA gE x) q)))), (g2, .inl (cI, 60, .inl (fun q => nI ((gd_uN gC gE y) q)))), (g3, .inl (cI, 60, .inl (fun q => nI ((gd_uN gL gE z) q))))] H := hP
  have hD : va_D A [(g, .inr (0, [.ref g1, .ref g2, .ref g3, .int (nI gP), .int (nI (gE + 1)), .int gB, .int gF])), (g1, .inl (cI, 60, .inl (fun q => nI ((gd_uN gA gE x) q)))), (g2, .inl (cI, 60, .inl (fun q => nI ((gd_uN gC gE y) q)))), (g3, .inl (cI, 60, .inl (fun q => nI ((gd_uN gL gE z) q))))] := hD
  refine lv_iload hx hb d_G_addEdge_38 (lv_at hl 0 rfl) ?_
  exact gd_iret (v := nI gE) hx hb hr hlocks hK hP hD hS (gE + 1, gd_uN gA gE x, gd_uN gC gE y, gd_uN gL gE z) [0, 1, 2, 3] rfl rfl (⟨by rfl, by rfl, by rfl, by rfl, by rfl⟩) d_G_addEdge_40
set_option maxHeartbeats 4000000 in
set_option maxRecDepth 100000 in
theorem c_G_innerEnds (l : Launch) (dC : Nat → ClassId) (dI : Nat → Nat → Nat) (cI cJ cZ : ClassId) (g g1 g2 g3 : Nat) (sz : Nat) (gA : Nat → Nat) (gC : Nat → Nat) (gL : Nat → Nat) (gP : Nat) (gE : Nat) (gB : Int32) (gF : Int32) (x : Nat) (hgP : gP ≤ 30) (hgE : gE ≤ 60) (hgA : ∀ q, gA q < 30) (hgC : ∀ q, gC q < 30) (hgL : ∀ q, gL q ≤ 20) (hx60 : x < 60) : Met l y_G_innerEnds w_G_innerEnds ({ frames := 0, cells := 0, slots := 0, locals := 0 }) (va_Pc [.ref g, .int (nI x)] (gd_Pre (dC, dI) gd_cl [(cI, .int), (cJ, .long), (cZ, .boolean)] [(g, .inr (0, [.ref g1, .ref g2, .ref g3, .int (nI gP), .int (nI gE), .int gB, .int gF])), (g1, .inl (cI, 60, .inl (fun q => nI (gA q)))), (g2, .inl (cI, 60, .inl (fun q => nI (gC q)))), (g3, .inl (cI, 60, .inl (fun q => nI (gL q))))] sz)) (va_Qi (fun (r : Int32) (u : Unit) => r = gm_in gA gC gB x) (fun (u : Unit) t => gd_Post (dC, dI) gd_cl [(cI, .int), (cJ, .long), (cZ, .boolean)] (va_A [(g, .inr (0, [.ref g1, .ref g2, .ref g3, .int (nI gP), .int (nI gE), .int gB, .int gF])), (g1, .inl (cI, 60, .inl (fun q => nI (gA q)))), (g2, .inl (cI, 60, .inl (fun q => nI (gC q)))), (g3, .inl (cI, 60, .inl (fun q => nI (gL q))))] sz) [(g, .inr (0, [.ref g1, .ref g2, .ref g3, .int (nI gP), .int (nI gE), .int gB, .int gF])), (g1, .inl (cI, 60, .inl (fun q => nI (gA q)))), (g2, .inl (cI, 60, .inl (fun q => nI (gC q)))), (g3, .inl (cI, 60, .inl (fun q => nI (gL q))))] t) (va_A [(g, .inr (0, [.ref g1, .ref g2, .ref g3, .int (nI gP), .int (nI gE), .int gB, .int gF])), (g1, .inl (cI, 60, .inl (fun q => nI (gA q)))), (g2, .inl (cI, 60, .inl (fun q => nI (gC q)))), (g3, .inl (cI, 60, .inl (fun q => nI (gL q))))] sz)) 0 0 (va_A [(g, .inr (0, [.ref g1, .ref g2, .ref g3, .int (nI gP), .int (nI gE), .int gB, .int gF])), (g1, .inl (cI, 60, .inl (fun q => nI (gA q)))), (g2, .inl (cI, 60, .inl (fun q => nI (gC q)))), (g3, .inl (cI, 60, .inl (fun q => nI (gL q))))] sz) := by
  refine gd_met (maxL := 2) (ret := (some .int)) (by decide) rfl (Nat.le_of_ble_eq_true rfl) ?_
  intro p e s m below meth c ls hx hb hr hml hown hts hlocks hin hsz hK hP hD hl
  subst hsz
  have hown : s.vm.findClass R_G = some m.cls := hown
  have hr : meth.sig.returnType = (some .int) := hr
  generalize hAe : va_A [(g, .inr (0, [.ref g1, .ref g2, .ref g3, .int (nI gP), .int (nI gE), .int gB, .int gF])), (g1, .inl (cI, 60, .inl (fun q => nI (gA q)))), (g2, .inl (cI, 60, .inl (fun q => nI (gC q)))), (g3, .inl (cI, 60, .inl (fun q => nI (gL q))))] s.heap.size = A at hD ⊢
  have hA : ∀ q : Nat, s.heap.size ≤ q → A q := fun q h => by rw [← hAe]; exact Or.inr h
  have hS : va_S A s.heap s.heap [] := va_S.rf
  have hl : lv_has ls 2 [(0, .ref g), (1, .int (nI x))] := hl
  have hP : va_P (dC, dI) gd_cl [(g, .inr (0, [.ref g1, .ref g2, .ref g3, .int (nI gP), .int (nI gE), .int gB, .int gF])), (g1, .inl (cI, 60, .inl (fun q => nI (gA q)))), (g2, .inl (cI, 60, .inl (fun q => nI (gC q)))), (g3, .inl (cI, 60, .inl (fun q => nI (gL q))))] s.heap := hP
  obtain ⟨H, hH⟩ : ∃ H : Heap, H = s.heap := ⟨_, rfl⟩
  rw [← hH] at hP hS
  have hS : va_S A s.heap H [] := by rw [hH]; exact va_S.rf
  suffices hgo : W p l e ({ frames := 0, cells := 0, slots := 0, locals := 0 }) s m [.ref g, .int (nI x)].toArray below meth c H [] 0 0 (MQ below _ [.ref g, .int (nI x)].toArray s 0 0 A) (F0 m 0 ls []) by rw [hH] at hgo; exact hgo
  generalize ([] : List Loc) = locs at hS ⊢
  refine lv_iconst (v := nI 1) hx hb d_G_innerEnds_0 (by decide) ?_
  refine lv_aload_n hx hb d_G_innerEnds_1 rfl (lv_at hl 0 rfl) ?_
  refine va_get (D := (dC, dI)) (ci := 0) (v := .ref g1) (C := R_G) (T := F_G) (N := 7) hx hb hts i_G hown hK hP 0 rfl rfl 0 (by decide) (hts _ wd_70) (fun _ h9 => h9) rfl d_G_innerEnds_2 ?_
  refine lv_iload_n hx hb d_G_innerEnds_5 rfl (lv_at hl 1 rfl) ?_
  refine gd_ialdN hx hb hK hP 1 0 rfl rfl x rfl (by omega) (by decide) d_G_innerEnds_6 ?_
  have q_1 := hgA x
  refine lv_ishl hx hb d_G_innerEnds_7 ?_
  refine lv_iconst (v := nI 1) hx hb d_G_innerEnds_8 (by decide) ?_
  refine lv_aload_n hx hb d_G_innerEnds_9 rfl (lv_at hl 0 rfl) ?_
  refine va_get (D := (dC, dI)) (ci := 0) (v := .ref g2) (C := R_G) (T := F_G) (N := 7) hx hb hts i_G hown hK hP 0 rfl rfl 1 (by decide) (hts _ wd_73) (fun _ h9 => h9) rfl d_G_innerEnds_10 ?_
  refine lv_iload_n hx hb d_G_innerEnds_13 rfl (lv_at hl 1 rfl) ?_
  refine gd_ialdN hx hb hK hP 2 0 rfl rfl x rfl (by omega) (by decide) d_G_innerEnds_14 ?_
  have q_2 := hgC x
  refine lv_ishl hx hb d_G_innerEnds_15 ?_
  refine lv_ior hx hb d_G_innerEnds_16 ?_
  refine lv_aload_n hx hb d_G_innerEnds_17 rfl (lv_at hl 0 rfl) ?_
  refine va_get (D := (dC, dI)) (ci := 0) (v := .int gB) (C := R_G) (T := F_G) (N := 7) hx hb hts i_G hown hK hP 0 rfl rfl 5 (by decide) (hts _ wd_88) (fun _ h9 => h9) rfl d_G_innerEnds_18 ?_
  refine lv_iconst (v := (-1)) hx hb d_G_innerEnds_21 (by decide) ?_
  refine lv_ixor hx hb d_G_innerEnds_22 ?_
  refine lv_iand hx hb d_G_innerEnds_23 ?_
  exact gd_iret (v := ((jsh (nI 1) (nI (gA x))) ||| (jsh (nI 1) (nI (gC x)))) &&& (gB ^^^ (-1))) hx hb hr hlocks hK hP hD hS () [0, 1, 2, 3] rfl rfl (by rfl) d_G_innerEnds_24
set_option maxHeartbeats 4000000 in
set_option maxRecDepth 100000 in
theorem lp_G_oddEnds_5 {p : Program} {l : Launch} {e : Env} {s : State} {m : MethodId} {args : Array Value} {below : List Frame} {meth : Method} {c : Code} {Q : State → Prop} {A : Nat → Prop} {dC : Nat → ClassId} {dI : Nat → Nat → Nat} {cI cJ cZ : ClassId} (hx : p.tables.exec = Jvm.exec) (hb : c.code = b_G_oddEnds) (hml : c.maxLocals = 5) (hown : s.vm.findClass R_G = some m.cls) (hts : ∀ w ∈ gd_tb, w.before args s = true) (hK : va_K (dC, dI) gd_cl [(cI, .int), (cJ, .long), (cZ, .boolean)] s) (hA : ∀ q : Nat, s.heap.size ≤ q → A q) (g g1 g2 g3 : Nat) (gA : Nat → Nat) (gC : Nat → Nat) (gL : Nat → Nat) (gP : Nat) (gE : Nat) (gB : Int32) (gF : Int32) (x : Int64) (hgP : gP ≤ 30) (hgE : gE ≤ 60) (hgA : ∀ q, gA q < 30) (hgC : ∀ q, gC q < 30) (hgL : ∀ q, gL q ≤ 20) :
  ∀ (nn i : Nat), i + nn = gE → ∀ (H : Heap) (locs : List Loc) (ls : Array Slot), va_P (dC, dI) gd_cl [(g, .inr (0, [.ref g1, .ref g2, .ref g3, .int (nI gP), .int (nI gE), .int gB, .int gF])), (g1, .inl (cI, 60, .inl (fun q => nI (gA q)))), (g2, .inl (cI, 60, .inl (fun q => nI (gC q)))), (g3, .inl (cI, 60, .inl (fun q => nI (gL q))))] H → va_D A [(g, .inr (0, [.ref g1, .ref g2, .ref g3, .int (nI gP), .int (nI gE), .int gB, .int gF])), (g1, .inl (cI, 60, .inl (fun q => nI (gA q)))), (g2, .inl (cI, 60, .inl (fun q => nI (gC q)))), (g3, .inl (cI, 60, .inl (fun q => nI (gL q))))] → va_S A s.heap H locs → lv_has ls 5 [(0, .ref g), (1, .long x), (3, .int (gm_odd gA gC gB x i)), (4, .int (nI i))] → (∀ (H : Heap) (locs : List Loc) (ls : Array Slot), va_P (dC, dI) gd_cl [(g, .inr (0, [.ref g1, .ref g2, .ref g3, .int (nI gP), .int (nI gE), .int gB, .int gF])), (g1, .inl (cI, 60, .inl (fun q => nI (gA q)))), (g2, .inl (cI, 60, .inl (fun q => nI (gC q)))), (g3, .inl (cI, 60, .inl (fun q => nI (gL q))))] H → va_D A [(g, .inr (0, [.ref g1, .ref g2, .ref g3, .int (nI gP), .int (nI gE), .int gB, .int gF])), (g1, .inl (cI, 60, .inl (fun q => nI (gA q)))), (g2, .inl (cI, 60, .inl (fun q => nI (gC q)))), (g3, .inl (cI, 60, .inl (fun q => nI (gL q))))] → va_S A s.heap H locs → lv_has ls 5 [(0, .ref g), (1, .long x), (3, .int (gm_odd gA gC gB x gE)), (4, .int (nI gE))] → W p l e { frames := 1, cells := 0, slots := 0, locals := 21 } s m args below meth c H locs 0 0 Q (F0 m 40 ls [])) → W p l e { frames := 1, cells := 0, slots := 0, locals := 21 } s m args below meth c H locs 0 0 Q (F0 m 5 ls []) := by
  intro nn
  induction nn with
  | zero =>
    intro i hin H locs ls hP hD hS hl K
    have hi : i = gE := by omega
    refine lv_iload hx hb d_G_oddEnds_5 (lv_at hl 3 rfl) ?_
    refine lv_aload_n hx hb d_G_oddEnds_7 rfl (lv_at hl 0 rfl) ?_
    refine va_get (D := (dC, dI)) (ci := 0) (v := .int (nI gE)) (C := R_G) (T := F_G) (N := 7) hx hb hts i_G hown hK hP 0 rfl rfl 4 (by decide) (hts _ wd_84) (fun _ h9 => h9) rfl d_G_oddEnds_8 ?_
    refine lv_icmp_ge (tgt := 40) hx hb d_G_oddEnds_11 (by decide) (fun c_1 => ?_) (fun c_1 => ?_)
    · have c_1 : gE ≤ i := (nI_leI (by omega) (by omega)).mp c_1
      subst hi
      exact K H locs ls (hP.sub [0, 1, 2, 3] rfl) (hD.sub [0, 1, 2, 3] rfl rfl) hS (lv_sub hl [0, 1, 2, 3] rfl)
    · have c_1 : ¬ (gE ≤ i) := fun h => c_1 ((nI_leI (by omega) (by omega)).mpr h)
      refine lv_lload_n hx hb d_G_oddEnds_14 rfl (lv_at hl 1 rfl) ?_
      refine lv_iload hx hb d_G_oddEnds_15 (lv_at hl 3 rfl) ?_
      refine lv_lushr (v := jul x (nI i)) hx hb d_G_oddEnds_17 rfl ?_
      refine lv_lconst (v := 1) hx hb d_G_oddEnds_18 (by decide) ?_
      refine lv_land hx hb d_G_oddEnds_19 ?_
      refine lv_lconst (v := 0) hx hb d_G_oddEnds_20 (by decide) ?_
      refine W.lcmp hx hb d_G_oddEnds_21 ?_
      refine lv_if_eq (tgt := 34) hx hb d_G_oddEnds_22 (by decide) (fun c_2 => ?_) (fun c_2 => ?_)
      · have c_2 : (jbl x (nI i)) = 0 := lc_eq.mp c_2
        refine lv_iinc (v := nI (i + 1)) (lv' := [(4, .int (nI (i + 1))), (0, .ref g), (1, .long x), (3, .int (gm_odd gA gC gB x i))]) hx hb d_G_oddEnds_34 hl (k := 3) rfl (gd_inc _ 1) (by decide) rfl (fun ls hl => ?_)
        refine lv_goto (tgt := 5) hx hb d_G_oddEnds_37 (by decide) ?_
        exact absurd hi (by omega)
      · have c_2 : ¬ ((jbl x (nI i)) = 0) := fun h => c_2 (lc_eq.mpr h)
        refine lv_iload_n hx hb d_G_oddEnds_25 rfl (lv_at hl 2 rfl) ?_
        refine lv_aload_n hx hb d_G_oddEnds_26 rfl (lv_at hl 0 rfl) ?_
        refine lv_iload hx hb d_G_oddEnds_27 (lv_at hl 3 rfl) ?_
        refine gd_ki (wr := []) (va_runV (As := [.int (nI i)]) (rest := [.int (gm_odd gA gC gB x i)]) ⟨hx, hb, hml, hown, hts⟩ (c_G_innerEnds l dC dI cI cJ cZ g g1 g2 g3 H.size gA gC gL gP gE gB gF i hgP hgE hgA hgC hgL (by omega)) ⟨cb_G_innerEnds (rm := { frames := 0, cells := 0, slots := 0, locals := 0 }) hts wd_357 ⟨Nat.le_of_ble_eq_true rfl, Nat.le_of_ble_eq_true rfl⟩, hts _ wd_358, hts _ wd_359⟩ ⟨gd_blind, va_recv hK hP (ci := 0) (q0 := 0) rfl rfl, gd_pre (wc := [(g, .inr (0, [.ref g1, .ref g2, .ref g3, .int (nI gP), .int (nI gE), .int gB, .int gF])), (g1, .inl (cI, 60, .inl (fun q => nI (gA q)))), (g2, .inl (cI, 60, .inl (fun q => nI (gC q)))), (g3, .inl (cI, 60, .inl (fun q => nI (gL q))))]) hK hP hD [0, 1, 2, 3] rfl rfl _⟩ rfl rfl hl.1 rfl (lv_room (Nat.le_of_ble_eq_true rfl)) d_G_oddEnds_29 ⟨Nat.le_of_ble_eq_true rfl, Nat.le_of_ble_eq_true rfl⟩) hP hD hS hA [0, 1, 2, 3] [] rfl rfl rfl (by decide) (fun r_3 u_3 H locs hw_3 hP hD hS => ?_)
        try dsimp only at hw_3 hP hD
        obtain rfl := hw_3
        have hP : va_P (dC, dI) gd_cl [(g, .inr (0, [.ref g1, .ref g2, .ref g3, .int (nI gP), .int (nI gE), .int gB, .int gF])), (g1, .inl (cI, 60, .inl (fun q => nI (gA q)))), (g2, .inl (cI, 60, .inl (fun q => nI (gC q)))), (g3, .inl (cI, 60, .inl (fun q => nI (gL q))))] H := hP
        have hD : va_D A [(g, .inr (0, [.ref g1, .ref g2, .ref g3, .int (nI gP), .int (nI gE), .int gB, .int gF])), (g1, .inl (cI, 60, .inl (fun q => nI (gA q)))), (g2, .inl (cI, 60, .inl (fun q => nI (gC q)))), (g3, .inl (cI, 60, .inl (fun q => nI (gL q))))] := hD
        refine lv_ixor hx hb d_G_oddEnds_32 ?_
        refine lv_istore_n (lv' := [(3, .int ((gm_odd gA gC gB x i) ^^^ (gm_in gA gC gB i))), (0, .ref g), (1, .long x), (4, .int (nI i))]) hx hb d_G_oddEnds_33 rfl hl (by decide) rfl (fun ls hl => ?_)
        refine lv_iinc (v := nI (i + 1)) (lv' := [(4, .int (nI (i + 1))), (3, .int ((gm_odd gA gC gB x i) ^^^ (gm_in gA gC gB i))), (0, .ref g), (1, .long x)]) hx hb d_G_oddEnds_34 hl (k := 3) rfl (gd_inc _ 1) (by decide) rfl (fun ls hl => ?_)
        refine lv_goto (tgt := 5) hx hb d_G_oddEnds_37 (by decide) ?_
        exact absurd hi (by omega)
  | succ nn ih =>
    intro i hin H locs ls hP hD hS hl K
    have hi : i < gE := by omega
    refine lv_iload hx hb d_G_oddEnds_5 (lv_at hl 3 rfl) ?_
    refine lv_aload_n hx hb d_G_oddEnds_7 rfl (lv_at hl 0 rfl) ?_
    refine va_get (D := (dC, dI)) (ci := 0) (v := .int (nI gE)) (C := R_G) (T := F_G) (N := 7) hx hb hts i_G hown hK hP 0 rfl rfl 4 (by decide) (hts _ wd_84) (fun _ h9 => h9) rfl d_G_oddEnds_8 ?_
    refine lv_icmp_ge (tgt := 40) hx hb d_G_oddEnds_11 (by decide) (fun c_4 => ?_) (fun c_4 => ?_)
    · have c_4 : gE ≤ i := (nI_leI (by omega) (by omega)).mp c_4
      exact absurd hi (by omega)
    · have c_4 : ¬ (gE ≤ i) := fun h => c_4 ((nI_leI (by omega) (by omega)).mpr h)
      refine lv_lload_n hx hb d_G_oddEnds_14 rfl (lv_at hl 1 rfl) ?_
      refine lv_iload hx hb d_G_oddEnds_15 (lv_at hl 3 rfl) ?_
      refine lv_lushr (v := jul x (nI i)) hx hb d_G_oddEnds_17 rfl ?_
      refine lv_lconst (v := 1) hx hb d_G_oddEnds_18 (by decide) ?_
      refine lv_land hx hb d_G_oddEnds_19 ?_
      refine lv_lconst (v := 0) hx hb d_G_oddEnds_20 (by decide) ?_
      refine W.lcmp hx hb d_G_oddEnds_21 ?_
      refine lv_if_eq (tgt := 34) hx hb d_G_oddEnds_22 (by decide) (fun c_5 => ?_) (fun c_5 => ?_)
      · have c_5 : (jbl x (nI i)) = 0 := lc_eq.mp c_5
        refine lv_iinc (v := nI (i + 1)) (lv' := [(4, .int (nI (i + 1))), (0, .ref g), (1, .long x), (3, .int (gm_odd gA gC gB x i))]) hx hb d_G_oddEnds_34 hl (k := 3) rfl (gd_inc _ 1) (by decide) rfl (fun ls hl => ?_)
        refine lv_goto (tgt := 5) hx hb d_G_oddEnds_37 (by decide) ?_
        have e_6 : gm_odd gA gC gB x (i + 1) = gm_odd gA gC gB x i := by first | rfl | (simp only [gm_odd, decide_eq_false c_4, if_neg c_4, decide_eq_true c_5, if_pos c_5, Bool.not_true, Bool.not_false, Bool.and_true, Bool.true_and, Bool.and_false, Bool.false_and, Bool.or_true, Bool.true_or, Bool.or_false, Bool.false_or, eq_self, reduceIte, reduceCtorEq] <;> rfl)
        exact ih (i + 1) (by omega) H locs ls (by exact hP.sub [0, 1, 2, 3] rfl) (by exact hD.sub [0, 1, 2, 3] rfl rfl) hS (by rw [e_6]; exact lv_sub hl [1, 2, 3, 0] rfl) K
      · have c_5 : ¬ ((jbl x (nI i)) = 0) := fun h => c_5 (lc_eq.mpr h)
        refine lv_iload_n hx hb d_G_oddEnds_25 rfl (lv_at hl 2 rfl) ?_
        refine lv_aload_n hx hb d_G_oddEnds_26 rfl (lv_at hl 0 rfl) ?_
        refine lv_iload hx hb d_G_oddEnds_27 (lv_at hl 3 rfl) ?_
        refine gd_ki (wr := []) (va_runV (As := [.int (nI i)]) (rest := [.int (gm_odd gA gC gB x i)]) ⟨hx, hb, hml, hown, hts⟩ (c_G_innerEnds l dC dI cI cJ cZ g g1 g2 g3 H.size gA gC gL gP gE gB gF i hgP hgE hgA hgC hgL (by omega)) ⟨cb_G_innerEnds (rm := { frames := 0, cells := 0, slots := 0, locals := 0 }) hts wd_357 ⟨Nat.le_of_ble_eq_true rfl, Nat.le_of_ble_eq_true rfl⟩, hts _ wd_358, hts _ wd_359⟩ ⟨gd_blind, va_recv hK hP (ci := 0) (q0 := 0) rfl rfl, gd_pre (wc := [(g, .inr (0, [.ref g1, .ref g2, .ref g3, .int (nI gP), .int (nI gE), .int gB, .int gF])), (g1, .inl (cI, 60, .inl (fun q => nI (gA q)))), (g2, .inl (cI, 60, .inl (fun q => nI (gC q)))), (g3, .inl (cI, 60, .inl (fun q => nI (gL q))))]) hK hP hD [0, 1, 2, 3] rfl rfl _⟩ rfl rfl hl.1 rfl (lv_room (Nat.le_of_ble_eq_true rfl)) d_G_oddEnds_29 ⟨Nat.le_of_ble_eq_true rfl, Nat.le_of_ble_eq_true rfl⟩) hP hD hS hA [0, 1, 2, 3] [] rfl rfl rfl (by decide) (fun r_7 u_7 H locs hw_7 hP hD hS => ?_)
        try dsimp only at hw_7 hP hD
        obtain rfl := hw_7
        have hP : va_P (dC, dI) gd_cl [(g, .inr (0, [.ref g1, .ref g2, .ref g3, .int (nI gP), .int (nI gE), .int gB, .int gF])), (g1, .inl (cI, 60, .inl (fun q => nI (gA q)))), (g2, .inl (cI, 60, .inl (fun q => nI (gC q)))), (g3, .inl (cI, 60, .inl (fun q => nI (gL q))))] H := hP
        have hD : va_D A [(g, .inr (0, [.ref g1, .ref g2, .ref g3, .int (nI gP), .int (nI gE), .int gB, .int gF])), (g1, .inl (cI, 60, .inl (fun q => nI (gA q)))), (g2, .inl (cI, 60, .inl (fun q => nI (gC q)))), (g3, .inl (cI, 60, .inl (fun q => nI (gL q))))] := hD
        refine lv_ixor hx hb d_G_oddEnds_32 ?_
        refine lv_istore_n (lv' := [(3, .int ((gm_odd gA gC gB x i) ^^^ (gm_in gA gC gB i))), (0, .ref g), (1, .long x), (4, .int (nI i))]) hx hb d_G_oddEnds_33 rfl hl (by decide) rfl (fun ls hl => ?_)
        refine lv_iinc (v := nI (i + 1)) (lv' := [(4, .int (nI (i + 1))), (3, .int ((gm_odd gA gC gB x i) ^^^ (gm_in gA gC gB i))), (0, .ref g), (1, .long x)]) hx hb d_G_oddEnds_34 hl (k := 3) rfl (gd_inc _ 1) (by decide) rfl (fun ls hl => ?_)
        refine lv_goto (tgt := 5) hx hb d_G_oddEnds_37 (by decide) ?_
        have e_8 : gm_odd gA gC gB x (i + 1) = (gm_odd gA gC gB x i) ^^^ (gm_in gA gC gB i) := by first | rfl | (simp only [gm_odd, decide_eq_false c_4, if_neg c_4, decide_eq_false c_5, if_neg c_5, Bool.not_true, Bool.not_false, Bool.and_true, Bool.true_and, Bool.and_false, Bool.false_and, Bool.or_true, Bool.true_or, Bool.or_false, Bool.false_or, eq_self, reduceIte, reduceCtorEq] <;> rfl)
        exact ih (i + 1) (by omega) H locs ls (by exact hP.sub [0, 1, 2, 3] rfl) (by exact hD.sub [0, 1, 2, 3] rfl rfl) hS (by rw [e_8]; exact lv_sub hl [2, 3, 1, 0] rfl) K
set_option maxHeartbeats 4000000 in
set_option maxRecDepth 100000 in
theorem c_G_oddEnds (l : Launch) (dC : Nat → ClassId) (dI : Nat → Nat → Nat) (cI cJ cZ : ClassId) (g g1 g2 g3 : Nat) (sz : Nat) (gA : Nat → Nat) (gC : Nat → Nat) (gL : Nat → Nat) (gP : Nat) (gE : Nat) (gB : Int32) (gF : Int32) (x : Int64) (hgP : gP ≤ 30) (hgE : gE ≤ 60) (hgA : ∀ q, gA q < 30) (hgC : ∀ q, gC q < 30) (hgL : ∀ q, gL q ≤ 20) : Met l y_G_oddEnds w_G_oddEnds ({ frames := 1, cells := 0, slots := 0, locals := 21 }) (va_Pc [.ref g, .long x] (gd_Pre (dC, dI) gd_cl [(cI, .int), (cJ, .long), (cZ, .boolean)] [(g, .inr (0, [.ref g1, .ref g2, .ref g3, .int (nI gP), .int (nI gE), .int gB, .int gF])), (g1, .inl (cI, 60, .inl (fun q => nI (gA q)))), (g2, .inl (cI, 60, .inl (fun q => nI (gC q)))), (g3, .inl (cI, 60, .inl (fun q => nI (gL q))))] sz)) (va_Qi (fun (r : Int32) (u : Unit) => r = gm_odd gA gC gB x gE) (fun (u : Unit) t => gd_Post (dC, dI) gd_cl [(cI, .int), (cJ, .long), (cZ, .boolean)] (va_A [(g, .inr (0, [.ref g1, .ref g2, .ref g3, .int (nI gP), .int (nI gE), .int gB, .int gF])), (g1, .inl (cI, 60, .inl (fun q => nI (gA q)))), (g2, .inl (cI, 60, .inl (fun q => nI (gC q)))), (g3, .inl (cI, 60, .inl (fun q => nI (gL q))))] sz) [(g, .inr (0, [.ref g1, .ref g2, .ref g3, .int (nI gP), .int (nI gE), .int gB, .int gF])), (g1, .inl (cI, 60, .inl (fun q => nI (gA q)))), (g2, .inl (cI, 60, .inl (fun q => nI (gC q)))), (g3, .inl (cI, 60, .inl (fun q => nI (gL q))))] t) (va_A [(g, .inr (0, [.ref g1, .ref g2, .ref g3, .int (nI gP), .int (nI gE), .int gB, .int gF])), (g1, .inl (cI, 60, .inl (fun q => nI (gA q)))), (g2, .inl (cI, 60, .inl (fun q => nI (gC q)))), (g3, .inl (cI, 60, .inl (fun q => nI (gL q))))] sz)) 0 0 (va_A [(g, .inr (0, [.ref g1, .ref g2, .ref g3, .int (nI gP), .int (nI gE), .int gB, .int gF])), (g1, .inl (cI, 60, .inl (fun q => nI (gA q)))), (g2, .inl (cI, 60, .inl (fun q => nI (gC q)))), (g3, .inl (cI, 60, .inl (fun q => nI (gL q))))] sz) := by
  refine gd_met (maxL := 5) (ret := (some .int)) (by decide) rfl (Nat.le_of_ble_eq_true rfl) ?_
  intro p e s m below meth c ls hx hb hr hml hown hts hlocks hin hsz hK hP hD hl
  subst hsz
  have hown : s.vm.findClass R_G = some m.cls := hown
  have hr : meth.sig.returnType = (some .int) := hr
  generalize hAe : va_A [(g, .inr (0, [.ref g1, .ref g2, .ref g3, .int (nI gP), .int (nI gE), .int gB, .int gF])), (g1, .inl (cI, 60, .inl (fun q => nI (gA q)))), (g2, .inl (cI, 60, .inl (fun q => nI (gC q)))), (g3, .inl (cI, 60, .inl (fun q => nI (gL q))))] s.heap.size = A at hD ⊢
  have hA : ∀ q : Nat, s.heap.size ≤ q → A q := fun q h => by rw [← hAe]; exact Or.inr h
  have hS : va_S A s.heap s.heap [] := va_S.rf
  have hl : lv_has ls 5 [(0, .ref g), (1, .long x)] := hl
  have hP : va_P (dC, dI) gd_cl [(g, .inr (0, [.ref g1, .ref g2, .ref g3, .int (nI gP), .int (nI gE), .int gB, .int gF])), (g1, .inl (cI, 60, .inl (fun q => nI (gA q)))), (g2, .inl (cI, 60, .inl (fun q => nI (gC q)))), (g3, .inl (cI, 60, .inl (fun q => nI (gL q))))] s.heap := hP
  obtain ⟨H, hH⟩ : ∃ H : Heap, H = s.heap := ⟨_, rfl⟩
  rw [← hH] at hP hS
  have hS : va_S A s.heap H [] := by rw [hH]; exact va_S.rf
  suffices hgo : W p l e ({ frames := 1, cells := 0, slots := 0, locals := 21 }) s m [.ref g, .long x].toArray below meth c H [] 0 0 (MQ below _ [.ref g, .long x].toArray s 0 0 A) (F0 m 0 ls []) by rw [hH] at hgo; exact hgo
  generalize ([] : List Loc) = locs at hS ⊢
  refine lv_iconst (v := nI 0) hx hb d_G_oddEnds_0 (by decide) ?_
  refine lv_istore_n (lv' := [(3, .int (nI 0)), (0, .ref g), (1, .long x)]) hx hb d_G_oddEnds_1 rfl hl (by decide) rfl (fun ls hl => ?_)
  refine lv_iconst (v := nI 0) hx hb d_G_oddEnds_2 (by decide) ?_
  refine lv_istore (lv' := [(4, .int (nI 0)), (3, .int (nI 0)), (0, .ref g), (1, .long x)]) hx hb d_G_oddEnds_3 hl (by decide) rfl (fun ls hl => ?_)
  refine lp_G_oddEnds_5 hx hb hml hown hts hK hA g g1 g2 g3 gA gC gL gP gE gB gF x hgP hgE hgA hgC hgL gE 0 (by omega) H locs ls (hP.sub [0, 1, 2, 3] rfl) (hD.sub [0, 1, 2, 3] rfl rfl) hS (lv_sub hl [2, 3, 1, 0] rfl) (fun H locs ls hP hD hS hl => ?_)
  refine lv_iload_n hx hb d_G_oddEnds_40 rfl (lv_at hl 2 rfl) ?_
  exact gd_iret (v := gm_odd gA gC gB x gE) hx hb hr hlocks hK hP hD hS () [0, 1, 2, 3] rfl rfl (by rfl) d_G_oddEnds_41
