set_option maxHeartbeats 4000000 in
set_option maxRecDepth 100000 in
theorem lp_JA_fill_5 {p : Program} {l : Launch} {e : Env} {s : State} {m : MethodId} {args : Array Value} {below : List Frame} {meth : Method} {c : Code} {Q : State → Prop} {A : Nat → Prop} {dC : Nat → ClassId} {dI : Nat → Nat → Nat} {cI cJ cZ : ClassId} (hx : p.tables.exec = Jvm.exec) (hb : c.code = b_JA_fill) (hml : c.maxLocals = 4) (hown : s.vm.findClass R_JA = some m.cls) (hts : ∀ w ∈ gd_tb, w.before args s = true) (hK : va_K (dC, dI) gd_cl [(cI, .int), (cJ, .long), (cZ, .boolean)] s) (hA : ∀ q : Nat, s.heap.size ≤ q → A q) (a : Nat) (n : Nat) (f : Nat → Int32) (x : Int32) (hn : n < 2 ^ 31) :
  ∀ (nn i : Nat), i + nn = n → ∀ (H : Heap) (locs : List Loc) (ls : Array Slot), va_P (dC, dI) gd_cl [(a, .inl (cI, n, .inl (gm_fill f x i)))] H → va_D A [(a, .inl (cI, n, .inl (gm_fill f x i)))] → va_S A s.heap H locs → lv_has ls 4 [(0, .ref a), (1, .int x), (2, .int (nI i)), (3, .int (nI n))] → (∀ (H : Heap) (locs : List Loc) (ls : Array Slot), va_P (dC, dI) gd_cl [(a, .inl (cI, n, .inl (gm_fill f x n)))] H → va_D A [(a, .inl (cI, n, .inl (gm_fill f x n)))] → va_S A s.heap H locs → lv_has ls 4 [(0, .ref a), (1, .int x), (2, .int (nI n)), (3, .int (nI n))] → W p l e { frames := 0, cells := 0, slots := 0, locals := 0 } s m args below meth c H locs 0 0 Q (F0 m 20 ls [])) → W p l e { frames := 0, cells := 0, slots := 0, locals := 0 } s m args below meth c H locs 0 0 Q (F0 m 5 ls []) := by
  intro nn
  induction nn with
  | zero =>
    intro i hin H locs ls hP hD hS hl K
    have hi : i = n := by omega
    refine lv_iload_n hx hb d_JA_fill_5 rfl (lv_at hl 2 rfl) ?_
    refine lv_iload_n hx hb d_JA_fill_6 rfl (lv_at hl 3 rfl) ?_
    refine lv_icmp_ge (tgt := 20) hx hb d_JA_fill_7 (by decide) (fun c_1 => ?_) (fun c_1 => ?_)
    · have c_1 : n ≤ i := (nI_leI (by omega) (by omega)).mp c_1
      subst hi
      exact K H locs ls (hP.sub [0] rfl) (hD.sub [0] rfl rfl) hS (lv_sub hl [0, 1, 2, 3] rfl)
    · have c_1 : ¬ (n ≤ i) := fun h => c_1 ((nI_leI (by omega) (by omega)).mpr h)
      exact absurd hi (by omega)
  | succ nn ih =>
    intro i hin H locs ls hP hD hS hl K
    have hi : i < n := by omega
    refine lv_iload_n hx hb d_JA_fill_5 rfl (lv_at hl 2 rfl) ?_
    refine lv_iload_n hx hb d_JA_fill_6 rfl (lv_at hl 3 rfl) ?_
    refine lv_icmp_ge (tgt := 20) hx hb d_JA_fill_7 (by decide) (fun c_2 => ?_) (fun c_2 => ?_)
    · have c_2 : n ≤ i := (nI_leI (by omega) (by omega)).mp c_2
      exact absurd hi (by omega)
    · have c_2 : ¬ (n ≤ i) := fun h => c_2 ((nI_leI (by omega) (by omega)).mpr h)
      refine lv_aload_n hx hb d_JA_fill_10 rfl (lv_at hl 0 rfl) ?_
      refine lv_iload_n hx hb d_JA_fill_11 rfl (lv_at hl 2 rfl) ?_
      refine lv_iload_n hx hb d_JA_fill_12 rfl (lv_at hl 1 rfl) ?_
      refine gd_iast hx hb hK hP hD hS 0 0 rfl rfl i rfl (by omega) hn d_JA_fill_13 (fun H locs hP hD hS => ?_)
      have hP : va_P (dC, dI) gd_cl [(a, .inl (cI, n, .inl (upd (gm_fill f x i) i x)))] H := hP
      have hD : va_D A [(a, .inl (cI, n, .inl (upd (gm_fill f x i) i x)))] := hD
      refine lv_iinc (v := nI (i + 1)) (lv' := [(2, .int (nI (i + 1))), (0, .ref a), (1, .int x), (3, .int (nI n))]) hx hb d_JA_fill_14 hl (k := 2) rfl (gd_inc _ 1) (by decide) rfl (fun ls hl => ?_)
      refine lv_goto (tgt := 5) hx hb d_JA_fill_17 (by decide) ?_
      have e_3 : gm_fill f x (i + 1) = upd (gm_fill f x i) i x := by first | rfl | (simp only [gm_fill, decide_eq_false c_2, if_neg c_2, Bool.not_true, Bool.not_false, Bool.and_true, Bool.true_and, Bool.and_false, Bool.false_and, Bool.or_true, Bool.true_or, Bool.or_false, Bool.false_or, eq_self, reduceIte, reduceCtorEq] <;> rfl)
      exact ih (i + 1) (by omega) H locs ls (by rw [e_3]; exact hP.sub [0] rfl) (by rw [e_3]; exact hD.sub [0] rfl rfl) hS (by exact lv_sub hl [1, 2, 0, 3] rfl) K
set_option maxHeartbeats 4000000 in
set_option maxRecDepth 100000 in
theorem c_JA_fill (l : Launch) (dC : Nat → ClassId) (dI : Nat → Nat → Nat) (cI cJ cZ : ClassId) (a : Nat) (sz : Nat) (n : Nat) (f : Nat → Int32) (x : Int32) (hn : n < 2 ^ 31) : Met l y_JA_fill w_JA_fill ({ frames := 0, cells := 0, slots := 0, locals := 0 }) (va_Pc [.ref a, .int x] (gd_Pre (dC, dI) gd_cl [(cI, .int), (cJ, .long), (cZ, .boolean)] [(a, .inl (cI, n, .inl f))] sz)) (va_Qv (fun (u : (Nat → Int32)) => u = fun _ => x) (fun (u : (Nat → Int32)) t => gd_Post (dC, dI) gd_cl [(cI, .int), (cJ, .long), (cZ, .boolean)] (va_A [(a, .inl (cI, n, .inl f))] sz) [(a, .inl (cI, n, .inl u))] t) (va_A [(a, .inl (cI, n, .inl f))] sz)) 0 0 (va_A [(a, .inl (cI, n, .inl f))] sz) := by
  refine gd_met (maxL := 4) (ret := none) (by decide) rfl (Nat.le_of_ble_eq_true rfl) ?_
  intro p e s m below meth c ls hx hb hr hml hown hts hlocks hin hsz hK hP hD hl
  subst hsz
  have hown : s.vm.findClass R_JA = some m.cls := hown
  have hr : meth.sig.returnType = none := hr
  generalize hAe : va_A [(a, .inl (cI, n, .inl f))] s.heap.size = A at hD ⊢
  have hA : ∀ q : Nat, s.heap.size ≤ q → A q := fun q h => by rw [← hAe]; exact Or.inr h
  have hS : va_S A s.heap s.heap [] := va_S.rf
  have hl : lv_has ls 4 [(0, .ref a), (1, .int x)] := hl
  have hP : va_P (dC, dI) gd_cl [(a, .inl (cI, n, .inl f))] s.heap := hP
  obtain ⟨H, hH⟩ : ∃ H : Heap, H = s.heap := ⟨_, rfl⟩
  rw [← hH] at hP hS
  have hS : va_S A s.heap H [] := by rw [hH]; exact va_S.rf
  suffices hgo : W p l e ({ frames := 0, cells := 0, slots := 0, locals := 0 }) s m [.ref a, .int x].toArray below meth c H [] 0 0 (MQ below _ [.ref a, .int x].toArray s 0 0 A) (F0 m 0 ls []) by rw [hH] at hgo; exact hgo
  generalize ([] : List Loc) = locs at hS ⊢
  refine lv_iconst (v := nI 0) hx hb d_JA_fill_0 (by decide) ?_
  refine lv_istore_n (lv' := [(2, .int (nI 0)), (0, .ref a), (1, .int x)]) hx hb d_JA_fill_1 rfl hl (by decide) rfl (fun ls hl => ?_)
  refine lv_aload_n hx hb d_JA_fill_2 rfl (lv_at hl 1 rfl) ?_
  refine va_alen (v := nI n) hx hb hK hP 0 0 rfl rfl rfl d_JA_fill_3 ?_
  refine lv_istore_n (lv' := [(3, .int (nI n)), (2, .int (nI 0)), (0, .ref a), (1, .int x)]) hx hb d_JA_fill_4 rfl hl (by decide) rfl (fun ls hl => ?_)
  refine lp_JA_fill_5 hx hb hml hown hts hK hA a n f x hn n 0 (by omega) H locs ls (hP.sub [0] rfl) (hD.sub [0] rfl rfl) hS (lv_sub hl [2, 3, 1, 0] rfl) (fun H locs ls hP hD hS hl => ?_)
  have hP := gd_fillP hP
  have hD := hD.set (p := 0) (e := .inl (cI, n, .inl (fun _ => x))) rfl
  have hP : va_P (dC, dI) gd_cl [(a, .inl (cI, n, .inl (fun _ => x)))] H := hP
  have hD : va_D A [(a, .inl (cI, n, .inl (fun _ => x)))] := hD
  exact gd_vret hx hb hr hlocks hK hP hD hS (fun _ => x) [0] rfl rfl (by rfl) d_JA_fill_20
set_option maxHeartbeats 4000000 in
set_option maxRecDepth 100000 in
theorem c_JI_bitCount (l : Launch) (dC : Nat → ClassId) (dI : Nat → Nat → Nat) (cI cJ cZ : ClassId)  (sz : Nat) (x : Int32) : Met l y_JI_bitCount w_JI_bitCount ({ frames := 0, cells := 0, slots := 0, locals := 0 }) (va_Pc [.int x] (gd_Pre (dC, dI) gd_cl [(cI, .int), (cJ, .long), (cZ, .boolean)] [] sz)) (va_Qi (fun (r : Int32) (u : Unit) => r = jbc x) (fun (u : Unit) t => gd_Post (dC, dI) gd_cl [(cI, .int), (cJ, .long), (cZ, .boolean)] (va_A [] sz) [] t) (va_A [] sz)) 0 0 (va_A [] sz) := by
  refine gd_met (maxL := 1) (ret := (some .int)) (by decide) rfl (Nat.le_of_ble_eq_true rfl) ?_
  intro p e s m below meth c ls hx hb hr hml hown hts hlocks hin hsz hK hP hD hl
  subst hsz
  have hown : s.vm.findClass R_JI = some m.cls := hown
  have hr : meth.sig.returnType = (some .int) := hr
  generalize hAe : va_A [] s.heap.size = A at hD ⊢
  have hA : ∀ q : Nat, s.heap.size ≤ q → A q := fun q h => by rw [← hAe]; exact Or.inr h
  have hS : va_S A s.heap s.heap [] := va_S.rf
  have hl : lv_has ls 1 [(0, .int x)] := hl
  have hP : va_P (dC, dI) gd_cl [] s.heap := hP
  obtain ⟨H, hH⟩ : ∃ H : Heap, H = s.heap := ⟨_, rfl⟩
  rw [← hH] at hP hS
  have hS : va_S A s.heap H [] := by rw [hH]; exact va_S.rf
  suffices hgo : W p l e ({ frames := 0, cells := 0, slots := 0, locals := 0 }) s m [.int x].toArray below meth c H [] 0 0 (MQ below _ [.int x].toArray s 0 0 A) (F0 m 0 ls []) by rw [hH] at hgo; exact hgo
  generalize ([] : List Loc) = locs at hS ⊢
  refine lv_iload_n hx hb d_JI_bitCount_0 rfl (lv_at hl 0 rfl) ?_
  refine lv_iload_n hx hb d_JI_bitCount_1 rfl (lv_at hl 0 rfl) ?_
  refine lv_iconst (v := nI 1) hx hb d_JI_bitCount_2 (by decide) ?_
  refine lv_iushr (v := ju x (nI 1)) hx hb d_JI_bitCount_3 rfl ?_
  refine lv_ldcw (v := 1431655765) hx hb hown (hts _ wd_437) d_JI_bitCount_4 ?_
  refine lv_iand hx hb d_JI_bitCount_7 ?_
  refine lv_isub hx hb d_JI_bitCount_8 ?_
  refine lv_istore_n (lv' := [(0, .int (x - ((ju x (nI 1)) &&& (1431655765))))]) hx hb d_JI_bitCount_9 rfl hl (by decide) rfl (fun ls hl => ?_)
  refine lv_iload_n hx hb d_JI_bitCount_10 rfl (lv_at hl 0 rfl) ?_
  refine lv_ldcw (v := 858993459) hx hb hown (hts _ wd_438) d_JI_bitCount_11 ?_
  refine lv_iand hx hb d_JI_bitCount_14 ?_
  refine lv_iload_n hx hb d_JI_bitCount_15 rfl (lv_at hl 0 rfl) ?_
  refine lv_iconst (v := nI 2) hx hb d_JI_bitCount_16 (by decide) ?_
  refine lv_iushr (v := ju (x - ((ju x (nI 1)) &&& (1431655765))) (nI 2)) hx hb d_JI_bitCount_17 rfl ?_
  refine lv_ldcw (v := 858993459) hx hb hown (hts _ wd_438) d_JI_bitCount_18 ?_
  refine lv_iand hx hb d_JI_bitCount_21 ?_
  refine lv_iadd hx hb d_JI_bitCount_22 ?_
  refine lv_istore_n (lv' := [(0, .int (((x - ((ju x (nI 1)) &&& (1431655765))) &&& (858993459)) + ((ju (x - ((ju x (nI 1)) &&& (1431655765))) (nI 2)) &&& (858993459))))]) hx hb d_JI_bitCount_23 rfl hl (by decide) rfl (fun ls hl => ?_)
  refine lv_iload_n hx hb d_JI_bitCount_24 rfl (lv_at hl 0 rfl) ?_
  refine lv_iload_n hx hb d_JI_bitCount_25 rfl (lv_at hl 0 rfl) ?_
  refine lv_iconst (v := nI 4) hx hb d_JI_bitCount_26 (by decide) ?_
  refine lv_iushr (v := ju (((x - ((ju x (nI 1)) &&& (1431655765))) &&& (858993459)) + ((ju (x - ((ju x (nI 1)) &&& (1431655765))) (nI 2)) &&& (858993459))) (nI 4)) hx hb d_JI_bitCount_27 rfl ?_
  refine lv_iadd hx hb d_JI_bitCount_28 ?_
  refine lv_ldcw (v := 252645135) hx hb hown (hts _ wd_439) d_JI_bitCount_29 ?_
  refine lv_iand hx hb d_JI_bitCount_32 ?_
  refine lv_istore_n (lv' := [(0, .int (((((x - ((ju x (nI 1)) &&& (1431655765))) &&& (858993459)) + ((ju (x - ((ju x (nI 1)) &&& (1431655765))) (nI 2)) &&& (858993459))) + (ju (((x - ((ju x (nI 1)) &&& (1431655765))) &&& (858993459)) + ((ju (x - ((ju x (nI 1)) &&& (1431655765))) (nI 2)) &&& (858993459))) (nI 4))) &&& (252645135)))]) hx hb d_JI_bitCount_33 rfl hl (by decide) rfl (fun ls hl => ?_)
  refine lv_iload_n hx hb d_JI_bitCount_34 rfl (lv_at hl 0 rfl) ?_
  refine lv_iload_n hx hb d_JI_bitCount_35 rfl (lv_at hl 0 rfl) ?_
  refine lv_bipush (v := nI 8) hx hb d_JI_bitCount_36 (by decide) ?_
  refine lv_iushr (v := ju (((((x - ((ju x (nI 1)) &&& (1431655765))) &&& (858993459)) + ((ju (x - ((ju x (nI 1)) &&& (1431655765))) (nI 2)) &&& (858993459))) + (ju (((x - ((ju x (nI 1)) &&& (1431655765))) &&& (858993459)) + ((ju (x - ((ju x (nI 1)) &&& (1431655765))) (nI 2)) &&& (858993459))) (nI 4))) &&& (252645135)) (nI 8)) hx hb d_JI_bitCount_38 rfl ?_
  refine lv_iadd hx hb d_JI_bitCount_39 ?_
  refine lv_istore_n (lv' := [(0, .int ((((((x - ((ju x (nI 1)) &&& (1431655765))) &&& (858993459)) + ((ju (x - ((ju x (nI 1)) &&& (1431655765))) (nI 2)) &&& (858993459))) + (ju (((x - ((ju x (nI 1)) &&& (1431655765))) &&& (858993459)) + ((ju (x - ((ju x (nI 1)) &&& (1431655765))) (nI 2)) &&& (858993459))) (nI 4))) &&& (252645135)) + (ju (((((x - ((ju x (nI 1)) &&& (1431655765))) &&& (858993459)) + ((ju (x - ((ju x (nI 1)) &&& (1431655765))) (nI 2)) &&& (858993459))) + (ju (((x - ((ju x (nI 1)) &&& (1431655765))) &&& (858993459)) + ((ju (x - ((ju x (nI 1)) &&& (1431655765))) (nI 2)) &&& (858993459))) (nI 4))) &&& (252645135)) (nI 8))))]) hx hb d_JI_bitCount_40 rfl hl (by decide) rfl (fun ls hl => ?_)
  refine lv_iload_n hx hb d_JI_bitCount_41 rfl (lv_at hl 0 rfl) ?_
  refine lv_iload_n hx hb d_JI_bitCount_42 rfl (lv_at hl 0 rfl) ?_
  refine lv_bipush (v := nI 16) hx hb d_JI_bitCount_43 (by decide) ?_
  refine lv_iushr (v := ju ((((((x - ((ju x (nI 1)) &&& (1431655765))) &&& (858993459)) + ((ju (x - ((ju x (nI 1)) &&& (1431655765))) (nI 2)) &&& (858993459))) + (ju (((x - ((ju x (nI 1)) &&& (1431655765))) &&& (858993459)) + ((ju (x - ((ju x (nI 1)) &&& (1431655765))) (nI 2)) &&& (858993459))) (nI 4))) &&& (252645135)) + (ju (((((x - ((ju x (nI 1)) &&& (1431655765))) &&& (858993459)) + ((ju (x - ((ju x (nI 1)) &&& (1431655765))) (nI 2)) &&& (858993459))) + (ju (((x - ((ju x (nI 1)) &&& (1431655765))) &&& (858993459)) + ((ju (x - ((ju x (nI 1)) &&& (1431655765))) (nI 2)) &&& (858993459))) (nI 4))) &&& (252645135)) (nI 8))) (nI 16)) hx hb d_JI_bitCount_45 rfl ?_
  refine lv_iadd hx hb d_JI_bitCount_46 ?_
  refine lv_istore_n (lv' := [(0, .int (((((((x - ((ju x (nI 1)) &&& (1431655765))) &&& (858993459)) + ((ju (x - ((ju x (nI 1)) &&& (1431655765))) (nI 2)) &&& (858993459))) + (ju (((x - ((ju x (nI 1)) &&& (1431655765))) &&& (858993459)) + ((ju (x - ((ju x (nI 1)) &&& (1431655765))) (nI 2)) &&& (858993459))) (nI 4))) &&& (252645135)) + (ju (((((x - ((ju x (nI 1)) &&& (1431655765))) &&& (858993459)) + ((ju (x - ((ju x (nI 1)) &&& (1431655765))) (nI 2)) &&& (858993459))) + (ju (((x - ((ju x (nI 1)) &&& (1431655765))) &&& (858993459)) + ((ju (x - ((ju x (nI 1)) &&& (1431655765))) (nI 2)) &&& (858993459))) (nI 4))) &&& (252645135)) (nI 8))) + (ju ((((((x - ((ju x (nI 1)) &&& (1431655765))) &&& (858993459)) + ((ju (x - ((ju x (nI 1)) &&& (1431655765))) (nI 2)) &&& (858993459))) + (ju (((x - ((ju x (nI 1)) &&& (1431655765))) &&& (858993459)) + ((ju (x - ((ju x (nI 1)) &&& (1431655765))) (nI 2)) &&& (858993459))) (nI 4))) &&& (252645135)) + (ju (((((x - ((ju x (nI 1)) &&& (1431655765))) &&& (858993459)) + ((ju (x - ((ju x (nI 1)) &&& (1431655765))) (nI 2)) &&& (858993459))) + (ju (((x - ((ju x (nI 1)) &&& (1431655765))) &&& (858993459)) + ((ju (x - ((ju x (nI 1)) &&& (1431655765))) (nI 2)) &&& (858993459))) (nI 4))) &&& (252645135)) (nI 8))) (nI 16))))]) hx hb d_JI_bitCount_47 rfl hl (by decide) rfl (fun ls hl => ?_)
  refine lv_iload_n hx hb d_JI_bitCount_48 rfl (lv_at hl 0 rfl) ?_
  refine lv_bipush (v := nI 63) hx hb d_JI_bitCount_49 (by decide) ?_
  refine lv_iand hx hb d_JI_bitCount_51 ?_
  exact gd_iret (v := (((((((x - ((ju x (nI 1)) &&& (1431655765))) &&& (858993459)) + ((ju (x - ((ju x (nI 1)) &&& (1431655765))) (nI 2)) &&& (858993459))) + (ju (((x - ((ju x (nI 1)) &&& (1431655765))) &&& (858993459)) + ((ju (x - ((ju x (nI 1)) &&& (1431655765))) (nI 2)) &&& (858993459))) (nI 4))) &&& (252645135)) + (ju (((((x - ((ju x (nI 1)) &&& (1431655765))) &&& (858993459)) + ((ju (x - ((ju x (nI 1)) &&& (1431655765))) (nI 2)) &&& (858993459))) + (ju (((x - ((ju x (nI 1)) &&& (1431655765))) &&& (858993459)) + ((ju (x - ((ju x (nI 1)) &&& (1431655765))) (nI 2)) &&& (858993459))) (nI 4))) &&& (252645135)) (nI 8))) + (ju ((((((x - ((ju x (nI 1)) &&& (1431655765))) &&& (858993459)) + ((ju (x - ((ju x (nI 1)) &&& (1431655765))) (nI 2)) &&& (858993459))) + (ju (((x - ((ju x (nI 1)) &&& (1431655765))) &&& (858993459)) + ((ju (x - ((ju x (nI 1)) &&& (1431655765))) (nI 2)) &&& (858993459))) (nI 4))) &&& (252645135)) + (ju (((((x - ((ju x (nI 1)) &&& (1431655765))) &&& (858993459)) + ((ju (x - ((ju x (nI 1)) &&& (1431655765))) (nI 2)) &&& (858993459))) + (ju (((x - ((ju x (nI 1)) &&& (1431655765))) &&& (858993459)) + ((ju (x - ((ju x (nI 1)) &&& (1431655765))) (nI 2)) &&& (858993459))) (nI 4))) &&& (252645135)) (nI 8))) (nI 16))) &&& (nI 63)) hx hb hr hlocks hK hP hD hS () [] rfl rfl (by rfl) d_JI_bitCount_52
set_option maxHeartbeats 4000000 in
set_option maxRecDepth 100000 in
theorem c_JI_numberOfTrailingZeros (l : Launch) (dC : Nat → ClassId) (dI : Nat → Nat → Nat) (cI cJ cZ : ClassId)  (sz : Nat) (x : Int32) : Met l y_JI_numberOfTrailingZeros w_JI_numberOfTrailingZeros ({ frames := 0, cells := 0, slots := 0, locals := 0 }) (va_Pc [.int x] (gd_Pre (dC, dI) gd_cl [(cI, .int), (cJ, .long), (cZ, .boolean)] [] sz)) (va_Qi (fun (r : Int32) (u : Unit) => r = jtz x) (fun (u : Unit) t => gd_Post (dC, dI) gd_cl [(cI, .int), (cJ, .long), (cZ, .boolean)] (va_A [] sz) [] t) (va_A [] sz)) 0 0 (va_A [] sz) := by
  refine gd_met (maxL := 2) (ret := (some .int)) (by decide) rfl (Nat.le_of_ble_eq_true rfl) ?_
  intro p e s m below meth c ls hx hb hr hml hown hts hlocks hin hsz hK hP hD hl
  subst hsz
  have hown : s.vm.findClass R_JI = some m.cls := hown
  have hr : meth.sig.returnType = (some .int) := hr
  generalize hAe : va_A [] s.heap.size = A at hD ⊢
  have hA : ∀ q : Nat, s.heap.size ≤ q → A q := fun q h => by rw [← hAe]; exact Or.inr h
  have hS : va_S A s.heap s.heap [] := va_S.rf
  have hl : lv_has ls 2 [(0, .int x)] := hl
  have hP : va_P (dC, dI) gd_cl [] s.heap := hP
  obtain ⟨H, hH⟩ : ∃ H : Heap, H = s.heap := ⟨_, rfl⟩
  rw [← hH] at hP hS
  have hS : va_S A s.heap H [] := by rw [hH]; exact va_S.rf
  suffices hgo : W p l e ({ frames := 0, cells := 0, slots := 0, locals := 0 }) s m [.int x].toArray below meth c H [] 0 0 (MQ below _ [.int x].toArray s 0 0 A) (F0 m 0 ls []) by rw [hH] at hgo; exact hgo
  generalize ([] : List Loc) = locs at hS ⊢
  refine lv_iload_n hx hb d_JI_numberOfTrailingZeros_0 rfl (lv_at hl 0 rfl) ?_
  refine lv_iconst (v := (-1)) hx hb d_JI_numberOfTrailingZeros_1 (by decide) ?_
  refine lv_ixor hx hb d_JI_numberOfTrailingZeros_2 ?_
  refine lv_iload_n hx hb d_JI_numberOfTrailingZeros_3 rfl (lv_at hl 0 rfl) ?_
  refine lv_iconst (v := nI 1) hx hb d_JI_numberOfTrailingZeros_4 (by decide) ?_
  refine lv_isub hx hb d_JI_numberOfTrailingZeros_5 ?_
  refine lv_iand hx hb d_JI_numberOfTrailingZeros_6 ?_
  refine lv_topi (fun y ey => ?_)
  have ey : y = jz x := ey
  refine lv_istore_n (lv' := [(0, .int y)]) hx hb d_JI_numberOfTrailingZeros_7 rfl hl (by decide) rfl (fun ls hl => ?_)
  refine lv_iload_n hx hb d_JI_numberOfTrailingZeros_8 rfl (lv_at hl 0 rfl) ?_
  refine lv_if_gt (tgt := 17) hx hb d_JI_numberOfTrailingZeros_9 (by decide) (fun c_1 => ?_) (fun c_1 => ?_)
  · have c_1 : (nI 0) < y := c_1
    refine lv_iconst (v := nI 1) hx hb d_JI_numberOfTrailingZeros_17 (by decide) ?_
    refine lv_istore_n (lv' := [(1, .int (nI 1)), (0, .int y)]) hx hb d_JI_numberOfTrailingZeros_18 rfl hl (by decide) rfl (fun ls hl => ?_)
    refine lv_iload_n hx hb d_JI_numberOfTrailingZeros_19 rfl (lv_at hl 1 rfl) ?_
    refine lv_ldcw (v := 65536) hx hb hown (hts _ wd_391) d_JI_numberOfTrailingZeros_20 ?_
    refine lv_icmp_le (tgt := 34) hx hb d_JI_numberOfTrailingZeros_23 (by decide) (fun c_2 => ?_) (fun c_2 => ?_)
    · have c_2 : y ≤ (65536) := c_2
      refine lv_iload_n hx hb d_JI_numberOfTrailingZeros_34 rfl (lv_at hl 1 rfl) ?_
      refine lv_sipush (v := nI 256) hx hb d_JI_numberOfTrailingZeros_35 (by decide) ?_
      refine lv_icmp_le (tgt := 49) hx hb d_JI_numberOfTrailingZeros_38 (by decide) (fun c_3 => ?_) (fun c_3 => ?_)
      · have c_3 : y ≤ (nI 256) := c_3
        refine lv_iload_n hx hb d_JI_numberOfTrailingZeros_49 rfl (lv_at hl 1 rfl) ?_
        refine lv_bipush (v := nI 16) hx hb d_JI_numberOfTrailingZeros_50 (by decide) ?_
        refine lv_icmp_le (tgt := 62) hx hb d_JI_numberOfTrailingZeros_52 (by decide) (fun c_4 => ?_) (fun c_4 => ?_)
        · have c_4 : y ≤ (nI 16) := c_4
          refine lv_iload_n hx hb d_JI_numberOfTrailingZeros_62 rfl (lv_at hl 1 rfl) ?_
          refine lv_iconst (v := nI 4) hx hb d_JI_numberOfTrailingZeros_63 (by decide) ?_
          refine lv_icmp_le (tgt := 74) hx hb d_JI_numberOfTrailingZeros_64 (by decide) (fun c_5 => ?_) (fun c_5 => ?_)
          · have c_5 : y ≤ (nI 4) := c_5
            refine lv_iload_n hx hb d_JI_numberOfTrailingZeros_74 rfl (lv_at hl 0 rfl) ?_
            refine lv_iload_n hx hb d_JI_numberOfTrailingZeros_75 rfl (lv_at hl 1 rfl) ?_
            refine lv_iconst (v := nI 1) hx hb d_JI_numberOfTrailingZeros_76 (by decide) ?_
            refine lv_iushr (v := ju y (nI 1)) hx hb d_JI_numberOfTrailingZeros_77 rfl ?_
            refine lv_iadd hx hb d_JI_numberOfTrailingZeros_78 ?_
            exact gd_iret (v := (nI 1) + (ju y (nI 1))) hx hb hr hlocks hK hP hD hS () [] rfl rfl (by unfold jtz; rw [← ey]; first | rfl | (simp only [jz1, jz2, jz3, jz4, jz5, decide_eq_true c_1, if_pos c_1, decide_eq_true c_2, if_pos c_2, decide_eq_true c_3, if_pos c_3, decide_eq_true c_4, if_pos c_4, decide_eq_true c_5, if_pos c_5, Bool.not_true, Bool.not_false, Bool.and_true, Bool.true_and, Bool.and_false, Bool.false_and, Bool.or_true, Bool.true_or, Bool.or_false, Bool.false_or, eq_self, reduceIte, reduceCtorEq] <;> rfl)) d_JI_numberOfTrailingZeros_79
          · have c_5 : ¬ (y ≤ (nI 4)) := c_5
            refine lv_iinc (v := nI (1 + 2)) (lv' := [(1, .int (nI (1 + 2))), (0, .int y)]) hx hb d_JI_numberOfTrailingZeros_67 hl (k := 0) rfl (gd_inc _ 2) (by decide) rfl (fun ls hl => ?_)
            refine lv_iload_n hx hb d_JI_numberOfTrailingZeros_70 rfl (lv_at hl 1 rfl) ?_
            refine lv_iconst (v := nI 2) hx hb d_JI_numberOfTrailingZeros_71 (by decide) ?_
            refine lv_iushr (v := ju y (nI 2)) hx hb d_JI_numberOfTrailingZeros_72 rfl ?_
            refine lv_istore_n (lv' := [(0, .int (ju y (nI 2))), (1, .int (nI (1 + 2)))]) hx hb d_JI_numberOfTrailingZeros_73 rfl hl (by decide) rfl (fun ls hl => ?_)
            refine lv_iload_n hx hb d_JI_numberOfTrailingZeros_74 rfl (lv_at hl 1 rfl) ?_
            refine lv_iload_n hx hb d_JI_numberOfTrailingZeros_75 rfl (lv_at hl 0 rfl) ?_
            refine lv_iconst (v := nI 1) hx hb d_JI_numberOfTrailingZeros_76 (by decide) ?_
            refine lv_iushr (v := ju (ju y (nI 2)) (nI 1)) hx hb d_JI_numberOfTrailingZeros_77 rfl ?_
            refine lv_iadd hx hb d_JI_numberOfTrailingZeros_78 ?_
            exact gd_iret (v := (nI (1 + 2)) + (ju (ju y (nI 2)) (nI 1))) hx hb hr hlocks hK hP hD hS () [] rfl rfl (by unfold jtz; rw [← ey]; first | rfl | (simp only [jz1, jz2, jz3, jz4, jz5, decide_eq_true c_1, if_pos c_1, decide_eq_true c_2, if_pos c_2, decide_eq_true c_3, if_pos c_3, decide_eq_true c_4, if_pos c_4, decide_eq_false c_5, if_neg c_5, Bool.not_true, Bool.not_false, Bool.and_true, Bool.true_and, Bool.and_false, Bool.false_and, Bool.or_true, Bool.true_or, Bool.or_false, Bool.false_or, eq_self, reduceIte, reduceCtorEq] <;> rfl)) d_JI_numberOfTrailingZeros_79
        · have c_4 : ¬ (y ≤ (nI 16)) := c_4
          refine lv_iinc (v := nI (1 + 4)) (lv' := [(1, .int (nI (1 + 4))), (0, .int y)]) hx hb d_JI_numberOfTrailingZeros_55 hl (k := 0) rfl (gd_inc _ 4) (by decide) rfl (fun ls hl => ?_)
          refine lv_iload_n hx hb d_JI_numberOfTrailingZeros_58 rfl (lv_at hl 1 rfl) ?_
          refine lv_iconst (v := nI 4) hx hb d_JI_numberOfTrailingZeros_59 (by decide) ?_
          refine lv_iushr (v := ju y (nI 4)) hx hb d_JI_numberOfTrailingZeros_60 rfl ?_
          refine lv_istore_n (lv' := [(0, .int (ju y (nI 4))), (1, .int (nI (1 + 4)))]) hx hb d_JI_numberOfTrailingZeros_61 rfl hl (by decide) rfl (fun ls hl => ?_)
          refine lv_iload_n hx hb d_JI_numberOfTrailingZeros_62 rfl (lv_at hl 0 rfl) ?_
          refine lv_iconst (v := nI 4) hx hb d_JI_numberOfTrailingZeros_63 (by decide) ?_
          refine lv_icmp_le (tgt := 74) hx hb d_JI_numberOfTrailingZeros_64 (by decide) (fun c_6 => ?_) (fun c_6 => ?_)
          · have c_6 : (ju y (nI 4)) ≤ (nI 4) := c_6
            refine lv_iload_n hx hb d_JI_numberOfTrailingZeros_74 rfl (lv_at hl 1 rfl) ?_
            refine lv_iload_n hx hb d_JI_numberOfTrailingZeros_75 rfl (lv_at hl 0 rfl) ?_
            refine lv_iconst (v := nI 1) hx hb d_JI_numberOfTrailingZeros_76 (by decide) ?_
            refine lv_iushr (v := ju (ju y (nI 4)) (nI 1)) hx hb d_JI_numberOfTrailingZeros_77 rfl ?_
            refine lv_iadd hx hb d_JI_numberOfTrailingZeros_78 ?_
            exact gd_iret (v := (nI (1 + 4)) + (ju (ju y (nI 4)) (nI 1))) hx hb hr hlocks hK hP hD hS () [] rfl rfl (by unfold jtz; rw [← ey]; first | rfl | (simp only [jz1, jz2, jz3, jz4, jz5, decide_eq_true c_1, if_pos c_1, decide_eq_true c_2, if_pos c_2, decide_eq_true c_3, if_pos c_3, decide_eq_false c_4, if_neg c_4, decide_eq_true c_6, if_pos c_6, Bool.not_true, Bool.not_false, Bool.and_true, Bool.true_and, Bool.and_false, Bool.false_and, Bool.or_true, Bool.true_or, Bool.or_false, Bool.false_or, eq_self, reduceIte, reduceCtorEq] <;> rfl)) d_JI_numberOfTrailingZeros_79
          · have c_6 : ¬ ((ju y (nI 4)) ≤ (nI 4)) := c_6
            refine lv_iinc (v := nI ((1 + 4) + 2)) (lv' := [(1, .int (nI ((1 + 4) + 2))), (0, .int (ju y (nI 4)))]) hx hb d_JI_numberOfTrailingZeros_67 hl (k := 1) rfl (gd_inc _ 2) (by decide) rfl (fun ls hl => ?_)
            refine lv_iload_n hx hb d_JI_numberOfTrailingZeros_70 rfl (lv_at hl 1 rfl) ?_
            refine lv_iconst (v := nI 2) hx hb d_JI_numberOfTrailingZeros_71 (by decide) ?_
            refine lv_iushr (v := ju (ju y (nI 4)) (nI 2)) hx hb d_JI_numberOfTrailingZeros_72 rfl ?_
            refine lv_istore_n (lv' := [(0, .int (ju (ju y (nI 4)) (nI 2))), (1, .int (nI ((1 + 4) + 2)))]) hx hb d_JI_numberOfTrailingZeros_73 rfl hl (by decide) rfl (fun ls hl => ?_)
            refine lv_iload_n hx hb d_JI_numberOfTrailingZeros_74 rfl (lv_at hl 1 rfl) ?_
            refine lv_iload_n hx hb d_JI_numberOfTrailingZeros_75 rfl (lv_at hl 0 rfl) ?_
            refine lv_iconst (v := nI 1) hx hb d_JI_numberOfTrailingZeros_76 (by decide) ?_
            refine lv_iushr (v := ju (ju (ju y (nI 4)) (nI 2)) (nI 1)) hx hb d_JI_numberOfTrailingZeros_77 rfl ?_
            refine lv_iadd hx hb d_JI_numberOfTrailingZeros_78 ?_
            exact gd_iret (v := (nI ((1 + 4) + 2)) + (ju (ju (ju y (nI 4)) (nI 2)) (nI 1))) hx hb hr hlocks hK hP hD hS () [] rfl rfl (by unfold jtz; rw [← ey]; first | rfl | (simp only [jz1, jz2, jz3, jz4, jz5, decide_eq_true c_1, if_pos c_1, decide_eq_true c_2, if_pos c_2, decide_eq_true c_3, if_pos c_3, decide_eq_false c_4, if_neg c_4, decide_eq_false c_6, if_neg c_6, Bool.not_true, Bool.not_false, Bool.and_true, Bool.true_and, Bool.and_false, Bool.false_and, Bool.or_true, Bool.true_or, Bool.or_false, Bool.false_or, eq_self, reduceIte, reduceCtorEq] <;> rfl)) d_JI_numberOfTrailingZeros_79
      · have c_3 : ¬ (y ≤ (nI 256)) := c_3
        refine lv_iinc (v := nI (1 + 8)) (lv' := [(1, .int (nI (1 + 8))), (0, .int y)]) hx hb d_JI_numberOfTrailingZeros_41 hl (k := 0) rfl (gd_inc _ 8) (by decide) rfl (fun ls hl => ?_)
        refine lv_iload_n hx hb d_JI_numberOfTrailingZeros_44 rfl (lv_at hl 1 rfl) ?_
        refine lv_bipush (v := nI 8) hx hb d_JI_numberOfTrailingZeros_45 (by decide) ?_
        refine lv_iushr (v := ju y (nI 8)) hx hb d_JI_numberOfTrailingZeros_47 rfl ?_
        refine lv_istore_n (lv' := [(0, .int (ju y (nI 8))), (1, .int (nI (1 + 8)))]) hx hb d_JI_numberOfTrailingZeros_48 rfl hl (by decide) rfl (fun ls hl => ?_)
        refine lv_iload_n hx hb d_JI_numberOfTrailingZeros_49 rfl (lv_at hl 0 rfl) ?_
        refine lv_bipush (v := nI 16) hx hb d_JI_numberOfTrailingZeros_50 (by decide) ?_
        refine lv_icmp_le (tgt := 62) hx hb d_JI_numberOfTrailingZeros_52 (by decide) (fun c_7 => ?_) (fun c_7 => ?_)
        · have c_7 : (ju y (nI 8)) ≤ (nI 16) := c_7
          refine lv_iload_n hx hb d_JI_numberOfTrailingZeros_62 rfl (lv_at hl 0 rfl) ?_
          refine lv_iconst (v := nI 4) hx hb d_JI_numberOfTrailingZeros_63 (by decide) ?_
          refine lv_icmp_le (tgt := 74) hx hb d_JI_numberOfTrailingZeros_64 (by decide) (fun c_8 => ?_) (fun c_8 => ?_)
          · have c_8 : (ju y (nI 8)) ≤ (nI 4) := c_8
            refine lv_iload_n hx hb d_JI_numberOfTrailingZeros_74 rfl (lv_at hl 1 rfl) ?_
            refine lv_iload_n hx hb d_JI_numberOfTrailingZeros_75 rfl (lv_at hl 0 rfl) ?_
            refine lv_iconst (v := nI 1) hx hb d_JI_numberOfTrailingZeros_76 (by decide) ?_
            refine lv_iushr (v := ju (ju y (nI 8)) (nI 1)) hx hb d_JI_numberOfTrailingZeros_77 rfl ?_
            refine lv_iadd hx hb d_JI_numberOfTrailingZeros_78 ?_
            exact gd_iret (v := (nI (1 + 8)) + (ju (ju y (nI 8)) (nI 1))) hx hb hr hlocks hK hP hD hS () [] rfl rfl (by unfold jtz; rw [← ey]; first | rfl | (simp only [jz1, jz2, jz3, jz4, jz5, decide_eq_true c_1, if_pos c_1, decide_eq_true c_2, if_pos c_2, decide_eq_false c_3, if_neg c_3, decide_eq_true c_7, if_pos c_7, decide_eq_true c_8, if_pos c_8, Bool.not_true, Bool.not_false, Bool.and_true, Bool.true_and, Bool.and_false, Bool.false_and, Bool.or_true, Bool.true_or, Bool.or_false, Bool.false_or, eq_self, reduceIte, reduceCtorEq] <;> rfl)) d_JI_numberOfTrailingZeros_79
          · have c_8 : ¬ ((ju y (nI 8)) ≤ (nI 4)) := c_8
            refine lv_iinc (v := nI ((1 + 8) + 2)) (lv' := [(1, .int (nI ((1 + 8) + 2))), (0, .int (ju y (nI 8)))]) hx hb d_JI_numberOfTrailingZeros_67 hl (k := 1) rfl (gd_inc _ 2) (by decide) rfl (fun ls hl => ?_)
            refine lv_iload_n hx hb d_JI_numberOfTrailingZeros_70 rfl (lv_at hl 1 rfl) ?_
            refine lv_iconst (v := nI 2) hx hb d_JI_numberOfTrailingZeros_71 (by decide) ?_
            refine lv_iushr (v := ju (ju y (nI 8)) (nI 2)) hx hb d_JI_numberOfTrailingZeros_72 rfl ?_
            refine lv_istore_n (lv' := [(0, .int (ju (ju y (nI 8)) (nI 2))), (1, .int (nI ((1 + 8) + 2)))]) hx hb d_JI_numberOfTrailingZeros_73 rfl hl (by decide) rfl (fun ls hl => ?_)
            refine lv_iload_n hx hb d_JI_numberOfTrailingZeros_74 rfl (lv_at hl 1 rfl) ?_
            refine lv_iload_n hx hb d_JI_numberOfTrailingZeros_75 rfl (lv_at hl 0 rfl) ?_
            refine lv_iconst (v := nI 1) hx hb d_JI_numberOfTrailingZeros_76 (by decide) ?_
            refine lv_iushr (v := ju (ju (ju y (nI 8)) (nI 2)) (nI 1)) hx hb d_JI_numberOfTrailingZeros_77 rfl ?_
            refine lv_iadd hx hb d_JI_numberOfTrailingZeros_78 ?_
            exact gd_iret (v := (nI ((1 + 8) + 2)) + (ju (ju (ju y (nI 8)) (nI 2)) (nI 1))) hx hb hr hlocks hK hP hD hS () [] rfl rfl (by unfold jtz; rw [← ey]; first | rfl | (simp only [jz1, jz2, jz3, jz4, jz5, decide_eq_true c_1, if_pos c_1, decide_eq_true c_2, if_pos c_2, decide_eq_false c_3, if_neg c_3, decide_eq_true c_7, if_pos c_7, decide_eq_false c_8, if_neg c_8, Bool.not_true, Bool.not_false, Bool.and_true, Bool.true_and, Bool.and_false, Bool.false_and, Bool.or_true, Bool.true_or, Bool.or_false, Bool.false_or, eq_self, reduceIte, reduceCtorEq] <;> rfl)) d_JI_numberOfTrailingZeros_79
        · have c_7 : ¬ ((ju y (nI 8)) ≤ (nI 16)) := c_7
          refine lv_iinc (v := nI ((1 + 8) + 4)) (lv' := [(1, .int (nI ((1 + 8) + 4))), (0, .int (ju y (nI 8)))]) hx hb d_JI_numberOfTrailingZeros_55 hl (k := 1) rfl (gd_inc _ 4) (by decide) rfl (fun ls hl => ?_)
          refine lv_iload_n hx hb d_JI_numberOfTrailingZeros_58 rfl (lv_at hl 1 rfl) ?_
          refine lv_iconst (v := nI 4) hx hb d_JI_numberOfTrailingZeros_59 (by decide) ?_
          refine lv_iushr (v := ju (ju y (nI 8)) (nI 4)) hx hb d_JI_numberOfTrailingZeros_60 rfl ?_
          refine lv_istore_n (lv' := [(0, .int (ju (ju y (nI 8)) (nI 4))), (1, .int (nI ((1 + 8) + 4)))]) hx hb d_JI_numberOfTrailingZeros_61 rfl hl (by decide) rfl (fun ls hl => ?_)
          refine lv_iload_n hx hb d_JI_numberOfTrailingZeros_62 rfl (lv_at hl 0 rfl) ?_
          refine lv_iconst (v := nI 4) hx hb d_JI_numberOfTrailingZeros_63 (by decide) ?_
          refine lv_icmp_le (tgt := 74) hx hb d_JI_numberOfTrailingZeros_64 (by decide) (fun c_9 => ?_) (fun c_9 => ?_)
          · have c_9 : (ju (ju y (nI 8)) (nI 4)) ≤ (nI 4) := c_9
            refine lv_iload_n hx hb d_JI_numberOfTrailingZeros_74 rfl (lv_at hl 1 rfl) ?_
            refine lv_iload_n hx hb d_JI_numberOfTrailingZeros_75 rfl (lv_at hl 0 rfl) ?_
            refine lv_iconst (v := nI 1) hx hb d_JI_numberOfTrailingZeros_76 (by decide) ?_
            refine lv_iushr (v := ju (ju (ju y (nI 8)) (nI 4)) (nI 1)) hx hb d_JI_numberOfTrailingZeros_77 rfl ?_
            refine lv_iadd hx hb d_JI_numberOfTrailingZeros_78 ?_
            exact gd_iret (v := (nI ((1 + 8) + 4)) + (ju (ju (ju y (nI 8)) (nI 4)) (nI 1))) hx hb hr hlocks hK hP hD hS () [] rfl rfl (by unfold jtz; rw [← ey]; first | rfl | (simp only [jz1, jz2, jz3, jz4, jz5, decide_eq_true c_1, if_pos c_1, decide_eq_true c_2, if_pos c_2, decide_eq_false c_3, if_neg c_3, decide_eq_false c_7, if_neg c_7, decide_eq_true c_9, if_pos c_9, Bool.not_true, Bool.not_false, Bool.and_true, Bool.true_and, Bool.and_false, Bool.false_and, Bool.or_true, Bool.true_or, Bool.or_false, Bool.false_or, eq_self, reduceIte, reduceCtorEq] <;> rfl)) d_JI_numberOfTrailingZeros_79
          · have c_9 : ¬ ((ju (ju y (nI 8)) (nI 4)) ≤ (nI 4)) := c_9
            refine lv_iinc (v := nI (((1 + 8) + 4) + 2)) (lv' := [(1, .int (nI (((1 + 8) + 4) + 2))), (0, .int (ju (ju y (nI 8)) (nI 4)))]) hx hb d_JI_numberOfTrailingZeros_67 hl (k := 1) rfl (gd_inc _ 2) (by decide) rfl (fun ls hl => ?_)
            refine lv_iload_n hx hb d_JI_numberOfTrailingZeros_70 rfl (lv_at hl 1 rfl) ?_
            refine lv_iconst (v := nI 2) hx hb d_JI_numberOfTrailingZeros_71 (by decide) ?_
            refine lv_iushr (v := ju (ju (ju y (nI 8)) (nI 4)) (nI 2)) hx hb d_JI_numberOfTrailingZeros_72 rfl ?_
            refine lv_istore_n (lv' := [(0, .int (ju (ju (ju y (nI 8)) (nI 4)) (nI 2))), (1, .int (nI (((1 + 8) + 4) + 2)))]) hx hb d_JI_numberOfTrailingZeros_73 rfl hl (by decide) rfl (fun ls hl => ?_)
            refine lv_iload_n hx hb d_JI_numberOfTrailingZeros_74 rfl (lv_at hl 1 rfl) ?_
            refine lv_iload_n hx hb d_JI_numberOfTrailingZeros_75 rfl (lv_at hl 0 rfl) ?_
            refine lv_iconst (v := nI 1) hx hb d_JI_numberOfTrailingZeros_76 (by decide) ?_
            refine lv_iushr (v := ju (ju (ju (ju y (nI 8)) (nI 4)) (nI 2)) (nI 1)) hx hb d_JI_numberOfTrailingZeros_77 rfl ?_
            refine lv_iadd hx hb d_JI_numberOfTrailingZeros_78 ?_
            exact gd_iret (v := (nI (((1 + 8) + 4) + 2)) + (ju (ju (ju (ju y (nI 8)) (nI 4)) (nI 2)) (nI 1))) hx hb hr hlocks hK hP hD hS () [] rfl rfl (by unfold jtz; rw [← ey]; first | rfl | (simp only [jz1, jz2, jz3, jz4, jz5, decide_eq_true c_1, if_pos c_1, decide_eq_true c_2, if_pos c_2, decide_eq_false c_3, if_neg c_3, decide_eq_false c_7, if_neg c_7, decide_eq_false c_9, if_neg c_9, Bool.not_true, Bool.not_false, Bool.and_true, Bool.true_and, Bool.and_false, Bool.false_and, Bool.or_true, Bool.true_or, Bool.or_false, Bool.false_or, eq_self, reduceIte, reduceCtorEq] <;> rfl)) d_JI_numberOfTrailingZeros_79
    · have c_2 : ¬ (y ≤ (65536)) := c_2
      refine lv_iinc (v := nI (1 + 16)) (lv' := [(1, .int (nI (1 + 16))), (0, .int y)]) hx hb d_JI_numberOfTrailingZeros_26 hl (k := 0) rfl (gd_inc _ 16) (by decide) rfl (fun ls hl => ?_)
      refine lv_iload_n hx hb d_JI_numberOfTrailingZeros_29 rfl (lv_at hl 1 rfl) ?_
      refine lv_bipush (v := nI 16) hx hb d_JI_numberOfTrailingZeros_30 (by decide) ?_
      refine lv_iushr (v := ju y (nI 16)) hx hb d_JI_numberOfTrailingZeros_32 rfl ?_
      refine lv_istore_n (lv' := [(0, .int (ju y (nI 16))), (1, .int (nI (1 + 16)))]) hx hb d_JI_numberOfTrailingZeros_33 rfl hl (by decide) rfl (fun ls hl => ?_)
      refine lv_iload_n hx hb d_JI_numberOfTrailingZeros_34 rfl (lv_at hl 0 rfl) ?_
      refine lv_sipush (v := nI 256) hx hb d_JI_numberOfTrailingZeros_35 (by decide) ?_
      refine lv_icmp_le (tgt := 49) hx hb d_JI_numberOfTrailingZeros_38 (by decide) (fun c_10 => ?_) (fun c_10 => ?_)
      · have c_10 : (ju y (nI 16)) ≤ (nI 256) := c_10
        refine lv_iload_n hx hb d_JI_numberOfTrailingZeros_49 rfl (lv_at hl 0 rfl) ?_
        refine lv_bipush (v := nI 16) hx hb d_JI_numberOfTrailingZeros_50 (by decide) ?_
        refine lv_icmp_le (tgt := 62) hx hb d_JI_numberOfTrailingZeros_52 (by decide) (fun c_11 => ?_) (fun c_11 => ?_)
        · have c_11 : (ju y (nI 16)) ≤ (nI 16) := c_11
          refine lv_iload_n hx hb d_JI_numberOfTrailingZeros_62 rfl (lv_at hl 0 rfl) ?_
          refine lv_iconst (v := nI 4) hx hb d_JI_numberOfTrailingZeros_63 (by decide) ?_
          refine lv_icmp_le (tgt := 74) hx hb d_JI_numberOfTrailingZeros_64 (by decide) (fun c_12 => ?_) (fun c_12 => ?_)
          · have c_12 : (ju y (nI 16)) ≤ (nI 4) := c_12
            refine lv_iload_n hx hb d_JI_numberOfTrailingZeros_74 rfl (lv_at hl 1 rfl) ?_
            refine lv_iload_n hx hb d_JI_numberOfTrailingZeros_75 rfl (lv_at hl 0 rfl) ?_
            refine lv_iconst (v := nI 1) hx hb d_JI_numberOfTrailingZeros_76 (by decide) ?_
            refine lv_iushr (v := ju (ju y (nI 16)) (nI 1)) hx hb d_JI_numberOfTrailingZeros_77 rfl ?_
            refine lv_iadd hx hb d_JI_numberOfTrailingZeros_78 ?_
            exact gd_iret (v := (nI (1 + 16)) + (ju (ju y (nI 16)) (nI 1))) hx hb hr hlocks hK hP hD hS () [] rfl rfl (by unfold jtz; rw [← ey]; first | rfl | (simp only [jz1, jz2, jz3, jz4, jz5, decide_eq_true c_1, if_pos c_1, decide_eq_false c_2, if_neg c_2, decide_eq_true c_10, if_pos c_10, decide_eq_true c_11, if_pos c_11, decide_eq_true c_12, if_pos c_12, Bool.not_true, Bool.not_false, Bool.and_true, Bool.true_and, Bool.and_false, Bool.false_and, Bool.or_true, Bool.true_or, Bool.or_false, Bool.false_or, eq_self, reduceIte, reduceCtorEq] <;> rfl)) d_JI_numberOfTrailingZeros_79
          · have c_12 : ¬ ((ju y (nI 16)) ≤ (nI 4)) := c_12
            refine lv_iinc (v := nI ((1 + 16) + 2)) (lv' := [(1, .int (nI ((1 + 16) + 2))), (0, .int (ju y (nI 16)))]) hx hb d_JI_numberOfTrailingZeros_67 hl (k := 1) rfl (gd_inc _ 2) (by decide) rfl (fun ls hl => ?_)
            refine lv_iload_n hx hb d_JI_numberOfTrailingZeros_70 rfl (lv_at hl 1 rfl) ?_
            refine lv_iconst (v := nI 2) hx hb d_JI_numberOfTrailingZeros_71 (by decide) ?_
            refine lv_iushr (v := ju (ju y (nI 16)) (nI 2)) hx hb d_JI_numberOfTrailingZeros_72 rfl ?_
            refine lv_istore_n (lv' := [(0, .int (ju (ju y (nI 16)) (nI 2))), (1, .int (nI ((1 + 16) + 2)))]) hx hb d_JI_numberOfTrailingZeros_73 rfl hl (by decide) rfl (fun ls hl => ?_)
            refine lv_iload_n hx hb d_JI_numberOfTrailingZeros_74 rfl (lv_at hl 1 rfl) ?_
            refine lv_iload_n hx hb d_JI_numberOfTrailingZeros_75 rfl (lv_at hl 0 rfl) ?_
            refine lv_iconst (v := nI 1) hx hb d_JI_numberOfTrailingZeros_76 (by decide) ?_
            refine lv_iushr (v := ju (ju (ju y (nI 16)) (nI 2)) (nI 1)) hx hb d_JI_numberOfTrailingZeros_77 rfl ?_
            refine lv_iadd hx hb d_JI_numberOfTrailingZeros_78 ?_
            exact gd_iret (v := (nI ((1 + 16) + 2)) + (ju (ju (ju y (nI 16)) (nI 2)) (nI 1))) hx hb hr hlocks hK hP hD hS () [] rfl rfl (by unfold jtz; rw [← ey]; first | rfl | (simp only [jz1, jz2, jz3, jz4, jz5, decide_eq_true c_1, if_pos c_1, decide_eq_false c_2, if_neg c_2, decide_eq_true c_10, if_pos c_10, decide_eq_true c_11, if_pos c_11, decide_eq_false c_12, if_neg c_12, Bool.not_true, Bool.not_false, Bool.and_true, Bool.true_and, Bool.and_false, Bool.false_and, Bool.or_true, Bool.true_or, Bool.or_false, Bool.false_or, eq_self, reduceIte, reduceCtorEq] <;> rfl)) d_JI_numberOfTrailingZeros_79
        · have c_11 : ¬ ((ju y (nI 16)) ≤ (nI 16)) := c_11
          refine lv_iinc (v := nI ((1 + 16) + 4)) (lv' := [(1, .int (nI ((1 + 16) + 4))), (0, .int (ju y (nI 16)))]) hx hb d_JI_numberOfTrailingZeros_55 hl (k := 1) rfl (gd_inc _ 4) (by decide) rfl (fun ls hl => ?_)
          refine lv_iload_n hx hb d_JI_numberOfTrailingZeros_58 rfl (lv_at hl 1 rfl) ?_
          refine lv_iconst (v := nI 4) hx hb d_JI_numberOfTrailingZeros_59 (by decide) ?_
          refine lv_iushr (v := ju (ju y (nI 16)) (nI 4)) hx hb d_JI_numberOfTrailingZeros_60 rfl ?_
          refine lv_istore_n (lv' := [(0, .int (ju (ju y (nI 16)) (nI 4))), (1, .int (nI ((1 + 16) + 4)))]) hx hb d_JI_numberOfTrailingZeros_61 rfl hl (by decide) rfl (fun ls hl => ?_)
          refine lv_iload_n hx hb d_JI_numberOfTrailingZeros_62 rfl (lv_at hl 0 rfl) ?_
          refine lv_iconst (v := nI 4) hx hb d_JI_numberOfTrailingZeros_63 (by decide) ?_
          refine lv_icmp_le (tgt := 74) hx hb d_JI_numberOfTrailingZeros_64 (by decide) (fun c_13 => ?_) (fun c_13 => ?_)
          · have c_13 : (ju (ju y (nI 16)) (nI 4)) ≤ (nI 4) := c_13
            refine lv_iload_n hx hb d_JI_numberOfTrailingZeros_74 rfl (lv_at hl 1 rfl) ?_
            refine lv_iload_n hx hb d_JI_numberOfTrailingZeros_75 rfl (lv_at hl 0 rfl) ?_
            refine lv_iconst (v := nI 1) hx hb d_JI_numberOfTrailingZeros_76 (by decide) ?_
            refine lv_iushr (v := ju (ju (ju y (nI 16)) (nI 4)) (nI 1)) hx hb d_JI_numberOfTrailingZeros_77 rfl ?_
            refine lv_iadd hx hb d_JI_numberOfTrailingZeros_78 ?_
            exact gd_iret (v := (nI ((1 + 16) + 4)) + (ju (ju (ju y (nI 16)) (nI 4)) (nI 1))) hx hb hr hlocks hK hP hD hS () [] rfl rfl (by unfold jtz; rw [← ey]; first | rfl | (simp only [jz1, jz2, jz3, jz4, jz5, decide_eq_true c_1, if_pos c_1, decide_eq_false c_2, if_neg c_2, decide_eq_true c_10, if_pos c_10, decide_eq_false c_11, if_neg c_11, decide_eq_true c_13, if_pos c_13, Bool.not_true, Bool.not_false, Bool.and_true, Bool.true_and, Bool.and_false, Bool.false_and, Bool.or_true, Bool.true_or, Bool.or_false, Bool.false_or, eq_self, reduceIte, reduceCtorEq] <;> rfl)) d_JI_numberOfTrailingZeros_79
          · have c_13 : ¬ ((ju (ju y (nI 16)) (nI 4)) ≤ (nI 4)) := c_13
            refine lv_iinc (v := nI (((1 + 16) + 4) + 2)) (lv' := [(1, .int (nI (((1 + 16) + 4) + 2))), (0, .int (ju (ju y (nI 16)) (nI 4)))]) hx hb d_JI_numberOfTrailingZeros_67 hl (k := 1) rfl (gd_inc _ 2) (by decide) rfl (fun ls hl => ?_)
            refine lv_iload_n hx hb d_JI_numberOfTrailingZeros_70 rfl (lv_at hl 1 rfl) ?_
            refine lv_iconst (v := nI 2) hx hb d_JI_numberOfTrailingZeros_71 (by decide) ?_
            refine lv_iushr (v := ju (ju (ju y (nI 16)) (nI 4)) (nI 2)) hx hb d_JI_numberOfTrailingZeros_72 rfl ?_
            refine lv_istore_n (lv' := [(0, .int (ju (ju (ju y (nI 16)) (nI 4)) (nI 2))), (1, .int (nI (((1 + 16) + 4) + 2)))]) hx hb d_JI_numberOfTrailingZeros_73 rfl hl (by decide) rfl (fun ls hl => ?_)
            refine lv_iload_n hx hb d_JI_numberOfTrailingZeros_74 rfl (lv_at hl 1 rfl) ?_
            refine lv_iload_n hx hb d_JI_numberOfTrailingZeros_75 rfl (lv_at hl 0 rfl) ?_
            refine lv_iconst (v := nI 1) hx hb d_JI_numberOfTrailingZeros_76 (by decide) ?_
            refine lv_iushr (v := ju (ju (ju (ju y (nI 16)) (nI 4)) (nI 2)) (nI 1)) hx hb d_JI_numberOfTrailingZeros_77 rfl ?_
            refine lv_iadd hx hb d_JI_numberOfTrailingZeros_78 ?_
            exact gd_iret (v := (nI (((1 + 16) + 4) + 2)) + (ju (ju (ju (ju y (nI 16)) (nI 4)) (nI 2)) (nI 1))) hx hb hr hlocks hK hP hD hS () [] rfl rfl (by unfold jtz; rw [← ey]; first | rfl | (simp only [jz1, jz2, jz3, jz4, jz5, decide_eq_true c_1, if_pos c_1, decide_eq_false c_2, if_neg c_2, decide_eq_true c_10, if_pos c_10, decide_eq_false c_11, if_neg c_11, decide_eq_false c_13, if_neg c_13, Bool.not_true, Bool.not_false, Bool.and_true, Bool.true_and, Bool.and_false, Bool.false_and, Bool.or_true, Bool.true_or, Bool.or_false, Bool.false_or, eq_self, reduceIte, reduceCtorEq] <;> rfl)) d_JI_numberOfTrailingZeros_79
      · have c_10 : ¬ ((ju y (nI 16)) ≤ (nI 256)) := c_10
        refine lv_iinc (v := nI ((1 + 16) + 8)) (lv' := [(1, .int (nI ((1 + 16) + 8))), (0, .int (ju y (nI 16)))]) hx hb d_JI_numberOfTrailingZeros_41 hl (k := 1) rfl (gd_inc _ 8) (by decide) rfl (fun ls hl => ?_)
        refine lv_iload_n hx hb d_JI_numberOfTrailingZeros_44 rfl (lv_at hl 1 rfl) ?_
        refine lv_bipush (v := nI 8) hx hb d_JI_numberOfTrailingZeros_45 (by decide) ?_
        refine lv_iushr (v := ju (ju y (nI 16)) (nI 8)) hx hb d_JI_numberOfTrailingZeros_47 rfl ?_
        refine lv_istore_n (lv' := [(0, .int (ju (ju y (nI 16)) (nI 8))), (1, .int (nI ((1 + 16) + 8)))]) hx hb d_JI_numberOfTrailingZeros_48 rfl hl (by decide) rfl (fun ls hl => ?_)
        refine lv_iload_n hx hb d_JI_numberOfTrailingZeros_49 rfl (lv_at hl 0 rfl) ?_
        refine lv_bipush (v := nI 16) hx hb d_JI_numberOfTrailingZeros_50 (by decide) ?_
        refine lv_icmp_le (tgt := 62) hx hb d_JI_numberOfTrailingZeros_52 (by decide) (fun c_14 => ?_) (fun c_14 => ?_)
        · have c_14 : (ju (ju y (nI 16)) (nI 8)) ≤ (nI 16) := c_14
          refine lv_iload_n hx hb d_JI_numberOfTrailingZeros_62 rfl (lv_at hl 0 rfl) ?_
          refine lv_iconst (v := nI 4) hx hb d_JI_numberOfTrailingZeros_63 (by decide) ?_
          refine lv_icmp_le (tgt := 74) hx hb d_JI_numberOfTrailingZeros_64 (by decide) (fun c_15 => ?_) (fun c_15 => ?_)
          · have c_15 : (ju (ju y (nI 16)) (nI 8)) ≤ (nI 4) := c_15
            refine lv_iload_n hx hb d_JI_numberOfTrailingZeros_74 rfl (lv_at hl 1 rfl) ?_
            refine lv_iload_n hx hb d_JI_numberOfTrailingZeros_75 rfl (lv_at hl 0 rfl) ?_
            refine lv_iconst (v := nI 1) hx hb d_JI_numberOfTrailingZeros_76 (by decide) ?_
            refine lv_iushr (v := ju (ju (ju y (nI 16)) (nI 8)) (nI 1)) hx hb d_JI_numberOfTrailingZeros_77 rfl ?_
            refine lv_iadd hx hb d_JI_numberOfTrailingZeros_78 ?_
            exact gd_iret (v := (nI ((1 + 16) + 8)) + (ju (ju (ju y (nI 16)) (nI 8)) (nI 1))) hx hb hr hlocks hK hP hD hS () [] rfl rfl (by unfold jtz; rw [← ey]; first | rfl | (simp only [jz1, jz2, jz3, jz4, jz5, decide_eq_true c_1, if_pos c_1, decide_eq_false c_2, if_neg c_2, decide_eq_false c_10, if_neg c_10, decide_eq_true c_14, if_pos c_14, decide_eq_true c_15, if_pos c_15, Bool.not_true, Bool.not_false, Bool.and_true, Bool.true_and, Bool.and_false, Bool.false_and, Bool.or_true, Bool.true_or, Bool.or_false, Bool.false_or, eq_self, reduceIte, reduceCtorEq] <;> rfl)) d_JI_numberOfTrailingZeros_79
          · have c_15 : ¬ ((ju (ju y (nI 16)) (nI 8)) ≤ (nI 4)) := c_15
            refine lv_iinc (v := nI (((1 + 16) + 8) + 2)) (lv' := [(1, .int (nI (((1 + 16) + 8) + 2))), (0, .int (ju (ju y (nI 16)) (nI 8)))]) hx hb d_JI_numberOfTrailingZeros_67 hl (k := 1) rfl (gd_inc _ 2) (by decide) rfl (fun ls hl => ?_)
            refine lv_iload_n hx hb d_JI_numberOfTrailingZeros_70 rfl (lv_at hl 1 rfl) ?_
            refine lv_iconst (v := nI 2) hx hb d_JI_numberOfTrailingZeros_71 (by decide) ?_
            refine lv_iushr (v := ju (ju (ju y (nI 16)) (nI 8)) (nI 2)) hx hb d_JI_numberOfTrailingZeros_72 rfl ?_
            refine lv_istore_n (lv' := [(0, .int (ju (ju (ju y (nI 16)) (nI 8)) (nI 2))), (1, .int (nI (((1 + 16) + 8) + 2)))]) hx hb d_JI_numberOfTrailingZeros_73 rfl hl (by decide) rfl (fun ls hl => ?_)
            refine lv_iload_n hx hb d_JI_numberOfTrailingZeros_74 rfl (lv_at hl 1 rfl) ?_
            refine lv_iload_n hx hb d_JI_numberOfTrailingZeros_75 rfl (lv_at hl 0 rfl) ?_
            refine lv_iconst (v := nI 1) hx hb d_JI_numberOfTrailingZeros_76 (by decide) ?_
            refine lv_iushr (v := ju (ju (ju (ju y (nI 16)) (nI 8)) (nI 2)) (nI 1)) hx hb d_JI_numberOfTrailingZeros_77 rfl ?_
            refine lv_iadd hx hb d_JI_numberOfTrailingZeros_78 ?_
            exact gd_iret (v := (nI (((1 + 16) + 8) + 2)) + (ju (ju (ju (ju y (nI 16)) (nI 8)) (nI 2)) (nI 1))) hx hb hr hlocks hK hP hD hS () [] rfl rfl (by unfold jtz; rw [← ey]; first | rfl | (simp only [jz1, jz2, jz3, jz4, jz5, decide_eq_true c_1, if_pos c_1, decide_eq_false c_2, if_neg c_2, decide_eq_false c_10, if_neg c_10, decide_eq_true c_14, if_pos c_14, decide_eq_false c_15, if_neg c_15, Bool.not_true, Bool.not_false, Bool.and_true, Bool.true_and, Bool.and_false, Bool.false_and, Bool.or_true, Bool.true_or, Bool.or_false, Bool.false_or, eq_self, reduceIte, reduceCtorEq] <;> rfl)) d_JI_numberOfTrailingZeros_79
        · have c_14 : ¬ ((ju (ju y (nI 16)) (nI 8)) ≤ (nI 16)) := c_14
          refine lv_iinc (v := nI (((1 + 16) + 8) + 4)) (lv' := [(1, .int (nI (((1 + 16) + 8) + 4))), (0, .int (ju (ju y (nI 16)) (nI 8)))]) hx hb d_JI_numberOfTrailingZeros_55 hl (k := 1) rfl (gd_inc _ 4) (by decide) rfl (fun ls hl => ?_)
          refine lv_iload_n hx hb d_JI_numberOfTrailingZeros_58 rfl (lv_at hl 1 rfl) ?_
          refine lv_iconst (v := nI 4) hx hb d_JI_numberOfTrailingZeros_59 (by decide) ?_
          refine lv_iushr (v := ju (ju (ju y (nI 16)) (nI 8)) (nI 4)) hx hb d_JI_numberOfTrailingZeros_60 rfl ?_
          refine lv_istore_n (lv' := [(0, .int (ju (ju (ju y (nI 16)) (nI 8)) (nI 4))), (1, .int (nI (((1 + 16) + 8) + 4)))]) hx hb d_JI_numberOfTrailingZeros_61 rfl hl (by decide) rfl (fun ls hl => ?_)
          refine lv_iload_n hx hb d_JI_numberOfTrailingZeros_62 rfl (lv_at hl 0 rfl) ?_
          refine lv_iconst (v := nI 4) hx hb d_JI_numberOfTrailingZeros_63 (by decide) ?_
          refine lv_icmp_le (tgt := 74) hx hb d_JI_numberOfTrailingZeros_64 (by decide) (fun c_16 => ?_) (fun c_16 => ?_)
          · have c_16 : (ju (ju (ju y (nI 16)) (nI 8)) (nI 4)) ≤ (nI 4) := c_16
            refine lv_iload_n hx hb d_JI_numberOfTrailingZeros_74 rfl (lv_at hl 1 rfl) ?_
            refine lv_iload_n hx hb d_JI_numberOfTrailingZeros_75 rfl (lv_at hl 0 rfl) ?_
            refine lv_iconst (v := nI 1) hx hb d_JI_numberOfTrailingZeros_76 (by decide) ?_
            refine lv_iushr (v := ju (ju (ju (ju y (nI 16)) (nI 8)) (nI 4)) (nI 1)) hx hb d_JI_numberOfTrailingZeros_77 rfl ?_
            refine lv_iadd hx hb d_JI_numberOfTrailingZeros_78 ?_
            exact gd_iret (v := (nI (((1 + 16) + 8) + 4)) + (ju (ju (ju (ju y (nI 16)) (nI 8)) (nI 4)) (nI 1))) hx hb hr hlocks hK hP hD hS () [] rfl rfl (by unfold jtz; rw [← ey]; first | rfl | (simp only [jz1, jz2, jz3, jz4, jz5, decide_eq_true c_1, if_pos c_1, decide_eq_false c_2, if_neg c_2, decide_eq_false c_10, if_neg c_10, decide_eq_false c_14, if_neg c_14, decide_eq_true c_16, if_pos c_16, Bool.not_true, Bool.not_false, Bool.and_true, Bool.true_and, Bool.and_false, Bool.false_and, Bool.or_true, Bool.true_or, Bool.or_false, Bool.false_or, eq_self, reduceIte, reduceCtorEq] <;> rfl)) d_JI_numberOfTrailingZeros_79
          · have c_16 : ¬ ((ju (ju (ju y (nI 16)) (nI 8)) (nI 4)) ≤ (nI 4)) := c_16
            refine lv_iinc (v := nI ((((1 + 16) + 8) + 4) + 2)) (lv' := [(1, .int (nI ((((1 + 16) + 8) + 4) + 2))), (0, .int (ju (ju (ju y (nI 16)) (nI 8)) (nI 4)))]) hx hb d_JI_numberOfTrailingZeros_67 hl (k := 1) rfl (gd_inc _ 2) (by decide) rfl (fun ls hl => ?_)
            refine lv_iload_n hx hb d_JI_numberOfTrailingZeros_70 rfl (lv_at hl 1 rfl) ?_
            refine lv_iconst (v := nI 2) hx hb d_JI_numberOfTrailingZeros_71 (by decide) ?_
            refine lv_iushr (v := ju (ju (ju (ju y (nI 16)) (nI 8)) (nI 4)) (nI 2)) hx hb d_JI_numberOfTrailingZeros_72 rfl ?_
            refine lv_istore_n (lv' := [(0, .int (ju (ju (ju (ju y (nI 16)) (nI 8)) (nI 4)) (nI 2))), (1, .int (nI ((((1 + 16) + 8) + 4) + 2)))]) hx hb d_JI_numberOfTrailingZeros_73 rfl hl (by decide) rfl (fun ls hl => ?_)
            refine lv_iload_n hx hb d_JI_numberOfTrailingZeros_74 rfl (lv_at hl 1 rfl) ?_
            refine lv_iload_n hx hb d_JI_numberOfTrailingZeros_75 rfl (lv_at hl 0 rfl) ?_
            refine lv_iconst (v := nI 1) hx hb d_JI_numberOfTrailingZeros_76 (by decide) ?_
            refine lv_iushr (v := ju (ju (ju (ju (ju y (nI 16)) (nI 8)) (nI 4)) (nI 2)) (nI 1)) hx hb d_JI_numberOfTrailingZeros_77 rfl ?_
            refine lv_iadd hx hb d_JI_numberOfTrailingZeros_78 ?_
            exact gd_iret (v := (nI ((((1 + 16) + 8) + 4) + 2)) + (ju (ju (ju (ju (ju y (nI 16)) (nI 8)) (nI 4)) (nI 2)) (nI 1))) hx hb hr hlocks hK hP hD hS () [] rfl rfl (by unfold jtz; rw [← ey]; first | rfl | (simp only [jz1, jz2, jz3, jz4, jz5, decide_eq_true c_1, if_pos c_1, decide_eq_false c_2, if_neg c_2, decide_eq_false c_10, if_neg c_10, decide_eq_false c_14, if_neg c_14, decide_eq_false c_16, if_neg c_16, Bool.not_true, Bool.not_false, Bool.and_true, Bool.true_and, Bool.and_false, Bool.false_and, Bool.or_true, Bool.true_or, Bool.or_false, Bool.false_or, eq_self, reduceIte, reduceCtorEq] <;> rfl)) d_JI_numberOfTrailingZeros_79
  · have c_1 : ¬ ((nI 0) < y) := c_1
    refine lv_iload_n hx hb d_JI_numberOfTrailingZeros_12 rfl (lv_at hl 0 rfl) ?_
    refine lv_bipush (v := nI 32) hx hb d_JI_numberOfTrailingZeros_13 (by decide) ?_
    refine lv_iand hx hb d_JI_numberOfTrailingZeros_15 ?_
    exact gd_iret (v := y &&& (nI 32)) hx hb hr hlocks hK hP hD hS () [] rfl rfl (by unfold jtz; rw [← ey]; first | rfl | (simp only [jz1, jz2, jz3, jz4, jz5, decide_eq_false c_1, if_neg c_1, Bool.not_true, Bool.not_false, Bool.and_true, Bool.true_and, Bool.and_false, Bool.false_and, Bool.or_true, Bool.true_or, Bool.or_false, Bool.false_or, eq_self, reduceIte, reduceCtorEq] <;> rfl)) d_JI_numberOfTrailingZeros_16
