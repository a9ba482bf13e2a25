/-! the law: its world, what stands between its calls -/
def lw_W (cI cJ cZ : ClassId) (x g g1 g2 g3 v v1 v2 v3 v4 v5 b b1 b2 b3 b4 b5 b6 o o1 o2 o3 o4 w d0 d1 d2 d3 d4 d5 d6 d7 d8 d9 d10 d11 d12 d13 : Nat) (gA : Nat → Nat) (gC : Nat → Nat) (gL : Nat → Nat) (gP : Nat) (gE : Nat) (gB : Int32) (gF : Int32) (vL : Nat → Nat) (vM : Nat → Int32) (vS : Nat → Int32) (vK : Nat → Nat) (vR : Nat → Int32) (vW : Nat) (vN : Int32) (vP : Nat) (vE : Nat) (vC : Int32) (vD : Nat) (vB : Int64) (vF : Int64) (bA : Nat → Int32) (bC : Nat → Int32) (bT : Nat → Int32) (bU : Nat → Int32) (bL : Nat → Int32) (bN : Nat → Int32) (bX : Int32) (bG : Int64) (bH : Bool) (oO : Nat → Nat) (oW : Nat → Int32) (oP : Nat → Int32) (oE : Nat → Int64) (oC : Nat) (oL : Int32) (oU : Int64) (wF : Nat → Int64) (nT : Nat) (nP : Nat) (nE : Nat) (nF : Int32) (nB : Nat → Bool) (nN : Nat → Nat) (nL : Nat → Nat) (nG : Bool) (nQ : Nat) (nR : Nat) (nD : Nat) (nX : Int64) (nY : Int64) (nA : Nat → Nat) (nS : Nat → Int32) (nO : Nat → Bool) (nU : Nat → Bool) (nW : Nat → Bool) (nH : Bool) (nV : Nat → Int32) (nZ : Nat → Int32) (nJ : Nat → Int32) (nK : Nat → Int64) (nM : Nat → Bool) (nC : Nat) (nmm : Int64) : va_W := [(x, .inr (4, [.ref g, .ref v, .ref b, .ref o])), (g, .inr (0, [.ref g1, .ref g2, .ref g3, .int (nI gP), .int (nI gE), .int gB, .int gF])), (g1, .inl (cI, 60, .inl (fun q => nI (gA q)))), (g2, .inl (cI, 60, .inl (fun q => nI (gC q)))), (g3, .inl (cI, 60, .inl (fun q => nI (gL q)))), (v, .inr (1, [.ref v1, .ref v2, .ref v3, .ref v4, .ref v5, .int (nI vW), .int vN, .int (nI vP), .int (nI vE), .int vC, .int (nI vD), .long vB, .long vF])), (v1, .inl (cI, 30, .inl (fun q => nI (vL q)))), (v2, .inl (cI, 30, .inl vM)), (v3, .inl (cI, 60, .inl vS)), (v4, .inl (cI, 30, .inl (fun q => nI (vK q)))), (v5, .inl (cI, 30, .inl vR)), (b, .inr (2, [.ref b1, .ref b2, .ref b3, .ref b4, .ref b5, .ref b6, .int bX, .long bG, .int (bI bH)])), (b1, .inl (cI, 60, .inl bA)), (b2, .inl (cI, 60, .inl bC)), (b3, .inl (cI, 60, .inl bT)), (b4, .inl (cI, 60, .inl bU)), (b5, .inl (cI, 30, .inl bL)), (b6, .inl (cI, 30, .inl bN)), (o, .inr (3, [.ref o1, .ref o2, .ref o3, .ref o4, .int (nI oC), .int oL, .long oU])), (o1, .inl (cI, 60, .inl (fun q => nI (oO q)))), (o2, .inl (cI, 60, .inl oW)), (o3, .inl (cI, 30, .inl oP)), (o4, .inl (cJ, 30, .inr (.inl oE))), (w, .inl (cJ, 1, .inr (.inl wF))), (d0, .inr (5, [.int (nI nT), .int (nI nP), .int (nI nE), .int nF, .ref d1, .ref d2, .ref d3, .int (bI nG), .int (nI nQ), .int (nI nR), .int (nI nD), .long nX, .long nY, .ref d4, .ref d5, .ref d6, .ref d7, .ref d8, .int (bI nH), .ref d9, .ref d10, .ref d11, .ref d12, .ref d13, .int (nI nC), .long nmm])), (d1, .inl (cZ, 30, .inl (fun q => bI (nB q)))), (d2, .inl (cI, 120, .inl (fun q => nI (nN q)))), (d3, .inl (cI, 60, .inl (fun q => nI (nL q)))), (d4, .inl (cI, 30, .inl (fun q => nI (nA q)))), (d5, .inl (cI, 60, .inl nS)), (d6, .inl (cZ, 30, .inl (fun q => bI (nO q)))), (d7, .inl (cZ, 60, .inl (fun q => bI (nU q)))), (d8, .inl (cZ, 30, .inl (fun q => bI (nW q)))), (d9, .inl (cI, 120, .inl nV)), (d10, .inl (cI, 120, .inl nZ)), (d11, .inl (cI, 30, .inl nJ)), (d12, .inl (cJ, 30, .inr (.inl nK))), (d13, .inl (cZ, 60, .inl (fun q => bI (nM q))))]
def lw_K (p : Program) (l : Launch) (e : Env) (s : State) (m : MethodId) (below : List Frame) (meth : Method) (c : Code) (Q : State → Prop) (sb : Nat) (dC : Nat → ClassId) (dI : Nat → Nat → Nat) (cI cJ cZ : ClassId) (A : Nat → Prop) (x g g1 g2 g3 v v1 v2 v3 v4 v5 b b1 b2 b3 b4 b5 b6 o o1 o2 o3 o4 w d0 d1 d2 d3 d4 d5 d6 d7 d8 d9 d10 d11 d12 d13 : Nat) (i nc ns pc : Nat) : Prop :=
  ∀ (gA : Nat → Nat) (gC : Nat → Nat) (gL : Nat → Nat) (gP : Nat) (gE : Nat) (gB : Int32) (gF : Int32) (vL : Nat → Nat) (vM : Nat → Int32) (vS : Nat → Int32) (vK : Nat → Nat) (vR : Nat → Int32) (vW : Nat) (vN : Int32) (vP : Nat) (vE : Nat) (vC : Int32) (vD : Nat) (vB : Int64) (vF : Int64) (bA : Nat → Int32) (bC : Nat → Int32) (bT : Nat → Int32) (bU : Nat → Int32) (bL : Nat → Int32) (bN : Nat → Int32) (bX : Int32) (bG : Int64) (bH : Bool) (oO : Nat → Nat) (oW : Nat → Int32) (oP : Nat → Int32) (oE : Nat → Int64) (oC : Nat) (oL : Int32) (oU : Int64) (wF : Nat → Int64) (nT : Nat) (nP : Nat) (nE : Nat) (nF : Int32) (nB : Nat → Bool) (nN : Nat → Nat) (nL : Nat → Nat) (nG : Bool) (nQ : Nat) (nR : Nat) (nD : Nat) (nX : Int64) (nY : Int64) (nA : Nat → Nat) (nS : Nat → Int32) (nO : Nat → Bool) (nU : Nat → Bool) (nW : Nat → Bool) (nH : Bool) (nV : Nat → Int32) (nZ : Nat → Int32) (nJ : Nat → Int32) (nK : Nat → Int64) (nM : Nat → Bool) (nC : Nat) (nmm : Int64), lw_R gA gC gL gP gE gB gF vL vK vS vR vP vE vC vD vB vF bA bC bG bH oO nP nE nF nB nN nL nG nQ nR nD nX nY nA nS nH nV → ∀ (H : Heap) (locs : List Loc) (ls : Array Slot), va_P (dC, dI) gd_cl (lw_W cI cJ cZ x g g1 g2 g3 v v1 v2 v3 v4 v5 b b1 b2 b3 b4 b5 b6 o o1 o2 o3 o4 w d0 d1 d2 d3 d4 d5 d6 d7 d8 d9 d10 d11 d12 d13 gA gC gL gP gE gB gF vL vM vS vK vR vW vN vP vE vC vD vB vF bA bC bT bU bL bN bX bG bH oO oW oP oE oC oL oU wF nT nP nE nF nB nN nL nG nQ nR nD nX nY nA nS nO nU nW nH nV nZ nJ nK nM nC nmm) H → va_D A (lw_W cI cJ cZ x g g1 g2 g3 v v1 v2 v3 v4 v5 b b1 b2 b3 b4 b5 b6 o o1 o2 o3 o4 w d0 d1 d2 d3 d4 d5 d6 d7 d8 d9 d10 d11 d12 d13 gA gC gL gP gE gB gF vL vM vS vK vR vW vN vP vE vC vD vB vF bA bC bT bU bL bN bX bG bH oO oW oP oE oC oL oU wF nT nP nE nF nB nN nL nG nQ nR nD nX nY nA nS nO nU nW nH nV nZ nJ nK nM nC nmm) → va_S A s.heap H locs → lv_has ls 7 [(0, .ref sb), (1, .ref x), (2, .ref d0), (3, .ref w), (4, .int (nI i))] → W p l e room_1 s m #[Value.ref sb] below meth c H locs nc ns Q (F0 m pc ls [])
def lw_E (p : Program) (l : Launch) (s : State) (m : MethodId) (c : Code) (sb sL : Nat) (xs : Nat → Int32) (dC : Nat → ClassId) (dI : Nat → Nat → Nat) (cI cJ cZ : ClassId) (A : Nat → Prop) : Prop :=
  l.flags = Jvm.pinnedFlags ++ [Jvm.noTraceFlag] ∧ p.tables.exec = Jvm.exec ∧ c.code = b_L_law ∧ c.maxLocals = 7 ∧ s.vm.findClass R_L = some m.cls ∧ (∀ w ∈ gd_tb, w.before #[Value.ref sb] s = true) ∧ gd_Ex s ∧ va_X sb sL xs s s.heap ∧ sb < s.heap.size ∧ va_K (dC, dI) gd_cl [(cI, .int), (cJ, .long), (cZ, .boolean)] s ∧ sL ≤ 2048 ∧ va_A ([] : va_W) s.heap.size = A
section LAWR
variable {p : Program} {l : Launch} {e : Env} {R : Room} {s : State} {m : MethodId} {args : Array Value} {below : List Frame} {meth : Method} {c : Code} {H : Heap} {locs : List Loc} {cells slots : Nat} {Q : State → Prop}
variable {cc : ByteArray} {pc : Nat} {ls : Array Slot} {rest : List Value} {A : Nat → Prop} {H0 : Heap}
theorem gd_sld (hx : p.tables.exec = Jvm.exec) (hb : c.code = cc) {b L : Nat} {xs : Nat → Int32} (hX : va_X b L xs s H0) (hbl : b < H0.size) (hbA : ¬ A b) (hS : va_S A H0 H locs) (i : Nat) (hi : i < L) (hL : L < 2 ^ 31) (hdg : decode cc pc = .ok (.iaload, 1))
    (kk : W p l e R s m args below meth c H locs cells slots Q (F0 m (pc + 1) ls (.int (xs i) :: rest))) : W p l e R s m args below meth c H locs cells slots Q (F0 m pc ls (.int (nI i) :: .ref b :: rest)) := by
  refine va_sld hx hb hX hbl hbA hS (vp_in_nI hi hL) hdg ?_
  rw [nI_clamp (Nat.lt_trans hi hL)]
  exact kk
theorem gd_wsL {ws0 : List Cond} (hts : ∀ w ∈ gd_tb, w.before args s = true) (h : ∀ w ∈ ws0, w ∈ gd_tb) : ∀ w ∈ ws0, ∀ (a' : Array Value) (U : State), s.WarmedH U.vm → w.before a' U = true :=
  fun w hw _ _ hW => word_at hW (good_of_word (List.mem_filter.mp (h w hw)).2) (hts w (h w hw))
end LAWR
theorem in_L_grow : ∀ w ∈ w_L_grow, w ∈ gd_tb := List.forall_mem_cons.mpr ⟨gd_in (by decide +kernel) (by decide +kernel), fun _ h => h⟩
theorem in_L_sent : ∀ w ∈ w_L_sent, w ∈ gd_tb := List.forall_mem_cons.mpr ⟨gd_in (by decide +kernel) (by decide +kernel), fun _ h => h⟩
theorem rl_out {g : Bool} {f : Nat → Int64} {v b : Int32} (hk : (if g = true then nI 0 else nI 1) = nI 0) (h : g = true → v = b) : (if g = true then vp_updL f 0 v.toInt64 else f) 0 = b.toInt64 := by
  cases g
  · exact absurd hk (by decide)
  · rw [if_pos rfl, h rfl]
    unfold vp_updL
    rw [if_pos rfl]
theorem rl_out2 {bH so : Bool} {f : Nat → Int64} {v b : Int32} (hk : (if bH = false then nI 1 else if so = true then nI 0 else nI 2) = nI 0) (h : bH = true → so = true → v = b) : (if bH = false then f else if so = true then vp_updL f 0 v.toInt64 else f) 0 = b.toInt64 := by
  cases bH
  · exact absurd (show nI 1 = nI 0 from hk) (by decide)
  · cases so
    · exact absurd hk (by decide)
    · rw [if_neg (by decide), if_pos rfl, h rfl rfl]
      unfold vp_updL
      rw [if_pos rfl]
theorem gd_out14 {x : Int32} (c0 : ¬ x = 0) (c1 : ¬ x = 1) (c2 : ¬ x = 2) (c3 : ¬ x = 3) (c4 : ¬ x = 4) (c5 : ¬ x = 5) (c6 : ¬ x = 6) (c7 : ¬ x = 7) (c8 : ¬ x = 8) (c9 : ¬ x = 9) (c10 : ¬ x = 10) (c11 : ¬ x = 11) (c12 : ¬ x = 12) (c13 : ¬ x = 13) : x.toInt < 0 ∨ 13 < x.toInt := by
  have e0 := lv_neT c0 (a := 0) rfl
  have e1 := lv_neT c1 (a := 1) rfl
  have e2 := lv_neT c2 (a := 2) rfl
  have e3 := lv_neT c3 (a := 3) rfl
  have e4 := lv_neT c4 (a := 4) rfl
  have e5 := lv_neT c5 (a := 5) rfl
  have e6 := lv_neT c6 (a := 6) rfl
  have e7 := lv_neT c7 (a := 7) rfl
  have e8 := lv_neT c8 (a := 8) rfl
  have e9 := lv_neT c9 (a := 9) rfl
  have e10 := lv_neT c10 (a := 10) rfl
  have e11 := lv_neT c11 (a := 11) rfl
  have e12 := lv_neT c12 (a := 12) rfl
  have e13 := lv_neT c13 (a := 13) rfl
  omega
