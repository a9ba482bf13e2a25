def R_law : String := "GrowDecoderLaw"
def lw_P (b : Addr) (xs : List Int32) (args : Array Value) (s : State) : Prop := args = #[.ref b] ∧ s.IntsAt b xs ∧ xs.length ≤ 2048 ∧ (Jvm.Cond.and given_1 narrow_1).before args s = true
def lw_Q (_ : Array Value) (s : State) (o : Outcome) (t : State) : Prop := o = .returned (some (.int 1)) ∧ Framed s o t [] 1065 9897
def lw_Z (below : List Frame) (a : Array Value) (s : State) : State → Prop := fun t => ∃ o, t.status = .running ∧ Ended t below o ∧ lw_Q a s o t
/-- the law's own end, with 1 on the stack, nothing written that was there before, its room as the claim has it -/
theorem lw_ret {p : Program} {l : Launch} {e : Env} {s : State} {m : MethodId} {below : List Frame} {meth : Method} {c : Code} {b : Nat} (hx : p.tables.exec = Jvm.exec) (hb : c.code = code) (hr : meth.sig.returnType = ret) (hlocks : meth.locks = false) {pc : Nat} {H : Heap} {ls : Array Slot} (hdg : decode code pc = .ok (.ireturn, 1)) : W p l e room_1 s m #[Value.ref b] below meth c H [] 1065 9897 (lw_Z below #[Value.ref b] s) (F0 m pc ls [.int 1]) := by
  intro T hT X
  obtain ⟨fs, hret, hrun, hended, hW, hframe⟩ := X.leave (v := some (.int 1)) (hlocks := hlocks) (fun h => by rw [hr] at h; cases h)
  have hmeth' : T.vm.method? m = some meth := X.method'
  refine ⟨T.setFrames fs, ?_, .returned (some (.int 1)), hrun, hended, rfl, ⟨_, rfl⟩, hW, hframe⟩
  jvm_step X.here [X.here.top, hx, hb, hdg, hmeth', hr, ret, narrow_b1]
  (try refine ⟨rfl, ?_⟩); (try refine ⟨rfl, ?_⟩)
  first | (intro acts; rw [hret _ acts rfl rfl rfl]) | rw [hret _ _ rfl rfl rfl]
  exact Steps.refl _
/-- what holds at the law's entry: the machine, the code, the tables' words (any of lw_tbl by 'hts w (by decide +kernel)'), the script of L ints xs at the cell b, what the Statement gives of the start (any of its parts by flat_of_before) -/
def lw_At (p : Program) (s : State) (m : MethodId) (meth : Method) (c : Code) (b L : Nat) (xs : Nat → Int32) : Prop :=
  p.tables.exec = Jvm.exec ∧ c.code = code ∧ meth.sig.returnType = ret ∧ c.maxLocals = 7 ∧ s.vm.findClass R_law = some m.cls ∧ (∀ w ∈ lw_tbl, w.before #[Value.ref b] s = true) ∧ va_X b L xs s s.heap ∧ b < s.heap.size ∧ meth.locks = false ∧ (Jvm.Cond.and given_1 narrow_1).before #[Value.ref b] s = true
theorem lw_cmp {L i : Nat} (hL : L ≤ 2048) (hi : i ≤ 3000) : nI L - nI 4 < nI i ↔ L < i + 4 := by
  by_cases h : 4 ≤ L
  · rw [pk_sub h, nI_ltI (by omega) (by omega)]
    omega
  · have hz : ∀ x : Int32, x.toInt < 0 → x < nI i := fun x hx => by
      rw [i_lt, nI_toInt (by omega)]
      omega
    refine ⟨fun _ => by omega, fun _ => ?_⟩
    rcases (show L = 0 ∨ L = 1 ∨ L = 2 ∨ L = 3 by omega) with rfl | rfl | rfl | rfl <;> exact hz _ (by decide)
theorem lw_init : lw_R (fun _ => 0) (fun _ => 0) (fun _ => 0) 0 0 (nI 0) (nI 0) (fun _ => 0) (fun _ => 0) (fun _ => 0) (fun _ => 0) 0 0 (nI 0) 0 0 0 (fun _ => 0) (fun _ => 0) 0 false (fun _ => 0) 0 0 (nI 0) (fun _ => false) (fun _ => 0) (fun _ => 0) false 0 0 0 0 0 (fun _ => 0) (fun _ => 0) false (fun _ => 0) := by
  have l3 : (0 : Nat) < 30 := by decide
  have l2 : (0 : Nat) ≤ 20 := by decide
  have l6 : (0 : Nat) < 60 := by decide
  have rb : gm_RB 0 := Or.inr ⟨rfl, by decide⟩
  refine ⟨⟨rfl, rfl, rfl, rfl, rfl, rfl, rfl, rfl, rfl⟩, ⟨by omega, by omega, fun _ => l3, fun _ => l3, fun _ => l2, fun _ => l3, fun _ => l2, fun e h => absurd h (Nat.not_lt_zero e), fun p h => absurd h (Nat.not_lt_zero p), fun p _ => b_0 p, fun p _ => b_0 p, fun p h => absurd ((b_0 p).symm.trans h) (by decide)⟩,
    ⟨by omega, by omega, fun _ => l3, fun _ => l3, fun _ => rb, fun _ => l3, fun _ => ⟨0, by omega, rfl⟩, fun q h => absurd h (Nat.not_lt_zero q), fun q h => absurd h (Nat.not_lt_zero q), rfl, fun _ => ⟨rfl, rfl⟩⟩, fun h => absurd h (by decide), fun _ => l6⟩
set_option maxHeartbeats 4000000 in
set_option maxRecDepth 100000 in
theorem law_loop {p : Program} {l : Launch} {e : Env} {s : State} {m : MethodId} {below : List Frame} {meth : Method} {c : Code} {sb sL : Nat} {xs : Nat → Int32} {dC : Nat → ClassId} {dI : Nat → Nat → Nat} {cI cJ cZ : ClassId} {A : Nat → Prop} (hr : meth.sig.returnType = ret) (hlocks : meth.locks = false) (hEnv : lw_E p l s m c sb sL xs dC dI cI cJ cZ A) (x g g1 g2 g3 v v1 v2 v3 v4 v5 b b1 b2 b3 b4 b5 b6 o o1 o2 o3 o4 w d0 d1 d2 d3 d4 d5 d6 d7 d8 d9 d10 d11 d12 d13 : Nat) : ∀ (n i nc ns : Nat), sL < i + 4 * n + 4 → i ≤ 2048 → nc + n ≤ 1065 → ns + 6 * n ≤ 9897 → lw_K p l e s m below meth c (lw_Z below #[Value.ref sb] s) sb dC dI cI cJ cZ A x g g1 g2 g3 v v1 v2 v3 v4 v5 b b1 b2 b3 b4 b5 b6 o o1 o2 o3 o4 w d0 d1 d2 d3 d4 d5 d6 d7 d8 d9 d10 d11 d12 d13 i nc ns 23 := by
  obtain ⟨hfl, hx, hb, hml, hown, hts, hE, hX, hbl, hK, hL, hAe⟩ := id hEnv
  have hbA : ¬ A sb := fun h => by
    rw [← hAe] at h
    rcases h with ⟨k, e, h⟩ | h
    · simp at h
    · omega
  intro n
  induction n with
  | zero =>
    intro i nc ns h1 h2 h3 h4 gA gC gL gP gE gB gF vL vM vS vK vR vW vN vP vE vC vD vB vF bA bC bT bU bL bN bX bG bH oO oW oP oE oC oL oU wF nT nP nE nF nB nN nL nG nQ nR nD nX nY nA nS nO nU nW nH nV nZ nJ nK nM nC nmm hR H locs ls hP hD hS hl
    refine lv_iload hx hb d_L_law_23 (lv_at hl 4 rfl) ?_
    refine lv_aload_n hx hb d_L_law_25 rfl (lv_at hl 0 rfl) ?_
    refine va_slen hx hb hX hbl hbA hS d_L_law_26 ?_
    refine W.eq (g2 := F0 m 27 ls [.int (nI sL), .int (nI i)]) rfl ?_
    refine lv_iconst (v := nI 4) hx hb d_L_law_27 (by decide) ?_
    refine lv_isub hx hb d_L_law_28 ?_
    refine lv_icmp_gt (tgt := 593) hx hb d_L_law_29 (by decide) (fun c_1 => ?_) (fun c_1 => ?_)
    · refine lv_iconst (v := 1) hx hb d_L_law_593 (by decide) ?_
      refine va_forget (fun q hq => ?_) ?_
      · have h9 := hS.2.2 q hq
        rw [← hAe] at h9
        rcases h9 with ⟨k, e, h⟩ | h
        · simp at h
        · exact h
      · refine W.widen (k := 1065) (n := 9897) (by omega) (by omega) ?_
        exact lw_ret hx hb hr hlocks d_L_law_594
    · have c_1 : ¬ (nI sL - nI 4 < nI i) := c_1
      have hi : i + 4 ≤ sL := by
        rw [lw_cmp hL (by omega)] at c_1
        omega
      exact absurd hi (by omega)
  | succ n ih =>
    intro i nc ns h1 h2 h3 h4 gA gC gL gP gE gB gF vL vM vS vK vR vW vN vP vE vC vD vB vF bA bC bT bU bL bN bX bG bH oO oW oP oE oC oL oU wF nT nP nE nF nB nN nL nG nQ nR nD nX nY nA nS nO nU nW nH nV nZ nJ nK nM nC nmm hR H locs ls hP hD hS hl
    refine lv_iload hx hb d_L_law_23 (lv_at hl 4 rfl) ?_
    refine lv_aload_n hx hb d_L_law_25 rfl (lv_at hl 0 rfl) ?_
    refine va_slen hx hb hX hbl hbA hS d_L_law_26 ?_
    refine W.eq (g2 := F0 m 27 ls [.int (nI sL), .int (nI i)]) rfl ?_
    refine lv_iconst (v := nI 4) hx hb d_L_law_27 (by decide) ?_
    refine lv_isub hx hb d_L_law_28 ?_
    refine lv_icmp_gt (tgt := 593) hx hb d_L_law_29 (by decide) (fun c_1 => ?_) (fun c_1 => ?_)
    · refine lv_iconst (v := 1) hx hb d_L_law_593 (by decide) ?_
      refine va_forget (fun q hq => ?_) ?_
      · have h9 := hS.2.2 q hq
        rw [← hAe] at h9
        rcases h9 with ⟨k, e, h⟩ | h
        · simp at h
        · exact h
      · refine W.widen (k := 1065) (n := 9897) (by omega) (by omega) ?_
        exact lw_ret hx hb hr hlocks d_L_law_594
    · have c_1 : ¬ (nI sL - nI 4 < nI i) := c_1
      have hi : i + 4 ≤ sL := by
        rw [lw_cmp hL (by omega)] at c_1
        omega
      have K : lw_K p l e s m below meth c (lw_Z below #[Value.ref sb] s) sb dC dI cI cJ cZ A x g g1 g2 g3 v v1 v2 v3 v4 v5 b b1 b2 b3 b4 b5 b6 o o1 o2 o3 o4 w d0 d1 d2 d3 d4 d5 d6 d7 d8 d9 d10 d11 d12 d13 i (nc + 1) (ns + 6) 587 := by
        intro gA gC gL gP gE gB gF vL vM vS vK vR vW vN vP vE vC vD vB vF bA bC bT bU bL bN bX bG bH oO oW oP oE oC oL oU wF nT nP nE nF nB nN nL nG nQ nR nD nX nY nA nS nO nU nW nH nV nZ nJ nK nM nC nmm hR H locs ls hP hD hS hl
        refine lv_iinc (v := nI (i + 4)) (lv' := [(4, .int (nI (i + 4))), (0, .ref sb), (1, .ref x), (2, .ref d0), (3, .ref w)]) hx hb d_L_law_587 hl (k := 4) rfl (gd_inc _ 4) (by decide) rfl (fun ls hl => ?_)
        refine lv_goto (tgt := 23) hx hb d_L_law_590 (by decide) ?_
        exact ih (i + 4) (nc + 1) (ns + 6) (by omega) (by omega) (by omega) (by omega) gA gC gL gP gE gB gF vL vM vS vK vR vW vN vP vE vC vD vB vF bA bC bT bU bL bN bX bG bH oO oW oP oE oC oL oU wF nT nP nE nF nB nN nL nG nQ nR nD nX nY nA nS nO nU nW nH nV nZ nJ nK nM nC nmm hR H locs ls hP hD hS (lv_sub hl [1, 2, 3, 4, 0] rfl)
      obtain ⟨⟨e1, e2, e3, e4, e5, e6, e7, e8, e9⟩, hG, hV, hB, hO⟩ := id hR
      replace e1 := e1.symm
      subst e1
      replace e2 := e2.symm
      subst e2
      replace e3 := e3.symm
      subst e3
      replace e4 := e4.symm
      subst e4
      replace e5 := e5.symm
      subst e5
      replace e6 := e6.symm
      subst e6
      replace e7 := e7.symm
      subst e7
      replace e8 := e8.symm
      subst e8
      replace e9 := e9.symm
      subst e9
      refine lv_aload_n hx hb d_L_law_32 rfl (lv_at hl 0 rfl) ?_
      refine lv_iload hx hb d_L_law_33 (lv_at hl 4 rfl) ?_
      refine gd_sld hx hb hX hbl hbA hS i (by omega) (by omega) d_L_law_35 ?_
      refine lv_bipush (v := nI 15) hx hb d_L_law_36 (by decide) ?_
      refine lv_iand hx hb d_L_law_38 ?_
      generalize xs i &&& nI 15 = y
      by_cases c_10 : y = 0
      · refine lv_tableIn (off := 69) (tgt := 108) hx hb d_L_law_39 (by rw [c_10]; decide) (by rw [c_10]; decide) (by rw [c_10]; decide) (by decide) ?_
        exact lc_0 hEnv x g g1 g2 g3 v v1 v2 v3 v4 v5 b b1 b2 b3 b4 b5 b6 o o1 o2 o3 o4 w d0 d1 d2 d3 d4 d5 d6 d7 d8 d9 d10 d11 d12 d13 gA gC gL gP gE gB gF vL vM vS vK vR vW vN vP vE vC vD vB vF bA bC bT bU bL bN bX bG bH oO oW oP oE oC oL oU wF nT nB nN nL nG nA nS nO nU nW nV nZ nJ nK nM nC nmm hG hV hB hO hP hD hS hl hi (by omega) (by omega) K
      · skip
        by_cases c_11 : y = 1
        · refine lv_tableIn (off := 110) (tgt := 149) hx hb d_L_law_39 (by rw [c_11]; decide) (by rw [c_11]; decide) (by rw [c_11]; decide) (by decide) ?_
          exact lc_1 hEnv x g g1 g2 g3 v v1 v2 v3 v4 v5 b b1 b2 b3 b4 b5 b6 o o1 o2 o3 o4 w d0 d1 d2 d3 d4 d5 d6 d7 d8 d9 d10 d11 d12 d13 gA gC gL gP gE gB gF vL vM vS vK vR vW vN vP vE vC vD vB vF bA bC bT bU bL bN bX bG bH oO oW oP oE oC oL oU wF nT nB nN nL nG nA nS nO nU nW nV nZ nJ nK nM nC nmm hG hV hB hO hP hD hS hl hi (by omega) (by omega) K
        · skip
          by_cases c_12 : y = 2
          · refine lv_tableIn (off := 159) (tgt := 198) hx hb d_L_law_39 (by rw [c_12]; decide) (by rw [c_12]; decide) (by rw [c_12]; decide) (by decide) ?_
            exact lc_2 hEnv x g g1 g2 g3 v v1 v2 v3 v4 v5 b b1 b2 b3 b4 b5 b6 o o1 o2 o3 o4 w d0 d1 d2 d3 d4 d5 d6 d7 d8 d9 d10 d11 d12 d13 gA gC gL gP gE gB gF vL vM vS vK vR vW vN vP vE vC vD vB vF bA bC bT bU bL bN bX bG bH oO oW oP oE oC oL oU wF nT nB nN nL nG nA nS nO nU nW nV nZ nJ nK nM nC nmm hG hV hB hO hP hD hS hl hi (by omega) (by omega) K
          · skip
            by_cases c_13 : y = 3
            · refine lv_tableIn (off := 212) (tgt := 251) hx hb d_L_law_39 (by rw [c_13]; decide) (by rw [c_13]; decide) (by rw [c_13]; decide) (by decide) ?_
              exact lc_3 hEnv x g g1 g2 g3 v v1 v2 v3 v4 v5 b b1 b2 b3 b4 b5 b6 o o1 o2 o3 o4 w d0 d1 d2 d3 d4 d5 d6 d7 d8 d9 d10 d11 d12 d13 gA gC gL gP gE gB gF vL vM vS vK vR vW vN vP vE vC vD vB vF bA bC bT bU bL bN bX bG bH oO oW oP oE oC oL oU wF nT nB nN nL nG nA nS nO nU nW nV nZ nJ nK nM nC nmm hG hV hB hO hP hD hS hl hi (by omega) (by omega) K
            · skip
              by_cases c_14 : y = 4
              · refine lv_tableIn (off := 256) (tgt := 295) hx hb d_L_law_39 (by rw [c_14]; decide) (by rw [c_14]; decide) (by rw [c_14]; decide) (by decide) ?_
                exact lc_4 hEnv x g g1 g2 g3 v v1 v2 v3 v4 v5 b b1 b2 b3 b4 b5 b6 o o1 o2 o3 o4 w d0 d1 d2 d3 d4 d5 d6 d7 d8 d9 d10 d11 d12 d13 gA gC gL gP gE gB gF vL vM vS vK vR vW vN vP vE vC vD vB vF bA bC bT bU bL bN bX bG bH oO oW oP oE oC oL oU wF nT nB nN nL nG nA nS nO nU nW nV nZ nJ nK nM nC nmm hG hV hB hO hP hD hS hl hi (by omega) (by omega) K
              · skip
                by_cases c_15 : y = 5
                · refine lv_tableIn (off := 281) (tgt := 320) hx hb d_L_law_39 (by rw [c_15]; decide) (by rw [c_15]; decide) (by rw [c_15]; decide) (by decide) ?_
                  exact lc_5 hEnv x g g1 g2 g3 v v1 v2 v3 v4 v5 b b1 b2 b3 b4 b5 b6 o o1 o2 o3 o4 w d0 d1 d2 d3 d4 d5 d6 d7 d8 d9 d10 d11 d12 d13 gA gC gL gP gE gB gF vL vM vS vK vR vW vN vP vE vC vD vB vF bA bC bT bU bL bN bX bG bH oO oW oP oE oC oL oU wF nT nB nN nL nG nA nS nO nU nW nV nZ nJ nK nM nC nmm hG hV hB hO hP hD hS hl hi (by omega) (by omega) K
                · skip
                  by_cases c_16 : y = 6
                  · refine lv_tableIn (off := 306) (tgt := 345) hx hb d_L_law_39 (by rw [c_16]; decide) (by rw [c_16]; decide) (by rw [c_16]; decide) (by decide) ?_
                    exact lc_6 hEnv x g g1 g2 g3 v v1 v2 v3 v4 v5 b b1 b2 b3 b4 b5 b6 o o1 o2 o3 o4 w d0 d1 d2 d3 d4 d5 d6 d7 d8 d9 d10 d11 d12 d13 gA gC gL gP gE gB gF vL vM vS vK vR vW vN vP vE vC vD vB vF bA bC bT bU bL bN bX bG bH oO oW oP oE oC oL oU wF nT nB nN nL nG nA nS nO nU nW nV nZ nJ nK nM nC nmm hG hV hB hO hP hD hS hl hi (by omega) (by omega) K
                  · skip
                    by_cases c_17 : y = 7
                    · refine lv_tableIn (off := 332) (tgt := 371) hx hb d_L_law_39 (by rw [c_17]; decide) (by rw [c_17]; decide) (by rw [c_17]; decide) (by decide) ?_
                      exact lc_7 hEnv x g g1 g2 g3 v v1 v2 v3 v4 v5 b b1 b2 b3 b4 b5 b6 o o1 o2 o3 o4 w d0 d1 d2 d3 d4 d5 d6 d7 d8 d9 d10 d11 d12 d13 gA gC gL gP gE gB gF vL vM vS vK vR vW vN vP vE vC vD vB vF bA bC bT bU bL bN bX bG bH oO oW oP oE oC oL oU wF nT nB nN nL nG nA nS nO nU nW nV nZ nJ nK nM nC nmm hG hV hB hO hP hD hS hl hi (by omega) (by omega) K
                    · skip
                      by_cases c_18 : y = 8
                      · refine lv_tableIn (off := 357) (tgt := 396) hx hb d_L_law_39 (by rw [c_18]; decide) (by rw [c_18]; decide) (by rw [c_18]; decide) (by decide) ?_
                        exact lc_8 hEnv x g g1 g2 g3 v v1 v2 v3 v4 v5 b b1 b2 b3 b4 b5 b6 o o1 o2 o3 o4 w d0 d1 d2 d3 d4 d5 d6 d7 d8 d9 d10 d11 d12 d13 gA gC gL gP gE gB gF vL vM vS vK vR vW vN vP vE vC vD vB vF bA bC bT bU bL bN bX bG bH oO oW oP oE oC oL oU wF nT nB nN nL nG nA nS nO nU nW nV nZ nJ nK nM nC nmm hG hV hB hO hP hD hS hl hi (by omega) (by omega) K
                      · skip
                        by_cases c_19 : y = 9
                        · refine lv_tableIn (off := 425) (tgt := 464) hx hb d_L_law_39 (by rw [c_19]; decide) (by rw [c_19]; decide) (by rw [c_19]; decide) (by decide) ?_
                          exact lc_9 hEnv x g g1 g2 g3 v v1 v2 v3 v4 v5 b b1 b2 b3 b4 b5 b6 o o1 o2 o3 o4 w d0 d1 d2 d3 d4 d5 d6 d7 d8 d9 d10 d11 d12 d13 gA gC gL gP gE gB gF vL vM vS vK vR vW vN vP vE vC vD vB vF bA bC bT bU bL bN bX bG bH oO oW oP oE oC oL oU wF nT nB nN nL nG nA nS nO nU nW nV nZ nJ nK nM nC nmm hG hV hB hO hP hD hS hl hi (by omega) (by omega) K
                        · skip
                          by_cases c_20 : y = 10
                          · refine lv_tableIn (off := 439) (tgt := 478) hx hb d_L_law_39 (by rw [c_20]; decide) (by rw [c_20]; decide) (by rw [c_20]; decide) (by decide) ?_
                            exact lc_10 hEnv x g g1 g2 g3 v v1 v2 v3 v4 v5 b b1 b2 b3 b4 b5 b6 o o1 o2 o3 o4 w d0 d1 d2 d3 d4 d5 d6 d7 d8 d9 d10 d11 d12 d13 gA gC gL gP gE gB gF vL vM vS vK vR vW vN vP vE vC vD vB vF bA bC bT bU bL bN bX bG bH oO oW oP oE oC oL oU wF nT nB nN nL nG nA nS nO nU nW nV nZ nJ nK nM nC nmm hG hV hB hO hP hD hS hl hi (by omega) (by omega) K
                          · skip
                            by_cases c_21 : y = 11
                            · refine lv_tableIn (off := 453) (tgt := 492) hx hb d_L_law_39 (by rw [c_21]; decide) (by rw [c_21]; decide) (by rw [c_21]; decide) (by decide) ?_
                              exact lc_11 hEnv x g g1 g2 g3 v v1 v2 v3 v4 v5 b b1 b2 b3 b4 b5 b6 o o1 o2 o3 o4 w d0 d1 d2 d3 d4 d5 d6 d7 d8 d9 d10 d11 d12 d13 gA gC gL gP gE gB gF vL vM vS vK vR vW vN vP vE vC vD vB vF bA bC bT bU bL bN bX bG bH oO oW oP oE oC oL oU wF nT nB nN nL nG nA nS nO nU nW nV nZ nJ nK nM nC nmm hG hV hB hO hP hD hS hl hi (by omega) (by omega) K
                            · skip
                              by_cases c_22 : y = 12
                              · refine lv_tableIn (off := 466) (tgt := 505) hx hb d_L_law_39 (by rw [c_22]; decide) (by rw [c_22]; decide) (by rw [c_22]; decide) (by decide) ?_
                                exact lc_12 hEnv x g g1 g2 g3 v v1 v2 v3 v4 v5 b b1 b2 b3 b4 b5 b6 o o1 o2 o3 o4 w d0 d1 d2 d3 d4 d5 d6 d7 d8 d9 d10 d11 d12 d13 gA gC gL gP gE gB gF vL vM vS vK vR vW vN vP vE vC vD vB vF bA bC bT bU bL bN bX bG bH oO oW oP oE oC oL oU wF nT nB nN nL nG nA nS nO nU nW nV nZ nJ nK nM nC nmm hG hV hB hO hP hD hS hl hi (by omega) (by omega) K
                              · skip
                                by_cases c_23 : y = 13
                                · refine lv_tableIn (off := 523) (tgt := 562) hx hb d_L_law_39 (by rw [c_23]; decide) (by rw [c_23]; decide) (by rw [c_23]; decide) (by decide) ?_
                                  exact lc_13 hEnv x g g1 g2 g3 v v1 v2 v3 v4 v5 b b1 b2 b3 b4 b5 b6 o o1 o2 o3 o4 w d0 d1 d2 d3 d4 d5 d6 d7 d8 d9 d10 d11 d12 d13 gA gC gL gP gE gB gF vL vM vS vK vR vW vN vP vE vC vD vB vF bA bC bT bU bL bN bX bG bH oO oW oP oE oC oL oU wF nT nB nN nL nG nA nS nO nU nW nV nZ nJ nK nM nC nmm hG hV hB hO hP hD hS hl hi (by omega) (by omega) K
                                · skip
                                  refine lv_tableOut (tgt := 587) hx hb d_L_law_39 (gd_out14 c_10 c_11 c_12 c_13 c_14 c_15 c_16 c_17 c_18 c_19 c_20 c_21 c_22 c_23) (by decide) ?_
                                  refine W.widen (k := nc + 1) (n := ns + 6) (by omega) (by omega) ?_
                                  exact K gA gC gL gP gE gB gF vL vM vS vK vR vW vN vP vE vC vD vB vF bA bC bT bU bL bN bX bG bH oO oW oP oE oC oL oU wF nT gP gE gF nB nN nL nG vP vE vD vB vF nA nS nO nU nW bH nV nZ nJ nK nM nC nmm hR H locs ls hP hD hS hl
