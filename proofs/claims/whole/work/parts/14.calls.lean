/-- the words' list among itself -/
theorem q_gw {w : Cond} (h : w ∈ gG) : w ∈ gG ∧ ((w.onTables && w.keeps) = true ∨ ∃ ty, w = .arrayClass ty) := ⟨h, good_of_word (List.mem_filter.mp h).2⟩
theorem q_gC {c : Cond} (h : c ∈ gG) : GoodIn gG (c :: gG) := fun _ hw => (List.mem_cons.mp hw).elim (fun e => e ▸ q_gw h) q_gw
theorem q_gV {own C : String} {i : Nat} {y : MethodName} {c : Cond} (h1 : Cond.methodLink own i y ∈ gG) (h2 : Cond.instanceMethod y ∈ gG) (h3 : Cond.selects C y y ∈ gG) (h4 : Cond.initialized C ∈ gG) (h5 : c ∈ gG) : GoodIn gG (wsV own i C y (c :: gG)) := by
  intro w hw
  rcases List.mem_append.mp hw with hw | hw
  · simp only [List.mem_cons, List.not_mem_nil, or_false] at hw
    rcases hw with rfl | rfl | rfl | rfl
    · exact q_gw h1
    · exact q_gw h2
    · exact q_gw h3
    · exact q_gw h4
  · exact q_gC h5 w hw
theorem q_gS {own : String} {i : Nat} {y : MethodName} {c : Cond} (h1 : Cond.methodLink own i y ∈ gG) (h2 : Cond.static y ∈ gG) (h3 : Cond.initialized y.cls ∈ gG) (h5 : c ∈ gG) : GoodIn gG (va_wsS own i y (c :: gG)) := by
  intro w hw
  rcases List.mem_append.mp hw with hw | hw
  · simp only [List.mem_cons, List.not_mem_nil, or_false] at hw
    rcases hw with rfl | rfl | rfl
    · exact q_gw h1
    · exact q_gw h2
    · exact q_gw h3
  · exact q_gC h5 w hw
/-- what a contract asks of the state: the cells, the classes, the links between nest mates -/
def xP (D : va_G) (tys : List (ClassId × FieldType)) (ws : va_W) (N : State → Prop) : State → Prop := fun U => va_P D vwCl ws U.heap ∧ va_K D vwCl tys U ∧ N U
theorem xP_pre {D : va_G} {tys : List (ClassId × FieldType)} {ws : va_W} {s U : State} {H : Heap} (hU : U.heap = H) (hW : s.WarmedH U.vm) (hP : va_P D vwCl ws H) (hK : va_K D vwCl tys s) (hN : nestN s) : xP D tys ws nestN U := ⟨by rw [hU]; exact hP, va_K.moved hW.alike hK, x_N hN hW⟩
theorem xP_call {D : va_G} {tys : List (ClassId × FieldType)} {ws : va_W} {U : State} {g : JFrame} {mk : MethodId} {a : Array Value} (h : xP D tys ws nestN U) : xP D tys ws nestN (U.calling g mk a) := ⟨h.1, va_K.moved (u := U) (U := U.calling g mk a) (Vm.Alike.refl U.vm) h.2.1, x_N (U := U.calling g mk a) h.2.2 (State.WarmedH.refl U)⟩
theorem xP_blind {D : va_G} {tys : List (ClassId × FieldType)} {ws : va_W} {av : List Value} : FrameBlind (va_Pc av (xP D tys ws nestN)) := fun _ _ _ _ q => ⟨q.1, xP_call q.2⟩
theorem xM_blind {D : va_G} {tys : List (ClassId × FieldType)} {ws : va_W} {av : List Value} {sz : Nat} : FrameBlind (va_Pc av (fun U => U.heap.size = sz ∧ xP D tys ws nestN U ∧ va_D (fun _ => True) ws)) := fun _ _ _ _ q => ⟨q.1, q.2.1, xP_call q.2.2.1, q.2.2.2⟩
section XC
variable {p : Program} {l : Launch} {e : Env} {R : Room} {s : State} {m : MethodId} {args : Array Value} {below : List Frame} {meth : Method} {c : Code} {H H0 : Heap} {locs : List Loc} {cells slots : Nat} {Q : State → Prop}
variable {y : MethodName} {bytes cc : ByteArray} {maxL nL n index pc : Nat} {ret : Option FieldType} {wsc Ts : List Cond} {rm : Room} {own C host : String} {b : Addr} {As rest st0 : List Value} {ls : Array Slot} {D : va_G} {tys : List (ClassId × FieldType)} {ws wc : va_W} {A0 : Nat → Prop}
/-- a call that only reads, on an object -/
theorem xc_V {val : Int32} (S : CallFix p m c cc nL s args Ts own) (hM : Met l y wsc rm (va_Pc (.ref b :: As) (xP D tys wc nestN)) (vp_Si (fun r => r = val)) 0 0 (fun _ => False))
    (cw : CallW R s args own C index y bytes maxL ret wsc rm 0 0 n) (hN : nestN s) (hK : va_K D vwCl tys s) (hP : va_P D vwCl ws H) (is : List Nat) (hs : is.filterMap (fun i => ws[i]?) = wc) (q0 ci : Nat) {T0 : u_T} {N0 : Nat} {fs : List Value} (hc : vwCl[ci]? = some (C, T0, N0)) (he : wc[q0]? = some (b, .inr (ci, fs)))
    (hn : As.length = n) (hsize : ls.size = nL) (hst : st0 = As.reverse ++ .ref b :: rest) (hW : (rest.map fun v => v.category).sum ≤ 8) (hdg : decode cc pc = .ok (.invokevirtual index, 3)) (hf : cells + 0 ≤ R.cells ∧ slots + 0 ≤ R.slots)
    (k : W p l e R s m args below meth c H locs cells slots Q (F0 m (pc + 3) ls (.int val :: rest))) : W p l e R s m args below meth c H locs cells slots Q (F0 m pc ls st0) := by
  have hPc := hP.sub is hs
  exact vp_callSi (va_Run.run (va_runV (g := F0 m pc ls st0) S hM cw ⟨xP_blind, va_recv hK hPc hc he, fun U hU hW => ⟨rfl, xP_pre hU hW hPc hK hN⟩⟩ rfl hn hsize hst (lv_room hW) hdg hf)) (fun r hr => by subst hr; exact k)
/-- .. of a static method -/
theorem xc_S {val : Int32} (S : CallFix p m c cc nL s args Ts own) (hM : Met l y wsc rm (va_Pc As (xP D tys wc nestN)) (vp_Si (fun r => r = val)) 0 0 (fun _ => False))
    (cw : CallB R s args own index y bytes maxL ret wsc rm 0 0 n ∧ (Cond.static y).before args s = true) (hN : nestN s) (hK : va_K D vwCl tys s) (hP : va_P D vwCl ws H) (is : List Nat) (hs : is.filterMap (fun i => ws[i]?) = wc)
    (hn : As.length = n) (hsize : ls.size = nL) (hst : st0 = As.reverse ++ rest) (hW : (rest.map fun v => v.category).sum ≤ 8) (hdg : decode cc pc = .ok (.invokestatic index, 3)) (hf : cells + 0 ≤ R.cells ∧ slots + 0 ≤ R.slots)
    (k : W p l e R s m args below meth c H locs cells slots Q (F0 m (pc + 3) ls (.int val :: rest))) : W p l e R s m args below meth c H locs cells slots Q (F0 m pc ls st0) := by
  have hPc := hP.sub is hs
  exact vp_callSi (va_Run.run (va_runS (g := F0 m pc ls st0) S hM cw ⟨xP_blind, fun U hU hW => ⟨rfl, xP_pre hU hW hPc hK hN⟩⟩ rfl hn hsize hst (lv_room hW) hdg hf)) (fun r hr => by subst hr; exact k)
/-- .. of a nest mate's private static method -/
theorem xc_N {val : Int32} (S : CallFix p m c cc nL s args Ts own) (hM : Met l y wsc rm (va_Pc As (xP D tys wc nestN)) (vp_Si (fun r => r = val)) 0 0 (fun _ => False))
    (cw : va_CN R s args own index y host bytes maxL ret wsc rm 0 0 n ∧ (Cond.static y).before args s = true ∧ True) (hN : nestN s) (hK : va_K D vwCl tys s) (hP : va_P D vwCl ws H) (is : List Nat) (hs : is.filterMap (fun i => ws[i]?) = wc)
    (hn : As.length = n) (hsize : ls.size = nL) (hst : st0 = As.reverse ++ rest) (hW : (rest.map fun v => v.category).sum ≤ 8) (hdg : decode cc pc = .ok (.invokestatic index, 3)) (hf : cells + 0 ≤ R.cells ∧ slots + 0 ≤ R.slots)
    (k : W p l e R s m args below meth c H locs cells slots Q (F0 m (pc + 3) ls (.int val :: rest))) : W p l e R s m args below meth c H locs cells slots Q (F0 m pc ls st0) := by
  have hPc := hP.sub is hs
  exact vp_callSi (va_Run.run (va_runSN (g := F0 m pc ls st0) S hM cw ⟨xP_blind, fun U hU hW => ⟨rfl, xP_pre hU hW hPc hK hN⟩⟩ rfl hn hsize hst (lv_room hW) hdg hf)) (fun r hr => by subst hr; exact k)
/-- a call that writes, without an answer: the cells at isC are the callee's, what comes back lies where it lay (perm) -/
theorem xm_Vv {S0 : Type} {val : S0} {w1 w2 : S0 → va_W} (S : CallFix p m c cc nL s args Ts own)
    (hM : Met l y wsc rm (va_Pc (.ref b :: As) (fun U => U.heap.size = H.size ∧ xP D tys wc nestN U ∧ va_D (fun _ => True) wc)) (va_Qv (fun u => u = val) (fun u t => xP D tys (w1 u) nestN t ∧ va_D (va_A wc H.size) (w1 u)) (va_A wc H.size)) 0 0 (va_A wc H.size))
    (cw : CallW R s args own C index y bytes maxL ret wsc rm 0 0 n) (hN : nestN s) (hK : va_K D vwCl tys s) (hP : va_P D vwCl ws H) (hD : va_D A0 ws) (hS : va_S A0 H0 H locs) (hA : ∀ q, H0.size ≤ q → A0 q) (isC isR : List Nat) (hC : isC.map (fun i => ws[i]?) = wc.map some) (hR : isR.map (fun i => ws[i]?) = (isR.filterMap (fun i => ws[i]?)).map some) (hnC : va_nd isC = true) (hnR : va_nd isR = true) (hdis : ∀ i ∈ isR, i ∉ isC)
    (perm : List Nat) (hp : ∀ u, perm.map (fun i => (isR.filterMap (fun i => ws[i]?) ++ w1 u)[i]?) = (w2 u).map some) (hpn : va_nd perm = true) (q0 ci : Nat) {T0 : u_T} {N0 : Nat} {fs : List Value} (hc : vwCl[ci]? = some (C, T0, N0)) (he : wc[q0]? = some (b, .inr (ci, fs)))
    (hn : As.length = n) (hsize : ls.size = nL) (hst : st0 = As.reverse ++ .ref b :: rest) (hW : (rest.map fun v => v.category).sum ≤ 8) (hdg : decode cc pc = .ok (.invokevirtual index, 3)) (hf : cells + 0 ≤ R.cells ∧ slots + 0 ≤ R.slots)
    (k : ∀ (u : S0) (H1 : Heap) (locs1 : List Loc), u = val → va_P D vwCl (w2 u) H1 → va_D A0 (w2 u) → va_S A0 H0 H1 locs1 → W p l e R s m args below meth c H1 locs1 cells slots Q (F0 m (pc + 3) ls rest)) : W p l e R s m args below meth c H locs cells slots Q (F0 m pc ls st0) := by
  have hsub : ∀ {is : List Nat} {w w' : va_W}, is.map (fun i => w[i]?) = w'.map some → is.filterMap (fun i => w[i]?) = w' := by
    intro is w w' h
    have h1 : (is.map (fun i => w[i]?)).filterMap id = (w'.map some).filterMap id := by rw [h]
    simpa [List.filterMap_map] using h1
  have hPc := hP.sub isC (hsub hC)
  have hDc := hD.sub isC hnC hC
  have hFc := va_free (wc := wc) hD hS hA isC hC
  refine va_callv (va_runV (g := F0 m pc ls st0) S hM cw ⟨xM_blind, va_recv hK hPc hc he, fun U hU hW => ⟨rfl, by rw [hU], xP_pre hU hW hPc hK hN, hDc.weaken (fun _ _ _ _ => trivial)⟩⟩ rfl hn hsize hst (lv_room hW) hdg hf) hS (fun q _ h => hFc q h) hFc (fun u t H1 locs1 ht hvm hw hB hz1 hk1 hS1 => ?_)
  obtain ⟨⟨hP1, -, -⟩, hD1⟩ := hB
  rw [ht] at hP1
  obtain ⟨hP2, hD2⟩ := va_join (wr := isR.filterMap (fun i => ws[i]?)) (w1 := w1 u) hP hD isC isR hC hR hnR hdis hk1 hFc hP1 hD1
  exact k u H1 locs1 hw (hP2.sub perm (hsub (hp u))) (hD2.sub perm hpn (hp u)) hS1
/-- .. with an int for an answer: the first of what comes back -/
theorem xm_Vi {S1 : Type} {val : Int32 × S1} {w1 w2 : Int32 × S1 → va_W} (S : CallFix p m c cc nL s args Ts own)
    (hM : Met l y wsc rm (va_Pc (.ref b :: As) (fun U => U.heap.size = H.size ∧ xP D tys wc nestN U ∧ va_D (fun _ => True) wc)) (va_Qi (fun r u => u = val ∧ r = u.1) (fun u t => xP D tys (w1 u) nestN t ∧ va_D (va_A wc H.size) (w1 u)) (va_A wc H.size)) 0 0 (va_A wc H.size))
    (cw : CallW R s args own C index y bytes maxL ret wsc rm 0 0 n) (hN : nestN s) (hK : va_K D vwCl tys s) (hP : va_P D vwCl ws H) (hD : va_D A0 ws) (hS : va_S A0 H0 H locs) (hA : ∀ q, H0.size ≤ q → A0 q) (isC isR : List Nat) (hC : isC.map (fun i => ws[i]?) = wc.map some) (hR : isR.map (fun i => ws[i]?) = (isR.filterMap (fun i => ws[i]?)).map some) (hnC : va_nd isC = true) (hnR : va_nd isR = true) (hdis : ∀ i ∈ isR, i ∉ isC)
    (perm : List Nat) (hp : ∀ u, perm.map (fun i => (isR.filterMap (fun i => ws[i]?) ++ w1 u)[i]?) = (w2 u).map some) (hpn : va_nd perm = true) (q0 ci : Nat) {T0 : u_T} {N0 : Nat} {fs : List Value} (hc : vwCl[ci]? = some (C, T0, N0)) (he : wc[q0]? = some (b, .inr (ci, fs)))
    (hn : As.length = n) (hsize : ls.size = nL) (hst : st0 = As.reverse ++ .ref b :: rest) (hW : (rest.map fun v => v.category).sum ≤ 8) (hdg : decode cc pc = .ok (.invokevirtual index, 3)) (hf : cells + 0 ≤ R.cells ∧ slots + 0 ≤ R.slots)
    (k : ∀ (u : Int32 × S1) (H1 : Heap) (locs1 : List Loc), u = val → va_P D vwCl (w2 u) H1 → va_D A0 (w2 u) → va_S A0 H0 H1 locs1 → W p l e R s m args below meth c H1 locs1 cells slots Q (F0 m (pc + 3) ls (.int u.1 :: rest))) : W p l e R s m args below meth c H locs cells slots Q (F0 m pc ls st0) := by
  have hsub : ∀ {is : List Nat} {w w' : va_W}, is.map (fun i => w[i]?) = w'.map some → is.filterMap (fun i => w[i]?) = w' := by
    intro is w w' h
    have h1 : (is.map (fun i => w[i]?)).filterMap id = (w'.map some).filterMap id := by rw [h]
    simpa [List.filterMap_map] using h1
  have hPc := hP.sub isC (hsub hC)
  have hDc := hD.sub isC hnC hC
  have hFc := va_free (wc := wc) hD hS hA isC hC
  refine va_calli (va_runV (g := F0 m pc ls st0) S hM cw ⟨xM_blind, va_recv hK hPc hc he, fun U hU hW => ⟨rfl, by rw [hU], xP_pre hU hW hPc hK hN, hDc.weaken (fun _ _ _ _ => trivial)⟩⟩ rfl hn hsize hst (lv_room hW) hdg hf) hS (fun q _ h => hFc q h) hFc (fun r u t H1 locs1 ht hvm hw hB hz1 hk1 hS1 => ?_)
  obtain ⟨hw, rfl⟩ := hw
  obtain ⟨⟨hP1, -, -⟩, hD1⟩ := hB
  rw [ht] at hP1
  obtain ⟨hP2, hD2⟩ := va_join (wr := isR.filterMap (fun i => ws[i]?)) (w1 := w1 u) hP hD isC isR hC hR hnR hdis hk1 hFc hP1 hD1
  exact k u H1 locs1 hw (hP2.sub perm (hsub (hp u))) (hD2.sub perm hpn (hp u)) hS1
end XC
