/-! throws: what a throwing method asks of the state; one row a throw; one row a call that may throw -/
def exN (k : Int32) : String := if k = 1 then "java/lang/IllegalArgumentException" else if k = 2 then "java/lang/UnsupportedOperationException" else if k = 3 then "java/lang/IllegalStateException" else if k = 4 then "java/lang/IndexOutOfBoundsException" else "java/util/NoSuchElementException"
def thrW : List Cond := [.castable "java/lang/IllegalArgumentException" "java/lang/IllegalArgumentException", .castable "java/lang/UnsupportedOperationException" "java/lang/UnsupportedOperationException", .castable "java/lang/IllegalStateException" "java/lang/IllegalStateException", .castable "java/lang/IndexOutOfBoundsException" "java/lang/IndexOutOfBoundsException", .castable "java/util/NoSuchElementException" "java/util/NoSuchElementException", .declares ⟨"java/lang/RuntimeException", "<init>", "(Ljava/lang/String;)V"⟩, .declares ⟨"java/lang/Exception", "<init>", "(Ljava/lang/String;)V"⟩, .declares ⟨"java/lang/Throwable", "<init>", "(Ljava/lang/String;)V"⟩]
def thrS : List (Nat × String) := [(76, "not a production"), (87, "there are 24 productions"), (99, "a symbol would have a way of steps to itself"), (106, "no such token"), (109, "the row has 24 tokens"), (119, "the row has no such beginning"), (164, "no such symbol or part"), (136, "no number of a tree"), (140, "there is no such tree"), (152, "the tree has no such node"), (155, "nothing is told of a node under this number")]
def thrV (U : State) : Prop := (∀ w ∈ thrW, va_Nw w U) ∧ ∀ q ∈ thrS, ∃ a, vk_R qR_H q.1 q.2 a U
def thrZ (A : Nat → Prop) (U : State) (H : Heap) : Prop := vx_Zq Bundle.tN "UNASSIGNED_STACK" Bundle.steD A U H ∧ vx_Zq Bundle.tN "SUPPRESSED_SENTINEL" Bundle.listD A U H
def thrN (A : Nat → Prop) (U : State) : Prop := thrZ A U U.heap ∧ thrV U
theorem thrV_warm {s U : State} (h : thrV s) (hW : s.WarmedH U.vm) : thrV U := by
  refine ⟨fun w hw => ?_, fun q hq => ?_⟩
  · have hw0 := h.1 w hw
    simp only [thrW, List.mem_cons, List.not_mem_nil, or_false] at hw
    rcases hw with rfl | rfl | rfl | rfl | rfl | rfl | rfl | rfl
    all_goals first | exact va_Nw.warmC hW hw0 | exact va_Nw.warmD hW hw0
  · obtain ⟨a, ha⟩ := h.2 q hq
    exact ⟨a, vk_R.warm hW ha⟩
theorem thrN_at {A B : Nat → Prop} {s U : State} {H : Heap} {locs : List Loc} (h : thrN A s) (hS : va_S A s.heap H locs) (hU : U.heap = H) (hW : s.WarmedH U.vm) (hAB : ∀ q, B q → A q) : thrN B U := by
  refine ⟨⟨?_, ?_⟩, thrV_warm h.2 hW⟩
  · rw [hU]; exact ((h.1.1.kept hS.2.1).moved hW.alike).narrow hAB
  · rw [hU]; exact ((h.1.2.kept hS.2.1).moved hW.alike).narrow hAB
theorem thrN_call {A : Nat → Prop} {U : State} {g : JFrame} {mk : MethodId} {a : Array Value} (h : thrN A U) : thrN A (U.calling g mk a) :=
  ⟨⟨h.1.1.moved (u := U) (U := U.calling g mk a) (Vm.Alike.refl U.vm), h.1.2.moved (u := U) (U := U.calling g mk a) (Vm.Alike.refl U.vm)⟩, thrV_warm (U := U.calling g mk a) h.2 (State.WarmedH.refl U)⟩
/-- what a throwing method's start asks -/
def xPT (D : va_G) (tys : List (ClassId × FieldType)) (ws : va_W) (sz : Nat) : State → Prop := fun U => U.heap.size = sz ∧ xP D tys ws nestN U ∧ va_D (fun _ => True) ws ∧ thrN (va_A ws sz) U
theorem xPT_blind {D : va_G} {tys : List (ClassId × FieldType)} {ws : va_W} {av : List Value} {sz : Nat} : FrameBlind (va_Pc av (xPT D tys ws sz)) := fun _ _ _ _ q => ⟨q.1, q.2.1, xP_call q.2.2.1, q.2.2.2.1, thrN_call q.2.2.2.2⟩
/-- the words of a throw: good ones, or of thrW -/
theorem thr_hat {args : Array Value} {s : State} {L : List Cond} (hg : ∀ w ∈ gG, w.before args s = true) (hV : thrV s) (h : ∀ w ∈ L, w ∈ gG ∨ (w ∈ thrW ∧ w.onTables = true)) : ∀ w ∈ L, w.before args s = true := fun w hw => (h w hw).elim (hg w) (fun q => va_Nw.use q.2 (hV.1 w q.1))
theorem thr_ot {L : List Cond} (h : ∀ w ∈ L, w ∈ gG ∨ (w ∈ thrW ∧ w.onTables = true)) : ∀ w ∈ L, vx_ot w = true := by
  intro w hw
  unfold vx_ot
  rcases h w hw with q | q
  · rw [(List.mem_filter.mp q).2, Bool.or_true]
  · rw [q.2, Bool.true_or]
section XT
variable {p : Program} {l : Launch} {e : Env} {R : Room} {s : State} {m : MethodId} {args : Array Value} {below : List Frame} {meth : Method} {c : Code} {H : Heap} {locs : List Loc} {cells slots mc ms : Nat} {Q : State → Prop}
variable {y : MethodName} {bytes cc : ByteArray} {maxL nL n index pc : Nat} {ret : Option FieldType} {wsc : List Cond} {rm : Room} {own C : String} {b : Addr} {As rest st0 : List Value} {ls : Array Slot} {D : va_G} {tys : List (ClassId × FieldType)} {ws wc : va_W} {A : Nat → Prop} {free : Addr → Prop}
/-- 'throw new E("..")' in the class: the cells stay as they are -/
theorem xt_throw {S0 : Type} {Qc : Array Value → State → Outcome → State → Prop} {val : S0} {code : S0 → Int32} {w1 : S0 → va_W} (k : Int32) {ik is ic : Nat} {text : String} (hx : p.tables.exec = Jvm.exec) (hb : c.code = cc) (hl : l.stackTraces = false) (hown : s.vm.findClass qR_H = some m.cls) (hg : ∀ w ∈ gG, w.before args s = true) (hT : thrN A s)
    (hk : Cond.classLink qR_H ik (exN k) ∈ gG) (hi : Cond.initialized (exN k) ∈ gG) (hs9 : (is, text) ∈ thrS) (hat : ∀ w ∈ vx_atS qR_H ic (exN k) ["java/lang/RuntimeException", "java/lang/Exception"], w ∈ gG ∨ (w ∈ thrW ∧ w.onTables = true)) (hfit : Bundle.fit (exN k) = true)
    (hS : va_S A s.heap H locs) (hsize : ls.size = c.maxLocals)
    (d0 : decode cc pc = .ok (.new ik, 3)) (d3 : decode cc (pc + 3) = .ok (.dup, 1)) (d4 : decode cc (pc + 4) = .ok (.ldc is, 2)) (d6 : decode cc (pc + 6) = .ok (.invokespecial ic, 3)) (d9 : decode cc (pc + 9) = .ok (.athrow, 1)) (hout : ∀ x ∈ c.exceptionTable.toList, False)
    (hRf : 5 < R.frames) (hRl : (rest.map fun v => v.category).sum + 82 ≤ R.locals) (hRc : cells + 1 ≤ R.cells) (hRs : slots + 6 ≤ R.slots) (hlocks : meth.locks = false)
    (hP : va_P D vwCl ws H) (hD : va_D A ws) (u : S0) (hu : val = u) (hc : code u = k) (hk0 : ¬ k = 0) (hw : w1 u = ws) (hf : ∀ z ∈ locs, free z.base) (hmc : cells + 1 ≤ mc) (hms : slots + 6 ≤ ms) :
    W p l e R s m args below meth c H locs cells slots (vx_MQ below Qc (vx_X (fun u => u = val ∧ ¬ code u = 0) (fun E u t => E = exN (code u) ∧ va_P D vwCl (w1 u) t.heap ∧ va_D A (w1 u)) A) args s mc ms free) (F0 m pc ls rest) := by
  obtain ⟨sa, hsa⟩ := hT.2.2 _ hs9
  refine vx_throwS (names := ["java/lang/RuntimeException", "java/lang/Exception"]) (A := A) hx hb hl hown hfit (by decide +kernel) (hg _ hk) (hg _ hi) hsa (thr_hat hg hT.2 hat) ?_ hT.1.1 hT.1.2 hS hsize d0 d3 d4 d6 d9 (fun x h => (hout x h).elim) hRf hRl hRc hRs hlocks ?_ hf hmc hms
  · intro w hw
    rcases List.mem_cons.mp hw with rfl | hw
    · exact thr_ot (L := [_]) (fun w h => Or.inl (by rw [List.mem_singleton.mp h]; exact hk)) _ (List.mem_singleton.mpr rfl)
    rcases List.mem_cons.mp hw with rfl | hw
    · exact thr_ot (L := [_]) (fun w h => Or.inl (by rw [List.mem_singleton.mp h]; exact hi)) _ (List.mem_singleton.mpr rfl)
    · exact thr_ot hat w hw
  · intro t hA hz hkp
    refine ⟨u, ⟨hu.symm, by rw [hc]; exact hk0⟩, ⟨by rw [hc], by rw [hw]; exact hP.kept (fun k q hq => hkp q.1 ((hP k q hq).lt)), by rw [hw]; exact hD⟩, ?_, ?_⟩
    · exact Nat.le_trans hS.1 hz
    · intro q h1 h2
      rw [hkp q (Nat.lt_of_lt_of_le h1 hS.1)]
      exact hS.2.1 q h1 h2
/-- a call that may throw: two ways on -/
theorem xt_V {S0 : Type} {val : S0} {code : S0 → Int32} {w1 w2 : S0 → va_W} (S : CallFix p m c cc nL s args gG own)
    (hM : vx_Met l y wsc rm (va_Pc (.ref b :: As) (xPT D tys wc H.size)) (va_Qv (fun u => u = val ∧ code u = 0) (fun u t => xP D tys (w1 u) nestN t ∧ va_D (va_A wc H.size) (w1 u)) (va_A wc H.size)) (vx_X (fun u => u = val ∧ ¬ code u = 0) (fun E u t => E = exN (code u) ∧ va_P D vwCl (w1 u) t.heap ∧ va_D (va_A wc H.size) (w1 u)) (va_A wc H.size)) mc ms (va_A wc H.size))
    (cw : CallW R s args own C index y bytes maxL ret wsc rm mc ms n) (hN : nestN s) (hT : thrN A s) (hK : va_K D vwCl tys s) (hP : va_P D vwCl ws H) (hD : va_D A ws) (hS : va_S A s.heap H locs) (hA : ∀ q, s.heap.size ≤ q → A q) (isC isR : List Nat) (hC : isC.map (fun i => ws[i]?) = wc.map some) (hR : isR.map (fun i => ws[i]?) = (isR.filterMap (fun i => ws[i]?)).map some) (hnC : va_nd isC = true) (hnR : va_nd isR = true) (hdis : ∀ i ∈ isR, i ∉ isC)
    (perm : List Nat) (hp : ∀ u, perm.map (fun i => (isR.filterMap (fun i => ws[i]?) ++ w1 u)[i]?) = (w2 u).map some) (hpn : va_nd perm = true) (q0 ci : Nat) {T0 : u_T} {N0 : Nat} {fs : List Value} (hc : vwCl[ci]? = some (C, T0, N0)) (he : wc[q0]? = some (b, .inr (ci, fs)))
    (hn : As.length = n) (hsize : ls.size = nL) (hst : st0 = As.reverse ++ .ref b :: rest) (hW : (rest.map fun v => v.category).sum ≤ 8) (hdg : decode cc pc = .ok (.invokevirtual index, 3)) (hf : cells + mc ≤ R.cells ∧ slots + ms ≤ R.slots)
    (kx : ∀ (u : S0) (q9 : Addr) (ce : Cell) (H1 : Heap) (locs1 : List Loc), u = val → ¬ code u = 0 → va_P D vwCl (w2 u) H1 → va_D A (w2 u) → va_S A s.heap H1 locs1 → H1[q9]? = some ce → ce.vm = .none → s.vm.findClass (exN (code u)) = some ce.cls → vx_W p l e R s m args below meth c H1 locs1 (cells + mc) (slots + ms) Q (F0 m pc ls rest) q9)
    (kk : ∀ (u : S0) (H1 : Heap) (locs1 : List Loc), u = val → code u = 0 → va_P D vwCl (w2 u) H1 → va_D A (w2 u) → va_S A s.heap H1 locs1 → W p l e R s m args below meth c H1 locs1 (cells + mc) (slots + ms) Q (F0 m (pc + 3) ls rest)) : W p l e R s m args below meth c H locs cells slots Q (F0 m pc ls st0) := by
  have hPc := hP.sub isC (x_fm hC)
  have hDc := hD.sub isC hnC hC
  have hFc := va_free (wc := wc) hD hS hA isC hC
  refine vx_callv (vx_runV (g := F0 m pc ls st0) S hM cw ⟨xPT_blind, va_recv hK hPc hc he, fun U hU hW => ⟨rfl, by rw [hU], xP_pre hU hW hPc hK hN, hDc.weaken (fun _ _ _ _ => trivial), thrN_at hT hS hU hW hFc⟩⟩ rfl hn hsize hst (lv_room hW) hdg hf) hS (fun q _ h => hFc q h) hFc (fun q _ h => hFc q h) (fun E ce q9 u t H1 locs1 ht hvm hw hB hz1 hk1 hS1 hce hcv hcl => ?_) (fun u t H1 locs1 ht hvm hw hB hz1 hk1 hS1 => ?_)
  · obtain ⟨rfl, hP1, hD1⟩ := hB
    rw [ht] at hP1
    obtain ⟨hP2, hD2⟩ := va_join (wr := isR.filterMap (fun i => ws[i]?)) (w1 := w1 u) hP hD isC isR hC hR hnR hdis hk1 hFc hP1 hD1
    exact kx u q9 ce H1 locs1 hw.1 hw.2 (hP2.sub perm (x_fm (hp u))) (hD2.sub perm hpn (hp u)) hS1 hce hcv hcl
  · obtain ⟨⟨hP1, -, -⟩, hD1⟩ := hB
    rw [ht] at hP1
    obtain ⟨hP2, hD2⟩ := va_join (wr := isR.filterMap (fun i => ws[i]?)) (w1 := w1 u) hP hD isC isR hC hR hnR hdis hk1 hFc hP1 hD1
    exact kk u H1 locs1 hw.1 hw.2 (hP2.sub perm (x_fm (hp u))) (hD2.sub perm hpn (hp u)) hS1
/-- .. and it leaves this method too -/
theorem xt_out {S0 : Type} {Qc : Array Value → State → Outcome → State → Prop} {val : S0} {code : S0 → Int32} {w1 : S0 → va_W} {ce : Cell} {q9 : Addr} (hout : ∀ x ∈ c.exceptionTable.toList, False) (hlocks : meth.locks = false) (k : Int32) (hce : H[q9]? = some ce) (hcv : ce.vm = .none) (hcl : s.vm.findClass (exN k) = some ce.cls) (hS : va_S A s.heap H locs)
    (hP : va_P D vwCl ws H) (hD : va_D A ws) (u : S0) (hu : val = u) (hc : code u = k) (hk0 : ¬ k = 0) (hw : w1 u = ws) (hf : ∀ z ∈ locs, free z.base) (hmc : cells ≤ mc) (hms : slots ≤ ms) :
    vx_W p l e R s m args below meth c H locs cells slots (vx_MQ below Qc (vx_X (fun u => u = val ∧ ¬ code u = 0) (fun E u t => E = exN (code u) ∧ va_P D vwCl (w1 u) t.heap ∧ va_D A (w1 u)) A) args s mc ms free) (F0 m pc ls rest) q9 :=
  vx_out (fun x h => (hout x h).elim) hlocks hce hcv hcl (fun t ht _ => ⟨u, ⟨hu.symm, by rw [hc]; exact hk0⟩, ⟨by rw [hc], by rw [hw, ht]; exact hP, by rw [hw]; exact hD⟩, by rw [ht]; exact hS.1, fun q h1 h2 => by rw [ht]; exact hS.2.1 q h1 h2⟩) hf hmc hms
end XT
theorem qa_78 : ∀ w ∈ vx_atS qR_H 78 (exN 1) ["java/lang/RuntimeException", "java/lang/Exception"], w ∈ gG ∨ (w ∈ thrW ∧ w.onTables = true) := by decide +kernel
theorem qa_89 : ∀ w ∈ vx_atS qR_H 89 (exN 2) ["java/lang/RuntimeException", "java/lang/Exception"], w ∈ gG ∨ (w ∈ thrW ∧ w.onTables = true) := by decide +kernel
theorem qa_101 : ∀ w ∈ vx_atS qR_H 101 (exN 3) ["java/lang/RuntimeException", "java/lang/Exception"], w ∈ gG ∨ (w ∈ thrW ∧ w.onTables = true) := by decide +kernel
theorem qa_154 : ∀ w ∈ vx_atS qR_H 154 (exN 4) ["java/lang/RuntimeException", "java/lang/Exception"], w ∈ gG ∨ (w ∈ thrW ∧ w.onTables = true) := by decide +kernel
