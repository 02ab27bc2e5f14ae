/-! a constructor's call: new cells come; the class of int arrays is one -/
theorem x_cls {D : va_G} {cl : List vw_C} {tys : List (ClassId × FieldType)} {s : State} {c1 c2 : ClassId} {ty : FieldType} {i j : Nat} (hK : va_K D cl tys s) (h1 : tys[i]? = some (c1, ty)) (h2 : tys[j]? = some (c2, ty)) (hty : ∀ C, ty ≠ .object C) : c1 = c2 := by
  have a1 := (hK.2 i _ h1).2
  have a2 := (hK.2 j _ h2).2
  cases ty <;> first | exact absurd rfl (hty _) | exact Option.some.inj (a1.symm.trans a2)
theorem x_fm {is : List Nat} {w w' : va_W} (h : is.map (fun i => w[i]?) = w'.map some) : is.filterMap (fun i => w[i]?) = w' := by
  have h1 : (is.map (fun i => w[i]?)).filterMap id = (w'.map some).filterMap id := by rw [h]
  simpa [List.filterMap_map] using h1
section XI
variable {p : Program} {l : Launch} {e : Env} {R : Room} {s : State} {m : MethodId} {args : Array Value} {below : List Frame} {meth : Method} {c : Code} {H H0 : Heap} {locs : List Loc} {cells slots mc ms : Nat} {Q : State → Prop}
variable {y : MethodName} {bytes cc : ByteArray} {maxL nL n index pc : Nat} {ret : Option FieldType} {wsc Ts : List Cond} {rm : Room} {own C host : String} {b : Addr} {As rest st0 : List Value} {ls : Array Slot} {D : va_G} {tys : List (ClassId × FieldType)} {ws wc : va_W} {A0 : Nat → Prop}
theorem xi_run {S0 : Type} {w1 w2 : S0 → va_W} (hN : nestN s) (hP : va_P D vwCl ws H) (hD : va_D A0 ws) (hS : va_S A0 H0 H locs) (hA : ∀ q, H0.size ≤ q → A0 q) (isC isR : List Nat) (hC : isC.map (fun i => ws[i]?) = wc.map some) (hR : isR.map (fun i => ws[i]?) = (isR.filterMap (fun i => ws[i]?)).map some) (hnC : va_nd isC = true) (hnR : va_nd isR = true) (hdis : ∀ i ∈ isR, i ∉ isC)
    (hw2 : ∀ u, isR.filterMap (fun i => ws[i]?) ++ w1 u = w2 u)
    (hr : va_Run p l e R s m args below meth c H locs cells slots mc ms (F0 m pc ls st0) rest (va_Qv (fun _ : S0 => True) (fun u t => xP D tys (w1 u) nestN t ∧ va_D (va_A wc H.size) (w1 u)) (va_A wc H.size) (Value.ref b :: As).toArray) (va_A wc H.size))
    (k : ∀ (u : S0) (H1 : Heap) (locs1 : List Loc), va_P D vwCl (w2 u) H1 → va_D A0 (w2 u) → va_S A0 H0 H1 locs1 → W p l e R s m args below meth c H1 locs1 (cells + mc) (slots + ms) Q (F0 m (pc + 3) ls rest)) : W p l e R s m args below meth c H locs cells slots Q (F0 m pc ls st0) := by
  have hFc := va_free (wc := wc) hD hS hA isC hC
  refine va_callv hr hS (fun q _ h => hFc q h) hFc (fun u t H1 locs1 ht hvm hw hB hz1 hk1 hS1 => ?_)
  obtain ⟨⟨hP1, -, -⟩, hD1⟩ := hB
  rw [ht] at hP1
  obtain ⟨hP2, hD2⟩ := va_join (wr := isR.filterMap (fun i => ws[i]?)) (w1 := w1 u) hP hD isC isR hC hR hnR hdis hk1 hFc hP1 hD1
  rw [hw2 u] at hP2 hD2
  exact k u H1 locs1 hP2 hD2 hS1
theorem xi_I {S0 : Type} {w1 w2 : S0 → va_W} (S : CallFix p m c cc nL s args Ts own)
    (hM : Met l y wsc rm (va_Pc (.ref b :: As) (fun U => U.heap.size = H.size ∧ xP D tys wc nestN U ∧ va_D (fun _ => True) wc)) (va_Qv (fun _ : S0 => True) (fun u t => xP D tys (w1 u) nestN t ∧ va_D (va_A wc H.size) (w1 u)) (va_A wc H.size)) mc ms (va_A wc H.size))
    (cw : CallB R s args own index y bytes maxL none wsc rm mc ms n ∧ y.name = "<init>" ∧ (Cond.instanceMethod y).before args s = true) (hN : nestN s) (hK : va_K D vwCl tys s) (hP : va_P D vwCl ws H) (hD : va_D A0 ws) (hS : va_S A0 H0 H locs) (hA : ∀ q, H0.size ≤ q → A0 q) (isC isR : List Nat) (hC : isC.map (fun i => ws[i]?) = wc.map some) (hR : isR.map (fun i => ws[i]?) = (isR.filterMap (fun i => ws[i]?)).map some) (hnC : va_nd isC = true) (hnR : va_nd isR = true) (hdis : ∀ i ∈ isR, i ∉ isC)
    (hw2 : ∀ u, isR.filterMap (fun i => ws[i]?) ++ w1 u = w2 u)
    (hn : As.length = n) (hsize : ls.size = nL) (hst : st0 = As.reverse ++ .ref b :: rest) (hW : (rest.map fun v => v.category).sum ≤ 8) (hdg : decode cc pc = .ok (.invokespecial index, 3)) (hf : cells + mc ≤ R.cells ∧ slots + ms ≤ R.slots)
    (k : ∀ (u : S0) (H1 : Heap) (locs1 : List Loc), va_P D vwCl (w2 u) H1 → va_D A0 (w2 u) → va_S A0 H0 H1 locs1 → W p l e R s m args below meth c H1 locs1 (cells + mc) (slots + ms) Q (F0 m (pc + 3) ls rest)) : W p l e R s m args below meth c H locs cells slots Q (F0 m pc ls st0) := by
  have hPc := hP.sub isC (x_fm hC)
  have hDc := hD.sub isC hnC hC
  exact xi_run hN hP hD hS hA isC isR hC hR hnC hnR hdis hw2 (va_runI (g := F0 m pc ls st0) S hM cw ⟨xM_blind, fun U hU hW => ⟨rfl, by rw [hU], xP_pre hU hW hPc hK hN, hDc.weaken (fun _ _ _ _ => trivial)⟩⟩ rfl hn hsize hst (lv_room hW) hdg hf) k
theorem xi_N {S0 : Type} {w1 w2 : S0 → va_W} (S : CallFix p m c cc nL s args Ts own)
    (hM : Met l y wsc rm (va_Pc (.ref b :: As) (fun U => U.heap.size = H.size ∧ xP D tys wc nestN U ∧ va_D (fun _ => True) wc)) (va_Qv (fun _ : S0 => True) (fun u t => xP D tys (w1 u) nestN t ∧ va_D (va_A wc H.size) (w1 u)) (va_A wc H.size)) mc ms (va_A wc H.size))
    (cw : va_CN R s args own index y host bytes maxL none wsc rm mc ms n ∧ y.name = "<init>" ∧ (Cond.instanceMethod y).before args s = true) (hN : nestN s) (hK : va_K D vwCl tys s) (hP : va_P D vwCl ws H) (hD : va_D A0 ws) (hS : va_S A0 H0 H locs) (hA : ∀ q, H0.size ≤ q → A0 q) (isC isR : List Nat) (hC : isC.map (fun i => ws[i]?) = wc.map some) (hR : isR.map (fun i => ws[i]?) = (isR.filterMap (fun i => ws[i]?)).map some) (hnC : va_nd isC = true) (hnR : va_nd isR = true) (hdis : ∀ i ∈ isR, i ∉ isC)
    (hw2 : ∀ u, isR.filterMap (fun i => ws[i]?) ++ w1 u = w2 u)
    (hn : As.length = n) (hsize : ls.size = nL) (hst : st0 = As.reverse ++ .ref b :: rest) (hW : (rest.map fun v => v.category).sum ≤ 8) (hdg : decode cc pc = .ok (.invokespecial index, 3)) (hf : cells + mc ≤ R.cells ∧ slots + ms ≤ R.slots)
    (k : ∀ (u : S0) (H1 : Heap) (locs1 : List Loc), va_P D vwCl (w2 u) H1 → va_D A0 (w2 u) → va_S A0 H0 H1 locs1 → W p l e R s m args below meth c H1 locs1 (cells + mc) (slots + ms) Q (F0 m (pc + 3) ls rest)) : W p l e R s m args below meth c H locs cells slots Q (F0 m pc ls st0) := by
  have hPc := hP.sub isC (x_fm hC)
  have hDc := hD.sub isC hnC hC
  exact xi_run hN hP hD hS hA isC isR hC hR hnC hnR hdis hw2 (va_runIN (g := F0 m pc ls st0) S hM cw ⟨xM_blind, fun U hU hW => ⟨rfl, by rw [hU], xP_pre hU hW hPc hK hN, hDc.weaken (fun _ _ _ _ => trivial)⟩⟩ rfl hn hsize hst (lv_room hW) hdg hf) k
end XI
theorem qd_G_init_0 : decode qc_G_init 0 = .ok (.aload_n 0, 1) := by decide +kernel
theorem qd_G_init_1 : decode qc_G_init 1 = .ok (.invokespecial 3, 3) := by decide +kernel
theorem qd_G_init_4 : decode qc_G_init 4 = .ok (.aload_n 0, 1) := by decide +kernel
theorem qd_G_init_5 : decode qc_G_init 5 = .ok (.bipush 24, 2) := by decide +kernel
theorem qd_G_init_7 : decode qc_G_init 7 = .ok (.newarray .int, 2) := by decide +kernel
theorem qd_G_init_9 : decode qc_G_init 9 = .ok (.putfield 9, 3) := by decide +kernel
theorem qd_G_init_12 : decode qc_G_init 12 = .ok (.aload_n 0, 1) := by decide +kernel
theorem qd_G_init_13 : decode qc_G_init 13 = .ok (.bipush 72, 2) := by decide +kernel
theorem qd_G_init_15 : decode qc_G_init 15 = .ok (.newarray .int, 2) := by decide +kernel
theorem qd_G_init_17 : decode qc_G_init 17 = .ok (.putfield 15, 3) := by decide +kernel
theorem qd_G_init_20 : decode qc_G_init 20 = .ok (.aload_n 0, 1) := by decide +kernel
theorem qd_G_init_21 : decode qc_G_init 21 = .ok (.bipush 24, 2) := by decide +kernel
theorem qd_G_init_23 : decode qc_G_init 23 = .ok (.newarray .int, 2) := by decide +kernel
theorem qd_G_init_25 : decode qc_G_init 25 = .ok (.putfield 18, 3) := by decide +kernel
theorem qd_G_init_28 : decode qc_G_init 28 = .ok (.aload_n 0, 1) := by decide +kernel
theorem qd_G_init_29 : decode qc_G_init 29 = .ok (.bipush 24, 2) := by decide +kernel
theorem qd_G_init_31 : decode qc_G_init 31 = .ok (.newarray .int, 2) := by decide +kernel
theorem qd_G_init_33 : decode qc_G_init 33 = .ok (.putfield 21, 3) := by decide +kernel
theorem qd_G_init_36 : decode qc_G_init 36 = .ok (.aload_n 0, 1) := by decide +kernel
theorem qd_G_init_37 : decode qc_G_init 37 = .ok (.bipush 10, 2) := by decide +kernel
theorem qd_G_init_39 : decode qc_G_init 39 = .ok (.newarray .int, 2) := by decide +kernel
theorem qd_G_init_41 : decode qc_G_init 41 = .ok (.putfield 24, 3) := by decide +kernel
theorem qd_G_init_44 : decode qc_G_init 44 = .ok (.aload_n 0, 1) := by decide +kernel
theorem qd_G_init_45 : decode qc_G_init 45 = .ok (.iconst 0, 1) := by decide +kernel
theorem qd_G_init_46 : decode qc_G_init 46 = .ok (.putfield 27, 3) := by decide +kernel
theorem qd_G_init_49 : decode qc_G_init 49 = .ok (.aload_n 0, 1) := by decide +kernel
theorem qd_G_init_50 : decode qc_G_init 50 = .ok (.iconst 0, 1) := by decide +kernel
theorem qd_G_init_51 : decode qc_G_init 51 = .ok (.putfield 31, 3) := by decide +kernel
theorem qd_G_init_54 : decode qc_G_init 54 = .ok (.return_, 1) := by decide +kernel
set_option maxHeartbeats 4000000 in
set_option maxRecDepth 100000 in
theorem c_G_init (l : Launch) (dC : Nat → ClassId) (dI : Nat → Nat → Nat) (cA : ClassId) (aG : Nat) (sz : Nat) : Met l qy_G_init qw_G_init ({ frames := 1, cells := 5, slots := 154, locals := 12 }) (va_Pc [.ref aG] (fun U => U.heap.size = sz ∧ xP (dC, dI) [(cA, .int)] [(aG, .inr (2, [.null, .null, .null, .null, .null, .int 0, .int 0]))] nestN U ∧ va_D (fun _ => True) [(aG, .inr (2, [.null, .null, .null, .null, .null, .int 0, .int 0]))])) (va_Qv (fun _ : Nat × Nat × Nat × Nat × Nat => True) (fun u t => xP (dC, dI) [(cA, .int)] [(aG, .inr (2, [.ref u.1, .ref u.2.1, .ref u.2.2.1, .ref u.2.2.2.1, .ref u.2.2.2.2, .int 0, .int 0])), (u.1, .inl (cA, 24, .inl (fun _ => 0))), (u.2.1, .inl (cA, 72, .inl (fun _ => 0))), (u.2.2.1, .inl (cA, 24, .inl (fun _ => 0))), (u.2.2.2.1, .inl (cA, 24, .inl (fun _ => 0))), (u.2.2.2.2, .inl (cA, 10, .inl (fun _ => 0)))] nestN t ∧ va_D (va_A [(aG, .inr (2, [.null, .null, .null, .null, .null, .int 0, .int 0]))] sz) [(aG, .inr (2, [.ref u.1, .ref u.2.1, .ref u.2.2.1, .ref u.2.2.2.1, .ref u.2.2.2.2, .int 0, .int 0])), (u.1, .inl (cA, 24, .inl (fun _ => 0))), (u.2.1, .inl (cA, 72, .inl (fun _ => 0))), (u.2.2.1, .inl (cA, 24, .inl (fun _ => 0))), (u.2.2.2.1, .inl (cA, 24, .inl (fun _ => 0))), (u.2.2.2.2, .inl (cA, 10, .inl (fun _ => 0)))]) (va_A [(aG, .inr (2, [.null, .null, .null, .null, .null, .int 0, .int 0]))] sz)) 5 154 (va_A [(aG, .inr (2, [.null, .null, .null, .null, .null, .int 0, .int 0]))] sz) := by
  refine Met.ofW (cc := qc_G_init) (maxL := 1) (ret := none) (by decide) rfl ?_
  intro p e s m args below meth c s₁ B hml hv
  obtain ⟨rfl, hsz, ⟨hP, hK, hN⟩, hD0⟩ := hv
  have hx := B.exec
  have hb := B.bytes
  have hr := B.returns
  have hts := atoms_spec (ws := qw_G_init) B.pre
  have hg : ∀ w ∈ gG, w.before _ s = true := fun w h => hts w (List.mem_cons_of_mem _ h)
  have hown : s.vm.findClass qR_G = some m.cls := findClass_of_methodNamed B.named
  have hlocks := B.notSynchronized
  have hin : meth.name = "<init>" := (name_of_methodNamed B.named B.method).1
  subst hsz
  have hD := hD0.self (sz := s.heap.size)
  generalize hAe : va_A [(aG, .inr (2, [.null, .null, .null, .null, .null, .int 0, .int 0]))] s.heap.size = A at hD ⊢
  have hA : ∀ q : Nat, s.heap.size ≤ q → A q := fun q h => by rw [← hAe]; exact Or.inr h
  have hS : va_S A s.heap s.heap [] := va_S.rf
  have hP : va_P (dC, dI) vwCl [(aG, .inr (2, [.null, .null, .null, .null, .null, .int 0, .int 0]))] s.heap := hP
  have hl := lv_entry ([.ref aG]) (n := 1) (Nat.le_of_ble_eq_true rfl)
  rw [lg_entry_eq]
  generalize (lg_sl ([.ref aG]) ++ List.replicate (1 - (lg_sl ([.ref aG])).length) Slot.unset).toArray = ls at hl ⊢
  have hl : lv_has ls 1 [(0, .ref aG)] := hl
  refine lv_aload_n hx hb qd_G_init_0 rfl (lv_at hl 0 rfl) ?_
  refine W.objInit hx hb hown (hg _ mw_31) (hg _ mw_25) (hg _ mw_26) rfl (by rw [hml]; exact hl.1) rfl qd_G_init_1 (Nat.le_of_ble_eq_true rfl) (Nat.le_of_ble_eq_true rfl) ?_
  refine W.eq (g2 := F0 m 4 ls []) rfl ?_
  refine lv_aload_n hx hb qd_G_init_4 rfl (lv_at hl 0 rfl) ?_
  refine lv_bipush (v := 24) hx hb qd_G_init_5 (by decide) ?_
  refine va_newa (atype := .int) (ty := .int) (a0 := (24, .inl (fun _ => 0))) (N' := 24) hx hb (hg _ mw_46) rfl hK hP hD hS hA (fun _ => rfl) (by decide) (by decide) (by decide) (Nat.le_of_ble_eq_true rfl) (Nat.le_of_ble_eq_true rfl) qd_G_init_7 (fun aGh c9 H hK hP hD hS => ?_)
  have e9 := x_cls (i := 0) (j := 1) hK rfl rfl (fun _ h => by cases h)
  subst e9
  have hK : va_K (dC, dI) vwCl [(cA, .int)] s := hK.sub [0] rfl
  have hP : va_P (dC, dI) vwCl [(aG, .inr (2, [.null, .null, .null, .null, .null, .int 0, .int 0])), (aGh, .inl (cA, 24, .inl (fun _ => 0)))] H := hP
  have hD : va_D A [(aG, .inr (2, [.null, .null, .null, .null, .null, .int 0, .int 0])), (aGh, .inl (cA, 24, .inl (fun _ => 0)))] := hD
  refine W.widen (k := 1) (n := 24) (by omega) (by omega) ?_
  refine va_putF (D := (dC, dI)) (ci := 2) (v := .ref aGh) (ty := .array .int) (C := qR_G) (T := qT_G) (N := 7) hx hb hg qi_G qt_G qk_G qn_G hown hK hP hD hS 0 rfl rfl 0 (by decide) (hg _ mw_32) (fun _ h9 => h9) rfl hin rfl (by decide +kernel) rfl rfl (Nat.le_of_ble_eq_true rfl) qd_G_init_9 (fun H locs hP hD hS => ?_)
  have hP : va_P (dC, dI) vwCl [(aG, .inr (2, [.ref aGh, .null, .null, .null, .null, .int 0, .int 0])), (aGh, .inl (cA, 24, .inl (fun _ => 0)))] H := hP
  have hD : va_D A [(aG, .inr (2, [.ref aGh, .null, .null, .null, .null, .int 0, .int 0])), (aGh, .inl (cA, 24, .inl (fun _ => 0)))] := hD
  refine lv_aload_n hx hb qd_G_init_12 rfl (lv_at hl 0 rfl) ?_
  refine lv_bipush (v := 72) hx hb qd_G_init_13 (by decide) ?_
  refine va_newa (atype := .int) (ty := .int) (a0 := (72, .inl (fun _ => 0))) (N' := 72) hx hb (hg _ mw_46) rfl hK hP hD hS hA (fun _ => rfl) (by decide) (by decide) (by decide) (Nat.le_of_ble_eq_true rfl) (Nat.le_of_ble_eq_true rfl) qd_G_init_15 (fun aGi c9 H hK hP hD hS => ?_)
  have e9 := x_cls (i := 0) (j := 1) hK rfl rfl (fun _ h => by cases h)
  subst e9
  have hK : va_K (dC, dI) vwCl [(cA, .int)] s := hK.sub [0] rfl
  have hP : va_P (dC, dI) vwCl [(aG, .inr (2, [.ref aGh, .null, .null, .null, .null, .int 0, .int 0])), (aGh, .inl (cA, 24, .inl (fun _ => 0))), (aGi, .inl (cA, 72, .inl (fun _ => 0)))] H := hP
  have hD : va_D A [(aG, .inr (2, [.ref aGh, .null, .null, .null, .null, .int 0, .int 0])), (aGh, .inl (cA, 24, .inl (fun _ => 0))), (aGi, .inl (cA, 72, .inl (fun _ => 0)))] := hD
  refine W.widen (k := 2) (n := 96) (by omega) (by omega) ?_
  refine va_putF (D := (dC, dI)) (ci := 2) (v := .ref aGi) (ty := .array .int) (C := qR_G) (T := qT_G) (N := 7) hx hb hg qi_G qt_G qk_G qn_G hown hK hP hD hS 0 rfl rfl 1 (by decide) (hg _ mw_33) (fun _ h9 => h9) rfl hin rfl (by decide +kernel) rfl rfl (Nat.le_of_ble_eq_true rfl) qd_G_init_17 (fun H locs hP hD hS => ?_)
  have hP : va_P (dC, dI) vwCl [(aG, .inr (2, [.ref aGh, .ref aGi, .null, .null, .null, .int 0, .int 0])), (aGh, .inl (cA, 24, .inl (fun _ => 0))), (aGi, .inl (cA, 72, .inl (fun _ => 0)))] H := hP
  have hD : va_D A [(aG, .inr (2, [.ref aGh, .ref aGi, .null, .null, .null, .int 0, .int 0])), (aGh, .inl (cA, 24, .inl (fun _ => 0))), (aGi, .inl (cA, 72, .inl (fun _ => 0)))] := hD
  refine lv_aload_n hx hb qd_G_init_20 rfl (lv_at hl 0 rfl) ?_
  refine lv_bipush (v := 24) hx hb qd_G_init_21 (by decide) ?_
  refine va_newa (atype := .int) (ty := .int) (a0 := (24, .inl (fun _ => 0))) (N' := 24) hx hb (hg _ mw_46) rfl hK hP hD hS hA (fun _ => rfl) (by decide) (by decide) (by decide) (Nat.le_of_ble_eq_true rfl) (Nat.le_of_ble_eq_true rfl) qd_G_init_23 (fun aGc c9 H hK hP hD hS => ?_)
  have e9 := x_cls (i := 0) (j := 1) hK rfl rfl (fun _ h => by cases h)
  subst e9
  have hK : va_K (dC, dI) vwCl [(cA, .int)] s := hK.sub [0] rfl
  have hP : va_P (dC, dI) vwCl [(aG, .inr (2, [.ref aGh, .ref aGi, .null, .null, .null, .int 0, .int 0])), (aGh, .inl (cA, 24, .inl (fun _ => 0))), (aGi, .inl (cA, 72, .inl (fun _ => 0))), (aGc, .inl (cA, 24, .inl (fun _ => 0)))] H := hP
  have hD : va_D A [(aG, .inr (2, [.ref aGh, .ref aGi, .null, .null, .null, .int 0, .int 0])), (aGh, .inl (cA, 24, .inl (fun _ => 0))), (aGi, .inl (cA, 72, .inl (fun _ => 0))), (aGc, .inl (cA, 24, .inl (fun _ => 0)))] := hD
  refine W.widen (k := 3) (n := 120) (by omega) (by omega) ?_
  refine va_putF (D := (dC, dI)) (ci := 2) (v := .ref aGc) (ty := .array .int) (C := qR_G) (T := qT_G) (N := 7) hx hb hg qi_G qt_G qk_G qn_G hown hK hP hD hS 0 rfl rfl 2 (by decide) (hg _ mw_34) (fun _ h9 => h9) rfl hin rfl (by decide +kernel) rfl rfl (Nat.le_of_ble_eq_true rfl) qd_G_init_25 (fun H locs hP hD hS => ?_)
  have hP : va_P (dC, dI) vwCl [(aG, .inr (2, [.ref aGh, .ref aGi, .ref aGc, .null, .null, .int 0, .int 0])), (aGh, .inl (cA, 24, .inl (fun _ => 0))), (aGi, .inl (cA, 72, .inl (fun _ => 0))), (aGc, .inl (cA, 24, .inl (fun _ => 0)))] H := hP
  have hD : va_D A [(aG, .inr (2, [.ref aGh, .ref aGi, .ref aGc, .null, .null, .int 0, .int 0])), (aGh, .inl (cA, 24, .inl (fun _ => 0))), (aGi, .inl (cA, 72, .inl (fun _ => 0))), (aGc, .inl (cA, 24, .inl (fun _ => 0)))] := hD
  refine lv_aload_n hx hb qd_G_init_28 rfl (lv_at hl 0 rfl) ?_
  refine lv_bipush (v := 24) hx hb qd_G_init_29 (by decide) ?_
  refine va_newa (atype := .int) (ty := .int) (a0 := (24, .inl (fun _ => 0))) (N' := 24) hx hb (hg _ mw_46) rfl hK hP hD hS hA (fun _ => rfl) (by decide) (by decide) (by decide) (Nat.le_of_ble_eq_true rfl) (Nat.le_of_ble_eq_true rfl) qd_G_init_31 (fun aGo c9 H hK hP hD hS => ?_)
  have e9 := x_cls (i := 0) (j := 1) hK rfl rfl (fun _ h => by cases h)
  subst e9
  have hK : va_K (dC, dI) vwCl [(cA, .int)] s := hK.sub [0] rfl
  have hP : va_P (dC, dI) vwCl [(aG, .inr (2, [.ref aGh, .ref aGi, .ref aGc, .null, .null, .int 0, .int 0])), (aGh, .inl (cA, 24, .inl (fun _ => 0))), (aGi, .inl (cA, 72, .inl (fun _ => 0))), (aGc, .inl (cA, 24, .inl (fun _ => 0))), (aGo, .inl (cA, 24, .inl (fun _ => 0)))] H := hP
  have hD : va_D A [(aG, .inr (2, [.ref aGh, .ref aGi, .ref aGc, .null, .null, .int 0, .int 0])), (aGh, .inl (cA, 24, .inl (fun _ => 0))), (aGi, .inl (cA, 72, .inl (fun _ => 0))), (aGc, .inl (cA, 24, .inl (fun _ => 0))), (aGo, .inl (cA, 24, .inl (fun _ => 0)))] := hD
  refine W.widen (k := 4) (n := 144) (by omega) (by omega) ?_
  refine va_putF (D := (dC, dI)) (ci := 2) (v := .ref aGo) (ty := .array .int) (C := qR_G) (T := qT_G) (N := 7) hx hb hg qi_G qt_G qk_G qn_G hown hK hP hD hS 0 rfl rfl 3 (by decide) (hg _ mw_35) (fun _ h9 => h9) rfl hin rfl (by decide +kernel) rfl rfl (Nat.le_of_ble_eq_true rfl) qd_G_init_33 (fun H locs hP hD hS => ?_)
  have hP : va_P (dC, dI) vwCl [(aG, .inr (2, [.ref aGh, .ref aGi, .ref aGc, .ref aGo, .null, .int 0, .int 0])), (aGh, .inl (cA, 24, .inl (fun _ => 0))), (aGi, .inl (cA, 72, .inl (fun _ => 0))), (aGc, .inl (cA, 24, .inl (fun _ => 0))), (aGo, .inl (cA, 24, .inl (fun _ => 0)))] H := hP
  have hD : va_D A [(aG, .inr (2, [.ref aGh, .ref aGi, .ref aGc, .ref aGo, .null, .int 0, .int 0])), (aGh, .inl (cA, 24, .inl (fun _ => 0))), (aGi, .inl (cA, 72, .inl (fun _ => 0))), (aGc, .inl (cA, 24, .inl (fun _ => 0))), (aGo, .inl (cA, 24, .inl (fun _ => 0)))] := hD
  refine lv_aload_n hx hb qd_G_init_36 rfl (lv_at hl 0 rfl) ?_
  refine lv_bipush (v := 10) hx hb qd_G_init_37 (by decide) ?_
  refine va_newa (atype := .int) (ty := .int) (a0 := (10, .inl (fun _ => 0))) (N' := 10) hx hb (hg _ mw_46) rfl hK hP hD hS hA (fun _ => rfl) (by decide) (by decide) (by decide) (Nat.le_of_ble_eq_true rfl) (Nat.le_of_ble_eq_true rfl) qd_G_init_39 (fun aGr c9 H hK hP hD hS => ?_)
  have e9 := x_cls (i := 0) (j := 1) hK rfl rfl (fun _ h => by cases h)
  subst e9
  have hK : va_K (dC, dI) vwCl [(cA, .int)] s := hK.sub [0] rfl
  have hP : va_P (dC, dI) vwCl [(aG, .inr (2, [.ref aGh, .ref aGi, .ref aGc, .ref aGo, .null, .int 0, .int 0])), (aGh, .inl (cA, 24, .inl (fun _ => 0))), (aGi, .inl (cA, 72, .inl (fun _ => 0))), (aGc, .inl (cA, 24, .inl (fun _ => 0))), (aGo, .inl (cA, 24, .inl (fun _ => 0))), (aGr, .inl (cA, 10, .inl (fun _ => 0)))] H := hP
  have hD : va_D A [(aG, .inr (2, [.ref aGh, .ref aGi, .ref aGc, .ref aGo, .null, .int 0, .int 0])), (aGh, .inl (cA, 24, .inl (fun _ => 0))), (aGi, .inl (cA, 72, .inl (fun _ => 0))), (aGc, .inl (cA, 24, .inl (fun _ => 0))), (aGo, .inl (cA, 24, .inl (fun _ => 0))), (aGr, .inl (cA, 10, .inl (fun _ => 0)))] := hD
  refine W.widen (k := 5) (n := 154) (by omega) (by omega) ?_
  refine va_putF (D := (dC, dI)) (ci := 2) (v := .ref aGr) (ty := .array .int) (C := qR_G) (T := qT_G) (N := 7) hx hb hg qi_G qt_G qk_G qn_G hown hK hP hD hS 0 rfl rfl 4 (by decide) (hg _ mw_36) (fun _ h9 => h9) rfl hin rfl (by decide +kernel) rfl rfl (Nat.le_of_ble_eq_true rfl) qd_G_init_41 (fun H locs hP hD hS => ?_)
  have hP : va_P (dC, dI) vwCl [(aG, .inr (2, [.ref aGh, .ref aGi, .ref aGc, .ref aGo, .ref aGr, .int 0, .int 0])), (aGh, .inl (cA, 24, .inl (fun _ => 0))), (aGi, .inl (cA, 72, .inl (fun _ => 0))), (aGc, .inl (cA, 24, .inl (fun _ => 0))), (aGo, .inl (cA, 24, .inl (fun _ => 0))), (aGr, .inl (cA, 10, .inl (fun _ => 0)))] H := hP
  have hD : va_D A [(aG, .inr (2, [.ref aGh, .ref aGi, .ref aGc, .ref aGo, .ref aGr, .int 0, .int 0])), (aGh, .inl (cA, 24, .inl (fun _ => 0))), (aGi, .inl (cA, 72, .inl (fun _ => 0))), (aGc, .inl (cA, 24, .inl (fun _ => 0))), (aGo, .inl (cA, 24, .inl (fun _ => 0))), (aGr, .inl (cA, 10, .inl (fun _ => 0)))] := hD
  refine lv_aload_n hx hb qd_G_init_44 rfl (lv_at hl 0 rfl) ?_
  refine lv_iconst (v := 0) hx hb qd_G_init_45 (by decide) ?_
  refine va_put (D := (dC, dI)) (ci := 2) (v := .int 0) (ty := .int) (C := qR_G) (T := qT_G) (N := 7) hx hb hg qi_G qt_G qk_G qn_G hown hK hP hD hS 0 rfl rfl 5 (by decide) (hg _ mw_37) (fun _ h9 => h9) rfl (by decide +kernel) rfl rfl (Nat.le_of_ble_eq_true rfl) qd_G_init_46 (fun H locs hP hD hS => ?_)
  have hP : va_P (dC, dI) vwCl [(aG, .inr (2, [.ref aGh, .ref aGi, .ref aGc, .ref aGo, .ref aGr, .int 0, .int 0])), (aGh, .inl (cA, 24, .inl (fun _ => 0))), (aGi, .inl (cA, 72, .inl (fun _ => 0))), (aGc, .inl (cA, 24, .inl (fun _ => 0))), (aGo, .inl (cA, 24, .inl (fun _ => 0))), (aGr, .inl (cA, 10, .inl (fun _ => 0)))] H := hP
  have hD : va_D A [(aG, .inr (2, [.ref aGh, .ref aGi, .ref aGc, .ref aGo, .ref aGr, .int 0, .int 0])), (aGh, .inl (cA, 24, .inl (fun _ => 0))), (aGi, .inl (cA, 72, .inl (fun _ => 0))), (aGc, .inl (cA, 24, .inl (fun _ => 0))), (aGo, .inl (cA, 24, .inl (fun _ => 0))), (aGr, .inl (cA, 10, .inl (fun _ => 0)))] := hD
  refine lv_aload_n hx hb qd_G_init_49 rfl (lv_at hl 0 rfl) ?_
  refine lv_iconst (v := 0) hx hb qd_G_init_50 (by decide) ?_
  refine va_put (D := (dC, dI)) (ci := 2) (v := .int 0) (ty := .int) (C := qR_G) (T := qT_G) (N := 7) hx hb hg qi_G qt_G qk_G qn_G hown hK hP hD hS 0 rfl rfl 6 (by decide) (hg _ mw_38) (fun _ h9 => h9) rfl (by decide +kernel) rfl rfl (Nat.le_of_ble_eq_true rfl) qd_G_init_51 (fun H locs hP hD hS => ?_)
  have hP : va_P (dC, dI) vwCl [(aG, .inr (2, [.ref aGh, .ref aGi, .ref aGc, .ref aGo, .ref aGr, .int 0, .int 0])), (aGh, .inl (cA, 24, .inl (fun _ => 0))), (aGi, .inl (cA, 72, .inl (fun _ => 0))), (aGc, .inl (cA, 24, .inl (fun _ => 0))), (aGo, .inl (cA, 24, .inl (fun _ => 0))), (aGr, .inl (cA, 10, .inl (fun _ => 0)))] H := hP
  have hD : va_D A [(aG, .inr (2, [.ref aGh, .ref aGi, .ref aGc, .ref aGo, .ref aGr, .int 0, .int 0])), (aGh, .inl (cA, 24, .inl (fun _ => 0))), (aGi, .inl (cA, 72, .inl (fun _ => 0))), (aGc, .inl (cA, 24, .inl (fun _ => 0))), (aGo, .inl (cA, 24, .inl (fun _ => 0))), (aGr, .inl (cA, 10, .inl (fun _ => 0)))] := hD
  have hP := hP.sub (ws' := [(aG, .inr (2, [.ref aGh, .ref aGi, .ref aGc, .ref aGo, .ref aGr, .int 0, .int 0])), (aGh, .inl (cA, 24, .inl (fun _ => 0))), (aGi, .inl (cA, 72, .inl (fun _ => 0))), (aGc, .inl (cA, 24, .inl (fun _ => 0))), (aGo, .inl (cA, 24, .inl (fun _ => 0))), (aGr, .inl (cA, 10, .inl (fun _ => 0)))]) [0, 1, 2, 3, 4, 5] rfl
  have hD := hD.sub (ws' := [(aG, .inr (2, [.ref aGh, .ref aGi, .ref aGc, .ref aGo, .ref aGr, .int 0, .int 0])), (aGh, .inl (cA, 24, .inl (fun _ => 0))), (aGi, .inl (cA, 72, .inl (fun _ => 0))), (aGc, .inl (cA, 24, .inl (fun _ => 0))), (aGo, .inl (cA, 24, .inl (fun _ => 0))), (aGr, .inl (cA, 10, .inl (fun _ => 0)))]) [0, 1, 2, 3, 4, 5] (by decide) rfl
  exact W.vret hx hb hr (fun t ht hW => ⟨⟨(aGh, aGi, aGc, aGo, aGr), rfl, trivial, ⟨by rw [ht]; exact hP, va_K.moved hW.alike hK, x_N hN hW⟩, hD⟩, hS.F ht⟩) hS.2.2 qd_G_init_54
theorem qd_R_init_0 : decode qc_R_init 0 = .ok (.aload_n 0, 1) := by decide +kernel
theorem qd_R_init_1 : decode qc_R_init 1 = .ok (.invokespecial 3, 3) := by decide +kernel
theorem qd_R_init_4 : decode qc_R_init 4 = .ok (.aload_n 0, 1) := by decide +kernel
theorem qd_R_init_5 : decode qc_R_init 5 = .ok (.bipush 24, 2) := by decide +kernel
theorem qd_R_init_7 : decode qc_R_init 7 = .ok (.newarray .int, 2) := by decide +kernel
theorem qd_R_init_9 : decode qc_R_init 9 = .ok (.putfield 9, 3) := by decide +kernel
theorem qd_R_init_12 : decode qc_R_init 12 = .ok (.aload_n 0, 1) := by decide +kernel
theorem qd_R_init_13 : decode qc_R_init 13 = .ok (.iconst 0, 1) := by decide +kernel
theorem qd_R_init_14 : decode qc_R_init 14 = .ok (.putfield 15, 3) := by decide +kernel
theorem qd_R_init_17 : decode qc_R_init 17 = .ok (.return_, 1) := by decide +kernel
set_option maxHeartbeats 4000000 in
set_option maxRecDepth 100000 in
theorem c_R_init (l : Launch) (dC : Nat → ClassId) (dI : Nat → Nat → Nat) (cA : ClassId) (aR : Nat) (sz : Nat) : Met l qy_R_init qw_R_init ({ frames := 1, cells := 1, slots := 24, locals := 12 }) (va_Pc [.ref aR] (fun U => U.heap.size = sz ∧ xP (dC, dI) [(cA, .int)] [(aR, .inr (4, [.null, .int 0]))] nestN U ∧ va_D (fun _ => True) [(aR, .inr (4, [.null, .int 0]))])) (va_Qv (fun _ : Nat => True) (fun u t => xP (dC, dI) [(cA, .int)] [(aR, .inr (4, [.ref u, .int 0])), (u, .inl (cA, 24, .inl (fun _ => 0)))] nestN t ∧ va_D (va_A [(aR, .inr (4, [.null, .int 0]))] sz) [(aR, .inr (4, [.ref u, .int 0])), (u, .inl (cA, 24, .inl (fun _ => 0)))]) (va_A [(aR, .inr (4, [.null, .int 0]))] sz)) 1 24 (va_A [(aR, .inr (4, [.null, .int 0]))] sz) := by
  refine Met.ofW (cc := qc_R_init) (maxL := 1) (ret := none) (by decide) rfl ?_
  intro p e s m args below meth c s₁ B hml hv
  obtain ⟨rfl, hsz, ⟨hP, hK, hN⟩, hD0⟩ := hv
  have hx := B.exec
  have hb := B.bytes
  have hr := B.returns
  have hts := atoms_spec (ws := qw_R_init) B.pre
  have hg : ∀ w ∈ gG, w.before _ s = true := fun w h => hts w (List.mem_cons_of_mem _ h)
  have hown : s.vm.findClass qR_R = some m.cls := findClass_of_methodNamed B.named
  have hlocks := B.notSynchronized
  have hin : meth.name = "<init>" := (name_of_methodNamed B.named B.method).1
  subst hsz
  have hD := hD0.self (sz := s.heap.size)
  generalize hAe : va_A [(aR, .inr (4, [.null, .int 0]))] s.heap.size = A at hD ⊢
  have hA : ∀ q : Nat, s.heap.size ≤ q → A q := fun q h => by rw [← hAe]; exact Or.inr h
  have hS : va_S A s.heap s.heap [] := va_S.rf
  have hP : va_P (dC, dI) vwCl [(aR, .inr (4, [.null, .int 0]))] s.heap := hP
  have hl := lv_entry ([.ref aR]) (n := 1) (Nat.le_of_ble_eq_true rfl)
  rw [lg_entry_eq]
  generalize (lg_sl ([.ref aR]) ++ List.replicate (1 - (lg_sl ([.ref aR])).length) Slot.unset).toArray = ls at hl ⊢
  have hl : lv_has ls 1 [(0, .ref aR)] := hl
  refine lv_aload_n hx hb qd_R_init_0 rfl (lv_at hl 0 rfl) ?_
  refine W.objInit hx hb hown (hg _ mw_51) (hg _ mw_25) (hg _ mw_26) rfl (by rw [hml]; exact hl.1) rfl qd_R_init_1 (Nat.le_of_ble_eq_true rfl) (Nat.le_of_ble_eq_true rfl) ?_
  refine W.eq (g2 := F0 m 4 ls []) rfl ?_
  refine lv_aload_n hx hb qd_R_init_4 rfl (lv_at hl 0 rfl) ?_
  refine lv_bipush (v := 24) hx hb qd_R_init_5 (by decide) ?_
  refine va_newa (atype := .int) (ty := .int) (a0 := (24, .inl (fun _ => 0))) (N' := 24) hx hb (hg _ mw_46) rfl hK hP hD hS hA (fun _ => rfl) (by decide) (by decide) (by decide) (Nat.le_of_ble_eq_true rfl) (Nat.le_of_ble_eq_true rfl) qd_R_init_7 (fun aRt c9 H hK hP hD hS => ?_)
  have e9 := x_cls (i := 0) (j := 1) hK rfl rfl (fun _ h => by cases h)
  subst e9
  have hK : va_K (dC, dI) vwCl [(cA, .int)] s := hK.sub [0] rfl
  have hP : va_P (dC, dI) vwCl [(aR, .inr (4, [.null, .int 0])), (aRt, .inl (cA, 24, .inl (fun _ => 0)))] H := hP
  have hD : va_D A [(aR, .inr (4, [.null, .int 0])), (aRt, .inl (cA, 24, .inl (fun _ => 0)))] := hD
  refine W.widen (k := 1) (n := 24) (by omega) (by omega) ?_
  refine va_putF (D := (dC, dI)) (ci := 4) (v := .ref aRt) (ty := .array .int) (C := qR_R) (T := qT_R) (N := 2) hx hb hg qi_R qt_R qk_R qn_R hown hK hP hD hS 0 rfl rfl 0 (by decide) (hg _ mw_52) (fun _ h9 => h9) rfl hin rfl (by decide +kernel) rfl rfl (Nat.le_of_ble_eq_true rfl) qd_R_init_9 (fun H locs hP hD hS => ?_)
  have hP : va_P (dC, dI) vwCl [(aR, .inr (4, [.ref aRt, .int 0])), (aRt, .inl (cA, 24, .inl (fun _ => 0)))] H := hP
  have hD : va_D A [(aR, .inr (4, [.ref aRt, .int 0])), (aRt, .inl (cA, 24, .inl (fun _ => 0)))] := hD
  refine lv_aload_n hx hb qd_R_init_12 rfl (lv_at hl 0 rfl) ?_
  refine lv_iconst (v := 0) hx hb qd_R_init_13 (by decide) ?_
  refine va_put (D := (dC, dI)) (ci := 4) (v := .int 0) (ty := .int) (C := qR_R) (T := qT_R) (N := 2) hx hb hg qi_R qt_R qk_R qn_R hown hK hP hD hS 0 rfl rfl 1 (by decide) (hg _ mw_53) (fun _ h9 => h9) rfl (by decide +kernel) rfl rfl (Nat.le_of_ble_eq_true rfl) qd_R_init_14 (fun H locs hP hD hS => ?_)
  have hP : va_P (dC, dI) vwCl [(aR, .inr (4, [.ref aRt, .int 0])), (aRt, .inl (cA, 24, .inl (fun _ => 0)))] H := hP
  have hD : va_D A [(aR, .inr (4, [.ref aRt, .int 0])), (aRt, .inl (cA, 24, .inl (fun _ => 0)))] := hD
  have hP := hP.sub (ws' := [(aR, .inr (4, [.ref aRt, .int 0])), (aRt, .inl (cA, 24, .inl (fun _ => 0)))]) [0, 1] rfl
  have hD := hD.sub (ws' := [(aR, .inr (4, [.ref aRt, .int 0])), (aRt, .inl (cA, 24, .inl (fun _ => 0)))]) [0, 1] (by decide) rfl
  exact W.vret hx hb hr (fun t ht hW => ⟨⟨(aRt), rfl, trivial, ⟨by rw [ht]; exact hP, va_K.moved hW.alike hK, x_N hN hW⟩, hD⟩, hS.F ht⟩) hS.2.2 qd_R_init_17
theorem qd_C_init_0 : decode qc_C_init 0 = .ok (.aload_n 0, 1) := by decide +kernel
theorem qd_C_init_1 : decode qc_C_init 1 = .ok (.invokespecial 3, 3) := by decide +kernel
theorem qd_C_init_4 : decode qc_C_init 4 = .ok (.aload_n 0, 1) := by decide +kernel
theorem qd_C_init_5 : decode qc_C_init 5 = .ok (.sipush 5760, 3) := by decide +kernel
theorem qd_C_init_8 : decode qc_C_init 8 = .ok (.newarray .int, 2) := by decide +kernel
theorem qd_C_init_10 : decode qc_C_init 10 = .ok (.putfield 9, 3) := by decide +kernel
theorem qd_C_init_13 : decode qc_C_init 13 = .ok (.aload_n 0, 1) := by decide +kernel
theorem qd_C_init_14 : decode qc_C_init 14 = .ok (.sipush 5760, 3) := by decide +kernel
theorem qd_C_init_17 : decode qc_C_init 17 = .ok (.newarray .int, 2) := by decide +kernel
theorem qd_C_init_19 : decode qc_C_init 19 = .ok (.putfield 15, 3) := by decide +kernel
theorem qd_C_init_22 : decode qc_C_init 22 = .ok (.aload_n 0, 1) := by decide +kernel
theorem qd_C_init_23 : decode qc_C_init 23 = .ok (.sipush 600, 3) := by decide +kernel
theorem qd_C_init_26 : decode qc_C_init 26 = .ok (.newarray .int, 2) := by decide +kernel
theorem qd_C_init_28 : decode qc_C_init 28 = .ok (.putfield 18, 3) := by decide +kernel
theorem qd_C_init_31 : decode qc_C_init 31 = .ok (.aload_n 0, 1) := by decide +kernel
theorem qd_C_init_32 : decode qc_C_init 32 = .ok (.sipush 600, 3) := by decide +kernel
theorem qd_C_init_35 : decode qc_C_init 35 = .ok (.newarray .int, 2) := by decide +kernel
theorem qd_C_init_37 : decode qc_C_init 37 = .ok (.putfield 21, 3) := by decide +kernel
theorem qd_C_init_40 : decode qc_C_init 40 = .ok (.aload_n 0, 1) := by decide +kernel
theorem qd_C_init_41 : decode qc_C_init 41 = .ok (.iconst 0, 1) := by decide +kernel
theorem qd_C_init_42 : decode qc_C_init 42 = .ok (.putfield 24, 3) := by decide +kernel
theorem qd_C_init_45 : decode qc_C_init 45 = .ok (.aload_n 0, 1) := by decide +kernel
theorem qd_C_init_46 : decode qc_C_init 46 = .ok (.aload_n 1, 1) := by decide +kernel
theorem qd_C_init_47 : decode qc_C_init 47 = .ok (.putfield 28, 3) := by decide +kernel
theorem qd_C_init_50 : decode qc_C_init 50 = .ok (.aload_n 0, 1) := by decide +kernel
theorem qd_C_init_51 : decode qc_C_init 51 = .ok (.aload_n 2, 1) := by decide +kernel
theorem qd_C_init_52 : decode qc_C_init 52 = .ok (.putfield 32, 3) := by decide +kernel
theorem qd_C_init_55 : decode qc_C_init 55 = .ok (.return_, 1) := by decide +kernel
set_option maxHeartbeats 4000000 in
set_option maxRecDepth 100000 in
theorem c_C_init (l : Launch) (dC : Nat → ClassId) (dI : Nat → Nat → Nat) (cA : ClassId) (aC aG aR : Nat) (sz : Nat) : Met l qy_C_init qw_C_init ({ frames := 1, cells := 4, slots := 12720, locals := 12 }) (va_Pc [.ref aC, .ref aG, .ref aR] (fun U => U.heap.size = sz ∧ xP (dC, dI) [(cA, .int)] [(aC, .inr (0, [.null, .null, .null, .null, .null, .null, .int 0]))] nestN U ∧ va_D (fun _ => True) [(aC, .inr (0, [.null, .null, .null, .null, .null, .null, .int 0]))])) (va_Qv (fun _ : Nat × Nat × Nat × Nat => True) (fun u t => xP (dC, dI) [(cA, .int)] [(aC, .inr (0, [.ref aG, .ref aR, .ref u.1, .ref u.2.1, .ref u.2.2.1, .ref u.2.2.2, .int 0])), (u.1, .inl (cA, 5760, .inl (fun _ => 0))), (u.2.1, .inl (cA, 5760, .inl (fun _ => 0))), (u.2.2.1, .inl (cA, 600, .inl (fun _ => 0))), (u.2.2.2, .inl (cA, 600, .inl (fun _ => 0)))] nestN t ∧ va_D (va_A [(aC, .inr (0, [.null, .null, .null, .null, .null, .null, .int 0]))] sz) [(aC, .inr (0, [.ref aG, .ref aR, .ref u.1, .ref u.2.1, .ref u.2.2.1, .ref u.2.2.2, .int 0])), (u.1, .inl (cA, 5760, .inl (fun _ => 0))), (u.2.1, .inl (cA, 5760, .inl (fun _ => 0))), (u.2.2.1, .inl (cA, 600, .inl (fun _ => 0))), (u.2.2.2, .inl (cA, 600, .inl (fun _ => 0)))]) (va_A [(aC, .inr (0, [.null, .null, .null, .null, .null, .null, .int 0]))] sz)) 4 12720 (va_A [(aC, .inr (0, [.null, .null, .null, .null, .null, .null, .int 0]))] sz) := by
  refine Met.ofW (cc := qc_C_init) (maxL := 3) (ret := none) (by decide) rfl ?_
  intro p e s m args below meth c s₁ B hml hv
  obtain ⟨rfl, hsz, ⟨hP, hK, hN⟩, hD0⟩ := hv
  have hx := B.exec
  have hb := B.bytes
  have hr := B.returns
  have hts := atoms_spec (ws := qw_C_init) B.pre
  have hg : ∀ w ∈ gG, w.before _ s = true := fun w h => hts w (List.mem_cons_of_mem _ h)
  have hown : s.vm.findClass qR_C = some m.cls := findClass_of_methodNamed B.named
  have hlocks := B.notSynchronized
  have hin : meth.name = "<init>" := (name_of_methodNamed B.named B.method).1
  subst hsz
  have hD := hD0.self (sz := s.heap.size)
  generalize hAe : va_A [(aC, .inr (0, [.null, .null, .null, .null, .null, .null, .int 0]))] s.heap.size = A at hD ⊢
  have hA : ∀ q : Nat, s.heap.size ≤ q → A q := fun q h => by rw [← hAe]; exact Or.inr h
  have hS : va_S A s.heap s.heap [] := va_S.rf
  have hP : va_P (dC, dI) vwCl [(aC, .inr (0, [.null, .null, .null, .null, .null, .null, .int 0]))] s.heap := hP
  have hl := lv_entry ([.ref aC, .ref aG, .ref aR]) (n := 3) (Nat.le_of_ble_eq_true rfl)
  rw [lg_entry_eq]
  generalize (lg_sl ([.ref aC, .ref aG, .ref aR]) ++ List.replicate (3 - (lg_sl ([.ref aC, .ref aG, .ref aR])).length) Slot.unset).toArray = ls at hl ⊢
  have hl : lv_has ls 3 [(0, .ref aC), (1, .ref aG), (2, .ref aR)] := hl
  refine lv_aload_n hx hb qd_C_init_0 rfl (lv_at hl 0 rfl) ?_
  refine W.objInit hx hb hown (hg _ mw_61) (hg _ mw_25) (hg _ mw_26) rfl (by rw [hml]; exact hl.1) rfl qd_C_init_1 (Nat.le_of_ble_eq_true rfl) (Nat.le_of_ble_eq_true rfl) ?_
  refine W.eq (g2 := F0 m 4 ls []) rfl ?_
  refine lv_aload_n hx hb qd_C_init_4 rfl (lv_at hl 0 rfl) ?_
  refine lv_sipush (v := 5760) hx hb qd_C_init_5 (by decide) ?_
  refine va_newa (atype := .int) (ty := .int) (a0 := (5760, .inl (fun _ => 0))) (N' := 5760) hx hb (hg _ mw_46) rfl hK hP hD hS hA (fun _ => rfl) (by decide) (by decide) (by decide) (Nat.le_of_ble_eq_true rfl) (Nat.le_of_ble_eq_true rfl) qd_C_init_8 (fun aCn c9 H hK hP hD hS => ?_)
  have e9 := x_cls (i := 0) (j := 1) hK rfl rfl (fun _ h => by cases h)
  subst e9
  have hK : va_K (dC, dI) vwCl [(cA, .int)] s := hK.sub [0] rfl
  have hP : va_P (dC, dI) vwCl [(aC, .inr (0, [.null, .null, .null, .null, .null, .null, .int 0])), (aCn, .inl (cA, 5760, .inl (fun _ => 0)))] H := hP
  have hD : va_D A [(aC, .inr (0, [.null, .null, .null, .null, .null, .null, .int 0])), (aCn, .inl (cA, 5760, .inl (fun _ => 0)))] := hD
  refine W.widen (k := 1) (n := 5760) (by omega) (by omega) ?_
  refine va_putF (D := (dC, dI)) (ci := 0) (v := .ref aCn) (ty := .array .int) (C := qR_C) (T := qT_C) (N := 7) hx hb hg qi_C qt_C qk_C qn_C hown hK hP hD hS 0 rfl rfl 2 (by decide) (hg _ mw_64) (fun _ h9 => h9) rfl hin rfl (by decide +kernel) rfl rfl (Nat.le_of_ble_eq_true rfl) qd_C_init_10 (fun H locs hP hD hS => ?_)
  have hP : va_P (dC, dI) vwCl [(aC, .inr (0, [.null, .null, .ref aCn, .null, .null, .null, .int 0])), (aCn, .inl (cA, 5760, .inl (fun _ => 0)))] H := hP
  have hD : va_D A [(aC, .inr (0, [.null, .null, .ref aCn, .null, .null, .null, .int 0])), (aCn, .inl (cA, 5760, .inl (fun _ => 0)))] := hD
  refine lv_aload_n hx hb qd_C_init_13 rfl (lv_at hl 0 rfl) ?_
  refine lv_sipush (v := 5760) hx hb qd_C_init_14 (by decide) ?_
  refine va_newa (atype := .int) (ty := .int) (a0 := (5760, .inl (fun _ => 0))) (N' := 5760) hx hb (hg _ mw_46) rfl hK hP hD hS hA (fun _ => rfl) (by decide) (by decide) (by decide) (Nat.le_of_ble_eq_true rfl) (Nat.le_of_ble_eq_true rfl) qd_C_init_17 (fun aCc c9 H hK hP hD hS => ?_)
  have e9 := x_cls (i := 0) (j := 1) hK rfl rfl (fun _ h => by cases h)
  subst e9
  have hK : va_K (dC, dI) vwCl [(cA, .int)] s := hK.sub [0] rfl
  have hP : va_P (dC, dI) vwCl [(aC, .inr (0, [.null, .null, .ref aCn, .null, .null, .null, .int 0])), (aCn, .inl (cA, 5760, .inl (fun _ => 0))), (aCc, .inl (cA, 5760, .inl (fun _ => 0)))] H := hP
  have hD : va_D A [(aC, .inr (0, [.null, .null, .ref aCn, .null, .null, .null, .int 0])), (aCn, .inl (cA, 5760, .inl (fun _ => 0))), (aCc, .inl (cA, 5760, .inl (fun _ => 0)))] := hD
  refine W.widen (k := 2) (n := 11520) (by omega) (by omega) ?_
  refine va_putF (D := (dC, dI)) (ci := 0) (v := .ref aCc) (ty := .array .int) (C := qR_C) (T := qT_C) (N := 7) hx hb hg qi_C qt_C qk_C qn_C hown hK hP hD hS 0 rfl rfl 3 (by decide) (hg _ mw_65) (fun _ h9 => h9) rfl hin rfl (by decide +kernel) rfl rfl (Nat.le_of_ble_eq_true rfl) qd_C_init_19 (fun H locs hP hD hS => ?_)
  have hP : va_P (dC, dI) vwCl [(aC, .inr (0, [.null, .null, .ref aCn, .ref aCc, .null, .null, .int 0])), (aCn, .inl (cA, 5760, .inl (fun _ => 0))), (aCc, .inl (cA, 5760, .inl (fun _ => 0)))] H := hP
  have hD : va_D A [(aC, .inr (0, [.null, .null, .ref aCn, .ref aCc, .null, .null, .int 0])), (aCn, .inl (cA, 5760, .inl (fun _ => 0))), (aCc, .inl (cA, 5760, .inl (fun _ => 0)))] := hD
  refine lv_aload_n hx hb qd_C_init_22 rfl (lv_at hl 0 rfl) ?_
  refine lv_sipush (v := 600) hx hb qd_C_init_23 (by decide) ?_
  refine va_newa (atype := .int) (ty := .int) (a0 := (600, .inl (fun _ => 0))) (N' := 600) hx hb (hg _ mw_46) rfl hK hP hD hS hA (fun _ => rfl) (by decide) (by decide) (by decide) (Nat.le_of_ble_eq_true rfl) (Nat.le_of_ble_eq_true rfl) qd_C_init_26 (fun aCr c9 H hK hP hD hS => ?_)
  have e9 := x_cls (i := 0) (j := 1) hK rfl rfl (fun _ h => by cases h)
  subst e9
  have hK : va_K (dC, dI) vwCl [(cA, .int)] s := hK.sub [0] rfl
  have hP : va_P (dC, dI) vwCl [(aC, .inr (0, [.null, .null, .ref aCn, .ref aCc, .null, .null, .int 0])), (aCn, .inl (cA, 5760, .inl (fun _ => 0))), (aCc, .inl (cA, 5760, .inl (fun _ => 0))), (aCr, .inl (cA, 600, .inl (fun _ => 0)))] H := hP
  have hD : va_D A [(aC, .inr (0, [.null, .null, .ref aCn, .ref aCc, .null, .null, .int 0])), (aCn, .inl (cA, 5760, .inl (fun _ => 0))), (aCc, .inl (cA, 5760, .inl (fun _ => 0))), (aCr, .inl (cA, 600, .inl (fun _ => 0)))] := hD
  refine W.widen (k := 3) (n := 12120) (by omega) (by omega) ?_
  refine va_putF (D := (dC, dI)) (ci := 0) (v := .ref aCr) (ty := .array .int) (C := qR_C) (T := qT_C) (N := 7) hx hb hg qi_C qt_C qk_C qn_C hown hK hP hD hS 0 rfl rfl 4 (by decide) (hg _ mw_66) (fun _ h9 => h9) rfl hin rfl (by decide +kernel) rfl rfl (Nat.le_of_ble_eq_true rfl) qd_C_init_28 (fun H locs hP hD hS => ?_)
  have hP : va_P (dC, dI) vwCl [(aC, .inr (0, [.null, .null, .ref aCn, .ref aCc, .ref aCr, .null, .int 0])), (aCn, .inl (cA, 5760, .inl (fun _ => 0))), (aCc, .inl (cA, 5760, .inl (fun _ => 0))), (aCr, .inl (cA, 600, .inl (fun _ => 0)))] H := hP
  have hD : va_D A [(aC, .inr (0, [.null, .null, .ref aCn, .ref aCc, .ref aCr, .null, .int 0])), (aCn, .inl (cA, 5760, .inl (fun _ => 0))), (aCc, .inl (cA, 5760, .inl (fun _ => 0))), (aCr, .inl (cA, 600, .inl (fun _ => 0)))] := hD
  refine lv_aload_n hx hb qd_C_init_31 rfl (lv_at hl 0 rfl) ?_
  refine lv_sipush (v := 600) hx hb qd_C_init_32 (by decide) ?_
  refine va_newa (atype := .int) (ty := .int) (a0 := (600, .inl (fun _ => 0))) (N' := 600) hx hb (hg _ mw_46) rfl hK hP hD hS hA (fun _ => rfl) (by decide) (by decide) (by decide) (Nat.le_of_ble_eq_true rfl) (Nat.le_of_ble_eq_true rfl) qd_C_init_35 (fun aCs c9 H hK hP hD hS => ?_)
  have e9 := x_cls (i := 0) (j := 1) hK rfl rfl (fun _ h => by cases h)
  subst e9
  have hK : va_K (dC, dI) vwCl [(cA, .int)] s := hK.sub [0] rfl
  have hP : va_P (dC, dI) vwCl [(aC, .inr (0, [.null, .null, .ref aCn, .ref aCc, .ref aCr, .null, .int 0])), (aCn, .inl (cA, 5760, .inl (fun _ => 0))), (aCc, .inl (cA, 5760, .inl (fun _ => 0))), (aCr, .inl (cA, 600, .inl (fun _ => 0))), (aCs, .inl (cA, 600, .inl (fun _ => 0)))] H := hP
  have hD : va_D A [(aC, .inr (0, [.null, .null, .ref aCn, .ref aCc, .ref aCr, .null, .int 0])), (aCn, .inl (cA, 5760, .inl (fun _ => 0))), (aCc, .inl (cA, 5760, .inl (fun _ => 0))), (aCr, .inl (cA, 600, .inl (fun _ => 0))), (aCs, .inl (cA, 600, .inl (fun _ => 0)))] := hD
  refine W.widen (k := 4) (n := 12720) (by omega) (by omega) ?_
  refine va_putF (D := (dC, dI)) (ci := 0) (v := .ref aCs) (ty := .array .int) (C := qR_C) (T := qT_C) (N := 7) hx hb hg qi_C qt_C qk_C qn_C hown hK hP hD hS 0 rfl rfl 5 (by decide) (hg _ mw_67) (fun _ h9 => h9) rfl hin rfl (by decide +kernel) rfl rfl (Nat.le_of_ble_eq_true rfl) qd_C_init_37 (fun H locs hP hD hS => ?_)
  have hP : va_P (dC, dI) vwCl [(aC, .inr (0, [.null, .null, .ref aCn, .ref aCc, .ref aCr, .ref aCs, .int 0])), (aCn, .inl (cA, 5760, .inl (fun _ => 0))), (aCc, .inl (cA, 5760, .inl (fun _ => 0))), (aCr, .inl (cA, 600, .inl (fun _ => 0))), (aCs, .inl (cA, 600, .inl (fun _ => 0)))] H := hP
  have hD : va_D A [(aC, .inr (0, [.null, .null, .ref aCn, .ref aCc, .ref aCr, .ref aCs, .int 0])), (aCn, .inl (cA, 5760, .inl (fun _ => 0))), (aCc, .inl (cA, 5760, .inl (fun _ => 0))), (aCr, .inl (cA, 600, .inl (fun _ => 0))), (aCs, .inl (cA, 600, .inl (fun _ => 0)))] := hD
  refine lv_aload_n hx hb qd_C_init_40 rfl (lv_at hl 0 rfl) ?_
  refine lv_iconst (v := 0) hx hb qd_C_init_41 (by decide) ?_
  refine va_put (D := (dC, dI)) (ci := 0) (v := .int 0) (ty := .int) (C := qR_C) (T := qT_C) (N := 7) hx hb hg qi_C qt_C qk_C qn_C hown hK hP hD hS 0 rfl rfl 6 (by decide) (hg _ mw_68) (fun _ h9 => h9) rfl (by decide +kernel) rfl rfl (Nat.le_of_ble_eq_true rfl) qd_C_init_42 (fun H locs hP hD hS => ?_)
  have hP : va_P (dC, dI) vwCl [(aC, .inr (0, [.null, .null, .ref aCn, .ref aCc, .ref aCr, .ref aCs, .int 0])), (aCn, .inl (cA, 5760, .inl (fun _ => 0))), (aCc, .inl (cA, 5760, .inl (fun _ => 0))), (aCr, .inl (cA, 600, .inl (fun _ => 0))), (aCs, .inl (cA, 600, .inl (fun _ => 0)))] H := hP
  have hD : va_D A [(aC, .inr (0, [.null, .null, .ref aCn, .ref aCc, .ref aCr, .ref aCs, .int 0])), (aCn, .inl (cA, 5760, .inl (fun _ => 0))), (aCc, .inl (cA, 5760, .inl (fun _ => 0))), (aCr, .inl (cA, 600, .inl (fun _ => 0))), (aCs, .inl (cA, 600, .inl (fun _ => 0)))] := hD
  refine lv_aload_n hx hb qd_C_init_45 rfl (lv_at hl 0 rfl) ?_
  refine lv_aload_n hx hb qd_C_init_46 rfl (lv_at hl 1 rfl) ?_
  refine va_putF (D := (dC, dI)) (ci := 0) (v := .ref aG) (ty := .object "ForestHouse$Grammar") (C := qR_C) (T := qT_C) (N := 7) hx hb hg qi_C qt_C qk_C qn_C hown hK hP hD hS 0 rfl rfl 0 (by decide) (hg _ mw_62) (fun _ h9 => h9) rfl hin rfl (by decide +kernel) rfl rfl (Nat.le_of_ble_eq_true rfl) qd_C_init_47 (fun H locs hP hD hS => ?_)
  have hP : va_P (dC, dI) vwCl [(aC, .inr (0, [.ref aG, .null, .ref aCn, .ref aCc, .ref aCr, .ref aCs, .int 0])), (aCn, .inl (cA, 5760, .inl (fun _ => 0))), (aCc, .inl (cA, 5760, .inl (fun _ => 0))), (aCr, .inl (cA, 600, .inl (fun _ => 0))), (aCs, .inl (cA, 600, .inl (fun _ => 0)))] H := hP
  have hD : va_D A [(aC, .inr (0, [.ref aG, .null, .ref aCn, .ref aCc, .ref aCr, .ref aCs, .int 0])), (aCn, .inl (cA, 5760, .inl (fun _ => 0))), (aCc, .inl (cA, 5760, .inl (fun _ => 0))), (aCr, .inl (cA, 600, .inl (fun _ => 0))), (aCs, .inl (cA, 600, .inl (fun _ => 0)))] := hD
  refine lv_aload_n hx hb qd_C_init_50 rfl (lv_at hl 0 rfl) ?_
  refine lv_aload_n hx hb qd_C_init_51 rfl (lv_at hl 2 rfl) ?_
  refine va_putF (D := (dC, dI)) (ci := 0) (v := .ref aR) (ty := .object "ForestHouse$Row") (C := qR_C) (T := qT_C) (N := 7) hx hb hg qi_C qt_C qk_C qn_C hown hK hP hD hS 0 rfl rfl 1 (by decide) (hg _ mw_63) (fun _ h9 => h9) rfl hin rfl (by decide +kernel) rfl rfl (Nat.le_of_ble_eq_true rfl) qd_C_init_52 (fun H locs hP hD hS => ?_)
  have hP : va_P (dC, dI) vwCl [(aC, .inr (0, [.ref aG, .ref aR, .ref aCn, .ref aCc, .ref aCr, .ref aCs, .int 0])), (aCn, .inl (cA, 5760, .inl (fun _ => 0))), (aCc, .inl (cA, 5760, .inl (fun _ => 0))), (aCr, .inl (cA, 600, .inl (fun _ => 0))), (aCs, .inl (cA, 600, .inl (fun _ => 0)))] H := hP
  have hD : va_D A [(aC, .inr (0, [.ref aG, .ref aR, .ref aCn, .ref aCc, .ref aCr, .ref aCs, .int 0])), (aCn, .inl (cA, 5760, .inl (fun _ => 0))), (aCc, .inl (cA, 5760, .inl (fun _ => 0))), (aCr, .inl (cA, 600, .inl (fun _ => 0))), (aCs, .inl (cA, 600, .inl (fun _ => 0)))] := hD
  have hP := hP.sub (ws' := [(aC, .inr (0, [.ref aG, .ref aR, .ref aCn, .ref aCc, .ref aCr, .ref aCs, .int 0])), (aCn, .inl (cA, 5760, .inl (fun _ => 0))), (aCc, .inl (cA, 5760, .inl (fun _ => 0))), (aCr, .inl (cA, 600, .inl (fun _ => 0))), (aCs, .inl (cA, 600, .inl (fun _ => 0)))]) [0, 1, 2, 3, 4] rfl
  have hD := hD.sub (ws' := [(aC, .inr (0, [.ref aG, .ref aR, .ref aCn, .ref aCc, .ref aCr, .ref aCs, .int 0])), (aCn, .inl (cA, 5760, .inl (fun _ => 0))), (aCc, .inl (cA, 5760, .inl (fun _ => 0))), (aCr, .inl (cA, 600, .inl (fun _ => 0))), (aCs, .inl (cA, 600, .inl (fun _ => 0)))]) [0, 1, 2, 3, 4] (by decide) rfl
  exact W.vret hx hb hr (fun t ht hW => ⟨⟨(aCn, aCc, aCr, aCs), rfl, trivial, ⟨by rw [ht]; exact hP, va_K.moved hW.alike hK, x_N hN hW⟩, hD⟩, hS.F ht⟩) hS.2.2 qd_C_init_55
theorem qd_T_init_0 : decode qc_T_init 0 = .ok (.aload_n 0, 1) := by decide +kernel
theorem qd_T_init_1 : decode qc_T_init 1 = .ok (.invokespecial 3, 3) := by decide +kernel
theorem qd_T_init_4 : decode qc_T_init 4 = .ok (.aload_n 0, 1) := by decide +kernel
theorem qd_T_init_5 : decode qc_T_init 5 = .ok (.sipush 1880, 3) := by decide +kernel
theorem qd_T_init_8 : decode qc_T_init 8 = .ok (.newarray .int, 2) := by decide +kernel
theorem qd_T_init_10 : decode qc_T_init 10 = .ok (.putfield 9, 3) := by decide +kernel
theorem qd_T_init_13 : decode qc_T_init 13 = .ok (.aload_n 0, 1) := by decide +kernel
theorem qd_T_init_14 : decode qc_T_init 14 = .ok (.iconst 0, 1) := by decide +kernel
theorem qd_T_init_15 : decode qc_T_init 15 = .ok (.putfield 15, 3) := by decide +kernel
theorem qd_T_init_18 : decode qc_T_init 18 = .ok (.return_, 1) := by decide +kernel
set_option maxHeartbeats 4000000 in
set_option maxRecDepth 100000 in
theorem c_T_init (l : Launch) (dC : Nat → ClassId) (dI : Nat → Nat → Nat) (cA : ClassId) (aT : Nat) (sz : Nat) : Met l qy_T_init qw_T_init ({ frames := 1, cells := 1, slots := 1880, locals := 12 }) (va_Pc [.ref aT] (fun U => U.heap.size = sz ∧ xP (dC, dI) [(cA, .int)] [(aT, .inr (5, [.null, .int 0]))] nestN U ∧ va_D (fun _ => True) [(aT, .inr (5, [.null, .int 0]))])) (va_Qv (fun _ : Nat => True) (fun u t => xP (dC, dI) [(cA, .int)] [(aT, .inr (5, [.ref u, .int 0])), (u, .inl (cA, 1880, .inl (fun _ => 0)))] nestN t ∧ va_D (va_A [(aT, .inr (5, [.null, .int 0]))] sz) [(aT, .inr (5, [.ref u, .int 0])), (u, .inl (cA, 1880, .inl (fun _ => 0)))]) (va_A [(aT, .inr (5, [.null, .int 0]))] sz)) 1 1880 (va_A [(aT, .inr (5, [.null, .int 0]))] sz) := by
  refine Met.ofW (cc := qc_T_init) (maxL := 1) (ret := none) (by decide) rfl ?_
  intro p e s m args below meth c s₁ B hml hv
  obtain ⟨rfl, hsz, ⟨hP, hK, hN⟩, hD0⟩ := hv
  have hx := B.exec
  have hb := B.bytes
  have hr := B.returns
  have hts := atoms_spec (ws := qw_T_init) B.pre
  have hg : ∀ w ∈ gG, w.before _ s = true := fun w h => hts w (List.mem_cons_of_mem _ h)
  have hown : s.vm.findClass qR_T = some m.cls := findClass_of_methodNamed B.named
  have hlocks := B.notSynchronized
  have hin : meth.name = "<init>" := (name_of_methodNamed B.named B.method).1
  subst hsz
  have hD := hD0.self (sz := s.heap.size)
  generalize hAe : va_A [(aT, .inr (5, [.null, .int 0]))] s.heap.size = A at hD ⊢
  have hA : ∀ q : Nat, s.heap.size ≤ q → A q := fun q h => by rw [← hAe]; exact Or.inr h
  have hS : va_S A s.heap s.heap [] := va_S.rf
  have hP : va_P (dC, dI) vwCl [(aT, .inr (5, [.null, .int 0]))] s.heap := hP
  have hl := lv_entry ([.ref aT]) (n := 1) (Nat.le_of_ble_eq_true rfl)
  rw [lg_entry_eq]
  generalize (lg_sl ([.ref aT]) ++ List.replicate (1 - (lg_sl ([.ref aT])).length) Slot.unset).toArray = ls at hl ⊢
  have hl : lv_has ls 1 [(0, .ref aT)] := hl
  refine lv_aload_n hx hb qd_T_init_0 rfl (lv_at hl 0 rfl) ?_
  refine W.objInit hx hb hown (hg _ mw_80) (hg _ mw_25) (hg _ mw_26) rfl (by rw [hml]; exact hl.1) rfl qd_T_init_1 (Nat.le_of_ble_eq_true rfl) (Nat.le_of_ble_eq_true rfl) ?_
  refine W.eq (g2 := F0 m 4 ls []) rfl ?_
  refine lv_aload_n hx hb qd_T_init_4 rfl (lv_at hl 0 rfl) ?_
  refine lv_sipush (v := 1880) hx hb qd_T_init_5 (by decide) ?_
  refine va_newa (atype := .int) (ty := .int) (a0 := (1880, .inl (fun _ => 0))) (N' := 1880) hx hb (hg _ mw_46) rfl hK hP hD hS hA (fun _ => rfl) (by decide) (by decide) (by decide) (Nat.le_of_ble_eq_true rfl) (Nat.le_of_ble_eq_true rfl) qd_T_init_8 (fun aTf c9 H hK hP hD hS => ?_)
  have e9 := x_cls (i := 0) (j := 1) hK rfl rfl (fun _ h => by cases h)
  subst e9
  have hK : va_K (dC, dI) vwCl [(cA, .int)] s := hK.sub [0] rfl
  have hP : va_P (dC, dI) vwCl [(aT, .inr (5, [.null, .int 0])), (aTf, .inl (cA, 1880, .inl (fun _ => 0)))] H := hP
  have hD : va_D A [(aT, .inr (5, [.null, .int 0])), (aTf, .inl (cA, 1880, .inl (fun _ => 0)))] := hD
  refine W.widen (k := 1) (n := 1880) (by omega) (by omega) ?_
  refine va_putF (D := (dC, dI)) (ci := 5) (v := .ref aTf) (ty := .array .int) (C := qR_T) (T := qT_T) (N := 2) hx hb hg qi_T qt_T qk_T qn_T hown hK hP hD hS 0 rfl rfl 0 (by decide) (hg _ mw_81) (fun _ h9 => h9) rfl hin rfl (by decide +kernel) rfl rfl (Nat.le_of_ble_eq_true rfl) qd_T_init_10 (fun H locs hP hD hS => ?_)
  have hP : va_P (dC, dI) vwCl [(aT, .inr (5, [.ref aTf, .int 0])), (aTf, .inl (cA, 1880, .inl (fun _ => 0)))] H := hP
  have hD : va_D A [(aT, .inr (5, [.ref aTf, .int 0])), (aTf, .inl (cA, 1880, .inl (fun _ => 0)))] := hD
  refine lv_aload_n hx hb qd_T_init_13 rfl (lv_at hl 0 rfl) ?_
  refine lv_iconst (v := 0) hx hb qd_T_init_14 (by decide) ?_
  refine va_put (D := (dC, dI)) (ci := 5) (v := .int 0) (ty := .int) (C := qR_T) (T := qT_T) (N := 2) hx hb hg qi_T qt_T qk_T qn_T hown hK hP hD hS 0 rfl rfl 1 (by decide) (hg _ mw_82) (fun _ h9 => h9) rfl (by decide +kernel) rfl rfl (Nat.le_of_ble_eq_true rfl) qd_T_init_15 (fun H locs hP hD hS => ?_)
  have hP : va_P (dC, dI) vwCl [(aT, .inr (5, [.ref aTf, .int 0])), (aTf, .inl (cA, 1880, .inl (fun _ => 0)))] H := hP
  have hD : va_D A [(aT, .inr (5, [.ref aTf, .int 0])), (aTf, .inl (cA, 1880, .inl (fun _ => 0)))] := hD
  have hP := hP.sub (ws' := [(aT, .inr (5, [.ref aTf, .int 0])), (aTf, .inl (cA, 1880, .inl (fun _ => 0)))]) [0, 1] rfl
  have hD := hD.sub (ws' := [(aT, .inr (5, [.ref aTf, .int 0])), (aTf, .inl (cA, 1880, .inl (fun _ => 0)))]) [0, 1] (by decide) rfl
  exact W.vret hx hb hr (fun t ht hW => ⟨⟨(aTf), rfl, trivial, ⟨by rw [ht]; exact hP, va_K.moved hW.alike hK, x_N hN hW⟩, hD⟩, hS.F ht⟩) hS.2.2 qd_T_init_18
theorem qd_F_init_0 : decode qc_F_init 0 = .ok (.aload_n 0, 1) := by decide +kernel
theorem qd_F_init_1 : decode qc_F_init 1 = .ok (.invokespecial 3, 3) := by decide +kernel
theorem qd_F_init_4 : decode qc_F_init 4 = .ok (.aload_n 0, 1) := by decide +kernel
theorem qd_F_init_5 : decode qc_F_init 5 = .ok (.bipush 24, 2) := by decide +kernel
theorem qd_F_init_7 : decode qc_F_init 7 = .ok (.newarray .int, 2) := by decide +kernel
theorem qd_F_init_9 : decode qc_F_init 9 = .ok (.putfield 9, 3) := by decide +kernel
theorem qd_F_init_12 : decode qc_F_init 12 = .ok (.aload_n 0, 1) := by decide +kernel
theorem qd_F_init_13 : decode qc_F_init 13 = .ok (.bipush 24, 2) := by decide +kernel
theorem qd_F_init_15 : decode qc_F_init 15 = .ok (.newarray .int, 2) := by decide +kernel
theorem qd_F_init_17 : decode qc_F_init 17 = .ok (.putfield 15, 3) := by decide +kernel
theorem qd_F_init_20 : decode qc_F_init 20 = .ok (.aload_n 0, 1) := by decide +kernel
theorem qd_F_init_21 : decode qc_F_init 21 = .ok (.bipush 24, 2) := by decide +kernel
theorem qd_F_init_23 : decode qc_F_init 23 = .ok (.newarray .int, 2) := by decide +kernel
theorem qd_F_init_25 : decode qc_F_init 25 = .ok (.putfield 18, 3) := by decide +kernel
theorem qd_F_init_28 : decode qc_F_init 28 = .ok (.aload_n 0, 1) := by decide +kernel
theorem qd_F_init_29 : decode qc_F_init 29 = .ok (.bipush 24, 2) := by decide +kernel
theorem qd_F_init_31 : decode qc_F_init 31 = .ok (.newarray .int, 2) := by decide +kernel
theorem qd_F_init_33 : decode qc_F_init 33 = .ok (.putfield 21, 3) := by decide +kernel
theorem qd_F_init_36 : decode qc_F_init 36 = .ok (.aload_n 0, 1) := by decide +kernel
theorem qd_F_init_37 : decode qc_F_init 37 = .ok (.bipush 24, 2) := by decide +kernel
theorem qd_F_init_39 : decode qc_F_init 39 = .ok (.newarray .int, 2) := by decide +kernel
theorem qd_F_init_41 : decode qc_F_init 41 = .ok (.putfield 24, 3) := by decide +kernel
theorem qd_F_init_44 : decode qc_F_init 44 = .ok (.aload_n 0, 1) := by decide +kernel
theorem qd_F_init_45 : decode qc_F_init 45 = .ok (.iconst 0, 1) := by decide +kernel
theorem qd_F_init_46 : decode qc_F_init 46 = .ok (.putfield 27, 3) := by decide +kernel
theorem qd_F_init_49 : decode qc_F_init 49 = .ok (.aload_n 0, 1) := by decide +kernel
theorem qd_F_init_50 : decode qc_F_init 50 = .ok (.iconst 0, 1) := by decide +kernel
theorem qd_F_init_51 : decode qc_F_init 51 = .ok (.putfield 31, 3) := by decide +kernel
theorem qd_F_init_54 : decode qc_F_init 54 = .ok (.aload_n 0, 1) := by decide +kernel
theorem qd_F_init_55 : decode qc_F_init 55 = .ok (.iconst 0, 1) := by decide +kernel
theorem qd_F_init_56 : decode qc_F_init 56 = .ok (.putfield 34, 3) := by decide +kernel
theorem qd_F_init_59 : decode qc_F_init 59 = .ok (.aload_n 0, 1) := by decide +kernel
theorem qd_F_init_60 : decode qc_F_init 60 = .ok (.iconst (-1), 1) := by decide +kernel
theorem qd_F_init_61 : decode qc_F_init 61 = .ok (.putfield 37, 3) := by decide +kernel
theorem qd_F_init_64 : decode qc_F_init 64 = .ok (.aload_n 0, 1) := by decide +kernel
theorem qd_F_init_65 : decode qc_F_init 65 = .ok (.iconst (-1), 1) := by decide +kernel
theorem qd_F_init_66 : decode qc_F_init 66 = .ok (.putfield 40, 3) := by decide +kernel
theorem qd_F_init_69 : decode qc_F_init 69 = .ok (.aload_n 0, 1) := by decide +kernel
theorem qd_F_init_70 : decode qc_F_init 70 = .ok (.iconst 0, 1) := by decide +kernel
theorem qd_F_init_71 : decode qc_F_init 71 = .ok (.putfield 43, 3) := by decide +kernel
theorem qd_F_init_74 : decode qc_F_init 74 = .ok (.aload_n 0, 1) := by decide +kernel
theorem qd_F_init_75 : decode qc_F_init 75 = .ok (.iconst 0, 1) := by decide +kernel
theorem qd_F_init_76 : decode qc_F_init 76 = .ok (.putfield 46, 3) := by decide +kernel
theorem qd_F_init_79 : decode qc_F_init 79 = .ok (.aload_n 0, 1) := by decide +kernel
theorem qd_F_init_80 : decode qc_F_init 80 = .ok (.aload_n 1, 1) := by decide +kernel
theorem qd_F_init_81 : decode qc_F_init 81 = .ok (.putfield 49, 3) := by decide +kernel
theorem qd_F_init_84 : decode qc_F_init 84 = .ok (.aload_n 0, 1) := by decide +kernel
theorem qd_F_init_85 : decode qc_F_init 85 = .ok (.aload_n 2, 1) := by decide +kernel
theorem qd_F_init_86 : decode qc_F_init 86 = .ok (.putfield 53, 3) := by decide +kernel
theorem qd_F_init_89 : decode qc_F_init 89 = .ok (.return_, 1) := by decide +kernel
set_option maxHeartbeats 4000000 in
set_option maxRecDepth 100000 in
theorem c_F_init (l : Launch) (dC : Nat → ClassId) (dI : Nat → Nat → Nat) (cA : ClassId) (aF aG aC : Nat) (sz : Nat) : Met l qy_F_init qw_F_init ({ frames := 1, cells := 5, slots := 120, locals := 12 }) (va_Pc [.ref aF, .ref aG, .ref aC] (fun U => U.heap.size = sz ∧ xP (dC, dI) [(cA, .int)] [(aF, .inr (1, [.null, .null, .null, .null, .null, .null, .null, .int 0, .int 0, .int 0, .int 0, .int 0, .int 0, .int 0]))] nestN U ∧ va_D (fun _ => True) [(aF, .inr (1, [.null, .null, .null, .null, .null, .null, .null, .int 0, .int 0, .int 0, .int 0, .int 0, .int 0, .int 0]))])) (va_Qv (fun _ : Nat × Nat × Nat × Nat × Nat => True) (fun u t => xP (dC, dI) [(cA, .int)] [(aF, .inr (1, [.ref aG, .ref aC, .ref u.1, .ref u.2.1, .ref u.2.2.1, .ref u.2.2.2.1, .ref u.2.2.2.2, .int 0, .int 0, .int 0, .int (-1), .int (-1), .int 0, .int 0])), (u.1, .inl (cA, 24, .inl (fun _ => 0))), (u.2.1, .inl (cA, 24, .inl (fun _ => 0))), (u.2.2.1, .inl (cA, 24, .inl (fun _ => 0))), (u.2.2.2.1, .inl (cA, 24, .inl (fun _ => 0))), (u.2.2.2.2, .inl (cA, 24, .inl (fun _ => 0)))] nestN t ∧ va_D (va_A [(aF, .inr (1, [.null, .null, .null, .null, .null, .null, .null, .int 0, .int 0, .int 0, .int 0, .int 0, .int 0, .int 0]))] sz) [(aF, .inr (1, [.ref aG, .ref aC, .ref u.1, .ref u.2.1, .ref u.2.2.1, .ref u.2.2.2.1, .ref u.2.2.2.2, .int 0, .int 0, .int 0, .int (-1), .int (-1), .int 0, .int 0])), (u.1, .inl (cA, 24, .inl (fun _ => 0))), (u.2.1, .inl (cA, 24, .inl (fun _ => 0))), (u.2.2.1, .inl (cA, 24, .inl (fun _ => 0))), (u.2.2.2.1, .inl (cA, 24, .inl (fun _ => 0))), (u.2.2.2.2, .inl (cA, 24, .inl (fun _ => 0)))]) (va_A [(aF, .inr (1, [.null, .null, .null, .null, .null, .null, .null, .int 0, .int 0, .int 0, .int 0, .int 0, .int 0, .int 0]))] sz)) 5 120 (va_A [(aF, .inr (1, [.null, .null, .null, .null, .null, .null, .null, .int 0, .int 0, .int 0, .int 0, .int 0, .int 0, .int 0]))] sz) := by
  refine Met.ofW (cc := qc_F_init) (maxL := 3) (ret := none) (by decide) rfl ?_
  intro p e s m args below meth c s₁ B hml hv
  obtain ⟨rfl, hsz, ⟨hP, hK, hN⟩, hD0⟩ := hv
  have hx := B.exec
  have hb := B.bytes
  have hr := B.returns
  have hts := atoms_spec (ws := qw_F_init) B.pre
  have hg : ∀ w ∈ gG, w.before _ s = true := fun w h => hts w (List.mem_cons_of_mem _ h)
  have hown : s.vm.findClass qR_F = some m.cls := findClass_of_methodNamed B.named
  have hlocks := B.notSynchronized
  have hin : meth.name = "<init>" := (name_of_methodNamed B.named B.method).1
  subst hsz
  have hD := hD0.self (sz := s.heap.size)
  generalize hAe : va_A [(aF, .inr (1, [.null, .null, .null, .null, .null, .null, .null, .int 0, .int 0, .int 0, .int 0, .int 0, .int 0, .int 0]))] s.heap.size = A at hD ⊢
  have hA : ∀ q : Nat, s.heap.size ≤ q → A q := fun q h => by rw [← hAe]; exact Or.inr h
  have hS : va_S A s.heap s.heap [] := va_S.rf
  have hP : va_P (dC, dI) vwCl [(aF, .inr (1, [.null, .null, .null, .null, .null, .null, .null, .int 0, .int 0, .int 0, .int 0, .int 0, .int 0, .int 0]))] s.heap := hP
  have hl := lv_entry ([.ref aF, .ref aG, .ref aC]) (n := 3) (Nat.le_of_ble_eq_true rfl)
  rw [lg_entry_eq]
  generalize (lg_sl ([.ref aF, .ref aG, .ref aC]) ++ List.replicate (3 - (lg_sl ([.ref aF, .ref aG, .ref aC])).length) Slot.unset).toArray = ls at hl ⊢
  have hl : lv_has ls 3 [(0, .ref aF), (1, .ref aG), (2, .ref aC)] := hl
  refine lv_aload_n hx hb qd_F_init_0 rfl (lv_at hl 0 rfl) ?_
  refine W.objInit hx hb hown (hg _ mw_90) (hg _ mw_25) (hg _ mw_26) rfl (by rw [hml]; exact hl.1) rfl qd_F_init_1 (Nat.le_of_ble_eq_true rfl) (Nat.le_of_ble_eq_true rfl) ?_
  refine W.eq (g2 := F0 m 4 ls []) rfl ?_
  refine lv_aload_n hx hb qd_F_init_4 rfl (lv_at hl 0 rfl) ?_
  refine lv_bipush (v := 24) hx hb qd_F_init_5 (by decide) ?_
  refine va_newa (atype := .int) (ty := .int) (a0 := (24, .inl (fun _ => 0))) (N' := 24) hx hb (hg _ mw_46) rfl hK hP hD hS hA (fun _ => rfl) (by decide) (by decide) (by decide) (Nat.le_of_ble_eq_true rfl) (Nat.le_of_ble_eq_true rfl) qd_F_init_7 (fun aFs c9 H hK hP hD hS => ?_)
  have e9 := x_cls (i := 0) (j := 1) hK rfl rfl (fun _ h => by cases h)
  subst e9
  have hK : va_K (dC, dI) vwCl [(cA, .int)] s := hK.sub [0] rfl
  have hP : va_P (dC, dI) vwCl [(aF, .inr (1, [.null, .null, .null, .null, .null, .null, .null, .int 0, .int 0, .int 0, .int 0, .int 0, .int 0, .int 0])), (aFs, .inl (cA, 24, .inl (fun _ => 0)))] H := hP
  have hD : va_D A [(aF, .inr (1, [.null, .null, .null, .null, .null, .null, .null, .int 0, .int 0, .int 0, .int 0, .int 0, .int 0, .int 0])), (aFs, .inl (cA, 24, .inl (fun _ => 0)))] := hD
  refine W.widen (k := 1) (n := 24) (by omega) (by omega) ?_
  refine va_putF (D := (dC, dI)) (ci := 1) (v := .ref aFs) (ty := .array .int) (C := qR_F) (T := qT_F) (N := 14) hx hb hg qi_F qt_F qk_F qn_F hown hK hP hD hS 0 rfl rfl 2 (by decide) (hg _ mw_93) (fun _ h9 => h9) rfl hin rfl (by decide +kernel) rfl rfl (Nat.le_of_ble_eq_true rfl) qd_F_init_9 (fun H locs hP hD hS => ?_)
  have hP : va_P (dC, dI) vwCl [(aF, .inr (1, [.null, .null, .ref aFs, .null, .null, .null, .null, .int 0, .int 0, .int 0, .int 0, .int 0, .int 0, .int 0])), (aFs, .inl (cA, 24, .inl (fun _ => 0)))] H := hP
  have hD : va_D A [(aF, .inr (1, [.null, .null, .ref aFs, .null, .null, .null, .null, .int 0, .int 0, .int 0, .int 0, .int 0, .int 0, .int 0])), (aFs, .inl (cA, 24, .inl (fun _ => 0)))] := hD
  refine lv_aload_n hx hb qd_F_init_12 rfl (lv_at hl 0 rfl) ?_
  refine lv_bipush (v := 24) hx hb qd_F_init_13 (by decide) ?_
  refine va_newa (atype := .int) (ty := .int) (a0 := (24, .inl (fun _ => 0))) (N' := 24) hx hb (hg _ mw_46) rfl hK hP hD hS hA (fun _ => rfl) (by decide) (by decide) (by decide) (Nat.le_of_ble_eq_true rfl) (Nat.le_of_ble_eq_true rfl) qd_F_init_15 (fun aFf c9 H hK hP hD hS => ?_)
  have e9 := x_cls (i := 0) (j := 1) hK rfl rfl (fun _ h => by cases h)
  subst e9
  have hK : va_K (dC, dI) vwCl [(cA, .int)] s := hK.sub [0] rfl
  have hP : va_P (dC, dI) vwCl [(aF, .inr (1, [.null, .null, .ref aFs, .null, .null, .null, .null, .int 0, .int 0, .int 0, .int 0, .int 0, .int 0, .int 0])), (aFs, .inl (cA, 24, .inl (fun _ => 0))), (aFf, .inl (cA, 24, .inl (fun _ => 0)))] H := hP
  have hD : va_D A [(aF, .inr (1, [.null, .null, .ref aFs, .null, .null, .null, .null, .int 0, .int 0, .int 0, .int 0, .int 0, .int 0, .int 0])), (aFs, .inl (cA, 24, .inl (fun _ => 0))), (aFf, .inl (cA, 24, .inl (fun _ => 0)))] := hD
  refine W.widen (k := 2) (n := 48) (by omega) (by omega) ?_
  refine va_putF (D := (dC, dI)) (ci := 1) (v := .ref aFf) (ty := .array .int) (C := qR_F) (T := qT_F) (N := 14) hx hb hg qi_F qt_F qk_F qn_F hown hK hP hD hS 0 rfl rfl 3 (by decide) (hg _ mw_94) (fun _ h9 => h9) rfl hin rfl (by decide +kernel) rfl rfl (Nat.le_of_ble_eq_true rfl) qd_F_init_17 (fun H locs hP hD hS => ?_)
  have hP : va_P (dC, dI) vwCl [(aF, .inr (1, [.null, .null, .ref aFs, .ref aFf, .null, .null, .null, .int 0, .int 0, .int 0, .int 0, .int 0, .int 0, .int 0])), (aFs, .inl (cA, 24, .inl (fun _ => 0))), (aFf, .inl (cA, 24, .inl (fun _ => 0)))] H := hP
  have hD : va_D A [(aF, .inr (1, [.null, .null, .ref aFs, .ref aFf, .null, .null, .null, .int 0, .int 0, .int 0, .int 0, .int 0, .int 0, .int 0])), (aFs, .inl (cA, 24, .inl (fun _ => 0))), (aFf, .inl (cA, 24, .inl (fun _ => 0)))] := hD
  refine lv_aload_n hx hb qd_F_init_20 rfl (lv_at hl 0 rfl) ?_
  refine lv_bipush (v := 24) hx hb qd_F_init_21 (by decide) ?_
  refine va_newa (atype := .int) (ty := .int) (a0 := (24, .inl (fun _ => 0))) (N' := 24) hx hb (hg _ mw_46) rfl hK hP hD hS hA (fun _ => rfl) (by decide) (by decide) (by decide) (Nat.le_of_ble_eq_true rfl) (Nat.le_of_ble_eq_true rfl) qd_F_init_23 (fun aFt c9 H hK hP hD hS => ?_)
  have e9 := x_cls (i := 0) (j := 1) hK rfl rfl (fun _ h => by cases h)
  subst e9
  have hK : va_K (dC, dI) vwCl [(cA, .int)] s := hK.sub [0] rfl
  have hP : va_P (dC, dI) vwCl [(aF, .inr (1, [.null, .null, .ref aFs, .ref aFf, .null, .null, .null, .int 0, .int 0, .int 0, .int 0, .int 0, .int 0, .int 0])), (aFs, .inl (cA, 24, .inl (fun _ => 0))), (aFf, .inl (cA, 24, .inl (fun _ => 0))), (aFt, .inl (cA, 24, .inl (fun _ => 0)))] H := hP
  have hD : va_D A [(aF, .inr (1, [.null, .null, .ref aFs, .ref aFf, .null, .null, .null, .int 0, .int 0, .int 0, .int 0, .int 0, .int 0, .int 0])), (aFs, .inl (cA, 24, .inl (fun _ => 0))), (aFf, .inl (cA, 24, .inl (fun _ => 0))), (aFt, .inl (cA, 24, .inl (fun _ => 0)))] := hD
  refine W.widen (k := 3) (n := 72) (by omega) (by omega) ?_
  refine va_putF (D := (dC, dI)) (ci := 1) (v := .ref aFt) (ty := .array .int) (C := qR_F) (T := qT_F) (N := 14) hx hb hg qi_F qt_F qk_F qn_F hown hK hP hD hS 0 rfl rfl 4 (by decide) (hg _ mw_95) (fun _ h9 => h9) rfl hin rfl (by decide +kernel) rfl rfl (Nat.le_of_ble_eq_true rfl) qd_F_init_25 (fun H locs hP hD hS => ?_)
  have hP : va_P (dC, dI) vwCl [(aF, .inr (1, [.null, .null, .ref aFs, .ref aFf, .ref aFt, .null, .null, .int 0, .int 0, .int 0, .int 0, .int 0, .int 0, .int 0])), (aFs, .inl (cA, 24, .inl (fun _ => 0))), (aFf, .inl (cA, 24, .inl (fun _ => 0))), (aFt, .inl (cA, 24, .inl (fun _ => 0)))] H := hP
  have hD : va_D A [(aF, .inr (1, [.null, .null, .ref aFs, .ref aFf, .ref aFt, .null, .null, .int 0, .int 0, .int 0, .int 0, .int 0, .int 0, .int 0])), (aFs, .inl (cA, 24, .inl (fun _ => 0))), (aFf, .inl (cA, 24, .inl (fun _ => 0))), (aFt, .inl (cA, 24, .inl (fun _ => 0)))] := hD
  refine lv_aload_n hx hb qd_F_init_28 rfl (lv_at hl 0 rfl) ?_
  refine lv_bipush (v := 24) hx hb qd_F_init_29 (by decide) ?_
  refine va_newa (atype := .int) (ty := .int) (a0 := (24, .inl (fun _ => 0))) (N' := 24) hx hb (hg _ mw_46) rfl hK hP hD hS hA (fun _ => rfl) (by decide) (by decide) (by decide) (Nat.le_of_ble_eq_true rfl) (Nat.le_of_ble_eq_true rfl) qd_F_init_31 (fun aFn c9 H hK hP hD hS => ?_)
  have e9 := x_cls (i := 0) (j := 1) hK rfl rfl (fun _ h => by cases h)
  subst e9
  have hK : va_K (dC, dI) vwCl [(cA, .int)] s := hK.sub [0] rfl
  have hP : va_P (dC, dI) vwCl [(aF, .inr (1, [.null, .null, .ref aFs, .ref aFf, .ref aFt, .null, .null, .int 0, .int 0, .int 0, .int 0, .int 0, .int 0, .int 0])), (aFs, .inl (cA, 24, .inl (fun _ => 0))), (aFf, .inl (cA, 24, .inl (fun _ => 0))), (aFt, .inl (cA, 24, .inl (fun _ => 0))), (aFn, .inl (cA, 24, .inl (fun _ => 0)))] H := hP
  have hD : va_D A [(aF, .inr (1, [.null, .null, .ref aFs, .ref aFf, .ref aFt, .null, .null, .int 0, .int 0, .int 0, .int 0, .int 0, .int 0, .int 0])), (aFs, .inl (cA, 24, .inl (fun _ => 0))), (aFf, .inl (cA, 24, .inl (fun _ => 0))), (aFt, .inl (cA, 24, .inl (fun _ => 0))), (aFn, .inl (cA, 24, .inl (fun _ => 0)))] := hD
  refine W.widen (k := 4) (n := 96) (by omega) (by omega) ?_
  refine va_putF (D := (dC, dI)) (ci := 1) (v := .ref aFn) (ty := .array .int) (C := qR_F) (T := qT_F) (N := 14) hx hb hg qi_F qt_F qk_F qn_F hown hK hP hD hS 0 rfl rfl 5 (by decide) (hg _ mw_96) (fun _ h9 => h9) rfl hin rfl (by decide +kernel) rfl rfl (Nat.le_of_ble_eq_true rfl) qd_F_init_33 (fun H locs hP hD hS => ?_)
  have hP : va_P (dC, dI) vwCl [(aF, .inr (1, [.null, .null, .ref aFs, .ref aFf, .ref aFt, .ref aFn, .null, .int 0, .int 0, .int 0, .int 0, .int 0, .int 0, .int 0])), (aFs, .inl (cA, 24, .inl (fun _ => 0))), (aFf, .inl (cA, 24, .inl (fun _ => 0))), (aFt, .inl (cA, 24, .inl (fun _ => 0))), (aFn, .inl (cA, 24, .inl (fun _ => 0)))] H := hP
  have hD : va_D A [(aF, .inr (1, [.null, .null, .ref aFs, .ref aFf, .ref aFt, .ref aFn, .null, .int 0, .int 0, .int 0, .int 0, .int 0, .int 0, .int 0])), (aFs, .inl (cA, 24, .inl (fun _ => 0))), (aFf, .inl (cA, 24, .inl (fun _ => 0))), (aFt, .inl (cA, 24, .inl (fun _ => 0))), (aFn, .inl (cA, 24, .inl (fun _ => 0)))] := hD
  refine lv_aload_n hx hb qd_F_init_36 rfl (lv_at hl 0 rfl) ?_
  refine lv_bipush (v := 24) hx hb qd_F_init_37 (by decide) ?_
  refine va_newa (atype := .int) (ty := .int) (a0 := (24, .inl (fun _ => 0))) (N' := 24) hx hb (hg _ mw_46) rfl hK hP hD hS hA (fun _ => rfl) (by decide) (by decide) (by decide) (Nat.le_of_ble_eq_true rfl) (Nat.le_of_ble_eq_true rfl) qd_F_init_39 (fun aFd c9 H hK hP hD hS => ?_)
  have e9 := x_cls (i := 0) (j := 1) hK rfl rfl (fun _ h => by cases h)
  subst e9
  have hK : va_K (dC, dI) vwCl [(cA, .int)] s := hK.sub [0] rfl
  have hP : va_P (dC, dI) vwCl [(aF, .inr (1, [.null, .null, .ref aFs, .ref aFf, .ref aFt, .ref aFn, .null, .int 0, .int 0, .int 0, .int 0, .int 0, .int 0, .int 0])), (aFs, .inl (cA, 24, .inl (fun _ => 0))), (aFf, .inl (cA, 24, .inl (fun _ => 0))), (aFt, .inl (cA, 24, .inl (fun _ => 0))), (aFn, .inl (cA, 24, .inl (fun _ => 0))), (aFd, .inl (cA, 24, .inl (fun _ => 0)))] H := hP
  have hD : va_D A [(aF, .inr (1, [.null, .null, .ref aFs, .ref aFf, .ref aFt, .ref aFn, .null, .int 0, .int 0, .int 0, .int 0, .int 0, .int 0, .int 0])), (aFs, .inl (cA, 24, .inl (fun _ => 0))), (aFf, .inl (cA, 24, .inl (fun _ => 0))), (aFt, .inl (cA, 24, .inl (fun _ => 0))), (aFn, .inl (cA, 24, .inl (fun _ => 0))), (aFd, .inl (cA, 24, .inl (fun _ => 0)))] := hD
  refine W.widen (k := 5) (n := 120) (by omega) (by omega) ?_
  refine va_putF (D := (dC, dI)) (ci := 1) (v := .ref aFd) (ty := .array .int) (C := qR_F) (T := qT_F) (N := 14) hx hb hg qi_F qt_F qk_F qn_F hown hK hP hD hS 0 rfl rfl 6 (by decide) (hg _ mw_97) (fun _ h9 => h9) rfl hin rfl (by decide +kernel) rfl rfl (Nat.le_of_ble_eq_true rfl) qd_F_init_41 (fun H locs hP hD hS => ?_)
  have hP : va_P (dC, dI) vwCl [(aF, .inr (1, [.null, .null, .ref aFs, .ref aFf, .ref aFt, .ref aFn, .ref aFd, .int 0, .int 0, .int 0, .int 0, .int 0, .int 0, .int 0])), (aFs, .inl (cA, 24, .inl (fun _ => 0))), (aFf, .inl (cA, 24, .inl (fun _ => 0))), (aFt, .inl (cA, 24, .inl (fun _ => 0))), (aFn, .inl (cA, 24, .inl (fun _ => 0))), (aFd, .inl (cA, 24, .inl (fun _ => 0)))] H := hP
  have hD : va_D A [(aF, .inr (1, [.null, .null, .ref aFs, .ref aFf, .ref aFt, .ref aFn, .ref aFd, .int 0, .int 0, .int 0, .int 0, .int 0, .int 0, .int 0])), (aFs, .inl (cA, 24, .inl (fun _ => 0))), (aFf, .inl (cA, 24, .inl (fun _ => 0))), (aFt, .inl (cA, 24, .inl (fun _ => 0))), (aFn, .inl (cA, 24, .inl (fun _ => 0))), (aFd, .inl (cA, 24, .inl (fun _ => 0)))] := hD
  refine lv_aload_n hx hb qd_F_init_44 rfl (lv_at hl 0 rfl) ?_
  refine lv_iconst (v := 0) hx hb qd_F_init_45 (by decide) ?_
  refine va_put (D := (dC, dI)) (ci := 1) (v := .int 0) (ty := .int) (C := qR_F) (T := qT_F) (N := 14) hx hb hg qi_F qt_F qk_F qn_F hown hK hP hD hS 0 rfl rfl 7 (by decide) (hg _ mw_98) (fun _ h9 => h9) rfl (by decide +kernel) rfl rfl (Nat.le_of_ble_eq_true rfl) qd_F_init_46 (fun H locs hP hD hS => ?_)
  have hP : va_P (dC, dI) vwCl [(aF, .inr (1, [.null, .null, .ref aFs, .ref aFf, .ref aFt, .ref aFn, .ref aFd, .int 0, .int 0, .int 0, .int 0, .int 0, .int 0, .int 0])), (aFs, .inl (cA, 24, .inl (fun _ => 0))), (aFf, .inl (cA, 24, .inl (fun _ => 0))), (aFt, .inl (cA, 24, .inl (fun _ => 0))), (aFn, .inl (cA, 24, .inl (fun _ => 0))), (aFd, .inl (cA, 24, .inl (fun _ => 0)))] H := hP
  have hD : va_D A [(aF, .inr (1, [.null, .null, .ref aFs, .ref aFf, .ref aFt, .ref aFn, .ref aFd, .int 0, .int 0, .int 0, .int 0, .int 0, .int 0, .int 0])), (aFs, .inl (cA, 24, .inl (fun _ => 0))), (aFf, .inl (cA, 24, .inl (fun _ => 0))), (aFt, .inl (cA, 24, .inl (fun _ => 0))), (aFn, .inl (cA, 24, .inl (fun _ => 0))), (aFd, .inl (cA, 24, .inl (fun _ => 0)))] := hD
  refine lv_aload_n hx hb qd_F_init_49 rfl (lv_at hl 0 rfl) ?_
  refine lv_iconst (v := 0) hx hb qd_F_init_50 (by decide) ?_
  refine va_put (D := (dC, dI)) (ci := 1) (v := .int 0) (ty := .int) (C := qR_F) (T := qT_F) (N := 14) hx hb hg qi_F qt_F qk_F qn_F hown hK hP hD hS 0 rfl rfl 8 (by decide) (hg _ mw_99) (fun _ h9 => h9) rfl (by decide +kernel) rfl rfl (Nat.le_of_ble_eq_true rfl) qd_F_init_51 (fun H locs hP hD hS => ?_)
  have hP : va_P (dC, dI) vwCl [(aF, .inr (1, [.null, .null, .ref aFs, .ref aFf, .ref aFt, .ref aFn, .ref aFd, .int 0, .int 0, .int 0, .int 0, .int 0, .int 0, .int 0])), (aFs, .inl (cA, 24, .inl (fun _ => 0))), (aFf, .inl (cA, 24, .inl (fun _ => 0))), (aFt, .inl (cA, 24, .inl (fun _ => 0))), (aFn, .inl (cA, 24, .inl (fun _ => 0))), (aFd, .inl (cA, 24, .inl (fun _ => 0)))] H := hP
  have hD : va_D A [(aF, .inr (1, [.null, .null, .ref aFs, .ref aFf, .ref aFt, .ref aFn, .ref aFd, .int 0, .int 0, .int 0, .int 0, .int 0, .int 0, .int 0])), (aFs, .inl (cA, 24, .inl (fun _ => 0))), (aFf, .inl (cA, 24, .inl (fun _ => 0))), (aFt, .inl (cA, 24, .inl (fun _ => 0))), (aFn, .inl (cA, 24, .inl (fun _ => 0))), (aFd, .inl (cA, 24, .inl (fun _ => 0)))] := hD
  refine lv_aload_n hx hb qd_F_init_54 rfl (lv_at hl 0 rfl) ?_
  refine lv_iconst (v := 0) hx hb qd_F_init_55 (by decide) ?_
  refine va_put (D := (dC, dI)) (ci := 1) (v := .int 0) (ty := .int) (C := qR_F) (T := qT_F) (N := 14) hx hb hg qi_F qt_F qk_F qn_F hown hK hP hD hS 0 rfl rfl 9 (by decide) (hg _ mw_100) (fun _ h9 => h9) rfl (by decide +kernel) rfl rfl (Nat.le_of_ble_eq_true rfl) qd_F_init_56 (fun H locs hP hD hS => ?_)
  have hP : va_P (dC, dI) vwCl [(aF, .inr (1, [.null, .null, .ref aFs, .ref aFf, .ref aFt, .ref aFn, .ref aFd, .int 0, .int 0, .int 0, .int 0, .int 0, .int 0, .int 0])), (aFs, .inl (cA, 24, .inl (fun _ => 0))), (aFf, .inl (cA, 24, .inl (fun _ => 0))), (aFt, .inl (cA, 24, .inl (fun _ => 0))), (aFn, .inl (cA, 24, .inl (fun _ => 0))), (aFd, .inl (cA, 24, .inl (fun _ => 0)))] H := hP
  have hD : va_D A [(aF, .inr (1, [.null, .null, .ref aFs, .ref aFf, .ref aFt, .ref aFn, .ref aFd, .int 0, .int 0, .int 0, .int 0, .int 0, .int 0, .int 0])), (aFs, .inl (cA, 24, .inl (fun _ => 0))), (aFf, .inl (cA, 24, .inl (fun _ => 0))), (aFt, .inl (cA, 24, .inl (fun _ => 0))), (aFn, .inl (cA, 24, .inl (fun _ => 0))), (aFd, .inl (cA, 24, .inl (fun _ => 0)))] := hD
  refine lv_aload_n hx hb qd_F_init_59 rfl (lv_at hl 0 rfl) ?_
  refine lv_iconst (v := (-1)) hx hb qd_F_init_60 (by decide) ?_
  refine va_put (D := (dC, dI)) (ci := 1) (v := .int (-1)) (ty := .int) (C := qR_F) (T := qT_F) (N := 14) hx hb hg qi_F qt_F qk_F qn_F hown hK hP hD hS 0 rfl rfl 10 (by decide) (hg _ mw_101) (fun _ h9 => h9) rfl (by decide +kernel) rfl rfl (Nat.le_of_ble_eq_true rfl) qd_F_init_61 (fun H locs hP hD hS => ?_)
  have hP : va_P (dC, dI) vwCl [(aF, .inr (1, [.null, .null, .ref aFs, .ref aFf, .ref aFt, .ref aFn, .ref aFd, .int 0, .int 0, .int 0, .int (-1), .int 0, .int 0, .int 0])), (aFs, .inl (cA, 24, .inl (fun _ => 0))), (aFf, .inl (cA, 24, .inl (fun _ => 0))), (aFt, .inl (cA, 24, .inl (fun _ => 0))), (aFn, .inl (cA, 24, .inl (fun _ => 0))), (aFd, .inl (cA, 24, .inl (fun _ => 0)))] H := hP
  have hD : va_D A [(aF, .inr (1, [.null, .null, .ref aFs, .ref aFf, .ref aFt, .ref aFn, .ref aFd, .int 0, .int 0, .int 0, .int (-1), .int 0, .int 0, .int 0])), (aFs, .inl (cA, 24, .inl (fun _ => 0))), (aFf, .inl (cA, 24, .inl (fun _ => 0))), (aFt, .inl (cA, 24, .inl (fun _ => 0))), (aFn, .inl (cA, 24, .inl (fun _ => 0))), (aFd, .inl (cA, 24, .inl (fun _ => 0)))] := hD
  refine lv_aload_n hx hb qd_F_init_64 rfl (lv_at hl 0 rfl) ?_
  refine lv_iconst (v := (-1)) hx hb qd_F_init_65 (by decide) ?_
  refine va_put (D := (dC, dI)) (ci := 1) (v := .int (-1)) (ty := .int) (C := qR_F) (T := qT_F) (N := 14) hx hb hg qi_F qt_F qk_F qn_F hown hK hP hD hS 0 rfl rfl 11 (by decide) (hg _ mw_102) (fun _ h9 => h9) rfl (by decide +kernel) rfl rfl (Nat.le_of_ble_eq_true rfl) qd_F_init_66 (fun H locs hP hD hS => ?_)
  have hP : va_P (dC, dI) vwCl [(aF, .inr (1, [.null, .null, .ref aFs, .ref aFf, .ref aFt, .ref aFn, .ref aFd, .int 0, .int 0, .int 0, .int (-1), .int (-1), .int 0, .int 0])), (aFs, .inl (cA, 24, .inl (fun _ => 0))), (aFf, .inl (cA, 24, .inl (fun _ => 0))), (aFt, .inl (cA, 24, .inl (fun _ => 0))), (aFn, .inl (cA, 24, .inl (fun _ => 0))), (aFd, .inl (cA, 24, .inl (fun _ => 0)))] H := hP
  have hD : va_D A [(aF, .inr (1, [.null, .null, .ref aFs, .ref aFf, .ref aFt, .ref aFn, .ref aFd, .int 0, .int 0, .int 0, .int (-1), .int (-1), .int 0, .int 0])), (aFs, .inl (cA, 24, .inl (fun _ => 0))), (aFf, .inl (cA, 24, .inl (fun _ => 0))), (aFt, .inl (cA, 24, .inl (fun _ => 0))), (aFn, .inl (cA, 24, .inl (fun _ => 0))), (aFd, .inl (cA, 24, .inl (fun _ => 0)))] := hD
  refine lv_aload_n hx hb qd_F_init_69 rfl (lv_at hl 0 rfl) ?_
  refine lv_iconst (v := 0) hx hb qd_F_init_70 (by decide) ?_
  refine va_put (D := (dC, dI)) (ci := 1) (v := .int 0) (ty := .int) (C := qR_F) (T := qT_F) (N := 14) hx hb hg qi_F qt_F qk_F qn_F hown hK hP hD hS 0 rfl rfl 12 (by decide) (hg _ mw_103) (fun _ h9 => h9) rfl (by decide +kernel) rfl rfl (Nat.le_of_ble_eq_true rfl) qd_F_init_71 (fun H locs hP hD hS => ?_)
  have hP : va_P (dC, dI) vwCl [(aF, .inr (1, [.null, .null, .ref aFs, .ref aFf, .ref aFt, .ref aFn, .ref aFd, .int 0, .int 0, .int 0, .int (-1), .int (-1), .int 0, .int 0])), (aFs, .inl (cA, 24, .inl (fun _ => 0))), (aFf, .inl (cA, 24, .inl (fun _ => 0))), (aFt, .inl (cA, 24, .inl (fun _ => 0))), (aFn, .inl (cA, 24, .inl (fun _ => 0))), (aFd, .inl (cA, 24, .inl (fun _ => 0)))] H := hP
  have hD : va_D A [(aF, .inr (1, [.null, .null, .ref aFs, .ref aFf, .ref aFt, .ref aFn, .ref aFd, .int 0, .int 0, .int 0, .int (-1), .int (-1), .int 0, .int 0])), (aFs, .inl (cA, 24, .inl (fun _ => 0))), (aFf, .inl (cA, 24, .inl (fun _ => 0))), (aFt, .inl (cA, 24, .inl (fun _ => 0))), (aFn, .inl (cA, 24, .inl (fun _ => 0))), (aFd, .inl (cA, 24, .inl (fun _ => 0)))] := hD
  refine lv_aload_n hx hb qd_F_init_74 rfl (lv_at hl 0 rfl) ?_
  refine lv_iconst (v := 0) hx hb qd_F_init_75 (by decide) ?_
  refine va_put (D := (dC, dI)) (ci := 1) (v := .int 0) (ty := .int) (C := qR_F) (T := qT_F) (N := 14) hx hb hg qi_F qt_F qk_F qn_F hown hK hP hD hS 0 rfl rfl 13 (by decide) (hg _ mw_104) (fun _ h9 => h9) rfl (by decide +kernel) rfl rfl (Nat.le_of_ble_eq_true rfl) qd_F_init_76 (fun H locs hP hD hS => ?_)
  have hP : va_P (dC, dI) vwCl [(aF, .inr (1, [.null, .null, .ref aFs, .ref aFf, .ref aFt, .ref aFn, .ref aFd, .int 0, .int 0, .int 0, .int (-1), .int (-1), .int 0, .int 0])), (aFs, .inl (cA, 24, .inl (fun _ => 0))), (aFf, .inl (cA, 24, .inl (fun _ => 0))), (aFt, .inl (cA, 24, .inl (fun _ => 0))), (aFn, .inl (cA, 24, .inl (fun _ => 0))), (aFd, .inl (cA, 24, .inl (fun _ => 0)))] H := hP
  have hD : va_D A [(aF, .inr (1, [.null, .null, .ref aFs, .ref aFf, .ref aFt, .ref aFn, .ref aFd, .int 0, .int 0, .int 0, .int (-1), .int (-1), .int 0, .int 0])), (aFs, .inl (cA, 24, .inl (fun _ => 0))), (aFf, .inl (cA, 24, .inl (fun _ => 0))), (aFt, .inl (cA, 24, .inl (fun _ => 0))), (aFn, .inl (cA, 24, .inl (fun _ => 0))), (aFd, .inl (cA, 24, .inl (fun _ => 0)))] := hD
  refine lv_aload_n hx hb qd_F_init_79 rfl (lv_at hl 0 rfl) ?_
  refine lv_aload_n hx hb qd_F_init_80 rfl (lv_at hl 1 rfl) ?_
  refine va_putF (D := (dC, dI)) (ci := 1) (v := .ref aG) (ty := .object "ForestHouse$Grammar") (C := qR_F) (T := qT_F) (N := 14) hx hb hg qi_F qt_F qk_F qn_F hown hK hP hD hS 0 rfl rfl 0 (by decide) (hg _ mw_91) (fun _ h9 => h9) rfl hin rfl (by decide +kernel) rfl rfl (Nat.le_of_ble_eq_true rfl) qd_F_init_81 (fun H locs hP hD hS => ?_)
  have hP : va_P (dC, dI) vwCl [(aF, .inr (1, [.ref aG, .null, .ref aFs, .ref aFf, .ref aFt, .ref aFn, .ref aFd, .int 0, .int 0, .int 0, .int (-1), .int (-1), .int 0, .int 0])), (aFs, .inl (cA, 24, .inl (fun _ => 0))), (aFf, .inl (cA, 24, .inl (fun _ => 0))), (aFt, .inl (cA, 24, .inl (fun _ => 0))), (aFn, .inl (cA, 24, .inl (fun _ => 0))), (aFd, .inl (cA, 24, .inl (fun _ => 0)))] H := hP
  have hD : va_D A [(aF, .inr (1, [.ref aG, .null, .ref aFs, .ref aFf, .ref aFt, .ref aFn, .ref aFd, .int 0, .int 0, .int 0, .int (-1), .int (-1), .int 0, .int 0])), (aFs, .inl (cA, 24, .inl (fun _ => 0))), (aFf, .inl (cA, 24, .inl (fun _ => 0))), (aFt, .inl (cA, 24, .inl (fun _ => 0))), (aFn, .inl (cA, 24, .inl (fun _ => 0))), (aFd, .inl (cA, 24, .inl (fun _ => 0)))] := hD
  refine lv_aload_n hx hb qd_F_init_84 rfl (lv_at hl 0 rfl) ?_
  refine lv_aload_n hx hb qd_F_init_85 rfl (lv_at hl 2 rfl) ?_
  refine va_putF (D := (dC, dI)) (ci := 1) (v := .ref aC) (ty := .object "ForestHouse$Chart") (C := qR_F) (T := qT_F) (N := 14) hx hb hg qi_F qt_F qk_F qn_F hown hK hP hD hS 0 rfl rfl 1 (by decide) (hg _ mw_92) (fun _ h9 => h9) rfl hin rfl (by decide +kernel) rfl rfl (Nat.le_of_ble_eq_true rfl) qd_F_init_86 (fun H locs hP hD hS => ?_)
  have hP : va_P (dC, dI) vwCl [(aF, .inr (1, [.ref aG, .ref aC, .ref aFs, .ref aFf, .ref aFt, .ref aFn, .ref aFd, .int 0, .int 0, .int 0, .int (-1), .int (-1), .int 0, .int 0])), (aFs, .inl (cA, 24, .inl (fun _ => 0))), (aFf, .inl (cA, 24, .inl (fun _ => 0))), (aFt, .inl (cA, 24, .inl (fun _ => 0))), (aFn, .inl (cA, 24, .inl (fun _ => 0))), (aFd, .inl (cA, 24, .inl (fun _ => 0)))] H := hP
  have hD : va_D A [(aF, .inr (1, [.ref aG, .ref aC, .ref aFs, .ref aFf, .ref aFt, .ref aFn, .ref aFd, .int 0, .int 0, .int 0, .int (-1), .int (-1), .int 0, .int 0])), (aFs, .inl (cA, 24, .inl (fun _ => 0))), (aFf, .inl (cA, 24, .inl (fun _ => 0))), (aFt, .inl (cA, 24, .inl (fun _ => 0))), (aFn, .inl (cA, 24, .inl (fun _ => 0))), (aFd, .inl (cA, 24, .inl (fun _ => 0)))] := hD
  have hP := hP.sub (ws' := [(aF, .inr (1, [.ref aG, .ref aC, .ref aFs, .ref aFf, .ref aFt, .ref aFn, .ref aFd, .int 0, .int 0, .int 0, .int (-1), .int (-1), .int 0, .int 0])), (aFs, .inl (cA, 24, .inl (fun _ => 0))), (aFf, .inl (cA, 24, .inl (fun _ => 0))), (aFt, .inl (cA, 24, .inl (fun _ => 0))), (aFn, .inl (cA, 24, .inl (fun _ => 0))), (aFd, .inl (cA, 24, .inl (fun _ => 0)))]) [0, 1, 2, 3, 4, 5] rfl
  have hD := hD.sub (ws' := [(aF, .inr (1, [.ref aG, .ref aC, .ref aFs, .ref aFf, .ref aFt, .ref aFn, .ref aFd, .int 0, .int 0, .int 0, .int (-1), .int (-1), .int 0, .int 0])), (aFs, .inl (cA, 24, .inl (fun _ => 0))), (aFf, .inl (cA, 24, .inl (fun _ => 0))), (aFt, .inl (cA, 24, .inl (fun _ => 0))), (aFn, .inl (cA, 24, .inl (fun _ => 0))), (aFd, .inl (cA, 24, .inl (fun _ => 0)))]) [0, 1, 2, 3, 4, 5] (by decide) rfl
  exact W.vret hx hb hr (fun t ht hW => ⟨⟨(aFs, aFf, aFt, aFn, aFd), rfl, trivial, ⟨by rw [ht]; exact hP, va_K.moved hW.alike hK, x_N hN hW⟩, hD⟩, hS.F ht⟩) hS.2.2 qd_F_init_89
theorem qd_O_init_0 : decode qc_O_init 0 = .ok (.aload_n 0, 1) := by decide +kernel
theorem qd_O_init_1 : decode qc_O_init 1 = .ok (.invokespecial 3, 3) := by decide +kernel
theorem qd_O_init_4 : decode qc_O_init 4 = .ok (.aload_n 0, 1) := by decide +kernel
theorem qd_O_init_5 : decode qc_O_init 5 = .ok (.sipush 250, 3) := by decide +kernel
theorem qd_O_init_8 : decode qc_O_init 8 = .ok (.newarray .int, 2) := by decide +kernel
theorem qd_O_init_10 : decode qc_O_init 10 = .ok (.putfield 9, 3) := by decide +kernel
theorem qd_O_init_13 : decode qc_O_init 13 = .ok (.aload_n 0, 1) := by decide +kernel
theorem qd_O_init_14 : decode qc_O_init 14 = .ok (.iconst 0, 1) := by decide +kernel
theorem qd_O_init_15 : decode qc_O_init 15 = .ok (.putfield 15, 3) := by decide +kernel
theorem qd_O_init_18 : decode qc_O_init 18 = .ok (.aload_n 0, 1) := by decide +kernel
theorem qd_O_init_19 : decode qc_O_init 19 = .ok (.aload_n 1, 1) := by decide +kernel
theorem qd_O_init_20 : decode qc_O_init 20 = .ok (.putfield 19, 3) := by decide +kernel
theorem qd_O_init_23 : decode qc_O_init 23 = .ok (.aload_n 0, 1) := by decide +kernel
theorem qd_O_init_24 : decode qc_O_init 24 = .ok (.aload_n 2, 1) := by decide +kernel
theorem qd_O_init_25 : decode qc_O_init 25 = .ok (.putfield 23, 3) := by decide +kernel
theorem qd_O_init_28 : decode qc_O_init 28 = .ok (.return_, 1) := by decide +kernel
set_option maxHeartbeats 4000000 in
set_option maxRecDepth 100000 in
theorem c_O_init (l : Launch) (dC : Nat → ClassId) (dI : Nat → Nat → Nat) (cA : ClassId) (aO aG aC : Nat) (sz : Nat) : Met l qy_O_init qw_O_init ({ frames := 1, cells := 1, slots := 250, locals := 12 }) (va_Pc [.ref aO, .ref aG, .ref aC] (fun U => U.heap.size = sz ∧ xP (dC, dI) [(cA, .int)] [(aO, .inr (3, [.null, .null, .null, .int 0]))] nestN U ∧ va_D (fun _ => True) [(aO, .inr (3, [.null, .null, .null, .int 0]))])) (va_Qv (fun _ : Nat => True) (fun u t => xP (dC, dI) [(cA, .int)] [(aO, .inr (3, [.ref aG, .ref aC, .ref u, .int 0])), (u, .inl (cA, 250, .inl (fun _ => 0)))] nestN t ∧ va_D (va_A [(aO, .inr (3, [.null, .null, .null, .int 0]))] sz) [(aO, .inr (3, [.ref aG, .ref aC, .ref u, .int 0])), (u, .inl (cA, 250, .inl (fun _ => 0)))]) (va_A [(aO, .inr (3, [.null, .null, .null, .int 0]))] sz)) 1 250 (va_A [(aO, .inr (3, [.null, .null, .null, .int 0]))] sz) := by
  refine Met.ofW (cc := qc_O_init) (maxL := 3) (ret := none) (by decide) rfl ?_
  intro p e s m args below meth c s₁ B hml hv
  obtain ⟨rfl, hsz, ⟨hP, hK, hN⟩, hD0⟩ := hv
  have hx := B.exec
  have hb := B.bytes
  have hr := B.returns
  have hts := atoms_spec (ws := qw_O_init) B.pre
  have hg : ∀ w ∈ gG, w.before _ s = true := fun w h => hts w (List.mem_cons_of_mem _ h)
  have hown : s.vm.findClass qR_O = some m.cls := findClass_of_methodNamed B.named
  have hlocks := B.notSynchronized
  have hin : meth.name = "<init>" := (name_of_methodNamed B.named B.method).1
  subst hsz
  have hD := hD0.self (sz := s.heap.size)
  generalize hAe : va_A [(aO, .inr (3, [.null, .null, .null, .int 0]))] s.heap.size = A at hD ⊢
  have hA : ∀ q : Nat, s.heap.size ≤ q → A q := fun q h => by rw [← hAe]; exact Or.inr h
  have hS : va_S A s.heap s.heap [] := va_S.rf
  have hP : va_P (dC, dI) vwCl [(aO, .inr (3, [.null, .null, .null, .int 0]))] s.heap := hP
  have hl := lv_entry ([.ref aO, .ref aG, .ref aC]) (n := 3) (Nat.le_of_ble_eq_true rfl)
  rw [lg_entry_eq]
  generalize (lg_sl ([.ref aO, .ref aG, .ref aC]) ++ List.replicate (3 - (lg_sl ([.ref aO, .ref aG, .ref aC])).length) Slot.unset).toArray = ls at hl ⊢
  have hl : lv_has ls 3 [(0, .ref aO), (1, .ref aG), (2, .ref aC)] := hl
  refine lv_aload_n hx hb qd_O_init_0 rfl (lv_at hl 0 rfl) ?_
  refine W.objInit hx hb hown (hg _ mw_124) (hg _ mw_25) (hg _ mw_26) rfl (by rw [hml]; exact hl.1) rfl qd_O_init_1 (Nat.le_of_ble_eq_true rfl) (Nat.le_of_ble_eq_true rfl) ?_
  refine W.eq (g2 := F0 m 4 ls []) rfl ?_
  refine lv_aload_n hx hb qd_O_init_4 rfl (lv_at hl 0 rfl) ?_
  refine lv_sipush (v := 250) hx hb qd_O_init_5 (by decide) ?_
  refine va_newa (atype := .int) (ty := .int) (a0 := (250, .inl (fun _ => 0))) (N' := 250) hx hb (hg _ mw_46) rfl hK hP hD hS hA (fun _ => rfl) (by decide) (by decide) (by decide) (Nat.le_of_ble_eq_true rfl) (Nat.le_of_ble_eq_true rfl) qd_O_init_8 (fun aOn c9 H hK hP hD hS => ?_)
  have e9 := x_cls (i := 0) (j := 1) hK rfl rfl (fun _ h => by cases h)
  subst e9
  have hK : va_K (dC, dI) vwCl [(cA, .int)] s := hK.sub [0] rfl
  have hP : va_P (dC, dI) vwCl [(aO, .inr (3, [.null, .null, .null, .int 0])), (aOn, .inl (cA, 250, .inl (fun _ => 0)))] H := hP
  have hD : va_D A [(aO, .inr (3, [.null, .null, .null, .int 0])), (aOn, .inl (cA, 250, .inl (fun _ => 0)))] := hD
  refine W.widen (k := 1) (n := 250) (by omega) (by omega) ?_
  refine va_putF (D := (dC, dI)) (ci := 3) (v := .ref aOn) (ty := .array .int) (C := qR_O) (T := qT_O) (N := 4) hx hb hg qi_O qt_O qk_O qn_O hown hK hP hD hS 0 rfl rfl 2 (by decide) (hg _ mw_127) (fun _ h9 => h9) rfl hin rfl (by decide +kernel) rfl rfl (Nat.le_of_ble_eq_true rfl) qd_O_init_10 (fun H locs hP hD hS => ?_)
  have hP : va_P (dC, dI) vwCl [(aO, .inr (3, [.null, .null, .ref aOn, .int 0])), (aOn, .inl (cA, 250, .inl (fun _ => 0)))] H := hP
  have hD : va_D A [(aO, .inr (3, [.null, .null, .ref aOn, .int 0])), (aOn, .inl (cA, 250, .inl (fun _ => 0)))] := hD
  refine lv_aload_n hx hb qd_O_init_13 rfl (lv_at hl 0 rfl) ?_
  refine lv_iconst (v := 0) hx hb qd_O_init_14 (by decide) ?_
  refine va_put (D := (dC, dI)) (ci := 3) (v := .int 0) (ty := .int) (C := qR_O) (T := qT_O) (N := 4) hx hb hg qi_O qt_O qk_O qn_O hown hK hP hD hS 0 rfl rfl 3 (by decide) (hg _ mw_128) (fun _ h9 => h9) rfl (by decide +kernel) rfl rfl (Nat.le_of_ble_eq_true rfl) qd_O_init_15 (fun H locs hP hD hS => ?_)
  have hP : va_P (dC, dI) vwCl [(aO, .inr (3, [.null, .null, .ref aOn, .int 0])), (aOn, .inl (cA, 250, .inl (fun _ => 0)))] H := hP
  have hD : va_D A [(aO, .inr (3, [.null, .null, .ref aOn, .int 0])), (aOn, .inl (cA, 250, .inl (fun _ => 0)))] := hD
  refine lv_aload_n hx hb qd_O_init_18 rfl (lv_at hl 0 rfl) ?_
  refine lv_aload_n hx hb qd_O_init_19 rfl (lv_at hl 1 rfl) ?_
  refine va_putF (D := (dC, dI)) (ci := 3) (v := .ref aG) (ty := .object "ForestHouse$Grammar") (C := qR_O) (T := qT_O) (N := 4) hx hb hg qi_O qt_O qk_O qn_O hown hK hP hD hS 0 rfl rfl 0 (by decide) (hg _ mw_125) (fun _ h9 => h9) rfl hin rfl (by decide +kernel) rfl rfl (Nat.le_of_ble_eq_true rfl) qd_O_init_20 (fun H locs hP hD hS => ?_)
  have hP : va_P (dC, dI) vwCl [(aO, .inr (3, [.ref aG, .null, .ref aOn, .int 0])), (aOn, .inl (cA, 250, .inl (fun _ => 0)))] H := hP
  have hD : va_D A [(aO, .inr (3, [.ref aG, .null, .ref aOn, .int 0])), (aOn, .inl (cA, 250, .inl (fun _ => 0)))] := hD
  refine lv_aload_n hx hb qd_O_init_23 rfl (lv_at hl 0 rfl) ?_
  refine lv_aload_n hx hb qd_O_init_24 rfl (lv_at hl 2 rfl) ?_
  refine va_putF (D := (dC, dI)) (ci := 3) (v := .ref aC) (ty := .object "ForestHouse$Chart") (C := qR_O) (T := qT_O) (N := 4) hx hb hg qi_O qt_O qk_O qn_O hown hK hP hD hS 0 rfl rfl 1 (by decide) (hg _ mw_126) (fun _ h9 => h9) rfl hin rfl (by decide +kernel) rfl rfl (Nat.le_of_ble_eq_true rfl) qd_O_init_25 (fun H locs hP hD hS => ?_)
  have hP : va_P (dC, dI) vwCl [(aO, .inr (3, [.ref aG, .ref aC, .ref aOn, .int 0])), (aOn, .inl (cA, 250, .inl (fun _ => 0)))] H := hP
  have hD : va_D A [(aO, .inr (3, [.ref aG, .ref aC, .ref aOn, .int 0])), (aOn, .inl (cA, 250, .inl (fun _ => 0)))] := hD
  have hP := hP.sub (ws' := [(aO, .inr (3, [.ref aG, .ref aC, .ref aOn, .int 0])), (aOn, .inl (cA, 250, .inl (fun _ => 0)))]) [0, 1] rfl
  have hD := hD.sub (ws' := [(aO, .inr (3, [.ref aG, .ref aC, .ref aOn, .int 0])), (aOn, .inl (cA, 250, .inl (fun _ => 0)))]) [0, 1] (by decide) rfl
  exact W.vret hx hb hr (fun t ht hW => ⟨⟨(aOn), rfl, trivial, ⟨by rw [ht]; exact hP, va_K.moved hW.alike hK, x_N hN hW⟩, hD⟩, hS.F ht⟩) hS.2.2 qd_O_init_28
