theorem qd_R_shorten_0 : decode qc_R_shorten 0 = .ok (.iload_n 1, 1) := by decide +kernel
theorem qd_R_shorten_1 : decode qc_R_shorten 1 = .ok (.ifCond .lt 16, 3) := by decide +kernel
theorem qd_R_shorten_4 : decode qc_R_shorten 4 = .ok (.iload_n 1, 1) := by decide +kernel
theorem qd_R_shorten_5 : decode qc_R_shorten 5 = .ok (.aload_n 0, 1) := by decide +kernel
theorem qd_R_shorten_6 : decode qc_R_shorten 6 = .ok (.getfield 15, 3) := by decide +kernel
theorem qd_R_shorten_9 : decode qc_R_shorten 9 = .ok (.if_icmp .ge 8, 3) := by decide +kernel
theorem qd_R_shorten_12 : decode qc_R_shorten 12 = .ok (.aload_n 0, 1) := by decide +kernel
theorem qd_R_shorten_13 : decode qc_R_shorten 13 = .ok (.iload_n 1, 1) := by decide +kernel
theorem qd_R_shorten_14 : decode qc_R_shorten 14 = .ok (.putfield 15, 3) := by decide +kernel
theorem qd_R_shorten_17 : decode qc_R_shorten 17 = .ok (.return_, 1) := by decide +kernel
set_option maxHeartbeats 4000000 in
set_option maxRecDepth 100000 in
theorem c_R_shorten (l : Launch) (dC : Nat → ClassId) (dI : Nat → Nat → Nat) (cA : ClassId) (aR aRt : Nat) (sz : Nat) (vRL : Int32) (p0 : Int32) : Met l qy_R_shorten qw_R_shorten ({ frames := 0, cells := 0, slots := 0, locals := 0 }) (va_Pc [.ref aR, .int p0] (fun U => U.heap.size = sz ∧ xP (dC, dI) [(cA, .int)] [(aR, .inr (4, [.ref aRt, .int vRL]))] nestN U ∧ va_D (fun _ => True) [(aR, .inr (4, [.ref aRt, .int vRL]))])) (va_Qv (fun u => u = f_R_shorten vRL p0) (fun (u : Int32) t => xP (dC, dI) [(cA, .int)] [(aR, .inr (4, [.ref aRt, .int u]))] nestN t ∧ va_D (va_A [(aR, .inr (4, [.ref aRt, .int vRL]))] sz) [(aR, .inr (4, [.ref aRt, .int u]))]) (va_A [(aR, .inr (4, [.ref aRt, .int vRL]))] sz)) 0 0 (va_A [(aR, .inr (4, [.ref aRt, .int vRL]))] sz) := by
  refine Met.ofW (cc := qc_R_shorten) (maxL := 2) (ret := (none)) (by decide) rfl ?_
  intro p e s m args below meth c s₁ B hml hv
  obtain ⟨rfl, hsz, ⟨hP, hK, hN⟩, hD0⟩ := hv
  have hx := B.exec
  have hb := B.bytes
  have hr := B.returns
  have hts := atoms_spec (ws := qw_R_shorten) B.pre
  have hg : ∀ w ∈ gG, w.before _ s = true := fun w h => hts w (List.mem_cons_of_mem _ h)
  have hown : s.vm.findClass qR_R = some m.cls := findClass_of_methodNamed B.named
  have hlocks := B.notSynchronized
  subst hsz
  have hD := hD0.self (sz := s.heap.size)
  generalize hAe : va_A [(aR, .inr (4, [.ref aRt, .int vRL]))] s.heap.size = A at hD ⊢
  have hA : ∀ q : Nat, s.heap.size ≤ q → A q := fun q h => by rw [← hAe]; exact Or.inr h
  have hS : va_S A s.heap s.heap [] := va_S.rf
  have hP : va_P (dC, dI) vwCl [(aR, .inr (4, [.ref aRt, .int vRL]))] s.heap := hP
  have hl := lv_entry ([.ref aR, .int p0]) (n := 2) (Nat.le_of_ble_eq_true rfl)
  rw [lg_entry_eq]
  generalize (lg_sl ([.ref aR, .int p0]) ++ List.replicate (2 - (lg_sl ([.ref aR, .int p0])).length) Slot.unset).toArray = ls at hl ⊢
  have hl : lv_has ls 2 [(0, .ref aR), (1, .int p0)] := hl
  generalize hF : f_R_shorten vRL p0 = Fv
  have hres : Fv = f_R_shorten vRL p0 := hF.symm
  unfold f_R_shorten at hres
  refine lv_iload_n hx hb qd_R_shorten_0 rfl (lv_at hl 1 rfl) ?_
  refine lv_if_lt (tgt := 17) hx hb qd_R_shorten_1 (by decide) (fun c_1 => ?_) (fun c_1 => ?_)
  · have hres := hres.trans (if_pos c_1)
    exact W.vret hx hb hr (fun t ht hW => ⟨⟨vRL, rfl, hres.symm, ⟨by rw [ht]; exact hP, va_K.moved hW.alike hK, x_N hN hW⟩, hD⟩, hS.F ht⟩) hS.2.2 qd_R_shorten_17
  have hres := hres.trans (if_neg c_1)
  refine lv_iload_n hx hb qd_R_shorten_4 rfl (lv_at hl 1 rfl) ?_
  refine lv_aload_n hx hb qd_R_shorten_5 rfl (lv_at hl 0 rfl) ?_
  refine va_get (D := (dC, dI)) (ci := 4) (v := .int vRL) (C := qR_R) (T := qT_R) (N := 2) hx hb hg qi_R hown hK hP 0 rfl rfl 1 (by decide) (hg _ mw_53) (fun _ h9 => h9) rfl qd_R_shorten_6 ?_
  refine lv_icmp_ge (tgt := 17) hx hb qd_R_shorten_9 (by decide) (fun c_9 => ?_) (fun c_9 => ?_)
  · have hres := hres.trans (if_pos c_9)
    exact W.vret hx hb hr (fun t ht hW => ⟨⟨vRL, rfl, hres.symm, ⟨by rw [ht]; exact hP, va_K.moved hW.alike hK, x_N hN hW⟩, hD⟩, hS.F ht⟩) hS.2.2 qd_R_shorten_17
  have hres := hres.trans (if_neg c_9)
  refine lv_aload_n hx hb qd_R_shorten_12 rfl (lv_at hl 0 rfl) ?_
  refine lv_iload_n hx hb qd_R_shorten_13 rfl (lv_at hl 1 rfl) ?_
  refine va_put (D := (dC, dI)) (ci := 4) (v := .int p0) (ty := .int) (C := qR_R) (T := qT_R) (N := 2) hx hb hg qi_R qt_R qk_R qn_R hown hK hP hD hS 0 rfl rfl 1 (by decide) (hg _ mw_53) (fun _ h9 => h9) rfl (by decide +kernel) rfl rfl (Nat.le_of_ble_eq_true rfl) qd_R_shorten_14 (fun H locs hP hD hS => ?_)
  have hP : va_P (dC, dI) vwCl [(aR, .inr (4, [.ref aRt, .int p0]))] H := hP
  have hD : va_D A [(aR, .inr (4, [.ref aRt, .int p0]))] := hD
  exact W.vret hx hb hr (fun t ht hW => ⟨⟨p0, rfl, hres.symm, ⟨by rw [ht]; exact hP, va_K.moved hW.alike hK, x_N hN hW⟩, hD⟩, hS.F ht⟩) hS.2.2 qd_R_shorten_17
theorem qd_R_token_0 : decode qc_R_token 0 = .ok (.iload_n 1, 1) := by decide +kernel
theorem qd_R_token_1 : decode qc_R_token 1 = .ok (.ifCond .lt 26, 3) := by decide +kernel
theorem qd_R_token_4 : decode qc_R_token 4 = .ok (.iload_n 1, 1) := by decide +kernel
theorem qd_R_token_5 : decode qc_R_token 5 = .ok (.aload_n 0, 1) := by decide +kernel
theorem qd_R_token_6 : decode qc_R_token 6 = .ok (.getfield 15, 3) := by decide +kernel
theorem qd_R_token_9 : decode qc_R_token 9 = .ok (.if_icmp .ge 18, 3) := by decide +kernel
theorem qd_R_token_12 : decode qc_R_token 12 = .ok (.iload_n 1, 1) := by decide +kernel
theorem qd_R_token_13 : decode qc_R_token 13 = .ok (.bipush 24, 2) := by decide +kernel
theorem qd_R_token_15 : decode qc_R_token 15 = .ok (.if_icmp .ge 12, 3) := by decide +kernel
theorem qd_R_token_18 : decode qc_R_token 18 = .ok (.aload_n 0, 1) := by decide +kernel
theorem qd_R_token_19 : decode qc_R_token 19 = .ok (.getfield 9, 3) := by decide +kernel
theorem qd_R_token_22 : decode qc_R_token 22 = .ok (.iload_n 1, 1) := by decide +kernel
theorem qd_R_token_23 : decode qc_R_token 23 = .ok (.iaload, 1) := by decide +kernel
theorem qd_R_token_24 : decode qc_R_token 24 = .ok (.goto 4, 3) := by decide +kernel
theorem qd_R_token_27 : decode qc_R_token 27 = .ok (.iconst (-1), 1) := by decide +kernel
theorem qd_R_token_28 : decode qc_R_token 28 = .ok (.ireturn, 1) := by decide +kernel
set_option maxHeartbeats 4000000 in
set_option maxRecDepth 100000 in
theorem c_R_token (l : Launch) (dC : Nat → ClassId) (dI : Nat → Nat → Nat) (cA : ClassId) (aR aRt : Nat) (vRL : Int32) (vRt : (Nat → Int32)) (p0 : Int32) (ho : o_R_token vRL vRt p0) : Met l qy_R_token qw_R_token ({ frames := 0, cells := 0, slots := 0, locals := 0 }) (va_Pc [.ref aR, .int p0] (xP (dC, dI) [(cA, .int)] [(aR, .inr (4, [.ref aRt, .int vRL])), (aRt, .inl (cA, 24, .inl (vRt)))] nestN)) (vp_Si (fun r => r = f_R_token vRL vRt p0)) 0 0 (fun _ => False) := by
  refine Met.ofW (cc := qc_R_token) (maxL := 2) (ret := (some .int)) (by decide) rfl ?_
  intro p e s m args below meth c s₁ B hml hv
  obtain ⟨rfl, hP, hK, hN⟩ := hv
  have hx := B.exec
  have hb := B.bytes
  have hr := B.returns
  have hts := atoms_spec (ws := qw_R_token) B.pre
  have hg : ∀ w ∈ gG, w.before _ s = true := fun w h => hts w (List.mem_cons_of_mem _ h)
  have hown : s.vm.findClass qR_R = some m.cls := findClass_of_methodNamed B.named
  have hlocks := B.notSynchronized
  have hP : va_P (dC, dI) vwCl [(aR, .inr (4, [.ref aRt, .int vRL])), (aRt, .inl (cA, 24, .inl (vRt)))] s.heap := hP
  have hl := lv_entry ([.ref aR, .int p0]) (n := 2) (Nat.le_of_ble_eq_true rfl)
  rw [lg_entry_eq]
  generalize (lg_sl ([.ref aR, .int p0]) ++ List.replicate (2 - (lg_sl ([.ref aR, .int p0])).length) Slot.unset).toArray = ls at hl ⊢
  have hl : lv_has ls 2 [(0, .ref aR), (1, .int p0)] := hl
  generalize hF : f_R_token vRL vRt p0 = Fv
  have hres : Fv = f_R_token vRL vRt p0 := hF.symm
  unfold f_R_token at hres
  unfold o_R_token at ho
  refine lv_iload_n hx hb qd_R_token_0 rfl (lv_at hl 1 rfl) ?_
  refine lv_if_lt (tgt := 27) hx hb qd_R_token_1 (by decide) (fun c_1 => ?_) (fun c_1 => ?_)
  · have hres := hres.trans (if_pos c_1)
    have ho := (if_pos c_1).mp ho
    refine lv_iconst (v := (-1)) hx hb qd_R_token_27 (by decide) ?_
    exact W.iret (v := (-1)) hx hb hr (fun t ht hW => ⟨_, rfl, hres.symm, ht⟩) (fun _ h => nomatch h) qd_R_token_28
  have hres := hres.trans (if_neg c_1)
  have ho := (if_neg c_1).mp ho
  refine lv_iload_n hx hb qd_R_token_4 rfl (lv_at hl 1 rfl) ?_
  refine lv_aload_n hx hb qd_R_token_5 rfl (lv_at hl 0 rfl) ?_
  refine va_get (D := (dC, dI)) (ci := 4) (v := .int vRL) (C := qR_R) (T := qT_R) (N := 2) hx hb hg qi_R hown hK hP 0 rfl rfl 1 (by decide) (hg _ mw_53) (fun _ h9 => h9) rfl qd_R_token_6 ?_
  refine lv_icmp_ge (tgt := 27) hx hb qd_R_token_9 (by decide) (fun c_9 => ?_) (fun c_9 => ?_)
  · have hres := hres.trans (if_pos c_9)
    have ho := (if_pos c_9).mp ho
    refine lv_iconst (v := (-1)) hx hb qd_R_token_27 (by decide) ?_
    exact W.iret (v := (-1)) hx hb hr (fun t ht hW => ⟨_, rfl, hres.symm, ht⟩) (fun _ h => nomatch h) qd_R_token_28
  have hres := hres.trans (if_neg c_9)
  have ho := (if_neg c_9).mp ho
  refine lv_iload_n hx hb qd_R_token_12 rfl (lv_at hl 1 rfl) ?_
  refine lv_bipush (v := 24) hx hb qd_R_token_13 (by decide) ?_
  refine lv_icmp_ge (tgt := 27) hx hb qd_R_token_15 (by decide) (fun c_15 => ?_) (fun c_15 => ?_)
  · have hres := hres.trans (if_pos c_15)
    have ho := (if_pos c_15).mp ho
    refine lv_iconst (v := (-1)) hx hb qd_R_token_27 (by decide) ?_
    exact W.iret (v := (-1)) hx hb hr (fun t ht hW => ⟨_, rfl, hres.symm, ht⟩) (fun _ h => nomatch h) qd_R_token_28
  have hres := hres.trans (if_neg c_15)
  have ho := (if_neg c_15).mp ho
  refine lv_aload_n hx hb qd_R_token_18 rfl (lv_at hl 0 rfl) ?_
  refine va_get (D := (dC, dI)) (ci := 4) (v := .ref aRt) (C := qR_R) (T := qT_R) (N := 2) hx hb hg qi_R hown hK hP 0 rfl rfl 0 (by decide) (hg _ mw_52) (fun _ h9 => h9) rfl qd_R_token_19 ?_
  refine lv_iload_n hx hb qd_R_token_22 rfl (lv_at hl 1 rfl) ?_
  obtain ⟨g_23, ho⟩ := ho
  refine va_iald hx hb hK hP 1 0 rfl rfl g_23 qd_R_token_23 ?_
  refine lv_goto (tgt := 28) hx hb qd_R_token_24 (by decide) ?_
  exact W.iret (v := vRt p0.toNatClampNeg) hx hb hr (fun t ht hW => ⟨_, rfl, hres.symm, ht⟩) (fun _ h => nomatch h) qd_R_token_28
theorem qd_R_length_0 : decode qc_R_length 0 = .ok (.aload_n 0, 1) := by decide +kernel
theorem qd_R_length_1 : decode qc_R_length 1 = .ok (.getfield 15, 3) := by decide +kernel
theorem qd_R_length_4 : decode qc_R_length 4 = .ok (.ireturn, 1) := by decide +kernel
set_option maxHeartbeats 4000000 in
set_option maxRecDepth 100000 in
theorem c_R_length (l : Launch) (dC : Nat → ClassId) (dI : Nat → Nat → Nat) (cA : ClassId) (aR aRt : Nat) (vRL : Int32) : Met l qy_R_length qw_R_length ({ frames := 0, cells := 0, slots := 0, locals := 0 }) (va_Pc [.ref aR] (xP (dC, dI) [(cA, .int)] [(aR, .inr (4, [.ref aRt, .int vRL]))] nestN)) (vp_Si (fun r => r = f_R_length vRL)) 0 0 (fun _ => False) := by
  refine Met.ofW (cc := qc_R_length) (maxL := 1) (ret := (some .int)) (by decide) rfl ?_
  intro p e s m args below meth c s₁ B hml hv
  obtain ⟨rfl, hP, hK, hN⟩ := hv
  have hx := B.exec
  have hb := B.bytes
  have hr := B.returns
  have hts := atoms_spec (ws := qw_R_length) B.pre
  have hg : ∀ w ∈ gG, w.before _ s = true := fun w h => hts w (List.mem_cons_of_mem _ h)
  have hown : s.vm.findClass qR_R = some m.cls := findClass_of_methodNamed B.named
  have hlocks := B.notSynchronized
  have hP : va_P (dC, dI) vwCl [(aR, .inr (4, [.ref aRt, .int vRL]))] s.heap := hP
  have hl := lv_entry ([.ref aR]) (n := 1) (Nat.le_of_ble_eq_true rfl)
  rw [lg_entry_eq]
  generalize (lg_sl ([.ref aR]) ++ List.replicate (1 - (lg_sl ([.ref aR])).length) Slot.unset).toArray = ls at hl ⊢
  have hl : lv_has ls 1 [(0, .ref aR)] := hl
  generalize hF : f_R_length vRL = Fv
  have hres : Fv = f_R_length vRL := hF.symm
  unfold f_R_length at hres
  refine lv_aload_n hx hb qd_R_length_0 rfl (lv_at hl 0 rfl) ?_
  refine va_get (D := (dC, dI)) (ci := 4) (v := .int vRL) (C := qR_R) (T := qT_R) (N := 2) hx hb hg qi_R hown hK hP 0 rfl rfl 1 (by decide) (hg _ mw_53) (fun _ h9 => h9) rfl qd_R_length_1 ?_
  exact W.iret (v := vRL) hx hb hr (fun t ht hW => ⟨_, rfl, hres.symm, ht⟩) (fun _ h => nomatch h) qd_R_length_4
theorem qd_R_isFull_0 : decode qc_R_isFull 0 = .ok (.aload_n 0, 1) := by decide +kernel
theorem qd_R_isFull_1 : decode qc_R_isFull 1 = .ok (.getfield 15, 3) := by decide +kernel
theorem qd_R_isFull_4 : decode qc_R_isFull 4 = .ok (.bipush 24, 2) := by decide +kernel
theorem qd_R_isFull_6 : decode qc_R_isFull 6 = .ok (.if_icmp .lt 7, 3) := by decide +kernel
theorem qd_R_isFull_9 : decode qc_R_isFull 9 = .ok (.iconst 1, 1) := by decide +kernel
theorem qd_R_isFull_10 : decode qc_R_isFull 10 = .ok (.goto 4, 3) := by decide +kernel
theorem qd_R_isFull_13 : decode qc_R_isFull 13 = .ok (.iconst 0, 1) := by decide +kernel
theorem qd_R_isFull_14 : decode qc_R_isFull 14 = .ok (.ireturn, 1) := by decide +kernel
set_option maxHeartbeats 4000000 in
set_option maxRecDepth 100000 in
theorem c_R_isFull (l : Launch) (dC : Nat → ClassId) (dI : Nat → Nat → Nat) (cA : ClassId) (aR aRt : Nat) (vRL : Int32) : Met l qy_R_isFull qw_R_isFull ({ frames := 0, cells := 0, slots := 0, locals := 0 }) (va_Pc [.ref aR] (xP (dC, dI) [(cA, .int)] [(aR, .inr (4, [.ref aRt, .int vRL]))] nestN)) (vp_Si (fun r => r = f_R_isFull vRL)) 0 0 (fun _ => False) := by
  refine Met.ofW (cc := qc_R_isFull) (maxL := 1) (ret := (some .boolean)) (by decide) rfl ?_
  intro p e s m args below meth c s₁ B hml hv
  obtain ⟨rfl, hP, hK, hN⟩ := hv
  have hx := B.exec
  have hb := B.bytes
  have hr := B.returns
  have hts := atoms_spec (ws := qw_R_isFull) B.pre
  have hg : ∀ w ∈ gG, w.before _ s = true := fun w h => hts w (List.mem_cons_of_mem _ h)
  have hown : s.vm.findClass qR_R = some m.cls := findClass_of_methodNamed B.named
  have hlocks := B.notSynchronized
  have hP : va_P (dC, dI) vwCl [(aR, .inr (4, [.ref aRt, .int vRL]))] s.heap := hP
  have hl := lv_entry ([.ref aR]) (n := 1) (Nat.le_of_ble_eq_true rfl)
  rw [lg_entry_eq]
  generalize (lg_sl ([.ref aR]) ++ List.replicate (1 - (lg_sl ([.ref aR])).length) Slot.unset).toArray = ls at hl ⊢
  have hl : lv_has ls 1 [(0, .ref aR)] := hl
  generalize hF : f_R_isFull vRL = Fv
  have hres : Fv = f_R_isFull vRL := hF.symm
  unfold f_R_isFull at hres
  refine lv_aload_n hx hb qd_R_isFull_0 rfl (lv_at hl 0 rfl) ?_
  refine va_get (D := (dC, dI)) (ci := 4) (v := .int vRL) (C := qR_R) (T := qT_R) (N := 2) hx hb hg qi_R hown hK hP 0 rfl rfl 1 (by decide) (hg _ mw_53) (fun _ h9 => h9) rfl qd_R_isFull_1 ?_
  refine lv_bipush (v := 24) hx hb qd_R_isFull_4 (by decide) ?_
  refine lv_icmp_lt (tgt := 13) hx hb qd_R_isFull_6 (by decide) (fun c_6 => ?_) (fun c_6 => ?_)
  · have hres := hres.trans (if_pos c_6)
    refine lv_iconst (v := 0) hx hb qd_R_isFull_13 (by decide) ?_
    exact W.zret (v := 0) (ty := .boolean) hx hb hr (by decide) (fun t ht hW => ⟨_, rfl, hres.symm, ht⟩) (fun _ h => nomatch h) qd_R_isFull_14
  have hres := hres.trans (if_neg c_6)
  refine lv_iconst (v := 1) hx hb qd_R_isFull_9 (by decide) ?_
  refine lv_goto (tgt := 14) hx hb qd_R_isFull_10 (by decide) ?_
  exact W.zret (v := 1) (ty := .boolean) hx hb hr (by decide) (fun t ht hW => ⟨_, rfl, hres.symm, ht⟩) (fun _ h => nomatch h) qd_R_isFull_14
theorem qd_R_lengthen_0 : decode qc_R_lengthen 0 = .ok (.aload_n 0, 1) := by decide +kernel
theorem qd_R_lengthen_1 : decode qc_R_lengthen 1 = .ok (.invokevirtual 19, 3) := by decide +kernel
theorem qd_R_lengthen_4 : decode qc_R_lengthen 4 = .ok (.ifCond .ne 23, 3) := by decide +kernel
theorem qd_R_lengthen_7 : decode qc_R_lengthen 7 = .ok (.aload_n 0, 1) := by decide +kernel
theorem qd_R_lengthen_8 : decode qc_R_lengthen 8 = .ok (.getfield 9, 3) := by decide +kernel
theorem qd_R_lengthen_11 : decode qc_R_lengthen 11 = .ok (.aload_n 0, 1) := by decide +kernel
theorem qd_R_lengthen_12 : decode qc_R_lengthen 12 = .ok (.getfield 15, 3) := by decide +kernel
theorem qd_R_lengthen_15 : decode qc_R_lengthen 15 = .ok (.iload_n 1, 1) := by decide +kernel
theorem qd_R_lengthen_16 : decode qc_R_lengthen 16 = .ok (.iastore, 1) := by decide +kernel
theorem qd_R_lengthen_17 : decode qc_R_lengthen 17 = .ok (.aload_n 0, 1) := by decide +kernel
theorem qd_R_lengthen_18 : decode qc_R_lengthen 18 = .ok (.dup, 1) := by decide +kernel
theorem qd_R_lengthen_19 : decode qc_R_lengthen 19 = .ok (.getfield 15, 3) := by decide +kernel
theorem qd_R_lengthen_22 : decode qc_R_lengthen 22 = .ok (.iconst 1, 1) := by decide +kernel
theorem qd_R_lengthen_23 : decode qc_R_lengthen 23 = .ok (.iadd, 1) := by decide +kernel
theorem qd_R_lengthen_24 : decode qc_R_lengthen 24 = .ok (.putfield 15, 3) := by decide +kernel
theorem qd_R_lengthen_27 : decode qc_R_lengthen 27 = .ok (.aload_n 0, 1) := by decide +kernel
theorem qd_R_lengthen_28 : decode qc_R_lengthen 28 = .ok (.getfield 15, 3) := by decide +kernel
theorem qd_R_lengthen_31 : decode qc_R_lengthen 31 = .ok (.ireturn, 1) := by decide +kernel
set_option maxHeartbeats 4000000 in
set_option maxRecDepth 100000 in
theorem c_R_lengthen (l : Launch) (dC : Nat → ClassId) (dI : Nat → Nat → Nat) (cA : ClassId) (aR aRt : Nat) (sz : Nat) (vRL : Int32) (vRt : (Nat → Int32)) (p0 : Int32) (ho : o_R_lengthen vRL vRt p0) : Met l qy_R_lengthen qw_R_lengthen ({ frames := 1, cells := 0, slots := 0, locals := 20 }) (va_Pc [.ref aR, .int p0] (fun U => U.heap.size = sz ∧ xP (dC, dI) [(cA, .int)] [(aR, .inr (4, [.ref aRt, .int vRL])), (aRt, .inl (cA, 24, .inl (vRt)))] nestN U ∧ va_D (fun _ => True) [(aR, .inr (4, [.ref aRt, .int vRL])), (aRt, .inl (cA, 24, .inl (vRt)))])) (va_Qi (fun r (u : Int32 × Int32 × (Nat → Int32)) => u = f_R_lengthen vRL vRt p0 ∧ r = u.1) (fun (u : Int32 × Int32 × (Nat → Int32)) t => xP (dC, dI) [(cA, .int)] [(aR, .inr (4, [.ref aRt, .int u.2.1])), (aRt, .inl (cA, 24, .inl (u.2.2)))] nestN t ∧ va_D (va_A [(aR, .inr (4, [.ref aRt, .int vRL])), (aRt, .inl (cA, 24, .inl (vRt)))] sz) [(aR, .inr (4, [.ref aRt, .int u.2.1])), (aRt, .inl (cA, 24, .inl (u.2.2)))]) (va_A [(aR, .inr (4, [.ref aRt, .int vRL])), (aRt, .inl (cA, 24, .inl (vRt)))] sz)) 0 0 (va_A [(aR, .inr (4, [.ref aRt, .int vRL])), (aRt, .inl (cA, 24, .inl (vRt)))] sz) := by
  refine Met.ofW (cc := qc_R_lengthen) (maxL := 2) (ret := (some .int)) (by decide) rfl ?_
  intro p e s m args below meth c s₁ B hml hv
  obtain ⟨rfl, hsz, ⟨hP, hK, hN⟩, hD0⟩ := hv
  have hx := B.exec
  have hb := B.bytes
  have hr := B.returns
  have hts := atoms_spec (ws := qw_R_lengthen) B.pre
  have hg : ∀ w ∈ gG, w.before _ s = true := fun w h => hts w (List.mem_cons_of_mem _ h)
  have hown : s.vm.findClass qR_R = some m.cls := findClass_of_methodNamed B.named
  have hlocks := B.notSynchronized
  subst hsz
  have hD := hD0.self (sz := s.heap.size)
  generalize hAe : va_A [(aR, .inr (4, [.ref aRt, .int vRL])), (aRt, .inl (cA, 24, .inl (vRt)))] s.heap.size = A at hD ⊢
  have hA : ∀ q : Nat, s.heap.size ≤ q → A q := fun q h => by rw [← hAe]; exact Or.inr h
  have hS : va_S A s.heap s.heap [] := va_S.rf
  have hP : va_P (dC, dI) vwCl [(aR, .inr (4, [.ref aRt, .int vRL])), (aRt, .inl (cA, 24, .inl (vRt)))] s.heap := hP
  have hl := lv_entry ([.ref aR, .int p0]) (n := 2) (Nat.le_of_ble_eq_true rfl)
  rw [lg_entry_eq]
  generalize (lg_sl ([.ref aR, .int p0]) ++ List.replicate (2 - (lg_sl ([.ref aR, .int p0])).length) Slot.unset).toArray = ls at hl ⊢
  have hl : lv_has ls 2 [(0, .ref aR), (1, .int p0)] := hl
  generalize hF : f_R_lengthen vRL vRt p0 = Fv
  have hres : Fv = f_R_lengthen vRL vRt p0 := hF.symm
  unfold f_R_lengthen at hres
  unfold o_R_lengthen at ho
  refine lv_aload_n hx hb qd_R_lengthen_0 rfl (lv_at hl 0 rfl) ?_
  refine xc_V (As := []) (rest := []) ⟨hx, hb, hml, hown, hg⟩ (c_R_isFull l dC dI cA aR aRt vRL) (cwV 0 hg (q_gV mw_322 mw_315 mw_316 mw_3 mw_317) rfl rfl rfl qh_R_isFull ⟨Nat.le_of_ble_eq_true rfl, Nat.le_of_ble_eq_true rfl⟩) hN hK hP [0] rfl 0 4 rfl rfl rfl hl.1 rfl (Nat.le_of_ble_eq_true rfl) qd_R_lengthen_1 ⟨Nat.zero_le _, Nat.zero_le _⟩ ?_
  refine lv_topi (fun r_1 w_1 => ?_)
  have hres := hres.trans (bd_eq w_1)
  have ho := (bd_eq w_1).mp ho
  refine lv_if_ne (tgt := 27) hx hb qd_R_lengthen_4 (by decide) (fun c_4 => ?_) (fun c_4 => ?_)
  · have hres := hres.trans (if_neg c_4)
    have ho := (if_neg c_4).mp ho
    refine lv_aload_n hx hb qd_R_lengthen_27 rfl (lv_at hl 0 rfl) ?_
    refine va_get (D := (dC, dI)) (ci := 4) (v := .int vRL) (C := qR_R) (T := qT_R) (N := 2) hx hb hg qi_R hown hK hP 0 rfl rfl 1 (by decide) (hg _ mw_53) (fun _ h9 => h9) rfl qd_R_lengthen_28 ?_
    exact W.iret (v := vRL) hx hb hr (fun t ht hW => ⟨⟨_, (vRL, vRL, vRt), rfl, ⟨hres.symm, rfl⟩, ⟨by rw [ht]; exact hP, va_K.moved hW.alike hK, x_N hN hW⟩, hD⟩, hS.F ht⟩) hS.2.2 qd_R_lengthen_31
  have hres := hres.trans (if_pos c_4)
  have ho := (if_pos c_4).mp ho
  refine lv_aload_n hx hb qd_R_lengthen_7 rfl (lv_at hl 0 rfl) ?_
  refine va_get (D := (dC, dI)) (ci := 4) (v := .ref aRt) (C := qR_R) (T := qT_R) (N := 2) hx hb hg qi_R hown hK hP 0 rfl rfl 0 (by decide) (hg _ mw_52) (fun _ h9 => h9) rfl qd_R_lengthen_8 ?_
  refine lv_aload_n hx hb qd_R_lengthen_11 rfl (lv_at hl 0 rfl) ?_
  refine va_get (D := (dC, dI)) (ci := 4) (v := .int vRL) (C := qR_R) (T := qT_R) (N := 2) hx hb hg qi_R hown hK hP 0 rfl rfl 1 (by decide) (hg _ mw_53) (fun _ h9 => h9) rfl qd_R_lengthen_12 ?_
  refine lv_iload_n hx hb qd_R_lengthen_15 rfl (lv_at hl 1 rfl) ?_
  obtain ⟨g_16, ho⟩ := ho
  refine va_iast hx hb hK hP hD hS 1 0 rfl rfl g_16 qd_R_lengthen_16 (fun H locs hP hD hS => ?_)
  have hP : va_P (dC, dI) vwCl [(aR, .inr (4, [.ref aRt, .int vRL])), (aRt, .inl (cA, 24, .inl (upd vRt vRL.toNatClampNeg p0)))] H := hP
  have hD : va_D A [(aR, .inr (4, [.ref aRt, .int vRL])), (aRt, .inl (cA, 24, .inl (upd vRt vRL.toNatClampNeg p0)))] := hD
  refine lv_aload_n hx hb qd_R_lengthen_17 rfl (lv_at hl 0 rfl) ?_
  refine lv_dup hx hb qd_R_lengthen_18 rfl ?_
  refine va_get (D := (dC, dI)) (ci := 4) (v := .int vRL) (C := qR_R) (T := qT_R) (N := 2) hx hb hg qi_R hown hK hP 0 rfl rfl 1 (by decide) (hg _ mw_53) (fun _ h9 => h9) rfl qd_R_lengthen_19 ?_
  refine lv_iconst (v := 1) hx hb qd_R_lengthen_22 (by decide) ?_
  refine lv_iadd hx hb qd_R_lengthen_23 ?_
  refine va_put (D := (dC, dI)) (ci := 4) (v := .int (vRL + 1)) (ty := .int) (C := qR_R) (T := qT_R) (N := 2) hx hb hg qi_R qt_R qk_R qn_R hown hK hP hD hS 0 rfl rfl 1 (by decide) (hg _ mw_53) (fun _ h9 => h9) rfl (by decide +kernel) rfl rfl (Nat.le_of_ble_eq_true rfl) qd_R_lengthen_24 (fun H locs hP hD hS => ?_)
  have hP : va_P (dC, dI) vwCl [(aR, .inr (4, [.ref aRt, .int (vRL + 1)])), (aRt, .inl (cA, 24, .inl (upd vRt vRL.toNatClampNeg p0)))] H := hP
  have hD : va_D A [(aR, .inr (4, [.ref aRt, .int (vRL + 1)])), (aRt, .inl (cA, 24, .inl (upd vRt vRL.toNatClampNeg p0)))] := hD
  refine lv_aload_n hx hb qd_R_lengthen_27 rfl (lv_at hl 0 rfl) ?_
  refine va_get (D := (dC, dI)) (ci := 4) (v := .int (vRL + 1)) (C := qR_R) (T := qT_R) (N := 2) hx hb hg qi_R hown hK hP 0 rfl rfl 1 (by decide) (hg _ mw_53) (fun _ h9 => h9) rfl qd_R_lengthen_28 ?_
  exact W.iret (v := vRL + 1) hx hb hr (fun t ht hW => ⟨⟨_, (vRL + 1, vRL + 1, upd vRt vRL.toNatClampNeg p0), rfl, ⟨hres.symm, rfl⟩, ⟨by rw [ht]; exact hP, va_K.moved hW.alike hK, x_N hN hW⟩, hD⟩, hS.F ht⟩) hS.2.2 qd_R_lengthen_31
