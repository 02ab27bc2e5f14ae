theorem qd_H_checkPart_0 : decode qc_H_checkPart 0 = .ok (.iload_n 1, 1) := by decide +kernel
theorem qd_H_checkPart_1 : decode qc_H_checkPart 1 = .ok (.invokestatic 66, 3) := by decide +kernel
theorem qd_H_checkPart_4 : decode qc_H_checkPart 4 = .ok (.ifCond .eq 23, 3) := by decide +kernel
theorem qd_H_checkPart_7 : decode qc_H_checkPart 7 = .ok (.iload_n 2, 1) := by decide +kernel
theorem qd_H_checkPart_8 : decode qc_H_checkPart 8 = .ok (.ifCond .lt 19, 3) := by decide +kernel
theorem qd_H_checkPart_11 : decode qc_H_checkPart 11 = .ok (.iload_n 2, 1) := by decide +kernel
theorem qd_H_checkPart_12 : decode qc_H_checkPart 12 = .ok (.iload_n 3, 1) := by decide +kernel
theorem qd_H_checkPart_13 : decode qc_H_checkPart 13 = .ok (.if_icmp .ge 14, 3) := by decide +kernel
theorem qd_H_checkPart_16 : decode qc_H_checkPart 16 = .ok (.iload_n 3, 1) := by decide +kernel
theorem qd_H_checkPart_17 : decode qc_H_checkPart 17 = .ok (.aload_n 0, 1) := by decide +kernel
theorem qd_H_checkPart_18 : decode qc_H_checkPart 18 = .ok (.getfield 19, 3) := by decide +kernel
theorem qd_H_checkPart_21 : decode qc_H_checkPart 21 = .ok (.invokevirtual 115, 3) := by decide +kernel
theorem qd_H_checkPart_24 : decode qc_H_checkPart 24 = .ok (.if_icmp .le 13, 3) := by decide +kernel
theorem qd_H_checkPart_27 : decode qc_H_checkPart 27 = .ok (.new 150, 3) := by decide +kernel
theorem qd_H_checkPart_30 : decode qc_H_checkPart 30 = .ok (.dup, 1) := by decide +kernel
theorem qd_H_checkPart_31 : decode qc_H_checkPart 31 = .ok (.ldc 164, 2) := by decide +kernel
theorem qd_H_checkPart_33 : decode qc_H_checkPart 33 = .ok (.invokespecial 154, 3) := by decide +kernel
theorem qd_H_checkPart_36 : decode qc_H_checkPart 36 = .ok (.athrow, 1) := by decide +kernel
theorem qd_H_checkPart_37 : decode qc_H_checkPart 37 = .ok (.return_, 1) := by decide +kernel
set_option maxHeartbeats 4000000 in
set_option maxRecDepth 100000 in
theorem c_H_checkPart (l : Launch) (hl9 : l.stackTraces = false) (dC : Nat → ClassId) (dI : Nat → Nat → Nat) (cA : ClassId) (aH aF aO aT aC aG aR aRt : Nat) (sz : Nat) (vRL : Int32) (p0 : Int32) (p1 : Int32) (p2 : Int32) : vx_Met l qy_H_checkPart qw_H_checkPart ({ frames := 6, cells := 1, slots := 6, locals := 90 }) (va_Pc [.ref aH, .int p0, .int p1, .int p2] (xPT (dC, dI) [(cA, .int)] [(aH, .inr (6, [.ref aG, .ref aR, .ref aC, .ref aT, .ref aF, .ref aO])), (aR, .inr (4, [.ref aRt, .int vRL]))] sz)) (va_Qv (fun u => u = f_H_checkPart vRL p0 p1 p2 ∧ u = 0) (fun (u : Int32) t => xP (dC, dI) [(cA, .int)] [(aH, .inr (6, [.ref aG, .ref aR, .ref aC, .ref aT, .ref aF, .ref aO])), (aR, .inr (4, [.ref aRt, .int vRL]))] nestN t ∧ va_D (va_A [(aH, .inr (6, [.ref aG, .ref aR, .ref aC, .ref aT, .ref aF, .ref aO])), (aR, .inr (4, [.ref aRt, .int vRL]))] sz) [(aH, .inr (6, [.ref aG, .ref aR, .ref aC, .ref aT, .ref aF, .ref aO])), (aR, .inr (4, [.ref aRt, .int vRL]))]) (va_A [(aH, .inr (6, [.ref aG, .ref aR, .ref aC, .ref aT, .ref aF, .ref aO])), (aR, .inr (4, [.ref aRt, .int vRL]))] sz)) (vx_X (fun (u : Int32) => u = f_H_checkPart vRL p0 p1 p2 ∧ ¬ u = 0) (fun E u t => E = exN u ∧ va_P (dC, dI) vwCl [(aH, .inr (6, [.ref aG, .ref aR, .ref aC, .ref aT, .ref aF, .ref aO])), (aR, .inr (4, [.ref aRt, .int vRL]))] t.heap ∧ va_D (va_A [(aH, .inr (6, [.ref aG, .ref aR, .ref aC, .ref aT, .ref aF, .ref aO])), (aR, .inr (4, [.ref aRt, .int vRL]))] sz) [(aH, .inr (6, [.ref aG, .ref aR, .ref aC, .ref aT, .ref aF, .ref aO])), (aR, .inr (4, [.ref aRt, .int vRL]))]) (va_A [(aH, .inr (6, [.ref aG, .ref aR, .ref aC, .ref aT, .ref aF, .ref aO])), (aR, .inr (4, [.ref aRt, .int vRL]))] sz)) 1 6 (va_A [(aH, .inr (6, [.ref aG, .ref aR, .ref aC, .ref aT, .ref aF, .ref aO])), (aR, .inr (4, [.ref aRt, .int vRL]))] sz) := by
  refine vx_ofW (cc := qc_H_checkPart) (maxL := 4) (ret := (none)) (by decide) rfl ?_
  intro p e s m args below meth c s₁ B hml hout hv
  obtain ⟨rfl, hsz, ⟨hP, hK, hN⟩, hD0, hT⟩ := hv
  have hx := B.exec
  have hb := B.bytes
  have hr := B.returns
  have hts := atoms_spec (ws := qw_H_checkPart) B.pre
  have hg : ∀ w ∈ gG, w.before _ s = true := fun w h => hts w (List.mem_cons_of_mem _ h)
  have hown : s.vm.findClass qR_H = some m.cls := findClass_of_methodNamed B.named
  have hlocks := B.notSynchronized
  subst hsz
  have hD := hD0.self (sz := s.heap.size)
  generalize hAe : va_A [(aH, .inr (6, [.ref aG, .ref aR, .ref aC, .ref aT, .ref aF, .ref aO])), (aR, .inr (4, [.ref aRt, .int vRL]))] s.heap.size = A at hD hT ⊢
  have hA : ∀ q : Nat, s.heap.size ≤ q → A q := fun q h => by rw [← hAe]; exact Or.inr h
  have hS : va_S A s.heap s.heap [] := va_S.rf
  have hP : va_P (dC, dI) vwCl [(aH, .inr (6, [.ref aG, .ref aR, .ref aC, .ref aT, .ref aF, .ref aO])), (aR, .inr (4, [.ref aRt, .int vRL]))] s.heap := hP
  have hl := lv_entry ([.ref aH, .int p0, .int p1, .int p2]) (n := 4) (Nat.le_of_ble_eq_true rfl)
  rw [lg_entry_eq]
  generalize (lg_sl ([.ref aH, .int p0, .int p1, .int p2]) ++ List.replicate (4 - (lg_sl ([.ref aH, .int p0, .int p1, .int p2])).length) Slot.unset).toArray = ls at hl ⊢
  have hl : lv_has ls 4 [(0, .ref aH), (1, .int p0), (2, .int p1), (3, .int p2)] := hl
  generalize hF : f_H_checkPart vRL p0 p1 p2 = Fv
  have hres : Fv = f_H_checkPart vRL p0 p1 p2 := hF.symm
  unfold f_H_checkPart at hres
  refine lv_iload_n hx hb qd_H_checkPart_0 rfl (lv_at hl 1 rfl) ?_
  refine xc_S (As := [.int p0]) (rest := []) ⟨hx, hb, hml, hown, hg⟩ (c_H_isSymbol l dC dI cA p0) (va_cwS 1 hg (q_gS mw_178 mw_179 mw_1 mw_180) rfl rfl rfl qh_H_isSymbol.2 ⟨Nat.le_of_ble_eq_true rfl, Nat.le_of_ble_eq_true rfl⟩) hN hK hP [] rfl rfl hl.1 rfl (Nat.le_of_ble_eq_true rfl) qd_H_checkPart_1 ⟨Nat.le_of_ble_eq_true rfl, Nat.le_of_ble_eq_true rfl⟩ ?_
  refine lv_topi (fun r_1 w_1 => ?_)
  have hres := hres.trans (bd_eq w_1)
  refine lv_if_eq (tgt := 27) hx hb qd_H_checkPart_4 (by decide) (fun c_4 => ?_) (fun c_4 => ?_)
  · have hres := hres.trans (if_pos c_4)
    refine xt_throw (code := (fun u => u)) (w1 := fun (u : Int32) => [(aH, .inr (6, [.ref aG, .ref aR, .ref aC, .ref aT, .ref aF, .ref aO])), (aR, .inr (4, [.ref aRt, .int vRL]))]) 4 hx hb hl9 hown hg hT mw_345 mw_17 (List.mem_of_getElem? (i := 6) rfl) qa_154 (by decide +kernel) hS (hl.1.trans hml.symm) qd_H_checkPart_27 qd_H_checkPart_30 qd_H_checkPart_31 qd_H_checkPart_33 qd_H_checkPart_36 hout ?_ ?_ ?_ ?_ hlocks hP hD 4 hres ?_ ?_ ?_ hS.2.2 ?_ ?_
    all_goals first | exact Nat.le_of_ble_eq_true rfl | rfl | decide
  have hres := hres.trans (if_neg c_4)
  refine lv_iload_n hx hb qd_H_checkPart_7 rfl (lv_at hl 2 rfl) ?_
  refine lv_if_lt (tgt := 27) hx hb qd_H_checkPart_8 (by decide) (fun c_8 => ?_) (fun c_8 => ?_)
  · have hres := hres.trans (if_pos c_8)
    refine xt_throw (code := (fun u => u)) (w1 := fun (u : Int32) => [(aH, .inr (6, [.ref aG, .ref aR, .ref aC, .ref aT, .ref aF, .ref aO])), (aR, .inr (4, [.ref aRt, .int vRL]))]) 4 hx hb hl9 hown hg hT mw_345 mw_17 (List.mem_of_getElem? (i := 6) rfl) qa_154 (by decide +kernel) hS (hl.1.trans hml.symm) qd_H_checkPart_27 qd_H_checkPart_30 qd_H_checkPart_31 qd_H_checkPart_33 qd_H_checkPart_36 hout ?_ ?_ ?_ ?_ hlocks hP hD 4 hres ?_ ?_ ?_ hS.2.2 ?_ ?_
    all_goals first | exact Nat.le_of_ble_eq_true rfl | rfl | decide
  have hres := hres.trans (if_neg c_8)
  refine lv_iload_n hx hb qd_H_checkPart_11 rfl (lv_at hl 2 rfl) ?_
  refine lv_iload_n hx hb qd_H_checkPart_12 rfl (lv_at hl 3 rfl) ?_
  refine lv_icmp_ge (tgt := 27) hx hb qd_H_checkPart_13 (by decide) (fun c_13 => ?_) (fun c_13 => ?_)
  · have hres := hres.trans (if_pos c_13)
    refine xt_throw (code := (fun u => u)) (w1 := fun (u : Int32) => [(aH, .inr (6, [.ref aG, .ref aR, .ref aC, .ref aT, .ref aF, .ref aO])), (aR, .inr (4, [.ref aRt, .int vRL]))]) 4 hx hb hl9 hown hg hT mw_345 mw_17 (List.mem_of_getElem? (i := 6) rfl) qa_154 (by decide +kernel) hS (hl.1.trans hml.symm) qd_H_checkPart_27 qd_H_checkPart_30 qd_H_checkPart_31 qd_H_checkPart_33 qd_H_checkPart_36 hout ?_ ?_ ?_ ?_ hlocks hP hD 4 hres ?_ ?_ ?_ hS.2.2 ?_ ?_
    all_goals first | exact Nat.le_of_ble_eq_true rfl | rfl | decide
  have hres := hres.trans (if_neg c_13)
  refine lv_iload_n hx hb qd_H_checkPart_16 rfl (lv_at hl 3 rfl) ?_
  refine lv_aload_n hx hb qd_H_checkPart_17 rfl (lv_at hl 0 rfl) ?_
  refine va_get (D := (dC, dI)) (ci := 6) (v := .ref aR) (C := qR_H) (T := qT_H) (N := 6) hx hb hg qi_H hown hK hP 0 rfl rfl 1 (by decide) (hg _ mw_134) (fun _ h9 => h9) rfl qd_H_checkPart_18 ?_
  refine xc_V (As := []) (rest := [.int p2]) ⟨hx, hb, hml, hown, hg⟩ (c_R_length l dC dI cA aR aRt vRL) (cwV 0 hg (q_gV mw_330 mw_331 mw_332 mw_3 mw_333) rfl rfl rfl qh_R_length ⟨Nat.le_of_ble_eq_true rfl, Nat.le_of_ble_eq_true rfl⟩) hN hK hP [1] rfl 0 4 rfl rfl rfl hl.1 rfl (Nat.le_of_ble_eq_true rfl) qd_H_checkPart_21 ⟨Nat.le_of_ble_eq_true rfl, Nat.le_of_ble_eq_true rfl⟩ ?_
  refine lv_icmp_le (tgt := 37) hx hb qd_H_checkPart_24 (by decide) (fun c_24 => ?_) (fun c_24 => ?_)
  · have hres := hres.trans (if_pos c_24)
    refine vx_ret ?_
    refine W.widen (k := 1) (n := 6) (Nat.le_of_ble_eq_true rfl) (Nat.le_of_ble_eq_true rfl) ?_
    exact W.vret hx hb hr (fun t ht hW => ⟨⟨0, rfl, ⟨hres.symm, rfl⟩, ⟨by rw [ht]; exact hP, va_K.moved hW.alike hK, x_N hN hW⟩, hD⟩, hS.F ht⟩) hS.2.2 qd_H_checkPart_37
  have hres := hres.trans (if_neg c_24)
  refine xt_throw (code := (fun u => u)) (w1 := fun (u : Int32) => [(aH, .inr (6, [.ref aG, .ref aR, .ref aC, .ref aT, .ref aF, .ref aO])), (aR, .inr (4, [.ref aRt, .int vRL]))]) 4 hx hb hl9 hown hg hT mw_345 mw_17 (List.mem_of_getElem? (i := 6) rfl) qa_154 (by decide +kernel) hS (hl.1.trans hml.symm) qd_H_checkPart_27 qd_H_checkPart_30 qd_H_checkPart_31 qd_H_checkPart_33 qd_H_checkPart_36 hout ?_ ?_ ?_ ?_ hlocks hP hD 4 hres ?_ ?_ ?_ hS.2.2 ?_ ?_
  all_goals first | exact Nat.le_of_ble_eq_true rfl | rfl | decide
theorem qd_H_put_0 : decode qc_H_put 0 = .ok (.iload_n 1, 1) := by decide +kernel
theorem qd_H_put_1 : decode qc_H_put 1 = .ok (.ifCond .lt 9, 3) := by decide +kernel
theorem qd_H_put_4 : decode qc_H_put 4 = .ok (.iload_n 1, 1) := by decide +kernel
theorem qd_H_put_5 : decode qc_H_put 5 = .ok (.bipush 10, 2) := by decide +kernel
theorem qd_H_put_7 : decode qc_H_put 7 = .ok (.if_icmp .lt 13, 3) := by decide +kernel
theorem qd_H_put_10 : decode qc_H_put 10 = .ok (.new 74, 3) := by decide +kernel
theorem qd_H_put_13 : decode qc_H_put 13 = .ok (.dup, 1) := by decide +kernel
theorem qd_H_put_14 : decode qc_H_put 14 = .ok (.ldc 106, 2) := by decide +kernel
theorem qd_H_put_16 : decode qc_H_put 16 = .ok (.invokespecial 78, 3) := by decide +kernel
theorem qd_H_put_19 : decode qc_H_put 19 = .ok (.athrow, 1) := by decide +kernel
theorem qd_H_put_20 : decode qc_H_put 20 = .ok (.aload_n 0, 1) := by decide +kernel
theorem qd_H_put_21 : decode qc_H_put 21 = .ok (.getfield 19, 3) := by decide +kernel
theorem qd_H_put_24 : decode qc_H_put 24 = .ok (.invokevirtual 108, 3) := by decide +kernel
theorem qd_H_put_27 : decode qc_H_put 27 = .ok (.ifCond .eq 13, 3) := by decide +kernel
theorem qd_H_put_30 : decode qc_H_put 30 = .ok (.new 85, 3) := by decide +kernel
theorem qd_H_put_33 : decode qc_H_put 33 = .ok (.dup, 1) := by decide +kernel
theorem qd_H_put_34 : decode qc_H_put 34 = .ok (.ldc 109, 2) := by decide +kernel
theorem qd_H_put_36 : decode qc_H_put 36 = .ok (.invokespecial 89, 3) := by decide +kernel
theorem qd_H_put_39 : decode qc_H_put 39 = .ok (.athrow, 1) := by decide +kernel
theorem qd_H_put_40 : decode qc_H_put 40 = .ok (.aload_n 0, 1) := by decide +kernel
theorem qd_H_put_41 : decode qc_H_put 41 = .ok (.getfield 19, 3) := by decide +kernel
theorem qd_H_put_44 : decode qc_H_put 44 = .ok (.iload_n 1, 1) := by decide +kernel
theorem qd_H_put_45 : decode qc_H_put 45 = .ok (.invokevirtual 111, 3) := by decide +kernel
theorem qd_H_put_48 : decode qc_H_put 48 = .ok (.ireturn, 1) := by decide +kernel
set_option maxHeartbeats 4000000 in
set_option maxRecDepth 100000 in
theorem c_H_put (l : Launch) (hl9 : l.stackTraces = false) (dC : Nat → ClassId) (dI : Nat → Nat → Nat) (cA : ClassId) (aH aF aO aT aC aG aR aRt : Nat) (sz : Nat) (vRL : Int32) (vRt : (Nat → Int32)) (p0 : Int32) (ho : o_H_put vRL vRt p0) : vx_Met l qy_H_put qw_H_put ({ frames := 6, cells := 1, slots := 6, locals := 90 }) (va_Pc [.ref aH, .int p0] (xPT (dC, dI) [(cA, .int)] [(aH, .inr (6, [.ref aG, .ref aR, .ref aC, .ref aT, .ref aF, .ref aO])), (aR, .inr (4, [.ref aRt, .int vRL])), (aRt, .inl (cA, 24, .inl (vRt)))] sz)) (va_Qi (fun r (u : Int32 × Int32 × Int32 × (Nat → Int32)) => u = f_H_put vRL vRt p0 ∧ u.1 = 0 ∧ r = u.2.1) (fun (u : Int32 × Int32 × Int32 × (Nat → Int32)) t => xP (dC, dI) [(cA, .int)] [(aH, .inr (6, [.ref aG, .ref aR, .ref aC, .ref aT, .ref aF, .ref aO])), (aR, .inr (4, [.ref aRt, .int u.2.2.1])), (aRt, .inl (cA, 24, .inl (u.2.2.2)))] nestN t ∧ va_D (va_A [(aH, .inr (6, [.ref aG, .ref aR, .ref aC, .ref aT, .ref aF, .ref aO])), (aR, .inr (4, [.ref aRt, .int vRL])), (aRt, .inl (cA, 24, .inl (vRt)))] sz) [(aH, .inr (6, [.ref aG, .ref aR, .ref aC, .ref aT, .ref aF, .ref aO])), (aR, .inr (4, [.ref aRt, .int u.2.2.1])), (aRt, .inl (cA, 24, .inl (u.2.2.2)))]) (va_A [(aH, .inr (6, [.ref aG, .ref aR, .ref aC, .ref aT, .ref aF, .ref aO])), (aR, .inr (4, [.ref aRt, .int vRL])), (aRt, .inl (cA, 24, .inl (vRt)))] sz)) (vx_X (fun (u : Int32 × Int32 × Int32 × (Nat → Int32)) => u = f_H_put vRL vRt p0 ∧ ¬ u.1 = 0) (fun E u t => E = exN u.1 ∧ va_P (dC, dI) vwCl [(aH, .inr (6, [.ref aG, .ref aR, .ref aC, .ref aT, .ref aF, .ref aO])), (aR, .inr (4, [.ref aRt, .int u.2.2.1])), (aRt, .inl (cA, 24, .inl (u.2.2.2)))] t.heap ∧ va_D (va_A [(aH, .inr (6, [.ref aG, .ref aR, .ref aC, .ref aT, .ref aF, .ref aO])), (aR, .inr (4, [.ref aRt, .int vRL])), (aRt, .inl (cA, 24, .inl (vRt)))] sz) [(aH, .inr (6, [.ref aG, .ref aR, .ref aC, .ref aT, .ref aF, .ref aO])), (aR, .inr (4, [.ref aRt, .int u.2.2.1])), (aRt, .inl (cA, 24, .inl (u.2.2.2)))]) (va_A [(aH, .inr (6, [.ref aG, .ref aR, .ref aC, .ref aT, .ref aF, .ref aO])), (aR, .inr (4, [.ref aRt, .int vRL])), (aRt, .inl (cA, 24, .inl (vRt)))] sz)) 1 6 (va_A [(aH, .inr (6, [.ref aG, .ref aR, .ref aC, .ref aT, .ref aF, .ref aO])), (aR, .inr (4, [.ref aRt, .int vRL])), (aRt, .inl (cA, 24, .inl (vRt)))] sz) := by
  refine vx_ofW (cc := qc_H_put) (maxL := 2) (ret := (some .int)) (by decide) rfl ?_
  intro p e s m args below meth c s₁ B hml hout hv
  obtain ⟨rfl, hsz, ⟨hP, hK, hN⟩, hD0, hT⟩ := hv
  have hx := B.exec
  have hb := B.bytes
  have hr := B.returns
  have hts := atoms_spec (ws := qw_H_put) B.pre
  have hg : ∀ w ∈ gG, w.before _ s = true := fun w h => hts w (List.mem_cons_of_mem _ h)
  have hown : s.vm.findClass qR_H = some m.cls := findClass_of_methodNamed B.named
  have hlocks := B.notSynchronized
  subst hsz
  have hD := hD0.self (sz := s.heap.size)
  generalize hAe : va_A [(aH, .inr (6, [.ref aG, .ref aR, .ref aC, .ref aT, .ref aF, .ref aO])), (aR, .inr (4, [.ref aRt, .int vRL])), (aRt, .inl (cA, 24, .inl (vRt)))] s.heap.size = A at hD hT ⊢
  have hA : ∀ q : Nat, s.heap.size ≤ q → A q := fun q h => by rw [← hAe]; exact Or.inr h
  have hS : va_S A s.heap s.heap [] := va_S.rf
  have hP : va_P (dC, dI) vwCl [(aH, .inr (6, [.ref aG, .ref aR, .ref aC, .ref aT, .ref aF, .ref aO])), (aR, .inr (4, [.ref aRt, .int vRL])), (aRt, .inl (cA, 24, .inl (vRt)))] s.heap := hP
  have hl := lv_entry ([.ref aH, .int p0]) (n := 2) (Nat.le_of_ble_eq_true rfl)
  rw [lg_entry_eq]
  generalize (lg_sl ([.ref aH, .int p0]) ++ List.replicate (2 - (lg_sl ([.ref aH, .int p0])).length) Slot.unset).toArray = ls at hl ⊢
  have hl : lv_has ls 2 [(0, .ref aH), (1, .int p0)] := hl
  generalize hF : f_H_put vRL vRt p0 = Fv
  have hres : Fv = f_H_put vRL vRt p0 := hF.symm
  unfold f_H_put at hres
  unfold o_H_put at ho
  refine lv_iload_n hx hb qd_H_put_0 rfl (lv_at hl 1 rfl) ?_
  refine lv_if_lt (tgt := 10) hx hb qd_H_put_1 (by decide) (fun c_1 => ?_) (fun c_1 => ?_)
  · have hres := hres.trans (if_pos c_1)
    have ho := (if_pos c_1).mp ho
    refine xt_throw (code := (fun u => u.1)) (w1 := fun (u : Int32 × Int32 × Int32 × (Nat → Int32)) => [(aH, .inr (6, [.ref aG, .ref aR, .ref aC, .ref aT, .ref aF, .ref aO])), (aR, .inr (4, [.ref aRt, .int u.2.2.1])), (aRt, .inl (cA, 24, .inl (u.2.2.2)))]) 1 hx hb hl9 hown hg hT mw_187 mw_13 (List.mem_of_getElem? (i := 3) rfl) qa_78 (by decide +kernel) hS (hl.1.trans hml.symm) qd_H_put_10 qd_H_put_13 qd_H_put_14 qd_H_put_16 qd_H_put_19 hout ?_ ?_ ?_ ?_ hlocks hP hD (1, 0, vRL, vRt) hres ?_ ?_ ?_ hS.2.2 ?_ ?_
    all_goals first | exact Nat.le_of_ble_eq_true rfl | rfl | decide
  have hres := hres.trans (if_neg c_1)
  have ho := (if_neg c_1).mp ho
  refine lv_iload_n hx hb qd_H_put_4 rfl (lv_at hl 1 rfl) ?_
  refine lv_bipush (v := 10) hx hb qd_H_put_5 (by decide) ?_
  refine lv_icmp_lt (tgt := 20) hx hb qd_H_put_7 (by decide) (fun c_7 => ?_) (fun c_7 => ?_)
  · have hres := hres.trans (if_pos c_7)
    have ho := (if_pos c_7).mp ho
    refine lv_aload_n hx hb qd_H_put_20 rfl (lv_at hl 0 rfl) ?_
    refine va_get (D := (dC, dI)) (ci := 6) (v := .ref aR) (C := qR_H) (T := qT_H) (N := 6) hx hb hg qi_H hown hK hP 0 rfl rfl 1 (by decide) (hg _ mw_134) (fun _ h9 => h9) rfl qd_H_put_21 ?_
    refine xc_V (As := []) (rest := []) ⟨hx, hb, hml, hown, hg⟩ (c_R_isFull l dC dI cA aR aRt vRL) (cwV 0 hg (q_gV mw_314 mw_315 mw_316 mw_3 mw_317) rfl rfl rfl qh_R_isFull ⟨Nat.le_of_ble_eq_true rfl, Nat.le_of_ble_eq_true rfl⟩) hN hK hP [1] rfl 0 4 rfl rfl rfl hl.1 rfl (Nat.le_of_ble_eq_true rfl) qd_H_put_24 ⟨Nat.le_of_ble_eq_true rfl, Nat.le_of_ble_eq_true rfl⟩ ?_
    refine lv_topi (fun r_24 w_24 => ?_)
    have hres := hres.trans (bd_eq w_24)
    have ho := (bd_eq w_24).mp ho
    refine lv_if_eq (tgt := 40) hx hb qd_H_put_27 (by decide) (fun c_27 => ?_) (fun c_27 => ?_)
    · have hres := hres.trans (if_pos c_27)
      have ho := (if_pos c_27).mp ho
      refine lv_aload_n hx hb qd_H_put_40 rfl (lv_at hl 0 rfl) ?_
      refine va_get (D := (dC, dI)) (ci := 6) (v := .ref aR) (C := qR_H) (T := qT_H) (N := 6) hx hb hg qi_H hown hK hP 0 rfl rfl 1 (by decide) (hg _ mw_134) (fun _ h9 => h9) rfl qd_H_put_41 ?_
      refine lv_iload_n hx hb qd_H_put_44 rfl (lv_at hl 1 rfl) ?_
      obtain ⟨g_45, ho⟩ := ho
      refine xm_Vi (As := [.int p0]) (rest := []) (w1 := fun (u_45 : Int32 × Int32 × (Nat → Int32)) => [(aR, .inr (4, [.ref aRt, .int u_45.2.1])), (aRt, .inl (cA, 24, .inl (u_45.2.2)))]) (w2 := fun (u_45 : Int32 × Int32 × (Nat → Int32)) => [(aH, .inr (6, [.ref aG, .ref aR, .ref aC, .ref aT, .ref aF, .ref aO])), (aR, .inr (4, [.ref aRt, .int u_45.2.1])), (aRt, .inl (cA, 24, .inl (u_45.2.2)))]) ⟨hx, hb, hml, hown, hg⟩ (c_R_lengthen l dC dI cA aR aRt _ vRL vRt p0 g_45) (cwV 1 hg (q_gV mw_318 mw_319 mw_320 mw_3 mw_321) rfl rfl rfl qh_R_lengthen ⟨Nat.le_of_ble_eq_true rfl, Nat.le_of_ble_eq_true rfl⟩) hN hK hP hD hS hA [1, 2] [0] rfl rfl (by decide) (by decide) (by decide) [0, 1, 2] (fun _ => rfl) (by decide) 0 4 rfl rfl rfl hl.1 rfl (Nat.le_of_ble_eq_true rfl) qd_H_put_45 ⟨Nat.le_of_ble_eq_true rfl, Nat.le_of_ble_eq_true rfl⟩ (fun u_45 H locs w_45 hP hD hS => ?_)
      have hP : va_P (dC, dI) vwCl [(aH, .inr (6, [.ref aG, .ref aR, .ref aC, .ref aT, .ref aF, .ref aO])), (aR, .inr (4, [.ref aRt, .int u_45.2.1])), (aRt, .inl (cA, 24, .inl (u_45.2.2)))] H := hP
      have hD : va_D A [(aH, .inr (6, [.ref aG, .ref aR, .ref aC, .ref aT, .ref aF, .ref aO])), (aR, .inr (4, [.ref aRt, .int u_45.2.1])), (aRt, .inl (cA, 24, .inl (u_45.2.2)))] := hD
      have hres := hres.trans (bd_eq w_45)
      have ho := (bd_eq w_45).mp ho
      refine vx_ret ?_
      refine W.widen (k := 1) (n := 6) (Nat.le_of_ble_eq_true rfl) (Nat.le_of_ble_eq_true rfl) ?_
      exact W.iret (v := u_45.1) hx hb hr (fun t ht hW => ⟨⟨_, (0, u_45.1, u_45.2.1, u_45.2.2), rfl, ⟨hres.symm, rfl, rfl⟩, ⟨by rw [ht]; exact hP, va_K.moved hW.alike hK, x_N hN hW⟩, hD⟩, hS.F ht⟩) hS.2.2 qd_H_put_48
    have hres := hres.trans (if_neg c_27)
    have ho := (if_neg c_27).mp ho
    refine xt_throw (code := (fun u => u.1)) (w1 := fun (u : Int32 × Int32 × Int32 × (Nat → Int32)) => [(aH, .inr (6, [.ref aG, .ref aR, .ref aC, .ref aT, .ref aF, .ref aO])), (aR, .inr (4, [.ref aRt, .int u.2.2.1])), (aRt, .inl (cA, 24, .inl (u.2.2.2)))]) 2 hx hb hl9 hown hg hT mw_238 mw_14 (List.mem_of_getElem? (i := 4) rfl) qa_89 (by decide +kernel) hS (hl.1.trans hml.symm) qd_H_put_30 qd_H_put_33 qd_H_put_34 qd_H_put_36 qd_H_put_39 hout ?_ ?_ ?_ ?_ hlocks hP hD (2, 0, vRL, vRt) hres ?_ ?_ ?_ hS.2.2 ?_ ?_
    all_goals first | exact Nat.le_of_ble_eq_true rfl | rfl | decide
  have hres := hres.trans (if_neg c_7)
  have ho := (if_neg c_7).mp ho
  refine xt_throw (code := (fun u => u.1)) (w1 := fun (u : Int32 × Int32 × Int32 × (Nat → Int32)) => [(aH, .inr (6, [.ref aG, .ref aR, .ref aC, .ref aT, .ref aF, .ref aO])), (aR, .inr (4, [.ref aRt, .int u.2.2.1])), (aRt, .inl (cA, 24, .inl (u.2.2.2)))]) 1 hx hb hl9 hown hg hT mw_187 mw_13 (List.mem_of_getElem? (i := 3) rfl) qa_78 (by decide +kernel) hS (hl.1.trans hml.symm) qd_H_put_10 qd_H_put_13 qd_H_put_14 qd_H_put_16 qd_H_put_19 hout ?_ ?_ ?_ ?_ hlocks hP hD (1, 0, vRL, vRt) hres ?_ ?_ ?_ hS.2.2 ?_ ?_
  all_goals first | exact Nat.le_of_ble_eq_true rfl | rfl | decide
theorem qd_H_cut_0 : decode qc_H_cut 0 = .ok (.iload_n 1, 1) := by decide +kernel
theorem qd_H_cut_1 : decode qc_H_cut 1 = .ok (.ifCond .lt 14, 3) := by decide +kernel
theorem qd_H_cut_4 : decode qc_H_cut 4 = .ok (.iload_n 1, 1) := by decide +kernel
theorem qd_H_cut_5 : decode qc_H_cut 5 = .ok (.aload_n 0, 1) := by decide +kernel
theorem qd_H_cut_6 : decode qc_H_cut 6 = .ok (.getfield 19, 3) := by decide +kernel
theorem qd_H_cut_9 : decode qc_H_cut 9 = .ok (.invokevirtual 115, 3) := by decide +kernel
theorem qd_H_cut_12 : decode qc_H_cut 12 = .ok (.if_icmp .le 13, 3) := by decide +kernel
theorem qd_H_cut_15 : decode qc_H_cut 15 = .ok (.new 74, 3) := by decide +kernel
theorem qd_H_cut_18 : decode qc_H_cut 18 = .ok (.dup, 1) := by decide +kernel
theorem qd_H_cut_19 : decode qc_H_cut 19 = .ok (.ldc 119, 2) := by decide +kernel
theorem qd_H_cut_21 : decode qc_H_cut 21 = .ok (.invokespecial 78, 3) := by decide +kernel
theorem qd_H_cut_24 : decode qc_H_cut 24 = .ok (.athrow, 1) := by decide +kernel
theorem qd_H_cut_25 : decode qc_H_cut 25 = .ok (.aload_n 0, 1) := by decide +kernel
theorem qd_H_cut_26 : decode qc_H_cut 26 = .ok (.getfield 19, 3) := by decide +kernel
theorem qd_H_cut_29 : decode qc_H_cut 29 = .ok (.iload_n 1, 1) := by decide +kernel
theorem qd_H_cut_30 : decode qc_H_cut 30 = .ok (.invokevirtual 58, 3) := by decide +kernel
theorem qd_H_cut_33 : decode qc_H_cut 33 = .ok (.aload_n 0, 1) := by decide +kernel
theorem qd_H_cut_34 : decode qc_H_cut 34 = .ok (.getfield 28, 3) := by decide +kernel
theorem qd_H_cut_37 : decode qc_H_cut 37 = .ok (.iload_n 1, 1) := by decide +kernel
theorem qd_H_cut_38 : decode qc_H_cut 38 = .ok (.invokevirtual 62, 3) := by decide +kernel
theorem qd_H_cut_41 : decode qc_H_cut 41 = .ok (.return_, 1) := by decide +kernel
set_option maxHeartbeats 4000000 in
set_option maxRecDepth 100000 in
theorem c_H_cut (l : Launch) (hl9 : l.stackTraces = false) (dC : Nat → ClassId) (dI : Nat → Nat → Nat) (cA : ClassId) (aH aF aO aT aC aCn aCc aCr aCs aG aR aRt : Nat) (sz : Nat) (vCF : Int32) (vRL : Int32) (p0 : Int32) : vx_Met l qy_H_cut qw_H_cut ({ frames := 6, cells := 1, slots := 6, locals := 90 }) (va_Pc [.ref aH, .int p0] (xPT (dC, dI) [(cA, .int)] [(aH, .inr (6, [.ref aG, .ref aR, .ref aC, .ref aT, .ref aF, .ref aO])), (aC, .inr (0, [.ref aG, .ref aR, .ref aCn, .ref aCc, .ref aCr, .ref aCs, .int vCF])), (aR, .inr (4, [.ref aRt, .int vRL]))] sz)) (va_Qv (fun u => u = f_H_cut vCF vRL p0 ∧ u.1 = 0) (fun (u : Int32 × Int32 × Int32) t => xP (dC, dI) [(cA, .int)] [(aH, .inr (6, [.ref aG, .ref aR, .ref aC, .ref aT, .ref aF, .ref aO])), (aC, .inr (0, [.ref aG, .ref aR, .ref aCn, .ref aCc, .ref aCr, .ref aCs, .int u.2.1])), (aR, .inr (4, [.ref aRt, .int u.2.2]))] nestN t ∧ va_D (va_A [(aH, .inr (6, [.ref aG, .ref aR, .ref aC, .ref aT, .ref aF, .ref aO])), (aC, .inr (0, [.ref aG, .ref aR, .ref aCn, .ref aCc, .ref aCr, .ref aCs, .int vCF])), (aR, .inr (4, [.ref aRt, .int vRL]))] sz) [(aH, .inr (6, [.ref aG, .ref aR, .ref aC, .ref aT, .ref aF, .ref aO])), (aC, .inr (0, [.ref aG, .ref aR, .ref aCn, .ref aCc, .ref aCr, .ref aCs, .int u.2.1])), (aR, .inr (4, [.ref aRt, .int u.2.2]))]) (va_A [(aH, .inr (6, [.ref aG, .ref aR, .ref aC, .ref aT, .ref aF, .ref aO])), (aC, .inr (0, [.ref aG, .ref aR, .ref aCn, .ref aCc, .ref aCr, .ref aCs, .int vCF])), (aR, .inr (4, [.ref aRt, .int vRL]))] sz)) (vx_X (fun (u : Int32 × Int32 × Int32) => u = f_H_cut vCF vRL p0 ∧ ¬ u.1 = 0) (fun E u t => E = exN u.1 ∧ va_P (dC, dI) vwCl [(aH, .inr (6, [.ref aG, .ref aR, .ref aC, .ref aT, .ref aF, .ref aO])), (aC, .inr (0, [.ref aG, .ref aR, .ref aCn, .ref aCc, .ref aCr, .ref aCs, .int u.2.1])), (aR, .inr (4, [.ref aRt, .int u.2.2]))] t.heap ∧ va_D (va_A [(aH, .inr (6, [.ref aG, .ref aR, .ref aC, .ref aT, .ref aF, .ref aO])), (aC, .inr (0, [.ref aG, .ref aR, .ref aCn, .ref aCc, .ref aCr, .ref aCs, .int vCF])), (aR, .inr (4, [.ref aRt, .int vRL]))] sz) [(aH, .inr (6, [.ref aG, .ref aR, .ref aC, .ref aT, .ref aF, .ref aO])), (aC, .inr (0, [.ref aG, .ref aR, .ref aCn, .ref aCc, .ref aCr, .ref aCs, .int u.2.1])), (aR, .inr (4, [.ref aRt, .int u.2.2]))]) (va_A [(aH, .inr (6, [.ref aG, .ref aR, .ref aC, .ref aT, .ref aF, .ref aO])), (aC, .inr (0, [.ref aG, .ref aR, .ref aCn, .ref aCc, .ref aCr, .ref aCs, .int vCF])), (aR, .inr (4, [.ref aRt, .int vRL]))] sz)) 1 6 (va_A [(aH, .inr (6, [.ref aG, .ref aR, .ref aC, .ref aT, .ref aF, .ref aO])), (aC, .inr (0, [.ref aG, .ref aR, .ref aCn, .ref aCc, .ref aCr, .ref aCs, .int vCF])), (aR, .inr (4, [.ref aRt, .int vRL]))] sz) := by
  refine vx_ofW (cc := qc_H_cut) (maxL := 2) (ret := (none)) (by decide) rfl ?_
  intro p e s m args below meth c s₁ B hml hout hv
  obtain ⟨rfl, hsz, ⟨hP, hK, hN⟩, hD0, hT⟩ := hv
  have hx := B.exec
  have hb := B.bytes
  have hr := B.returns
  have hts := atoms_spec (ws := qw_H_cut) B.pre
  have hg : ∀ w ∈ gG, w.before _ s = true := fun w h => hts w (List.mem_cons_of_mem _ h)
  have hown : s.vm.findClass qR_H = some m.cls := findClass_of_methodNamed B.named
  have hlocks := B.notSynchronized
  subst hsz
  have hD := hD0.self (sz := s.heap.size)
  generalize hAe : va_A [(aH, .inr (6, [.ref aG, .ref aR, .ref aC, .ref aT, .ref aF, .ref aO])), (aC, .inr (0, [.ref aG, .ref aR, .ref aCn, .ref aCc, .ref aCr, .ref aCs, .int vCF])), (aR, .inr (4, [.ref aRt, .int vRL]))] s.heap.size = A at hD hT ⊢
  have hA : ∀ q : Nat, s.heap.size ≤ q → A q := fun q h => by rw [← hAe]; exact Or.inr h
  have hS : va_S A s.heap s.heap [] := va_S.rf
  have hP : va_P (dC, dI) vwCl [(aH, .inr (6, [.ref aG, .ref aR, .ref aC, .ref aT, .ref aF, .ref aO])), (aC, .inr (0, [.ref aG, .ref aR, .ref aCn, .ref aCc, .ref aCr, .ref aCs, .int vCF])), (aR, .inr (4, [.ref aRt, .int vRL]))] s.heap := hP
  have hl := lv_entry ([.ref aH, .int p0]) (n := 2) (Nat.le_of_ble_eq_true rfl)
  rw [lg_entry_eq]
  generalize (lg_sl ([.ref aH, .int p0]) ++ List.replicate (2 - (lg_sl ([.ref aH, .int p0])).length) Slot.unset).toArray = ls at hl ⊢
  have hl : lv_has ls 2 [(0, .ref aH), (1, .int p0)] := hl
  generalize hF : f_H_cut vCF vRL p0 = Fv
  have hres : Fv = f_H_cut vCF vRL p0 := hF.symm
  unfold f_H_cut at hres
  refine lv_iload_n hx hb qd_H_cut_0 rfl (lv_at hl 1 rfl) ?_
  refine lv_if_lt (tgt := 15) hx hb qd_H_cut_1 (by decide) (fun c_1 => ?_) (fun c_1 => ?_)
  · have hres := hres.trans (if_pos c_1)
    refine xt_throw (code := (fun u => u.1)) (w1 := fun (u : Int32 × Int32 × Int32) => [(aH, .inr (6, [.ref aG, .ref aR, .ref aC, .ref aT, .ref aF, .ref aO])), (aC, .inr (0, [.ref aG, .ref aR, .ref aCn, .ref aCc, .ref aCr, .ref aCs, .int u.2.1])), (aR, .inr (4, [.ref aRt, .int u.2.2]))]) 1 hx hb hl9 hown hg hT mw_187 mw_13 (List.mem_of_getElem? (i := 5) rfl) qa_78 (by decide +kernel) hS (hl.1.trans hml.symm) qd_H_cut_15 qd_H_cut_18 qd_H_cut_19 qd_H_cut_21 qd_H_cut_24 hout ?_ ?_ ?_ ?_ hlocks hP hD (1, vCF, vRL) hres ?_ ?_ ?_ hS.2.2 ?_ ?_
    all_goals first | exact Nat.le_of_ble_eq_true rfl | rfl | decide
  have hres := hres.trans (if_neg c_1)
  refine lv_iload_n hx hb qd_H_cut_4 rfl (lv_at hl 1 rfl) ?_
  refine lv_aload_n hx hb qd_H_cut_5 rfl (lv_at hl 0 rfl) ?_
  refine va_get (D := (dC, dI)) (ci := 6) (v := .ref aR) (C := qR_H) (T := qT_H) (N := 6) hx hb hg qi_H hown hK hP 0 rfl rfl 1 (by decide) (hg _ mw_134) (fun _ h9 => h9) rfl qd_H_cut_6 ?_
  refine xc_V (As := []) (rest := [.int p0]) ⟨hx, hb, hml, hown, hg⟩ (c_R_length l dC dI cA aR aRt vRL) (cwV 0 hg (q_gV mw_330 mw_331 mw_332 mw_3 mw_333) rfl rfl rfl qh_R_length ⟨Nat.le_of_ble_eq_true rfl, Nat.le_of_ble_eq_true rfl⟩) hN hK hP [2] rfl 0 4 rfl rfl rfl hl.1 rfl (Nat.le_of_ble_eq_true rfl) qd_H_cut_9 ⟨Nat.le_of_ble_eq_true rfl, Nat.le_of_ble_eq_true rfl⟩ ?_
  refine lv_icmp_le (tgt := 25) hx hb qd_H_cut_12 (by decide) (fun c_12 => ?_) (fun c_12 => ?_)
  · have hres := hres.trans (if_pos c_12)
    refine lv_aload_n hx hb qd_H_cut_25 rfl (lv_at hl 0 rfl) ?_
    refine va_get (D := (dC, dI)) (ci := 6) (v := .ref aR) (C := qR_H) (T := qT_H) (N := 6) hx hb hg qi_H hown hK hP 0 rfl rfl 1 (by decide) (hg _ mw_134) (fun _ h9 => h9) rfl qd_H_cut_26 ?_
    refine lv_iload_n hx hb qd_H_cut_29 rfl (lv_at hl 1 rfl) ?_
    refine xm_Vv (As := [.int p0]) (rest := []) (w1 := fun (u_30 : Int32) => [(aR, .inr (4, [.ref aRt, .int u_30]))]) (w2 := fun (u_30 : Int32) => [(aH, .inr (6, [.ref aG, .ref aR, .ref aC, .ref aT, .ref aF, .ref aO])), (aC, .inr (0, [.ref aG, .ref aR, .ref aCn, .ref aCc, .ref aCr, .ref aCs, .int vCF])), (aR, .inr (4, [.ref aRt, .int u_30]))]) ⟨hx, hb, hml, hown, hg⟩ (c_R_shorten l dC dI cA aR aRt _ vRL p0) (cwV 1 hg (q_gV mw_153 mw_154 mw_155 mw_3 mw_156) rfl rfl rfl qh_R_shorten ⟨Nat.le_of_ble_eq_true rfl, Nat.le_of_ble_eq_true rfl⟩) hN hK hP hD hS hA [2] [0, 1] rfl rfl (by decide) (by decide) (by decide) [0, 1, 2] (fun _ => rfl) (by decide) 0 4 rfl rfl rfl hl.1 rfl (Nat.le_of_ble_eq_true rfl) qd_H_cut_30 ⟨Nat.le_of_ble_eq_true rfl, Nat.le_of_ble_eq_true rfl⟩ (fun u_30 H locs w_30 hP hD hS => ?_)
    have hP : va_P (dC, dI) vwCl [(aH, .inr (6, [.ref aG, .ref aR, .ref aC, .ref aT, .ref aF, .ref aO])), (aC, .inr (0, [.ref aG, .ref aR, .ref aCn, .ref aCc, .ref aCr, .ref aCs, .int vCF])), (aR, .inr (4, [.ref aRt, .int u_30]))] H := hP
    have hD : va_D A [(aH, .inr (6, [.ref aG, .ref aR, .ref aC, .ref aT, .ref aF, .ref aO])), (aC, .inr (0, [.ref aG, .ref aR, .ref aCn, .ref aCc, .ref aCr, .ref aCs, .int vCF])), (aR, .inr (4, [.ref aRt, .int u_30]))] := hD
    have hres := hres.trans (bd_eq w_30)
    refine lv_aload_n hx hb qd_H_cut_33 rfl (lv_at hl 0 rfl) ?_
    refine va_get (D := (dC, dI)) (ci := 6) (v := .ref aC) (C := qR_H) (T := qT_H) (N := 6) hx hb hg qi_H hown hK hP 0 rfl rfl 2 (by decide) (hg _ mw_135) (fun _ h9 => h9) rfl qd_H_cut_34 ?_
    refine lv_iload_n hx hb qd_H_cut_37 rfl (lv_at hl 1 rfl) ?_
    refine xm_Vv (As := [.int p0]) (rest := []) (w1 := fun (u_38 : Int32) => [(aC, .inr (0, [.ref aG, .ref aR, .ref aCn, .ref aCc, .ref aCr, .ref aCs, .int u_38]))]) (w2 := fun (u_38 : Int32) => [(aH, .inr (6, [.ref aG, .ref aR, .ref aC, .ref aT, .ref aF, .ref aO])), (aC, .inr (0, [.ref aG, .ref aR, .ref aCn, .ref aCc, .ref aCr, .ref aCs, .int u_38])), (aR, .inr (4, [.ref aRt, .int u_30]))]) ⟨hx, hb, hml, hown, hg⟩ (c_C_forgetBehind l dC dI cA aC aCn aCc aCr aCs aG aR _ vCF p0) (cwV 1 hg (q_gV mw_157 mw_158 mw_159 mw_4 mw_160) rfl rfl rfl qh_C_forgetBehind ⟨Nat.le_of_ble_eq_true rfl, Nat.le_of_ble_eq_true rfl⟩) hN hK hP hD hS hA [1] [0, 2] rfl rfl (by decide) (by decide) (by decide) [0, 2, 1] (fun _ => rfl) (by decide) 0 0 rfl rfl rfl hl.1 rfl (Nat.le_of_ble_eq_true rfl) qd_H_cut_38 ⟨Nat.le_of_ble_eq_true rfl, Nat.le_of_ble_eq_true rfl⟩ (fun u_38 H locs w_38 hP hD hS => ?_)
    have hP : va_P (dC, dI) vwCl [(aH, .inr (6, [.ref aG, .ref aR, .ref aC, .ref aT, .ref aF, .ref aO])), (aC, .inr (0, [.ref aG, .ref aR, .ref aCn, .ref aCc, .ref aCr, .ref aCs, .int u_38])), (aR, .inr (4, [.ref aRt, .int u_30]))] H := hP
    have hD : va_D A [(aH, .inr (6, [.ref aG, .ref aR, .ref aC, .ref aT, .ref aF, .ref aO])), (aC, .inr (0, [.ref aG, .ref aR, .ref aCn, .ref aCc, .ref aCr, .ref aCs, .int u_38])), (aR, .inr (4, [.ref aRt, .int u_30]))] := hD
    have hres := hres.trans (bd_eq w_38)
    refine vx_ret ?_
    refine W.widen (k := 1) (n := 6) (Nat.le_of_ble_eq_true rfl) (Nat.le_of_ble_eq_true rfl) ?_
    exact W.vret hx hb hr (fun t ht hW => ⟨⟨(0, u_38, u_30), rfl, ⟨hres.symm, rfl⟩, ⟨by rw [ht]; exact hP, va_K.moved hW.alike hK, x_N hN hW⟩, hD⟩, hS.F ht⟩) hS.2.2 qd_H_cut_41
  have hres := hres.trans (if_neg c_12)
  refine xt_throw (code := (fun u => u.1)) (w1 := fun (u : Int32 × Int32 × Int32) => [(aH, .inr (6, [.ref aG, .ref aR, .ref aC, .ref aT, .ref aF, .ref aO])), (aC, .inr (0, [.ref aG, .ref aR, .ref aCn, .ref aCc, .ref aCr, .ref aCs, .int u.2.1])), (aR, .inr (4, [.ref aRt, .int u.2.2]))]) 1 hx hb hl9 hown hg hT mw_187 mw_13 (List.mem_of_getElem? (i := 5) rfl) qa_78 (by decide +kernel) hS (hl.1.trans hml.symm) qd_H_cut_15 qd_H_cut_18 qd_H_cut_19 qd_H_cut_21 qd_H_cut_24 hout ?_ ?_ ?_ ?_ hlocks hP hD (1, vCF, vRL) hres ?_ ?_ ?_ hS.2.2 ?_ ?_
  all_goals first | exact Nat.le_of_ble_eq_true rfl | rfl | decide
theorem qd_H_node_0 : decode qc_H_node 0 = .ok (.iload_n 1, 1) := by decide +kernel
theorem qd_H_node_1 : decode qc_H_node 1 = .ok (.ifCond .lt 14, 3) := by decide +kernel
theorem qd_H_node_4 : decode qc_H_node 4 = .ok (.iload_n 1, 1) := by decide +kernel
theorem qd_H_node_5 : decode qc_H_node 5 = .ok (.aload_n 0, 1) := by decide +kernel
theorem qd_H_node_6 : decode qc_H_node 6 = .ok (.getfield 35, 3) := by decide +kernel
theorem qd_H_node_9 : decode qc_H_node 9 = .ok (.invokevirtual 147, 3) := by decide +kernel
theorem qd_H_node_12 : decode qc_H_node 12 = .ok (.if_icmp .lt 13, 3) := by decide +kernel
theorem qd_H_node_15 : decode qc_H_node 15 = .ok (.new 150, 3) := by decide +kernel
theorem qd_H_node_18 : decode qc_H_node 18 = .ok (.dup, 1) := by decide +kernel
theorem qd_H_node_19 : decode qc_H_node 19 = .ok (.ldc 152, 2) := by decide +kernel
theorem qd_H_node_21 : decode qc_H_node 21 = .ok (.invokespecial 154, 3) := by decide +kernel
theorem qd_H_node_24 : decode qc_H_node 24 = .ok (.athrow, 1) := by decide +kernel
theorem qd_H_node_25 : decode qc_H_node 25 = .ok (.iload_n 2, 1) := by decide +kernel
theorem qd_H_node_26 : decode qc_H_node 26 = .ok (.ifCond .lt 8, 3) := by decide +kernel
theorem qd_H_node_29 : decode qc_H_node 29 = .ok (.iload_n 2, 1) := by decide +kernel
theorem qd_H_node_30 : decode qc_H_node 30 = .ok (.iconst 4, 1) := by decide +kernel
theorem qd_H_node_31 : decode qc_H_node 31 = .ok (.if_icmp .lt 13, 3) := by decide +kernel
theorem qd_H_node_34 : decode qc_H_node 34 = .ok (.new 74, 3) := by decide +kernel
theorem qd_H_node_37 : decode qc_H_node 37 = .ok (.dup, 1) := by decide +kernel
theorem qd_H_node_38 : decode qc_H_node 38 = .ok (.ldc 155, 2) := by decide +kernel
theorem qd_H_node_40 : decode qc_H_node 40 = .ok (.invokespecial 78, 3) := by decide +kernel
theorem qd_H_node_43 : decode qc_H_node 43 = .ok (.athrow, 1) := by decide +kernel
theorem qd_H_node_44 : decode qc_H_node 44 = .ok (.aload_n 0, 1) := by decide +kernel
theorem qd_H_node_45 : decode qc_H_node 45 = .ok (.getfield 35, 3) := by decide +kernel
theorem qd_H_node_48 : decode qc_H_node 48 = .ok (.iload_n 1, 1) := by decide +kernel
theorem qd_H_node_49 : decode qc_H_node 49 = .ok (.iload_n 2, 1) := by decide +kernel
theorem qd_H_node_50 : decode qc_H_node 50 = .ok (.invokevirtual 157, 3) := by decide +kernel
theorem qd_H_node_53 : decode qc_H_node 53 = .ok (.ireturn, 1) := by decide +kernel
set_option maxHeartbeats 4000000 in
set_option maxRecDepth 100000 in
theorem c_H_node (l : Launch) (hl9 : l.stackTraces = false) (dC : Nat → ClassId) (dI : Nat → Nat → Nat) (cA : ClassId) (aH aF aO aT aTf aC aG aR : Nat) (sz : Nat) (vTS : Int32) (vTf : (Nat → Int32)) (p0 : Int32) (p1 : Int32) (ho : o_H_node vTS vTf p0 p1) : vx_Met l qy_H_node qw_H_node ({ frames := 6, cells := 1, slots := 6, locals := 90 }) (va_Pc [.ref aH, .int p0, .int p1] (xPT (dC, dI) [(cA, .int)] [(aH, .inr (6, [.ref aG, .ref aR, .ref aC, .ref aT, .ref aF, .ref aO])), (aT, .inr (5, [.ref aTf, .int vTS])), (aTf, .inl (cA, 1880, .inl (vTf)))] sz)) (va_Qi (fun r (u : Int32 × Int32) => u = f_H_node vTS vTf p0 p1 ∧ u.1 = 0 ∧ r = u.2) (fun (u : Int32 × Int32) t => xP (dC, dI) [(cA, .int)] [(aH, .inr (6, [.ref aG, .ref aR, .ref aC, .ref aT, .ref aF, .ref aO])), (aT, .inr (5, [.ref aTf, .int vTS])), (aTf, .inl (cA, 1880, .inl (vTf)))] nestN t ∧ va_D (va_A [(aH, .inr (6, [.ref aG, .ref aR, .ref aC, .ref aT, .ref aF, .ref aO])), (aT, .inr (5, [.ref aTf, .int vTS])), (aTf, .inl (cA, 1880, .inl (vTf)))] sz) [(aH, .inr (6, [.ref aG, .ref aR, .ref aC, .ref aT, .ref aF, .ref aO])), (aT, .inr (5, [.ref aTf, .int vTS])), (aTf, .inl (cA, 1880, .inl (vTf)))]) (va_A [(aH, .inr (6, [.ref aG, .ref aR, .ref aC, .ref aT, .ref aF, .ref aO])), (aT, .inr (5, [.ref aTf, .int vTS])), (aTf, .inl (cA, 1880, .inl (vTf)))] sz)) (vx_X (fun (u : Int32 × Int32) => u = f_H_node vTS vTf p0 p1 ∧ ¬ u.1 = 0) (fun E u t => E = exN u.1 ∧ va_P (dC, dI) vwCl [(aH, .inr (6, [.ref aG, .ref aR, .ref aC, .ref aT, .ref aF, .ref aO])), (aT, .inr (5, [.ref aTf, .int vTS])), (aTf, .inl (cA, 1880, .inl (vTf)))] t.heap ∧ va_D (va_A [(aH, .inr (6, [.ref aG, .ref aR, .ref aC, .ref aT, .ref aF, .ref aO])), (aT, .inr (5, [.ref aTf, .int vTS])), (aTf, .inl (cA, 1880, .inl (vTf)))] sz) [(aH, .inr (6, [.ref aG, .ref aR, .ref aC, .ref aT, .ref aF, .ref aO])), (aT, .inr (5, [.ref aTf, .int vTS])), (aTf, .inl (cA, 1880, .inl (vTf)))]) (va_A [(aH, .inr (6, [.ref aG, .ref aR, .ref aC, .ref aT, .ref aF, .ref aO])), (aT, .inr (5, [.ref aTf, .int vTS])), (aTf, .inl (cA, 1880, .inl (vTf)))] sz)) 1 6 (va_A [(aH, .inr (6, [.ref aG, .ref aR, .ref aC, .ref aT, .ref aF, .ref aO])), (aT, .inr (5, [.ref aTf, .int vTS])), (aTf, .inl (cA, 1880, .inl (vTf)))] sz) := by
  refine vx_ofW (cc := qc_H_node) (maxL := 3) (ret := (some .int)) (by decide) rfl ?_
  intro p e s m args below meth c s₁ B hml hout hv
  obtain ⟨rfl, hsz, ⟨hP, hK, hN⟩, hD0, hT⟩ := hv
  have hx := B.exec
  have hb := B.bytes
  have hr := B.returns
  have hts := atoms_spec (ws := qw_H_node) B.pre
  have hg : ∀ w ∈ gG, w.before _ s = true := fun w h => hts w (List.mem_cons_of_mem _ h)
  have hown : s.vm.findClass qR_H = some m.cls := findClass_of_methodNamed B.named
  have hlocks := B.notSynchronized
  subst hsz
  have hD := hD0.self (sz := s.heap.size)
  generalize hAe : va_A [(aH, .inr (6, [.ref aG, .ref aR, .ref aC, .ref aT, .ref aF, .ref aO])), (aT, .inr (5, [.ref aTf, .int vTS])), (aTf, .inl (cA, 1880, .inl (vTf)))] s.heap.size = A at hD hT ⊢
  have hA : ∀ q : Nat, s.heap.size ≤ q → A q := fun q h => by rw [← hAe]; exact Or.inr h
  have hS : va_S A s.heap s.heap [] := va_S.rf
  have hP : va_P (dC, dI) vwCl [(aH, .inr (6, [.ref aG, .ref aR, .ref aC, .ref aT, .ref aF, .ref aO])), (aT, .inr (5, [.ref aTf, .int vTS])), (aTf, .inl (cA, 1880, .inl (vTf)))] s.heap := hP
  have hl := lv_entry ([.ref aH, .int p0, .int p1]) (n := 3) (Nat.le_of_ble_eq_true rfl)
  rw [lg_entry_eq]
  generalize (lg_sl ([.ref aH, .int p0, .int p1]) ++ List.replicate (3 - (lg_sl ([.ref aH, .int p0, .int p1])).length) Slot.unset).toArray = ls at hl ⊢
  have hl : lv_has ls 3 [(0, .ref aH), (1, .int p0), (2, .int p1)] := hl
  generalize hF : f_H_node vTS vTf p0 p1 = Fv
  have hres : Fv = f_H_node vTS vTf p0 p1 := hF.symm
  unfold f_H_node at hres
  unfold o_H_node at ho
  refine lv_iload_n hx hb qd_H_node_0 rfl (lv_at hl 1 rfl) ?_
  refine lv_if_lt (tgt := 15) hx hb qd_H_node_1 (by decide) (fun c_1 => ?_) (fun c_1 => ?_)
  · have hres := hres.trans (if_pos c_1)
    have ho := (if_pos c_1).mp ho
    refine xt_throw (code := (fun u => u.1)) (w1 := fun (u : Int32 × Int32) => [(aH, .inr (6, [.ref aG, .ref aR, .ref aC, .ref aT, .ref aF, .ref aO])), (aT, .inr (5, [.ref aTf, .int vTS])), (aTf, .inl (cA, 1880, .inl (vTf)))]) 4 hx hb hl9 hown hg hT mw_345 mw_17 (List.mem_of_getElem? (i := 9) rfl) qa_154 (by decide +kernel) hS (hl.1.trans hml.symm) qd_H_node_15 qd_H_node_18 qd_H_node_19 qd_H_node_21 qd_H_node_24 hout ?_ ?_ ?_ ?_ hlocks hP hD (4, 0) hres ?_ ?_ ?_ hS.2.2 ?_ ?_
    all_goals first | exact Nat.le_of_ble_eq_true rfl | rfl | decide
  have hres := hres.trans (if_neg c_1)
  have ho := (if_neg c_1).mp ho
  refine lv_iload_n hx hb qd_H_node_4 rfl (lv_at hl 1 rfl) ?_
  refine lv_aload_n hx hb qd_H_node_5 rfl (lv_at hl 0 rfl) ?_
  refine va_get (D := (dC, dI)) (ci := 6) (v := .ref aT) (C := qR_H) (T := qT_H) (N := 6) hx hb hg qi_H hown hK hP 0 rfl rfl 3 (by decide) (hg _ mw_136) (fun _ h9 => h9) rfl qd_H_node_6 ?_
  refine xc_V (As := []) (rest := [.int p0]) ⟨hx, hb, hml, hown, hg⟩ (c_T_size l dC dI cA aT aTf vTS) (cwV 0 hg (q_gV mw_513 mw_514 mw_515 mw_5 mw_516) rfl rfl rfl qh_T_size ⟨Nat.le_of_ble_eq_true rfl, Nat.le_of_ble_eq_true rfl⟩) hN hK hP [1] rfl 0 5 rfl rfl rfl hl.1 rfl (Nat.le_of_ble_eq_true rfl) qd_H_node_9 ⟨Nat.le_of_ble_eq_true rfl, Nat.le_of_ble_eq_true rfl⟩ ?_
  refine lv_icmp_lt (tgt := 25) hx hb qd_H_node_12 (by decide) (fun c_12 => ?_) (fun c_12 => ?_)
  · have hres := hres.trans (if_pos c_12)
    have ho := (if_pos c_12).mp ho
    refine lv_iload_n hx hb qd_H_node_25 rfl (lv_at hl 2 rfl) ?_
    refine lv_if_lt (tgt := 34) hx hb qd_H_node_26 (by decide) (fun c_26 => ?_) (fun c_26 => ?_)
    · have hres := hres.trans (if_pos c_26)
      have ho := (if_pos c_26).mp ho
      refine xt_throw (code := (fun u => u.1)) (w1 := fun (u : Int32 × Int32) => [(aH, .inr (6, [.ref aG, .ref aR, .ref aC, .ref aT, .ref aF, .ref aO])), (aT, .inr (5, [.ref aTf, .int vTS])), (aTf, .inl (cA, 1880, .inl (vTf)))]) 1 hx hb hl9 hown hg hT mw_187 mw_13 (List.mem_of_getElem? (i := 10) rfl) qa_78 (by decide +kernel) hS (hl.1.trans hml.symm) qd_H_node_34 qd_H_node_37 qd_H_node_38 qd_H_node_40 qd_H_node_43 hout ?_ ?_ ?_ ?_ hlocks hP hD (1, 0) hres ?_ ?_ ?_ hS.2.2 ?_ ?_
      all_goals first | exact Nat.le_of_ble_eq_true rfl | rfl | decide
    have hres := hres.trans (if_neg c_26)
    have ho := (if_neg c_26).mp ho
    refine lv_iload_n hx hb qd_H_node_29 rfl (lv_at hl 2 rfl) ?_
    refine lv_iconst (v := 4) hx hb qd_H_node_30 (by decide) ?_
    refine lv_icmp_lt (tgt := 44) hx hb qd_H_node_31 (by decide) (fun c_31 => ?_) (fun c_31 => ?_)
    · have hres := hres.trans (if_pos c_31)
      have ho := (if_pos c_31).mp ho
      refine lv_aload_n hx hb qd_H_node_44 rfl (lv_at hl 0 rfl) ?_
      refine va_get (D := (dC, dI)) (ci := 6) (v := .ref aT) (C := qR_H) (T := qT_H) (N := 6) hx hb hg qi_H hown hK hP 0 rfl rfl 3 (by decide) (hg _ mw_136) (fun _ h9 => h9) rfl qd_H_node_45 ?_
      refine lv_iload_n hx hb qd_H_node_48 rfl (lv_at hl 1 rfl) ?_
      refine lv_iload_n hx hb qd_H_node_49 rfl (lv_at hl 2 rfl) ?_
      obtain ⟨g_50, ho⟩ := ho
      refine xc_V (As := [.int p0, .int p1]) (rest := []) ⟨hx, hb, hml, hown, hg⟩ (c_T_fact l dC dI cA aT aTf vTS vTf p0 p1 g_50) (cwV 2 hg (q_gV mw_524 mw_525 mw_526 mw_5 mw_527) rfl rfl rfl qh_T_fact ⟨Nat.le_of_ble_eq_true rfl, Nat.le_of_ble_eq_true rfl⟩) hN hK hP [1, 2] rfl 0 5 rfl rfl rfl hl.1 rfl (Nat.le_of_ble_eq_true rfl) qd_H_node_50 ⟨Nat.le_of_ble_eq_true rfl, Nat.le_of_ble_eq_true rfl⟩ ?_
      refine lv_topi (fun r_50 w_50 => ?_)
      have hres := hres.trans (bd_eq w_50)
      have ho := (bd_eq w_50).mp ho
      refine vx_ret ?_
      refine W.widen (k := 1) (n := 6) (Nat.le_of_ble_eq_true rfl) (Nat.le_of_ble_eq_true rfl) ?_
      exact W.iret (v := r_50) hx hb hr (fun t ht hW => ⟨⟨_, (0, r_50), rfl, ⟨hres.symm, rfl, rfl⟩, ⟨by rw [ht]; exact hP, va_K.moved hW.alike hK, x_N hN hW⟩, hD⟩, hS.F ht⟩) hS.2.2 qd_H_node_53
    have hres := hres.trans (if_neg c_31)
    have ho := (if_neg c_31).mp ho
    refine xt_throw (code := (fun u => u.1)) (w1 := fun (u : Int32 × Int32) => [(aH, .inr (6, [.ref aG, .ref aR, .ref aC, .ref aT, .ref aF, .ref aO])), (aT, .inr (5, [.ref aTf, .int vTS])), (aTf, .inl (cA, 1880, .inl (vTf)))]) 1 hx hb hl9 hown hg hT mw_187 mw_13 (List.mem_of_getElem? (i := 10) rfl) qa_78 (by decide +kernel) hS (hl.1.trans hml.symm) qd_H_node_34 qd_H_node_37 qd_H_node_38 qd_H_node_40 qd_H_node_43 hout ?_ ?_ ?_ ?_ hlocks hP hD (1, 0) hres ?_ ?_ ?_ hS.2.2 ?_ ?_
    all_goals first | exact Nat.le_of_ble_eq_true rfl | rfl | decide
  have hres := hres.trans (if_neg c_12)
  have ho := (if_neg c_12).mp ho
  refine xt_throw (code := (fun u => u.1)) (w1 := fun (u : Int32 × Int32) => [(aH, .inr (6, [.ref aG, .ref aR, .ref aC, .ref aT, .ref aF, .ref aO])), (aT, .inr (5, [.ref aTf, .int vTS])), (aTf, .inl (cA, 1880, .inl (vTf)))]) 4 hx hb hl9 hown hg hT mw_345 mw_17 (List.mem_of_getElem? (i := 9) rfl) qa_154 (by decide +kernel) hS (hl.1.trans hml.symm) qd_H_node_15 qd_H_node_18 qd_H_node_19 qd_H_node_21 qd_H_node_24 hout ?_ ?_ ?_ ?_ hlocks hP hD (4, 0) hres ?_ ?_ ?_ hS.2.2 ?_ ?_
  all_goals first | exact Nat.le_of_ble_eq_true rfl | rfl | decide
theorem qd_H_count_0 : decode qc_H_count 0 = .ok (.aload_n 0, 1) := by decide +kernel
theorem qd_H_count_1 : decode qc_H_count 1 = .ok (.iload_n 1, 1) := by decide +kernel
theorem qd_H_count_2 : decode qc_H_count 2 = .ok (.iload_n 2, 1) := by decide +kernel
theorem qd_H_count_3 : decode qc_H_count 3 = .ok (.iload_n 3, 1) := by decide +kernel
theorem qd_H_count_4 : decode qc_H_count 4 = .ok (.invokevirtual 121, 3) := by decide +kernel
theorem qd_H_count_7 : decode qc_H_count 7 = .ok (.aload_n 0, 1) := by decide +kernel
theorem qd_H_count_8 : decode qc_H_count 8 = .ok (.getfield 28, 3) := by decide +kernel
theorem qd_H_count_11 : decode qc_H_count 11 = .ok (.iload_n 3, 1) := by decide +kernel
theorem qd_H_count_12 : decode qc_H_count 12 = .ok (.invokevirtual 125, 3) := by decide +kernel
theorem qd_H_count_15 : decode qc_H_count 15 = .ok (.aload_n 0, 1) := by decide +kernel
theorem qd_H_count_16 : decode qc_H_count 16 = .ok (.getfield 28, 3) := by decide +kernel
theorem qd_H_count_19 : decode qc_H_count 19 = .ok (.iload_n 1, 1) := by decide +kernel
theorem qd_H_count_20 : decode qc_H_count 20 = .ok (.iload_n 2, 1) := by decide +kernel
theorem qd_H_count_21 : decode qc_H_count 21 = .ok (.iload_n 3, 1) := by decide +kernel
theorem qd_H_count_22 : decode qc_H_count 22 = .ok (.invokevirtual 128, 3) := by decide +kernel
theorem qd_H_count_25 : decode qc_H_count 25 = .ok (.ireturn, 1) := by decide +kernel
set_option maxHeartbeats 4000000 in
set_option maxRecDepth 100000 in
theorem c_H_count (l : Launch) (hl9 : l.stackTraces = false) (dC : Nat → ClassId) (dI : Nat → Nat → Nat) (cA : ClassId) (N_ : Nat) (aH aF aO aT aC aCn aCc aCr aCs aG aGh aGi aGc aGo aGr aR aRt : Nat) (sz : Nat) (vCF : Int32) (vCn : (Nat → Int32)) (vCc : (Nat → Int32)) (vCr : (Nat → Int32)) (vCs : (Nat → Int32)) (vGF : Int32) (vGS : Int32) (vGh : (Nat → Int32)) (vGi : (Nat → Int32)) (vGc : (Nat → Int32)) (vGo : (Nat → Int32)) (vRL : Int32) (vRt : (Nat → Int32)) (p0 : Int32) (p1 : Int32) (p2 : Int32) (ho : o_H_count N_ vCF vCn vCc vCr vCs vGS vGh vGi vGc vGo vRL vRt p0 p1 p2) : vx_Met l qy_H_count qw_H_count ({ frames := 7, cells := 1, slots := 6, locals := 148 }) (va_Pc [.ref aH, .int p0, .int p1, .int p2] (xPT (dC, dI) [(cA, .int)] [(aH, .inr (6, [.ref aG, .ref aR, .ref aC, .ref aT, .ref aF, .ref aO])), (aC, .inr (0, [.ref aG, .ref aR, .ref aCn, .ref aCc, .ref aCr, .ref aCs, .int vCF])), (aCn, .inl (cA, 5760, .inl (vCn))), (aCc, .inl (cA, 5760, .inl (vCc))), (aCr, .inl (cA, 600, .inl (vCr))), (aCs, .inl (cA, 600, .inl (vCs))), (aG, .inr (2, [.ref aGh, .ref aGi, .ref aGc, .ref aGo, .ref aGr, .int vGF, .int vGS])), (aGh, .inl (cA, 24, .inl (vGh))), (aGi, .inl (cA, 72, .inl (vGi))), (aGc, .inl (cA, 24, .inl (vGc))), (aGo, .inl (cA, 24, .inl (vGo))), (aR, .inr (4, [.ref aRt, .int vRL])), (aRt, .inl (cA, 24, .inl (vRt)))] sz)) (va_Qi (fun r (u : Int32 × Int32 × Int32 × (Nat → Int32) × (Nat → Int32) × (Nat → Int32) × (Nat → Int32)) => u = f_H_count N_ vCF vCn vCc vCr vCs vGS vGh vGi vGc vGo vRL vRt p0 p1 p2 ∧ u.1 = 0 ∧ r = u.2.1) (fun (u : Int32 × Int32 × Int32 × (Nat → Int32) × (Nat → Int32) × (Nat → Int32) × (Nat → Int32)) t => xP (dC, dI) [(cA, .int)] [(aH, .inr (6, [.ref aG, .ref aR, .ref aC, .ref aT, .ref aF, .ref aO])), (aC, .inr (0, [.ref aG, .ref aR, .ref aCn, .ref aCc, .ref aCr, .ref aCs, .int u.2.2.1])), (aCn, .inl (cA, 5760, .inl (u.2.2.2.1))), (aCc, .inl (cA, 5760, .inl (u.2.2.2.2.1))), (aCr, .inl (cA, 600, .inl (u.2.2.2.2.2.1))), (aCs, .inl (cA, 600, .inl (u.2.2.2.2.2.2))), (aG, .inr (2, [.ref aGh, .ref aGi, .ref aGc, .ref aGo, .ref aGr, .int vGF, .int vGS])), (aGh, .inl (cA, 24, .inl (vGh))), (aGi, .inl (cA, 72, .inl (vGi))), (aGc, .inl (cA, 24, .inl (vGc))), (aGo, .inl (cA, 24, .inl (vGo))), (aR, .inr (4, [.ref aRt, .int vRL])), (aRt, .inl (cA, 24, .inl (vRt)))] nestN t ∧ va_D (va_A [(aH, .inr (6, [.ref aG, .ref aR, .ref aC, .ref aT, .ref aF, .ref aO])), (aC, .inr (0, [.ref aG, .ref aR, .ref aCn, .ref aCc, .ref aCr, .ref aCs, .int vCF])), (aCn, .inl (cA, 5760, .inl (vCn))), (aCc, .inl (cA, 5760, .inl (vCc))), (aCr, .inl (cA, 600, .inl (vCr))), (aCs, .inl (cA, 600, .inl (vCs))), (aG, .inr (2, [.ref aGh, .ref aGi, .ref aGc, .ref aGo, .ref aGr, .int vGF, .int vGS])), (aGh, .inl (cA, 24, .inl (vGh))), (aGi, .inl (cA, 72, .inl (vGi))), (aGc, .inl (cA, 24, .inl (vGc))), (aGo, .inl (cA, 24, .inl (vGo))), (aR, .inr (4, [.ref aRt, .int vRL])), (aRt, .inl (cA, 24, .inl (vRt)))] sz) [(aH, .inr (6, [.ref aG, .ref aR, .ref aC, .ref aT, .ref aF, .ref aO])), (aC, .inr (0, [.ref aG, .ref aR, .ref aCn, .ref aCc, .ref aCr, .ref aCs, .int u.2.2.1])), (aCn, .inl (cA, 5760, .inl (u.2.2.2.1))), (aCc, .inl (cA, 5760, .inl (u.2.2.2.2.1))), (aCr, .inl (cA, 600, .inl (u.2.2.2.2.2.1))), (aCs, .inl (cA, 600, .inl (u.2.2.2.2.2.2))), (aG, .inr (2, [.ref aGh, .ref aGi, .ref aGc, .ref aGo, .ref aGr, .int vGF, .int vGS])), (aGh, .inl (cA, 24, .inl (vGh))), (aGi, .inl (cA, 72, .inl (vGi))), (aGc, .inl (cA, 24, .inl (vGc))), (aGo, .inl (cA, 24, .inl (vGo))), (aR, .inr (4, [.ref aRt, .int vRL])), (aRt, .inl (cA, 24, .inl (vRt)))]) (va_A [(aH, .inr (6, [.ref aG, .ref aR, .ref aC, .ref aT, .ref aF, .ref aO])), (aC, .inr (0, [.ref aG, .ref aR, .ref aCn, .ref aCc, .ref aCr, .ref aCs, .int vCF])), (aCn, .inl (cA, 5760, .inl (vCn))), (aCc, .inl (cA, 5760, .inl (vCc))), (aCr, .inl (cA, 600, .inl (vCr))), (aCs, .inl (cA, 600, .inl (vCs))), (aG, .inr (2, [.ref aGh, .ref aGi, .ref aGc, .ref aGo, .ref aGr, .int vGF, .int vGS])), (aGh, .inl (cA, 24, .inl (vGh))), (aGi, .inl (cA, 72, .inl (vGi))), (aGc, .inl (cA, 24, .inl (vGc))), (aGo, .inl (cA, 24, .inl (vGo))), (aR, .inr (4, [.ref aRt, .int vRL])), (aRt, .inl (cA, 24, .inl (vRt)))] sz)) (vx_X (fun (u : Int32 × Int32 × Int32 × (Nat → Int32) × (Nat → Int32) × (Nat → Int32) × (Nat → Int32)) => u = f_H_count N_ vCF vCn vCc vCr vCs vGS vGh vGi vGc vGo vRL vRt p0 p1 p2 ∧ ¬ u.1 = 0) (fun E u t => E = exN u.1 ∧ va_P (dC, dI) vwCl [(aH, .inr (6, [.ref aG, .ref aR, .ref aC, .ref aT, .ref aF, .ref aO])), (aC, .inr (0, [.ref aG, .ref aR, .ref aCn, .ref aCc, .ref aCr, .ref aCs, .int u.2.2.1])), (aCn, .inl (cA, 5760, .inl (u.2.2.2.1))), (aCc, .inl (cA, 5760, .inl (u.2.2.2.2.1))), (aCr, .inl (cA, 600, .inl (u.2.2.2.2.2.1))), (aCs, .inl (cA, 600, .inl (u.2.2.2.2.2.2))), (aG, .inr (2, [.ref aGh, .ref aGi, .ref aGc, .ref aGo, .ref aGr, .int vGF, .int vGS])), (aGh, .inl (cA, 24, .inl (vGh))), (aGi, .inl (cA, 72, .inl (vGi))), (aGc, .inl (cA, 24, .inl (vGc))), (aGo, .inl (cA, 24, .inl (vGo))), (aR, .inr (4, [.ref aRt, .int vRL])), (aRt, .inl (cA, 24, .inl (vRt)))] t.heap ∧ va_D (va_A [(aH, .inr (6, [.ref aG, .ref aR, .ref aC, .ref aT, .ref aF, .ref aO])), (aC, .inr (0, [.ref aG, .ref aR, .ref aCn, .ref aCc, .ref aCr, .ref aCs, .int vCF])), (aCn, .inl (cA, 5760, .inl (vCn))), (aCc, .inl (cA, 5760, .inl (vCc))), (aCr, .inl (cA, 600, .inl (vCr))), (aCs, .inl (cA, 600, .inl (vCs))), (aG, .inr (2, [.ref aGh, .ref aGi, .ref aGc, .ref aGo, .ref aGr, .int vGF, .int vGS])), (aGh, .inl (cA, 24, .inl (vGh))), (aGi, .inl (cA, 72, .inl (vGi))), (aGc, .inl (cA, 24, .inl (vGc))), (aGo, .inl (cA, 24, .inl (vGo))), (aR, .inr (4, [.ref aRt, .int vRL])), (aRt, .inl (cA, 24, .inl (vRt)))] sz) [(aH, .inr (6, [.ref aG, .ref aR, .ref aC, .ref aT, .ref aF, .ref aO])), (aC, .inr (0, [.ref aG, .ref aR, .ref aCn, .ref aCc, .ref aCr, .ref aCs, .int u.2.2.1])), (aCn, .inl (cA, 5760, .inl (u.2.2.2.1))), (aCc, .inl (cA, 5760, .inl (u.2.2.2.2.1))), (aCr, .inl (cA, 600, .inl (u.2.2.2.2.2.1))), (aCs, .inl (cA, 600, .inl (u.2.2.2.2.2.2))), (aG, .inr (2, [.ref aGh, .ref aGi, .ref aGc, .ref aGo, .ref aGr, .int vGF, .int vGS])), (aGh, .inl (cA, 24, .inl (vGh))), (aGi, .inl (cA, 72, .inl (vGi))), (aGc, .inl (cA, 24, .inl (vGc))), (aGo, .inl (cA, 24, .inl (vGo))), (aR, .inr (4, [.ref aRt, .int vRL])), (aRt, .inl (cA, 24, .inl (vRt)))]) (va_A [(aH, .inr (6, [.ref aG, .ref aR, .ref aC, .ref aT, .ref aF, .ref aO])), (aC, .inr (0, [.ref aG, .ref aR, .ref aCn, .ref aCc, .ref aCr, .ref aCs, .int vCF])), (aCn, .inl (cA, 5760, .inl (vCn))), (aCc, .inl (cA, 5760, .inl (vCc))), (aCr, .inl (cA, 600, .inl (vCr))), (aCs, .inl (cA, 600, .inl (vCs))), (aG, .inr (2, [.ref aGh, .ref aGi, .ref aGc, .ref aGo, .ref aGr, .int vGF, .int vGS])), (aGh, .inl (cA, 24, .inl (vGh))), (aGi, .inl (cA, 72, .inl (vGi))), (aGc, .inl (cA, 24, .inl (vGc))), (aGo, .inl (cA, 24, .inl (vGo))), (aR, .inr (4, [.ref aRt, .int vRL])), (aRt, .inl (cA, 24, .inl (vRt)))] sz)) 1 6 (va_A [(aH, .inr (6, [.ref aG, .ref aR, .ref aC, .ref aT, .ref aF, .ref aO])), (aC, .inr (0, [.ref aG, .ref aR, .ref aCn, .ref aCc, .ref aCr, .ref aCs, .int vCF])), (aCn, .inl (cA, 5760, .inl (vCn))), (aCc, .inl (cA, 5760, .inl (vCc))), (aCr, .inl (cA, 600, .inl (vCr))), (aCs, .inl (cA, 600, .inl (vCs))), (aG, .inr (2, [.ref aGh, .ref aGi, .ref aGc, .ref aGo, .ref aGr, .int vGF, .int vGS])), (aGh, .inl (cA, 24, .inl (vGh))), (aGi, .inl (cA, 72, .inl (vGi))), (aGc, .inl (cA, 24, .inl (vGc))), (aGo, .inl (cA, 24, .inl (vGo))), (aR, .inr (4, [.ref aRt, .int vRL])), (aRt, .inl (cA, 24, .inl (vRt)))] sz) := by
  refine vx_ofW (cc := qc_H_count) (maxL := 4) (ret := (some .int)) (by decide) rfl ?_
  intro p e s m args below meth c s₁ B hml hout hv
  obtain ⟨rfl, hsz, ⟨hP, hK, hN⟩, hD0, hT⟩ := hv
  have hx := B.exec
  have hb := B.bytes
  have hr := B.returns
  have hts := atoms_spec (ws := qw_H_count) B.pre
  have hg : ∀ w ∈ gG, w.before _ s = true := fun w h => hts w (List.mem_cons_of_mem _ h)
  have hown : s.vm.findClass qR_H = some m.cls := findClass_of_methodNamed B.named
  have hlocks := B.notSynchronized
  subst hsz
  have hD := hD0.self (sz := s.heap.size)
  generalize hAe : va_A [(aH, .inr (6, [.ref aG, .ref aR, .ref aC, .ref aT, .ref aF, .ref aO])), (aC, .inr (0, [.ref aG, .ref aR, .ref aCn, .ref aCc, .ref aCr, .ref aCs, .int vCF])), (aCn, .inl (cA, 5760, .inl (vCn))), (aCc, .inl (cA, 5760, .inl (vCc))), (aCr, .inl (cA, 600, .inl (vCr))), (aCs, .inl (cA, 600, .inl (vCs))), (aG, .inr (2, [.ref aGh, .ref aGi, .ref aGc, .ref aGo, .ref aGr, .int vGF, .int vGS])), (aGh, .inl (cA, 24, .inl (vGh))), (aGi, .inl (cA, 72, .inl (vGi))), (aGc, .inl (cA, 24, .inl (vGc))), (aGo, .inl (cA, 24, .inl (vGo))), (aR, .inr (4, [.ref aRt, .int vRL])), (aRt, .inl (cA, 24, .inl (vRt)))] s.heap.size = A at hD hT ⊢
  have hA : ∀ q : Nat, s.heap.size ≤ q → A q := fun q h => by rw [← hAe]; exact Or.inr h
  have hS : va_S A s.heap s.heap [] := va_S.rf
  have hP : va_P (dC, dI) vwCl [(aH, .inr (6, [.ref aG, .ref aR, .ref aC, .ref aT, .ref aF, .ref aO])), (aC, .inr (0, [.ref aG, .ref aR, .ref aCn, .ref aCc, .ref aCr, .ref aCs, .int vCF])), (aCn, .inl (cA, 5760, .inl (vCn))), (aCc, .inl (cA, 5760, .inl (vCc))), (aCr, .inl (cA, 600, .inl (vCr))), (aCs, .inl (cA, 600, .inl (vCs))), (aG, .inr (2, [.ref aGh, .ref aGi, .ref aGc, .ref aGo, .ref aGr, .int vGF, .int vGS])), (aGh, .inl (cA, 24, .inl (vGh))), (aGi, .inl (cA, 72, .inl (vGi))), (aGc, .inl (cA, 24, .inl (vGc))), (aGo, .inl (cA, 24, .inl (vGo))), (aR, .inr (4, [.ref aRt, .int vRL])), (aRt, .inl (cA, 24, .inl (vRt)))] s.heap := hP
  have hl := lv_entry ([.ref aH, .int p0, .int p1, .int p2]) (n := 4) (Nat.le_of_ble_eq_true rfl)
  rw [lg_entry_eq]
  generalize (lg_sl ([.ref aH, .int p0, .int p1, .int p2]) ++ List.replicate (4 - (lg_sl ([.ref aH, .int p0, .int p1, .int p2])).length) Slot.unset).toArray = ls at hl ⊢
  have hl : lv_has ls 4 [(0, .ref aH), (1, .int p0), (2, .int p1), (3, .int p2)] := hl
  generalize hF : f_H_count N_ vCF vCn vCc vCr vCs vGS vGh vGi vGc vGo vRL vRt p0 p1 p2 = Fv
  have hres : Fv = f_H_count N_ vCF vCn vCc vCr vCs vGS vGh vGi vGc vGo vRL vRt p0 p1 p2 := hF.symm
  unfold f_H_count at hres
  unfold o_H_count at ho
  refine lv_aload_n hx hb qd_H_count_0 rfl (lv_at hl 0 rfl) ?_
  refine lv_iload_n hx hb qd_H_count_1 rfl (lv_at hl 1 rfl) ?_
  refine lv_iload_n hx hb qd_H_count_2 rfl (lv_at hl 2 rfl) ?_
  refine lv_iload_n hx hb qd_H_count_3 rfl (lv_at hl 3 rfl) ?_
  refine xt_V (As := [.int p0, .int p1, .int p2]) (rest := []) (code := fun u => u) (w1 := fun (_ : Int32) => [(aH, .inr (6, [.ref aG, .ref aR, .ref aC, .ref aT, .ref aF, .ref aO])), (aR, .inr (4, [.ref aRt, .int vRL]))]) (w2 := fun (_ : Int32) => [(aH, .inr (6, [.ref aG, .ref aR, .ref aC, .ref aT, .ref aF, .ref aO])), (aC, .inr (0, [.ref aG, .ref aR, .ref aCn, .ref aCc, .ref aCr, .ref aCs, .int vCF])), (aCn, .inl (cA, 5760, .inl (vCn))), (aCc, .inl (cA, 5760, .inl (vCc))), (aCr, .inl (cA, 600, .inl (vCr))), (aCs, .inl (cA, 600, .inl (vCs))), (aG, .inr (2, [.ref aGh, .ref aGi, .ref aGc, .ref aGo, .ref aGr, .int vGF, .int vGS])), (aGh, .inl (cA, 24, .inl (vGh))), (aGi, .inl (cA, 72, .inl (vGi))), (aGc, .inl (cA, 24, .inl (vGc))), (aGo, .inl (cA, 24, .inl (vGo))), (aR, .inr (4, [.ref aRt, .int vRL])), (aRt, .inl (cA, 24, .inl (vRt)))]) ⟨hx, hb, hml, hown, hg⟩ (c_H_checkPart l hl9 dC dI cA aH aF aO aT aC aG aR aRt _ vRL p0 p1 p2) (cwV 3 hg (q_gV mw_342 mw_343 mw_749 mw_1 mw_344) rfl rfl rfl qh_H_checkPart ⟨Nat.le_of_ble_eq_true rfl, Nat.le_of_ble_eq_true rfl⟩) hN hT hK hP hD hS hA [0, 11] [1, 2, 3, 4, 5, 6, 7, 8, 9, 10, 12] rfl rfl (by decide) (by decide) (by decide) [11, 0, 1, 2, 3, 4, 5, 6, 7, 8, 9, 12, 10] (fun _ => rfl) (by decide) 0 6 rfl rfl rfl hl.1 rfl (Nat.le_of_ble_eq_true rfl) qd_H_count_4 ⟨Nat.le_of_ble_eq_true rfl, Nat.le_of_ble_eq_true rfl⟩ (fun u_4 q9 ce H locs w_4 hz hP hD hS hce hcv hcl => ?_) (fun u_4 H locs w_4 hz hP hD hS => ?_)
  · have hres := (hres.trans (bd_eq w_4)).trans (if_neg hz)
    refine xt_out (code := (fun u => u.1)) (w1 := fun (u : Int32 × Int32 × Int32 × (Nat → Int32) × (Nat → Int32) × (Nat → Int32) × (Nat → Int32)) => [(aH, .inr (6, [.ref aG, .ref aR, .ref aC, .ref aT, .ref aF, .ref aO])), (aC, .inr (0, [.ref aG, .ref aR, .ref aCn, .ref aCc, .ref aCr, .ref aCs, .int u.2.2.1])), (aCn, .inl (cA, 5760, .inl (u.2.2.2.1))), (aCc, .inl (cA, 5760, .inl (u.2.2.2.2.1))), (aCr, .inl (cA, 600, .inl (u.2.2.2.2.2.1))), (aCs, .inl (cA, 600, .inl (u.2.2.2.2.2.2))), (aG, .inr (2, [.ref aGh, .ref aGi, .ref aGc, .ref aGo, .ref aGr, .int vGF, .int vGS])), (aGh, .inl (cA, 24, .inl (vGh))), (aGi, .inl (cA, 72, .inl (vGi))), (aGc, .inl (cA, 24, .inl (vGc))), (aGo, .inl (cA, 24, .inl (vGo))), (aR, .inr (4, [.ref aRt, .int vRL])), (aRt, .inl (cA, 24, .inl (vRt)))]) hout hlocks u_4 hce hcv hcl hS hP hD (u_4, 0, vCF, vCn, vCc, vCr, vCs) hres ?_ hz ?_ hS.2.2 ?_ ?_
    all_goals first | exact Nat.le_of_ble_eq_true rfl | rfl
  have hres := (hres.trans (bd_eq w_4)).trans (if_pos hz)
  have ho := ((bd_eq w_4).mp ho)
  have ho := (if_pos hz).mp ho
  have hP : va_P (dC, dI) vwCl [(aH, .inr (6, [.ref aG, .ref aR, .ref aC, .ref aT, .ref aF, .ref aO])), (aC, .inr (0, [.ref aG, .ref aR, .ref aCn, .ref aCc, .ref aCr, .ref aCs, .int vCF])), (aCn, .inl (cA, 5760, .inl (vCn))), (aCc, .inl (cA, 5760, .inl (vCc))), (aCr, .inl (cA, 600, .inl (vCr))), (aCs, .inl (cA, 600, .inl (vCs))), (aG, .inr (2, [.ref aGh, .ref aGi, .ref aGc, .ref aGo, .ref aGr, .int vGF, .int vGS])), (aGh, .inl (cA, 24, .inl (vGh))), (aGi, .inl (cA, 72, .inl (vGi))), (aGc, .inl (cA, 24, .inl (vGc))), (aGo, .inl (cA, 24, .inl (vGo))), (aR, .inr (4, [.ref aRt, .int vRL])), (aRt, .inl (cA, 24, .inl (vRt)))] H := hP
  have hD : va_D A [(aH, .inr (6, [.ref aG, .ref aR, .ref aC, .ref aT, .ref aF, .ref aO])), (aC, .inr (0, [.ref aG, .ref aR, .ref aCn, .ref aCc, .ref aCr, .ref aCs, .int vCF])), (aCn, .inl (cA, 5760, .inl (vCn))), (aCc, .inl (cA, 5760, .inl (vCc))), (aCr, .inl (cA, 600, .inl (vCr))), (aCs, .inl (cA, 600, .inl (vCs))), (aG, .inr (2, [.ref aGh, .ref aGi, .ref aGc, .ref aGo, .ref aGr, .int vGF, .int vGS])), (aGh, .inl (cA, 24, .inl (vGh))), (aGi, .inl (cA, 72, .inl (vGi))), (aGc, .inl (cA, 24, .inl (vGc))), (aGo, .inl (cA, 24, .inl (vGo))), (aR, .inr (4, [.ref aRt, .int vRL])), (aRt, .inl (cA, 24, .inl (vRt)))] := hD
  refine W.widen (k := 1) (n := 6) (by omega) (by omega) ?_
  refine lv_aload_n hx hb qd_H_count_7 rfl (lv_at hl 0 rfl) ?_
  refine va_get (D := (dC, dI)) (ci := 6) (v := .ref aC) (C := qR_H) (T := qT_H) (N := 6) hx hb hg qi_H hown hK hP 0 rfl rfl 2 (by decide) (hg _ mw_135) (fun _ h9 => h9) rfl qd_H_count_8 ?_
  refine lv_iload_n hx hb qd_H_count_11 rfl (lv_at hl 3 rfl) ?_
  obtain ⟨g_12, ho⟩ := ho
  refine xm_Vv (As := [.int p2]) (rest := []) (w1 := fun (u_12 : Int32 × (Nat → Int32) × (Nat → Int32) × (Nat → Int32) × (Nat → Int32)) => [(aC, .inr (0, [.ref aG, .ref aR, .ref aCn, .ref aCc, .ref aCr, .ref aCs, .int u_12.1])), (aCn, .inl (cA, 5760, .inl (u_12.2.1))), (aCc, .inl (cA, 5760, .inl (u_12.2.2.1))), (aCr, .inl (cA, 600, .inl (u_12.2.2.2.1))), (aCs, .inl (cA, 600, .inl (u_12.2.2.2.2))), (aG, .inr (2, [.ref aGh, .ref aGi, .ref aGc, .ref aGo, .ref aGr, .int vGF, .int vGS])), (aGh, .inl (cA, 24, .inl (vGh))), (aGi, .inl (cA, 72, .inl (vGi))), (aGc, .inl (cA, 24, .inl (vGc))), (aGo, .inl (cA, 24, .inl (vGo))), (aR, .inr (4, [.ref aRt, .int vRL])), (aRt, .inl (cA, 24, .inl (vRt)))]) (w2 := fun (u_12 : Int32 × (Nat → Int32) × (Nat → Int32) × (Nat → Int32) × (Nat → Int32)) => [(aH, .inr (6, [.ref aG, .ref aR, .ref aC, .ref aT, .ref aF, .ref aO])), (aC, .inr (0, [.ref aG, .ref aR, .ref aCn, .ref aCc, .ref aCr, .ref aCs, .int u_12.1])), (aCn, .inl (cA, 5760, .inl (u_12.2.1))), (aCc, .inl (cA, 5760, .inl (u_12.2.2.1))), (aCr, .inl (cA, 600, .inl (u_12.2.2.2.1))), (aCs, .inl (cA, 600, .inl (u_12.2.2.2.2))), (aG, .inr (2, [.ref aGh, .ref aGi, .ref aGc, .ref aGo, .ref aGr, .int vGF, .int vGS])), (aGh, .inl (cA, 24, .inl (vGh))), (aGi, .inl (cA, 72, .inl (vGi))), (aGc, .inl (cA, 24, .inl (vGc))), (aGo, .inl (cA, 24, .inl (vGo))), (aR, .inr (4, [.ref aRt, .int vRL])), (aRt, .inl (cA, 24, .inl (vRt)))]) ⟨hx, hb, hml, hown, hg⟩ (c_C_fill l dC dI cA N_ aC aCn aCc aCr aCs aG aGh aGi aGc aGo aGr aR aRt _ vCF vCn vCc vCr vCs vGF vGS vGh vGi vGc vGo vRL vRt p2 g_12) (cwV 1 hg (q_gV mw_358 mw_359 mw_360 mw_4 mw_361) rfl rfl rfl qh_C_fill ⟨Nat.le_of_ble_eq_true rfl, Nat.le_of_ble_eq_true rfl⟩) hN hK hP hD hS hA [1, 2, 3, 4, 5, 6, 7, 8, 9, 10, 11, 12] [0] rfl rfl (by decide) (by decide) (by decide) [0, 1, 2, 3, 4, 5, 6, 7, 8, 9, 10, 11, 12] (fun _ => rfl) (by decide) 0 0 rfl rfl rfl hl.1 rfl (Nat.le_of_ble_eq_true rfl) qd_H_count_12 ⟨Nat.le_of_ble_eq_true rfl, Nat.le_of_ble_eq_true rfl⟩ (fun u_12 H locs w_12 hP hD hS => ?_)
  have hP : va_P (dC, dI) vwCl [(aH, .inr (6, [.ref aG, .ref aR, .ref aC, .ref aT, .ref aF, .ref aO])), (aC, .inr (0, [.ref aG, .ref aR, .ref aCn, .ref aCc, .ref aCr, .ref aCs, .int u_12.1])), (aCn, .inl (cA, 5760, .inl (u_12.2.1))), (aCc, .inl (cA, 5760, .inl (u_12.2.2.1))), (aCr, .inl (cA, 600, .inl (u_12.2.2.2.1))), (aCs, .inl (cA, 600, .inl (u_12.2.2.2.2))), (aG, .inr (2, [.ref aGh, .ref aGi, .ref aGc, .ref aGo, .ref aGr, .int vGF, .int vGS])), (aGh, .inl (cA, 24, .inl (vGh))), (aGi, .inl (cA, 72, .inl (vGi))), (aGc, .inl (cA, 24, .inl (vGc))), (aGo, .inl (cA, 24, .inl (vGo))), (aR, .inr (4, [.ref aRt, .int vRL])), (aRt, .inl (cA, 24, .inl (vRt)))] H := hP
  have hD : va_D A [(aH, .inr (6, [.ref aG, .ref aR, .ref aC, .ref aT, .ref aF, .ref aO])), (aC, .inr (0, [.ref aG, .ref aR, .ref aCn, .ref aCc, .ref aCr, .ref aCs, .int u_12.1])), (aCn, .inl (cA, 5760, .inl (u_12.2.1))), (aCc, .inl (cA, 5760, .inl (u_12.2.2.1))), (aCr, .inl (cA, 600, .inl (u_12.2.2.2.1))), (aCs, .inl (cA, 600, .inl (u_12.2.2.2.2))), (aG, .inr (2, [.ref aGh, .ref aGi, .ref aGc, .ref aGo, .ref aGr, .int vGF, .int vGS])), (aGh, .inl (cA, 24, .inl (vGh))), (aGi, .inl (cA, 72, .inl (vGi))), (aGc, .inl (cA, 24, .inl (vGc))), (aGo, .inl (cA, 24, .inl (vGo))), (aR, .inr (4, [.ref aRt, .int vRL])), (aRt, .inl (cA, 24, .inl (vRt)))] := hD
  have hres := hres.trans (bd_eq w_12)
  have ho := (bd_eq w_12).mp ho
  refine lv_aload_n hx hb qd_H_count_15 rfl (lv_at hl 0 rfl) ?_
  refine va_get (D := (dC, dI)) (ci := 6) (v := .ref aC) (C := qR_H) (T := qT_H) (N := 6) hx hb hg qi_H hown hK hP 0 rfl rfl 2 (by decide) (hg _ mw_135) (fun _ h9 => h9) rfl qd_H_count_16 ?_
  refine lv_iload_n hx hb qd_H_count_19 rfl (lv_at hl 1 rfl) ?_
  refine lv_iload_n hx hb qd_H_count_20 rfl (lv_at hl 2 rfl) ?_
  refine lv_iload_n hx hb qd_H_count_21 rfl (lv_at hl 3 rfl) ?_
  obtain ⟨g_22, ho⟩ := ho
  refine xc_V (As := [.int p0, .int p1, .int p2]) (rest := []) ⟨hx, hb, hml, hown, hg⟩ (c_C_trees l dC dI cA aC aCn aCc aCr aCs aG aR aRt u_12.1 u_12.2.1 vRL vRt p0 p1 p2 g_22) (cwV 3 hg (q_gV mw_441 mw_385 mw_386 mw_4 mw_387) rfl rfl rfl qh_C_trees ⟨Nat.le_of_ble_eq_true rfl, Nat.le_of_ble_eq_true rfl⟩) hN hK hP [1, 2, 11, 12] rfl 0 0 rfl rfl rfl hl.1 rfl (Nat.le_of_ble_eq_true rfl) qd_H_count_22 ⟨Nat.le_of_ble_eq_true rfl, Nat.le_of_ble_eq_true rfl⟩ ?_
  refine lv_topi (fun r_22 w_22 => ?_)
  have hres := hres.trans (bd_eq w_22)
  have ho := (bd_eq w_22).mp ho
  refine vx_ret ?_
  refine W.widen (k := 1) (n := 6) (Nat.le_of_ble_eq_true rfl) (Nat.le_of_ble_eq_true rfl) ?_
  exact W.iret (v := r_22) hx hb hr (fun t ht hW => ⟨⟨_, (0, r_22, u_12.1, u_12.2.1, u_12.2.2.1, u_12.2.2.2.1, u_12.2.2.2.2), rfl, ⟨hres.symm, rfl, rfl⟩, ⟨by rw [ht]; exact hP, va_K.moved hW.alike hK, x_N hN hW⟩, hD⟩, hS.F ht⟩) hS.2.2 qd_H_count_25
theorem qd_H_cost_0 : decode qc_H_cost 0 = .ok (.aload_n 0, 1) := by decide +kernel
theorem qd_H_cost_1 : decode qc_H_cost 1 = .ok (.iload_n 1, 1) := by decide +kernel
theorem qd_H_cost_2 : decode qc_H_cost 2 = .ok (.iload_n 2, 1) := by decide +kernel
theorem qd_H_cost_3 : decode qc_H_cost 3 = .ok (.iload_n 3, 1) := by decide +kernel
theorem qd_H_cost_4 : decode qc_H_cost 4 = .ok (.invokevirtual 121, 3) := by decide +kernel
theorem qd_H_cost_7 : decode qc_H_cost 7 = .ok (.aload_n 0, 1) := by decide +kernel
theorem qd_H_cost_8 : decode qc_H_cost 8 = .ok (.getfield 28, 3) := by decide +kernel
theorem qd_H_cost_11 : decode qc_H_cost 11 = .ok (.iload_n 3, 1) := by decide +kernel
theorem qd_H_cost_12 : decode qc_H_cost 12 = .ok (.invokevirtual 125, 3) := by decide +kernel
theorem qd_H_cost_15 : decode qc_H_cost 15 = .ok (.aload_n 0, 1) := by decide +kernel
theorem qd_H_cost_16 : decode qc_H_cost 16 = .ok (.getfield 28, 3) := by decide +kernel
theorem qd_H_cost_19 : decode qc_H_cost 19 = .ok (.iload_n 1, 1) := by decide +kernel
theorem qd_H_cost_20 : decode qc_H_cost 20 = .ok (.iload_n 2, 1) := by decide +kernel
theorem qd_H_cost_21 : decode qc_H_cost 21 = .ok (.iload_n 3, 1) := by decide +kernel
theorem qd_H_cost_22 : decode qc_H_cost 22 = .ok (.invokevirtual 132, 3) := by decide +kernel
theorem qd_H_cost_25 : decode qc_H_cost 25 = .ok (.ireturn, 1) := by decide +kernel
set_option maxHeartbeats 4000000 in
set_option maxRecDepth 100000 in
theorem c_H_cost (l : Launch) (hl9 : l.stackTraces = false) (dC : Nat → ClassId) (dI : Nat → Nat → Nat) (cA : ClassId) (N_ : Nat) (aH aF aO aT aC aCn aCc aCr aCs aG aGh aGi aGc aGo aGr aR aRt : Nat) (sz : Nat) (vCF : Int32) (vCn : (Nat → Int32)) (vCc : (Nat → Int32)) (vCr : (Nat → Int32)) (vCs : (Nat → Int32)) (vGF : Int32) (vGS : Int32) (vGh : (Nat → Int32)) (vGi : (Nat → Int32)) (vGc : (Nat → Int32)) (vGo : (Nat → Int32)) (vRL : Int32) (vRt : (Nat → Int32)) (p0 : Int32) (p1 : Int32) (p2 : Int32) (ho : o_H_cost N_ vCF vCn vCc vCr vCs vGS vGh vGi vGc vGo vRL vRt p0 p1 p2) : vx_Met l qy_H_cost qw_H_cost ({ frames := 7, cells := 1, slots := 6, locals := 148 }) (va_Pc [.ref aH, .int p0, .int p1, .int p2] (xPT (dC, dI) [(cA, .int)] [(aH, .inr (6, [.ref aG, .ref aR, .ref aC, .ref aT, .ref aF, .ref aO])), (aC, .inr (0, [.ref aG, .ref aR, .ref aCn, .ref aCc, .ref aCr, .ref aCs, .int vCF])), (aCn, .inl (cA, 5760, .inl (vCn))), (aCc, .inl (cA, 5760, .inl (vCc))), (aCr, .inl (cA, 600, .inl (vCr))), (aCs, .inl (cA, 600, .inl (vCs))), (aG, .inr (2, [.ref aGh, .ref aGi, .ref aGc, .ref aGo, .ref aGr, .int vGF, .int vGS])), (aGh, .inl (cA, 24, .inl (vGh))), (aGi, .inl (cA, 72, .inl (vGi))), (aGc, .inl (cA, 24, .inl (vGc))), (aGo, .inl (cA, 24, .inl (vGo))), (aR, .inr (4, [.ref aRt, .int vRL])), (aRt, .inl (cA, 24, .inl (vRt)))] sz)) (va_Qi (fun r (u : Int32 × Int32 × Int32 × (Nat → Int32) × (Nat → Int32) × (Nat → Int32) × (Nat → Int32)) => u = f_H_cost N_ vCF vCn vCc vCr vCs vGS vGh vGi vGc vGo vRL vRt p0 p1 p2 ∧ u.1 = 0 ∧ r = u.2.1) (fun (u : Int32 × Int32 × Int32 × (Nat → Int32) × (Nat → Int32) × (Nat → Int32) × (Nat → Int32)) t => xP (dC, dI) [(cA, .int)] [(aH, .inr (6, [.ref aG, .ref aR, .ref aC, .ref aT, .ref aF, .ref aO])), (aC, .inr (0, [.ref aG, .ref aR, .ref aCn, .ref aCc, .ref aCr, .ref aCs, .int u.2.2.1])), (aCn, .inl (cA, 5760, .inl (u.2.2.2.1))), (aCc, .inl (cA, 5760, .inl (u.2.2.2.2.1))), (aCr, .inl (cA, 600, .inl (u.2.2.2.2.2.1))), (aCs, .inl (cA, 600, .inl (u.2.2.2.2.2.2))), (aG, .inr (2, [.ref aGh, .ref aGi, .ref aGc, .ref aGo, .ref aGr, .int vGF, .int vGS])), (aGh, .inl (cA, 24, .inl (vGh))), (aGi, .inl (cA, 72, .inl (vGi))), (aGc, .inl (cA, 24, .inl (vGc))), (aGo, .inl (cA, 24, .inl (vGo))), (aR, .inr (4, [.ref aRt, .int vRL])), (aRt, .inl (cA, 24, .inl (vRt)))] nestN t ∧ va_D (va_A [(aH, .inr (6, [.ref aG, .ref aR, .ref aC, .ref aT, .ref aF, .ref aO])), (aC, .inr (0, [.ref aG, .ref aR, .ref aCn, .ref aCc, .ref aCr, .ref aCs, .int vCF])), (aCn, .inl (cA, 5760, .inl (vCn))), (aCc, .inl (cA, 5760, .inl (vCc))), (aCr, .inl (cA, 600, .inl (vCr))), (aCs, .inl (cA, 600, .inl (vCs))), (aG, .inr (2, [.ref aGh, .ref aGi, .ref aGc, .ref aGo, .ref aGr, .int vGF, .int vGS])), (aGh, .inl (cA, 24, .inl (vGh))), (aGi, .inl (cA, 72, .inl (vGi))), (aGc, .inl (cA, 24, .inl (vGc))), (aGo, .inl (cA, 24, .inl (vGo))), (aR, .inr (4, [.ref aRt, .int vRL])), (aRt, .inl (cA, 24, .inl (vRt)))] sz) [(aH, .inr (6, [.ref aG, .ref aR, .ref aC, .ref aT, .ref aF, .ref aO])), (aC, .inr (0, [.ref aG, .ref aR, .ref aCn, .ref aCc, .ref aCr, .ref aCs, .int u.2.2.1])), (aCn, .inl (cA, 5760, .inl (u.2.2.2.1))), (aCc, .inl (cA, 5760, .inl (u.2.2.2.2.1))), (aCr, .inl (cA, 600, .inl (u.2.2.2.2.2.1))), (aCs, .inl (cA, 600, .inl (u.2.2.2.2.2.2))), (aG, .inr (2, [.ref aGh, .ref aGi, .ref aGc, .ref aGo, .ref aGr, .int vGF, .int vGS])), (aGh, .inl (cA, 24, .inl (vGh))), (aGi, .inl (cA, 72, .inl (vGi))), (aGc, .inl (cA, 24, .inl (vGc))), (aGo, .inl (cA, 24, .inl (vGo))), (aR, .inr (4, [.ref aRt, .int vRL])), (aRt, .inl (cA, 24, .inl (vRt)))]) (va_A [(aH, .inr (6, [.ref aG, .ref aR, .ref aC, .ref aT, .ref aF, .ref aO])), (aC, .inr (0, [.ref aG, .ref aR, .ref aCn, .ref aCc, .ref aCr, .ref aCs, .int vCF])), (aCn, .inl (cA, 5760, .inl (vCn))), (aCc, .inl (cA, 5760, .inl (vCc))), (aCr, .inl (cA, 600, .inl (vCr))), (aCs, .inl (cA, 600, .inl (vCs))), (aG, .inr (2, [.ref aGh, .ref aGi, .ref aGc, .ref aGo, .ref aGr, .int vGF, .int vGS])), (aGh, .inl (cA, 24, .inl (vGh))), (aGi, .inl (cA, 72, .inl (vGi))), (aGc, .inl (cA, 24, .inl (vGc))), (aGo, .inl (cA, 24, .inl (vGo))), (aR, .inr (4, [.ref aRt, .int vRL])), (aRt, .inl (cA, 24, .inl (vRt)))] sz)) (vx_X (fun (u : Int32 × Int32 × Int32 × (Nat → Int32) × (Nat → Int32) × (Nat → Int32) × (Nat → Int32)) => u = f_H_cost N_ vCF vCn vCc vCr vCs vGS vGh vGi vGc vGo vRL vRt p0 p1 p2 ∧ ¬ u.1 = 0) (fun E u t => E = exN u.1 ∧ va_P (dC, dI) vwCl [(aH, .inr (6, [.ref aG, .ref aR, .ref aC, .ref aT, .ref aF, .ref aO])), (aC, .inr (0, [.ref aG, .ref aR, .ref aCn, .ref aCc, .ref aCr, .ref aCs, .int u.2.2.1])), (aCn, .inl (cA, 5760, .inl (u.2.2.2.1))), (aCc, .inl (cA, 5760, .inl (u.2.2.2.2.1))), (aCr, .inl (cA, 600, .inl (u.2.2.2.2.2.1))), (aCs, .inl (cA, 600, .inl (u.2.2.2.2.2.2))), (aG, .inr (2, [.ref aGh, .ref aGi, .ref aGc, .ref aGo, .ref aGr, .int vGF, .int vGS])), (aGh, .inl (cA, 24, .inl (vGh))), (aGi, .inl (cA, 72, .inl (vGi))), (aGc, .inl (cA, 24, .inl (vGc))), (aGo, .inl (cA, 24, .inl (vGo))), (aR, .inr (4, [.ref aRt, .int vRL])), (aRt, .inl (cA, 24, .inl (vRt)))] t.heap ∧ va_D (va_A [(aH, .inr (6, [.ref aG, .ref aR, .ref aC, .ref aT, .ref aF, .ref aO])), (aC, .inr (0, [.ref aG, .ref aR, .ref aCn, .ref aCc, .ref aCr, .ref aCs, .int vCF])), (aCn, .inl (cA, 5760, .inl (vCn))), (aCc, .inl (cA, 5760, .inl (vCc))), (aCr, .inl (cA, 600, .inl (vCr))), (aCs, .inl (cA, 600, .inl (vCs))), (aG, .inr (2, [.ref aGh, .ref aGi, .ref aGc, .ref aGo, .ref aGr, .int vGF, .int vGS])), (aGh, .inl (cA, 24, .inl (vGh))), (aGi, .inl (cA, 72, .inl (vGi))), (aGc, .inl (cA, 24, .inl (vGc))), (aGo, .inl (cA, 24, .inl (vGo))), (aR, .inr (4, [.ref aRt, .int vRL])), (aRt, .inl (cA, 24, .inl (vRt)))] sz) [(aH, .inr (6, [.ref aG, .ref aR, .ref aC, .ref aT, .ref aF, .ref aO])), (aC, .inr (0, [.ref aG, .ref aR, .ref aCn, .ref aCc, .ref aCr, .ref aCs, .int u.2.2.1])), (aCn, .inl (cA, 5760, .inl (u.2.2.2.1))), (aCc, .inl (cA, 5760, .inl (u.2.2.2.2.1))), (aCr, .inl (cA, 600, .inl (u.2.2.2.2.2.1))), (aCs, .inl (cA, 600, .inl (u.2.2.2.2.2.2))), (aG, .inr (2, [.ref aGh, .ref aGi, .ref aGc, .ref aGo, .ref aGr, .int vGF, .int vGS])), (aGh, .inl (cA, 24, .inl (vGh))), (aGi, .inl (cA, 72, .inl (vGi))), (aGc, .inl (cA, 24, .inl (vGc))), (aGo, .inl (cA, 24, .inl (vGo))), (aR, .inr (4, [.ref aRt, .int vRL])), (aRt, .inl (cA, 24, .inl (vRt)))]) (va_A [(aH, .inr (6, [.ref aG, .ref aR, .ref aC, .ref aT, .ref aF, .ref aO])), (aC, .inr (0, [.ref aG, .ref aR, .ref aCn, .ref aCc, .ref aCr, .ref aCs, .int vCF])), (aCn, .inl (cA, 5760, .inl (vCn))), (aCc, .inl (cA, 5760, .inl (vCc))), (aCr, .inl (cA, 600, .inl (vCr))), (aCs, .inl (cA, 600, .inl (vCs))), (aG, .inr (2, [.ref aGh, .ref aGi, .ref aGc, .ref aGo, .ref aGr, .int vGF, .int vGS])), (aGh, .inl (cA, 24, .inl (vGh))), (aGi, .inl (cA, 72, .inl (vGi))), (aGc, .inl (cA, 24, .inl (vGc))), (aGo, .inl (cA, 24, .inl (vGo))), (aR, .inr (4, [.ref aRt, .int vRL])), (aRt, .inl (cA, 24, .inl (vRt)))] sz)) 1 6 (va_A [(aH, .inr (6, [.ref aG, .ref aR, .ref aC, .ref aT, .ref aF, .ref aO])), (aC, .inr (0, [.ref aG, .ref aR, .ref aCn, .ref aCc, .ref aCr, .ref aCs, .int vCF])), (aCn, .inl (cA, 5760, .inl (vCn))), (aCc, .inl (cA, 5760, .inl (vCc))), (aCr, .inl (cA, 600, .inl (vCr))), (aCs, .inl (cA, 600, .inl (vCs))), (aG, .inr (2, [.ref aGh, .ref aGi, .ref aGc, .ref aGo, .ref aGr, .int vGF, .int vGS])), (aGh, .inl (cA, 24, .inl (vGh))), (aGi, .inl (cA, 72, .inl (vGi))), (aGc, .inl (cA, 24, .inl (vGc))), (aGo, .inl (cA, 24, .inl (vGo))), (aR, .inr (4, [.ref aRt, .int vRL])), (aRt, .inl (cA, 24, .inl (vRt)))] sz) := by
  refine vx_ofW (cc := qc_H_cost) (maxL := 4) (ret := (some .int)) (by decide) rfl ?_
  intro p e s m args below meth c s₁ B hml hout hv
  obtain ⟨rfl, hsz, ⟨hP, hK, hN⟩, hD0, hT⟩ := hv
  have hx := B.exec
  have hb := B.bytes
  have hr := B.returns
  have hts := atoms_spec (ws := qw_H_cost) B.pre
  have hg : ∀ w ∈ gG, w.before _ s = true := fun w h => hts w (List.mem_cons_of_mem _ h)
  have hown : s.vm.findClass qR_H = some m.cls := findClass_of_methodNamed B.named
  have hlocks := B.notSynchronized
  subst hsz
  have hD := hD0.self (sz := s.heap.size)
  generalize hAe : va_A [(aH, .inr (6, [.ref aG, .ref aR, .ref aC, .ref aT, .ref aF, .ref aO])), (aC, .inr (0, [.ref aG, .ref aR, .ref aCn, .ref aCc, .ref aCr, .ref aCs, .int vCF])), (aCn, .inl (cA, 5760, .inl (vCn))), (aCc, .inl (cA, 5760, .inl (vCc))), (aCr, .inl (cA, 600, .inl (vCr))), (aCs, .inl (cA, 600, .inl (vCs))), (aG, .inr (2, [.ref aGh, .ref aGi, .ref aGc, .ref aGo, .ref aGr, .int vGF, .int vGS])), (aGh, .inl (cA, 24, .inl (vGh))), (aGi, .inl (cA, 72, .inl (vGi))), (aGc, .inl (cA, 24, .inl (vGc))), (aGo, .inl (cA, 24, .inl (vGo))), (aR, .inr (4, [.ref aRt, .int vRL])), (aRt, .inl (cA, 24, .inl (vRt)))] s.heap.size = A at hD hT ⊢
  have hA : ∀ q : Nat, s.heap.size ≤ q → A q := fun q h => by rw [← hAe]; exact Or.inr h
  have hS : va_S A s.heap s.heap [] := va_S.rf
  have hP : va_P (dC, dI) vwCl [(aH, .inr (6, [.ref aG, .ref aR, .ref aC, .ref aT, .ref aF, .ref aO])), (aC, .inr (0, [.ref aG, .ref aR, .ref aCn, .ref aCc, .ref aCr, .ref aCs, .int vCF])), (aCn, .inl (cA, 5760, .inl (vCn))), (aCc, .inl (cA, 5760, .inl (vCc))), (aCr, .inl (cA, 600, .inl (vCr))), (aCs, .inl (cA, 600, .inl (vCs))), (aG, .inr (2, [.ref aGh, .ref aGi, .ref aGc, .ref aGo, .ref aGr, .int vGF, .int vGS])), (aGh, .inl (cA, 24, .inl (vGh))), (aGi, .inl (cA, 72, .inl (vGi))), (aGc, .inl (cA, 24, .inl (vGc))), (aGo, .inl (cA, 24, .inl (vGo))), (aR, .inr (4, [.ref aRt, .int vRL])), (aRt, .inl (cA, 24, .inl (vRt)))] s.heap := hP
  have hl := lv_entry ([.ref aH, .int p0, .int p1, .int p2]) (n := 4) (Nat.le_of_ble_eq_true rfl)
  rw [lg_entry_eq]
  generalize (lg_sl ([.ref aH, .int p0, .int p1, .int p2]) ++ List.replicate (4 - (lg_sl ([.ref aH, .int p0, .int p1, .int p2])).length) Slot.unset).toArray = ls at hl ⊢
  have hl : lv_has ls 4 [(0, .ref aH), (1, .int p0), (2, .int p1), (3, .int p2)] := hl
  generalize hF : f_H_cost N_ vCF vCn vCc vCr vCs vGS vGh vGi vGc vGo vRL vRt p0 p1 p2 = Fv
  have hres : Fv = f_H_cost N_ vCF vCn vCc vCr vCs vGS vGh vGi vGc vGo vRL vRt p0 p1 p2 := hF.symm
  unfold f_H_cost at hres
  unfold o_H_cost at ho
  refine lv_aload_n hx hb qd_H_cost_0 rfl (lv_at hl 0 rfl) ?_
  refine lv_iload_n hx hb qd_H_cost_1 rfl (lv_at hl 1 rfl) ?_
  refine lv_iload_n hx hb qd_H_cost_2 rfl (lv_at hl 2 rfl) ?_
  refine lv_iload_n hx hb qd_H_cost_3 rfl (lv_at hl 3 rfl) ?_
  refine xt_V (As := [.int p0, .int p1, .int p2]) (rest := []) (code := fun u => u) (w1 := fun (_ : Int32) => [(aH, .inr (6, [.ref aG, .ref aR, .ref aC, .ref aT, .ref aF, .ref aO])), (aR, .inr (4, [.ref aRt, .int vRL]))]) (w2 := fun (_ : Int32) => [(aH, .inr (6, [.ref aG, .ref aR, .ref aC, .ref aT, .ref aF, .ref aO])), (aC, .inr (0, [.ref aG, .ref aR, .ref aCn, .ref aCc, .ref aCr, .ref aCs, .int vCF])), (aCn, .inl (cA, 5760, .inl (vCn))), (aCc, .inl (cA, 5760, .inl (vCc))), (aCr, .inl (cA, 600, .inl (vCr))), (aCs, .inl (cA, 600, .inl (vCs))), (aG, .inr (2, [.ref aGh, .ref aGi, .ref aGc, .ref aGo, .ref aGr, .int vGF, .int vGS])), (aGh, .inl (cA, 24, .inl (vGh))), (aGi, .inl (cA, 72, .inl (vGi))), (aGc, .inl (cA, 24, .inl (vGc))), (aGo, .inl (cA, 24, .inl (vGo))), (aR, .inr (4, [.ref aRt, .int vRL])), (aRt, .inl (cA, 24, .inl (vRt)))]) ⟨hx, hb, hml, hown, hg⟩ (c_H_checkPart l hl9 dC dI cA aH aF aO aT aC aG aR aRt _ vRL p0 p1 p2) (cwV 3 hg (q_gV mw_342 mw_343 mw_749 mw_1 mw_344) rfl rfl rfl qh_H_checkPart ⟨Nat.le_of_ble_eq_true rfl, Nat.le_of_ble_eq_true rfl⟩) hN hT hK hP hD hS hA [0, 11] [1, 2, 3, 4, 5, 6, 7, 8, 9, 10, 12] rfl rfl (by decide) (by decide) (by decide) [11, 0, 1, 2, 3, 4, 5, 6, 7, 8, 9, 12, 10] (fun _ => rfl) (by decide) 0 6 rfl rfl rfl hl.1 rfl (Nat.le_of_ble_eq_true rfl) qd_H_cost_4 ⟨Nat.le_of_ble_eq_true rfl, Nat.le_of_ble_eq_true rfl⟩ (fun u_4 q9 ce H locs w_4 hz hP hD hS hce hcv hcl => ?_) (fun u_4 H locs w_4 hz hP hD hS => ?_)
  · have hres := (hres.trans (bd_eq w_4)).trans (if_neg hz)
    refine xt_out (code := (fun u => u.1)) (w1 := fun (u : Int32 × Int32 × Int32 × (Nat → Int32) × (Nat → Int32) × (Nat → Int32) × (Nat → Int32)) => [(aH, .inr (6, [.ref aG, .ref aR, .ref aC, .ref aT, .ref aF, .ref aO])), (aC, .inr (0, [.ref aG, .ref aR, .ref aCn, .ref aCc, .ref aCr, .ref aCs, .int u.2.2.1])), (aCn, .inl (cA, 5760, .inl (u.2.2.2.1))), (aCc, .inl (cA, 5760, .inl (u.2.2.2.2.1))), (aCr, .inl (cA, 600, .inl (u.2.2.2.2.2.1))), (aCs, .inl (cA, 600, .inl (u.2.2.2.2.2.2))), (aG, .inr (2, [.ref aGh, .ref aGi, .ref aGc, .ref aGo, .ref aGr, .int vGF, .int vGS])), (aGh, .inl (cA, 24, .inl (vGh))), (aGi, .inl (cA, 72, .inl (vGi))), (aGc, .inl (cA, 24, .inl (vGc))), (aGo, .inl (cA, 24, .inl (vGo))), (aR, .inr (4, [.ref aRt, .int vRL])), (aRt, .inl (cA, 24, .inl (vRt)))]) hout hlocks u_4 hce hcv hcl hS hP hD (u_4, 0, vCF, vCn, vCc, vCr, vCs) hres ?_ hz ?_ hS.2.2 ?_ ?_
    all_goals first | exact Nat.le_of_ble_eq_true rfl | rfl
  have hres := (hres.trans (bd_eq w_4)).trans (if_pos hz)
  have ho := ((bd_eq w_4).mp ho)
  have ho := (if_pos hz).mp ho
  have hP : va_P (dC, dI) vwCl [(aH, .inr (6, [.ref aG, .ref aR, .ref aC, .ref aT, .ref aF, .ref aO])), (aC, .inr (0, [.ref aG, .ref aR, .ref aCn, .ref aCc, .ref aCr, .ref aCs, .int vCF])), (aCn, .inl (cA, 5760, .inl (vCn))), (aCc, .inl (cA, 5760, .inl (vCc))), (aCr, .inl (cA, 600, .inl (vCr))), (aCs, .inl (cA, 600, .inl (vCs))), (aG, .inr (2, [.ref aGh, .ref aGi, .ref aGc, .ref aGo, .ref aGr, .int vGF, .int vGS])), (aGh, .inl (cA, 24, .inl (vGh))), (aGi, .inl (cA, 72, .inl (vGi))), (aGc, .inl (cA, 24, .inl (vGc))), (aGo, .inl (cA, 24, .inl (vGo))), (aR, .inr (4, [.ref aRt, .int vRL])), (aRt, .inl (cA, 24, .inl (vRt)))] H := hP
  have hD : va_D A [(aH, .inr (6, [.ref aG, .ref aR, .ref aC, .ref aT, .ref aF, .ref aO])), (aC, .inr (0, [.ref aG, .ref aR, .ref aCn, .ref aCc, .ref aCr, .ref aCs, .int vCF])), (aCn, .inl (cA, 5760, .inl (vCn))), (aCc, .inl (cA, 5760, .inl (vCc))), (aCr, .inl (cA, 600, .inl (vCr))), (aCs, .inl (cA, 600, .inl (vCs))), (aG, .inr (2, [.ref aGh, .ref aGi, .ref aGc, .ref aGo, .ref aGr, .int vGF, .int vGS])), (aGh, .inl (cA, 24, .inl (vGh))), (aGi, .inl (cA, 72, .inl (vGi))), (aGc, .inl (cA, 24, .inl (vGc))), (aGo, .inl (cA, 24, .inl (vGo))), (aR, .inr (4, [.ref aRt, .int vRL])), (aRt, .inl (cA, 24, .inl (vRt)))] := hD
  refine W.widen (k := 1) (n := 6) (by omega) (by omega) ?_
  refine lv_aload_n hx hb qd_H_cost_7 rfl (lv_at hl 0 rfl) ?_
  refine va_get (D := (dC, dI)) (ci := 6) (v := .ref aC) (C := qR_H) (T := qT_H) (N := 6) hx hb hg qi_H hown hK hP 0 rfl rfl 2 (by decide) (hg _ mw_135) (fun _ h9 => h9) rfl qd_H_cost_8 ?_
  refine lv_iload_n hx hb qd_H_cost_11 rfl (lv_at hl 3 rfl) ?_
  obtain ⟨g_12, ho⟩ := ho
  refine xm_Vv (As := [.int p2]) (rest := []) (w1 := fun (u_12 : Int32 × (Nat → Int32) × (Nat → Int32) × (Nat → Int32) × (Nat → Int32)) => [(aC, .inr (0, [.ref aG, .ref aR, .ref aCn, .ref aCc, .ref aCr, .ref aCs, .int u_12.1])), (aCn, .inl (cA, 5760, .inl (u_12.2.1))), (aCc, .inl (cA, 5760, .inl (u_12.2.2.1))), (aCr, .inl (cA, 600, .inl (u_12.2.2.2.1))), (aCs, .inl (cA, 600, .inl (u_12.2.2.2.2))), (aG, .inr (2, [.ref aGh, .ref aGi, .ref aGc, .ref aGo, .ref aGr, .int vGF, .int vGS])), (aGh, .inl (cA, 24, .inl (vGh))), (aGi, .inl (cA, 72, .inl (vGi))), (aGc, .inl (cA, 24, .inl (vGc))), (aGo, .inl (cA, 24, .inl (vGo))), (aR, .inr (4, [.ref aRt, .int vRL])), (aRt, .inl (cA, 24, .inl (vRt)))]) (w2 := fun (u_12 : Int32 × (Nat → Int32) × (Nat → Int32) × (Nat → Int32) × (Nat → Int32)) => [(aH, .inr (6, [.ref aG, .ref aR, .ref aC, .ref aT, .ref aF, .ref aO])), (aC, .inr (0, [.ref aG, .ref aR, .ref aCn, .ref aCc, .ref aCr, .ref aCs, .int u_12.1])), (aCn, .inl (cA, 5760, .inl (u_12.2.1))), (aCc, .inl (cA, 5760, .inl (u_12.2.2.1))), (aCr, .inl (cA, 600, .inl (u_12.2.2.2.1))), (aCs, .inl (cA, 600, .inl (u_12.2.2.2.2))), (aG, .inr (2, [.ref aGh, .ref aGi, .ref aGc, .ref aGo, .ref aGr, .int vGF, .int vGS])), (aGh, .inl (cA, 24, .inl (vGh))), (aGi, .inl (cA, 72, .inl (vGi))), (aGc, .inl (cA, 24, .inl (vGc))), (aGo, .inl (cA, 24, .inl (vGo))), (aR, .inr (4, [.ref aRt, .int vRL])), (aRt, .inl (cA, 24, .inl (vRt)))]) ⟨hx, hb, hml, hown, hg⟩ (c_C_fill l dC dI cA N_ aC aCn aCc aCr aCs aG aGh aGi aGc aGo aGr aR aRt _ vCF vCn vCc vCr vCs vGF vGS vGh vGi vGc vGo vRL vRt p2 g_12) (cwV 1 hg (q_gV mw_358 mw_359 mw_360 mw_4 mw_361) rfl rfl rfl qh_C_fill ⟨Nat.le_of_ble_eq_true rfl, Nat.le_of_ble_eq_true rfl⟩) hN hK hP hD hS hA [1, 2, 3, 4, 5, 6, 7, 8, 9, 10, 11, 12] [0] rfl rfl (by decide) (by decide) (by decide) [0, 1, 2, 3, 4, 5, 6, 7, 8, 9, 10, 11, 12] (fun _ => rfl) (by decide) 0 0 rfl rfl rfl hl.1 rfl (Nat.le_of_ble_eq_true rfl) qd_H_cost_12 ⟨Nat.le_of_ble_eq_true rfl, Nat.le_of_ble_eq_true rfl⟩ (fun u_12 H locs w_12 hP hD hS => ?_)
  have hP : va_P (dC, dI) vwCl [(aH, .inr (6, [.ref aG, .ref aR, .ref aC, .ref aT, .ref aF, .ref aO])), (aC, .inr (0, [.ref aG, .ref aR, .ref aCn, .ref aCc, .ref aCr, .ref aCs, .int u_12.1])), (aCn, .inl (cA, 5760, .inl (u_12.2.1))), (aCc, .inl (cA, 5760, .inl (u_12.2.2.1))), (aCr, .inl (cA, 600, .inl (u_12.2.2.2.1))), (aCs, .inl (cA, 600, .inl (u_12.2.2.2.2))), (aG, .inr (2, [.ref aGh, .ref aGi, .ref aGc, .ref aGo, .ref aGr, .int vGF, .int vGS])), (aGh, .inl (cA, 24, .inl (vGh))), (aGi, .inl (cA, 72, .inl (vGi))), (aGc, .inl (cA, 24, .inl (vGc))), (aGo, .inl (cA, 24, .inl (vGo))), (aR, .inr (4, [.ref aRt, .int vRL])), (aRt, .inl (cA, 24, .inl (vRt)))] H := hP
  have hD : va_D A [(aH, .inr (6, [.ref aG, .ref aR, .ref aC, .ref aT, .ref aF, .ref aO])), (aC, .inr (0, [.ref aG, .ref aR, .ref aCn, .ref aCc, .ref aCr, .ref aCs, .int u_12.1])), (aCn, .inl (cA, 5760, .inl (u_12.2.1))), (aCc, .inl (cA, 5760, .inl (u_12.2.2.1))), (aCr, .inl (cA, 600, .inl (u_12.2.2.2.1))), (aCs, .inl (cA, 600, .inl (u_12.2.2.2.2))), (aG, .inr (2, [.ref aGh, .ref aGi, .ref aGc, .ref aGo, .ref aGr, .int vGF, .int vGS])), (aGh, .inl (cA, 24, .inl (vGh))), (aGi, .inl (cA, 72, .inl (vGi))), (aGc, .inl (cA, 24, .inl (vGc))), (aGo, .inl (cA, 24, .inl (vGo))), (aR, .inr (4, [.ref aRt, .int vRL])), (aRt, .inl (cA, 24, .inl (vRt)))] := hD
  have hres := hres.trans (bd_eq w_12)
  have ho := (bd_eq w_12).mp ho
  refine lv_aload_n hx hb qd_H_cost_15 rfl (lv_at hl 0 rfl) ?_
  refine va_get (D := (dC, dI)) (ci := 6) (v := .ref aC) (C := qR_H) (T := qT_H) (N := 6) hx hb hg qi_H hown hK hP 0 rfl rfl 2 (by decide) (hg _ mw_135) (fun _ h9 => h9) rfl qd_H_cost_16 ?_
  refine lv_iload_n hx hb qd_H_cost_19 rfl (lv_at hl 1 rfl) ?_
  refine lv_iload_n hx hb qd_H_cost_20 rfl (lv_at hl 2 rfl) ?_
  refine lv_iload_n hx hb qd_H_cost_21 rfl (lv_at hl 3 rfl) ?_
  obtain ⟨g_22, ho⟩ := ho
  refine xc_V (As := [.int p0, .int p1, .int p2]) (rest := []) ⟨hx, hb, hml, hown, hg⟩ (c_C_leastCost l dC dI cA aC aCn aCc aCr aCs aG aR u_12.1 u_12.2.2.1 p0 p1 p2 g_22) (cwV 3 hg (q_gV mw_449 mw_396 mw_397 mw_4 mw_398) rfl rfl rfl qh_C_leastCost ⟨Nat.le_of_ble_eq_true rfl, Nat.le_of_ble_eq_true rfl⟩) hN hK hP [1, 3] rfl 0 0 rfl rfl rfl hl.1 rfl (Nat.le_of_ble_eq_true rfl) qd_H_cost_22 ⟨Nat.le_of_ble_eq_true rfl, Nat.le_of_ble_eq_true rfl⟩ ?_
  refine lv_topi (fun r_22 w_22 => ?_)
  have hres := hres.trans (bd_eq w_22)
  have ho := (bd_eq w_22).mp ho
  refine vx_ret ?_
  refine W.widen (k := 1) (n := 6) (Nat.le_of_ble_eq_true rfl) (Nat.le_of_ble_eq_true rfl) ?_
  exact W.iret (v := r_22) hx hb hr (fun t ht hW => ⟨⟨_, (0, r_22, u_12.1, u_12.2.1, u_12.2.2.1, u_12.2.2.2.1, u_12.2.2.2.2), rfl, ⟨hres.symm, rfl, rfl⟩, ⟨by rw [ht]; exact hP, va_K.moved hW.alike hK, x_N hN hW⟩, hD⟩, hS.F ht⟩) hS.2.2 qd_H_cost_25
theorem qd_H_next_0 : decode qc_H_next 0 = .ok (.iload_n 1, 1) := by decide +kernel
theorem qd_H_next_1 : decode qc_H_next 1 = .ok (.ifCond .lt 14, 3) := by decide +kernel
theorem qd_H_next_4 : decode qc_H_next 4 = .ok (.iload_n 1, 1) := by decide +kernel
theorem qd_H_next_5 : decode qc_H_next 5 = .ok (.aload_n 0, 1) := by decide +kernel
theorem qd_H_next_6 : decode qc_H_next 6 = .ok (.getfield 19, 3) := by decide +kernel
theorem qd_H_next_9 : decode qc_H_next 9 = .ok (.invokevirtual 115, 3) := by decide +kernel
theorem qd_H_next_12 : decode qc_H_next 12 = .ok (.if_icmp .le 13, 3) := by decide +kernel
theorem qd_H_next_15 : decode qc_H_next 15 = .ok (.new 150, 3) := by decide +kernel
theorem qd_H_next_18 : decode qc_H_next 18 = .ok (.dup, 1) := by decide +kernel
theorem qd_H_next_19 : decode qc_H_next 19 = .ok (.ldc 119, 2) := by decide +kernel
theorem qd_H_next_21 : decode qc_H_next 21 = .ok (.invokespecial 154, 3) := by decide +kernel
theorem qd_H_next_24 : decode qc_H_next 24 = .ok (.athrow, 1) := by decide +kernel
theorem qd_H_next_25 : decode qc_H_next 25 = .ok (.aload_n 0, 1) := by decide +kernel
theorem qd_H_next_26 : decode qc_H_next 26 = .ok (.getfield 28, 3) := by decide +kernel
theorem qd_H_next_29 : decode qc_H_next 29 = .ok (.iload_n 1, 1) := by decide +kernel
theorem qd_H_next_30 : decode qc_H_next 30 = .ok (.invokevirtual 125, 3) := by decide +kernel
theorem qd_H_next_33 : decode qc_H_next 33 = .ok (.aload_n 0, 1) := by decide +kernel
theorem qd_H_next_34 : decode qc_H_next 34 = .ok (.getfield 28, 3) := by decide +kernel
theorem qd_H_next_37 : decode qc_H_next 37 = .ok (.iconst 0, 1) := by decide +kernel
theorem qd_H_next_38 : decode qc_H_next 38 = .ok (.iconst 0, 1) := by decide +kernel
theorem qd_H_next_39 : decode qc_H_next 39 = .ok (.iload_n 1, 1) := by decide +kernel
theorem qd_H_next_40 : decode qc_H_next 40 = .ok (.invokevirtual 128, 3) := by decide +kernel
theorem qd_H_next_43 : decode qc_H_next 43 = .ok (.ifCond .le 9, 3) := by decide +kernel
theorem qd_H_next_46 : decode qc_H_next 46 = .ok (.sipush 1024, 3) := by decide +kernel
theorem qd_H_next_49 : decode qc_H_next 49 = .ok (.goto 4, 3) := by decide +kernel
theorem qd_H_next_52 : decode qc_H_next 52 = .ok (.iconst 0, 1) := by decide +kernel
theorem qd_H_next_53 : decode qc_H_next 53 = .ok (.istore_n 2, 1) := by decide +kernel
theorem qd_H_next_54 : decode qc_H_next 54 = .ok (.aload_n 0, 1) := by decide +kernel
theorem qd_H_next_55 : decode qc_H_next 55 = .ok (.getfield 51, 3) := by decide +kernel
theorem qd_H_next_58 : decode qc_H_next 58 = .ok (.iload_n 1, 1) := by decide +kernel
theorem qd_H_next_59 : decode qc_H_next 59 = .ok (.invokevirtual 161, 3) := by decide +kernel
theorem qd_H_next_62 : decode qc_H_next 62 = .ok (.iload_n 2, 1) := by decide +kernel
theorem qd_H_next_63 : decode qc_H_next 63 = .ok (.ior, 1) := by decide +kernel
theorem qd_H_next_64 : decode qc_H_next 64 = .ok (.ireturn, 1) := by decide +kernel
set_option maxHeartbeats 4000000 in
set_option maxRecDepth 100000 in
theorem c_H_next (l : Launch) (hl9 : l.stackTraces = false) (dC : Nat → ClassId) (dI : Nat → Nat → Nat) (cA : ClassId) (N_ : Nat) (aH aF aO aOn aT aC aCn aCc aCr aCs aG aGh aGi aGc aGo aGr aR aRt : Nat) (sz : Nat) (vOE : Int32) (vOn : (Nat → Int32)) (vCF : Int32) (vCn : (Nat → Int32)) (vCc : (Nat → Int32)) (vCr : (Nat → Int32)) (vCs : (Nat → Int32)) (vGF : Int32) (vGS : Int32) (vGh : (Nat → Int32)) (vGi : (Nat → Int32)) (vGc : (Nat → Int32)) (vGo : (Nat → Int32)) (vRL : Int32) (vRt : (Nat → Int32)) (p0 : Int32) (ho : o_H_next N_ vOE vOn vCF vCn vCc vCr vCs vGF vGS vGh vGi vGc vGo vRL vRt p0) : vx_Met l qy_H_next qw_H_next ({ frames := 6, cells := 1, slots := 6, locals := 148 }) (va_Pc [.ref aH, .int p0] (xPT (dC, dI) [(cA, .int)] [(aH, .inr (6, [.ref aG, .ref aR, .ref aC, .ref aT, .ref aF, .ref aO])), (aO, .inr (3, [.ref aG, .ref aC, .ref aOn, .int vOE])), (aOn, .inl (cA, 250, .inl (vOn))), (aC, .inr (0, [.ref aG, .ref aR, .ref aCn, .ref aCc, .ref aCr, .ref aCs, .int vCF])), (aCn, .inl (cA, 5760, .inl (vCn))), (aCc, .inl (cA, 5760, .inl (vCc))), (aCr, .inl (cA, 600, .inl (vCr))), (aCs, .inl (cA, 600, .inl (vCs))), (aG, .inr (2, [.ref aGh, .ref aGi, .ref aGc, .ref aGo, .ref aGr, .int vGF, .int vGS])), (aGh, .inl (cA, 24, .inl (vGh))), (aGi, .inl (cA, 72, .inl (vGi))), (aGc, .inl (cA, 24, .inl (vGc))), (aGo, .inl (cA, 24, .inl (vGo))), (aR, .inr (4, [.ref aRt, .int vRL])), (aRt, .inl (cA, 24, .inl (vRt)))] sz)) (va_Qi (fun r (u : Int32 × Int32 × Int32 × (Nat → Int32) × Int32 × (Nat → Int32) × (Nat → Int32) × (Nat → Int32) × (Nat → Int32)) => u = f_H_next N_ vOE vOn vCF vCn vCc vCr vCs vGF vGS vGh vGi vGc vGo vRL vRt p0 ∧ u.1 = 0 ∧ r = u.2.1) (fun (u : Int32 × Int32 × Int32 × (Nat → Int32) × Int32 × (Nat → Int32) × (Nat → Int32) × (Nat → Int32) × (Nat → Int32)) t => xP (dC, dI) [(cA, .int)] [(aH, .inr (6, [.ref aG, .ref aR, .ref aC, .ref aT, .ref aF, .ref aO])), (aO, .inr (3, [.ref aG, .ref aC, .ref aOn, .int u.2.2.1])), (aOn, .inl (cA, 250, .inl (u.2.2.2.1))), (aC, .inr (0, [.ref aG, .ref aR, .ref aCn, .ref aCc, .ref aCr, .ref aCs, .int u.2.2.2.2.1])), (aCn, .inl (cA, 5760, .inl (u.2.2.2.2.2.1))), (aCc, .inl (cA, 5760, .inl (u.2.2.2.2.2.2.1))), (aCr, .inl (cA, 600, .inl (u.2.2.2.2.2.2.2.1))), (aCs, .inl (cA, 600, .inl (u.2.2.2.2.2.2.2.2))), (aG, .inr (2, [.ref aGh, .ref aGi, .ref aGc, .ref aGo, .ref aGr, .int vGF, .int vGS])), (aGh, .inl (cA, 24, .inl (vGh))), (aGi, .inl (cA, 72, .inl (vGi))), (aGc, .inl (cA, 24, .inl (vGc))), (aGo, .inl (cA, 24, .inl (vGo))), (aR, .inr (4, [.ref aRt, .int vRL])), (aRt, .inl (cA, 24, .inl (vRt)))] nestN t ∧ va_D (va_A [(aH, .inr (6, [.ref aG, .ref aR, .ref aC, .ref aT, .ref aF, .ref aO])), (aO, .inr (3, [.ref aG, .ref aC, .ref aOn, .int vOE])), (aOn, .inl (cA, 250, .inl (vOn))), (aC, .inr (0, [.ref aG, .ref aR, .ref aCn, .ref aCc, .ref aCr, .ref aCs, .int vCF])), (aCn, .inl (cA, 5760, .inl (vCn))), (aCc, .inl (cA, 5760, .inl (vCc))), (aCr, .inl (cA, 600, .inl (vCr))), (aCs, .inl (cA, 600, .inl (vCs))), (aG, .inr (2, [.ref aGh, .ref aGi, .ref aGc, .ref aGo, .ref aGr, .int vGF, .int vGS])), (aGh, .inl (cA, 24, .inl (vGh))), (aGi, .inl (cA, 72, .inl (vGi))), (aGc, .inl (cA, 24, .inl (vGc))), (aGo, .inl (cA, 24, .inl (vGo))), (aR, .inr (4, [.ref aRt, .int vRL])), (aRt, .inl (cA, 24, .inl (vRt)))] sz) [(aH, .inr (6, [.ref aG, .ref aR, .ref aC, .ref aT, .ref aF, .ref aO])), (aO, .inr (3, [.ref aG, .ref aC, .ref aOn, .int u.2.2.1])), (aOn, .inl (cA, 250, .inl (u.2.2.2.1))), (aC, .inr (0, [.ref aG, .ref aR, .ref aCn, .ref aCc, .ref aCr, .ref aCs, .int u.2.2.2.2.1])), (aCn, .inl (cA, 5760, .inl (u.2.2.2.2.2.1))), (aCc, .inl (cA, 5760, .inl (u.2.2.2.2.2.2.1))), (aCr, .inl (cA, 600, .inl (u.2.2.2.2.2.2.2.1))), (aCs, .inl (cA, 600, .inl (u.2.2.2.2.2.2.2.2))), (aG, .inr (2, [.ref aGh, .ref aGi, .ref aGc, .ref aGo, .ref aGr, .int vGF, .int vGS])), (aGh, .inl (cA, 24, .inl (vGh))), (aGi, .inl (cA, 72, .inl (vGi))), (aGc, .inl (cA, 24, .inl (vGc))), (aGo, .inl (cA, 24, .inl (vGo))), (aR, .inr (4, [.ref aRt, .int vRL])), (aRt, .inl (cA, 24, .inl (vRt)))]) (va_A [(aH, .inr (6, [.ref aG, .ref aR, .ref aC, .ref aT, .ref aF, .ref aO])), (aO, .inr (3, [.ref aG, .ref aC, .ref aOn, .int vOE])), (aOn, .inl (cA, 250, .inl (vOn))), (aC, .inr (0, [.ref aG, .ref aR, .ref aCn, .ref aCc, .ref aCr, .ref aCs, .int vCF])), (aCn, .inl (cA, 5760, .inl (vCn))), (aCc, .inl (cA, 5760, .inl (vCc))), (aCr, .inl (cA, 600, .inl (vCr))), (aCs, .inl (cA, 600, .inl (vCs))), (aG, .inr (2, [.ref aGh, .ref aGi, .ref aGc, .ref aGo, .ref aGr, .int vGF, .int vGS])), (aGh, .inl (cA, 24, .inl (vGh))), (aGi, .inl (cA, 72, .inl (vGi))), (aGc, .inl (cA, 24, .inl (vGc))), (aGo, .inl (cA, 24, .inl (vGo))), (aR, .inr (4, [.ref aRt, .int vRL])), (aRt, .inl (cA, 24, .inl (vRt)))] sz)) (vx_X (fun (u : Int32 × Int32 × Int32 × (Nat → Int32) × Int32 × (Nat → Int32) × (Nat → Int32) × (Nat → Int32) × (Nat → Int32)) => u = f_H_next N_ vOE vOn vCF vCn vCc vCr vCs vGF vGS vGh vGi vGc vGo vRL vRt p0 ∧ ¬ u.1 = 0) (fun E u t => E = exN u.1 ∧ va_P (dC, dI) vwCl [(aH, .inr (6, [.ref aG, .ref aR, .ref aC, .ref aT, .ref aF, .ref aO])), (aO, .inr (3, [.ref aG, .ref aC, .ref aOn, .int u.2.2.1])), (aOn, .inl (cA, 250, .inl (u.2.2.2.1))), (aC, .inr (0, [.ref aG, .ref aR, .ref aCn, .ref aCc, .ref aCr, .ref aCs, .int u.2.2.2.2.1])), (aCn, .inl (cA, 5760, .inl (u.2.2.2.2.2.1))), (aCc, .inl (cA, 5760, .inl (u.2.2.2.2.2.2.1))), (aCr, .inl (cA, 600, .inl (u.2.2.2.2.2.2.2.1))), (aCs, .inl (cA, 600, .inl (u.2.2.2.2.2.2.2.2))), (aG, .inr (2, [.ref aGh, .ref aGi, .ref aGc, .ref aGo, .ref aGr, .int vGF, .int vGS])), (aGh, .inl (cA, 24, .inl (vGh))), (aGi, .inl (cA, 72, .inl (vGi))), (aGc, .inl (cA, 24, .inl (vGc))), (aGo, .inl (cA, 24, .inl (vGo))), (aR, .inr (4, [.ref aRt, .int vRL])), (aRt, .inl (cA, 24, .inl (vRt)))] t.heap ∧ va_D (va_A [(aH, .inr (6, [.ref aG, .ref aR, .ref aC, .ref aT, .ref aF, .ref aO])), (aO, .inr (3, [.ref aG, .ref aC, .ref aOn, .int vOE])), (aOn, .inl (cA, 250, .inl (vOn))), (aC, .inr (0, [.ref aG, .ref aR, .ref aCn, .ref aCc, .ref aCr, .ref aCs, .int vCF])), (aCn, .inl (cA, 5760, .inl (vCn))), (aCc, .inl (cA, 5760, .inl (vCc))), (aCr, .inl (cA, 600, .inl (vCr))), (aCs, .inl (cA, 600, .inl (vCs))), (aG, .inr (2, [.ref aGh, .ref aGi, .ref aGc, .ref aGo, .ref aGr, .int vGF, .int vGS])), (aGh, .inl (cA, 24, .inl (vGh))), (aGi, .inl (cA, 72, .inl (vGi))), (aGc, .inl (cA, 24, .inl (vGc))), (aGo, .inl (cA, 24, .inl (vGo))), (aR, .inr (4, [.ref aRt, .int vRL])), (aRt, .inl (cA, 24, .inl (vRt)))] sz) [(aH, .inr (6, [.ref aG, .ref aR, .ref aC, .ref aT, .ref aF, .ref aO])), (aO, .inr (3, [.ref aG, .ref aC, .ref aOn, .int u.2.2.1])), (aOn, .inl (cA, 250, .inl (u.2.2.2.1))), (aC, .inr (0, [.ref aG, .ref aR, .ref aCn, .ref aCc, .ref aCr, .ref aCs, .int u.2.2.2.2.1])), (aCn, .inl (cA, 5760, .inl (u.2.2.2.2.2.1))), (aCc, .inl (cA, 5760, .inl (u.2.2.2.2.2.2.1))), (aCr, .inl (cA, 600, .inl (u.2.2.2.2.2.2.2.1))), (aCs, .inl (cA, 600, .inl (u.2.2.2.2.2.2.2.2))), (aG, .inr (2, [.ref aGh, .ref aGi, .ref aGc, .ref aGo, .ref aGr, .int vGF, .int vGS])), (aGh, .inl (cA, 24, .inl (vGh))), (aGi, .inl (cA, 72, .inl (vGi))), (aGc, .inl (cA, 24, .inl (vGc))), (aGo, .inl (cA, 24, .inl (vGo))), (aR, .inr (4, [.ref aRt, .int vRL])), (aRt, .inl (cA, 24, .inl (vRt)))]) (va_A [(aH, .inr (6, [.ref aG, .ref aR, .ref aC, .ref aT, .ref aF, .ref aO])), (aO, .inr (3, [.ref aG, .ref aC, .ref aOn, .int vOE])), (aOn, .inl (cA, 250, .inl (vOn))), (aC, .inr (0, [.ref aG, .ref aR, .ref aCn, .ref aCc, .ref aCr, .ref aCs, .int vCF])), (aCn, .inl (cA, 5760, .inl (vCn))), (aCc, .inl (cA, 5760, .inl (vCc))), (aCr, .inl (cA, 600, .inl (vCr))), (aCs, .inl (cA, 600, .inl (vCs))), (aG, .inr (2, [.ref aGh, .ref aGi, .ref aGc, .ref aGo, .ref aGr, .int vGF, .int vGS])), (aGh, .inl (cA, 24, .inl (vGh))), (aGi, .inl (cA, 72, .inl (vGi))), (aGc, .inl (cA, 24, .inl (vGc))), (aGo, .inl (cA, 24, .inl (vGo))), (aR, .inr (4, [.ref aRt, .int vRL])), (aRt, .inl (cA, 24, .inl (vRt)))] sz)) 1 6 (va_A [(aH, .inr (6, [.ref aG, .ref aR, .ref aC, .ref aT, .ref aF, .ref aO])), (aO, .inr (3, [.ref aG, .ref aC, .ref aOn, .int vOE])), (aOn, .inl (cA, 250, .inl (vOn))), (aC, .inr (0, [.ref aG, .ref aR, .ref aCn, .ref aCc, .ref aCr, .ref aCs, .int vCF])), (aCn, .inl (cA, 5760, .inl (vCn))), (aCc, .inl (cA, 5760, .inl (vCc))), (aCr, .inl (cA, 600, .inl (vCr))), (aCs, .inl (cA, 600, .inl (vCs))), (aG, .inr (2, [.ref aGh, .ref aGi, .ref aGc, .ref aGo, .ref aGr, .int vGF, .int vGS])), (aGh, .inl (cA, 24, .inl (vGh))), (aGi, .inl (cA, 72, .inl (vGi))), (aGc, .inl (cA, 24, .inl (vGc))), (aGo, .inl (cA, 24, .inl (vGo))), (aR, .inr (4, [.ref aRt, .int vRL])), (aRt, .inl (cA, 24, .inl (vRt)))] sz) := by
  refine vx_ofW (cc := qc_H_next) (maxL := 3) (ret := (some .int)) (by decide) rfl ?_
  intro p e s m args below meth c s₁ B hml hout hv
  obtain ⟨rfl, hsz, ⟨hP, hK, hN⟩, hD0, hT⟩ := hv
  have hx := B.exec
  have hb := B.bytes
  have hr := B.returns
  have hts := atoms_spec (ws := qw_H_next) B.pre
  have hg : ∀ w ∈ gG, w.before _ s = true := fun w h => hts w (List.mem_cons_of_mem _ h)
  have hown : s.vm.findClass qR_H = some m.cls := findClass_of_methodNamed B.named
  have hlocks := B.notSynchronized
  subst hsz
  have hD := hD0.self (sz := s.heap.size)
  generalize hAe : va_A [(aH, .inr (6, [.ref aG, .ref aR, .ref aC, .ref aT, .ref aF, .ref aO])), (aO, .inr (3, [.ref aG, .ref aC, .ref aOn, .int vOE])), (aOn, .inl (cA, 250, .inl (vOn))), (aC, .inr (0, [.ref aG, .ref aR, .ref aCn, .ref aCc, .ref aCr, .ref aCs, .int vCF])), (aCn, .inl (cA, 5760, .inl (vCn))), (aCc, .inl (cA, 5760, .inl (vCc))), (aCr, .inl (cA, 600, .inl (vCr))), (aCs, .inl (cA, 600, .inl (vCs))), (aG, .inr (2, [.ref aGh, .ref aGi, .ref aGc, .ref aGo, .ref aGr, .int vGF, .int vGS])), (aGh, .inl (cA, 24, .inl (vGh))), (aGi, .inl (cA, 72, .inl (vGi))), (aGc, .inl (cA, 24, .inl (vGc))), (aGo, .inl (cA, 24, .inl (vGo))), (aR, .inr (4, [.ref aRt, .int vRL])), (aRt, .inl (cA, 24, .inl (vRt)))] s.heap.size = A at hD hT ⊢
  have hA : ∀ q : Nat, s.heap.size ≤ q → A q := fun q h => by rw [← hAe]; exact Or.inr h
  have hS : va_S A s.heap s.heap [] := va_S.rf
  have hP : va_P (dC, dI) vwCl [(aH, .inr (6, [.ref aG, .ref aR, .ref aC, .ref aT, .ref aF, .ref aO])), (aO, .inr (3, [.ref aG, .ref aC, .ref aOn, .int vOE])), (aOn, .inl (cA, 250, .inl (vOn))), (aC, .inr (0, [.ref aG, .ref aR, .ref aCn, .ref aCc, .ref aCr, .ref aCs, .int vCF])), (aCn, .inl (cA, 5760, .inl (vCn))), (aCc, .inl (cA, 5760, .inl (vCc))), (aCr, .inl (cA, 600, .inl (vCr))), (aCs, .inl (cA, 600, .inl (vCs))), (aG, .inr (2, [.ref aGh, .ref aGi, .ref aGc, .ref aGo, .ref aGr, .int vGF, .int vGS])), (aGh, .inl (cA, 24, .inl (vGh))), (aGi, .inl (cA, 72, .inl (vGi))), (aGc, .inl (cA, 24, .inl (vGc))), (aGo, .inl (cA, 24, .inl (vGo))), (aR, .inr (4, [.ref aRt, .int vRL])), (aRt, .inl (cA, 24, .inl (vRt)))] s.heap := hP
  have hl := lv_entry ([.ref aH, .int p0]) (n := 3) (Nat.le_of_ble_eq_true rfl)
  rw [lg_entry_eq]
  generalize (lg_sl ([.ref aH, .int p0]) ++ List.replicate (3 - (lg_sl ([.ref aH, .int p0])).length) Slot.unset).toArray = ls at hl ⊢
  have hl : lv_has ls 3 [(0, .ref aH), (1, .int p0)] := hl
  generalize hF : f_H_next N_ vOE vOn vCF vCn vCc vCr vCs vGF vGS vGh vGi vGc vGo vRL vRt p0 = Fv
  have hres : Fv = f_H_next N_ vOE vOn vCF vCn vCc vCr vCs vGF vGS vGh vGi vGc vGo vRL vRt p0 := hF.symm
  unfold f_H_next at hres
  unfold o_H_next at ho
  refine lv_iload_n hx hb qd_H_next_0 rfl (lv_at hl 1 rfl) ?_
  refine lv_if_lt (tgt := 15) hx hb qd_H_next_1 (by decide) (fun c_1 => ?_) (fun c_1 => ?_)
  · have hres := hres.trans (if_pos c_1)
    have ho := (if_pos c_1).mp ho
    refine xt_throw (code := (fun u => u.1)) (w1 := fun (u : Int32 × Int32 × Int32 × (Nat → Int32) × Int32 × (Nat → Int32) × (Nat → Int32) × (Nat → Int32) × (Nat → Int32)) => [(aH, .inr (6, [.ref aG, .ref aR, .ref aC, .ref aT, .ref aF, .ref aO])), (aO, .inr (3, [.ref aG, .ref aC, .ref aOn, .int u.2.2.1])), (aOn, .inl (cA, 250, .inl (u.2.2.2.1))), (aC, .inr (0, [.ref aG, .ref aR, .ref aCn, .ref aCc, .ref aCr, .ref aCs, .int u.2.2.2.2.1])), (aCn, .inl (cA, 5760, .inl (u.2.2.2.2.2.1))), (aCc, .inl (cA, 5760, .inl (u.2.2.2.2.2.2.1))), (aCr, .inl (cA, 600, .inl (u.2.2.2.2.2.2.2.1))), (aCs, .inl (cA, 600, .inl (u.2.2.2.2.2.2.2.2))), (aG, .inr (2, [.ref aGh, .ref aGi, .ref aGc, .ref aGo, .ref aGr, .int vGF, .int vGS])), (aGh, .inl (cA, 24, .inl (vGh))), (aGi, .inl (cA, 72, .inl (vGi))), (aGc, .inl (cA, 24, .inl (vGc))), (aGo, .inl (cA, 24, .inl (vGo))), (aR, .inr (4, [.ref aRt, .int vRL])), (aRt, .inl (cA, 24, .inl (vRt)))]) 4 hx hb hl9 hown hg hT mw_345 mw_17 (List.mem_of_getElem? (i := 5) rfl) qa_154 (by decide +kernel) hS (hl.1.trans hml.symm) qd_H_next_15 qd_H_next_18 qd_H_next_19 qd_H_next_21 qd_H_next_24 hout ?_ ?_ ?_ ?_ hlocks hP hD (4, 0, vOE, vOn, vCF, vCn, vCc, vCr, vCs) hres ?_ ?_ ?_ hS.2.2 ?_ ?_
    all_goals first | exact Nat.le_of_ble_eq_true rfl | rfl | decide
  have hres := hres.trans (if_neg c_1)
  have ho := (if_neg c_1).mp ho
  refine lv_iload_n hx hb qd_H_next_4 rfl (lv_at hl 1 rfl) ?_
  refine lv_aload_n hx hb qd_H_next_5 rfl (lv_at hl 0 rfl) ?_
  refine va_get (D := (dC, dI)) (ci := 6) (v := .ref aR) (C := qR_H) (T := qT_H) (N := 6) hx hb hg qi_H hown hK hP 0 rfl rfl 1 (by decide) (hg _ mw_134) (fun _ h9 => h9) rfl qd_H_next_6 ?_
  refine xc_V (As := []) (rest := [.int p0]) ⟨hx, hb, hml, hown, hg⟩ (c_R_length l dC dI cA aR aRt vRL) (cwV 0 hg (q_gV mw_330 mw_331 mw_332 mw_3 mw_333) rfl rfl rfl qh_R_length ⟨Nat.le_of_ble_eq_true rfl, Nat.le_of_ble_eq_true rfl⟩) hN hK hP [13] rfl 0 4 rfl rfl rfl hl.1 rfl (Nat.le_of_ble_eq_true rfl) qd_H_next_9 ⟨Nat.le_of_ble_eq_true rfl, Nat.le_of_ble_eq_true rfl⟩ ?_
  refine lv_icmp_le (tgt := 25) hx hb qd_H_next_12 (by decide) (fun c_12 => ?_) (fun c_12 => ?_)
  · have hres := hres.trans (if_pos c_12)
    have ho := (if_pos c_12).mp ho
    refine lv_aload_n hx hb qd_H_next_25 rfl (lv_at hl 0 rfl) ?_
    refine va_get (D := (dC, dI)) (ci := 6) (v := .ref aC) (C := qR_H) (T := qT_H) (N := 6) hx hb hg qi_H hown hK hP 0 rfl rfl 2 (by decide) (hg _ mw_135) (fun _ h9 => h9) rfl qd_H_next_26 ?_
    refine lv_iload_n hx hb qd_H_next_29 rfl (lv_at hl 1 rfl) ?_
    obtain ⟨g_30, ho⟩ := ho
    refine xm_Vv (As := [.int p0]) (rest := []) (w1 := fun (u_30 : Int32 × (Nat → Int32) × (Nat → Int32) × (Nat → Int32) × (Nat → Int32)) => [(aC, .inr (0, [.ref aG, .ref aR, .ref aCn, .ref aCc, .ref aCr, .ref aCs, .int u_30.1])), (aCn, .inl (cA, 5760, .inl (u_30.2.1))), (aCc, .inl (cA, 5760, .inl (u_30.2.2.1))), (aCr, .inl (cA, 600, .inl (u_30.2.2.2.1))), (aCs, .inl (cA, 600, .inl (u_30.2.2.2.2))), (aG, .inr (2, [.ref aGh, .ref aGi, .ref aGc, .ref aGo, .ref aGr, .int vGF, .int vGS])), (aGh, .inl (cA, 24, .inl (vGh))), (aGi, .inl (cA, 72, .inl (vGi))), (aGc, .inl (cA, 24, .inl (vGc))), (aGo, .inl (cA, 24, .inl (vGo))), (aR, .inr (4, [.ref aRt, .int vRL])), (aRt, .inl (cA, 24, .inl (vRt)))]) (w2 := fun (u_30 : Int32 × (Nat → Int32) × (Nat → Int32) × (Nat → Int32) × (Nat → Int32)) => [(aH, .inr (6, [.ref aG, .ref aR, .ref aC, .ref aT, .ref aF, .ref aO])), (aO, .inr (3, [.ref aG, .ref aC, .ref aOn, .int vOE])), (aOn, .inl (cA, 250, .inl (vOn))), (aC, .inr (0, [.ref aG, .ref aR, .ref aCn, .ref aCc, .ref aCr, .ref aCs, .int u_30.1])), (aCn, .inl (cA, 5760, .inl (u_30.2.1))), (aCc, .inl (cA, 5760, .inl (u_30.2.2.1))), (aCr, .inl (cA, 600, .inl (u_30.2.2.2.1))), (aCs, .inl (cA, 600, .inl (u_30.2.2.2.2))), (aG, .inr (2, [.ref aGh, .ref aGi, .ref aGc, .ref aGo, .ref aGr, .int vGF, .int vGS])), (aGh, .inl (cA, 24, .inl (vGh))), (aGi, .inl (cA, 72, .inl (vGi))), (aGc, .inl (cA, 24, .inl (vGc))), (aGo, .inl (cA, 24, .inl (vGo))), (aR, .inr (4, [.ref aRt, .int vRL])), (aRt, .inl (cA, 24, .inl (vRt)))]) ⟨hx, hb, hml, hown, hg⟩ (c_C_fill l dC dI cA N_ aC aCn aCc aCr aCs aG aGh aGi aGc aGo aGr aR aRt _ vCF vCn vCc vCr vCs vGF vGS vGh vGi vGc vGo vRL vRt p0 g_30) (cwV 1 hg (q_gV mw_358 mw_359 mw_360 mw_4 mw_361) rfl rfl rfl qh_C_fill ⟨Nat.le_of_ble_eq_true rfl, Nat.le_of_ble_eq_true rfl⟩) hN hK hP hD hS hA [3, 4, 5, 6, 7, 8, 9, 10, 11, 12, 13, 14] [0, 1, 2] rfl rfl (by decide) (by decide) (by decide) [0, 1, 2, 3, 4, 5, 6, 7, 8, 9, 10, 11, 12, 13, 14] (fun _ => rfl) (by decide) 0 0 rfl rfl rfl hl.1 rfl (Nat.le_of_ble_eq_true rfl) qd_H_next_30 ⟨Nat.le_of_ble_eq_true rfl, Nat.le_of_ble_eq_true rfl⟩ (fun u_30 H locs w_30 hP hD hS => ?_)
    have hP : va_P (dC, dI) vwCl [(aH, .inr (6, [.ref aG, .ref aR, .ref aC, .ref aT, .ref aF, .ref aO])), (aO, .inr (3, [.ref aG, .ref aC, .ref aOn, .int vOE])), (aOn, .inl (cA, 250, .inl (vOn))), (aC, .inr (0, [.ref aG, .ref aR, .ref aCn, .ref aCc, .ref aCr, .ref aCs, .int u_30.1])), (aCn, .inl (cA, 5760, .inl (u_30.2.1))), (aCc, .inl (cA, 5760, .inl (u_30.2.2.1))), (aCr, .inl (cA, 600, .inl (u_30.2.2.2.1))), (aCs, .inl (cA, 600, .inl (u_30.2.2.2.2))), (aG, .inr (2, [.ref aGh, .ref aGi, .ref aGc, .ref aGo, .ref aGr, .int vGF, .int vGS])), (aGh, .inl (cA, 24, .inl (vGh))), (aGi, .inl (cA, 72, .inl (vGi))), (aGc, .inl (cA, 24, .inl (vGc))), (aGo, .inl (cA, 24, .inl (vGo))), (aR, .inr (4, [.ref aRt, .int vRL])), (aRt, .inl (cA, 24, .inl (vRt)))] H := hP
    have hD : va_D A [(aH, .inr (6, [.ref aG, .ref aR, .ref aC, .ref aT, .ref aF, .ref aO])), (aO, .inr (3, [.ref aG, .ref aC, .ref aOn, .int vOE])), (aOn, .inl (cA, 250, .inl (vOn))), (aC, .inr (0, [.ref aG, .ref aR, .ref aCn, .ref aCc, .ref aCr, .ref aCs, .int u_30.1])), (aCn, .inl (cA, 5760, .inl (u_30.2.1))), (aCc, .inl (cA, 5760, .inl (u_30.2.2.1))), (aCr, .inl (cA, 600, .inl (u_30.2.2.2.1))), (aCs, .inl (cA, 600, .inl (u_30.2.2.2.2))), (aG, .inr (2, [.ref aGh, .ref aGi, .ref aGc, .ref aGo, .ref aGr, .int vGF, .int vGS])), (aGh, .inl (cA, 24, .inl (vGh))), (aGi, .inl (cA, 72, .inl (vGi))), (aGc, .inl (cA, 24, .inl (vGc))), (aGo, .inl (cA, 24, .inl (vGo))), (aR, .inr (4, [.ref aRt, .int vRL])), (aRt, .inl (cA, 24, .inl (vRt)))] := hD
    have hres := hres.trans (bd_eq w_30)
    have ho := (bd_eq w_30).mp ho
    refine lv_aload_n hx hb qd_H_next_33 rfl (lv_at hl 0 rfl) ?_
    refine va_get (D := (dC, dI)) (ci := 6) (v := .ref aC) (C := qR_H) (T := qT_H) (N := 6) hx hb hg qi_H hown hK hP 0 rfl rfl 2 (by decide) (hg _ mw_135) (fun _ h9 => h9) rfl qd_H_next_34 ?_
    refine lv_iconst (v := 0) hx hb qd_H_next_37 (by decide) ?_
    refine lv_iconst (v := 0) hx hb qd_H_next_38 (by decide) ?_
    refine lv_iload_n hx hb qd_H_next_39 rfl (lv_at hl 1 rfl) ?_
    obtain ⟨g_40, ho⟩ := ho
    refine xc_V (As := [.int 0, .int 0, .int p0]) (rest := []) ⟨hx, hb, hml, hown, hg⟩ (c_C_trees l dC dI cA aC aCn aCc aCr aCs aG aR aRt u_30.1 u_30.2.1 vRL vRt 0 0 p0 g_40) (cwV 3 hg (q_gV mw_441 mw_385 mw_386 mw_4 mw_387) rfl rfl rfl qh_C_trees ⟨Nat.le_of_ble_eq_true rfl, Nat.le_of_ble_eq_true rfl⟩) hN hK hP [3, 4, 13, 14] rfl 0 0 rfl rfl rfl hl.1 rfl (Nat.le_of_ble_eq_true rfl) qd_H_next_40 ⟨Nat.le_of_ble_eq_true rfl, Nat.le_of_ble_eq_true rfl⟩ ?_
    refine lv_topi (fun r_40 w_40 => ?_)
    have hres := hres.trans (bd_eq w_40)
    have ho := (bd_eq w_40).mp ho
    refine lv_if_le (tgt := 52) hx hb qd_H_next_43 (by decide) (fun c_43 => ?_) (fun c_43 => ?_)
    · have hres := hres.trans (if_pos c_43)
      have ho := (if_pos c_43).mp ho
      refine lv_iconst (v := 0) hx hb qd_H_next_52 (by decide) ?_
      refine lv_istore_n (lv' := [(2, .int 0), (0, .ref aH), (1, .int p0)]) hx hb qd_H_next_53 rfl hl (by decide) rfl (fun ls hl => ?_)
      refine lv_aload_n hx hb qd_H_next_54 rfl (lv_at hl 1 rfl) ?_
      refine va_get (D := (dC, dI)) (ci := 6) (v := .ref aO) (C := qR_H) (T := qT_H) (N := 6) hx hb hg qi_H hown hK hP 0 rfl rfl 5 (by decide) (hg _ mw_138) (fun _ h9 => h9) rfl qd_H_next_55 ?_
      refine lv_iload_n hx hb qd_H_next_58 rfl (lv_at hl 2 rfl) ?_
      obtain ⟨g_59, ho⟩ := ho
      refine xm_Vi (As := [.int p0]) (rest := []) (w1 := fun (u_59 : Int32 × Int32 × (Nat → Int32)) => [(aO, .inr (3, [.ref aG, .ref aC, .ref aOn, .int u_59.2.1])), (aOn, .inl (cA, 250, .inl (u_59.2.2))), (aC, .inr (0, [.ref aG, .ref aR, .ref aCn, .ref aCc, .ref aCr, .ref aCs, .int u_30.1])), (aCn, .inl (cA, 5760, .inl (u_30.2.1))), (aG, .inr (2, [.ref aGh, .ref aGi, .ref aGc, .ref aGo, .ref aGr, .int vGF, .int vGS])), (aGh, .inl (cA, 24, .inl (vGh))), (aGi, .inl (cA, 72, .inl (vGi))), (aR, .inr (4, [.ref aRt, .int vRL])), (aRt, .inl (cA, 24, .inl (vRt)))]) (w2 := fun (u_59 : Int32 × Int32 × (Nat → Int32)) => [(aH, .inr (6, [.ref aG, .ref aR, .ref aC, .ref aT, .ref aF, .ref aO])), (aO, .inr (3, [.ref aG, .ref aC, .ref aOn, .int u_59.2.1])), (aOn, .inl (cA, 250, .inl (u_59.2.2))), (aC, .inr (0, [.ref aG, .ref aR, .ref aCn, .ref aCc, .ref aCr, .ref aCs, .int u_30.1])), (aCn, .inl (cA, 5760, .inl (u_30.2.1))), (aCc, .inl (cA, 5760, .inl (u_30.2.2.1))), (aCr, .inl (cA, 600, .inl (u_30.2.2.2.1))), (aCs, .inl (cA, 600, .inl (u_30.2.2.2.2))), (aG, .inr (2, [.ref aGh, .ref aGi, .ref aGc, .ref aGo, .ref aGr, .int vGF, .int vGS])), (aGh, .inl (cA, 24, .inl (vGh))), (aGi, .inl (cA, 72, .inl (vGi))), (aGc, .inl (cA, 24, .inl (vGc))), (aGo, .inl (cA, 24, .inl (vGo))), (aR, .inr (4, [.ref aRt, .int vRL])), (aRt, .inl (cA, 24, .inl (vRt)))]) ⟨hx, hb, hml, hown, hg⟩ (c_O_tokensBehind l dC dI cA N_ aO aOn aC aCn aCc aCr aCs aG aGh aGi aGc aGo aGr aR aRt _ vOE vOn u_30.1 u_30.2.1 vGF vGS vGh vGi vRL vRt p0 g_59) (cwV 1 hg (q_gV mw_535 mw_536 mw_537 mw_7 mw_538) rfl rfl rfl qh_O_tokensBehind ⟨Nat.le_of_ble_eq_true rfl, Nat.le_of_ble_eq_true rfl⟩) hN hK hP hD hS hA [1, 2, 3, 4, 8, 9, 10, 13, 14] [0, 5, 6, 7, 11, 12] rfl rfl (by decide) (by decide) (by decide) [0, 6, 7, 8, 9, 1, 2, 3, 10, 11, 12, 4, 5, 13, 14] (fun _ => rfl) (by decide) 0 3 rfl rfl rfl hl.1 rfl (Nat.le_of_ble_eq_true rfl) qd_H_next_59 ⟨Nat.le_of_ble_eq_true rfl, Nat.le_of_ble_eq_true rfl⟩ (fun u_59 H locs w_59 hP hD hS => ?_)
      have hP : va_P (dC, dI) vwCl [(aH, .inr (6, [.ref aG, .ref aR, .ref aC, .ref aT, .ref aF, .ref aO])), (aO, .inr (3, [.ref aG, .ref aC, .ref aOn, .int u_59.2.1])), (aOn, .inl (cA, 250, .inl (u_59.2.2))), (aC, .inr (0, [.ref aG, .ref aR, .ref aCn, .ref aCc, .ref aCr, .ref aCs, .int u_30.1])), (aCn, .inl (cA, 5760, .inl (u_30.2.1))), (aCc, .inl (cA, 5760, .inl (u_30.2.2.1))), (aCr, .inl (cA, 600, .inl (u_30.2.2.2.1))), (aCs, .inl (cA, 600, .inl (u_30.2.2.2.2))), (aG, .inr (2, [.ref aGh, .ref aGi, .ref aGc, .ref aGo, .ref aGr, .int vGF, .int vGS])), (aGh, .inl (cA, 24, .inl (vGh))), (aGi, .inl (cA, 72, .inl (vGi))), (aGc, .inl (cA, 24, .inl (vGc))), (aGo, .inl (cA, 24, .inl (vGo))), (aR, .inr (4, [.ref aRt, .int vRL])), (aRt, .inl (cA, 24, .inl (vRt)))] H := hP
      have hD : va_D A [(aH, .inr (6, [.ref aG, .ref aR, .ref aC, .ref aT, .ref aF, .ref aO])), (aO, .inr (3, [.ref aG, .ref aC, .ref aOn, .int u_59.2.1])), (aOn, .inl (cA, 250, .inl (u_59.2.2))), (aC, .inr (0, [.ref aG, .ref aR, .ref aCn, .ref aCc, .ref aCr, .ref aCs, .int u_30.1])), (aCn, .inl (cA, 5760, .inl (u_30.2.1))), (aCc, .inl (cA, 5760, .inl (u_30.2.2.1))), (aCr, .inl (cA, 600, .inl (u_30.2.2.2.1))), (aCs, .inl (cA, 600, .inl (u_30.2.2.2.2))), (aG, .inr (2, [.ref aGh, .ref aGi, .ref aGc, .ref aGo, .ref aGr, .int vGF, .int vGS])), (aGh, .inl (cA, 24, .inl (vGh))), (aGi, .inl (cA, 72, .inl (vGi))), (aGc, .inl (cA, 24, .inl (vGc))), (aGo, .inl (cA, 24, .inl (vGo))), (aR, .inr (4, [.ref aRt, .int vRL])), (aRt, .inl (cA, 24, .inl (vRt)))] := hD
      have hres := hres.trans (bd_eq w_59)
      have ho := (bd_eq w_59).mp ho
      refine lv_iload_n hx hb qd_H_next_62 rfl (lv_at hl 0 rfl) ?_
      refine lv_ior hx hb qd_H_next_63 ?_
      refine vx_ret ?_
      refine W.widen (k := 1) (n := 6) (Nat.le_of_ble_eq_true rfl) (Nat.le_of_ble_eq_true rfl) ?_
      exact W.iret (v := u_59.1 ||| 0) hx hb hr (fun t ht hW => ⟨⟨_, (0, u_59.1 ||| 0, u_59.2.1, u_59.2.2, u_30.1, u_30.2.1, u_30.2.2.1, u_30.2.2.2.1, u_30.2.2.2.2), rfl, ⟨hres.symm, rfl, rfl⟩, ⟨by rw [ht]; exact hP, va_K.moved hW.alike hK, x_N hN hW⟩, hD⟩, hS.F ht⟩) hS.2.2 qd_H_next_64
    have hres := hres.trans (if_neg c_43)
    have ho := (if_neg c_43).mp ho
    refine lv_sipush (v := 1024) hx hb qd_H_next_46 (by decide) ?_
    refine lv_goto (tgt := 53) hx hb qd_H_next_49 (by decide) ?_
    refine lv_istore_n (lv' := [(2, .int 1024), (0, .ref aH), (1, .int p0)]) hx hb qd_H_next_53 rfl hl (by decide) rfl (fun ls hl => ?_)
    refine lv_aload_n hx hb qd_H_next_54 rfl (lv_at hl 1 rfl) ?_
    refine va_get (D := (dC, dI)) (ci := 6) (v := .ref aO) (C := qR_H) (T := qT_H) (N := 6) hx hb hg qi_H hown hK hP 0 rfl rfl 5 (by decide) (hg _ mw_138) (fun _ h9 => h9) rfl qd_H_next_55 ?_
    refine lv_iload_n hx hb qd_H_next_58 rfl (lv_at hl 2 rfl) ?_
    obtain ⟨g_59, ho⟩ := ho
    refine xm_Vi (As := [.int p0]) (rest := []) (w1 := fun (u_59 : Int32 × Int32 × (Nat → Int32)) => [(aO, .inr (3, [.ref aG, .ref aC, .ref aOn, .int u_59.2.1])), (aOn, .inl (cA, 250, .inl (u_59.2.2))), (aC, .inr (0, [.ref aG, .ref aR, .ref aCn, .ref aCc, .ref aCr, .ref aCs, .int u_30.1])), (aCn, .inl (cA, 5760, .inl (u_30.2.1))), (aG, .inr (2, [.ref aGh, .ref aGi, .ref aGc, .ref aGo, .ref aGr, .int vGF, .int vGS])), (aGh, .inl (cA, 24, .inl (vGh))), (aGi, .inl (cA, 72, .inl (vGi))), (aR, .inr (4, [.ref aRt, .int vRL])), (aRt, .inl (cA, 24, .inl (vRt)))]) (w2 := fun (u_59 : Int32 × Int32 × (Nat → Int32)) => [(aH, .inr (6, [.ref aG, .ref aR, .ref aC, .ref aT, .ref aF, .ref aO])), (aO, .inr (3, [.ref aG, .ref aC, .ref aOn, .int u_59.2.1])), (aOn, .inl (cA, 250, .inl (u_59.2.2))), (aC, .inr (0, [.ref aG, .ref aR, .ref aCn, .ref aCc, .ref aCr, .ref aCs, .int u_30.1])), (aCn, .inl (cA, 5760, .inl (u_30.2.1))), (aCc, .inl (cA, 5760, .inl (u_30.2.2.1))), (aCr, .inl (cA, 600, .inl (u_30.2.2.2.1))), (aCs, .inl (cA, 600, .inl (u_30.2.2.2.2))), (aG, .inr (2, [.ref aGh, .ref aGi, .ref aGc, .ref aGo, .ref aGr, .int vGF, .int vGS])), (aGh, .inl (cA, 24, .inl (vGh))), (aGi, .inl (cA, 72, .inl (vGi))), (aGc, .inl (cA, 24, .inl (vGc))), (aGo, .inl (cA, 24, .inl (vGo))), (aR, .inr (4, [.ref aRt, .int vRL])), (aRt, .inl (cA, 24, .inl (vRt)))]) ⟨hx, hb, hml, hown, hg⟩ (c_O_tokensBehind l dC dI cA N_ aO aOn aC aCn aCc aCr aCs aG aGh aGi aGc aGo aGr aR aRt _ vOE vOn u_30.1 u_30.2.1 vGF vGS vGh vGi vRL vRt p0 g_59) (cwV 1 hg (q_gV mw_535 mw_536 mw_537 mw_7 mw_538) rfl rfl rfl qh_O_tokensBehind ⟨Nat.le_of_ble_eq_true rfl, Nat.le_of_ble_eq_true rfl⟩) hN hK hP hD hS hA [1, 2, 3, 4, 8, 9, 10, 13, 14] [0, 5, 6, 7, 11, 12] rfl rfl (by decide) (by decide) (by decide) [0, 6, 7, 8, 9, 1, 2, 3, 10, 11, 12, 4, 5, 13, 14] (fun _ => rfl) (by decide) 0 3 rfl rfl rfl hl.1 rfl (Nat.le_of_ble_eq_true rfl) qd_H_next_59 ⟨Nat.le_of_ble_eq_true rfl, Nat.le_of_ble_eq_true rfl⟩ (fun u_59 H locs w_59 hP hD hS => ?_)
    have hP : va_P (dC, dI) vwCl [(aH, .inr (6, [.ref aG, .ref aR, .ref aC, .ref aT, .ref aF, .ref aO])), (aO, .inr (3, [.ref aG, .ref aC, .ref aOn, .int u_59.2.1])), (aOn, .inl (cA, 250, .inl (u_59.2.2))), (aC, .inr (0, [.ref aG, .ref aR, .ref aCn, .ref aCc, .ref aCr, .ref aCs, .int u_30.1])), (aCn, .inl (cA, 5760, .inl (u_30.2.1))), (aCc, .inl (cA, 5760, .inl (u_30.2.2.1))), (aCr, .inl (cA, 600, .inl (u_30.2.2.2.1))), (aCs, .inl (cA, 600, .inl (u_30.2.2.2.2))), (aG, .inr (2, [.ref aGh, .ref aGi, .ref aGc, .ref aGo, .ref aGr, .int vGF, .int vGS])), (aGh, .inl (cA, 24, .inl (vGh))), (aGi, .inl (cA, 72, .inl (vGi))), (aGc, .inl (cA, 24, .inl (vGc))), (aGo, .inl (cA, 24, .inl (vGo))), (aR, .inr (4, [.ref aRt, .int vRL])), (aRt, .inl (cA, 24, .inl (vRt)))] H := hP
    have hD : va_D A [(aH, .inr (6, [.ref aG, .ref aR, .ref aC, .ref aT, .ref aF, .ref aO])), (aO, .inr (3, [.ref aG, .ref aC, .ref aOn, .int u_59.2.1])), (aOn, .inl (cA, 250, .inl (u_59.2.2))), (aC, .inr (0, [.ref aG, .ref aR, .ref aCn, .ref aCc, .ref aCr, .ref aCs, .int u_30.1])), (aCn, .inl (cA, 5760, .inl (u_30.2.1))), (aCc, .inl (cA, 5760, .inl (u_30.2.2.1))), (aCr, .inl (cA, 600, .inl (u_30.2.2.2.1))), (aCs, .inl (cA, 600, .inl (u_30.2.2.2.2))), (aG, .inr (2, [.ref aGh, .ref aGi, .ref aGc, .ref aGo, .ref aGr, .int vGF, .int vGS])), (aGh, .inl (cA, 24, .inl (vGh))), (aGi, .inl (cA, 72, .inl (vGi))), (aGc, .inl (cA, 24, .inl (vGc))), (aGo, .inl (cA, 24, .inl (vGo))), (aR, .inr (4, [.ref aRt, .int vRL])), (aRt, .inl (cA, 24, .inl (vRt)))] := hD
    have hres := hres.trans (bd_eq w_59)
    have ho := (bd_eq w_59).mp ho
    refine lv_iload_n hx hb qd_H_next_62 rfl (lv_at hl 0 rfl) ?_
    refine lv_ior hx hb qd_H_next_63 ?_
    refine vx_ret ?_
    refine W.widen (k := 1) (n := 6) (Nat.le_of_ble_eq_true rfl) (Nat.le_of_ble_eq_true rfl) ?_
    exact W.iret (v := u_59.1 ||| 1024) hx hb hr (fun t ht hW => ⟨⟨_, (0, u_59.1 ||| 1024, u_59.2.1, u_59.2.2, u_30.1, u_30.2.1, u_30.2.2.1, u_30.2.2.2.1, u_30.2.2.2.2), rfl, ⟨hres.symm, rfl, rfl⟩, ⟨by rw [ht]; exact hP, va_K.moved hW.alike hK, x_N hN hW⟩, hD⟩, hS.F ht⟩) hS.2.2 qd_H_next_64
  have hres := hres.trans (if_neg c_12)
  have ho := (if_neg c_12).mp ho
  refine xt_throw (code := (fun u => u.1)) (w1 := fun (u : Int32 × Int32 × Int32 × (Nat → Int32) × Int32 × (Nat → Int32) × (Nat → Int32) × (Nat → Int32) × (Nat → Int32)) => [(aH, .inr (6, [.ref aG, .ref aR, .ref aC, .ref aT, .ref aF, .ref aO])), (aO, .inr (3, [.ref aG, .ref aC, .ref aOn, .int u.2.2.1])), (aOn, .inl (cA, 250, .inl (u.2.2.2.1))), (aC, .inr (0, [.ref aG, .ref aR, .ref aCn, .ref aCc, .ref aCr, .ref aCs, .int u.2.2.2.2.1])), (aCn, .inl (cA, 5760, .inl (u.2.2.2.2.2.1))), (aCc, .inl (cA, 5760, .inl (u.2.2.2.2.2.2.1))), (aCr, .inl (cA, 600, .inl (u.2.2.2.2.2.2.2.1))), (aCs, .inl (cA, 600, .inl (u.2.2.2.2.2.2.2.2))), (aG, .inr (2, [.ref aGh, .ref aGi, .ref aGc, .ref aGo, .ref aGr, .int vGF, .int vGS])), (aGh, .inl (cA, 24, .inl (vGh))), (aGi, .inl (cA, 72, .inl (vGi))), (aGc, .inl (cA, 24, .inl (vGc))), (aGo, .inl (cA, 24, .inl (vGo))), (aR, .inr (4, [.ref aRt, .int vRL])), (aRt, .inl (cA, 24, .inl (vRt)))]) 4 hx hb hl9 hown hg hT mw_345 mw_17 (List.mem_of_getElem? (i := 5) rfl) qa_154 (by decide +kernel) hS (hl.1.trans hml.symm) qd_H_next_15 qd_H_next_18 qd_H_next_19 qd_H_next_21 qd_H_next_24 hout ?_ ?_ ?_ ?_ hlocks hP hD (4, 0, vOE, vOn, vCF, vCn, vCc, vCr, vCs) hres ?_ ?_ ?_ hS.2.2 ?_ ?_
  all_goals first | exact Nat.le_of_ble_eq_true rfl | rfl | decide
theorem qd_H_production_0 : decode qc_H_production 0 = .ok (.iload_n 1, 1) := by decide +kernel
theorem qd_H_production_1 : decode qc_H_production 1 = .ok (.invokestatic 66, 3) := by decide +kernel
theorem qd_H_production_4 : decode qc_H_production 4 = .ok (.ifCond .eq 26, 3) := by decide +kernel
theorem qd_H_production_7 : decode qc_H_production 7 = .ok (.iload_n 2, 1) := by decide +kernel
theorem qd_H_production_8 : decode qc_H_production 8 = .ok (.iload_n 3, 1) := by decide +kernel
theorem qd_H_production_9 : decode qc_H_production 9 = .ok (.iload 4, 2) := by decide +kernel
theorem qd_H_production_11 : decode qc_H_production 11 = .ok (.invokestatic 70, 3) := by decide +kernel
theorem qd_H_production_14 : decode qc_H_production 14 = .ok (.ifCond .eq 16, 3) := by decide +kernel
theorem qd_H_production_17 : decode qc_H_production 17 = .ok (.iload 5, 2) := by decide +kernel
theorem qd_H_production_19 : decode qc_H_production 19 = .ok (.ifCond .lt 11, 3) := by decide +kernel
theorem qd_H_production_22 : decode qc_H_production 22 = .ok (.iload 5, 2) := by decide +kernel
theorem qd_H_production_24 : decode qc_H_production 24 = .ok (.sipush 1000, 3) := by decide +kernel
theorem qd_H_production_27 : decode qc_H_production 27 = .ok (.if_icmp .le 13, 3) := by decide +kernel
theorem qd_H_production_30 : decode qc_H_production 30 = .ok (.new 74, 3) := by decide +kernel
theorem qd_H_production_33 : decode qc_H_production 33 = .ok (.dup, 1) := by decide +kernel
theorem qd_H_production_34 : decode qc_H_production 34 = .ok (.ldc 76, 2) := by decide +kernel
theorem qd_H_production_36 : decode qc_H_production 36 = .ok (.invokespecial 78, 3) := by decide +kernel
theorem qd_H_production_39 : decode qc_H_production 39 = .ok (.athrow, 1) := by decide +kernel
theorem qd_H_production_40 : decode qc_H_production 40 = .ok (.aload_n 0, 1) := by decide +kernel
theorem qd_H_production_41 : decode qc_H_production 41 = .ok (.getfield 12, 3) := by decide +kernel
theorem qd_H_production_44 : decode qc_H_production 44 = .ok (.invokevirtual 81, 3) := by decide +kernel
theorem qd_H_production_47 : decode qc_H_production 47 = .ok (.ifCond .eq 13, 3) := by decide +kernel
theorem qd_H_production_50 : decode qc_H_production 50 = .ok (.new 85, 3) := by decide +kernel
theorem qd_H_production_53 : decode qc_H_production 53 = .ok (.dup, 1) := by decide +kernel
theorem qd_H_production_54 : decode qc_H_production 54 = .ok (.ldc 87, 2) := by decide +kernel
theorem qd_H_production_56 : decode qc_H_production 56 = .ok (.invokespecial 89, 3) := by decide +kernel
theorem qd_H_production_59 : decode qc_H_production 59 = .ok (.athrow, 1) := by decide +kernel
theorem qd_H_production_60 : decode qc_H_production 60 = .ok (.iload_n 2, 1) := by decide +kernel
theorem qd_H_production_61 : decode qc_H_production 61 = .ok (.iload_n 3, 1) := by decide +kernel
theorem qd_H_production_62 : decode qc_H_production 62 = .ok (.invokestatic 90, 3) := by decide +kernel
theorem qd_H_production_65 : decode qc_H_production 65 = .ok (.ifCond .eq 25, 3) := by decide +kernel
theorem qd_H_production_68 : decode qc_H_production 68 = .ok (.aload_n 0, 1) := by decide +kernel
theorem qd_H_production_69 : decode qc_H_production 69 = .ok (.getfield 12, 3) := by decide +kernel
theorem qd_H_production_72 : decode qc_H_production 72 = .ok (.iload_n 1, 1) := by decide +kernel
theorem qd_H_production_73 : decode qc_H_production 73 = .ok (.iload_n 2, 1) := by decide +kernel
theorem qd_H_production_74 : decode qc_H_production 74 = .ok (.invokevirtual 94, 3) := by decide +kernel
theorem qd_H_production_77 : decode qc_H_production 77 = .ok (.ifCond .eq 13, 3) := by decide +kernel
theorem qd_H_production_80 : decode qc_H_production 80 = .ok (.new 97, 3) := by decide +kernel
theorem qd_H_production_83 : decode qc_H_production 83 = .ok (.dup, 1) := by decide +kernel
theorem qd_H_production_84 : decode qc_H_production 84 = .ok (.ldc 99, 2) := by decide +kernel
theorem qd_H_production_86 : decode qc_H_production 86 = .ok (.invokespecial 101, 3) := by decide +kernel
theorem qd_H_production_89 : decode qc_H_production 89 = .ok (.athrow, 1) := by decide +kernel
theorem qd_H_production_90 : decode qc_H_production 90 = .ok (.aload_n 0, 1) := by decide +kernel
theorem qd_H_production_91 : decode qc_H_production 91 = .ok (.getfield 28, 3) := by decide +kernel
theorem qd_H_production_94 : decode qc_H_production 94 = .ok (.iconst 0, 1) := by decide +kernel
theorem qd_H_production_95 : decode qc_H_production 95 = .ok (.invokevirtual 62, 3) := by decide +kernel
theorem qd_H_production_98 : decode qc_H_production 98 = .ok (.aload_n 0, 1) := by decide +kernel
theorem qd_H_production_99 : decode qc_H_production 99 = .ok (.getfield 12, 3) := by decide +kernel
theorem qd_H_production_102 : decode qc_H_production 102 = .ok (.iload_n 1, 1) := by decide +kernel
theorem qd_H_production_103 : decode qc_H_production 103 = .ok (.iload_n 2, 1) := by decide +kernel
theorem qd_H_production_104 : decode qc_H_production 104 = .ok (.iload_n 3, 1) := by decide +kernel
theorem qd_H_production_105 : decode qc_H_production 105 = .ok (.iload 4, 2) := by decide +kernel
theorem qd_H_production_107 : decode qc_H_production 107 = .ok (.iload 5, 2) := by decide +kernel
theorem qd_H_production_109 : decode qc_H_production 109 = .ok (.invokevirtual 102, 3) := by decide +kernel
theorem qd_H_production_112 : decode qc_H_production 112 = .ok (.ireturn, 1) := by decide +kernel
set_option maxHeartbeats 4000000 in
set_option maxRecDepth 100000 in
theorem c_H_production (l : Launch) (hl9 : l.stackTraces = false) (dC : Nat → ClassId) (dI : Nat → Nat → Nat) (cA : ClassId) (N_ : Nat) (aH aF aO aT aC aCn aCc aCr aCs aG aGh aGi aGc aGo aGr aR : Nat) (sz : Nat) (vCF : Int32) (vGF : Int32) (vGS : Int32) (vGh : (Nat → Int32)) (vGi : (Nat → Int32)) (vGc : (Nat → Int32)) (vGo : (Nat → Int32)) (vGr : (Nat → Int32)) (p0 : Int32) (p1 : Int32) (p2 : Int32) (p3 : Int32) (p4 : Int32) (ho : o_H_production N_ vCF vGF vGS vGh vGi vGc vGo vGr p0 p1 p2 p3 p4) : vx_Met l qy_H_production qw_H_production ({ frames := 6, cells := 1, slots := 6, locals := 111 }) (va_Pc [.ref aH, .int p0, .int p1, .int p2, .int p3, .int p4] (xPT (dC, dI) [(cA, .int)] [(aH, .inr (6, [.ref aG, .ref aR, .ref aC, .ref aT, .ref aF, .ref aO])), (aC, .inr (0, [.ref aG, .ref aR, .ref aCn, .ref aCc, .ref aCr, .ref aCs, .int vCF])), (aG, .inr (2, [.ref aGh, .ref aGi, .ref aGc, .ref aGo, .ref aGr, .int vGF, .int vGS])), (aGh, .inl (cA, 24, .inl (vGh))), (aGi, .inl (cA, 72, .inl (vGi))), (aGc, .inl (cA, 24, .inl (vGc))), (aGo, .inl (cA, 24, .inl (vGo))), (aGr, .inl (cA, 10, .inl (vGr)))] sz)) (va_Qi (fun r (u : Int32 × Int32 × Int32 × Int32 × Int32 × (Nat → Int32) × (Nat → Int32) × (Nat → Int32) × (Nat → Int32) × (Nat → Int32)) => u = f_H_production N_ vCF vGF vGS vGh vGi vGc vGo vGr p0 p1 p2 p3 p4 ∧ u.1 = 0 ∧ r = u.2.1) (fun (u : Int32 × Int32 × Int32 × Int32 × Int32 × (Nat → Int32) × (Nat → Int32) × (Nat → Int32) × (Nat → Int32) × (Nat → Int32)) t => xP (dC, dI) [(cA, .int)] [(aH, .inr (6, [.ref aG, .ref aR, .ref aC, .ref aT, .ref aF, .ref aO])), (aC, .inr (0, [.ref aG, .ref aR, .ref aCn, .ref aCc, .ref aCr, .ref aCs, .int u.2.2.1])), (aG, .inr (2, [.ref aGh, .ref aGi, .ref aGc, .ref aGo, .ref aGr, .int u.2.2.2.1, .int u.2.2.2.2.1])), (aGh, .inl (cA, 24, .inl (u.2.2.2.2.2.1))), (aGi, .inl (cA, 72, .inl (u.2.2.2.2.2.2.1))), (aGc, .inl (cA, 24, .inl (u.2.2.2.2.2.2.2.1))), (aGo, .inl (cA, 24, .inl (u.2.2.2.2.2.2.2.2.1))), (aGr, .inl (cA, 10, .inl (u.2.2.2.2.2.2.2.2.2)))] nestN t ∧ va_D (va_A [(aH, .inr (6, [.ref aG, .ref aR, .ref aC, .ref aT, .ref aF, .ref aO])), (aC, .inr (0, [.ref aG, .ref aR, .ref aCn, .ref aCc, .ref aCr, .ref aCs, .int vCF])), (aG, .inr (2, [.ref aGh, .ref aGi, .ref aGc, .ref aGo, .ref aGr, .int vGF, .int vGS])), (aGh, .inl (cA, 24, .inl (vGh))), (aGi, .inl (cA, 72, .inl (vGi))), (aGc, .inl (cA, 24, .inl (vGc))), (aGo, .inl (cA, 24, .inl (vGo))), (aGr, .inl (cA, 10, .inl (vGr)))] sz) [(aH, .inr (6, [.ref aG, .ref aR, .ref aC, .ref aT, .ref aF, .ref aO])), (aC, .inr (0, [.ref aG, .ref aR, .ref aCn, .ref aCc, .ref aCr, .ref aCs, .int u.2.2.1])), (aG, .inr (2, [.ref aGh, .ref aGi, .ref aGc, .ref aGo, .ref aGr, .int u.2.2.2.1, .int u.2.2.2.2.1])), (aGh, .inl (cA, 24, .inl (u.2.2.2.2.2.1))), (aGi, .inl (cA, 72, .inl (u.2.2.2.2.2.2.1))), (aGc, .inl (cA, 24, .inl (u.2.2.2.2.2.2.2.1))), (aGo, .inl (cA, 24, .inl (u.2.2.2.2.2.2.2.2.1))), (aGr, .inl (cA, 10, .inl (u.2.2.2.2.2.2.2.2.2)))]) (va_A [(aH, .inr (6, [.ref aG, .ref aR, .ref aC, .ref aT, .ref aF, .ref aO])), (aC, .inr (0, [.ref aG, .ref aR, .ref aCn, .ref aCc, .ref aCr, .ref aCs, .int vCF])), (aG, .inr (2, [.ref aGh, .ref aGi, .ref aGc, .ref aGo, .ref aGr, .int vGF, .int vGS])), (aGh, .inl (cA, 24, .inl (vGh))), (aGi, .inl (cA, 72, .inl (vGi))), (aGc, .inl (cA, 24, .inl (vGc))), (aGo, .inl (cA, 24, .inl (vGo))), (aGr, .inl (cA, 10, .inl (vGr)))] sz)) (vx_X (fun (u : Int32 × Int32 × Int32 × Int32 × Int32 × (Nat → Int32) × (Nat → Int32) × (Nat → Int32) × (Nat → Int32) × (Nat → Int32)) => u = f_H_production N_ vCF vGF vGS vGh vGi vGc vGo vGr p0 p1 p2 p3 p4 ∧ ¬ u.1 = 0) (fun E u t => E = exN u.1 ∧ va_P (dC, dI) vwCl [(aH, .inr (6, [.ref aG, .ref aR, .ref aC, .ref aT, .ref aF, .ref aO])), (aC, .inr (0, [.ref aG, .ref aR, .ref aCn, .ref aCc, .ref aCr, .ref aCs, .int u.2.2.1])), (aG, .inr (2, [.ref aGh, .ref aGi, .ref aGc, .ref aGo, .ref aGr, .int u.2.2.2.1, .int u.2.2.2.2.1])), (aGh, .inl (cA, 24, .inl (u.2.2.2.2.2.1))), (aGi, .inl (cA, 72, .inl (u.2.2.2.2.2.2.1))), (aGc, .inl (cA, 24, .inl (u.2.2.2.2.2.2.2.1))), (aGo, .inl (cA, 24, .inl (u.2.2.2.2.2.2.2.2.1))), (aGr, .inl (cA, 10, .inl (u.2.2.2.2.2.2.2.2.2)))] t.heap ∧ va_D (va_A [(aH, .inr (6, [.ref aG, .ref aR, .ref aC, .ref aT, .ref aF, .ref aO])), (aC, .inr (0, [.ref aG, .ref aR, .ref aCn, .ref aCc, .ref aCr, .ref aCs, .int vCF])), (aG, .inr (2, [.ref aGh, .ref aGi, .ref aGc, .ref aGo, .ref aGr, .int vGF, .int vGS])), (aGh, .inl (cA, 24, .inl (vGh))), (aGi, .inl (cA, 72, .inl (vGi))), (aGc, .inl (cA, 24, .inl (vGc))), (aGo, .inl (cA, 24, .inl (vGo))), (aGr, .inl (cA, 10, .inl (vGr)))] sz) [(aH, .inr (6, [.ref aG, .ref aR, .ref aC, .ref aT, .ref aF, .ref aO])), (aC, .inr (0, [.ref aG, .ref aR, .ref aCn, .ref aCc, .ref aCr, .ref aCs, .int u.2.2.1])), (aG, .inr (2, [.ref aGh, .ref aGi, .ref aGc, .ref aGo, .ref aGr, .int u.2.2.2.1, .int u.2.2.2.2.1])), (aGh, .inl (cA, 24, .inl (u.2.2.2.2.2.1))), (aGi, .inl (cA, 72, .inl (u.2.2.2.2.2.2.1))), (aGc, .inl (cA, 24, .inl (u.2.2.2.2.2.2.2.1))), (aGo, .inl (cA, 24, .inl (u.2.2.2.2.2.2.2.2.1))), (aGr, .inl (cA, 10, .inl (u.2.2.2.2.2.2.2.2.2)))]) (va_A [(aH, .inr (6, [.ref aG, .ref aR, .ref aC, .ref aT, .ref aF, .ref aO])), (aC, .inr (0, [.ref aG, .ref aR, .ref aCn, .ref aCc, .ref aCr, .ref aCs, .int vCF])), (aG, .inr (2, [.ref aGh, .ref aGi, .ref aGc, .ref aGo, .ref aGr, .int vGF, .int vGS])), (aGh, .inl (cA, 24, .inl (vGh))), (aGi, .inl (cA, 72, .inl (vGi))), (aGc, .inl (cA, 24, .inl (vGc))), (aGo, .inl (cA, 24, .inl (vGo))), (aGr, .inl (cA, 10, .inl (vGr)))] sz)) 1 6 (va_A [(aH, .inr (6, [.ref aG, .ref aR, .ref aC, .ref aT, .ref aF, .ref aO])), (aC, .inr (0, [.ref aG, .ref aR, .ref aCn, .ref aCc, .ref aCr, .ref aCs, .int vCF])), (aG, .inr (2, [.ref aGh, .ref aGi, .ref aGc, .ref aGo, .ref aGr, .int vGF, .int vGS])), (aGh, .inl (cA, 24, .inl (vGh))), (aGi, .inl (cA, 72, .inl (vGi))), (aGc, .inl (cA, 24, .inl (vGc))), (aGo, .inl (cA, 24, .inl (vGo))), (aGr, .inl (cA, 10, .inl (vGr)))] sz) := by
  refine vx_ofW (cc := qc_H_production) (maxL := 6) (ret := (some .int)) (by decide) rfl ?_
  intro p e s m args below meth c s₁ B hml hout hv
  obtain ⟨rfl, hsz, ⟨hP, hK, hN⟩, hD0, hT⟩ := hv
  have hx := B.exec
  have hb := B.bytes
  have hr := B.returns
  have hts := atoms_spec (ws := qw_H_production) B.pre
  have hg : ∀ w ∈ gG, w.before _ s = true := fun w h => hts w (List.mem_cons_of_mem _ h)
  have hown : s.vm.findClass qR_H = some m.cls := findClass_of_methodNamed B.named
  have hlocks := B.notSynchronized
  subst hsz
  have hD := hD0.self (sz := s.heap.size)
  generalize hAe : va_A [(aH, .inr (6, [.ref aG, .ref aR, .ref aC, .ref aT, .ref aF, .ref aO])), (aC, .inr (0, [.ref aG, .ref aR, .ref aCn, .ref aCc, .ref aCr, .ref aCs, .int vCF])), (aG, .inr (2, [.ref aGh, .ref aGi, .ref aGc, .ref aGo, .ref aGr, .int vGF, .int vGS])), (aGh, .inl (cA, 24, .inl (vGh))), (aGi, .inl (cA, 72, .inl (vGi))), (aGc, .inl (cA, 24, .inl (vGc))), (aGo, .inl (cA, 24, .inl (vGo))), (aGr, .inl (cA, 10, .inl (vGr)))] s.heap.size = A at hD hT ⊢
  have hA : ∀ q : Nat, s.heap.size ≤ q → A q := fun q h => by rw [← hAe]; exact Or.inr h
  have hS : va_S A s.heap s.heap [] := va_S.rf
  have hP : va_P (dC, dI) vwCl [(aH, .inr (6, [.ref aG, .ref aR, .ref aC, .ref aT, .ref aF, .ref aO])), (aC, .inr (0, [.ref aG, .ref aR, .ref aCn, .ref aCc, .ref aCr, .ref aCs, .int vCF])), (aG, .inr (2, [.ref aGh, .ref aGi, .ref aGc, .ref aGo, .ref aGr, .int vGF, .int vGS])), (aGh, .inl (cA, 24, .inl (vGh))), (aGi, .inl (cA, 72, .inl (vGi))), (aGc, .inl (cA, 24, .inl (vGc))), (aGo, .inl (cA, 24, .inl (vGo))), (aGr, .inl (cA, 10, .inl (vGr)))] s.heap := hP
  have hl := lv_entry ([.ref aH, .int p0, .int p1, .int p2, .int p3, .int p4]) (n := 6) (Nat.le_of_ble_eq_true rfl)
  rw [lg_entry_eq]
  generalize (lg_sl ([.ref aH, .int p0, .int p1, .int p2, .int p3, .int p4]) ++ List.replicate (6 - (lg_sl ([.ref aH, .int p0, .int p1, .int p2, .int p3, .int p4])).length) Slot.unset).toArray = ls at hl ⊢
  have hl : lv_has ls 6 [(0, .ref aH), (1, .int p0), (2, .int p1), (3, .int p2), (4, .int p3), (5, .int p4)] := hl
  generalize hF : f_H_production N_ vCF vGF vGS vGh vGi vGc vGo vGr p0 p1 p2 p3 p4 = Fv
  have hres : Fv = f_H_production N_ vCF vGF vGS vGh vGi vGc vGo vGr p0 p1 p2 p3 p4 := hF.symm
  unfold f_H_production at hres
  unfold o_H_production at ho
  refine lv_iload_n hx hb qd_H_production_0 rfl (lv_at hl 1 rfl) ?_
  refine xc_S (As := [.int p0]) (rest := []) ⟨hx, hb, hml, hown, hg⟩ (c_H_isSymbol l dC dI cA p0) (va_cwS 1 hg (q_gS mw_178 mw_179 mw_1 mw_180) rfl rfl rfl qh_H_isSymbol.2 ⟨Nat.le_of_ble_eq_true rfl, Nat.le_of_ble_eq_true rfl⟩) hN hK hP [] rfl rfl hl.1 rfl (Nat.le_of_ble_eq_true rfl) qd_H_production_1 ⟨Nat.le_of_ble_eq_true rfl, Nat.le_of_ble_eq_true rfl⟩ ?_
  refine lv_topi (fun r_1 w_1 => ?_)
  have hres := hres.trans (bd_eq w_1)
  have ho := (bd_eq w_1).mp ho
  refine lv_if_eq (tgt := 30) hx hb qd_H_production_4 (by decide) (fun c_4 => ?_) (fun c_4 => ?_)
  · have hres := hres.trans (if_pos c_4)
    have ho := (if_pos c_4).mp ho
    refine xt_throw (code := (fun u => u.1)) (w1 := fun (u : Int32 × Int32 × Int32 × Int32 × Int32 × (Nat → Int32) × (Nat → Int32) × (Nat → Int32) × (Nat → Int32) × (Nat → Int32)) => [(aH, .inr (6, [.ref aG, .ref aR, .ref aC, .ref aT, .ref aF, .ref aO])), (aC, .inr (0, [.ref aG, .ref aR, .ref aCn, .ref aCc, .ref aCr, .ref aCs, .int u.2.2.1])), (aG, .inr (2, [.ref aGh, .ref aGi, .ref aGc, .ref aGo, .ref aGr, .int u.2.2.2.1, .int u.2.2.2.2.1])), (aGh, .inl (cA, 24, .inl (u.2.2.2.2.2.1))), (aGi, .inl (cA, 72, .inl (u.2.2.2.2.2.2.1))), (aGc, .inl (cA, 24, .inl (u.2.2.2.2.2.2.2.1))), (aGo, .inl (cA, 24, .inl (u.2.2.2.2.2.2.2.2.1))), (aGr, .inl (cA, 10, .inl (u.2.2.2.2.2.2.2.2.2)))]) 1 hx hb hl9 hown hg hT mw_187 mw_13 (List.mem_of_getElem? (i := 0) rfl) qa_78 (by decide +kernel) hS (hl.1.trans hml.symm) qd_H_production_30 qd_H_production_33 qd_H_production_34 qd_H_production_36 qd_H_production_39 hout ?_ ?_ ?_ ?_ hlocks hP hD (1, 0, vCF, vGF, vGS, vGh, vGi, vGc, vGo, vGr) hres ?_ ?_ ?_ hS.2.2 ?_ ?_
    all_goals first | exact Nat.le_of_ble_eq_true rfl | rfl | decide
  have hres := hres.trans (if_neg c_4)
  have ho := (if_neg c_4).mp ho
  refine lv_iload_n hx hb qd_H_production_7 rfl (lv_at hl 2 rfl) ?_
  refine lv_iload_n hx hb qd_H_production_8 rfl (lv_at hl 3 rfl) ?_
  refine lv_iload hx hb qd_H_production_9 (lv_at hl 4 rfl) ?_
  refine xc_S (As := [.int p1, .int p2, .int p3]) (rest := []) ⟨hx, hb, hml, hown, hg⟩ (c_H_areItems l dC dI cA p1 p2 p3) (va_cwS 3 hg (q_gS mw_181 mw_182 mw_1 mw_183) rfl rfl rfl qh_H_areItems.2 ⟨Nat.le_of_ble_eq_true rfl, Nat.le_of_ble_eq_true rfl⟩) hN hK hP [] rfl rfl hl.1 rfl (Nat.le_of_ble_eq_true rfl) qd_H_production_11 ⟨Nat.le_of_ble_eq_true rfl, Nat.le_of_ble_eq_true rfl⟩ ?_
  refine lv_topi (fun r_11 w_11 => ?_)
  have hres := hres.trans (bd_eq w_11)
  have ho := (bd_eq w_11).mp ho
  refine lv_if_eq (tgt := 30) hx hb qd_H_production_14 (by decide) (fun c_14 => ?_) (fun c_14 => ?_)
  · have hres := hres.trans (if_pos c_14)
    have ho := (if_pos c_14).mp ho
    refine xt_throw (code := (fun u => u.1)) (w1 := fun (u : Int32 × Int32 × Int32 × Int32 × Int32 × (Nat → Int32) × (Nat → Int32) × (Nat → Int32) × (Nat → Int32) × (Nat → Int32)) => [(aH, .inr (6, [.ref aG, .ref aR, .ref aC, .ref aT, .ref aF, .ref aO])), (aC, .inr (0, [.ref aG, .ref aR, .ref aCn, .ref aCc, .ref aCr, .ref aCs, .int u.2.2.1])), (aG, .inr (2, [.ref aGh, .ref aGi, .ref aGc, .ref aGo, .ref aGr, .int u.2.2.2.1, .int u.2.2.2.2.1])), (aGh, .inl (cA, 24, .inl (u.2.2.2.2.2.1))), (aGi, .inl (cA, 72, .inl (u.2.2.2.2.2.2.1))), (aGc, .inl (cA, 24, .inl (u.2.2.2.2.2.2.2.1))), (aGo, .inl (cA, 24, .inl (u.2.2.2.2.2.2.2.2.1))), (aGr, .inl (cA, 10, .inl (u.2.2.2.2.2.2.2.2.2)))]) 1 hx hb hl9 hown hg hT mw_187 mw_13 (List.mem_of_getElem? (i := 0) rfl) qa_78 (by decide +kernel) hS (hl.1.trans hml.symm) qd_H_production_30 qd_H_production_33 qd_H_production_34 qd_H_production_36 qd_H_production_39 hout ?_ ?_ ?_ ?_ hlocks hP hD (1, 0, vCF, vGF, vGS, vGh, vGi, vGc, vGo, vGr) hres ?_ ?_ ?_ hS.2.2 ?_ ?_
    all_goals first | exact Nat.le_of_ble_eq_true rfl | rfl | decide
  have hres := hres.trans (if_neg c_14)
  have ho := (if_neg c_14).mp ho
  refine lv_iload hx hb qd_H_production_17 (lv_at hl 5 rfl) ?_
  refine lv_if_lt (tgt := 30) hx hb qd_H_production_19 (by decide) (fun c_19 => ?_) (fun c_19 => ?_)
  · have hres := hres.trans (if_pos c_19)
    have ho := (if_pos c_19).mp ho
    refine xt_throw (code := (fun u => u.1)) (w1 := fun (u : Int32 × Int32 × Int32 × Int32 × Int32 × (Nat → Int32) × (Nat → Int32) × (Nat → Int32) × (Nat → Int32) × (Nat → Int32)) => [(aH, .inr (6, [.ref aG, .ref aR, .ref aC, .ref aT, .ref aF, .ref aO])), (aC, .inr (0, [.ref aG, .ref aR, .ref aCn, .ref aCc, .ref aCr, .ref aCs, .int u.2.2.1])), (aG, .inr (2, [.ref aGh, .ref aGi, .ref aGc, .ref aGo, .ref aGr, .int u.2.2.2.1, .int u.2.2.2.2.1])), (aGh, .inl (cA, 24, .inl (u.2.2.2.2.2.1))), (aGi, .inl (cA, 72, .inl (u.2.2.2.2.2.2.1))), (aGc, .inl (cA, 24, .inl (u.2.2.2.2.2.2.2.1))), (aGo, .inl (cA, 24, .inl (u.2.2.2.2.2.2.2.2.1))), (aGr, .inl (cA, 10, .inl (u.2.2.2.2.2.2.2.2.2)))]) 1 hx hb hl9 hown hg hT mw_187 mw_13 (List.mem_of_getElem? (i := 0) rfl) qa_78 (by decide +kernel) hS (hl.1.trans hml.symm) qd_H_production_30 qd_H_production_33 qd_H_production_34 qd_H_production_36 qd_H_production_39 hout ?_ ?_ ?_ ?_ hlocks hP hD (1, 0, vCF, vGF, vGS, vGh, vGi, vGc, vGo, vGr) hres ?_ ?_ ?_ hS.2.2 ?_ ?_
    all_goals first | exact Nat.le_of_ble_eq_true rfl | rfl | decide
  have hres := hres.trans (if_neg c_19)
  have ho := (if_neg c_19).mp ho
  refine lv_iload hx hb qd_H_production_22 (lv_at hl 5 rfl) ?_
  refine lv_sipush (v := 1000) hx hb qd_H_production_24 (by decide) ?_
  refine lv_icmp_le (tgt := 40) hx hb qd_H_production_27 (by decide) (fun c_27 => ?_) (fun c_27 => ?_)
  · have hres := hres.trans (if_pos c_27)
    have ho := (if_pos c_27).mp ho
    refine lv_aload_n hx hb qd_H_production_40 rfl (lv_at hl 0 rfl) ?_
    refine va_get (D := (dC, dI)) (ci := 6) (v := .ref aG) (C := qR_H) (T := qT_H) (N := 6) hx hb hg qi_H hown hK hP 0 rfl rfl 0 (by decide) (hg _ mw_133) (fun _ h9 => h9) rfl qd_H_production_41 ?_
    refine xc_V (As := []) (rest := []) ⟨hx, hb, hml, hown, hg⟩ (c_G_isFull l dC dI cA aG aGh aGi aGc aGo aGr vGF vGS) (cwV 0 hg (q_gV mw_234 mw_235 mw_236 mw_2 mw_237) rfl rfl rfl qh_G_isFull ⟨Nat.le_of_ble_eq_true rfl, Nat.le_of_ble_eq_true rfl⟩) hN hK hP [2] rfl 0 2 rfl rfl rfl hl.1 rfl (Nat.le_of_ble_eq_true rfl) qd_H_production_44 ⟨Nat.le_of_ble_eq_true rfl, Nat.le_of_ble_eq_true rfl⟩ ?_
    refine lv_topi (fun r_44 w_44 => ?_)
    have hres := hres.trans (bd_eq w_44)
    have ho := (bd_eq w_44).mp ho
    refine lv_if_eq (tgt := 60) hx hb qd_H_production_47 (by decide) (fun c_47 => ?_) (fun c_47 => ?_)
    · have hres := hres.trans (if_pos c_47)
      have ho := (if_pos c_47).mp ho
      refine lv_iload_n hx hb qd_H_production_60 rfl (lv_at hl 2 rfl) ?_
      refine lv_iload_n hx hb qd_H_production_61 rfl (lv_at hl 3 rfl) ?_
      refine xc_S (As := [.int p1, .int p2]) (rest := []) ⟨hx, hb, hml, hown, hg⟩ (c_H_isStep l dC dI cA p1 p2) (va_cwS 2 hg (q_gS mw_251 mw_252 mw_1 mw_253) rfl rfl rfl qh_H_isStep.2 ⟨Nat.le_of_ble_eq_true rfl, Nat.le_of_ble_eq_true rfl⟩) hN hK hP [] rfl rfl hl.1 rfl (Nat.le_of_ble_eq_true rfl) qd_H_production_62 ⟨Nat.le_of_ble_eq_true rfl, Nat.le_of_ble_eq_true rfl⟩ ?_
      refine lv_topi (fun r_62 w_62 => ?_)
      have hres := hres.trans (bd_eq w_62)
      have ho := (bd_eq w_62).mp ho
      refine lv_if_eq (tgt := 90) hx hb qd_H_production_65 (by decide) (fun c_65 => ?_) (fun c_65 => ?_)
      · have hres := hres.trans (if_pos c_65)
        have ho := (if_pos c_65).mp ho
        refine lv_aload_n hx hb qd_H_production_90 rfl (lv_at hl 0 rfl) ?_
        refine va_get (D := (dC, dI)) (ci := 6) (v := .ref aC) (C := qR_H) (T := qT_H) (N := 6) hx hb hg qi_H hown hK hP 0 rfl rfl 2 (by decide) (hg _ mw_135) (fun _ h9 => h9) rfl qd_H_production_91 ?_
        refine lv_iconst (v := 0) hx hb qd_H_production_94 (by decide) ?_
        refine xm_Vv (As := [.int 0]) (rest := []) (w1 := fun (u_95 : Int32) => [(aC, .inr (0, [.ref aG, .ref aR, .ref aCn, .ref aCc, .ref aCr, .ref aCs, .int u_95]))]) (w2 := fun (u_95 : Int32) => [(aH, .inr (6, [.ref aG, .ref aR, .ref aC, .ref aT, .ref aF, .ref aO])), (aC, .inr (0, [.ref aG, .ref aR, .ref aCn, .ref aCc, .ref aCr, .ref aCs, .int u_95])), (aG, .inr (2, [.ref aGh, .ref aGi, .ref aGc, .ref aGo, .ref aGr, .int vGF, .int vGS])), (aGh, .inl (cA, 24, .inl (vGh))), (aGi, .inl (cA, 72, .inl (vGi))), (aGc, .inl (cA, 24, .inl (vGc))), (aGo, .inl (cA, 24, .inl (vGo))), (aGr, .inl (cA, 10, .inl (vGr)))]) ⟨hx, hb, hml, hown, hg⟩ (c_C_forgetBehind l dC dI cA aC aCn aCc aCr aCs aG aR _ vCF 0) (cwV 1 hg (q_gV mw_157 mw_158 mw_159 mw_4 mw_160) rfl rfl rfl qh_C_forgetBehind ⟨Nat.le_of_ble_eq_true rfl, Nat.le_of_ble_eq_true rfl⟩) hN hK hP hD hS hA [1] [0, 2, 3, 4, 5, 6, 7] rfl rfl (by decide) (by decide) (by decide) [0, 7, 1, 2, 3, 4, 5, 6] (fun _ => rfl) (by decide) 0 0 rfl rfl rfl hl.1 rfl (Nat.le_of_ble_eq_true rfl) qd_H_production_95 ⟨Nat.le_of_ble_eq_true rfl, Nat.le_of_ble_eq_true rfl⟩ (fun u_95 H locs w_95 hP hD hS => ?_)
        have hP : va_P (dC, dI) vwCl [(aH, .inr (6, [.ref aG, .ref aR, .ref aC, .ref aT, .ref aF, .ref aO])), (aC, .inr (0, [.ref aG, .ref aR, .ref aCn, .ref aCc, .ref aCr, .ref aCs, .int u_95])), (aG, .inr (2, [.ref aGh, .ref aGi, .ref aGc, .ref aGo, .ref aGr, .int vGF, .int vGS])), (aGh, .inl (cA, 24, .inl (vGh))), (aGi, .inl (cA, 72, .inl (vGi))), (aGc, .inl (cA, 24, .inl (vGc))), (aGo, .inl (cA, 24, .inl (vGo))), (aGr, .inl (cA, 10, .inl (vGr)))] H := hP
        have hD : va_D A [(aH, .inr (6, [.ref aG, .ref aR, .ref aC, .ref aT, .ref aF, .ref aO])), (aC, .inr (0, [.ref aG, .ref aR, .ref aCn, .ref aCc, .ref aCr, .ref aCs, .int u_95])), (aG, .inr (2, [.ref aGh, .ref aGi, .ref aGc, .ref aGo, .ref aGr, .int vGF, .int vGS])), (aGh, .inl (cA, 24, .inl (vGh))), (aGi, .inl (cA, 72, .inl (vGi))), (aGc, .inl (cA, 24, .inl (vGc))), (aGo, .inl (cA, 24, .inl (vGo))), (aGr, .inl (cA, 10, .inl (vGr)))] := hD
        have hres := hres.trans (bd_eq w_95)
        have ho := (bd_eq w_95).mp ho
        refine lv_aload_n hx hb qd_H_production_98 rfl (lv_at hl 0 rfl) ?_
        refine va_get (D := (dC, dI)) (ci := 6) (v := .ref aG) (C := qR_H) (T := qT_H) (N := 6) hx hb hg qi_H hown hK hP 0 rfl rfl 0 (by decide) (hg _ mw_133) (fun _ h9 => h9) rfl qd_H_production_99 ?_
        refine lv_iload_n hx hb qd_H_production_102 rfl (lv_at hl 1 rfl) ?_
        refine lv_iload_n hx hb qd_H_production_103 rfl (lv_at hl 2 rfl) ?_
        refine lv_iload_n hx hb qd_H_production_104 rfl (lv_at hl 3 rfl) ?_
        refine lv_iload hx hb qd_H_production_105 (lv_at hl 4 rfl) ?_
        refine lv_iload hx hb qd_H_production_107 (lv_at hl 5 rfl) ?_
        obtain ⟨g_109, ho⟩ := ho
        refine xm_Vi (As := [.int p0, .int p1, .int p2, .int p3, .int p4]) (rest := []) (w1 := fun (u_109 : Int32 × Int32 × Int32 × (Nat → Int32) × (Nat → Int32) × (Nat → Int32) × (Nat → Int32) × (Nat → Int32)) => [(aG, .inr (2, [.ref aGh, .ref aGi, .ref aGc, .ref aGo, .ref aGr, .int u_109.2.1, .int u_109.2.2.1])), (aGh, .inl (cA, 24, .inl (u_109.2.2.2.1))), (aGi, .inl (cA, 72, .inl (u_109.2.2.2.2.1))), (aGc, .inl (cA, 24, .inl (u_109.2.2.2.2.2.1))), (aGo, .inl (cA, 24, .inl (u_109.2.2.2.2.2.2.1))), (aGr, .inl (cA, 10, .inl (u_109.2.2.2.2.2.2.2)))]) (w2 := fun (u_109 : Int32 × Int32 × Int32 × (Nat → Int32) × (Nat → Int32) × (Nat → Int32) × (Nat → Int32) × (Nat → Int32)) => [(aH, .inr (6, [.ref aG, .ref aR, .ref aC, .ref aT, .ref aF, .ref aO])), (aC, .inr (0, [.ref aG, .ref aR, .ref aCn, .ref aCc, .ref aCr, .ref aCs, .int u_95])), (aG, .inr (2, [.ref aGh, .ref aGi, .ref aGc, .ref aGo, .ref aGr, .int u_109.2.1, .int u_109.2.2.1])), (aGh, .inl (cA, 24, .inl (u_109.2.2.2.1))), (aGi, .inl (cA, 72, .inl (u_109.2.2.2.2.1))), (aGc, .inl (cA, 24, .inl (u_109.2.2.2.2.2.1))), (aGo, .inl (cA, 24, .inl (u_109.2.2.2.2.2.2.1))), (aGr, .inl (cA, 10, .inl (u_109.2.2.2.2.2.2.2)))]) ⟨hx, hb, hml, hown, hg⟩ (c_G_learn l dC dI cA N_ aG aGh aGi aGc aGo aGr _ vGF vGS vGh vGi vGc vGo vGr p0 p1 p2 p3 p4 g_109) (cwV 5 hg (q_gV mw_276 mw_277 mw_278 mw_2 mw_279) rfl rfl rfl qh_G_learn ⟨Nat.le_of_ble_eq_true rfl, Nat.le_of_ble_eq_true rfl⟩) hN hK hP hD hS hA [2, 3, 4, 5, 6, 7] [0, 1] rfl rfl (by decide) (by decide) (by decide) [0, 1, 2, 3, 4, 5, 6, 7] (fun _ => rfl) (by decide) 0 2 rfl rfl rfl hl.1 rfl (Nat.le_of_ble_eq_true rfl) qd_H_production_109 ⟨Nat.le_of_ble_eq_true rfl, Nat.le_of_ble_eq_true rfl⟩ (fun u_109 H locs w_109 hP hD hS => ?_)
        have hP : va_P (dC, dI) vwCl [(aH, .inr (6, [.ref aG, .ref aR, .ref aC, .ref aT, .ref aF, .ref aO])), (aC, .inr (0, [.ref aG, .ref aR, .ref aCn, .ref aCc, .ref aCr, .ref aCs, .int u_95])), (aG, .inr (2, [.ref aGh, .ref aGi, .ref aGc, .ref aGo, .ref aGr, .int u_109.2.1, .int u_109.2.2.1])), (aGh, .inl (cA, 24, .inl (u_109.2.2.2.1))), (aGi, .inl (cA, 72, .inl (u_109.2.2.2.2.1))), (aGc, .inl (cA, 24, .inl (u_109.2.2.2.2.2.1))), (aGo, .inl (cA, 24, .inl (u_109.2.2.2.2.2.2.1))), (aGr, .inl (cA, 10, .inl (u_109.2.2.2.2.2.2.2)))] H := hP
        have hD : va_D A [(aH, .inr (6, [.ref aG, .ref aR, .ref aC, .ref aT, .ref aF, .ref aO])), (aC, .inr (0, [.ref aG, .ref aR, .ref aCn, .ref aCc, .ref aCr, .ref aCs, .int u_95])), (aG, .inr (2, [.ref aGh, .ref aGi, .ref aGc, .ref aGo, .ref aGr, .int u_109.2.1, .int u_109.2.2.1])), (aGh, .inl (cA, 24, .inl (u_109.2.2.2.1))), (aGi, .inl (cA, 72, .inl (u_109.2.2.2.2.1))), (aGc, .inl (cA, 24, .inl (u_109.2.2.2.2.2.1))), (aGo, .inl (cA, 24, .inl (u_109.2.2.2.2.2.2.1))), (aGr, .inl (cA, 10, .inl (u_109.2.2.2.2.2.2.2)))] := hD
        have hres := hres.trans (bd_eq w_109)
        have ho := (bd_eq w_109).mp ho
        refine vx_ret ?_
        refine W.widen (k := 1) (n := 6) (Nat.le_of_ble_eq_true rfl) (Nat.le_of_ble_eq_true rfl) ?_
        exact W.iret (v := u_109.1) hx hb hr (fun t ht hW => ⟨⟨_, (0, u_109.1, u_95, u_109.2.1, u_109.2.2.1, u_109.2.2.2.1, u_109.2.2.2.2.1, u_109.2.2.2.2.2.1, u_109.2.2.2.2.2.2.1, u_109.2.2.2.2.2.2.2), rfl, ⟨hres.symm, rfl, rfl⟩, ⟨by rw [ht]; exact hP, va_K.moved hW.alike hK, x_N hN hW⟩, hD⟩, hS.F ht⟩) hS.2.2 qd_H_production_112
      have hres := hres.trans (if_neg c_65)
      have ho := (if_neg c_65).mp ho
      refine lv_aload_n hx hb qd_H_production_68 rfl (lv_at hl 0 rfl) ?_
      refine va_get (D := (dC, dI)) (ci := 6) (v := .ref aG) (C := qR_H) (T := qT_H) (N := 6) hx hb hg qi_H hown hK hP 0 rfl rfl 0 (by decide) (hg _ mw_133) (fun _ h9 => h9) rfl qd_H_production_69 ?_
      refine lv_iload_n hx hb qd_H_production_72 rfl (lv_at hl 1 rfl) ?_
      refine lv_iload_n hx hb qd_H_production_73 rfl (lv_at hl 2 rfl) ?_
      obtain ⟨g_74, ho⟩ := ho
      refine xc_V (As := [.int p0, .int p1]) (rest := []) ⟨hx, hb, hml, hown, hg⟩ (c_G_wouldCircle l dC dI cA aG aGh aGi aGc aGo aGr vGF vGS vGr p0 p1 g_74) (cwV 2 hg (q_gV mw_254 mw_255 mw_256 mw_2 mw_257) rfl rfl rfl qh_G_wouldCircle ⟨Nat.le_of_ble_eq_true rfl, Nat.le_of_ble_eq_true rfl⟩) hN hK hP [2, 7] rfl 0 2 rfl rfl rfl hl.1 rfl (Nat.le_of_ble_eq_true rfl) qd_H_production_74 ⟨Nat.le_of_ble_eq_true rfl, Nat.le_of_ble_eq_true rfl⟩ ?_
      refine lv_topi (fun r_74 w_74 => ?_)
      have hres := hres.trans (bd_eq w_74)
      have ho := (bd_eq w_74).mp ho
      refine lv_if_eq (tgt := 90) hx hb qd_H_production_77 (by decide) (fun c_77 => ?_) (fun c_77 => ?_)
      · have hres := hres.trans (if_pos c_77)
        have ho := (if_pos c_77).mp ho
        refine lv_aload_n hx hb qd_H_production_90 rfl (lv_at hl 0 rfl) ?_
        refine va_get (D := (dC, dI)) (ci := 6) (v := .ref aC) (C := qR_H) (T := qT_H) (N := 6) hx hb hg qi_H hown hK hP 0 rfl rfl 2 (by decide) (hg _ mw_135) (fun _ h9 => h9) rfl qd_H_production_91 ?_
        refine lv_iconst (v := 0) hx hb qd_H_production_94 (by decide) ?_
        refine xm_Vv (As := [.int 0]) (rest := []) (w1 := fun (u_95 : Int32) => [(aC, .inr (0, [.ref aG, .ref aR, .ref aCn, .ref aCc, .ref aCr, .ref aCs, .int u_95]))]) (w2 := fun (u_95 : Int32) => [(aH, .inr (6, [.ref aG, .ref aR, .ref aC, .ref aT, .ref aF, .ref aO])), (aC, .inr (0, [.ref aG, .ref aR, .ref aCn, .ref aCc, .ref aCr, .ref aCs, .int u_95])), (aG, .inr (2, [.ref aGh, .ref aGi, .ref aGc, .ref aGo, .ref aGr, .int vGF, .int vGS])), (aGh, .inl (cA, 24, .inl (vGh))), (aGi, .inl (cA, 72, .inl (vGi))), (aGc, .inl (cA, 24, .inl (vGc))), (aGo, .inl (cA, 24, .inl (vGo))), (aGr, .inl (cA, 10, .inl (vGr)))]) ⟨hx, hb, hml, hown, hg⟩ (c_C_forgetBehind l dC dI cA aC aCn aCc aCr aCs aG aR _ vCF 0) (cwV 1 hg (q_gV mw_157 mw_158 mw_159 mw_4 mw_160) rfl rfl rfl qh_C_forgetBehind ⟨Nat.le_of_ble_eq_true rfl, Nat.le_of_ble_eq_true rfl⟩) hN hK hP hD hS hA [1] [0, 2, 3, 4, 5, 6, 7] rfl rfl (by decide) (by decide) (by decide) [0, 7, 1, 2, 3, 4, 5, 6] (fun _ => rfl) (by decide) 0 0 rfl rfl rfl hl.1 rfl (Nat.le_of_ble_eq_true rfl) qd_H_production_95 ⟨Nat.le_of_ble_eq_true rfl, Nat.le_of_ble_eq_true rfl⟩ (fun u_95 H locs w_95 hP hD hS => ?_)
        have hP : va_P (dC, dI) vwCl [(aH, .inr (6, [.ref aG, .ref aR, .ref aC, .ref aT, .ref aF, .ref aO])), (aC, .inr (0, [.ref aG, .ref aR, .ref aCn, .ref aCc, .ref aCr, .ref aCs, .int u_95])), (aG, .inr (2, [.ref aGh, .ref aGi, .ref aGc, .ref aGo, .ref aGr, .int vGF, .int vGS])), (aGh, .inl (cA, 24, .inl (vGh))), (aGi, .inl (cA, 72, .inl (vGi))), (aGc, .inl (cA, 24, .inl (vGc))), (aGo, .inl (cA, 24, .inl (vGo))), (aGr, .inl (cA, 10, .inl (vGr)))] H := hP
        have hD : va_D A [(aH, .inr (6, [.ref aG, .ref aR, .ref aC, .ref aT, .ref aF, .ref aO])), (aC, .inr (0, [.ref aG, .ref aR, .ref aCn, .ref aCc, .ref aCr, .ref aCs, .int u_95])), (aG, .inr (2, [.ref aGh, .ref aGi, .ref aGc, .ref aGo, .ref aGr, .int vGF, .int vGS])), (aGh, .inl (cA, 24, .inl (vGh))), (aGi, .inl (cA, 72, .inl (vGi))), (aGc, .inl (cA, 24, .inl (vGc))), (aGo, .inl (cA, 24, .inl (vGo))), (aGr, .inl (cA, 10, .inl (vGr)))] := hD
        have hres := hres.trans (bd_eq w_95)
        have ho := (bd_eq w_95).mp ho
        refine lv_aload_n hx hb qd_H_production_98 rfl (lv_at hl 0 rfl) ?_
        refine va_get (D := (dC, dI)) (ci := 6) (v := .ref aG) (C := qR_H) (T := qT_H) (N := 6) hx hb hg qi_H hown hK hP 0 rfl rfl 0 (by decide) (hg _ mw_133) (fun _ h9 => h9) rfl qd_H_production_99 ?_
        refine lv_iload_n hx hb qd_H_production_102 rfl (lv_at hl 1 rfl) ?_
        refine lv_iload_n hx hb qd_H_production_103 rfl (lv_at hl 2 rfl) ?_
        refine lv_iload_n hx hb qd_H_production_104 rfl (lv_at hl 3 rfl) ?_
        refine lv_iload hx hb qd_H_production_105 (lv_at hl 4 rfl) ?_
        refine lv_iload hx hb qd_H_production_107 (lv_at hl 5 rfl) ?_
        obtain ⟨g_109, ho⟩ := ho
        refine xm_Vi (As := [.int p0, .int p1, .int p2, .int p3, .int p4]) (rest := []) (w1 := fun (u_109 : Int32 × Int32 × Int32 × (Nat → Int32) × (Nat → Int32) × (Nat → Int32) × (Nat → Int32) × (Nat → Int32)) => [(aG, .inr (2, [.ref aGh, .ref aGi, .ref aGc, .ref aGo, .ref aGr, .int u_109.2.1, .int u_109.2.2.1])), (aGh, .inl (cA, 24, .inl (u_109.2.2.2.1))), (aGi, .inl (cA, 72, .inl (u_109.2.2.2.2.1))), (aGc, .inl (cA, 24, .inl (u_109.2.2.2.2.2.1))), (aGo, .inl (cA, 24, .inl (u_109.2.2.2.2.2.2.1))), (aGr, .inl (cA, 10, .inl (u_109.2.2.2.2.2.2.2)))]) (w2 := fun (u_109 : Int32 × Int32 × Int32 × (Nat → Int32) × (Nat → Int32) × (Nat → Int32) × (Nat → Int32) × (Nat → Int32)) => [(aH, .inr (6, [.ref aG, .ref aR, .ref aC, .ref aT, .ref aF, .ref aO])), (aC, .inr (0, [.ref aG, .ref aR, .ref aCn, .ref aCc, .ref aCr, .ref aCs, .int u_95])), (aG, .inr (2, [.ref aGh, .ref aGi, .ref aGc, .ref aGo, .ref aGr, .int u_109.2.1, .int u_109.2.2.1])), (aGh, .inl (cA, 24, .inl (u_109.2.2.2.1))), (aGi, .inl (cA, 72, .inl (u_109.2.2.2.2.1))), (aGc, .inl (cA, 24, .inl (u_109.2.2.2.2.2.1))), (aGo, .inl (cA, 24, .inl (u_109.2.2.2.2.2.2.1))), (aGr, .inl (cA, 10, .inl (u_109.2.2.2.2.2.2.2)))]) ⟨hx, hb, hml, hown, hg⟩ (c_G_learn l dC dI cA N_ aG aGh aGi aGc aGo aGr _ vGF vGS vGh vGi vGc vGo vGr p0 p1 p2 p3 p4 g_109) (cwV 5 hg (q_gV mw_276 mw_277 mw_278 mw_2 mw_279) rfl rfl rfl qh_G_learn ⟨Nat.le_of_ble_eq_true rfl, Nat.le_of_ble_eq_true rfl⟩) hN hK hP hD hS hA [2, 3, 4, 5, 6, 7] [0, 1] rfl rfl (by decide) (by decide) (by decide) [0, 1, 2, 3, 4, 5, 6, 7] (fun _ => rfl) (by decide) 0 2 rfl rfl rfl hl.1 rfl (Nat.le_of_ble_eq_true rfl) qd_H_production_109 ⟨Nat.le_of_ble_eq_true rfl, Nat.le_of_ble_eq_true rfl⟩ (fun u_109 H locs w_109 hP hD hS => ?_)
        have hP : va_P (dC, dI) vwCl [(aH, .inr (6, [.ref aG, .ref aR, .ref aC, .ref aT, .ref aF, .ref aO])), (aC, .inr (0, [.ref aG, .ref aR, .ref aCn, .ref aCc, .ref aCr, .ref aCs, .int u_95])), (aG, .inr (2, [.ref aGh, .ref aGi, .ref aGc, .ref aGo, .ref aGr, .int u_109.2.1, .int u_109.2.2.1])), (aGh, .inl (cA, 24, .inl (u_109.2.2.2.1))), (aGi, .inl (cA, 72, .inl (u_109.2.2.2.2.1))), (aGc, .inl (cA, 24, .inl (u_109.2.2.2.2.2.1))), (aGo, .inl (cA, 24, .inl (u_109.2.2.2.2.2.2.1))), (aGr, .inl (cA, 10, .inl (u_109.2.2.2.2.2.2.2)))] H := hP
        have hD : va_D A [(aH, .inr (6, [.ref aG, .ref aR, .ref aC, .ref aT, .ref aF, .ref aO])), (aC, .inr (0, [.ref aG, .ref aR, .ref aCn, .ref aCc, .ref aCr, .ref aCs, .int u_95])), (aG, .inr (2, [.ref aGh, .ref aGi, .ref aGc, .ref aGo, .ref aGr, .int u_109.2.1, .int u_109.2.2.1])), (aGh, .inl (cA, 24, .inl (u_109.2.2.2.1))), (aGi, .inl (cA, 72, .inl (u_109.2.2.2.2.1))), (aGc, .inl (cA, 24, .inl (u_109.2.2.2.2.2.1))), (aGo, .inl (cA, 24, .inl (u_109.2.2.2.2.2.2.1))), (aGr, .inl (cA, 10, .inl (u_109.2.2.2.2.2.2.2)))] := hD
        have hres := hres.trans (bd_eq w_109)
        have ho := (bd_eq w_109).mp ho
        refine vx_ret ?_
        refine W.widen (k := 1) (n := 6) (Nat.le_of_ble_eq_true rfl) (Nat.le_of_ble_eq_true rfl) ?_
        exact W.iret (v := u_109.1) hx hb hr (fun t ht hW => ⟨⟨_, (0, u_109.1, u_95, u_109.2.1, u_109.2.2.1, u_109.2.2.2.1, u_109.2.2.2.2.1, u_109.2.2.2.2.2.1, u_109.2.2.2.2.2.2.1, u_109.2.2.2.2.2.2.2), rfl, ⟨hres.symm, rfl, rfl⟩, ⟨by rw [ht]; exact hP, va_K.moved hW.alike hK, x_N hN hW⟩, hD⟩, hS.F ht⟩) hS.2.2 qd_H_production_112
      have hres := hres.trans (if_neg c_77)
      have ho := (if_neg c_77).mp ho
      refine xt_throw (code := (fun u => u.1)) (w1 := fun (u : Int32 × Int32 × Int32 × Int32 × Int32 × (Nat → Int32) × (Nat → Int32) × (Nat → Int32) × (Nat → Int32) × (Nat → Int32)) => [(aH, .inr (6, [.ref aG, .ref aR, .ref aC, .ref aT, .ref aF, .ref aO])), (aC, .inr (0, [.ref aG, .ref aR, .ref aCn, .ref aCc, .ref aCr, .ref aCs, .int u.2.2.1])), (aG, .inr (2, [.ref aGh, .ref aGi, .ref aGc, .ref aGo, .ref aGr, .int u.2.2.2.1, .int u.2.2.2.2.1])), (aGh, .inl (cA, 24, .inl (u.2.2.2.2.2.1))), (aGi, .inl (cA, 72, .inl (u.2.2.2.2.2.2.1))), (aGc, .inl (cA, 24, .inl (u.2.2.2.2.2.2.2.1))), (aGo, .inl (cA, 24, .inl (u.2.2.2.2.2.2.2.2.1))), (aGr, .inl (cA, 10, .inl (u.2.2.2.2.2.2.2.2.2)))]) 3 hx hb hl9 hown hg hT mw_263 mw_15 (List.mem_of_getElem? (i := 2) rfl) qa_101 (by decide +kernel) hS (hl.1.trans hml.symm) qd_H_production_80 qd_H_production_83 qd_H_production_84 qd_H_production_86 qd_H_production_89 hout ?_ ?_ ?_ ?_ hlocks hP hD (3, 0, vCF, vGF, vGS, vGh, vGi, vGc, vGo, vGr) hres ?_ ?_ ?_ hS.2.2 ?_ ?_
      all_goals first | exact Nat.le_of_ble_eq_true rfl | rfl | decide
    have hres := hres.trans (if_neg c_47)
    have ho := (if_neg c_47).mp ho
    refine xt_throw (code := (fun u => u.1)) (w1 := fun (u : Int32 × Int32 × Int32 × Int32 × Int32 × (Nat → Int32) × (Nat → Int32) × (Nat → Int32) × (Nat → Int32) × (Nat → Int32)) => [(aH, .inr (6, [.ref aG, .ref aR, .ref aC, .ref aT, .ref aF, .ref aO])), (aC, .inr (0, [.ref aG, .ref aR, .ref aCn, .ref aCc, .ref aCr, .ref aCs, .int u.2.2.1])), (aG, .inr (2, [.ref aGh, .ref aGi, .ref aGc, .ref aGo, .ref aGr, .int u.2.2.2.1, .int u.2.2.2.2.1])), (aGh, .inl (cA, 24, .inl (u.2.2.2.2.2.1))), (aGi, .inl (cA, 72, .inl (u.2.2.2.2.2.2.1))), (aGc, .inl (cA, 24, .inl (u.2.2.2.2.2.2.2.1))), (aGo, .inl (cA, 24, .inl (u.2.2.2.2.2.2.2.2.1))), (aGr, .inl (cA, 10, .inl (u.2.2.2.2.2.2.2.2.2)))]) 2 hx hb hl9 hown hg hT mw_238 mw_14 (List.mem_of_getElem? (i := 1) rfl) qa_89 (by decide +kernel) hS (hl.1.trans hml.symm) qd_H_production_50 qd_H_production_53 qd_H_production_54 qd_H_production_56 qd_H_production_59 hout ?_ ?_ ?_ ?_ hlocks hP hD (2, 0, vCF, vGF, vGS, vGh, vGi, vGc, vGo, vGr) hres ?_ ?_ ?_ hS.2.2 ?_ ?_
    all_goals first | exact Nat.le_of_ble_eq_true rfl | rfl | decide
  have hres := hres.trans (if_neg c_27)
  have ho := (if_neg c_27).mp ho
  refine xt_throw (code := (fun u => u.1)) (w1 := fun (u : Int32 × Int32 × Int32 × Int32 × Int32 × (Nat → Int32) × (Nat → Int32) × (Nat → Int32) × (Nat → Int32) × (Nat → Int32)) => [(aH, .inr (6, [.ref aG, .ref aR, .ref aC, .ref aT, .ref aF, .ref aO])), (aC, .inr (0, [.ref aG, .ref aR, .ref aCn, .ref aCc, .ref aCr, .ref aCs, .int u.2.2.1])), (aG, .inr (2, [.ref aGh, .ref aGi, .ref aGc, .ref aGo, .ref aGr, .int u.2.2.2.1, .int u.2.2.2.2.1])), (aGh, .inl (cA, 24, .inl (u.2.2.2.2.2.1))), (aGi, .inl (cA, 72, .inl (u.2.2.2.2.2.2.1))), (aGc, .inl (cA, 24, .inl (u.2.2.2.2.2.2.2.1))), (aGo, .inl (cA, 24, .inl (u.2.2.2.2.2.2.2.2.1))), (aGr, .inl (cA, 10, .inl (u.2.2.2.2.2.2.2.2.2)))]) 1 hx hb hl9 hown hg hT mw_187 mw_13 (List.mem_of_getElem? (i := 0) rfl) qa_78 (by decide +kernel) hS (hl.1.trans hml.symm) qd_H_production_30 qd_H_production_33 qd_H_production_34 qd_H_production_36 qd_H_production_39 hout ?_ ?_ ?_ ?_ hlocks hP hD (1, 0, vCF, vGF, vGS, vGh, vGi, vGc, vGo, vGr) hres ?_ ?_ ?_ hS.2.2 ?_ ?_
  all_goals first | exact Nat.le_of_ble_eq_true rfl | rfl | decide
