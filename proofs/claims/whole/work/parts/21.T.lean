theorem qd_T_forget_0 : decode qc_T_forget 0 = .ok (.aload_n 0, 1) := by decide +kernel
theorem qd_T_forget_1 : decode qc_T_forget 1 = .ok (.iconst 0, 1) := by decide +kernel
theorem qd_T_forget_2 : decode qc_T_forget 2 = .ok (.putfield 15, 3) := by decide +kernel
theorem qd_T_forget_5 : decode qc_T_forget 5 = .ok (.return_, 1) := by decide +kernel
set_option maxHeartbeats 4000000 in
set_option maxRecDepth 100000 in
theorem c_T_forget (l : Launch) (dC : Nat → ClassId) (dI : Nat → Nat → Nat) (cA : ClassId) (aT aTf : Nat) (sz : Nat) (vTS : Int32) : Met l qy_T_forget qw_T_forget ({ frames := 0, cells := 0, slots := 0, locals := 0 }) (va_Pc [.ref aT] (fun U => U.heap.size = sz ∧ xP (dC, dI) [(cA, .int)] [(aT, .inr (5, [.ref aTf, .int vTS]))] nestN U ∧ va_D (fun _ => True) [(aT, .inr (5, [.ref aTf, .int vTS]))])) (va_Qv (fun u => u = f_T_forget vTS) (fun (u : Int32) t => xP (dC, dI) [(cA, .int)] [(aT, .inr (5, [.ref aTf, .int u]))] nestN t ∧ va_D (va_A [(aT, .inr (5, [.ref aTf, .int vTS]))] sz) [(aT, .inr (5, [.ref aTf, .int u]))]) (va_A [(aT, .inr (5, [.ref aTf, .int vTS]))] sz)) 0 0 (va_A [(aT, .inr (5, [.ref aTf, .int vTS]))] sz) := by
  refine Met.ofW (cc := qc_T_forget) (maxL := 1) (ret := (none)) (by decide) rfl ?_
  intro p e s m args below meth c s₁ B hml hv
  obtain ⟨rfl, hsz, ⟨hP, hK, hN⟩, hD0⟩ := hv
  have hx := B.exec
  have hb := B.bytes
  have hr := B.returns
  have hts := atoms_spec (ws := qw_T_forget) B.pre
  have hg : ∀ w ∈ gG, w.before _ s = true := fun w h => hts w (List.mem_cons_of_mem _ h)
  have hown : s.vm.findClass qR_T = some m.cls := findClass_of_methodNamed B.named
  have hlocks := B.notSynchronized
  subst hsz
  have hD := hD0.self (sz := s.heap.size)
  generalize hAe : va_A [(aT, .inr (5, [.ref aTf, .int vTS]))] s.heap.size = A at hD ⊢
  have hA : ∀ q : Nat, s.heap.size ≤ q → A q := fun q h => by rw [← hAe]; exact Or.inr h
  have hS : va_S A s.heap s.heap [] := va_S.rf
  have hP : va_P (dC, dI) vwCl [(aT, .inr (5, [.ref aTf, .int vTS]))] s.heap := hP
  have hl := lv_entry ([.ref aT]) (n := 1) (Nat.le_of_ble_eq_true rfl)
  rw [lg_entry_eq]
  generalize (lg_sl ([.ref aT]) ++ List.replicate (1 - (lg_sl ([.ref aT])).length) Slot.unset).toArray = ls at hl ⊢
  have hl : lv_has ls 1 [(0, .ref aT)] := hl
  generalize hF : f_T_forget vTS = Fv
  have hres : Fv = f_T_forget vTS := hF.symm
  unfold f_T_forget at hres
  refine lv_aload_n hx hb qd_T_forget_0 rfl (lv_at hl 0 rfl) ?_
  refine lv_iconst (v := 0) hx hb qd_T_forget_1 (by decide) ?_
  refine va_put (D := (dC, dI)) (ci := 5) (v := .int 0) (ty := .int) (C := qR_T) (T := qT_T) (N := 2) hx hb hg qi_T qt_T qk_T qn_T hown hK hP hD hS 0 rfl rfl 1 (by decide) (hg _ mw_82) (fun _ h9 => h9) rfl (by decide +kernel) rfl rfl (Nat.le_of_ble_eq_true rfl) qd_T_forget_2 (fun H locs hP hD hS => ?_)
  have hP : va_P (dC, dI) vwCl [(aT, .inr (5, [.ref aTf, .int 0]))] H := hP
  have hD : va_D A [(aT, .inr (5, [.ref aTf, .int 0]))] := hD
  exact W.vret hx hb hr (fun t ht hW => ⟨⟨0, rfl, hres.symm, ⟨by rw [ht]; exact hP, va_K.moved hW.alike hK, x_N hN hW⟩, hD⟩, hS.F ht⟩) hS.2.2 qd_T_forget_5
theorem qd_T_grow_0 : decode qc_T_grow 0 = .ok (.aload_n 0, 1) := by decide +kernel
theorem qd_T_grow_1 : decode qc_T_grow 1 = .ok (.getfield 15, 3) := by decide +kernel
theorem qd_T_grow_4 : decode qc_T_grow 4 = .ok (.sipush 470, 3) := by decide +kernel
theorem qd_T_grow_7 : decode qc_T_grow 7 = .ok (.if_icmp .ge 60, 3) := by decide +kernel
theorem qd_T_grow_10 : decode qc_T_grow 10 = .ok (.aload_n 0, 1) := by decide +kernel
theorem qd_T_grow_11 : decode qc_T_grow 11 = .ok (.getfield 15, 3) := by decide +kernel
theorem qd_T_grow_14 : decode qc_T_grow 14 = .ok (.iconst 4, 1) := by decide +kernel
theorem qd_T_grow_15 : decode qc_T_grow 15 = .ok (.imul, 1) := by decide +kernel
theorem qd_T_grow_16 : decode qc_T_grow 16 = .ok (.istore 5, 2) := by decide +kernel
theorem qd_T_grow_18 : decode qc_T_grow 18 = .ok (.aload_n 0, 1) := by decide +kernel
theorem qd_T_grow_19 : decode qc_T_grow 19 = .ok (.getfield 9, 3) := by decide +kernel
theorem qd_T_grow_22 : decode qc_T_grow 22 = .ok (.iload 5, 2) := by decide +kernel
theorem qd_T_grow_24 : decode qc_T_grow 24 = .ok (.iload_n 1, 1) := by decide +kernel
theorem qd_T_grow_25 : decode qc_T_grow 25 = .ok (.iastore, 1) := by decide +kernel
theorem qd_T_grow_26 : decode qc_T_grow 26 = .ok (.aload_n 0, 1) := by decide +kernel
theorem qd_T_grow_27 : decode qc_T_grow 27 = .ok (.getfield 9, 3) := by decide +kernel
theorem qd_T_grow_30 : decode qc_T_grow 30 = .ok (.iload 5, 2) := by decide +kernel
theorem qd_T_grow_32 : decode qc_T_grow 32 = .ok (.iconst 1, 1) := by decide +kernel
theorem qd_T_grow_33 : decode qc_T_grow 33 = .ok (.iadd, 1) := by decide +kernel
theorem qd_T_grow_34 : decode qc_T_grow 34 = .ok (.iload_n 2, 1) := by decide +kernel
theorem qd_T_grow_35 : decode qc_T_grow 35 = .ok (.iastore, 1) := by decide +kernel
theorem qd_T_grow_36 : decode qc_T_grow 36 = .ok (.aload_n 0, 1) := by decide +kernel
theorem qd_T_grow_37 : decode qc_T_grow 37 = .ok (.getfield 9, 3) := by decide +kernel
theorem qd_T_grow_40 : decode qc_T_grow 40 = .ok (.iload 5, 2) := by decide +kernel
theorem qd_T_grow_42 : decode qc_T_grow 42 = .ok (.iconst 2, 1) := by decide +kernel
theorem qd_T_grow_43 : decode qc_T_grow 43 = .ok (.iadd, 1) := by decide +kernel
theorem qd_T_grow_44 : decode qc_T_grow 44 = .ok (.iload_n 3, 1) := by decide +kernel
theorem qd_T_grow_45 : decode qc_T_grow 45 = .ok (.iastore, 1) := by decide +kernel
theorem qd_T_grow_46 : decode qc_T_grow 46 = .ok (.aload_n 0, 1) := by decide +kernel
theorem qd_T_grow_47 : decode qc_T_grow 47 = .ok (.getfield 9, 3) := by decide +kernel
theorem qd_T_grow_50 : decode qc_T_grow 50 = .ok (.iload 5, 2) := by decide +kernel
theorem qd_T_grow_52 : decode qc_T_grow 52 = .ok (.iconst 3, 1) := by decide +kernel
theorem qd_T_grow_53 : decode qc_T_grow 53 = .ok (.iadd, 1) := by decide +kernel
theorem qd_T_grow_54 : decode qc_T_grow 54 = .ok (.iload 4, 2) := by decide +kernel
theorem qd_T_grow_56 : decode qc_T_grow 56 = .ok (.iastore, 1) := by decide +kernel
theorem qd_T_grow_57 : decode qc_T_grow 57 = .ok (.aload_n 0, 1) := by decide +kernel
theorem qd_T_grow_58 : decode qc_T_grow 58 = .ok (.dup, 1) := by decide +kernel
theorem qd_T_grow_59 : decode qc_T_grow 59 = .ok (.getfield 15, 3) := by decide +kernel
theorem qd_T_grow_62 : decode qc_T_grow 62 = .ok (.iconst 1, 1) := by decide +kernel
theorem qd_T_grow_63 : decode qc_T_grow 63 = .ok (.iadd, 1) := by decide +kernel
theorem qd_T_grow_64 : decode qc_T_grow 64 = .ok (.putfield 15, 3) := by decide +kernel
theorem qd_T_grow_67 : decode qc_T_grow 67 = .ok (.return_, 1) := by decide +kernel
set_option maxHeartbeats 4000000 in
set_option maxRecDepth 100000 in
theorem c_T_grow (l : Launch) (dC : Nat → ClassId) (dI : Nat → Nat → Nat) (cA : ClassId) (aT aTf : Nat) (sz : Nat) (vTS : Int32) (vTf : (Nat → Int32)) (p0 : Int32) (p1 : Int32) (p2 : Int32) (p3 : Int32) (ho : o_T_grow vTS vTf p0 p1 p2 p3) : Met l qy_T_grow qw_T_grow ({ frames := 0, cells := 0, slots := 0, locals := 0 }) (va_Pc [.ref aT, .int p0, .int p1, .int p2, .int p3] (fun U => U.heap.size = sz ∧ xP (dC, dI) [(cA, .int)] [(aT, .inr (5, [.ref aTf, .int vTS])), (aTf, .inl (cA, 1880, .inl (vTf)))] nestN U ∧ va_D (fun _ => True) [(aT, .inr (5, [.ref aTf, .int vTS])), (aTf, .inl (cA, 1880, .inl (vTf)))])) (va_Qv (fun u => u = f_T_grow vTS vTf p0 p1 p2 p3) (fun (u : Int32 × (Nat → Int32)) t => xP (dC, dI) [(cA, .int)] [(aT, .inr (5, [.ref aTf, .int u.1])), (aTf, .inl (cA, 1880, .inl (u.2)))] nestN t ∧ va_D (va_A [(aT, .inr (5, [.ref aTf, .int vTS])), (aTf, .inl (cA, 1880, .inl (vTf)))] sz) [(aT, .inr (5, [.ref aTf, .int u.1])), (aTf, .inl (cA, 1880, .inl (u.2)))]) (va_A [(aT, .inr (5, [.ref aTf, .int vTS])), (aTf, .inl (cA, 1880, .inl (vTf)))] sz)) 0 0 (va_A [(aT, .inr (5, [.ref aTf, .int vTS])), (aTf, .inl (cA, 1880, .inl (vTf)))] sz) := by
  refine Met.ofW (cc := qc_T_grow) (maxL := 6) (ret := (none)) (by decide) rfl ?_
  intro p e s m args below meth c s₁ B hml hv
  obtain ⟨rfl, hsz, ⟨hP, hK, hN⟩, hD0⟩ := hv
  have hx := B.exec
  have hb := B.bytes
  have hr := B.returns
  have hts := atoms_spec (ws := qw_T_grow) B.pre
  have hg : ∀ w ∈ gG, w.before _ s = true := fun w h => hts w (List.mem_cons_of_mem _ h)
  have hown : s.vm.findClass qR_T = some m.cls := findClass_of_methodNamed B.named
  have hlocks := B.notSynchronized
  subst hsz
  have hD := hD0.self (sz := s.heap.size)
  generalize hAe : va_A [(aT, .inr (5, [.ref aTf, .int vTS])), (aTf, .inl (cA, 1880, .inl (vTf)))] s.heap.size = A at hD ⊢
  have hA : ∀ q : Nat, s.heap.size ≤ q → A q := fun q h => by rw [← hAe]; exact Or.inr h
  have hS : va_S A s.heap s.heap [] := va_S.rf
  have hP : va_P (dC, dI) vwCl [(aT, .inr (5, [.ref aTf, .int vTS])), (aTf, .inl (cA, 1880, .inl (vTf)))] s.heap := hP
  have hl := lv_entry ([.ref aT, .int p0, .int p1, .int p2, .int p3]) (n := 6) (Nat.le_of_ble_eq_true rfl)
  rw [lg_entry_eq]
  generalize (lg_sl ([.ref aT, .int p0, .int p1, .int p2, .int p3]) ++ List.replicate (6 - (lg_sl ([.ref aT, .int p0, .int p1, .int p2, .int p3])).length) Slot.unset).toArray = ls at hl ⊢
  have hl : lv_has ls 6 [(0, .ref aT), (1, .int p0), (2, .int p1), (3, .int p2), (4, .int p3)] := hl
  generalize hF : f_T_grow vTS vTf p0 p1 p2 p3 = Fv
  have hres : Fv = f_T_grow vTS vTf p0 p1 p2 p3 := hF.symm
  unfold f_T_grow at hres
  unfold o_T_grow at ho
  refine lv_aload_n hx hb qd_T_grow_0 rfl (lv_at hl 0 rfl) ?_
  refine va_get (D := (dC, dI)) (ci := 5) (v := .int vTS) (C := qR_T) (T := qT_T) (N := 2) hx hb hg qi_T hown hK hP 0 rfl rfl 1 (by decide) (hg _ mw_82) (fun _ h9 => h9) rfl qd_T_grow_1 ?_
  refine lv_sipush (v := 470) hx hb qd_T_grow_4 (by decide) ?_
  refine lv_icmp_ge (tgt := 67) hx hb qd_T_grow_7 (by decide) (fun c_7 => ?_) (fun c_7 => ?_)
  · have hres := hres.trans (if_pos c_7)
    have ho := (if_pos c_7).mp ho
    exact W.vret hx hb hr (fun t ht hW => ⟨⟨(vTS, vTf), rfl, hres.symm, ⟨by rw [ht]; exact hP, va_K.moved hW.alike hK, x_N hN hW⟩, hD⟩, hS.F ht⟩) hS.2.2 qd_T_grow_67
  have hres := hres.trans (if_neg c_7)
  have ho := (if_neg c_7).mp ho
  refine lv_aload_n hx hb qd_T_grow_10 rfl (lv_at hl 0 rfl) ?_
  refine va_get (D := (dC, dI)) (ci := 5) (v := .int vTS) (C := qR_T) (T := qT_T) (N := 2) hx hb hg qi_T hown hK hP 0 rfl rfl 1 (by decide) (hg _ mw_82) (fun _ h9 => h9) rfl qd_T_grow_11 ?_
  refine lv_iconst (v := 4) hx hb qd_T_grow_14 (by decide) ?_
  refine lv_imul hx hb qd_T_grow_15 ?_
  refine lv_istore (lv' := [(5, .int (vTS * 4)), (0, .ref aT), (1, .int p0), (2, .int p1), (3, .int p2), (4, .int p3)]) hx hb qd_T_grow_16 hl (by decide) rfl (fun ls hl => ?_)
  refine lv_aload_n hx hb qd_T_grow_18 rfl (lv_at hl 1 rfl) ?_
  refine va_get (D := (dC, dI)) (ci := 5) (v := .ref aTf) (C := qR_T) (T := qT_T) (N := 2) hx hb hg qi_T hown hK hP 0 rfl rfl 0 (by decide) (hg _ mw_81) (fun _ h9 => h9) rfl qd_T_grow_19 ?_
  refine lv_iload hx hb qd_T_grow_22 (lv_at hl 0 rfl) ?_
  refine lv_iload_n hx hb qd_T_grow_24 rfl (lv_at hl 2 rfl) ?_
  obtain ⟨g_25, ho⟩ := ho
  refine va_iast hx hb hK hP hD hS 1 0 rfl rfl g_25 qd_T_grow_25 (fun H locs hP hD hS => ?_)
  have hP : va_P (dC, dI) vwCl [(aT, .inr (5, [.ref aTf, .int vTS])), (aTf, .inl (cA, 1880, .inl (upd vTf (vTS * 4).toNatClampNeg p0)))] H := hP
  have hD : va_D A [(aT, .inr (5, [.ref aTf, .int vTS])), (aTf, .inl (cA, 1880, .inl (upd vTf (vTS * 4).toNatClampNeg p0)))] := hD
  refine lv_aload_n hx hb qd_T_grow_26 rfl (lv_at hl 1 rfl) ?_
  refine va_get (D := (dC, dI)) (ci := 5) (v := .ref aTf) (C := qR_T) (T := qT_T) (N := 2) hx hb hg qi_T hown hK hP 0 rfl rfl 0 (by decide) (hg _ mw_81) (fun _ h9 => h9) rfl qd_T_grow_27 ?_
  refine lv_iload hx hb qd_T_grow_30 (lv_at hl 0 rfl) ?_
  refine lv_iconst (v := 1) hx hb qd_T_grow_32 (by decide) ?_
  refine lv_iadd hx hb qd_T_grow_33 ?_
  refine lv_iload_n hx hb qd_T_grow_34 rfl (lv_at hl 3 rfl) ?_
  obtain ⟨g_35, ho⟩ := ho
  refine va_iast hx hb hK hP hD hS 1 0 rfl rfl g_35 qd_T_grow_35 (fun H locs hP hD hS => ?_)
  have hP : va_P (dC, dI) vwCl [(aT, .inr (5, [.ref aTf, .int vTS])), (aTf, .inl (cA, 1880, .inl (upd (upd vTf (vTS * 4).toNatClampNeg p0) ((vTS * 4) + 1).toNatClampNeg p1)))] H := hP
  have hD : va_D A [(aT, .inr (5, [.ref aTf, .int vTS])), (aTf, .inl (cA, 1880, .inl (upd (upd vTf (vTS * 4).toNatClampNeg p0) ((vTS * 4) + 1).toNatClampNeg p1)))] := hD
  refine lv_aload_n hx hb qd_T_grow_36 rfl (lv_at hl 1 rfl) ?_
  refine va_get (D := (dC, dI)) (ci := 5) (v := .ref aTf) (C := qR_T) (T := qT_T) (N := 2) hx hb hg qi_T hown hK hP 0 rfl rfl 0 (by decide) (hg _ mw_81) (fun _ h9 => h9) rfl qd_T_grow_37 ?_
  refine lv_iload hx hb qd_T_grow_40 (lv_at hl 0 rfl) ?_
  refine lv_iconst (v := 2) hx hb qd_T_grow_42 (by decide) ?_
  refine lv_iadd hx hb qd_T_grow_43 ?_
  refine lv_iload_n hx hb qd_T_grow_44 rfl (lv_at hl 4 rfl) ?_
  obtain ⟨g_45, ho⟩ := ho
  refine va_iast hx hb hK hP hD hS 1 0 rfl rfl g_45 qd_T_grow_45 (fun H locs hP hD hS => ?_)
  have hP : va_P (dC, dI) vwCl [(aT, .inr (5, [.ref aTf, .int vTS])), (aTf, .inl (cA, 1880, .inl (upd (upd (upd vTf (vTS * 4).toNatClampNeg p0) ((vTS * 4) + 1).toNatClampNeg p1) ((vTS * 4) + 2).toNatClampNeg p2)))] H := hP
  have hD : va_D A [(aT, .inr (5, [.ref aTf, .int vTS])), (aTf, .inl (cA, 1880, .inl (upd (upd (upd vTf (vTS * 4).toNatClampNeg p0) ((vTS * 4) + 1).toNatClampNeg p1) ((vTS * 4) + 2).toNatClampNeg p2)))] := hD
  refine lv_aload_n hx hb qd_T_grow_46 rfl (lv_at hl 1 rfl) ?_
  refine va_get (D := (dC, dI)) (ci := 5) (v := .ref aTf) (C := qR_T) (T := qT_T) (N := 2) hx hb hg qi_T hown hK hP 0 rfl rfl 0 (by decide) (hg _ mw_81) (fun _ h9 => h9) rfl qd_T_grow_47 ?_
  refine lv_iload hx hb qd_T_grow_50 (lv_at hl 0 rfl) ?_
  refine lv_iconst (v := 3) hx hb qd_T_grow_52 (by decide) ?_
  refine lv_iadd hx hb qd_T_grow_53 ?_
  refine lv_iload hx hb qd_T_grow_54 (lv_at hl 5 rfl) ?_
  obtain ⟨g_56, ho⟩ := ho
  refine va_iast hx hb hK hP hD hS 1 0 rfl rfl g_56 qd_T_grow_56 (fun H locs hP hD hS => ?_)
  have hP : va_P (dC, dI) vwCl [(aT, .inr (5, [.ref aTf, .int vTS])), (aTf, .inl (cA, 1880, .inl (upd (upd (upd (upd vTf (vTS * 4).toNatClampNeg p0) ((vTS * 4) + 1).toNatClampNeg p1) ((vTS * 4) + 2).toNatClampNeg p2) ((vTS * 4) + 3).toNatClampNeg p3)))] H := hP
  have hD : va_D A [(aT, .inr (5, [.ref aTf, .int vTS])), (aTf, .inl (cA, 1880, .inl (upd (upd (upd (upd vTf (vTS * 4).toNatClampNeg p0) ((vTS * 4) + 1).toNatClampNeg p1) ((vTS * 4) + 2).toNatClampNeg p2) ((vTS * 4) + 3).toNatClampNeg p3)))] := hD
  refine lv_aload_n hx hb qd_T_grow_57 rfl (lv_at hl 1 rfl) ?_
  refine lv_dup hx hb qd_T_grow_58 rfl ?_
  refine va_get (D := (dC, dI)) (ci := 5) (v := .int vTS) (C := qR_T) (T := qT_T) (N := 2) hx hb hg qi_T hown hK hP 0 rfl rfl 1 (by decide) (hg _ mw_82) (fun _ h9 => h9) rfl qd_T_grow_59 ?_
  refine lv_iconst (v := 1) hx hb qd_T_grow_62 (by decide) ?_
  refine lv_iadd hx hb qd_T_grow_63 ?_
  refine va_put (D := (dC, dI)) (ci := 5) (v := .int (vTS + 1)) (ty := .int) (C := qR_T) (T := qT_T) (N := 2) hx hb hg qi_T qt_T qk_T qn_T hown hK hP hD hS 0 rfl rfl 1 (by decide) (hg _ mw_82) (fun _ h9 => h9) rfl (by decide +kernel) rfl rfl (Nat.le_of_ble_eq_true rfl) qd_T_grow_64 (fun H locs hP hD hS => ?_)
  have hP : va_P (dC, dI) vwCl [(aT, .inr (5, [.ref aTf, .int (vTS + 1)])), (aTf, .inl (cA, 1880, .inl (upd (upd (upd (upd vTf (vTS * 4).toNatClampNeg p0) ((vTS * 4) + 1).toNatClampNeg p1) ((vTS * 4) + 2).toNatClampNeg p2) ((vTS * 4) + 3).toNatClampNeg p3)))] H := hP
  have hD : va_D A [(aT, .inr (5, [.ref aTf, .int (vTS + 1)])), (aTf, .inl (cA, 1880, .inl (upd (upd (upd (upd vTf (vTS * 4).toNatClampNeg p0) ((vTS * 4) + 1).toNatClampNeg p1) ((vTS * 4) + 2).toNatClampNeg p2) ((vTS * 4) + 3).toNatClampNeg p3)))] := hD
  exact W.vret hx hb hr (fun t ht hW => ⟨⟨(vTS + 1, upd (upd (upd (upd vTf (vTS * 4).toNatClampNeg p0) ((vTS * 4) + 1).toNatClampNeg p1) ((vTS * 4) + 2).toNatClampNeg p2) ((vTS * 4) + 3).toNatClampNeg p3), rfl, hres.symm, ⟨by rw [ht]; exact hP, va_K.moved hW.alike hK, x_N hN hW⟩, hD⟩, hS.F ht⟩) hS.2.2 qd_T_grow_67
theorem qd_T_size_0 : decode qc_T_size 0 = .ok (.aload_n 0, 1) := by decide +kernel
theorem qd_T_size_1 : decode qc_T_size 1 = .ok (.getfield 15, 3) := by decide +kernel
theorem qd_T_size_4 : decode qc_T_size 4 = .ok (.ireturn, 1) := by decide +kernel
set_option maxHeartbeats 4000000 in
set_option maxRecDepth 100000 in
theorem c_T_size (l : Launch) (dC : Nat → ClassId) (dI : Nat → Nat → Nat) (cA : ClassId) (aT aTf : Nat) (vTS : Int32) : Met l qy_T_size qw_T_size ({ frames := 0, cells := 0, slots := 0, locals := 0 }) (va_Pc [.ref aT] (xP (dC, dI) [(cA, .int)] [(aT, .inr (5, [.ref aTf, .int vTS]))] nestN)) (vp_Si (fun r => r = f_T_size vTS)) 0 0 (fun _ => False) := by
  refine Met.ofW (cc := qc_T_size) (maxL := 1) (ret := (some .int)) (by decide) rfl ?_
  intro p e s m args below meth c s₁ B hml hv
  obtain ⟨rfl, hP, hK, hN⟩ := hv
  have hx := B.exec
  have hb := B.bytes
  have hr := B.returns
  have hts := atoms_spec (ws := qw_T_size) B.pre
  have hg : ∀ w ∈ gG, w.before _ s = true := fun w h => hts w (List.mem_cons_of_mem _ h)
  have hown : s.vm.findClass qR_T = some m.cls := findClass_of_methodNamed B.named
  have hlocks := B.notSynchronized
  have hP : va_P (dC, dI) vwCl [(aT, .inr (5, [.ref aTf, .int vTS]))] s.heap := hP
  have hl := lv_entry ([.ref aT]) (n := 1) (Nat.le_of_ble_eq_true rfl)
  rw [lg_entry_eq]
  generalize (lg_sl ([.ref aT]) ++ List.replicate (1 - (lg_sl ([.ref aT])).length) Slot.unset).toArray = ls at hl ⊢
  have hl : lv_has ls 1 [(0, .ref aT)] := hl
  generalize hF : f_T_size vTS = Fv
  have hres : Fv = f_T_size vTS := hF.symm
  unfold f_T_size at hres
  refine lv_aload_n hx hb qd_T_size_0 rfl (lv_at hl 0 rfl) ?_
  refine va_get (D := (dC, dI)) (ci := 5) (v := .int vTS) (C := qR_T) (T := qT_T) (N := 2) hx hb hg qi_T hown hK hP 0 rfl rfl 1 (by decide) (hg _ mw_82) (fun _ h9 => h9) rfl qd_T_size_1 ?_
  exact W.iret (v := vTS) hx hb hr (fun t ht hW => ⟨_, rfl, hres.symm, ht⟩) (fun _ h => nomatch h) qd_T_size_4
theorem qd_T_fact_0 : decode qc_T_fact 0 = .ok (.iload_n 1, 1) := by decide +kernel
theorem qd_T_fact_1 : decode qc_T_fact 1 = .ok (.ifCond .lt 31, 3) := by decide +kernel
theorem qd_T_fact_4 : decode qc_T_fact 4 = .ok (.iload_n 1, 1) := by decide +kernel
theorem qd_T_fact_5 : decode qc_T_fact 5 = .ok (.aload_n 0, 1) := by decide +kernel
theorem qd_T_fact_6 : decode qc_T_fact 6 = .ok (.getfield 15, 3) := by decide +kernel
theorem qd_T_fact_9 : decode qc_T_fact 9 = .ok (.if_icmp .ge 23, 3) := by decide +kernel
theorem qd_T_fact_12 : decode qc_T_fact 12 = .ok (.iload_n 1, 1) := by decide +kernel
theorem qd_T_fact_13 : decode qc_T_fact 13 = .ok (.sipush 470, 3) := by decide +kernel
theorem qd_T_fact_16 : decode qc_T_fact 16 = .ok (.if_icmp .ge 16, 3) := by decide +kernel
theorem qd_T_fact_19 : decode qc_T_fact 19 = .ok (.iload_n 2, 1) := by decide +kernel
theorem qd_T_fact_20 : decode qc_T_fact 20 = .ok (.ifCond .lt 12, 3) := by decide +kernel
theorem qd_T_fact_23 : decode qc_T_fact 23 = .ok (.iload_n 2, 1) := by decide +kernel
theorem qd_T_fact_24 : decode qc_T_fact 24 = .ok (.iconst 4, 1) := by decide +kernel
theorem qd_T_fact_25 : decode qc_T_fact 25 = .ok (.if_icmp .ge 7, 3) := by decide +kernel
theorem qd_T_fact_28 : decode qc_T_fact 28 = .ok (.iconst 1, 1) := by decide +kernel
theorem qd_T_fact_29 : decode qc_T_fact 29 = .ok (.goto 4, 3) := by decide +kernel
theorem qd_T_fact_32 : decode qc_T_fact 32 = .ok (.iconst 0, 1) := by decide +kernel
theorem qd_T_fact_33 : decode qc_T_fact 33 = .ok (.istore_n 3, 1) := by decide +kernel
theorem qd_T_fact_34 : decode qc_T_fact 34 = .ok (.iload_n 3, 1) := by decide +kernel
theorem qd_T_fact_35 : decode qc_T_fact 35 = .ok (.ifCond .eq 16, 3) := by decide +kernel
theorem qd_T_fact_38 : decode qc_T_fact 38 = .ok (.aload_n 0, 1) := by decide +kernel
theorem qd_T_fact_39 : decode qc_T_fact 39 = .ok (.getfield 9, 3) := by decide +kernel
theorem qd_T_fact_42 : decode qc_T_fact 42 = .ok (.iload_n 1, 1) := by decide +kernel
theorem qd_T_fact_43 : decode qc_T_fact 43 = .ok (.iconst 4, 1) := by decide +kernel
theorem qd_T_fact_44 : decode qc_T_fact 44 = .ok (.imul, 1) := by decide +kernel
theorem qd_T_fact_45 : decode qc_T_fact 45 = .ok (.iload_n 2, 1) := by decide +kernel
theorem qd_T_fact_46 : decode qc_T_fact 46 = .ok (.iadd, 1) := by decide +kernel
theorem qd_T_fact_47 : decode qc_T_fact 47 = .ok (.iaload, 1) := by decide +kernel
theorem qd_T_fact_48 : decode qc_T_fact 48 = .ok (.goto 4, 3) := by decide +kernel
theorem qd_T_fact_51 : decode qc_T_fact 51 = .ok (.iconst (-1), 1) := by decide +kernel
theorem qd_T_fact_52 : decode qc_T_fact 52 = .ok (.ireturn, 1) := by decide +kernel
set_option maxHeartbeats 4000000 in
set_option maxRecDepth 100000 in
theorem c_T_fact (l : Launch) (dC : Nat → ClassId) (dI : Nat → Nat → Nat) (cA : ClassId) (aT aTf : Nat) (vTS : Int32) (vTf : (Nat → Int32)) (p0 : Int32) (p1 : Int32) (ho : o_T_fact vTS vTf p0 p1) : Met l qy_T_fact qw_T_fact ({ frames := 0, cells := 0, slots := 0, locals := 0 }) (va_Pc [.ref aT, .int p0, .int p1] (xP (dC, dI) [(cA, .int)] [(aT, .inr (5, [.ref aTf, .int vTS])), (aTf, .inl (cA, 1880, .inl (vTf)))] nestN)) (vp_Si (fun r => r = f_T_fact vTS vTf p0 p1)) 0 0 (fun _ => False) := by
  refine Met.ofW (cc := qc_T_fact) (maxL := 4) (ret := (some .int)) (by decide) rfl ?_
  intro p e s m args below meth c s₁ B hml hv
  obtain ⟨rfl, hP, hK, hN⟩ := hv
  have hx := B.exec
  have hb := B.bytes
  have hr := B.returns
  have hts := atoms_spec (ws := qw_T_fact) B.pre
  have hg : ∀ w ∈ gG, w.before _ s = true := fun w h => hts w (List.mem_cons_of_mem _ h)
  have hown : s.vm.findClass qR_T = some m.cls := findClass_of_methodNamed B.named
  have hlocks := B.notSynchronized
  have hP : va_P (dC, dI) vwCl [(aT, .inr (5, [.ref aTf, .int vTS])), (aTf, .inl (cA, 1880, .inl (vTf)))] s.heap := hP
  have hl := lv_entry ([.ref aT, .int p0, .int p1]) (n := 4) (Nat.le_of_ble_eq_true rfl)
  rw [lg_entry_eq]
  generalize (lg_sl ([.ref aT, .int p0, .int p1]) ++ List.replicate (4 - (lg_sl ([.ref aT, .int p0, .int p1])).length) Slot.unset).toArray = ls at hl ⊢
  have hl : lv_has ls 4 [(0, .ref aT), (1, .int p0), (2, .int p1)] := hl
  generalize hF : f_T_fact vTS vTf p0 p1 = Fv
  have hres : Fv = f_T_fact vTS vTf p0 p1 := hF.symm
  unfold f_T_fact at hres
  unfold o_T_fact at ho
  refine lv_iload_n hx hb qd_T_fact_0 rfl (lv_at hl 1 rfl) ?_
  refine lv_if_lt (tgt := 32) hx hb qd_T_fact_1 (by decide) (fun c_1 => ?_) (fun c_1 => ?_)
  · have hres := hres.trans (if_pos c_1)
    have ho := (if_pos c_1).mp ho
    refine lv_iconst (v := 0) hx hb qd_T_fact_32 (by decide) ?_
    refine lv_istore_n (lv' := [(3, .int 0), (0, .ref aT), (1, .int p0), (2, .int p1)]) hx hb qd_T_fact_33 rfl hl (by decide) rfl (fun ls hl => ?_)
    refine lv_iload_n hx hb qd_T_fact_34 rfl (lv_at hl 0 rfl) ?_
    refine lv_if_eq (tgt := 51) hx hb qd_T_fact_35 (by decide) (fun c_35 => ?_) (fun c_35 => ?_)
    rotate_left
    · exact absurd (by decide) c_35
    refine lv_iconst (v := (-1)) hx hb qd_T_fact_51 (by decide) ?_
    exact W.iret (v := (-1)) hx hb hr (fun t ht hW => ⟨_, rfl, hres.symm, ht⟩) (fun _ h => nomatch h) qd_T_fact_52
  have hres := hres.trans (if_neg c_1)
  have ho := (if_neg c_1).mp ho
  refine lv_iload_n hx hb qd_T_fact_4 rfl (lv_at hl 1 rfl) ?_
  refine lv_aload_n hx hb qd_T_fact_5 rfl (lv_at hl 0 rfl) ?_
  refine va_get (D := (dC, dI)) (ci := 5) (v := .int vTS) (C := qR_T) (T := qT_T) (N := 2) hx hb hg qi_T hown hK hP 0 rfl rfl 1 (by decide) (hg _ mw_82) (fun _ h9 => h9) rfl qd_T_fact_6 ?_
  refine lv_icmp_ge (tgt := 32) hx hb qd_T_fact_9 (by decide) (fun c_9 => ?_) (fun c_9 => ?_)
  · have hres := hres.trans (if_pos c_9)
    have ho := (if_pos c_9).mp ho
    refine lv_iconst (v := 0) hx hb qd_T_fact_32 (by decide) ?_
    refine lv_istore_n (lv' := [(3, .int 0), (0, .ref aT), (1, .int p0), (2, .int p1)]) hx hb qd_T_fact_33 rfl hl (by decide) rfl (fun ls hl => ?_)
    refine lv_iload_n hx hb qd_T_fact_34 rfl (lv_at hl 0 rfl) ?_
    refine lv_if_eq (tgt := 51) hx hb qd_T_fact_35 (by decide) (fun c_35 => ?_) (fun c_35 => ?_)
    rotate_left
    · exact absurd (by decide) c_35
    refine lv_iconst (v := (-1)) hx hb qd_T_fact_51 (by decide) ?_
    exact W.iret (v := (-1)) hx hb hr (fun t ht hW => ⟨_, rfl, hres.symm, ht⟩) (fun _ h => nomatch h) qd_T_fact_52
  have hres := hres.trans (if_neg c_9)
  have ho := (if_neg c_9).mp ho
  refine lv_iload_n hx hb qd_T_fact_12 rfl (lv_at hl 1 rfl) ?_
  refine lv_sipush (v := 470) hx hb qd_T_fact_13 (by decide) ?_
  refine lv_icmp_ge (tgt := 32) hx hb qd_T_fact_16 (by decide) (fun c_16 => ?_) (fun c_16 => ?_)
  · have hres := hres.trans (if_pos c_16)
    have ho := (if_pos c_16).mp ho
    refine lv_iconst (v := 0) hx hb qd_T_fact_32 (by decide) ?_
    refine lv_istore_n (lv' := [(3, .int 0), (0, .ref aT), (1, .int p0), (2, .int p1)]) hx hb qd_T_fact_33 rfl hl (by decide) rfl (fun ls hl => ?_)
    refine lv_iload_n hx hb qd_T_fact_34 rfl (lv_at hl 0 rfl) ?_
    refine lv_if_eq (tgt := 51) hx hb qd_T_fact_35 (by decide) (fun c_35 => ?_) (fun c_35 => ?_)
    rotate_left
    · exact absurd (by decide) c_35
    refine lv_iconst (v := (-1)) hx hb qd_T_fact_51 (by decide) ?_
    exact W.iret (v := (-1)) hx hb hr (fun t ht hW => ⟨_, rfl, hres.symm, ht⟩) (fun _ h => nomatch h) qd_T_fact_52
  have hres := hres.trans (if_neg c_16)
  have ho := (if_neg c_16).mp ho
  refine lv_iload_n hx hb qd_T_fact_19 rfl (lv_at hl 2 rfl) ?_
  refine lv_if_lt (tgt := 32) hx hb qd_T_fact_20 (by decide) (fun c_20 => ?_) (fun c_20 => ?_)
  · have hres := hres.trans (if_pos c_20)
    have ho := (if_pos c_20).mp ho
    refine lv_iconst (v := 0) hx hb qd_T_fact_32 (by decide) ?_
    refine lv_istore_n (lv' := [(3, .int 0), (0, .ref aT), (1, .int p0), (2, .int p1)]) hx hb qd_T_fact_33 rfl hl (by decide) rfl (fun ls hl => ?_)
    refine lv_iload_n hx hb qd_T_fact_34 rfl (lv_at hl 0 rfl) ?_
    refine lv_if_eq (tgt := 51) hx hb qd_T_fact_35 (by decide) (fun c_35 => ?_) (fun c_35 => ?_)
    rotate_left
    · exact absurd (by decide) c_35
    refine lv_iconst (v := (-1)) hx hb qd_T_fact_51 (by decide) ?_
    exact W.iret (v := (-1)) hx hb hr (fun t ht hW => ⟨_, rfl, hres.symm, ht⟩) (fun _ h => nomatch h) qd_T_fact_52
  have hres := hres.trans (if_neg c_20)
  have ho := (if_neg c_20).mp ho
  refine lv_iload_n hx hb qd_T_fact_23 rfl (lv_at hl 2 rfl) ?_
  refine lv_iconst (v := 4) hx hb qd_T_fact_24 (by decide) ?_
  refine lv_icmp_ge (tgt := 32) hx hb qd_T_fact_25 (by decide) (fun c_25 => ?_) (fun c_25 => ?_)
  · have hres := hres.trans (if_pos c_25)
    have ho := (if_pos c_25).mp ho
    refine lv_iconst (v := 0) hx hb qd_T_fact_32 (by decide) ?_
    refine lv_istore_n (lv' := [(3, .int 0), (0, .ref aT), (1, .int p0), (2, .int p1)]) hx hb qd_T_fact_33 rfl hl (by decide) rfl (fun ls hl => ?_)
    refine lv_iload_n hx hb qd_T_fact_34 rfl (lv_at hl 0 rfl) ?_
    refine lv_if_eq (tgt := 51) hx hb qd_T_fact_35 (by decide) (fun c_35 => ?_) (fun c_35 => ?_)
    rotate_left
    · exact absurd (by decide) c_35
    refine lv_iconst (v := (-1)) hx hb qd_T_fact_51 (by decide) ?_
    exact W.iret (v := (-1)) hx hb hr (fun t ht hW => ⟨_, rfl, hres.symm, ht⟩) (fun _ h => nomatch h) qd_T_fact_52
  have hres := hres.trans (if_neg c_25)
  have ho := (if_neg c_25).mp ho
  refine lv_iconst (v := 1) hx hb qd_T_fact_28 (by decide) ?_
  refine lv_goto (tgt := 33) hx hb qd_T_fact_29 (by decide) ?_
  refine lv_istore_n (lv' := [(3, .int 1), (0, .ref aT), (1, .int p0), (2, .int p1)]) hx hb qd_T_fact_33 rfl hl (by decide) rfl (fun ls hl => ?_)
  refine lv_iload_n hx hb qd_T_fact_34 rfl (lv_at hl 0 rfl) ?_
  refine lv_if_eq (tgt := 51) hx hb qd_T_fact_35 (by decide) (fun c_35 => ?_) (fun c_35 => ?_)
  · exact absurd c_35 (by decide)
  refine lv_aload_n hx hb qd_T_fact_38 rfl (lv_at hl 1 rfl) ?_
  refine va_get (D := (dC, dI)) (ci := 5) (v := .ref aTf) (C := qR_T) (T := qT_T) (N := 2) hx hb hg qi_T hown hK hP 0 rfl rfl 0 (by decide) (hg _ mw_81) (fun _ h9 => h9) rfl qd_T_fact_39 ?_
  refine lv_iload_n hx hb qd_T_fact_42 rfl (lv_at hl 2 rfl) ?_
  refine lv_iconst (v := 4) hx hb qd_T_fact_43 (by decide) ?_
  refine lv_imul hx hb qd_T_fact_44 ?_
  refine lv_iload_n hx hb qd_T_fact_45 rfl (lv_at hl 3 rfl) ?_
  refine lv_iadd hx hb qd_T_fact_46 ?_
  obtain ⟨g_47, ho⟩ := ho
  refine va_iald hx hb hK hP 1 0 rfl rfl g_47 qd_T_fact_47 ?_
  refine lv_goto (tgt := 52) hx hb qd_T_fact_48 (by decide) ?_
  exact W.iret (v := vTf ((p0 * 4) + p1).toNatClampNeg) hx hb hr (fun t ht hW => ⟨_, rfl, hres.symm, ht⟩) (fun _ h => nomatch h) qd_T_fact_52
