theorem qd_C_forgetBehind_0 : decode qc_C_forgetBehind 0 = .ok (.aload_n 0, 1) := by decide +kernel
theorem qd_C_forgetBehind_1 : decode qc_C_forgetBehind 1 = .ok (.aload_n 0, 1) := by decide +kernel
theorem qd_C_forgetBehind_2 : decode qc_C_forgetBehind 2 = .ok (.getfield 24, 3) := by decide +kernel
theorem qd_C_forgetBehind_5 : decode qc_C_forgetBehind 5 = .ok (.iload_n 1, 1) := by decide +kernel
theorem qd_C_forgetBehind_6 : decode qc_C_forgetBehind 6 = .ok (.invokestatic 36, 3) := by decide +kernel
theorem qd_C_forgetBehind_9 : decode qc_C_forgetBehind 9 = .ok (.putfield 24, 3) := by decide +kernel
theorem qd_C_forgetBehind_12 : decode qc_C_forgetBehind 12 = .ok (.return_, 1) := by decide +kernel
set_option maxHeartbeats 4000000 in
set_option maxRecDepth 100000 in
theorem c_C_forgetBehind (l : Launch) (dC : Nat → ClassId) (dI : Nat → Nat → Nat) (cA : ClassId) (aC aCn aCc aCr aCs aG aR : Nat) (sz : Nat) (vCF : Int32) (p0 : Int32) : Met l qy_C_forgetBehind qw_C_forgetBehind ({ frames := 1, cells := 0, slots := 0, locals := 21 }) (va_Pc [.ref aC, .int p0] (fun U => U.heap.size = sz ∧ xP (dC, dI) [(cA, .int)] [(aC, .inr (0, [.ref aG, .ref aR, .ref aCn, .ref aCc, .ref aCr, .ref aCs, .int vCF]))] nestN U ∧ va_D (fun _ => True) [(aC, .inr (0, [.ref aG, .ref aR, .ref aCn, .ref aCc, .ref aCr, .ref aCs, .int vCF]))])) (va_Qv (fun u => u = f_C_forgetBehind vCF p0) (fun (u : Int32) t => xP (dC, dI) [(cA, .int)] [(aC, .inr (0, [.ref aG, .ref aR, .ref aCn, .ref aCc, .ref aCr, .ref aCs, .int u]))] nestN t ∧ va_D (va_A [(aC, .inr (0, [.ref aG, .ref aR, .ref aCn, .ref aCc, .ref aCr, .ref aCs, .int vCF]))] sz) [(aC, .inr (0, [.ref aG, .ref aR, .ref aCn, .ref aCc, .ref aCr, .ref aCs, .int u]))]) (va_A [(aC, .inr (0, [.ref aG, .ref aR, .ref aCn, .ref aCc, .ref aCr, .ref aCs, .int vCF]))] sz)) 0 0 (va_A [(aC, .inr (0, [.ref aG, .ref aR, .ref aCn, .ref aCc, .ref aCr, .ref aCs, .int vCF]))] sz) := by
  refine Met.ofW (cc := qc_C_forgetBehind) (maxL := 2) (ret := (none)) (by decide) rfl ?_
  intro p e s m args below meth c s₁ B hml hv
  obtain ⟨rfl, hsz, ⟨hP, hK, hN⟩, hD0⟩ := hv
  have hx := B.exec
  have hb := B.bytes
  have hr := B.returns
  have hts := atoms_spec (ws := qw_C_forgetBehind) B.pre
  have hg : ∀ w ∈ gG, w.before _ s = true := fun w h => hts w (List.mem_cons_of_mem _ h)
  have hown : s.vm.findClass qR_C = some m.cls := findClass_of_methodNamed B.named
  have hlocks := B.notSynchronized
  subst hsz
  have hD := hD0.self (sz := s.heap.size)
  generalize hAe : va_A [(aC, .inr (0, [.ref aG, .ref aR, .ref aCn, .ref aCc, .ref aCr, .ref aCs, .int vCF]))] s.heap.size = A at hD ⊢
  have hA : ∀ q : Nat, s.heap.size ≤ q → A q := fun q h => by rw [← hAe]; exact Or.inr h
  have hS : va_S A s.heap s.heap [] := va_S.rf
  have hP : va_P (dC, dI) vwCl [(aC, .inr (0, [.ref aG, .ref aR, .ref aCn, .ref aCc, .ref aCr, .ref aCs, .int vCF]))] s.heap := hP
  have hl := lv_entry ([.ref aC, .int p0]) (n := 2) (Nat.le_of_ble_eq_true rfl)
  rw [lg_entry_eq]
  generalize (lg_sl ([.ref aC, .int p0]) ++ List.replicate (2 - (lg_sl ([.ref aC, .int p0])).length) Slot.unset).toArray = ls at hl ⊢
  have hl : lv_has ls 2 [(0, .ref aC), (1, .int p0)] := hl
  generalize hF : f_C_forgetBehind vCF p0 = Fv
  have hres : Fv = f_C_forgetBehind vCF p0 := hF.symm
  unfold f_C_forgetBehind at hres
  refine lv_aload_n hx hb qd_C_forgetBehind_0 rfl (lv_at hl 0 rfl) ?_
  refine lv_aload_n hx hb qd_C_forgetBehind_1 rfl (lv_at hl 0 rfl) ?_
  refine va_get (D := (dC, dI)) (ci := 0) (v := .int vCF) (C := qR_C) (T := qT_C) (N := 7) hx hb hg qi_C hown hK hP 0 rfl rfl 6 (by decide) (hg _ mw_68) (fun _ h9 => h9) rfl qd_C_forgetBehind_2 ?_
  refine lv_iload_n hx hb qd_C_forgetBehind_5 rfl (lv_at hl 1 rfl) ?_
  refine va_mmin hx hb (hml.trans hl.1.symm) hown (hg _ mw_161) (hg _ mw_162) (hg _ mw_9) (hg _ mw_163) (Nat.le_of_ble_eq_true rfl) (Nat.le_of_ble_eq_true rfl) (Nat.zero_le _) (Nat.zero_le _) qd_C_forgetBehind_6 ?_
  refine va_put (D := (dC, dI)) (ci := 0) (v := .int (if p0 < vCF then p0 else vCF)) (ty := .int) (C := qR_C) (T := qT_C) (N := 7) hx hb hg qi_C qt_C qk_C qn_C hown hK hP hD hS 0 rfl rfl 6 (by decide) (hg _ mw_68) (fun _ h9 => h9) rfl (by decide +kernel) rfl rfl (Nat.le_of_ble_eq_true rfl) qd_C_forgetBehind_9 (fun H locs hP hD hS => ?_)
  have hP : va_P (dC, dI) vwCl [(aC, .inr (0, [.ref aG, .ref aR, .ref aCn, .ref aCc, .ref aCr, .ref aCs, .int (if p0 < vCF then p0 else vCF)]))] H := hP
  have hD : va_D A [(aC, .inr (0, [.ref aG, .ref aR, .ref aCn, .ref aCc, .ref aCr, .ref aCs, .int (if p0 < vCF then p0 else vCF)]))] := hD
  exact W.vret hx hb hr (fun t ht hW => ⟨⟨(if p0 < vCF then p0 else vCF), rfl, hres.symm, ⟨by rw [ht]; exact hP, va_K.moved hW.alike hK, x_N hN hW⟩, hD⟩, hS.F ht⟩) hS.2.2 qd_C_forgetBehind_12
theorem qd_C_cell_0 : decode qc_C_cell 0 = .ok (.iload_n 0, 1) := by decide +kernel
theorem qd_C_cell_1 : decode qc_C_cell 1 = .ok (.ifCond .lt 24, 3) := by decide +kernel
theorem qd_C_cell_4 : decode qc_C_cell 4 = .ok (.iload_n 0, 1) := by decide +kernel
theorem qd_C_cell_5 : decode qc_C_cell 5 = .ok (.bipush 10, 2) := by decide +kernel
theorem qd_C_cell_7 : decode qc_C_cell 7 = .ok (.if_icmp .ge 18, 3) := by decide +kernel
theorem qd_C_cell_10 : decode qc_C_cell 10 = .ok (.iload_n 1, 1) := by decide +kernel
theorem qd_C_cell_11 : decode qc_C_cell 11 = .ok (.ifCond .lt 14, 3) := by decide +kernel
theorem qd_C_cell_14 : decode qc_C_cell 14 = .ok (.iload_n 1, 1) := by decide +kernel
theorem qd_C_cell_15 : decode qc_C_cell 15 = .ok (.iload_n 2, 1) := by decide +kernel
theorem qd_C_cell_16 : decode qc_C_cell 16 = .ok (.if_icmp .ge 9, 3) := by decide +kernel
theorem qd_C_cell_19 : decode qc_C_cell 19 = .ok (.iload_n 2, 1) := by decide +kernel
theorem qd_C_cell_20 : decode qc_C_cell 20 = .ok (.bipush 24, 2) := by decide +kernel
theorem qd_C_cell_22 : decode qc_C_cell 22 = .ok (.if_icmp .le 5, 3) := by decide +kernel
theorem qd_C_cell_25 : decode qc_C_cell 25 = .ok (.iconst (-1), 1) := by decide +kernel
theorem qd_C_cell_26 : decode qc_C_cell 26 = .ok (.ireturn, 1) := by decide +kernel
theorem qd_C_cell_27 : decode qc_C_cell 27 = .ok (.iload_n 0, 1) := by decide +kernel
theorem qd_C_cell_28 : decode qc_C_cell 28 = .ok (.bipush 24, 2) := by decide +kernel
theorem qd_C_cell_30 : decode qc_C_cell 30 = .ok (.imul, 1) := by decide +kernel
theorem qd_C_cell_31 : decode qc_C_cell 31 = .ok (.iload_n 1, 1) := by decide +kernel
theorem qd_C_cell_32 : decode qc_C_cell 32 = .ok (.iadd, 1) := by decide +kernel
theorem qd_C_cell_33 : decode qc_C_cell 33 = .ok (.bipush 24, 2) := by decide +kernel
theorem qd_C_cell_35 : decode qc_C_cell 35 = .ok (.imul, 1) := by decide +kernel
theorem qd_C_cell_36 : decode qc_C_cell 36 = .ok (.iload_n 2, 1) := by decide +kernel
theorem qd_C_cell_37 : decode qc_C_cell 37 = .ok (.iadd, 1) := by decide +kernel
theorem qd_C_cell_38 : decode qc_C_cell 38 = .ok (.iconst 1, 1) := by decide +kernel
theorem qd_C_cell_39 : decode qc_C_cell 39 = .ok (.isub, 1) := by decide +kernel
theorem qd_C_cell_40 : decode qc_C_cell 40 = .ok (.ireturn, 1) := by decide +kernel
set_option maxHeartbeats 4000000 in
set_option maxRecDepth 100000 in
theorem c_C_cell (l : Launch) (dC : Nat → ClassId) (dI : Nat → Nat → Nat) (cA : ClassId) (p0 : Int32) (p1 : Int32) (p2 : Int32) : Met l qy_C_cell qw_C_cell ({ frames := 0, cells := 0, slots := 0, locals := 0 }) (va_Pc [.int p0, .int p1, .int p2] (xP (dC, dI) [(cA, .int)] [] nestN)) (vp_Si (fun r => r = f_C_cell p0 p1 p2)) 0 0 (fun _ => False) := by
  refine Met.ofW (cc := qc_C_cell) (maxL := 3) (ret := (some .int)) (by decide) rfl ?_
  intro p e s m args below meth c s₁ B hml hv
  obtain ⟨rfl, hP, hK, hN⟩ := hv
  have hx := B.exec
  have hb := B.bytes
  have hr := B.returns
  have hts := atoms_spec (ws := qw_C_cell) B.pre
  have hg : ∀ w ∈ gG, w.before _ s = true := fun w h => hts w (List.mem_cons_of_mem _ h)
  have hown : s.vm.findClass qR_C = some m.cls := findClass_of_methodNamed B.named
  have hlocks := B.notSynchronized
  have hP : va_P (dC, dI) vwCl [] s.heap := hP
  have hl := lv_entry ([.int p0, .int p1, .int p2]) (n := 3) (Nat.le_of_ble_eq_true rfl)
  rw [lg_entry_eq]
  generalize (lg_sl ([.int p0, .int p1, .int p2]) ++ List.replicate (3 - (lg_sl ([.int p0, .int p1, .int p2])).length) Slot.unset).toArray = ls at hl ⊢
  have hl : lv_has ls 3 [(0, .int p0), (1, .int p1), (2, .int p2)] := hl
  generalize hF : f_C_cell p0 p1 p2 = Fv
  have hres : Fv = f_C_cell p0 p1 p2 := hF.symm
  unfold f_C_cell at hres
  refine lv_iload_n hx hb qd_C_cell_0 rfl (lv_at hl 0 rfl) ?_
  refine lv_if_lt (tgt := 25) hx hb qd_C_cell_1 (by decide) (fun c_1 => ?_) (fun c_1 => ?_)
  · have hres := hres.trans (if_pos c_1)
    refine lv_iconst (v := (-1)) hx hb qd_C_cell_25 (by decide) ?_
    exact W.iret (v := (-1)) hx hb hr (fun t ht hW => ⟨_, rfl, hres.symm, ht⟩) (fun _ h => nomatch h) qd_C_cell_26
  have hres := hres.trans (if_neg c_1)
  refine lv_iload_n hx hb qd_C_cell_4 rfl (lv_at hl 0 rfl) ?_
  refine lv_bipush (v := 10) hx hb qd_C_cell_5 (by decide) ?_
  refine lv_icmp_ge (tgt := 25) hx hb qd_C_cell_7 (by decide) (fun c_7 => ?_) (fun c_7 => ?_)
  · have hres := hres.trans (if_pos c_7)
    refine lv_iconst (v := (-1)) hx hb qd_C_cell_25 (by decide) ?_
    exact W.iret (v := (-1)) hx hb hr (fun t ht hW => ⟨_, rfl, hres.symm, ht⟩) (fun _ h => nomatch h) qd_C_cell_26
  have hres := hres.trans (if_neg c_7)
  refine lv_iload_n hx hb qd_C_cell_10 rfl (lv_at hl 1 rfl) ?_
  refine lv_if_lt (tgt := 25) hx hb qd_C_cell_11 (by decide) (fun c_11 => ?_) (fun c_11 => ?_)
  · have hres := hres.trans (if_pos c_11)
    refine lv_iconst (v := (-1)) hx hb qd_C_cell_25 (by decide) ?_
    exact W.iret (v := (-1)) hx hb hr (fun t ht hW => ⟨_, rfl, hres.symm, ht⟩) (fun _ h => nomatch h) qd_C_cell_26
  have hres := hres.trans (if_neg c_11)
  refine lv_iload_n hx hb qd_C_cell_14 rfl (lv_at hl 1 rfl) ?_
  refine lv_iload_n hx hb qd_C_cell_15 rfl (lv_at hl 2 rfl) ?_
  refine lv_icmp_ge (tgt := 25) hx hb qd_C_cell_16 (by decide) (fun c_16 => ?_) (fun c_16 => ?_)
  · have hres := hres.trans (if_pos c_16)
    refine lv_iconst (v := (-1)) hx hb qd_C_cell_25 (by decide) ?_
    exact W.iret (v := (-1)) hx hb hr (fun t ht hW => ⟨_, rfl, hres.symm, ht⟩) (fun _ h => nomatch h) qd_C_cell_26
  have hres := hres.trans (if_neg c_16)
  refine lv_iload_n hx hb qd_C_cell_19 rfl (lv_at hl 2 rfl) ?_
  refine lv_bipush (v := 24) hx hb qd_C_cell_20 (by decide) ?_
  refine lv_icmp_le (tgt := 27) hx hb qd_C_cell_22 (by decide) (fun c_22 => ?_) (fun c_22 => ?_)
  · have hres := hres.trans (if_pos c_22)
    refine lv_iload_n hx hb qd_C_cell_27 rfl (lv_at hl 0 rfl) ?_
    refine lv_bipush (v := 24) hx hb qd_C_cell_28 (by decide) ?_
    refine lv_imul hx hb qd_C_cell_30 ?_
    refine lv_iload_n hx hb qd_C_cell_31 rfl (lv_at hl 1 rfl) ?_
    refine lv_iadd hx hb qd_C_cell_32 ?_
    refine lv_bipush (v := 24) hx hb qd_C_cell_33 (by decide) ?_
    refine lv_imul hx hb qd_C_cell_35 ?_
    refine lv_iload_n hx hb qd_C_cell_36 rfl (lv_at hl 2 rfl) ?_
    refine lv_iadd hx hb qd_C_cell_37 ?_
    refine lv_iconst (v := 1) hx hb qd_C_cell_38 (by decide) ?_
    refine lv_isub hx hb qd_C_cell_39 ?_
    exact W.iret (v := ((((p0 * 24) + p1) * 24) + p2) - 1) hx hb hr (fun t ht hW => ⟨_, rfl, hres.symm, ht⟩) (fun _ h => nomatch h) qd_C_cell_40
  have hres := hres.trans (if_neg c_22)
  refine lv_iconst (v := (-1)) hx hb qd_C_cell_25 (by decide) ?_
  exact W.iret (v := (-1)) hx hb hr (fun t ht hW => ⟨_, rfl, hres.symm, ht⟩) (fun _ h => nomatch h) qd_C_cell_26
theorem qd_C_trees_0 : decode qc_C_trees 0 = .ok (.iload_n 1, 1) := by decide +kernel
theorem qd_C_trees_1 : decode qc_C_trees 1 = .ok (.iconst (-1), 1) := by decide +kernel
theorem qd_C_trees_2 : decode qc_C_trees 2 = .ok (.if_icmp .ne 14, 3) := by decide +kernel
theorem qd_C_trees_5 : decode qc_C_trees 5 = .ok (.iload_n 2, 1) := by decide +kernel
theorem qd_C_trees_6 : decode qc_C_trees 6 = .ok (.iload_n 3, 1) := by decide +kernel
theorem qd_C_trees_7 : decode qc_C_trees 7 = .ok (.if_icmp .ne 7, 3) := by decide +kernel
theorem qd_C_trees_10 : decode qc_C_trees 10 = .ok (.iconst 1, 1) := by decide +kernel
theorem qd_C_trees_11 : decode qc_C_trees 11 = .ok (.goto 4, 3) := by decide +kernel
theorem qd_C_trees_14 : decode qc_C_trees 14 = .ok (.iconst 0, 1) := by decide +kernel
theorem qd_C_trees_15 : decode qc_C_trees 15 = .ok (.ireturn, 1) := by decide +kernel
theorem qd_C_trees_16 : decode qc_C_trees 16 = .ok (.iload_n 1, 1) := by decide +kernel
theorem qd_C_trees_17 : decode qc_C_trees 17 = .ok (.bipush 10, 2) := by decide +kernel
theorem qd_C_trees_19 : decode qc_C_trees 19 = .ok (.if_icmp .lt 31, 3) := by decide +kernel
theorem qd_C_trees_22 : decode qc_C_trees 22 = .ok (.iload_n 3, 1) := by decide +kernel
theorem qd_C_trees_23 : decode qc_C_trees 23 = .ok (.iload_n 2, 1) := by decide +kernel
theorem qd_C_trees_24 : decode qc_C_trees 24 = .ok (.iconst 1, 1) := by decide +kernel
theorem qd_C_trees_25 : decode qc_C_trees 25 = .ok (.iadd, 1) := by decide +kernel
theorem qd_C_trees_26 : decode qc_C_trees 26 = .ok (.if_icmp .ne 22, 3) := by decide +kernel
theorem qd_C_trees_29 : decode qc_C_trees 29 = .ok (.aload_n 0, 1) := by decide +kernel
theorem qd_C_trees_30 : decode qc_C_trees 30 = .ok (.getfield 32, 3) := by decide +kernel
theorem qd_C_trees_33 : decode qc_C_trees 33 = .ok (.iload_n 2, 1) := by decide +kernel
theorem qd_C_trees_34 : decode qc_C_trees 34 = .ok (.invokevirtual 115, 3) := by decide +kernel
theorem qd_C_trees_37 : decode qc_C_trees 37 = .ok (.iload_n 1, 1) := by decide +kernel
theorem qd_C_trees_38 : decode qc_C_trees 38 = .ok (.bipush 10, 2) := by decide +kernel
theorem qd_C_trees_40 : decode qc_C_trees 40 = .ok (.isub, 1) := by decide +kernel
theorem qd_C_trees_41 : decode qc_C_trees 41 = .ok (.if_icmp .ne 7, 3) := by decide +kernel
theorem qd_C_trees_44 : decode qc_C_trees 44 = .ok (.iconst 1, 1) := by decide +kernel
theorem qd_C_trees_45 : decode qc_C_trees 45 = .ok (.goto 4, 3) := by decide +kernel
theorem qd_C_trees_48 : decode qc_C_trees 48 = .ok (.iconst 0, 1) := by decide +kernel
theorem qd_C_trees_49 : decode qc_C_trees 49 = .ok (.ireturn, 1) := by decide +kernel
theorem qd_C_trees_50 : decode qc_C_trees 50 = .ok (.iload_n 1, 1) := by decide +kernel
theorem qd_C_trees_51 : decode qc_C_trees 51 = .ok (.iload_n 2, 1) := by decide +kernel
theorem qd_C_trees_52 : decode qc_C_trees 52 = .ok (.iload_n 3, 1) := by decide +kernel
theorem qd_C_trees_53 : decode qc_C_trees 53 = .ok (.invokestatic 120, 3) := by decide +kernel
theorem qd_C_trees_56 : decode qc_C_trees 56 = .ok (.istore 4, 2) := by decide +kernel
theorem qd_C_trees_58 : decode qc_C_trees 58 = .ok (.iload 4, 2) := by decide +kernel
theorem qd_C_trees_60 : decode qc_C_trees 60 = .ok (.ifCond .lt 23, 3) := by decide +kernel
theorem qd_C_trees_63 : decode qc_C_trees 63 = .ok (.iload 4, 2) := by decide +kernel
theorem qd_C_trees_65 : decode qc_C_trees 65 = .ok (.aload_n 0, 1) := by decide +kernel
theorem qd_C_trees_66 : decode qc_C_trees 66 = .ok (.getfield 9, 3) := by decide +kernel
theorem qd_C_trees_69 : decode qc_C_trees 69 = .ok (.arraylength, 1) := by decide +kernel
theorem qd_C_trees_70 : decode qc_C_trees 70 = .ok (.if_icmp .ge 13, 3) := by decide +kernel
theorem qd_C_trees_73 : decode qc_C_trees 73 = .ok (.aload_n 0, 1) := by decide +kernel
theorem qd_C_trees_74 : decode qc_C_trees 74 = .ok (.getfield 9, 3) := by decide +kernel
theorem qd_C_trees_77 : decode qc_C_trees 77 = .ok (.iload 4, 2) := by decide +kernel
theorem qd_C_trees_79 : decode qc_C_trees 79 = .ok (.iaload, 1) := by decide +kernel
theorem qd_C_trees_80 : decode qc_C_trees 80 = .ok (.goto 4, 3) := by decide +kernel
theorem qd_C_trees_83 : decode qc_C_trees 83 = .ok (.iconst 0, 1) := by decide +kernel
theorem qd_C_trees_84 : decode qc_C_trees 84 = .ok (.ireturn, 1) := by decide +kernel
set_option maxHeartbeats 4000000 in
set_option maxRecDepth 100000 in
theorem c_C_trees (l : Launch) (dC : Nat → ClassId) (dI : Nat → Nat → Nat) (cA : ClassId) (aC aCn aCc aCr aCs aG aR aRt : Nat) (vCF : Int32) (vCn : (Nat → Int32)) (vRL : Int32) (vRt : (Nat → Int32)) (p0 : Int32) (p1 : Int32) (p2 : Int32) (ho : o_C_trees vCn vRL vRt p0 p1 p2) : Met l qy_C_trees qw_C_trees ({ frames := 1, cells := 0, slots := 0, locals := 22 }) (va_Pc [.ref aC, .int p0, .int p1, .int p2] (xP (dC, dI) [(cA, .int)] [(aC, .inr (0, [.ref aG, .ref aR, .ref aCn, .ref aCc, .ref aCr, .ref aCs, .int vCF])), (aCn, .inl (cA, 5760, .inl (vCn))), (aR, .inr (4, [.ref aRt, .int vRL])), (aRt, .inl (cA, 24, .inl (vRt)))] nestN)) (vp_Si (fun r => r = f_C_trees vCn vRL vRt p0 p1 p2)) 0 0 (fun _ => False) := by
  refine Met.ofW (cc := qc_C_trees) (maxL := 5) (ret := (some .int)) (by decide) rfl ?_
  intro p e s m args below meth c s₁ B hml hv
  obtain ⟨rfl, hP, hK, hN⟩ := hv
  have hx := B.exec
  have hb := B.bytes
  have hr := B.returns
  have hts := atoms_spec (ws := qw_C_trees) B.pre
  have hg : ∀ w ∈ gG, w.before _ s = true := fun w h => hts w (List.mem_cons_of_mem _ h)
  have hown : s.vm.findClass qR_C = some m.cls := findClass_of_methodNamed B.named
  have hlocks := B.notSynchronized
  have hP : va_P (dC, dI) vwCl [(aC, .inr (0, [.ref aG, .ref aR, .ref aCn, .ref aCc, .ref aCr, .ref aCs, .int vCF])), (aCn, .inl (cA, 5760, .inl (vCn))), (aR, .inr (4, [.ref aRt, .int vRL])), (aRt, .inl (cA, 24, .inl (vRt)))] s.heap := hP
  have hl := lv_entry ([.ref aC, .int p0, .int p1, .int p2]) (n := 5) (Nat.le_of_ble_eq_true rfl)
  rw [lg_entry_eq]
  generalize (lg_sl ([.ref aC, .int p0, .int p1, .int p2]) ++ List.replicate (5 - (lg_sl ([.ref aC, .int p0, .int p1, .int p2])).length) Slot.unset).toArray = ls at hl ⊢
  have hl : lv_has ls 5 [(0, .ref aC), (1, .int p0), (2, .int p1), (3, .int p2)] := hl
  generalize hF : f_C_trees vCn vRL vRt p0 p1 p2 = Fv
  have hres : Fv = f_C_trees vCn vRL vRt p0 p1 p2 := hF.symm
  unfold f_C_trees at hres
  unfold o_C_trees at ho
  refine lv_iload_n hx hb qd_C_trees_0 rfl (lv_at hl 1 rfl) ?_
  refine lv_iconst (v := (-1)) hx hb qd_C_trees_1 (by decide) ?_
  refine lv_icmp_ne (tgt := 16) hx hb qd_C_trees_2 (by decide) (fun c_2 => ?_) (fun c_2 => ?_)
  · have hres := hres.trans (if_neg c_2)
    have ho := (if_neg c_2).mp ho
    refine lv_iload_n hx hb qd_C_trees_16 rfl (lv_at hl 1 rfl) ?_
    refine lv_bipush (v := 10) hx hb qd_C_trees_17 (by decide) ?_
    refine lv_icmp_lt (tgt := 50) hx hb qd_C_trees_19 (by decide) (fun c_19 => ?_) (fun c_19 => ?_)
    · have hres := hres.trans (if_pos c_19)
      have ho := (if_pos c_19).mp ho
      refine lv_iload_n hx hb qd_C_trees_50 rfl (lv_at hl 1 rfl) ?_
      refine lv_iload_n hx hb qd_C_trees_51 rfl (lv_at hl 2 rfl) ?_
      refine lv_iload_n hx hb qd_C_trees_52 rfl (lv_at hl 3 rfl) ?_
      refine xc_S (As := [.int p0, .int p1, .int p2]) (rest := []) ⟨hx, hb, hml, hown, hg⟩ (c_C_cell l dC dI cA p0 p1 p2) (va_cwS 3 hg (q_gS mw_392 mw_393 mw_4 mw_394) rfl rfl rfl qh_C_cell.2 ⟨Nat.le_of_ble_eq_true rfl, Nat.le_of_ble_eq_true rfl⟩) hN hK hP [] rfl rfl hl.1 rfl (Nat.le_of_ble_eq_true rfl) qd_C_trees_53 ⟨Nat.zero_le _, Nat.zero_le _⟩ ?_
      refine lv_topi (fun r_53 w_53 => ?_)
      have hres := hres.trans (bd_eq w_53)
      have ho := (bd_eq w_53).mp ho
      refine lv_istore (lv' := [(4, .int r_53), (0, .ref aC), (1, .int p0), (2, .int p1), (3, .int p2)]) hx hb qd_C_trees_56 hl (by decide) rfl (fun ls hl => ?_)
      refine lv_iload hx hb qd_C_trees_58 (lv_at hl 0 rfl) ?_
      refine lv_if_lt (tgt := 83) hx hb qd_C_trees_60 (by decide) (fun c_60 => ?_) (fun c_60 => ?_)
      · have hres := hres.trans (if_pos c_60)
        have ho := (if_pos c_60).mp ho
        refine lv_iconst (v := 0) hx hb qd_C_trees_83 (by decide) ?_
        exact W.iret (v := 0) hx hb hr (fun t ht hW => ⟨_, rfl, hres.symm, ht⟩) (fun _ h => nomatch h) qd_C_trees_84
      have hres := hres.trans (if_neg c_60)
      have ho := (if_neg c_60).mp ho
      refine lv_iload hx hb qd_C_trees_63 (lv_at hl 0 rfl) ?_
      refine lv_aload_n hx hb qd_C_trees_65 rfl (lv_at hl 1 rfl) ?_
      refine va_get (D := (dC, dI)) (ci := 0) (v := .ref aCn) (C := qR_C) (T := qT_C) (N := 7) hx hb hg qi_C hown hK hP 0 rfl rfl 2 (by decide) (hg _ mw_64) (fun _ h9 => h9) rfl qd_C_trees_66 ?_
      refine va_alen (v := 5760) hx hb hK hP 1 0 rfl rfl (show Int32.ofNat 5760 = 5760 by decide) qd_C_trees_69 ?_
      refine lv_icmp_ge (tgt := 83) hx hb qd_C_trees_70 (by decide) (fun c_70 => ?_) (fun c_70 => ?_)
      · have hres := hres.trans (if_pos c_70)
        have ho := (if_pos c_70).mp ho
        refine lv_iconst (v := 0) hx hb qd_C_trees_83 (by decide) ?_
        exact W.iret (v := 0) hx hb hr (fun t ht hW => ⟨_, rfl, hres.symm, ht⟩) (fun _ h => nomatch h) qd_C_trees_84
      have hres := hres.trans (if_neg c_70)
      have ho := (if_neg c_70).mp ho
      refine lv_aload_n hx hb qd_C_trees_73 rfl (lv_at hl 1 rfl) ?_
      refine va_get (D := (dC, dI)) (ci := 0) (v := .ref aCn) (C := qR_C) (T := qT_C) (N := 7) hx hb hg qi_C hown hK hP 0 rfl rfl 2 (by decide) (hg _ mw_64) (fun _ h9 => h9) rfl qd_C_trees_74 ?_
      refine lv_iload hx hb qd_C_trees_77 (lv_at hl 0 rfl) ?_
      obtain ⟨g_79, ho⟩ := ho
      refine va_iald hx hb hK hP 1 0 rfl rfl g_79 qd_C_trees_79 ?_
      refine lv_goto (tgt := 84) hx hb qd_C_trees_80 (by decide) ?_
      exact W.iret (v := vCn r_53.toNatClampNeg) hx hb hr (fun t ht hW => ⟨_, rfl, hres.symm, ht⟩) (fun _ h => nomatch h) qd_C_trees_84
    have hres := hres.trans (if_neg c_19)
    have ho := (if_neg c_19).mp ho
    refine lv_iload_n hx hb qd_C_trees_22 rfl (lv_at hl 3 rfl) ?_
    refine lv_iload_n hx hb qd_C_trees_23 rfl (lv_at hl 2 rfl) ?_
    refine lv_iconst (v := 1) hx hb qd_C_trees_24 (by decide) ?_
    refine lv_iadd hx hb qd_C_trees_25 ?_
    refine lv_icmp_ne (tgt := 48) hx hb qd_C_trees_26 (by decide) (fun c_26 => ?_) (fun c_26 => ?_)
    · have hres := hres.trans (if_neg c_26)
      have ho := (if_neg c_26).mp ho
      refine lv_iconst (v := 0) hx hb qd_C_trees_48 (by decide) ?_
      exact W.iret (v := 0) hx hb hr (fun t ht hW => ⟨_, rfl, hres.symm, ht⟩) (fun _ h => nomatch h) qd_C_trees_49
    have hres := hres.trans (if_pos c_26)
    have ho := (if_pos c_26).mp ho
    refine lv_aload_n hx hb qd_C_trees_29 rfl (lv_at hl 0 rfl) ?_
    refine va_get (D := (dC, dI)) (ci := 0) (v := .ref aR) (C := qR_C) (T := qT_C) (N := 7) hx hb hg qi_C hown hK hP 0 rfl rfl 1 (by decide) (hg _ mw_63) (fun _ h9 => h9) rfl qd_C_trees_30 ?_
    refine lv_iload_n hx hb qd_C_trees_33 rfl (lv_at hl 2 rfl) ?_
    obtain ⟨g_34, ho⟩ := ho
    refine xc_V (As := [.int p1]) (rest := []) ⟨hx, hb, hml, hown, hg⟩ (c_R_token l dC dI cA aR aRt vRL vRt p1 g_34) (cwV 1 hg (q_gV mw_388 mw_389 mw_390 mw_3 mw_391) rfl rfl rfl qh_R_token ⟨Nat.le_of_ble_eq_true rfl, Nat.le_of_ble_eq_true rfl⟩) hN hK hP [2, 3] rfl 0 4 rfl rfl rfl hl.1 rfl (Nat.le_of_ble_eq_true rfl) qd_C_trees_34 ⟨Nat.zero_le _, Nat.zero_le _⟩ ?_
    refine lv_topi (fun r_34 w_34 => ?_)
    have hres := hres.trans (bd_eq w_34)
    have ho := (bd_eq w_34).mp ho
    refine lv_iload_n hx hb qd_C_trees_37 rfl (lv_at hl 1 rfl) ?_
    refine lv_bipush (v := 10) hx hb qd_C_trees_38 (by decide) ?_
    refine lv_isub hx hb qd_C_trees_40 ?_
    refine lv_icmp_ne (tgt := 48) hx hb qd_C_trees_41 (by decide) (fun c_41 => ?_) (fun c_41 => ?_)
    · have hres := hres.trans (if_neg c_41)
      have ho := (if_neg c_41).mp ho
      refine lv_iconst (v := 0) hx hb qd_C_trees_48 (by decide) ?_
      exact W.iret (v := 0) hx hb hr (fun t ht hW => ⟨_, rfl, hres.symm, ht⟩) (fun _ h => nomatch h) qd_C_trees_49
    have hres := hres.trans (if_pos c_41)
    have ho := (if_pos c_41).mp ho
    refine lv_iconst (v := 1) hx hb qd_C_trees_44 (by decide) ?_
    refine lv_goto (tgt := 49) hx hb qd_C_trees_45 (by decide) ?_
    exact W.iret (v := 1) hx hb hr (fun t ht hW => ⟨_, rfl, hres.symm, ht⟩) (fun _ h => nomatch h) qd_C_trees_49
  have hres := hres.trans (if_pos c_2)
  have ho := (if_pos c_2).mp ho
  refine lv_iload_n hx hb qd_C_trees_5 rfl (lv_at hl 2 rfl) ?_
  refine lv_iload_n hx hb qd_C_trees_6 rfl (lv_at hl 3 rfl) ?_
  refine lv_icmp_ne (tgt := 14) hx hb qd_C_trees_7 (by decide) (fun c_7 => ?_) (fun c_7 => ?_)
  · have hres := hres.trans (if_neg c_7)
    have ho := (if_neg c_7).mp ho
    refine lv_iconst (v := 0) hx hb qd_C_trees_14 (by decide) ?_
    exact W.iret (v := 0) hx hb hr (fun t ht hW => ⟨_, rfl, hres.symm, ht⟩) (fun _ h => nomatch h) qd_C_trees_15
  have hres := hres.trans (if_pos c_7)
  have ho := (if_pos c_7).mp ho
  refine lv_iconst (v := 1) hx hb qd_C_trees_10 (by decide) ?_
  refine lv_goto (tgt := 15) hx hb qd_C_trees_11 (by decide) ?_
  exact W.iret (v := 1) hx hb hr (fun t ht hW => ⟨_, rfl, hres.symm, ht⟩) (fun _ h => nomatch h) qd_C_trees_15
theorem qd_C_leastCost_0 : decode qc_C_leastCost 0 = .ok (.iload_n 1, 1) := by decide +kernel
theorem qd_C_leastCost_1 : decode qc_C_leastCost 1 = .ok (.iconst (-1), 1) := by decide +kernel
theorem qd_C_leastCost_2 : decode qc_C_leastCost 2 = .ok (.if_icmp .eq 9, 3) := by decide +kernel
theorem qd_C_leastCost_5 : decode qc_C_leastCost 5 = .ok (.iload_n 1, 1) := by decide +kernel
theorem qd_C_leastCost_6 : decode qc_C_leastCost 6 = .ok (.bipush 10, 2) := by decide +kernel
theorem qd_C_leastCost_8 : decode qc_C_leastCost 8 = .ok (.if_icmp .lt 5, 3) := by decide +kernel
theorem qd_C_leastCost_11 : decode qc_C_leastCost 11 = .ok (.iconst 0, 1) := by decide +kernel
theorem qd_C_leastCost_12 : decode qc_C_leastCost 12 = .ok (.ireturn, 1) := by decide +kernel
theorem qd_C_leastCost_13 : decode qc_C_leastCost 13 = .ok (.iload_n 1, 1) := by decide +kernel
theorem qd_C_leastCost_14 : decode qc_C_leastCost 14 = .ok (.iload_n 2, 1) := by decide +kernel
theorem qd_C_leastCost_15 : decode qc_C_leastCost 15 = .ok (.iload_n 3, 1) := by decide +kernel
theorem qd_C_leastCost_16 : decode qc_C_leastCost 16 = .ok (.invokestatic 120, 3) := by decide +kernel
theorem qd_C_leastCost_19 : decode qc_C_leastCost 19 = .ok (.istore 4, 2) := by decide +kernel
theorem qd_C_leastCost_21 : decode qc_C_leastCost 21 = .ok (.iload 4, 2) := by decide +kernel
theorem qd_C_leastCost_23 : decode qc_C_leastCost 23 = .ok (.ifCond .lt 23, 3) := by decide +kernel
theorem qd_C_leastCost_26 : decode qc_C_leastCost 26 = .ok (.iload 4, 2) := by decide +kernel
theorem qd_C_leastCost_28 : decode qc_C_leastCost 28 = .ok (.aload_n 0, 1) := by decide +kernel
theorem qd_C_leastCost_29 : decode qc_C_leastCost 29 = .ok (.getfield 15, 3) := by decide +kernel
theorem qd_C_leastCost_32 : decode qc_C_leastCost 32 = .ok (.arraylength, 1) := by decide +kernel
theorem qd_C_leastCost_33 : decode qc_C_leastCost 33 = .ok (.if_icmp .ge 13, 3) := by decide +kernel
theorem qd_C_leastCost_36 : decode qc_C_leastCost 36 = .ok (.aload_n 0, 1) := by decide +kernel
theorem qd_C_leastCost_37 : decode qc_C_leastCost 37 = .ok (.getfield 15, 3) := by decide +kernel
theorem qd_C_leastCost_40 : decode qc_C_leastCost 40 = .ok (.iload 4, 2) := by decide +kernel
theorem qd_C_leastCost_42 : decode qc_C_leastCost 42 = .ok (.iaload, 1) := by decide +kernel
theorem qd_C_leastCost_43 : decode qc_C_leastCost 43 = .ok (.goto 4, 3) := by decide +kernel
theorem qd_C_leastCost_46 : decode qc_C_leastCost 46 = .ok (.iconst (-1), 1) := by decide +kernel
theorem qd_C_leastCost_47 : decode qc_C_leastCost 47 = .ok (.ireturn, 1) := by decide +kernel
set_option maxHeartbeats 4000000 in
set_option maxRecDepth 100000 in
theorem c_C_leastCost (l : Launch) (dC : Nat → ClassId) (dI : Nat → Nat → Nat) (cA : ClassId) (aC aCn aCc aCr aCs aG aR : Nat) (vCF : Int32) (vCc : (Nat → Int32)) (p0 : Int32) (p1 : Int32) (p2 : Int32) (ho : o_C_leastCost vCc p0 p1 p2) : Met l qy_C_leastCost qw_C_leastCost ({ frames := 1, cells := 0, slots := 0, locals := 22 }) (va_Pc [.ref aC, .int p0, .int p1, .int p2] (xP (dC, dI) [(cA, .int)] [(aC, .inr (0, [.ref aG, .ref aR, .ref aCn, .ref aCc, .ref aCr, .ref aCs, .int vCF])), (aCc, .inl (cA, 5760, .inl (vCc)))] nestN)) (vp_Si (fun r => r = f_C_leastCost vCc p0 p1 p2)) 0 0 (fun _ => False) := by
  refine Met.ofW (cc := qc_C_leastCost) (maxL := 5) (ret := (some .int)) (by decide) rfl ?_
  intro p e s m args below meth c s₁ B hml hv
  obtain ⟨rfl, hP, hK, hN⟩ := hv
  have hx := B.exec
  have hb := B.bytes
  have hr := B.returns
  have hts := atoms_spec (ws := qw_C_leastCost) B.pre
  have hg : ∀ w ∈ gG, w.before _ s = true := fun w h => hts w (List.mem_cons_of_mem _ h)
  have hown : s.vm.findClass qR_C = some m.cls := findClass_of_methodNamed B.named
  have hlocks := B.notSynchronized
  have hP : va_P (dC, dI) vwCl [(aC, .inr (0, [.ref aG, .ref aR, .ref aCn, .ref aCc, .ref aCr, .ref aCs, .int vCF])), (aCc, .inl (cA, 5760, .inl (vCc)))] s.heap := hP
  have hl := lv_entry ([.ref aC, .int p0, .int p1, .int p2]) (n := 5) (Nat.le_of_ble_eq_true rfl)
  rw [lg_entry_eq]
  generalize (lg_sl ([.ref aC, .int p0, .int p1, .int p2]) ++ List.replicate (5 - (lg_sl ([.ref aC, .int p0, .int p1, .int p2])).length) Slot.unset).toArray = ls at hl ⊢
  have hl : lv_has ls 5 [(0, .ref aC), (1, .int p0), (2, .int p1), (3, .int p2)] := hl
  generalize hF : f_C_leastCost vCc p0 p1 p2 = Fv
  have hres : Fv = f_C_leastCost vCc p0 p1 p2 := hF.symm
  unfold f_C_leastCost at hres
  unfold o_C_leastCost at ho
  refine lv_iload_n hx hb qd_C_leastCost_0 rfl (lv_at hl 1 rfl) ?_
  refine lv_iconst (v := (-1)) hx hb qd_C_leastCost_1 (by decide) ?_
  refine lv_icmp_eq (tgt := 11) hx hb qd_C_leastCost_2 (by decide) (fun c_2 => ?_) (fun c_2 => ?_)
  · have hres := hres.trans (if_pos c_2)
    have ho := (if_pos c_2).mp ho
    refine lv_iconst (v := 0) hx hb qd_C_leastCost_11 (by decide) ?_
    exact W.iret (v := 0) hx hb hr (fun t ht hW => ⟨_, rfl, hres.symm, ht⟩) (fun _ h => nomatch h) qd_C_leastCost_12
  have hres := hres.trans (if_neg c_2)
  have ho := (if_neg c_2).mp ho
  refine lv_iload_n hx hb qd_C_leastCost_5 rfl (lv_at hl 1 rfl) ?_
  refine lv_bipush (v := 10) hx hb qd_C_leastCost_6 (by decide) ?_
  refine lv_icmp_lt (tgt := 13) hx hb qd_C_leastCost_8 (by decide) (fun c_8 => ?_) (fun c_8 => ?_)
  · have hres := hres.trans (if_pos c_8)
    have ho := (if_pos c_8).mp ho
    refine lv_iload_n hx hb qd_C_leastCost_13 rfl (lv_at hl 1 rfl) ?_
    refine lv_iload_n hx hb qd_C_leastCost_14 rfl (lv_at hl 2 rfl) ?_
    refine lv_iload_n hx hb qd_C_leastCost_15 rfl (lv_at hl 3 rfl) ?_
    refine xc_S (As := [.int p0, .int p1, .int p2]) (rest := []) ⟨hx, hb, hml, hown, hg⟩ (c_C_cell l dC dI cA p0 p1 p2) (va_cwS 3 hg (q_gS mw_392 mw_393 mw_4 mw_394) rfl rfl rfl qh_C_cell.2 ⟨Nat.le_of_ble_eq_true rfl, Nat.le_of_ble_eq_true rfl⟩) hN hK hP [] rfl rfl hl.1 rfl (Nat.le_of_ble_eq_true rfl) qd_C_leastCost_16 ⟨Nat.zero_le _, Nat.zero_le _⟩ ?_
    refine lv_topi (fun r_16 w_16 => ?_)
    have hres := hres.trans (bd_eq w_16)
    have ho := (bd_eq w_16).mp ho
    refine lv_istore (lv' := [(4, .int r_16), (0, .ref aC), (1, .int p0), (2, .int p1), (3, .int p2)]) hx hb qd_C_leastCost_19 hl (by decide) rfl (fun ls hl => ?_)
    refine lv_iload hx hb qd_C_leastCost_21 (lv_at hl 0 rfl) ?_
    refine lv_if_lt (tgt := 46) hx hb qd_C_leastCost_23 (by decide) (fun c_23 => ?_) (fun c_23 => ?_)
    · have hres := hres.trans (if_pos c_23)
      have ho := (if_pos c_23).mp ho
      refine lv_iconst (v := (-1)) hx hb qd_C_leastCost_46 (by decide) ?_
      exact W.iret (v := (-1)) hx hb hr (fun t ht hW => ⟨_, rfl, hres.symm, ht⟩) (fun _ h => nomatch h) qd_C_leastCost_47
    have hres := hres.trans (if_neg c_23)
    have ho := (if_neg c_23).mp ho
    refine lv_iload hx hb qd_C_leastCost_26 (lv_at hl 0 rfl) ?_
    refine lv_aload_n hx hb qd_C_leastCost_28 rfl (lv_at hl 1 rfl) ?_
    refine va_get (D := (dC, dI)) (ci := 0) (v := .ref aCc) (C := qR_C) (T := qT_C) (N := 7) hx hb hg qi_C hown hK hP 0 rfl rfl 3 (by decide) (hg _ mw_65) (fun _ h9 => h9) rfl qd_C_leastCost_29 ?_
    refine va_alen (v := 5760) hx hb hK hP 1 0 rfl rfl (show Int32.ofNat 5760 = 5760 by decide) qd_C_leastCost_32 ?_
    refine lv_icmp_ge (tgt := 46) hx hb qd_C_leastCost_33 (by decide) (fun c_33 => ?_) (fun c_33 => ?_)
    · have hres := hres.trans (if_pos c_33)
      have ho := (if_pos c_33).mp ho
      refine lv_iconst (v := (-1)) hx hb qd_C_leastCost_46 (by decide) ?_
      exact W.iret (v := (-1)) hx hb hr (fun t ht hW => ⟨_, rfl, hres.symm, ht⟩) (fun _ h => nomatch h) qd_C_leastCost_47
    have hres := hres.trans (if_neg c_33)
    have ho := (if_neg c_33).mp ho
    refine lv_aload_n hx hb qd_C_leastCost_36 rfl (lv_at hl 1 rfl) ?_
    refine va_get (D := (dC, dI)) (ci := 0) (v := .ref aCc) (C := qR_C) (T := qT_C) (N := 7) hx hb hg qi_C hown hK hP 0 rfl rfl 3 (by decide) (hg _ mw_65) (fun _ h9 => h9) rfl qd_C_leastCost_37 ?_
    refine lv_iload hx hb qd_C_leastCost_40 (lv_at hl 0 rfl) ?_
    obtain ⟨g_42, ho⟩ := ho
    refine va_iald hx hb hK hP 1 0 rfl rfl g_42 qd_C_leastCost_42 ?_
    refine lv_goto (tgt := 47) hx hb qd_C_leastCost_43 (by decide) ?_
    exact W.iret (v := vCc r_16.toNatClampNeg) hx hb hr (fun t ht hW => ⟨_, rfl, hres.symm, ht⟩) (fun _ h => nomatch h) qd_C_leastCost_47
  have hres := hres.trans (if_neg c_8)
  have ho := (if_neg c_8).mp ho
  refine lv_iconst (v := 0) hx hb qd_C_leastCost_11 (by decide) ?_
  exact W.iret (v := 0) hx hb hr (fun t ht hW => ⟨_, rfl, hres.symm, ht⟩) (fun _ h => nomatch h) qd_C_leastCost_12
theorem qd_C_cheaper_0 : decode qc_C_cheaper 0 = .ok (.iload_n 0, 1) := by decide +kernel
theorem qd_C_cheaper_1 : decode qc_C_cheaper 1 = .ok (.iconst (-1), 1) := by decide +kernel
theorem qd_C_cheaper_2 : decode qc_C_cheaper 2 = .ok (.if_icmp .ne 7, 3) := by decide +kernel
theorem qd_C_cheaper_5 : decode qc_C_cheaper 5 = .ok (.iload_n 1, 1) := by decide +kernel
theorem qd_C_cheaper_6 : decode qc_C_cheaper 6 = .ok (.goto 8, 3) := by decide +kernel
theorem qd_C_cheaper_9 : decode qc_C_cheaper 9 = .ok (.iload_n 0, 1) := by decide +kernel
theorem qd_C_cheaper_10 : decode qc_C_cheaper 10 = .ok (.iload_n 1, 1) := by decide +kernel
theorem qd_C_cheaper_11 : decode qc_C_cheaper 11 = .ok (.invokestatic 36, 3) := by decide +kernel
theorem qd_C_cheaper_14 : decode qc_C_cheaper 14 = .ok (.ireturn, 1) := by decide +kernel
set_option maxHeartbeats 4000000 in
set_option maxRecDepth 100000 in
theorem c_C_cheaper (l : Launch) (dC : Nat → ClassId) (dI : Nat → Nat → Nat) (cA : ClassId) (p0 : Int32) (p1 : Int32) : Met l qy_C_cheaper qw_C_cheaper ({ frames := 1, cells := 0, slots := 0, locals := 21 }) (va_Pc [.int p0, .int p1] (xP (dC, dI) [(cA, .int)] [] nestN)) (vp_Si (fun r => r = f_C_cheaper p0 p1)) 0 0 (fun _ => False) := by
  refine Met.ofW (cc := qc_C_cheaper) (maxL := 2) (ret := (some .int)) (by decide) rfl ?_
  intro p e s m args below meth c s₁ B hml hv
  obtain ⟨rfl, hP, hK, hN⟩ := hv
  have hx := B.exec
  have hb := B.bytes
  have hr := B.returns
  have hts := atoms_spec (ws := qw_C_cheaper) B.pre
  have hg : ∀ w ∈ gG, w.before _ s = true := fun w h => hts w (List.mem_cons_of_mem _ h)
  have hown : s.vm.findClass qR_C = some m.cls := findClass_of_methodNamed B.named
  have hlocks := B.notSynchronized
  have hP : va_P (dC, dI) vwCl [] s.heap := hP
  have hl := lv_entry ([.int p0, .int p1]) (n := 2) (Nat.le_of_ble_eq_true rfl)
  rw [lg_entry_eq]
  generalize (lg_sl ([.int p0, .int p1]) ++ List.replicate (2 - (lg_sl ([.int p0, .int p1])).length) Slot.unset).toArray = ls at hl ⊢
  have hl : lv_has ls 2 [(0, .int p0), (1, .int p1)] := hl
  generalize hF : f_C_cheaper p0 p1 = Fv
  have hres : Fv = f_C_cheaper p0 p1 := hF.symm
  unfold f_C_cheaper at hres
  refine lv_iload_n hx hb qd_C_cheaper_0 rfl (lv_at hl 0 rfl) ?_
  refine lv_iconst (v := (-1)) hx hb qd_C_cheaper_1 (by decide) ?_
  refine lv_icmp_ne (tgt := 9) hx hb qd_C_cheaper_2 (by decide) (fun c_2 => ?_) (fun c_2 => ?_)
  · have hres := hres.trans (if_neg c_2)
    refine lv_iload_n hx hb qd_C_cheaper_9 rfl (lv_at hl 0 rfl) ?_
    refine lv_iload_n hx hb qd_C_cheaper_10 rfl (lv_at hl 1 rfl) ?_
    refine va_mmin hx hb (hml.trans hl.1.symm) hown (hg _ mw_161) (hg _ mw_162) (hg _ mw_9) (hg _ mw_163) (Nat.le_of_ble_eq_true rfl) (Nat.le_of_ble_eq_true rfl) (Nat.zero_le _) (Nat.zero_le _) qd_C_cheaper_11 ?_
    exact W.iret (v := if p1 < p0 then p1 else p0) hx hb hr (fun t ht hW => ⟨_, rfl, hres.symm, ht⟩) (fun _ h => nomatch h) qd_C_cheaper_14
  have hres := hres.trans (if_pos c_2)
  refine lv_iload_n hx hb qd_C_cheaper_5 rfl (lv_at hl 1 rfl) ?_
  refine lv_goto (tgt := 14) hx hb qd_C_cheaper_6 (by decide) ?_
  exact W.iret (v := p1) hx hb hr (fun t ht hW => ⟨_, rfl, hres.symm, ht⟩) (fun _ h => nomatch h) qd_C_cheaper_14
theorem qd_C_restCell_0 : decode qc_C_restCell 0 = .ok (.iload_n 0, 1) := by decide +kernel
theorem qd_C_restCell_1 : decode qc_C_restCell 1 = .ok (.ifCond .lt 23, 3) := by decide +kernel
theorem qd_C_restCell_4 : decode qc_C_restCell 4 = .ok (.iload_n 0, 1) := by decide +kernel
theorem qd_C_restCell_5 : decode qc_C_restCell 5 = .ok (.bipush 24, 2) := by decide +kernel
theorem qd_C_restCell_7 : decode qc_C_restCell 7 = .ok (.if_icmp .ge 17, 3) := by decide +kernel
theorem qd_C_restCell_10 : decode qc_C_restCell 10 = .ok (.iload_n 1, 1) := by decide +kernel
theorem qd_C_restCell_11 : decode qc_C_restCell 11 = .ok (.ifCond .lt 13, 3) := by decide +kernel
theorem qd_C_restCell_14 : decode qc_C_restCell 14 = .ok (.iload_n 1, 1) := by decide +kernel
theorem qd_C_restCell_15 : decode qc_C_restCell 15 = .ok (.bipush 25, 2) := by decide +kernel
theorem qd_C_restCell_17 : decode qc_C_restCell 17 = .ok (.if_icmp .ge 7, 3) := by decide +kernel
theorem qd_C_restCell_20 : decode qc_C_restCell 20 = .ok (.iconst 1, 1) := by decide +kernel
theorem qd_C_restCell_21 : decode qc_C_restCell 21 = .ok (.goto 4, 3) := by decide +kernel
theorem qd_C_restCell_24 : decode qc_C_restCell 24 = .ok (.iconst 0, 1) := by decide +kernel
theorem qd_C_restCell_25 : decode qc_C_restCell 25 = .ok (.istore_n 2, 1) := by decide +kernel
theorem qd_C_restCell_26 : decode qc_C_restCell 26 = .ok (.iload_n 2, 1) := by decide +kernel
theorem qd_C_restCell_27 : decode qc_C_restCell 27 = .ok (.ifCond .eq 12, 3) := by decide +kernel
theorem qd_C_restCell_30 : decode qc_C_restCell 30 = .ok (.iload_n 0, 1) := by decide +kernel
theorem qd_C_restCell_31 : decode qc_C_restCell 31 = .ok (.bipush 25, 2) := by decide +kernel
theorem qd_C_restCell_33 : decode qc_C_restCell 33 = .ok (.imul, 1) := by decide +kernel
theorem qd_C_restCell_34 : decode qc_C_restCell 34 = .ok (.iload_n 1, 1) := by decide +kernel
theorem qd_C_restCell_35 : decode qc_C_restCell 35 = .ok (.iadd, 1) := by decide +kernel
theorem qd_C_restCell_36 : decode qc_C_restCell 36 = .ok (.goto 4, 3) := by decide +kernel
theorem qd_C_restCell_39 : decode qc_C_restCell 39 = .ok (.iconst (-1), 1) := by decide +kernel
theorem qd_C_restCell_40 : decode qc_C_restCell 40 = .ok (.ireturn, 1) := by decide +kernel
set_option maxHeartbeats 4000000 in
set_option maxRecDepth 100000 in
theorem c_C_restCell (l : Launch) (dC : Nat → ClassId) (dI : Nat → Nat → Nat) (cA : ClassId) (p0 : Int32) (p1 : Int32) : Met l qy_C_restCell qw_C_restCell ({ frames := 0, cells := 0, slots := 0, locals := 0 }) (va_Pc [.int p0, .int p1] (xP (dC, dI) [(cA, .int)] [] nestN)) (vp_Si (fun r => r = f_C_restCell p0 p1)) 0 0 (fun _ => False) := by
  refine Met.ofW (cc := qc_C_restCell) (maxL := 3) (ret := (some .int)) (by decide) rfl ?_
  intro p e s m args below meth c s₁ B hml hv
  obtain ⟨rfl, hP, hK, hN⟩ := hv
  have hx := B.exec
  have hb := B.bytes
  have hr := B.returns
  have hts := atoms_spec (ws := qw_C_restCell) B.pre
  have hg : ∀ w ∈ gG, w.before _ s = true := fun w h => hts w (List.mem_cons_of_mem _ h)
  have hown : s.vm.findClass qR_C = some m.cls := findClass_of_methodNamed B.named
  have hlocks := B.notSynchronized
  have hP : va_P (dC, dI) vwCl [] s.heap := hP
  have hl := lv_entry ([.int p0, .int p1]) (n := 3) (Nat.le_of_ble_eq_true rfl)
  rw [lg_entry_eq]
  generalize (lg_sl ([.int p0, .int p1]) ++ List.replicate (3 - (lg_sl ([.int p0, .int p1])).length) Slot.unset).toArray = ls at hl ⊢
  have hl : lv_has ls 3 [(0, .int p0), (1, .int p1)] := hl
  generalize hF : f_C_restCell p0 p1 = Fv
  have hres : Fv = f_C_restCell p0 p1 := hF.symm
  unfold f_C_restCell at hres
  refine lv_iload_n hx hb qd_C_restCell_0 rfl (lv_at hl 0 rfl) ?_
  refine lv_if_lt (tgt := 24) hx hb qd_C_restCell_1 (by decide) (fun c_1 => ?_) (fun c_1 => ?_)
  · have hres := hres.trans (if_pos c_1)
    refine lv_iconst (v := 0) hx hb qd_C_restCell_24 (by decide) ?_
    refine lv_istore_n (lv' := [(2, .int 0), (0, .int p0), (1, .int p1)]) hx hb qd_C_restCell_25 rfl hl (by decide) rfl (fun ls hl => ?_)
    refine lv_iload_n hx hb qd_C_restCell_26 rfl (lv_at hl 0 rfl) ?_
    refine lv_if_eq (tgt := 39) hx hb qd_C_restCell_27 (by decide) (fun c_27 => ?_) (fun c_27 => ?_)
    rotate_left
    · exact absurd (by decide) c_27
    refine lv_iconst (v := (-1)) hx hb qd_C_restCell_39 (by decide) ?_
    exact W.iret (v := (-1)) hx hb hr (fun t ht hW => ⟨_, rfl, hres.symm, ht⟩) (fun _ h => nomatch h) qd_C_restCell_40
  have hres := hres.trans (if_neg c_1)
  refine lv_iload_n hx hb qd_C_restCell_4 rfl (lv_at hl 0 rfl) ?_
  refine lv_bipush (v := 24) hx hb qd_C_restCell_5 (by decide) ?_
  refine lv_icmp_ge (tgt := 24) hx hb qd_C_restCell_7 (by decide) (fun c_7 => ?_) (fun c_7 => ?_)
  · have hres := hres.trans (if_pos c_7)
    refine lv_iconst (v := 0) hx hb qd_C_restCell_24 (by decide) ?_
    refine lv_istore_n (lv' := [(2, .int 0), (0, .int p0), (1, .int p1)]) hx hb qd_C_restCell_25 rfl hl (by decide) rfl (fun ls hl => ?_)
    refine lv_iload_n hx hb qd_C_restCell_26 rfl (lv_at hl 0 rfl) ?_
    refine lv_if_eq (tgt := 39) hx hb qd_C_restCell_27 (by decide) (fun c_27 => ?_) (fun c_27 => ?_)
    rotate_left
    · exact absurd (by decide) c_27
    refine lv_iconst (v := (-1)) hx hb qd_C_restCell_39 (by decide) ?_
    exact W.iret (v := (-1)) hx hb hr (fun t ht hW => ⟨_, rfl, hres.symm, ht⟩) (fun _ h => nomatch h) qd_C_restCell_40
  have hres := hres.trans (if_neg c_7)
  refine lv_iload_n hx hb qd_C_restCell_10 rfl (lv_at hl 1 rfl) ?_
  refine lv_if_lt (tgt := 24) hx hb qd_C_restCell_11 (by decide) (fun c_11 => ?_) (fun c_11 => ?_)
  · have hres := hres.trans (if_pos c_11)
    refine lv_iconst (v := 0) hx hb qd_C_restCell_24 (by decide) ?_
    refine lv_istore_n (lv' := [(2, .int 0), (0, .int p0), (1, .int p1)]) hx hb qd_C_restCell_25 rfl hl (by decide) rfl (fun ls hl => ?_)
    refine lv_iload_n hx hb qd_C_restCell_26 rfl (lv_at hl 0 rfl) ?_
    refine lv_if_eq (tgt := 39) hx hb qd_C_restCell_27 (by decide) (fun c_27 => ?_) (fun c_27 => ?_)
    rotate_left
    · exact absurd (by decide) c_27
    refine lv_iconst (v := (-1)) hx hb qd_C_restCell_39 (by decide) ?_
    exact W.iret (v := (-1)) hx hb hr (fun t ht hW => ⟨_, rfl, hres.symm, ht⟩) (fun _ h => nomatch h) qd_C_restCell_40
  have hres := hres.trans (if_neg c_11)
  refine lv_iload_n hx hb qd_C_restCell_14 rfl (lv_at hl 1 rfl) ?_
  refine lv_bipush (v := 25) hx hb qd_C_restCell_15 (by decide) ?_
  refine lv_icmp_ge (tgt := 24) hx hb qd_C_restCell_17 (by decide) (fun c_17 => ?_) (fun c_17 => ?_)
  · have hres := hres.trans (if_pos c_17)
    refine lv_iconst (v := 0) hx hb qd_C_restCell_24 (by decide) ?_
    refine lv_istore_n (lv' := [(2, .int 0), (0, .int p0), (1, .int p1)]) hx hb qd_C_restCell_25 rfl hl (by decide) rfl (fun ls hl => ?_)
    refine lv_iload_n hx hb qd_C_restCell_26 rfl (lv_at hl 0 rfl) ?_
    refine lv_if_eq (tgt := 39) hx hb qd_C_restCell_27 (by decide) (fun c_27 => ?_) (fun c_27 => ?_)
    rotate_left
    · exact absurd (by decide) c_27
    refine lv_iconst (v := (-1)) hx hb qd_C_restCell_39 (by decide) ?_
    exact W.iret (v := (-1)) hx hb hr (fun t ht hW => ⟨_, rfl, hres.symm, ht⟩) (fun _ h => nomatch h) qd_C_restCell_40
  have hres := hres.trans (if_neg c_17)
  refine lv_iconst (v := 1) hx hb qd_C_restCell_20 (by decide) ?_
  refine lv_goto (tgt := 25) hx hb qd_C_restCell_21 (by decide) ?_
  refine lv_istore_n (lv' := [(2, .int 1), (0, .int p0), (1, .int p1)]) hx hb qd_C_restCell_25 rfl hl (by decide) rfl (fun ls hl => ?_)
  refine lv_iload_n hx hb qd_C_restCell_26 rfl (lv_at hl 0 rfl) ?_
  refine lv_if_eq (tgt := 39) hx hb qd_C_restCell_27 (by decide) (fun c_27 => ?_) (fun c_27 => ?_)
  · exact absurd c_27 (by decide)
  refine lv_iload_n hx hb qd_C_restCell_30 rfl (lv_at hl 1 rfl) ?_
  refine lv_bipush (v := 25) hx hb qd_C_restCell_31 (by decide) ?_
  refine lv_imul hx hb qd_C_restCell_33 ?_
  refine lv_iload_n hx hb qd_C_restCell_34 rfl (lv_at hl 2 rfl) ?_
  refine lv_iadd hx hb qd_C_restCell_35 ?_
  refine lv_goto (tgt := 40) hx hb qd_C_restCell_36 (by decide) ?_
  exact W.iret (v := (p0 * 25) + p1) hx hb hr (fun t ht hW => ⟨_, rfl, hres.symm, ht⟩) (fun _ h => nomatch h) qd_C_restCell_40
theorem qd_C_fillRest_0 : decode qc_C_fillRest 0 = .ok (.aload_n 0, 1) := by decide +kernel
theorem qd_C_fillRest_1 : decode qc_C_fillRest 1 = .ok (.getfield 28, 3) := by decide +kernel
theorem qd_C_fillRest_4 : decode qc_C_fillRest 4 = .ok (.iload_n 1, 1) := by decide +kernel
theorem qd_C_fillRest_5 : decode qc_C_fillRest 5 = .ok (.iconst 1, 1) := by decide +kernel
theorem qd_C_fillRest_6 : decode qc_C_fillRest 6 = .ok (.invokevirtual 77, 3) := by decide +kernel
theorem qd_C_fillRest_9 : decode qc_C_fillRest 9 = .ok (.istore 4, 2) := by decide +kernel
theorem qd_C_fillRest_11 : decode qc_C_fillRest 11 = .ok (.aload_n 0, 1) := by decide +kernel
theorem qd_C_fillRest_12 : decode qc_C_fillRest 12 = .ok (.getfield 28, 3) := by decide +kernel
theorem qd_C_fillRest_15 : decode qc_C_fillRest 15 = .ok (.iload_n 1, 1) := by decide +kernel
theorem qd_C_fillRest_16 : decode qc_C_fillRest 16 = .ok (.iconst 2, 1) := by decide +kernel
theorem qd_C_fillRest_17 : decode qc_C_fillRest 17 = .ok (.invokevirtual 77, 3) := by decide +kernel
theorem qd_C_fillRest_20 : decode qc_C_fillRest 20 = .ok (.istore 5, 2) := by decide +kernel
theorem qd_C_fillRest_22 : decode qc_C_fillRest 22 = .ok (.iconst 0, 1) := by decide +kernel
theorem qd_C_fillRest_23 : decode qc_C_fillRest 23 = .ok (.istore 6, 2) := by decide +kernel
theorem qd_C_fillRest_25 : decode qc_C_fillRest 25 = .ok (.iconst (-1), 1) := by decide +kernel
theorem qd_C_fillRest_26 : decode qc_C_fillRest 26 = .ok (.istore 7, 2) := by decide +kernel
theorem qd_C_fillRest_28 : decode qc_C_fillRest 28 = .ok (.aload_n 0, 1) := by decide +kernel
theorem qd_C_fillRest_29 : decode qc_C_fillRest 29 = .ok (.getfield 28, 3) := by decide +kernel
theorem qd_C_fillRest_32 : decode qc_C_fillRest 32 = .ok (.iload_n 1, 1) := by decide +kernel
theorem qd_C_fillRest_33 : decode qc_C_fillRest 33 = .ok (.iload_n 3, 1) := by decide +kernel
theorem qd_C_fillRest_34 : decode qc_C_fillRest 34 = .ok (.invokevirtual 109, 3) := by decide +kernel
theorem qd_C_fillRest_37 : decode qc_C_fillRest 37 = .ok (.istore 8, 2) := by decide +kernel
theorem qd_C_fillRest_39 : decode qc_C_fillRest 39 = .ok (.aload_n 0, 1) := by decide +kernel
theorem qd_C_fillRest_40 : decode qc_C_fillRest 40 = .ok (.getfield 28, 3) := by decide +kernel
theorem qd_C_fillRest_43 : decode qc_C_fillRest 43 = .ok (.iload_n 1, 1) := by decide +kernel
theorem qd_C_fillRest_44 : decode qc_C_fillRest 44 = .ok (.iload_n 2, 1) := by decide +kernel
theorem qd_C_fillRest_45 : decode qc_C_fillRest 45 = .ok (.iload_n 3, 1) := by decide +kernel
theorem qd_C_fillRest_46 : decode qc_C_fillRest 46 = .ok (.invokevirtual 112, 3) := by decide +kernel
theorem qd_C_fillRest_49 : decode qc_C_fillRest 49 = .ok (.istore 9, 2) := by decide +kernel
theorem qd_C_fillRest_51 : decode qc_C_fillRest 51 = .ok (.iload 9, 2) := by decide +kernel
theorem qd_C_fillRest_53 : decode qc_C_fillRest 53 = .ok (.iload 8, 2) := by decide +kernel
theorem qd_C_fillRest_55 : decode qc_C_fillRest 55 = .ok (.if_icmp .gt 91, 3) := by decide +kernel
theorem qd_C_fillRest_58 : decode qc_C_fillRest 58 = .ok (.aload_n 0, 1) := by decide +kernel
theorem qd_C_fillRest_59 : decode qc_C_fillRest 59 = .ok (.iload 4, 2) := by decide +kernel
theorem qd_C_fillRest_61 : decode qc_C_fillRest 61 = .ok (.iload_n 2, 1) := by decide +kernel
theorem qd_C_fillRest_62 : decode qc_C_fillRest 62 = .ok (.iload 9, 2) := by decide +kernel
theorem qd_C_fillRest_64 : decode qc_C_fillRest 64 = .ok (.invokevirtual 80, 3) := by decide +kernel
theorem qd_C_fillRest_67 : decode qc_C_fillRest 67 = .ok (.istore 10, 2) := by decide +kernel
theorem qd_C_fillRest_69 : decode qc_C_fillRest 69 = .ok (.iload 10, 2) := by decide +kernel
theorem qd_C_fillRest_71 : decode qc_C_fillRest 71 = .ok (.ifCond .le 15, 3) := by decide +kernel
theorem qd_C_fillRest_74 : decode qc_C_fillRest 74 = .ok (.aload_n 0, 1) := by decide +kernel
theorem qd_C_fillRest_75 : decode qc_C_fillRest 75 = .ok (.iload 5, 2) := by decide +kernel
theorem qd_C_fillRest_77 : decode qc_C_fillRest 77 = .ok (.iload 9, 2) := by decide +kernel
theorem qd_C_fillRest_79 : decode qc_C_fillRest 79 = .ok (.iload_n 3, 1) := by decide +kernel
theorem qd_C_fillRest_80 : decode qc_C_fillRest 80 = .ok (.invokevirtual 80, 3) := by decide +kernel
theorem qd_C_fillRest_83 : decode qc_C_fillRest 83 = .ok (.goto 4, 3) := by decide +kernel
theorem qd_C_fillRest_86 : decode qc_C_fillRest 86 = .ok (.iconst 0, 1) := by decide +kernel
theorem qd_C_fillRest_87 : decode qc_C_fillRest 87 = .ok (.istore 11, 2) := by decide +kernel
theorem qd_C_fillRest_89 : decode qc_C_fillRest 89 = .ok (.iload 11, 2) := by decide +kernel
theorem qd_C_fillRest_91 : decode qc_C_fillRest 91 = .ok (.ifCond .le 49, 3) := by decide +kernel
theorem qd_C_fillRest_94 : decode qc_C_fillRest 94 = .ok (.aload_n 0, 1) := by decide +kernel
theorem qd_C_fillRest_95 : decode qc_C_fillRest 95 = .ok (.iload 4, 2) := by decide +kernel
theorem qd_C_fillRest_97 : decode qc_C_fillRest 97 = .ok (.iload_n 2, 1) := by decide +kernel
theorem qd_C_fillRest_98 : decode qc_C_fillRest 98 = .ok (.iload 9, 2) := by decide +kernel
theorem qd_C_fillRest_100 : decode qc_C_fillRest 100 = .ok (.invokevirtual 84, 3) := by decide +kernel
theorem qd_C_fillRest_103 : decode qc_C_fillRest 103 = .ok (.aload_n 0, 1) := by decide +kernel
theorem qd_C_fillRest_104 : decode qc_C_fillRest 104 = .ok (.iload 5, 2) := by decide +kernel
theorem qd_C_fillRest_106 : decode qc_C_fillRest 106 = .ok (.iload 9, 2) := by decide +kernel
theorem qd_C_fillRest_108 : decode qc_C_fillRest 108 = .ok (.iload_n 3, 1) := by decide +kernel
theorem qd_C_fillRest_109 : decode qc_C_fillRest 109 = .ok (.invokevirtual 84, 3) := by decide +kernel
theorem qd_C_fillRest_112 : decode qc_C_fillRest 112 = .ok (.iadd, 1) := by decide +kernel
theorem qd_C_fillRest_113 : decode qc_C_fillRest 113 = .ok (.istore 12, 2) := by decide +kernel
theorem qd_C_fillRest_115 : decode qc_C_fillRest 115 = .ok (.iload 6, 2) := by decide +kernel
theorem qd_C_fillRest_117 : decode qc_C_fillRest 117 = .ok (.i2l, 1) := by decide +kernel
theorem qd_C_fillRest_118 : decode qc_C_fillRest 118 = .ok (.iload 10, 2) := by decide +kernel
theorem qd_C_fillRest_120 : decode qc_C_fillRest 120 = .ok (.i2l, 1) := by decide +kernel
theorem qd_C_fillRest_121 : decode qc_C_fillRest 121 = .ok (.iload 11, 2) := by decide +kernel
theorem qd_C_fillRest_123 : decode qc_C_fillRest 123 = .ok (.i2l, 1) := by decide +kernel
theorem qd_C_fillRest_124 : decode qc_C_fillRest 124 = .ok (.lmul, 1) := by decide +kernel
theorem qd_C_fillRest_125 : decode qc_C_fillRest 125 = .ok (.ladd, 1) := by decide +kernel
theorem qd_C_fillRest_126 : decode qc_C_fillRest 126 = .ok (.invokestatic 99, 3) := by decide +kernel
theorem qd_C_fillRest_129 : decode qc_C_fillRest 129 = .ok (.istore 6, 2) := by decide +kernel
theorem qd_C_fillRest_131 : decode qc_C_fillRest 131 = .ok (.iload 7, 2) := by decide +kernel
theorem qd_C_fillRest_133 : decode qc_C_fillRest 133 = .ok (.iload 12, 2) := by decide +kernel
theorem qd_C_fillRest_135 : decode qc_C_fillRest 135 = .ok (.invokestatic 103, 3) := by decide +kernel
theorem qd_C_fillRest_138 : decode qc_C_fillRest 138 = .ok (.istore 7, 2) := by decide +kernel
theorem qd_C_fillRest_140 : decode qc_C_fillRest 140 = .ok (.iinc 9 1, 3) := by decide +kernel
theorem qd_C_fillRest_143 : decode qc_C_fillRest 143 = .ok (.goto (-92), 3) := by decide +kernel
theorem qd_C_fillRest_146 : decode qc_C_fillRest 146 = .ok (.iload_n 1, 1) := by decide +kernel
theorem qd_C_fillRest_147 : decode qc_C_fillRest 147 = .ok (.iload_n 2, 1) := by decide +kernel
theorem qd_C_fillRest_148 : decode qc_C_fillRest 148 = .ok (.invokestatic 93, 3) := by decide +kernel
theorem qd_C_fillRest_151 : decode qc_C_fillRest 151 = .ok (.istore 9, 2) := by decide +kernel
theorem qd_C_fillRest_153 : decode qc_C_fillRest 153 = .ok (.iload 9, 2) := by decide +kernel
theorem qd_C_fillRest_155 : decode qc_C_fillRest 155 = .ok (.ifCond .lt 41, 3) := by decide +kernel
theorem qd_C_fillRest_158 : decode qc_C_fillRest 158 = .ok (.iload 9, 2) := by decide +kernel
theorem qd_C_fillRest_160 : decode qc_C_fillRest 160 = .ok (.aload_n 0, 1) := by decide +kernel
theorem qd_C_fillRest_161 : decode qc_C_fillRest 161 = .ok (.getfield 18, 3) := by decide +kernel
theorem qd_C_fillRest_164 : decode qc_C_fillRest 164 = .ok (.arraylength, 1) := by decide +kernel
theorem qd_C_fillRest_165 : decode qc_C_fillRest 165 = .ok (.if_icmp .ge 31, 3) := by decide +kernel
theorem qd_C_fillRest_168 : decode qc_C_fillRest 168 = .ok (.iload 9, 2) := by decide +kernel
theorem qd_C_fillRest_170 : decode qc_C_fillRest 170 = .ok (.aload_n 0, 1) := by decide +kernel
theorem qd_C_fillRest_171 : decode qc_C_fillRest 171 = .ok (.getfield 21, 3) := by decide +kernel
theorem qd_C_fillRest_174 : decode qc_C_fillRest 174 = .ok (.arraylength, 1) := by decide +kernel
theorem qd_C_fillRest_175 : decode qc_C_fillRest 175 = .ok (.if_icmp .ge 21, 3) := by decide +kernel
theorem qd_C_fillRest_178 : decode qc_C_fillRest 178 = .ok (.aload_n 0, 1) := by decide +kernel
theorem qd_C_fillRest_179 : decode qc_C_fillRest 179 = .ok (.getfield 18, 3) := by decide +kernel
theorem qd_C_fillRest_182 : decode qc_C_fillRest 182 = .ok (.iload 9, 2) := by decide +kernel
theorem qd_C_fillRest_184 : decode qc_C_fillRest 184 = .ok (.iload 6, 2) := by decide +kernel
theorem qd_C_fillRest_186 : decode qc_C_fillRest 186 = .ok (.iastore, 1) := by decide +kernel
theorem qd_C_fillRest_187 : decode qc_C_fillRest 187 = .ok (.aload_n 0, 1) := by decide +kernel
theorem qd_C_fillRest_188 : decode qc_C_fillRest 188 = .ok (.getfield 21, 3) := by decide +kernel
theorem qd_C_fillRest_191 : decode qc_C_fillRest 191 = .ok (.iload 9, 2) := by decide +kernel
theorem qd_C_fillRest_193 : decode qc_C_fillRest 193 = .ok (.iload 7, 2) := by decide +kernel
theorem qd_C_fillRest_195 : decode qc_C_fillRest 195 = .ok (.iastore, 1) := by decide +kernel
theorem qd_C_fillRest_196 : decode qc_C_fillRest 196 = .ok (.return_, 1) := by decide +kernel
set_option maxHeartbeats 4000000 in
set_option maxRecDepth 100000 in
theorem c_C_fillRest (l : Launch) (dC : Nat → ClassId) (dI : Nat → Nat → Nat) (cA : ClassId) (N_ : Nat) (aC aCn aCc aCr aCs aG aGh aGi aGc aGo aGr aR aRt : Nat) (sz : Nat) (vCF : Int32) (vCn : (Nat → Int32)) (vCc : (Nat → Int32)) (vCr : (Nat → Int32)) (vCs : (Nat → Int32)) (vGF : Int32) (vGS : Int32) (vGi : (Nat → Int32)) (vRL : Int32) (vRt : (Nat → Int32)) (p0 : Int32) (p1 : Int32) (p2 : Int32) (ho : o_C_fillRest N_ vCn vCc vCr vCs vGS vGi vRL vRt p0 p1 p2) : Met l qy_C_fillRest qw_C_fillRest ({ frames := 2, cells := 0, slots := 0, locals := 46 }) (va_Pc [.ref aC, .int p0, .int p1, .int p2] (fun U => U.heap.size = sz ∧ xP (dC, dI) [(cA, .int)] [(aC, .inr (0, [.ref aG, .ref aR, .ref aCn, .ref aCc, .ref aCr, .ref aCs, .int vCF])), (aCn, .inl (cA, 5760, .inl (vCn))), (aCc, .inl (cA, 5760, .inl (vCc))), (aCr, .inl (cA, 600, .inl (vCr))), (aCs, .inl (cA, 600, .inl (vCs))), (aG, .inr (2, [.ref aGh, .ref aGi, .ref aGc, .ref aGo, .ref aGr, .int vGF, .int vGS])), (aGi, .inl (cA, 72, .inl (vGi))), (aR, .inr (4, [.ref aRt, .int vRL])), (aRt, .inl (cA, 24, .inl (vRt)))] nestN U ∧ va_D (fun _ => True) [(aC, .inr (0, [.ref aG, .ref aR, .ref aCn, .ref aCc, .ref aCr, .ref aCs, .int vCF])), (aCn, .inl (cA, 5760, .inl (vCn))), (aCc, .inl (cA, 5760, .inl (vCc))), (aCr, .inl (cA, 600, .inl (vCr))), (aCs, .inl (cA, 600, .inl (vCs))), (aG, .inr (2, [.ref aGh, .ref aGi, .ref aGc, .ref aGo, .ref aGr, .int vGF, .int vGS])), (aGi, .inl (cA, 72, .inl (vGi))), (aR, .inr (4, [.ref aRt, .int vRL])), (aRt, .inl (cA, 24, .inl (vRt)))])) (va_Qv (fun u => u = f_C_fillRest N_ vCn vCc vCr vCs vGS vGi vRL vRt p0 p1 p2) (fun (u : (Nat → Int32) × (Nat → Int32)) t => xP (dC, dI) [(cA, .int)] [(aC, .inr (0, [.ref aG, .ref aR, .ref aCn, .ref aCc, .ref aCr, .ref aCs, .int vCF])), (aCn, .inl (cA, 5760, .inl (vCn))), (aCc, .inl (cA, 5760, .inl (vCc))), (aCr, .inl (cA, 600, .inl (u.1))), (aCs, .inl (cA, 600, .inl (u.2))), (aG, .inr (2, [.ref aGh, .ref aGi, .ref aGc, .ref aGo, .ref aGr, .int vGF, .int vGS])), (aGi, .inl (cA, 72, .inl (vGi))), (aR, .inr (4, [.ref aRt, .int vRL])), (aRt, .inl (cA, 24, .inl (vRt)))] nestN t ∧ va_D (va_A [(aC, .inr (0, [.ref aG, .ref aR, .ref aCn, .ref aCc, .ref aCr, .ref aCs, .int vCF])), (aCn, .inl (cA, 5760, .inl (vCn))), (aCc, .inl (cA, 5760, .inl (vCc))), (aCr, .inl (cA, 600, .inl (vCr))), (aCs, .inl (cA, 600, .inl (vCs))), (aG, .inr (2, [.ref aGh, .ref aGi, .ref aGc, .ref aGo, .ref aGr, .int vGF, .int vGS])), (aGi, .inl (cA, 72, .inl (vGi))), (aR, .inr (4, [.ref aRt, .int vRL])), (aRt, .inl (cA, 24, .inl (vRt)))] sz) [(aC, .inr (0, [.ref aG, .ref aR, .ref aCn, .ref aCc, .ref aCr, .ref aCs, .int vCF])), (aCn, .inl (cA, 5760, .inl (vCn))), (aCc, .inl (cA, 5760, .inl (vCc))), (aCr, .inl (cA, 600, .inl (u.1))), (aCs, .inl (cA, 600, .inl (u.2))), (aG, .inr (2, [.ref aGh, .ref aGi, .ref aGc, .ref aGo, .ref aGr, .int vGF, .int vGS])), (aGi, .inl (cA, 72, .inl (vGi))), (aR, .inr (4, [.ref aRt, .int vRL])), (aRt, .inl (cA, 24, .inl (vRt)))]) (va_A [(aC, .inr (0, [.ref aG, .ref aR, .ref aCn, .ref aCc, .ref aCr, .ref aCs, .int vCF])), (aCn, .inl (cA, 5760, .inl (vCn))), (aCc, .inl (cA, 5760, .inl (vCc))), (aCr, .inl (cA, 600, .inl (vCr))), (aCs, .inl (cA, 600, .inl (vCs))), (aG, .inr (2, [.ref aGh, .ref aGi, .ref aGc, .ref aGo, .ref aGr, .int vGF, .int vGS])), (aGi, .inl (cA, 72, .inl (vGi))), (aR, .inr (4, [.ref aRt, .int vRL])), (aRt, .inl (cA, 24, .inl (vRt)))] sz)) 0 0 (va_A [(aC, .inr (0, [.ref aG, .ref aR, .ref aCn, .ref aCc, .ref aCr, .ref aCs, .int vCF])), (aCn, .inl (cA, 5760, .inl (vCn))), (aCc, .inl (cA, 5760, .inl (vCc))), (aCr, .inl (cA, 600, .inl (vCr))), (aCs, .inl (cA, 600, .inl (vCs))), (aG, .inr (2, [.ref aGh, .ref aGi, .ref aGc, .ref aGo, .ref aGr, .int vGF, .int vGS])), (aGi, .inl (cA, 72, .inl (vGi))), (aR, .inr (4, [.ref aRt, .int vRL])), (aRt, .inl (cA, 24, .inl (vRt)))] sz) := by
  refine Met.ofW (cc := qc_C_fillRest) (maxL := 13) (ret := (none)) (by decide) rfl ?_
  intro p e s m args below meth c s₁ B hml hv
  obtain ⟨rfl, hsz, ⟨hP, hK, hN⟩, hD0⟩ := hv
  have hx := B.exec
  have hb := B.bytes
  have hr := B.returns
  have hts := atoms_spec (ws := qw_C_fillRest) B.pre
  have hg : ∀ w ∈ gG, w.before _ s = true := fun w h => hts w (List.mem_cons_of_mem _ h)
  have hown : s.vm.findClass qR_C = some m.cls := findClass_of_methodNamed B.named
  have hlocks := B.notSynchronized
  subst hsz
  have hD := hD0.self (sz := s.heap.size)
  generalize hAe : va_A [(aC, .inr (0, [.ref aG, .ref aR, .ref aCn, .ref aCc, .ref aCr, .ref aCs, .int vCF])), (aCn, .inl (cA, 5760, .inl (vCn))), (aCc, .inl (cA, 5760, .inl (vCc))), (aCr, .inl (cA, 600, .inl (vCr))), (aCs, .inl (cA, 600, .inl (vCs))), (aG, .inr (2, [.ref aGh, .ref aGi, .ref aGc, .ref aGo, .ref aGr, .int vGF, .int vGS])), (aGi, .inl (cA, 72, .inl (vGi))), (aR, .inr (4, [.ref aRt, .int vRL])), (aRt, .inl (cA, 24, .inl (vRt)))] s.heap.size = A at hD ⊢
  have hA : ∀ q : Nat, s.heap.size ≤ q → A q := fun q h => by rw [← hAe]; exact Or.inr h
  have hS : va_S A s.heap s.heap [] := va_S.rf
  have hP : va_P (dC, dI) vwCl [(aC, .inr (0, [.ref aG, .ref aR, .ref aCn, .ref aCc, .ref aCr, .ref aCs, .int vCF])), (aCn, .inl (cA, 5760, .inl (vCn))), (aCc, .inl (cA, 5760, .inl (vCc))), (aCr, .inl (cA, 600, .inl (vCr))), (aCs, .inl (cA, 600, .inl (vCs))), (aG, .inr (2, [.ref aGh, .ref aGi, .ref aGc, .ref aGo, .ref aGr, .int vGF, .int vGS])), (aGi, .inl (cA, 72, .inl (vGi))), (aR, .inr (4, [.ref aRt, .int vRL])), (aRt, .inl (cA, 24, .inl (vRt)))] s.heap := hP
  have hl := lv_entry ([.ref aC, .int p0, .int p1, .int p2]) (n := 13) (Nat.le_of_ble_eq_true rfl)
  rw [lg_entry_eq]
  generalize (lg_sl ([.ref aC, .int p0, .int p1, .int p2]) ++ List.replicate (13 - (lg_sl ([.ref aC, .int p0, .int p1, .int p2])).length) Slot.unset).toArray = ls at hl ⊢
  have hl : lv_has ls 13 [(0, .ref aC), (1, .int p0), (2, .int p1), (3, .int p2)] := hl
  generalize hF : f_C_fillRest N_ vCn vCc vCr vCs vGS vGi vRL vRt p0 p1 p2 = Fv
  have hres : Fv = f_C_fillRest N_ vCn vCc vCr vCs vGS vGi vRL vRt p0 p1 p2 := hF.symm
  unfold f_C_fillRest at hres
  unfold o_C_fillRest at ho
  generalize hQ : MQ _ _ _ _ _ _ _ = Qg
  refine lv_aload_n hx hb qd_C_fillRest_0 rfl (lv_at hl 0 rfl) ?_
  refine va_get (D := (dC, dI)) (ci := 0) (v := .ref aG) (C := qR_C) (T := qT_C) (N := 7) hx hb hg qi_C hown hK hP 0 rfl rfl 0 (by decide) (hg _ mw_62) (fun _ h9 => h9) rfl qd_C_fillRest_1 ?_
  refine lv_iload_n hx hb qd_C_fillRest_4 rfl (lv_at hl 1 rfl) ?_
  refine lv_iconst (v := 1) hx hb qd_C_fillRest_5 (by decide) ?_
  obtain ⟨g_6, ho⟩ := ho
  refine xc_V (As := [.int p0, .int 1]) (rest := []) ⟨hx, hb, hml, hown, hg⟩ (c_G_item l dC dI cA aG aGh aGi aGc aGo aGr vGF vGS vGi p0 1 g_6) (cwV 2 hg (q_gV mw_375 mw_301 mw_302 mw_2 mw_303) rfl rfl rfl qh_G_item ⟨Nat.le_of_ble_eq_true rfl, Nat.le_of_ble_eq_true rfl⟩) hN hK hP [5, 6] rfl 0 2 rfl rfl rfl hl.1 rfl (Nat.le_of_ble_eq_true rfl) qd_C_fillRest_6 ⟨Nat.zero_le _, Nat.zero_le _⟩ ?_
  refine lv_topi (fun r_6 w_6 => ?_)
  have hres := hres.trans (bd_eq w_6)
  have ho := (bd_eq w_6).mp ho
  refine lv_istore (lv' := [(4, .int r_6), (0, .ref aC), (1, .int p0), (2, .int p1), (3, .int p2)]) hx hb qd_C_fillRest_9 hl (by decide) rfl (fun ls hl => ?_)
  refine lv_aload_n hx hb qd_C_fillRest_11 rfl (lv_at hl 1 rfl) ?_
  refine va_get (D := (dC, dI)) (ci := 0) (v := .ref aG) (C := qR_C) (T := qT_C) (N := 7) hx hb hg qi_C hown hK hP 0 rfl rfl 0 (by decide) (hg _ mw_62) (fun _ h9 => h9) rfl qd_C_fillRest_12 ?_
  refine lv_iload_n hx hb qd_C_fillRest_15 rfl (lv_at hl 2 rfl) ?_
  refine lv_iconst (v := 2) hx hb qd_C_fillRest_16 (by decide) ?_
  obtain ⟨g_17, ho⟩ := ho
  refine xc_V (As := [.int p0, .int 2]) (rest := []) ⟨hx, hb, hml, hown, hg⟩ (c_G_item l dC dI cA aG aGh aGi aGc aGo aGr vGF vGS vGi p0 2 g_17) (cwV 2 hg (q_gV mw_375 mw_301 mw_302 mw_2 mw_303) rfl rfl rfl qh_G_item ⟨Nat.le_of_ble_eq_true rfl, Nat.le_of_ble_eq_true rfl⟩) hN hK hP [5, 6] rfl 0 2 rfl rfl rfl hl.1 rfl (Nat.le_of_ble_eq_true rfl) qd_C_fillRest_17 ⟨Nat.zero_le _, Nat.zero_le _⟩ ?_
  refine lv_topi (fun r_17 w_17 => ?_)
  have hres := hres.trans (bd_eq w_17)
  have ho := (bd_eq w_17).mp ho
  refine lv_istore (lv' := [(5, .int r_17), (4, .int r_6), (0, .ref aC), (1, .int p0), (2, .int p1), (3, .int p2)]) hx hb qd_C_fillRest_20 hl (by decide) rfl (fun ls hl => ?_)
  refine lv_iconst (v := 0) hx hb qd_C_fillRest_22 (by decide) ?_
  refine lv_istore (lv' := [(6, .int 0), (5, .int r_17), (4, .int r_6), (0, .ref aC), (1, .int p0), (2, .int p1), (3, .int p2)]) hx hb qd_C_fillRest_23 hl (by decide) rfl (fun ls hl => ?_)
  refine lv_iconst (v := (-1)) hx hb qd_C_fillRest_25 (by decide) ?_
  refine lv_istore (lv' := [(7, .int ((-1))), (6, .int 0), (5, .int r_17), (4, .int r_6), (0, .ref aC), (1, .int p0), (2, .int p1), (3, .int p2)]) hx hb qd_C_fillRest_26 hl (by decide) rfl (fun ls hl => ?_)
  refine lv_aload_n hx hb qd_C_fillRest_28 rfl (lv_at hl 4 rfl) ?_
  refine va_get (D := (dC, dI)) (ci := 0) (v := .ref aG) (C := qR_C) (T := qT_C) (N := 7) hx hb hg qi_C hown hK hP 0 rfl rfl 0 (by decide) (hg _ mw_62) (fun _ h9 => h9) rfl qd_C_fillRest_29 ?_
  refine lv_iload_n hx hb qd_C_fillRest_32 rfl (lv_at hl 5 rfl) ?_
  refine lv_iload_n hx hb qd_C_fillRest_33 rfl (lv_at hl 7 rfl) ?_
  obtain ⟨g_34, ho⟩ := ho
  refine xc_V (As := [.int p0, .int p2]) (rest := []) ⟨hx, hb, hml, hown, hg⟩ (c_G_lastSecondEnd l dC dI cA aG aGh aGi aGc aGo aGr vGF vGS vGi p0 p2 g_34) (cwV 2 hg (q_gV mw_376 mw_377 mw_378 mw_2 mw_379) rfl rfl rfl qh_G_lastSecondEnd ⟨Nat.le_of_ble_eq_true rfl, Nat.le_of_ble_eq_true rfl⟩) hN hK hP [5, 6] rfl 0 2 rfl rfl rfl hl.1 rfl (Nat.le_of_ble_eq_true rfl) qd_C_fillRest_34 ⟨Nat.zero_le _, Nat.zero_le _⟩ ?_
  refine lv_topi (fun r_34 w_34 => ?_)
  have hres := hres.trans (bd_eq w_34)
  have ho := (bd_eq w_34).mp ho
  refine lv_istore (lv' := [(8, .int r_34), (7, .int ((-1))), (6, .int 0), (5, .int r_17), (4, .int r_6), (0, .ref aC), (1, .int p0), (2, .int p1), (3, .int p2)]) hx hb qd_C_fillRest_37 hl (by decide) rfl (fun ls hl => ?_)
  refine lv_aload_n hx hb qd_C_fillRest_39 rfl (lv_at hl 5 rfl) ?_
  refine va_get (D := (dC, dI)) (ci := 0) (v := .ref aG) (C := qR_C) (T := qT_C) (N := 7) hx hb hg qi_C hown hK hP 0 rfl rfl 0 (by decide) (hg _ mw_62) (fun _ h9 => h9) rfl qd_C_fillRest_40 ?_
  refine lv_iload_n hx hb qd_C_fillRest_43 rfl (lv_at hl 6 rfl) ?_
  refine lv_iload_n hx hb qd_C_fillRest_44 rfl (lv_at hl 7 rfl) ?_
  refine lv_iload_n hx hb qd_C_fillRest_45 rfl (lv_at hl 8 rfl) ?_
  obtain ⟨g_46, ho⟩ := ho
  refine xc_V (As := [.int p0, .int p1, .int p2]) (rest := []) ⟨hx, hb, hml, hown, hg⟩ (c_G_leastSecondEnd l dC dI cA aG aGh aGi aGc aGo aGr vGF vGS vGi p0 p1 p2 g_46) (cwV 3 hg (q_gV mw_380 mw_381 mw_382 mw_2 mw_383) rfl rfl rfl qh_G_leastSecondEnd ⟨Nat.le_of_ble_eq_true rfl, Nat.le_of_ble_eq_true rfl⟩) hN hK hP [5, 6] rfl 0 2 rfl rfl rfl hl.1 rfl (Nat.le_of_ble_eq_true rfl) qd_C_fillRest_46 ⟨Nat.zero_le _, Nat.zero_le _⟩ ?_
  refine lv_topi (fun r_46 w_46 => ?_)
  have hres := hres.trans (bd_eq w_46)
  have ho := (bd_eq w_46).mp ho
  refine lv_istore (lv' := [(9, .int r_46), (8, .int r_34), (7, .int ((-1))), (6, .int 0), (5, .int r_17), (4, .int r_6), (0, .ref aC), (1, .int p0), (2, .int p1), (3, .int p2)]) hx hb qd_C_fillRest_49 hl (by decide) rfl (fun ls hl => ?_)
  have L_51 : ∀ (K_ : Int32 → Int32 → Int32 → (Nat → Int32) × (Nat → Int32)) (Ko_ : Int32 → Int32 → Int32 → Prop) (hk : ∀ (x6_51 : Int32) (x7_51 : Int32) (x9_51 : Int32) (H : Heap) (locs : List Loc) (ls : Array Slot), va_P (dC, dI) vwCl [(aC, .inr (0, [.ref aG, .ref aR, .ref aCn, .ref aCc, .ref aCr, .ref aCs, .int vCF])), (aCn, .inl (cA, 5760, .inl (vCn))), (aCc, .inl (cA, 5760, .inl (vCc))), (aCr, .inl (cA, 600, .inl (vCr))), (aCs, .inl (cA, 600, .inl (vCs))), (aG, .inr (2, [.ref aGh, .ref aGi, .ref aGc, .ref aGo, .ref aGr, .int vGF, .int vGS])), (aGi, .inl (cA, 72, .inl (vGi))), (aR, .inr (4, [.ref aRt, .int vRL])), (aRt, .inl (cA, 24, .inl (vRt)))] H → va_D A [(aC, .inr (0, [.ref aG, .ref aR, .ref aCn, .ref aCc, .ref aCr, .ref aCs, .int vCF])), (aCn, .inl (cA, 5760, .inl (vCn))), (aCc, .inl (cA, 5760, .inl (vCc))), (aCr, .inl (cA, 600, .inl (vCr))), (aCs, .inl (cA, 600, .inl (vCs))), (aG, .inr (2, [.ref aGh, .ref aGi, .ref aGc, .ref aGo, .ref aGr, .int vGF, .int vGS])), (aGi, .inl (cA, 72, .inl (vGi))), (aR, .inr (4, [.ref aRt, .int vRL])), (aRt, .inl (cA, 24, .inl (vRt)))] → va_S A s.heap H locs → lv_has ls 13 [(9, .int x9_51), (8, .int r_34), (7, .int x7_51), (6, .int x6_51), (5, .int r_17), (4, .int r_6), (0, .ref aC), (1, .int p0), (2, .int p1), (3, .int p2)] → Fv = K_ x6_51 x7_51 x9_51 → Ko_ x6_51 x7_51 x9_51 → W p l e ({ frames := 2, cells := 0, slots := 0, locals := 46 } : Room) s m (([.ref aC, .int p0, .int p1, .int p2] : List Value).toArray) below meth c H locs 0 0 Qg (F0 m 146 ls [])) (n : Nat) (x6_51 : Int32) (x7_51 : Int32) (x9_51 : Int32) (H : Heap) (locs : List Loc) (ls : Array Slot), va_P (dC, dI) vwCl [(aC, .inr (0, [.ref aG, .ref aR, .ref aCn, .ref aCc, .ref aCr, .ref aCs, .int vCF])), (aCn, .inl (cA, 5760, .inl (vCn))), (aCc, .inl (cA, 5760, .inl (vCc))), (aCr, .inl (cA, 600, .inl (vCr))), (aCs, .inl (cA, 600, .inl (vCs))), (aG, .inr (2, [.ref aGh, .ref aGi, .ref aGc, .ref aGo, .ref aGr, .int vGF, .int vGS])), (aGi, .inl (cA, 72, .inl (vGi))), (aR, .inr (4, [.ref aRt, .int vRL])), (aRt, .inl (cA, 24, .inl (vRt)))] H → va_D A [(aC, .inr (0, [.ref aG, .ref aR, .ref aCn, .ref aCc, .ref aCr, .ref aCs, .int vCF])), (aCn, .inl (cA, 5760, .inl (vCn))), (aCc, .inl (cA, 5760, .inl (vCc))), (aCr, .inl (cA, 600, .inl (vCr))), (aCs, .inl (cA, 600, .inl (vCs))), (aG, .inr (2, [.ref aGh, .ref aGi, .ref aGc, .ref aGo, .ref aGr, .int vGF, .int vGS])), (aGi, .inl (cA, 72, .inl (vGi))), (aR, .inr (4, [.ref aRt, .int vRL])), (aRt, .inl (cA, 24, .inl (vRt)))] → va_S A s.heap H locs → lv_has ls 13 [(9, .int x9_51), (8, .int r_34), (7, .int x7_51), (6, .int x6_51), (5, .int r_17), (4, .int r_6), (0, .ref aC), (1, .int p0), (2, .int p1), (3, .int p2)] → Fv = l_C_fillRest_51 p1 p2 r_6 r_17 r_34 vCn vCc vRL vRt K_ n x6_51 x7_51 x9_51 → ol_C_fillRest_51 p1 p2 r_6 r_17 r_34 vCn vCc vRL vRt Ko_ n x6_51 x7_51 x9_51 → W p l e ({ frames := 2, cells := 0, slots := 0, locals := 46 } : Room) s m (([.ref aC, .int p0, .int p1, .int p2] : List Value).toArray) below meth c H locs 0 0 Qg (F0 m 51 ls []) := by
    intro K_ Ko_ hk n
    induction n with
    | zero => intro x6_51 x7_51 x9_51 H locs ls hP hD hS hl hres ho; exact ho.elim
    | succ n ih =>
      intro x6_51 x7_51 x9_51 H locs ls hP hD hS hl hres ho
      rw [l_C_fillRest_51, s_C_fillRest_51] at hres
      rw [ol_C_fillRest_51, os_C_fillRest_51] at ho
      refine lv_iload hx hb qd_C_fillRest_51 (lv_at hl 0 rfl) ?_
      refine lv_iload hx hb qd_C_fillRest_53 (lv_at hl 1 rfl) ?_
      refine lv_icmp_gt (tgt := 146) hx hb qd_C_fillRest_55 (by decide) (fun c_55 => ?_) (fun c_55 => ?_)
      · have hres := hres.trans (if_pos c_55)
        have ho := (if_pos c_55).mp ho
        exact hk x6_51 x7_51 x9_51 H locs ls hP hD hS (lv_sub hl [0, 1, 2, 3, 4, 5, 6, 7, 8, 9] rfl) hres ho
      have hres := hres.trans (if_neg c_55)
      have ho := (if_neg c_55).mp ho
      refine lv_aload_n hx hb qd_C_fillRest_58 rfl (lv_at hl 6 rfl) ?_
      refine lv_iload hx hb qd_C_fillRest_59 (lv_at hl 5 rfl) ?_
      refine lv_iload_n hx hb qd_C_fillRest_61 rfl (lv_at hl 8 rfl) ?_
      refine lv_iload hx hb qd_C_fillRest_62 (lv_at hl 0 rfl) ?_
      obtain ⟨g_64, ho⟩ := ho
      refine xc_V (As := [.int r_6, .int p1, .int x9_51]) (rest := []) ⟨hx, hb, hml, hown, hg⟩ (c_C_trees l dC dI cA aC aCn aCc aCr aCs aG aR aRt vCF vCn vRL vRt r_6 p1 x9_51 g_64) (cwV 3 hg (q_gV mw_384 mw_385 mw_386 mw_4 mw_387) rfl rfl rfl qh_C_trees ⟨Nat.le_of_ble_eq_true rfl, Nat.le_of_ble_eq_true rfl⟩) hN hK hP [0, 1, 7, 8] rfl 0 0 rfl rfl rfl hl.1 rfl (Nat.le_of_ble_eq_true rfl) qd_C_fillRest_64 ⟨Nat.zero_le _, Nat.zero_le _⟩ ?_
      refine lv_topi (fun r_64 w_64 => ?_)
      have hres := hres.trans (bd_eq w_64)
      have ho := (bd_eq w_64).mp ho
      refine lv_istore (lv' := [(10, .int r_64), (9, .int x9_51), (8, .int r_34), (7, .int x7_51), (6, .int x6_51), (5, .int r_17), (4, .int r_6), (0, .ref aC), (1, .int p0), (2, .int p1), (3, .int p2)]) hx hb qd_C_fillRest_67 hl (by decide) rfl (fun ls hl => ?_)
      refine lv_iload hx hb qd_C_fillRest_69 (lv_at hl 0 rfl) ?_
      refine lv_if_le (tgt := 86) hx hb qd_C_fillRest_71 (by decide) (fun c_71 => ?_) (fun c_71 => ?_)
      · have hres := hres.trans (if_pos c_71)
        have ho := (if_pos c_71).mp ho
        refine lv_iconst (v := 0) hx hb qd_C_fillRest_86 (by decide) ?_
        refine lv_istore (lv' := [(11, .int 0), (10, .int r_64), (9, .int x9_51), (8, .int r_34), (7, .int x7_51), (6, .int x6_51), (5, .int r_17), (4, .int r_6), (0, .ref aC), (1, .int p0), (2, .int p1), (3, .int p2)]) hx hb qd_C_fillRest_87 hl (by decide) rfl (fun ls hl => ?_)
        refine lv_iload hx hb qd_C_fillRest_89 (lv_at hl 0 rfl) ?_
        refine lv_if_le (tgt := 140) hx hb qd_C_fillRest_91 (by decide) (fun c_91 => ?_) (fun c_91 => ?_)
        rotate_left
        · exact absurd (by decide) c_91
        refine lv_iinc (v := x9_51 + 1) (lv' := [(9, .int (x9_51 + 1)), (11, .int 0), (10, .int r_64), (8, .int r_34), (7, .int x7_51), (6, .int x6_51), (5, .int r_17), (4, .int r_6), (0, .ref aC), (1, .int p0), (2, .int p1), (3, .int p2)]) hx hb qd_C_fillRest_140 hl (k := 2) rfl (congrArg (fun z => _ + z) (by decide)) (by decide) rfl (fun ls hl => ?_)
        refine lv_goto (tgt := 51) hx hb qd_C_fillRest_143 (by decide) ?_
        exact ih x6_51 x7_51 (x9_51 + 1) H locs ls hP hD hS (lv_sub hl [0, 3, 4, 5, 6, 7, 8, 9, 10, 11] rfl) hres ho
      have hres := hres.trans (if_neg c_71)
      have ho := (if_neg c_71).mp ho
      refine lv_aload_n hx hb qd_C_fillRest_74 rfl (lv_at hl 7 rfl) ?_
      refine lv_iload hx hb qd_C_fillRest_75 (lv_at hl 5 rfl) ?_
      refine lv_iload hx hb qd_C_fillRest_77 (lv_at hl 1 rfl) ?_
      refine lv_iload_n hx hb qd_C_fillRest_79 rfl (lv_at hl 10 rfl) ?_
      obtain ⟨g_80, ho⟩ := ho
      refine xc_V (As := [.int r_17, .int x9_51, .int p2]) (rest := []) ⟨hx, hb, hml, hown, hg⟩ (c_C_trees l dC dI cA aC aCn aCc aCr aCs aG aR aRt vCF vCn vRL vRt r_17 x9_51 p2 g_80) (cwV 3 hg (q_gV mw_384 mw_385 mw_386 mw_4 mw_387) rfl rfl rfl qh_C_trees ⟨Nat.le_of_ble_eq_true rfl, Nat.le_of_ble_eq_true rfl⟩) hN hK hP [0, 1, 7, 8] rfl 0 0 rfl rfl rfl hl.1 rfl (Nat.le_of_ble_eq_true rfl) qd_C_fillRest_80 ⟨Nat.zero_le _, Nat.zero_le _⟩ ?_
      refine lv_topi (fun r_80 w_80 => ?_)
      have hres := hres.trans (bd_eq w_80)
      have ho := (bd_eq w_80).mp ho
      refine lv_goto (tgt := 87) hx hb qd_C_fillRest_83 (by decide) ?_
      refine lv_istore (lv' := [(11, .int r_80), (10, .int r_64), (9, .int x9_51), (8, .int r_34), (7, .int x7_51), (6, .int x6_51), (5, .int r_17), (4, .int r_6), (0, .ref aC), (1, .int p0), (2, .int p1), (3, .int p2)]) hx hb qd_C_fillRest_87 hl (by decide) rfl (fun ls hl => ?_)
      refine lv_iload hx hb qd_C_fillRest_89 (lv_at hl 0 rfl) ?_
      refine lv_if_le (tgt := 140) hx hb qd_C_fillRest_91 (by decide) (fun c_91 => ?_) (fun c_91 => ?_)
      · have hres := hres.trans (if_pos c_91)
        have ho := (if_pos c_91).mp ho
        refine lv_iinc (v := x9_51 + 1) (lv' := [(9, .int (x9_51 + 1)), (11, .int r_80), (10, .int r_64), (8, .int r_34), (7, .int x7_51), (6, .int x6_51), (5, .int r_17), (4, .int r_6), (0, .ref aC), (1, .int p0), (2, .int p1), (3, .int p2)]) hx hb qd_C_fillRest_140 hl (k := 2) rfl (congrArg (fun z => _ + z) (by decide)) (by decide) rfl (fun ls hl => ?_)
        refine lv_goto (tgt := 51) hx hb qd_C_fillRest_143 (by decide) ?_
        exact ih x6_51 x7_51 (x9_51 + 1) H locs ls hP hD hS (lv_sub hl [0, 3, 4, 5, 6, 7, 8, 9, 10, 11] rfl) hres ho
      have hres := hres.trans (if_neg c_91)
      have ho := (if_neg c_91).mp ho
      refine lv_aload_n hx hb qd_C_fillRest_94 rfl (lv_at hl 8 rfl) ?_
      refine lv_iload hx hb qd_C_fillRest_95 (lv_at hl 7 rfl) ?_
      refine lv_iload_n hx hb qd_C_fillRest_97 rfl (lv_at hl 10 rfl) ?_
      refine lv_iload hx hb qd_C_fillRest_98 (lv_at hl 2 rfl) ?_
      obtain ⟨g_100, ho⟩ := ho
      refine xc_V (As := [.int r_6, .int p1, .int x9_51]) (rest := []) ⟨hx, hb, hml, hown, hg⟩ (c_C_leastCost l dC dI cA aC aCn aCc aCr aCs aG aR vCF vCc r_6 p1 x9_51 g_100) (cwV 3 hg (q_gV mw_395 mw_396 mw_397 mw_4 mw_398) rfl rfl rfl qh_C_leastCost ⟨Nat.le_of_ble_eq_true rfl, Nat.le_of_ble_eq_true rfl⟩) hN hK hP [0, 2] rfl 0 0 rfl rfl rfl hl.1 rfl (Nat.le_of_ble_eq_true rfl) qd_C_fillRest_100 ⟨Nat.zero_le _, Nat.zero_le _⟩ ?_
      refine lv_topi (fun r_100 w_100 => ?_)
      have hres := hres.trans (bd_eq w_100)
      have ho := (bd_eq w_100).mp ho
      refine lv_aload_n hx hb qd_C_fillRest_103 rfl (lv_at hl 8 rfl) ?_
      refine lv_iload hx hb qd_C_fillRest_104 (lv_at hl 6 rfl) ?_
      refine lv_iload hx hb qd_C_fillRest_106 (lv_at hl 2 rfl) ?_
      refine lv_iload_n hx hb qd_C_fillRest_108 rfl (lv_at hl 11 rfl) ?_
      obtain ⟨g_109, ho⟩ := ho
      refine xc_V (As := [.int r_17, .int x9_51, .int p2]) (rest := [.int r_100]) ⟨hx, hb, hml, hown, hg⟩ (c_C_leastCost l dC dI cA aC aCn aCc aCr aCs aG aR vCF vCc r_17 x9_51 p2 g_109) (cwV 3 hg (q_gV mw_395 mw_396 mw_397 mw_4 mw_398) rfl rfl rfl qh_C_leastCost ⟨Nat.le_of_ble_eq_true rfl, Nat.le_of_ble_eq_true rfl⟩) hN hK hP [0, 2] rfl 0 0 rfl rfl rfl hl.1 rfl (Nat.le_of_ble_eq_true rfl) qd_C_fillRest_109 ⟨Nat.zero_le _, Nat.zero_le _⟩ ?_
      refine lv_topi (fun r_109 w_109 => ?_)
      have hres := hres.trans (bd_eq w_109)
      have ho := (bd_eq w_109).mp ho
      refine lv_iadd hx hb qd_C_fillRest_112 ?_
      refine lv_istore (lv' := [(12, .int (r_100 + r_109)), (11, .int r_80), (10, .int r_64), (9, .int x9_51), (8, .int r_34), (7, .int x7_51), (6, .int x6_51), (5, .int r_17), (4, .int r_6), (0, .ref aC), (1, .int p0), (2, .int p1), (3, .int p2)]) hx hb qd_C_fillRest_113 hl (by decide) rfl (fun ls hl => ?_)
      refine lv_iload hx hb qd_C_fillRest_115 (lv_at hl 6 rfl) ?_
      refine lv_i2l hx hb qd_C_fillRest_117 rfl ?_
      refine lv_iload hx hb qd_C_fillRest_118 (lv_at hl 2 rfl) ?_
      refine lv_i2l hx hb qd_C_fillRest_120 rfl ?_
      refine lv_iload hx hb qd_C_fillRest_121 (lv_at hl 1 rfl) ?_
      refine lv_i2l hx hb qd_C_fillRest_123 rfl ?_
      refine lv_lmul hx hb qd_C_fillRest_124 ?_
      refine lv_ladd hx hb qd_C_fillRest_125 ?_
      refine xc_N (As := [.long (x6_51.toInt64 + (r_64.toInt64 * r_80.toInt64))]) (rest := []) ⟨hx, hb, hml, hown, hg⟩ (c_H_atMostMany l dC dI cA (x6_51.toInt64 + (r_64.toInt64 * r_80.toInt64))) (⟨va_cnB 1 hg (q_gC mw_400) rfl rfl rfl (hN _ nw_6) (hg _ mw_1) qh_H_atMostMany.2 ⟨Nat.le_of_ble_eq_true rfl, Nat.le_of_ble_eq_true rfl⟩, hg _ mw_399, trivial⟩) hN hK hP [] rfl rfl hl.1 rfl (Nat.le_of_ble_eq_true rfl) qd_C_fillRest_126 ⟨Nat.zero_le _, Nat.zero_le _⟩ ?_
      refine lv_topi (fun r_126 w_126 => ?_)
      have hres := hres.trans (bd_eq w_126)
      have ho := (bd_eq w_126).mp ho
      refine lv_istore (lv' := [(6, .int r_126), (12, .int (r_100 + r_109)), (11, .int r_80), (10, .int r_64), (9, .int x9_51), (8, .int r_34), (7, .int x7_51), (5, .int r_17), (4, .int r_6), (0, .ref aC), (1, .int p0), (2, .int p1), (3, .int p2)]) hx hb qd_C_fillRest_129 hl (by decide) rfl (fun ls hl => ?_)
      refine lv_iload hx hb qd_C_fillRest_131 (lv_at hl 6 rfl) ?_
      refine lv_iload hx hb qd_C_fillRest_133 (lv_at hl 1 rfl) ?_
      refine xc_S (As := [.int x7_51, .int (r_100 + r_109)]) (rest := []) ⟨hx, hb, hml, hown, hg⟩ (c_C_cheaper l dC dI cA x7_51 (r_100 + r_109)) (va_cwS 2 hg (q_gS mw_403 mw_404 mw_4 mw_405) rfl rfl rfl qh_C_cheaper.2 ⟨Nat.le_of_ble_eq_true rfl, Nat.le_of_ble_eq_true rfl⟩) hN hK hP [] rfl rfl hl.1 rfl (Nat.le_of_ble_eq_true rfl) qd_C_fillRest_135 ⟨Nat.zero_le _, Nat.zero_le _⟩ ?_
      refine lv_topi (fun r_135 w_135 => ?_)
      have hres := hres.trans (bd_eq w_135)
      have ho := (bd_eq w_135).mp ho
      refine lv_istore (lv' := [(7, .int r_135), (6, .int r_126), (12, .int (r_100 + r_109)), (11, .int r_80), (10, .int r_64), (9, .int x9_51), (8, .int r_34), (5, .int r_17), (4, .int r_6), (0, .ref aC), (1, .int p0), (2, .int p1), (3, .int p2)]) hx hb qd_C_fillRest_138 hl (by decide) rfl (fun ls hl => ?_)
      refine lv_iinc (v := x9_51 + 1) (lv' := [(9, .int (x9_51 + 1)), (7, .int r_135), (6, .int r_126), (12, .int (r_100 + r_109)), (11, .int r_80), (10, .int r_64), (8, .int r_34), (5, .int r_17), (4, .int r_6), (0, .ref aC), (1, .int p0), (2, .int p1), (3, .int p2)]) hx hb qd_C_fillRest_140 hl (k := 5) rfl (congrArg (fun z => _ + z) (by decide)) (by decide) rfl (fun ls hl => ?_)
      refine lv_goto (tgt := 51) hx hb qd_C_fillRest_143 (by decide) ?_
      exact ih r_126 r_135 (x9_51 + 1) H locs ls hP hD hS (lv_sub hl [0, 6, 1, 2, 7, 8, 9, 10, 11, 12] rfl) hres ho
  refine L_51 _ _ (fun x6_51 x7_51 x9_51 H locs ls hP hD hS hl hres ho => ?_) _ _ _ _ _ _ ls hP hD hS hl hres ho
  refine lv_iload_n hx hb qd_C_fillRest_146 rfl (lv_at hl 7 rfl) ?_
  refine lv_iload_n hx hb qd_C_fillRest_147 rfl (lv_at hl 8 rfl) ?_
  refine xc_S (As := [.int p0, .int p1]) (rest := []) ⟨hx, hb, hml, hown, hg⟩ (c_C_restCell l dC dI cA p0 p1) (va_cwS 2 hg (q_gS mw_406 mw_407 mw_4 mw_408) rfl rfl rfl qh_C_restCell.2 ⟨Nat.le_of_ble_eq_true rfl, Nat.le_of_ble_eq_true rfl⟩) hN hK hP [] rfl rfl hl.1 rfl (Nat.le_of_ble_eq_true rfl) qd_C_fillRest_148 ⟨Nat.zero_le _, Nat.zero_le _⟩ ?_
  refine lv_topi (fun r_148 w_148 => ?_)
  have hres := hres.trans (bd_eq w_148)
  have ho := (bd_eq w_148).mp ho
  refine lv_istore (lv' := [(9, .int r_148), (8, .int r_34), (7, .int x7_51), (6, .int x6_51), (5, .int r_17), (4, .int r_6), (0, .ref aC), (1, .int p0), (2, .int p1), (3, .int p2)]) hx hb qd_C_fillRest_151 hl (by decide) rfl (fun ls hl => ?_)
  refine lv_iload hx hb qd_C_fillRest_153 (lv_at hl 0 rfl) ?_
  refine lv_if_lt (tgt := 196) hx hb qd_C_fillRest_155 (by decide) (fun c_155 => ?_) (fun c_155 => ?_)
  · have hres := hres.trans (if_pos c_155)
    have ho := (if_pos c_155).mp ho
    subst hQ
    exact W.vret hx hb hr (fun t ht hW => ⟨⟨(vCr, vCs), rfl, hres.symm, ⟨by rw [ht]; exact hP, va_K.moved hW.alike hK, x_N hN hW⟩, hD⟩, hS.F ht⟩) hS.2.2 qd_C_fillRest_196
  have hres := hres.trans (if_neg c_155)
  have ho := (if_neg c_155).mp ho
  refine lv_iload hx hb qd_C_fillRest_158 (lv_at hl 0 rfl) ?_
  refine lv_aload_n hx hb qd_C_fillRest_160 rfl (lv_at hl 6 rfl) ?_
  refine va_get (D := (dC, dI)) (ci := 0) (v := .ref aCr) (C := qR_C) (T := qT_C) (N := 7) hx hb hg qi_C hown hK hP 0 rfl rfl 4 (by decide) (hg _ mw_66) (fun _ h9 => h9) rfl qd_C_fillRest_161 ?_
  refine va_alen (v := 600) hx hb hK hP 3 0 rfl rfl (show Int32.ofNat 600 = 600 by decide) qd_C_fillRest_164 ?_
  refine lv_icmp_ge (tgt := 196) hx hb qd_C_fillRest_165 (by decide) (fun c_165 => ?_) (fun c_165 => ?_)
  · have hres := hres.trans (if_pos c_165)
    have ho := (if_pos c_165).mp ho
    subst hQ
    exact W.vret hx hb hr (fun t ht hW => ⟨⟨(vCr, vCs), rfl, hres.symm, ⟨by rw [ht]; exact hP, va_K.moved hW.alike hK, x_N hN hW⟩, hD⟩, hS.F ht⟩) hS.2.2 qd_C_fillRest_196
  have hres := hres.trans (if_neg c_165)
  have ho := (if_neg c_165).mp ho
  refine lv_iload hx hb qd_C_fillRest_168 (lv_at hl 0 rfl) ?_
  refine lv_aload_n hx hb qd_C_fillRest_170 rfl (lv_at hl 6 rfl) ?_
  refine va_get (D := (dC, dI)) (ci := 0) (v := .ref aCs) (C := qR_C) (T := qT_C) (N := 7) hx hb hg qi_C hown hK hP 0 rfl rfl 5 (by decide) (hg _ mw_67) (fun _ h9 => h9) rfl qd_C_fillRest_171 ?_
  refine va_alen (v := 600) hx hb hK hP 4 0 rfl rfl (show Int32.ofNat 600 = 600 by decide) qd_C_fillRest_174 ?_
  refine lv_icmp_ge (tgt := 196) hx hb qd_C_fillRest_175 (by decide) (fun c_175 => ?_) (fun c_175 => ?_)
  · exact absurd c_175 c_165
  refine lv_aload_n hx hb qd_C_fillRest_178 rfl (lv_at hl 6 rfl) ?_
  refine va_get (D := (dC, dI)) (ci := 0) (v := .ref aCr) (C := qR_C) (T := qT_C) (N := 7) hx hb hg qi_C hown hK hP 0 rfl rfl 4 (by decide) (hg _ mw_66) (fun _ h9 => h9) rfl qd_C_fillRest_179 ?_
  refine lv_iload hx hb qd_C_fillRest_182 (lv_at hl 0 rfl) ?_
  refine lv_iload hx hb qd_C_fillRest_184 (lv_at hl 3 rfl) ?_
  obtain ⟨g_186, ho⟩ := ho
  refine va_iast hx hb hK hP hD hS 3 0 rfl rfl g_186 qd_C_fillRest_186 (fun H locs hP hD hS => ?_)
  have hP : va_P (dC, dI) vwCl [(aC, .inr (0, [.ref aG, .ref aR, .ref aCn, .ref aCc, .ref aCr, .ref aCs, .int vCF])), (aCn, .inl (cA, 5760, .inl (vCn))), (aCc, .inl (cA, 5760, .inl (vCc))), (aCr, .inl (cA, 600, .inl (upd vCr r_148.toNatClampNeg x6_51))), (aCs, .inl (cA, 600, .inl (vCs))), (aG, .inr (2, [.ref aGh, .ref aGi, .ref aGc, .ref aGo, .ref aGr, .int vGF, .int vGS])), (aGi, .inl (cA, 72, .inl (vGi))), (aR, .inr (4, [.ref aRt, .int vRL])), (aRt, .inl (cA, 24, .inl (vRt)))] H := hP
  have hD : va_D A [(aC, .inr (0, [.ref aG, .ref aR, .ref aCn, .ref aCc, .ref aCr, .ref aCs, .int vCF])), (aCn, .inl (cA, 5760, .inl (vCn))), (aCc, .inl (cA, 5760, .inl (vCc))), (aCr, .inl (cA, 600, .inl (upd vCr r_148.toNatClampNeg x6_51))), (aCs, .inl (cA, 600, .inl (vCs))), (aG, .inr (2, [.ref aGh, .ref aGi, .ref aGc, .ref aGo, .ref aGr, .int vGF, .int vGS])), (aGi, .inl (cA, 72, .inl (vGi))), (aR, .inr (4, [.ref aRt, .int vRL])), (aRt, .inl (cA, 24, .inl (vRt)))] := hD
  refine lv_aload_n hx hb qd_C_fillRest_187 rfl (lv_at hl 6 rfl) ?_
  refine va_get (D := (dC, dI)) (ci := 0) (v := .ref aCs) (C := qR_C) (T := qT_C) (N := 7) hx hb hg qi_C hown hK hP 0 rfl rfl 5 (by decide) (hg _ mw_67) (fun _ h9 => h9) rfl qd_C_fillRest_188 ?_
  refine lv_iload hx hb qd_C_fillRest_191 (lv_at hl 0 rfl) ?_
  refine lv_iload hx hb qd_C_fillRest_193 (lv_at hl 2 rfl) ?_
  obtain ⟨g_195, ho⟩ := ho
  refine va_iast hx hb hK hP hD hS 4 0 rfl rfl g_195 qd_C_fillRest_195 (fun H locs hP hD hS => ?_)
  have hP : va_P (dC, dI) vwCl [(aC, .inr (0, [.ref aG, .ref aR, .ref aCn, .ref aCc, .ref aCr, .ref aCs, .int vCF])), (aCn, .inl (cA, 5760, .inl (vCn))), (aCc, .inl (cA, 5760, .inl (vCc))), (aCr, .inl (cA, 600, .inl (upd vCr r_148.toNatClampNeg x6_51))), (aCs, .inl (cA, 600, .inl (upd vCs r_148.toNatClampNeg x7_51))), (aG, .inr (2, [.ref aGh, .ref aGi, .ref aGc, .ref aGo, .ref aGr, .int vGF, .int vGS])), (aGi, .inl (cA, 72, .inl (vGi))), (aR, .inr (4, [.ref aRt, .int vRL])), (aRt, .inl (cA, 24, .inl (vRt)))] H := hP
  have hD : va_D A [(aC, .inr (0, [.ref aG, .ref aR, .ref aCn, .ref aCc, .ref aCr, .ref aCs, .int vCF])), (aCn, .inl (cA, 5760, .inl (vCn))), (aCc, .inl (cA, 5760, .inl (vCc))), (aCr, .inl (cA, 600, .inl (upd vCr r_148.toNatClampNeg x6_51))), (aCs, .inl (cA, 600, .inl (upd vCs r_148.toNatClampNeg x7_51))), (aG, .inr (2, [.ref aGh, .ref aGi, .ref aGc, .ref aGo, .ref aGr, .int vGF, .int vGS])), (aGi, .inl (cA, 72, .inl (vGi))), (aR, .inr (4, [.ref aRt, .int vRL])), (aRt, .inl (cA, 24, .inl (vRt)))] := hD
  subst hQ
  exact W.vret hx hb hr (fun t ht hW => ⟨⟨(upd vCr r_148.toNatClampNeg x6_51, upd vCs r_148.toNatClampNeg x7_51), rfl, hres.symm, ⟨by rw [ht]; exact hP, va_K.moved hW.alike hK, x_N hN hW⟩, hD⟩, hS.F ht⟩) hS.2.2 qd_C_fillRest_196
theorem qd_C_fillRests_0 : decode qc_C_fillRests 0 = .ok (.iconst 0, 1) := by decide +kernel
theorem qd_C_fillRests_1 : decode qc_C_fillRests 1 = .ok (.istore_n 3, 1) := by decide +kernel
theorem qd_C_fillRests_2 : decode qc_C_fillRests 2 = .ok (.iload_n 3, 1) := by decide +kernel
theorem qd_C_fillRests_3 : decode qc_C_fillRests 3 = .ok (.aload_n 0, 1) := by decide +kernel
theorem qd_C_fillRests_4 : decode qc_C_fillRests 4 = .ok (.getfield 28, 3) := by decide +kernel
theorem qd_C_fillRests_7 : decode qc_C_fillRests 7 = .ok (.invokevirtual 60, 3) := by decide +kernel
theorem qd_C_fillRests_10 : decode qc_C_fillRests 10 = .ok (.if_icmp .ge 16, 3) := by decide +kernel
theorem qd_C_fillRests_13 : decode qc_C_fillRests 13 = .ok (.aload_n 0, 1) := by decide +kernel
theorem qd_C_fillRests_14 : decode qc_C_fillRests 14 = .ok (.iload_n 3, 1) := by decide +kernel
theorem qd_C_fillRests_15 : decode qc_C_fillRests 15 = .ok (.iload_n 1, 1) := by decide +kernel
theorem qd_C_fillRests_16 : decode qc_C_fillRests 16 = .ok (.iload_n 2, 1) := by decide +kernel
theorem qd_C_fillRests_17 : decode qc_C_fillRests 17 = .ok (.invokevirtual 106, 3) := by decide +kernel
theorem qd_C_fillRests_20 : decode qc_C_fillRests 20 = .ok (.iinc 3 1, 3) := by decide +kernel
theorem qd_C_fillRests_23 : decode qc_C_fillRests 23 = .ok (.goto (-21), 3) := by decide +kernel
theorem qd_C_fillRests_26 : decode qc_C_fillRests 26 = .ok (.return_, 1) := by decide +kernel
set_option maxHeartbeats 4000000 in
set_option maxRecDepth 100000 in
theorem c_C_fillRests (l : Launch) (dC : Nat → ClassId) (dI : Nat → Nat → Nat) (cA : ClassId) (N_ : Nat) (aC aCn aCc aCr aCs aG aGh aGi aGc aGo aGr aR aRt : Nat) (sz : Nat) (vCF : Int32) (vCn : (Nat → Int32)) (vCc : (Nat → Int32)) (vCr : (Nat → Int32)) (vCs : (Nat → Int32)) (vGF : Int32) (vGS : Int32) (vGi : (Nat → Int32)) (vRL : Int32) (vRt : (Nat → Int32)) (p0 : Int32) (p1 : Int32) (ho : o_C_fillRests N_ vCn vCc vCr vCs vGS vGi vRL vRt p0 p1) : Met l qy_C_fillRests qw_C_fillRests ({ frames := 3, cells := 0, slots := 0, locals := 78 }) (va_Pc [.ref aC, .int p0, .int p1] (fun U => U.heap.size = sz ∧ xP (dC, dI) [(cA, .int)] [(aC, .inr (0, [.ref aG, .ref aR, .ref aCn, .ref aCc, .ref aCr, .ref aCs, .int vCF])), (aCn, .inl (cA, 5760, .inl (vCn))), (aCc, .inl (cA, 5760, .inl (vCc))), (aCr, .inl (cA, 600, .inl (vCr))), (aCs, .inl (cA, 600, .inl (vCs))), (aG, .inr (2, [.ref aGh, .ref aGi, .ref aGc, .ref aGo, .ref aGr, .int vGF, .int vGS])), (aGi, .inl (cA, 72, .inl (vGi))), (aR, .inr (4, [.ref aRt, .int vRL])), (aRt, .inl (cA, 24, .inl (vRt)))] nestN U ∧ va_D (fun _ => True) [(aC, .inr (0, [.ref aG, .ref aR, .ref aCn, .ref aCc, .ref aCr, .ref aCs, .int vCF])), (aCn, .inl (cA, 5760, .inl (vCn))), (aCc, .inl (cA, 5760, .inl (vCc))), (aCr, .inl (cA, 600, .inl (vCr))), (aCs, .inl (cA, 600, .inl (vCs))), (aG, .inr (2, [.ref aGh, .ref aGi, .ref aGc, .ref aGo, .ref aGr, .int vGF, .int vGS])), (aGi, .inl (cA, 72, .inl (vGi))), (aR, .inr (4, [.ref aRt, .int vRL])), (aRt, .inl (cA, 24, .inl (vRt)))])) (va_Qv (fun u => u = f_C_fillRests N_ vCn vCc vCr vCs vGS vGi vRL vRt p0 p1) (fun (u : (Nat → Int32) × (Nat → Int32)) t => xP (dC, dI) [(cA, .int)] [(aC, .inr (0, [.ref aG, .ref aR, .ref aCn, .ref aCc, .ref aCr, .ref aCs, .int vCF])), (aCn, .inl (cA, 5760, .inl (vCn))), (aCc, .inl (cA, 5760, .inl (vCc))), (aCr, .inl (cA, 600, .inl (u.1))), (aCs, .inl (cA, 600, .inl (u.2))), (aG, .inr (2, [.ref aGh, .ref aGi, .ref aGc, .ref aGo, .ref aGr, .int vGF, .int vGS])), (aGi, .inl (cA, 72, .inl (vGi))), (aR, .inr (4, [.ref aRt, .int vRL])), (aRt, .inl (cA, 24, .inl (vRt)))] nestN t ∧ va_D (va_A [(aC, .inr (0, [.ref aG, .ref aR, .ref aCn, .ref aCc, .ref aCr, .ref aCs, .int vCF])), (aCn, .inl (cA, 5760, .inl (vCn))), (aCc, .inl (cA, 5760, .inl (vCc))), (aCr, .inl (cA, 600, .inl (vCr))), (aCs, .inl (cA, 600, .inl (vCs))), (aG, .inr (2, [.ref aGh, .ref aGi, .ref aGc, .ref aGo, .ref aGr, .int vGF, .int vGS])), (aGi, .inl (cA, 72, .inl (vGi))), (aR, .inr (4, [.ref aRt, .int vRL])), (aRt, .inl (cA, 24, .inl (vRt)))] sz) [(aC, .inr (0, [.ref aG, .ref aR, .ref aCn, .ref aCc, .ref aCr, .ref aCs, .int vCF])), (aCn, .inl (cA, 5760, .inl (vCn))), (aCc, .inl (cA, 5760, .inl (vCc))), (aCr, .inl (cA, 600, .inl (u.1))), (aCs, .inl (cA, 600, .inl (u.2))), (aG, .inr (2, [.ref aGh, .ref aGi, .ref aGc, .ref aGo, .ref aGr, .int vGF, .int vGS])), (aGi, .inl (cA, 72, .inl (vGi))), (aR, .inr (4, [.ref aRt, .int vRL])), (aRt, .inl (cA, 24, .inl (vRt)))]) (va_A [(aC, .inr (0, [.ref aG, .ref aR, .ref aCn, .ref aCc, .ref aCr, .ref aCs, .int vCF])), (aCn, .inl (cA, 5760, .inl (vCn))), (aCc, .inl (cA, 5760, .inl (vCc))), (aCr, .inl (cA, 600, .inl (vCr))), (aCs, .inl (cA, 600, .inl (vCs))), (aG, .inr (2, [.ref aGh, .ref aGi, .ref aGc, .ref aGo, .ref aGr, .int vGF, .int vGS])), (aGi, .inl (cA, 72, .inl (vGi))), (aR, .inr (4, [.ref aRt, .int vRL])), (aRt, .inl (cA, 24, .inl (vRt)))] sz)) 0 0 (va_A [(aC, .inr (0, [.ref aG, .ref aR, .ref aCn, .ref aCc, .ref aCr, .ref aCs, .int vCF])), (aCn, .inl (cA, 5760, .inl (vCn))), (aCc, .inl (cA, 5760, .inl (vCc))), (aCr, .inl (cA, 600, .inl (vCr))), (aCs, .inl (cA, 600, .inl (vCs))), (aG, .inr (2, [.ref aGh, .ref aGi, .ref aGc, .ref aGo, .ref aGr, .int vGF, .int vGS])), (aGi, .inl (cA, 72, .inl (vGi))), (aR, .inr (4, [.ref aRt, .int vRL])), (aRt, .inl (cA, 24, .inl (vRt)))] sz) := by
  refine Met.ofW (cc := qc_C_fillRests) (maxL := 4) (ret := (none)) (by decide) rfl ?_
  intro p e s m args below meth c s₁ B hml hv
  obtain ⟨rfl, hsz, ⟨hP, hK, hN⟩, hD0⟩ := hv
  have hx := B.exec
  have hb := B.bytes
  have hr := B.returns
  have hts := atoms_spec (ws := qw_C_fillRests) B.pre
  have hg : ∀ w ∈ gG, w.before _ s = true := fun w h => hts w (List.mem_cons_of_mem _ h)
  have hown : s.vm.findClass qR_C = some m.cls := findClass_of_methodNamed B.named
  have hlocks := B.notSynchronized
  subst hsz
  have hD := hD0.self (sz := s.heap.size)
  generalize hAe : va_A [(aC, .inr (0, [.ref aG, .ref aR, .ref aCn, .ref aCc, .ref aCr, .ref aCs, .int vCF])), (aCn, .inl (cA, 5760, .inl (vCn))), (aCc, .inl (cA, 5760, .inl (vCc))), (aCr, .inl (cA, 600, .inl (vCr))), (aCs, .inl (cA, 600, .inl (vCs))), (aG, .inr (2, [.ref aGh, .ref aGi, .ref aGc, .ref aGo, .ref aGr, .int vGF, .int vGS])), (aGi, .inl (cA, 72, .inl (vGi))), (aR, .inr (4, [.ref aRt, .int vRL])), (aRt, .inl (cA, 24, .inl (vRt)))] s.heap.size = A at hD ⊢
  have hA : ∀ q : Nat, s.heap.size ≤ q → A q := fun q h => by rw [← hAe]; exact Or.inr h
  have hS : va_S A s.heap s.heap [] := va_S.rf
  have hP : va_P (dC, dI) vwCl [(aC, .inr (0, [.ref aG, .ref aR, .ref aCn, .ref aCc, .ref aCr, .ref aCs, .int vCF])), (aCn, .inl (cA, 5760, .inl (vCn))), (aCc, .inl (cA, 5760, .inl (vCc))), (aCr, .inl (cA, 600, .inl (vCr))), (aCs, .inl (cA, 600, .inl (vCs))), (aG, .inr (2, [.ref aGh, .ref aGi, .ref aGc, .ref aGo, .ref aGr, .int vGF, .int vGS])), (aGi, .inl (cA, 72, .inl (vGi))), (aR, .inr (4, [.ref aRt, .int vRL])), (aRt, .inl (cA, 24, .inl (vRt)))] s.heap := hP
  have hl := lv_entry ([.ref aC, .int p0, .int p1]) (n := 4) (Nat.le_of_ble_eq_true rfl)
  rw [lg_entry_eq]
  generalize (lg_sl ([.ref aC, .int p0, .int p1]) ++ List.replicate (4 - (lg_sl ([.ref aC, .int p0, .int p1])).length) Slot.unset).toArray = ls at hl ⊢
  have hl : lv_has ls 4 [(0, .ref aC), (1, .int p0), (2, .int p1)] := hl
  generalize hF : f_C_fillRests N_ vCn vCc vCr vCs vGS vGi vRL vRt p0 p1 = Fv
  have hres : Fv = f_C_fillRests N_ vCn vCc vCr vCs vGS vGi vRL vRt p0 p1 := hF.symm
  unfold f_C_fillRests at hres
  unfold o_C_fillRests at ho
  generalize hQ : MQ _ _ _ _ _ _ _ = Qg
  refine lv_iconst (v := 0) hx hb qd_C_fillRests_0 (by decide) ?_
  refine lv_istore_n (lv' := [(3, .int 0), (0, .ref aC), (1, .int p0), (2, .int p1)]) hx hb qd_C_fillRests_1 rfl hl (by decide) rfl (fun ls hl => ?_)
  have L_2 : ∀ (K_ : Int32 → (Nat → Int32) → (Nat → Int32) → (Nat → Int32) × (Nat → Int32)) (Ko_ : Int32 → (Nat → Int32) → (Nat → Int32) → Prop) (hk : ∀ (x3_2 : Int32) (vCr_2 : (Nat → Int32)) (vCs_2 : (Nat → Int32)) (H : Heap) (locs : List Loc) (ls : Array Slot), va_P (dC, dI) vwCl [(aC, .inr (0, [.ref aG, .ref aR, .ref aCn, .ref aCc, .ref aCr, .ref aCs, .int vCF])), (aCn, .inl (cA, 5760, .inl (vCn))), (aCc, .inl (cA, 5760, .inl (vCc))), (aCr, .inl (cA, 600, .inl (vCr_2))), (aCs, .inl (cA, 600, .inl (vCs_2))), (aG, .inr (2, [.ref aGh, .ref aGi, .ref aGc, .ref aGo, .ref aGr, .int vGF, .int vGS])), (aGi, .inl (cA, 72, .inl (vGi))), (aR, .inr (4, [.ref aRt, .int vRL])), (aRt, .inl (cA, 24, .inl (vRt)))] H → va_D A [(aC, .inr (0, [.ref aG, .ref aR, .ref aCn, .ref aCc, .ref aCr, .ref aCs, .int vCF])), (aCn, .inl (cA, 5760, .inl (vCn))), (aCc, .inl (cA, 5760, .inl (vCc))), (aCr, .inl (cA, 600, .inl (vCr_2))), (aCs, .inl (cA, 600, .inl (vCs_2))), (aG, .inr (2, [.ref aGh, .ref aGi, .ref aGc, .ref aGo, .ref aGr, .int vGF, .int vGS])), (aGi, .inl (cA, 72, .inl (vGi))), (aR, .inr (4, [.ref aRt, .int vRL])), (aRt, .inl (cA, 24, .inl (vRt)))] → va_S A s.heap H locs → lv_has ls 4 [(3, .int x3_2), (0, .ref aC), (1, .int p0), (2, .int p1)] → Fv = K_ x3_2 vCr_2 vCs_2 → Ko_ x3_2 vCr_2 vCs_2 → W p l e ({ frames := 3, cells := 0, slots := 0, locals := 78 } : Room) s m (([.ref aC, .int p0, .int p1] : List Value).toArray) below meth c H locs 0 0 Qg (F0 m 26 ls [])) (n : Nat) (x3_2 : Int32) (vCr_2 : (Nat → Int32)) (vCs_2 : (Nat → Int32)) (H : Heap) (locs : List Loc) (ls : Array Slot), va_P (dC, dI) vwCl [(aC, .inr (0, [.ref aG, .ref aR, .ref aCn, .ref aCc, .ref aCr, .ref aCs, .int vCF])), (aCn, .inl (cA, 5760, .inl (vCn))), (aCc, .inl (cA, 5760, .inl (vCc))), (aCr, .inl (cA, 600, .inl (vCr_2))), (aCs, .inl (cA, 600, .inl (vCs_2))), (aG, .inr (2, [.ref aGh, .ref aGi, .ref aGc, .ref aGo, .ref aGr, .int vGF, .int vGS])), (aGi, .inl (cA, 72, .inl (vGi))), (aR, .inr (4, [.ref aRt, .int vRL])), (aRt, .inl (cA, 24, .inl (vRt)))] H → va_D A [(aC, .inr (0, [.ref aG, .ref aR, .ref aCn, .ref aCc, .ref aCr, .ref aCs, .int vCF])), (aCn, .inl (cA, 5760, .inl (vCn))), (aCc, .inl (cA, 5760, .inl (vCc))), (aCr, .inl (cA, 600, .inl (vCr_2))), (aCs, .inl (cA, 600, .inl (vCs_2))), (aG, .inr (2, [.ref aGh, .ref aGi, .ref aGc, .ref aGo, .ref aGr, .int vGF, .int vGS])), (aGi, .inl (cA, 72, .inl (vGi))), (aR, .inr (4, [.ref aRt, .int vRL])), (aRt, .inl (cA, 24, .inl (vRt)))] → va_S A s.heap H locs → lv_has ls 4 [(3, .int x3_2), (0, .ref aC), (1, .int p0), (2, .int p1)] → Fv = l_C_fillRests_2 N_ p0 p1 vCn vCc vGS vGi vRL vRt K_ n x3_2 vCr_2 vCs_2 → ol_C_fillRests_2 N_ p0 p1 vCn vCc vGS vGi vRL vRt Ko_ n x3_2 vCr_2 vCs_2 → W p l e ({ frames := 3, cells := 0, slots := 0, locals := 78 } : Room) s m (([.ref aC, .int p0, .int p1] : List Value).toArray) below meth c H locs 0 0 Qg (F0 m 2 ls []) := by
    intro K_ Ko_ hk n
    induction n with
    | zero => intro x3_2 vCr_2 vCs_2 H locs ls hP hD hS hl hres ho; exact ho.elim
    | succ n ih =>
      intro x3_2 vCr_2 vCs_2 H locs ls hP hD hS hl hres ho
      rw [l_C_fillRests_2, s_C_fillRests_2] at hres
      rw [ol_C_fillRests_2, os_C_fillRests_2] at ho
      refine lv_iload_n hx hb qd_C_fillRests_2 rfl (lv_at hl 0 rfl) ?_
      refine lv_aload_n hx hb qd_C_fillRests_3 rfl (lv_at hl 1 rfl) ?_
      refine va_get (D := (dC, dI)) (ci := 0) (v := .ref aG) (C := qR_C) (T := qT_C) (N := 7) hx hb hg qi_C hown hK hP 0 rfl rfl 0 (by decide) (hg _ mw_62) (fun _ h9 => h9) rfl qd_C_fillRests_4 ?_
      refine xc_V (As := []) (rest := [.int x3_2]) ⟨hx, hb, hml, hown, hg⟩ (c_G_size l dC dI cA aG aGh aGi aGc aGo aGr vGF vGS) (cwV 0 hg (q_gV mw_368 mw_369 mw_370 mw_2 mw_371) rfl rfl rfl qh_G_size ⟨Nat.le_of_ble_eq_true rfl, Nat.le_of_ble_eq_true rfl⟩) hN hK hP [5] rfl 0 2 rfl rfl rfl hl.1 rfl (Nat.le_of_ble_eq_true rfl) qd_C_fillRests_7 ⟨Nat.zero_le _, Nat.zero_le _⟩ ?_
      refine lv_icmp_ge (tgt := 26) hx hb qd_C_fillRests_10 (by decide) (fun c_10 => ?_) (fun c_10 => ?_)
      · have hres := hres.trans (if_pos c_10)
        have ho := (if_pos c_10).mp ho
        exact hk x3_2 vCr_2 vCs_2 H locs ls hP hD hS (lv_sub hl [0, 1, 2, 3] rfl) hres ho
      have hres := hres.trans (if_neg c_10)
      have ho := (if_neg c_10).mp ho
      refine lv_aload_n hx hb qd_C_fillRests_13 rfl (lv_at hl 1 rfl) ?_
      refine lv_iload_n hx hb qd_C_fillRests_14 rfl (lv_at hl 0 rfl) ?_
      refine lv_iload_n hx hb qd_C_fillRests_15 rfl (lv_at hl 2 rfl) ?_
      refine lv_iload_n hx hb qd_C_fillRests_16 rfl (lv_at hl 3 rfl) ?_
      obtain ⟨g_17, ho⟩ := ho
      refine xm_Vv (As := [.int x3_2, .int p0, .int p1]) (rest := []) (w1 := fun (u_17 : (Nat → Int32) × (Nat → Int32)) => [(aC, .inr (0, [.ref aG, .ref aR, .ref aCn, .ref aCc, .ref aCr, .ref aCs, .int vCF])), (aCn, .inl (cA, 5760, .inl (vCn))), (aCc, .inl (cA, 5760, .inl (vCc))), (aCr, .inl (cA, 600, .inl (u_17.1))), (aCs, .inl (cA, 600, .inl (u_17.2))), (aG, .inr (2, [.ref aGh, .ref aGi, .ref aGc, .ref aGo, .ref aGr, .int vGF, .int vGS])), (aGi, .inl (cA, 72, .inl (vGi))), (aR, .inr (4, [.ref aRt, .int vRL])), (aRt, .inl (cA, 24, .inl (vRt)))]) (w2 := fun (u_17 : (Nat → Int32) × (Nat → Int32)) => [(aC, .inr (0, [.ref aG, .ref aR, .ref aCn, .ref aCc, .ref aCr, .ref aCs, .int vCF])), (aCn, .inl (cA, 5760, .inl (vCn))), (aCc, .inl (cA, 5760, .inl (vCc))), (aCr, .inl (cA, 600, .inl (u_17.1))), (aCs, .inl (cA, 600, .inl (u_17.2))), (aG, .inr (2, [.ref aGh, .ref aGi, .ref aGc, .ref aGo, .ref aGr, .int vGF, .int vGS])), (aGi, .inl (cA, 72, .inl (vGi))), (aR, .inr (4, [.ref aRt, .int vRL])), (aRt, .inl (cA, 24, .inl (vRt)))]) ⟨hx, hb, hml, hown, hg⟩ (c_C_fillRest l dC dI cA N_ aC aCn aCc aCr aCs aG aGh aGi aGc aGo aGr aR aRt _ vCF vCn vCc vCr_2 vCs_2 vGF vGS vGi vRL vRt x3_2 p0 p1 g_17) (cwV 3 hg (q_gV mw_372 mw_373 mw_752 mw_4 mw_374) rfl rfl rfl qh_C_fillRest ⟨Nat.le_of_ble_eq_true rfl, Nat.le_of_ble_eq_true rfl⟩) hN hK hP hD hS hA [0, 1, 2, 3, 4, 5, 6, 7, 8] [] rfl rfl (by decide) (by decide) (by decide) [0, 1, 2, 3, 4, 5, 6, 7, 8] (fun _ => rfl) (by decide) 0 0 rfl rfl rfl hl.1 rfl (Nat.le_of_ble_eq_true rfl) qd_C_fillRests_17 ⟨Nat.zero_le _, Nat.zero_le _⟩ (fun u_17 H locs w_17 hP hD hS => ?_)
      have hP : va_P (dC, dI) vwCl [(aC, .inr (0, [.ref aG, .ref aR, .ref aCn, .ref aCc, .ref aCr, .ref aCs, .int vCF])), (aCn, .inl (cA, 5760, .inl (vCn))), (aCc, .inl (cA, 5760, .inl (vCc))), (aCr, .inl (cA, 600, .inl (u_17.1))), (aCs, .inl (cA, 600, .inl (u_17.2))), (aG, .inr (2, [.ref aGh, .ref aGi, .ref aGc, .ref aGo, .ref aGr, .int vGF, .int vGS])), (aGi, .inl (cA, 72, .inl (vGi))), (aR, .inr (4, [.ref aRt, .int vRL])), (aRt, .inl (cA, 24, .inl (vRt)))] H := hP
      have hD : va_D A [(aC, .inr (0, [.ref aG, .ref aR, .ref aCn, .ref aCc, .ref aCr, .ref aCs, .int vCF])), (aCn, .inl (cA, 5760, .inl (vCn))), (aCc, .inl (cA, 5760, .inl (vCc))), (aCr, .inl (cA, 600, .inl (u_17.1))), (aCs, .inl (cA, 600, .inl (u_17.2))), (aG, .inr (2, [.ref aGh, .ref aGi, .ref aGc, .ref aGo, .ref aGr, .int vGF, .int vGS])), (aGi, .inl (cA, 72, .inl (vGi))), (aR, .inr (4, [.ref aRt, .int vRL])), (aRt, .inl (cA, 24, .inl (vRt)))] := hD
      have hres := hres.trans (bd_eq w_17)
      have ho := (bd_eq w_17).mp ho
      refine lv_iinc (v := x3_2 + 1) (lv' := [(3, .int (x3_2 + 1)), (0, .ref aC), (1, .int p0), (2, .int p1)]) hx hb qd_C_fillRests_20 hl (k := 0) rfl (congrArg (fun z => _ + z) (by decide)) (by decide) rfl (fun ls hl => ?_)
      refine lv_goto (tgt := 2) hx hb qd_C_fillRests_23 (by decide) ?_
      exact ih (x3_2 + 1) u_17.1 u_17.2 H locs ls hP hD hS (lv_sub hl [0, 1, 2, 3] rfl) hres ho
  refine L_2 _ _ (fun x3_2 vCr_2 vCs_2 H locs ls hP hD hS hl hres ho => ?_) _ _ _ _ _ _ ls hP hD hS hl hres ho
  subst hQ
  exact W.vret hx hb hr (fun t ht hW => ⟨⟨(vCr_2, vCs_2), rfl, hres.symm, ⟨by rw [ht]; exact hP, va_K.moved hW.alike hK, x_N hN hW⟩, hD⟩, hS.F ht⟩) hS.2.2 qd_C_fillRests_26
theorem qd_C_write_0 : decode qc_C_write 0 = .ok (.iload_n 1, 1) := by decide +kernel
theorem qd_C_write_1 : decode qc_C_write 1 = .ok (.iload_n 2, 1) := by decide +kernel
theorem qd_C_write_2 : decode qc_C_write 2 = .ok (.iload_n 3, 1) := by decide +kernel
theorem qd_C_write_3 : decode qc_C_write 3 = .ok (.invokestatic 120, 3) := by decide +kernel
theorem qd_C_write_6 : decode qc_C_write 6 = .ok (.istore 6, 2) := by decide +kernel
theorem qd_C_write_8 : decode qc_C_write 8 = .ok (.iload 6, 2) := by decide +kernel
theorem qd_C_write_10 : decode qc_C_write 10 = .ok (.ifCond .lt 41, 3) := by decide +kernel
theorem qd_C_write_13 : decode qc_C_write 13 = .ok (.iload 6, 2) := by decide +kernel
theorem qd_C_write_15 : decode qc_C_write 15 = .ok (.aload_n 0, 1) := by decide +kernel
theorem qd_C_write_16 : decode qc_C_write 16 = .ok (.getfield 9, 3) := by decide +kernel
theorem qd_C_write_19 : decode qc_C_write 19 = .ok (.arraylength, 1) := by decide +kernel
theorem qd_C_write_20 : decode qc_C_write 20 = .ok (.if_icmp .ge 31, 3) := by decide +kernel
theorem qd_C_write_23 : decode qc_C_write 23 = .ok (.iload 6, 2) := by decide +kernel
theorem qd_C_write_25 : decode qc_C_write 25 = .ok (.aload_n 0, 1) := by decide +kernel
theorem qd_C_write_26 : decode qc_C_write 26 = .ok (.getfield 15, 3) := by decide +kernel
theorem qd_C_write_29 : decode qc_C_write 29 = .ok (.arraylength, 1) := by decide +kernel
theorem qd_C_write_30 : decode qc_C_write 30 = .ok (.if_icmp .ge 21, 3) := by decide +kernel
theorem qd_C_write_33 : decode qc_C_write 33 = .ok (.aload_n 0, 1) := by decide +kernel
theorem qd_C_write_34 : decode qc_C_write 34 = .ok (.getfield 9, 3) := by decide +kernel
theorem qd_C_write_37 : decode qc_C_write 37 = .ok (.iload 6, 2) := by decide +kernel
theorem qd_C_write_39 : decode qc_C_write 39 = .ok (.iload 4, 2) := by decide +kernel
theorem qd_C_write_41 : decode qc_C_write 41 = .ok (.iastore, 1) := by decide +kernel
theorem qd_C_write_42 : decode qc_C_write 42 = .ok (.aload_n 0, 1) := by decide +kernel
theorem qd_C_write_43 : decode qc_C_write 43 = .ok (.getfield 15, 3) := by decide +kernel
theorem qd_C_write_46 : decode qc_C_write 46 = .ok (.iload 6, 2) := by decide +kernel
theorem qd_C_write_48 : decode qc_C_write 48 = .ok (.iload 5, 2) := by decide +kernel
theorem qd_C_write_50 : decode qc_C_write 50 = .ok (.iastore, 1) := by decide +kernel
theorem qd_C_write_51 : decode qc_C_write 51 = .ok (.return_, 1) := by decide +kernel
set_option maxHeartbeats 4000000 in
set_option maxRecDepth 100000 in
theorem c_C_write (l : Launch) (dC : Nat → ClassId) (dI : Nat → Nat → Nat) (cA : ClassId) (aC aCn aCc aCr aCs aG aR : Nat) (sz : Nat) (vCF : Int32) (vCn : (Nat → Int32)) (vCc : (Nat → Int32)) (p0 : Int32) (p1 : Int32) (p2 : Int32) (p3 : Int32) (p4 : Int32) (ho : o_C_write vCn vCc p0 p1 p2 p3 p4) : Met l qy_C_write qw_C_write ({ frames := 1, cells := 0, slots := 0, locals := 22 }) (va_Pc [.ref aC, .int p0, .int p1, .int p2, .int p3, .int p4] (fun U => U.heap.size = sz ∧ xP (dC, dI) [(cA, .int)] [(aC, .inr (0, [.ref aG, .ref aR, .ref aCn, .ref aCc, .ref aCr, .ref aCs, .int vCF])), (aCn, .inl (cA, 5760, .inl (vCn))), (aCc, .inl (cA, 5760, .inl (vCc)))] nestN U ∧ va_D (fun _ => True) [(aC, .inr (0, [.ref aG, .ref aR, .ref aCn, .ref aCc, .ref aCr, .ref aCs, .int vCF])), (aCn, .inl (cA, 5760, .inl (vCn))), (aCc, .inl (cA, 5760, .inl (vCc)))])) (va_Qv (fun u => u = f_C_write vCn vCc p0 p1 p2 p3 p4) (fun (u : (Nat → Int32) × (Nat → Int32)) t => xP (dC, dI) [(cA, .int)] [(aC, .inr (0, [.ref aG, .ref aR, .ref aCn, .ref aCc, .ref aCr, .ref aCs, .int vCF])), (aCn, .inl (cA, 5760, .inl (u.1))), (aCc, .inl (cA, 5760, .inl (u.2)))] nestN t ∧ va_D (va_A [(aC, .inr (0, [.ref aG, .ref aR, .ref aCn, .ref aCc, .ref aCr, .ref aCs, .int vCF])), (aCn, .inl (cA, 5760, .inl (vCn))), (aCc, .inl (cA, 5760, .inl (vCc)))] sz) [(aC, .inr (0, [.ref aG, .ref aR, .ref aCn, .ref aCc, .ref aCr, .ref aCs, .int vCF])), (aCn, .inl (cA, 5760, .inl (u.1))), (aCc, .inl (cA, 5760, .inl (u.2)))]) (va_A [(aC, .inr (0, [.ref aG, .ref aR, .ref aCn, .ref aCc, .ref aCr, .ref aCs, .int vCF])), (aCn, .inl (cA, 5760, .inl (vCn))), (aCc, .inl (cA, 5760, .inl (vCc)))] sz)) 0 0 (va_A [(aC, .inr (0, [.ref aG, .ref aR, .ref aCn, .ref aCc, .ref aCr, .ref aCs, .int vCF])), (aCn, .inl (cA, 5760, .inl (vCn))), (aCc, .inl (cA, 5760, .inl (vCc)))] sz) := by
  refine Met.ofW (cc := qc_C_write) (maxL := 7) (ret := (none)) (by decide) rfl ?_
  intro p e s m args below meth c s₁ B hml hv
  obtain ⟨rfl, hsz, ⟨hP, hK, hN⟩, hD0⟩ := hv
  have hx := B.exec
  have hb := B.bytes
  have hr := B.returns
  have hts := atoms_spec (ws := qw_C_write) B.pre
  have hg : ∀ w ∈ gG, w.before _ s = true := fun w h => hts w (List.mem_cons_of_mem _ h)
  have hown : s.vm.findClass qR_C = some m.cls := findClass_of_methodNamed B.named
  have hlocks := B.notSynchronized
  subst hsz
  have hD := hD0.self (sz := s.heap.size)
  generalize hAe : va_A [(aC, .inr (0, [.ref aG, .ref aR, .ref aCn, .ref aCc, .ref aCr, .ref aCs, .int vCF])), (aCn, .inl (cA, 5760, .inl (vCn))), (aCc, .inl (cA, 5760, .inl (vCc)))] s.heap.size = A at hD ⊢
  have hA : ∀ q : Nat, s.heap.size ≤ q → A q := fun q h => by rw [← hAe]; exact Or.inr h
  have hS : va_S A s.heap s.heap [] := va_S.rf
  have hP : va_P (dC, dI) vwCl [(aC, .inr (0, [.ref aG, .ref aR, .ref aCn, .ref aCc, .ref aCr, .ref aCs, .int vCF])), (aCn, .inl (cA, 5760, .inl (vCn))), (aCc, .inl (cA, 5760, .inl (vCc)))] s.heap := hP
  have hl := lv_entry ([.ref aC, .int p0, .int p1, .int p2, .int p3, .int p4]) (n := 7) (Nat.le_of_ble_eq_true rfl)
  rw [lg_entry_eq]
  generalize (lg_sl ([.ref aC, .int p0, .int p1, .int p2, .int p3, .int p4]) ++ List.replicate (7 - (lg_sl ([.ref aC, .int p0, .int p1, .int p2, .int p3, .int p4])).length) Slot.unset).toArray = ls at hl ⊢
  have hl : lv_has ls 7 [(0, .ref aC), (1, .int p0), (2, .int p1), (3, .int p2), (4, .int p3), (5, .int p4)] := hl
  generalize hF : f_C_write vCn vCc p0 p1 p2 p3 p4 = Fv
  have hres : Fv = f_C_write vCn vCc p0 p1 p2 p3 p4 := hF.symm
  unfold f_C_write at hres
  unfold o_C_write at ho
  refine lv_iload_n hx hb qd_C_write_0 rfl (lv_at hl 1 rfl) ?_
  refine lv_iload_n hx hb qd_C_write_1 rfl (lv_at hl 2 rfl) ?_
  refine lv_iload_n hx hb qd_C_write_2 rfl (lv_at hl 3 rfl) ?_
  refine xc_S (As := [.int p0, .int p1, .int p2]) (rest := []) ⟨hx, hb, hml, hown, hg⟩ (c_C_cell l dC dI cA p0 p1 p2) (va_cwS 3 hg (q_gS mw_392 mw_393 mw_4 mw_394) rfl rfl rfl qh_C_cell.2 ⟨Nat.le_of_ble_eq_true rfl, Nat.le_of_ble_eq_true rfl⟩) hN hK hP [] rfl rfl hl.1 rfl (Nat.le_of_ble_eq_true rfl) qd_C_write_3 ⟨Nat.zero_le _, Nat.zero_le _⟩ ?_
  refine lv_topi (fun r_3 w_3 => ?_)
  have hres := hres.trans (bd_eq w_3)
  have ho := (bd_eq w_3).mp ho
  refine lv_istore (lv' := [(6, .int r_3), (0, .ref aC), (1, .int p0), (2, .int p1), (3, .int p2), (4, .int p3), (5, .int p4)]) hx hb qd_C_write_6 hl (by decide) rfl (fun ls hl => ?_)
  refine lv_iload hx hb qd_C_write_8 (lv_at hl 0 rfl) ?_
  refine lv_if_lt (tgt := 51) hx hb qd_C_write_10 (by decide) (fun c_10 => ?_) (fun c_10 => ?_)
  · have hres := hres.trans (if_pos c_10)
    have ho := (if_pos c_10).mp ho
    exact W.vret hx hb hr (fun t ht hW => ⟨⟨(vCn, vCc), rfl, hres.symm, ⟨by rw [ht]; exact hP, va_K.moved hW.alike hK, x_N hN hW⟩, hD⟩, hS.F ht⟩) hS.2.2 qd_C_write_51
  have hres := hres.trans (if_neg c_10)
  have ho := (if_neg c_10).mp ho
  refine lv_iload hx hb qd_C_write_13 (lv_at hl 0 rfl) ?_
  refine lv_aload_n hx hb qd_C_write_15 rfl (lv_at hl 1 rfl) ?_
  refine va_get (D := (dC, dI)) (ci := 0) (v := .ref aCn) (C := qR_C) (T := qT_C) (N := 7) hx hb hg qi_C hown hK hP 0 rfl rfl 2 (by decide) (hg _ mw_64) (fun _ h9 => h9) rfl qd_C_write_16 ?_
  refine va_alen (v := 5760) hx hb hK hP 1 0 rfl rfl (show Int32.ofNat 5760 = 5760 by decide) qd_C_write_19 ?_
  refine lv_icmp_ge (tgt := 51) hx hb qd_C_write_20 (by decide) (fun c_20 => ?_) (fun c_20 => ?_)
  · have hres := hres.trans (if_pos c_20)
    have ho := (if_pos c_20).mp ho
    exact W.vret hx hb hr (fun t ht hW => ⟨⟨(vCn, vCc), rfl, hres.symm, ⟨by rw [ht]; exact hP, va_K.moved hW.alike hK, x_N hN hW⟩, hD⟩, hS.F ht⟩) hS.2.2 qd_C_write_51
  have hres := hres.trans (if_neg c_20)
  have ho := (if_neg c_20).mp ho
  refine lv_iload hx hb qd_C_write_23 (lv_at hl 0 rfl) ?_
  refine lv_aload_n hx hb qd_C_write_25 rfl (lv_at hl 1 rfl) ?_
  refine va_get (D := (dC, dI)) (ci := 0) (v := .ref aCc) (C := qR_C) (T := qT_C) (N := 7) hx hb hg qi_C hown hK hP 0 rfl rfl 3 (by decide) (hg _ mw_65) (fun _ h9 => h9) rfl qd_C_write_26 ?_
  refine va_alen (v := 5760) hx hb hK hP 2 0 rfl rfl (show Int32.ofNat 5760 = 5760 by decide) qd_C_write_29 ?_
  refine lv_icmp_ge (tgt := 51) hx hb qd_C_write_30 (by decide) (fun c_30 => ?_) (fun c_30 => ?_)
  · exact absurd c_30 c_20
  refine lv_aload_n hx hb qd_C_write_33 rfl (lv_at hl 1 rfl) ?_
  refine va_get (D := (dC, dI)) (ci := 0) (v := .ref aCn) (C := qR_C) (T := qT_C) (N := 7) hx hb hg qi_C hown hK hP 0 rfl rfl 2 (by decide) (hg _ mw_64) (fun _ h9 => h9) rfl qd_C_write_34 ?_
  refine lv_iload hx hb qd_C_write_37 (lv_at hl 0 rfl) ?_
  refine lv_iload hx hb qd_C_write_39 (lv_at hl 5 rfl) ?_
  obtain ⟨g_41, ho⟩ := ho
  refine va_iast hx hb hK hP hD hS 1 0 rfl rfl g_41 qd_C_write_41 (fun H locs hP hD hS => ?_)
  have hP : va_P (dC, dI) vwCl [(aC, .inr (0, [.ref aG, .ref aR, .ref aCn, .ref aCc, .ref aCr, .ref aCs, .int vCF])), (aCn, .inl (cA, 5760, .inl (upd vCn r_3.toNatClampNeg p3))), (aCc, .inl (cA, 5760, .inl (vCc)))] H := hP
  have hD : va_D A [(aC, .inr (0, [.ref aG, .ref aR, .ref aCn, .ref aCc, .ref aCr, .ref aCs, .int vCF])), (aCn, .inl (cA, 5760, .inl (upd vCn r_3.toNatClampNeg p3))), (aCc, .inl (cA, 5760, .inl (vCc)))] := hD
  refine lv_aload_n hx hb qd_C_write_42 rfl (lv_at hl 1 rfl) ?_
  refine va_get (D := (dC, dI)) (ci := 0) (v := .ref aCc) (C := qR_C) (T := qT_C) (N := 7) hx hb hg qi_C hown hK hP 0 rfl rfl 3 (by decide) (hg _ mw_65) (fun _ h9 => h9) rfl qd_C_write_43 ?_
  refine lv_iload hx hb qd_C_write_46 (lv_at hl 0 rfl) ?_
  refine lv_iload hx hb qd_C_write_48 (lv_at hl 6 rfl) ?_
  obtain ⟨g_50, ho⟩ := ho
  refine va_iast hx hb hK hP hD hS 2 0 rfl rfl g_50 qd_C_write_50 (fun H locs hP hD hS => ?_)
  have hP : va_P (dC, dI) vwCl [(aC, .inr (0, [.ref aG, .ref aR, .ref aCn, .ref aCc, .ref aCr, .ref aCs, .int vCF])), (aCn, .inl (cA, 5760, .inl (upd vCn r_3.toNatClampNeg p3))), (aCc, .inl (cA, 5760, .inl (upd vCc r_3.toNatClampNeg p4)))] H := hP
  have hD : va_D A [(aC, .inr (0, [.ref aG, .ref aR, .ref aCn, .ref aCc, .ref aCr, .ref aCs, .int vCF])), (aCn, .inl (cA, 5760, .inl (upd vCn r_3.toNatClampNeg p3))), (aCc, .inl (cA, 5760, .inl (upd vCc r_3.toNatClampNeg p4)))] := hD
  exact W.vret hx hb hr (fun t ht hW => ⟨⟨(upd vCn r_3.toNatClampNeg p3, upd vCc r_3.toNatClampNeg p4), rfl, hres.symm, ⟨by rw [ht]; exact hP, va_K.moved hW.alike hK, x_N hN hW⟩, hD⟩, hS.F ht⟩) hS.2.2 qd_C_write_51
theorem qd_C_addProduction_0 : decode qc_C_addProduction 0 = .ok (.aload_n 0, 1) := by decide +kernel
theorem qd_C_addProduction_1 : decode qc_C_addProduction 1 = .ok (.getfield 28, 3) := by decide +kernel
theorem qd_C_addProduction_4 : decode qc_C_addProduction 4 = .ok (.iload_n 1, 1) := by decide +kernel
theorem qd_C_addProduction_5 : decode qc_C_addProduction 5 = .ok (.invokevirtual 74, 3) := by decide +kernel
theorem qd_C_addProduction_8 : decode qc_C_addProduction 8 = .ok (.istore 4, 2) := by decide +kernel
theorem qd_C_addProduction_10 : decode qc_C_addProduction 10 = .ok (.aload_n 0, 1) := by decide +kernel
theorem qd_C_addProduction_11 : decode qc_C_addProduction 11 = .ok (.getfield 28, 3) := by decide +kernel
theorem qd_C_addProduction_14 : decode qc_C_addProduction 14 = .ok (.iload_n 1, 1) := by decide +kernel
theorem qd_C_addProduction_15 : decode qc_C_addProduction 15 = .ok (.iconst 0, 1) := by decide +kernel
theorem qd_C_addProduction_16 : decode qc_C_addProduction 16 = .ok (.invokevirtual 77, 3) := by decide +kernel
theorem qd_C_addProduction_19 : decode qc_C_addProduction 19 = .ok (.istore 5, 2) := by decide +kernel
theorem qd_C_addProduction_21 : decode qc_C_addProduction 21 = .ok (.aload_n 0, 1) := by decide +kernel
theorem qd_C_addProduction_22 : decode qc_C_addProduction 22 = .ok (.iload 4, 2) := by decide +kernel
theorem qd_C_addProduction_24 : decode qc_C_addProduction 24 = .ok (.iload_n 2, 1) := by decide +kernel
theorem qd_C_addProduction_25 : decode qc_C_addProduction 25 = .ok (.iload_n 3, 1) := by decide +kernel
theorem qd_C_addProduction_26 : decode qc_C_addProduction 26 = .ok (.invokevirtual 80, 3) := by decide +kernel
theorem qd_C_addProduction_29 : decode qc_C_addProduction 29 = .ok (.istore 6, 2) := by decide +kernel
theorem qd_C_addProduction_31 : decode qc_C_addProduction 31 = .ok (.aload_n 0, 1) := by decide +kernel
theorem qd_C_addProduction_32 : decode qc_C_addProduction 32 = .ok (.iload 4, 2) := by decide +kernel
theorem qd_C_addProduction_34 : decode qc_C_addProduction 34 = .ok (.iload_n 2, 1) := by decide +kernel
theorem qd_C_addProduction_35 : decode qc_C_addProduction 35 = .ok (.iload_n 3, 1) := by decide +kernel
theorem qd_C_addProduction_36 : decode qc_C_addProduction 36 = .ok (.invokevirtual 84, 3) := by decide +kernel
theorem qd_C_addProduction_39 : decode qc_C_addProduction 39 = .ok (.istore 7, 2) := by decide +kernel
theorem qd_C_addProduction_41 : decode qc_C_addProduction 41 = .ok (.aload_n 0, 1) := by decide +kernel
theorem qd_C_addProduction_42 : decode qc_C_addProduction 42 = .ok (.getfield 28, 3) := by decide +kernel
theorem qd_C_addProduction_45 : decode qc_C_addProduction 45 = .ok (.iload_n 1, 1) := by decide +kernel
theorem qd_C_addProduction_46 : decode qc_C_addProduction 46 = .ok (.iload_n 3, 1) := by decide +kernel
theorem qd_C_addProduction_47 : decode qc_C_addProduction 47 = .ok (.invokevirtual 87, 3) := by decide +kernel
theorem qd_C_addProduction_50 : decode qc_C_addProduction 50 = .ok (.istore 8, 2) := by decide +kernel
theorem qd_C_addProduction_52 : decode qc_C_addProduction 52 = .ok (.aload_n 0, 1) := by decide +kernel
theorem qd_C_addProduction_53 : decode qc_C_addProduction 53 = .ok (.getfield 28, 3) := by decide +kernel
theorem qd_C_addProduction_56 : decode qc_C_addProduction 56 = .ok (.iload_n 1, 1) := by decide +kernel
theorem qd_C_addProduction_57 : decode qc_C_addProduction 57 = .ok (.iload_n 2, 1) := by decide +kernel
theorem qd_C_addProduction_58 : decode qc_C_addProduction 58 = .ok (.iload_n 3, 1) := by decide +kernel
theorem qd_C_addProduction_59 : decode qc_C_addProduction 59 = .ok (.invokevirtual 90, 3) := by decide +kernel
theorem qd_C_addProduction_62 : decode qc_C_addProduction 62 = .ok (.istore 9, 2) := by decide +kernel
theorem qd_C_addProduction_64 : decode qc_C_addProduction 64 = .ok (.iload 9, 2) := by decide +kernel
theorem qd_C_addProduction_66 : decode qc_C_addProduction 66 = .ok (.iload 8, 2) := by decide +kernel
theorem qd_C_addProduction_68 : decode qc_C_addProduction 68 = .ok (.if_icmp .gt 138, 3) := by decide +kernel
theorem qd_C_addProduction_71 : decode qc_C_addProduction 71 = .ok (.iload_n 1, 1) := by decide +kernel
theorem qd_C_addProduction_72 : decode qc_C_addProduction 72 = .ok (.iload 9, 2) := by decide +kernel
theorem qd_C_addProduction_74 : decode qc_C_addProduction 74 = .ok (.invokestatic 93, 3) := by decide +kernel
theorem qd_C_addProduction_77 : decode qc_C_addProduction 77 = .ok (.istore 10, 2) := by decide +kernel
theorem qd_C_addProduction_79 : decode qc_C_addProduction 79 = .ok (.iload 10, 2) := by decide +kernel
theorem qd_C_addProduction_81 : decode qc_C_addProduction 81 = .ok (.ifCond .lt 23, 3) := by decide +kernel
theorem qd_C_addProduction_84 : decode qc_C_addProduction 84 = .ok (.iload 10, 2) := by decide +kernel
theorem qd_C_addProduction_86 : decode qc_C_addProduction 86 = .ok (.aload_n 0, 1) := by decide +kernel
theorem qd_C_addProduction_87 : decode qc_C_addProduction 87 = .ok (.getfield 18, 3) := by decide +kernel
theorem qd_C_addProduction_90 : decode qc_C_addProduction 90 = .ok (.arraylength, 1) := by decide +kernel
theorem qd_C_addProduction_91 : decode qc_C_addProduction 91 = .ok (.if_icmp .ge 13, 3) := by decide +kernel
theorem qd_C_addProduction_94 : decode qc_C_addProduction 94 = .ok (.aload_n 0, 1) := by decide +kernel
theorem qd_C_addProduction_95 : decode qc_C_addProduction 95 = .ok (.getfield 18, 3) := by decide +kernel
theorem qd_C_addProduction_98 : decode qc_C_addProduction 98 = .ok (.iload 10, 2) := by decide +kernel
theorem qd_C_addProduction_100 : decode qc_C_addProduction 100 = .ok (.iaload, 1) := by decide +kernel
theorem qd_C_addProduction_101 : decode qc_C_addProduction 101 = .ok (.goto 4, 3) := by decide +kernel
theorem qd_C_addProduction_104 : decode qc_C_addProduction 104 = .ok (.iconst 0, 1) := by decide +kernel
theorem qd_C_addProduction_105 : decode qc_C_addProduction 105 = .ok (.istore 11, 2) := by decide +kernel
theorem qd_C_addProduction_107 : decode qc_C_addProduction 107 = .ok (.iload 11, 2) := by decide +kernel
theorem qd_C_addProduction_109 : decode qc_C_addProduction 109 = .ok (.ifCond .le 15, 3) := by decide +kernel
theorem qd_C_addProduction_112 : decode qc_C_addProduction 112 = .ok (.aload_n 0, 1) := by decide +kernel
theorem qd_C_addProduction_113 : decode qc_C_addProduction 113 = .ok (.iload 5, 2) := by decide +kernel
theorem qd_C_addProduction_115 : decode qc_C_addProduction 115 = .ok (.iload_n 2, 1) := by decide +kernel
theorem qd_C_addProduction_116 : decode qc_C_addProduction 116 = .ok (.iload 9, 2) := by decide +kernel
theorem qd_C_addProduction_118 : decode qc_C_addProduction 118 = .ok (.invokevirtual 80, 3) := by decide +kernel
theorem qd_C_addProduction_121 : decode qc_C_addProduction 121 = .ok (.goto 4, 3) := by decide +kernel
theorem qd_C_addProduction_124 : decode qc_C_addProduction 124 = .ok (.iconst 0, 1) := by decide +kernel
theorem qd_C_addProduction_125 : decode qc_C_addProduction 125 = .ok (.istore 12, 2) := by decide +kernel
theorem qd_C_addProduction_127 : decode qc_C_addProduction 127 = .ok (.iload 12, 2) := by decide +kernel
theorem qd_C_addProduction_129 : decode qc_C_addProduction 129 = .ok (.ifCond .le 71, 3) := by decide +kernel
theorem qd_C_addProduction_132 : decode qc_C_addProduction 132 = .ok (.iload 10, 2) := by decide +kernel
theorem qd_C_addProduction_134 : decode qc_C_addProduction 134 = .ok (.ifCond .lt 66, 3) := by decide +kernel
theorem qd_C_addProduction_137 : decode qc_C_addProduction 137 = .ok (.iload 10, 2) := by decide +kernel
theorem qd_C_addProduction_139 : decode qc_C_addProduction 139 = .ok (.aload_n 0, 1) := by decide +kernel
theorem qd_C_addProduction_140 : decode qc_C_addProduction 140 = .ok (.getfield 21, 3) := by decide +kernel
theorem qd_C_addProduction_143 : decode qc_C_addProduction 143 = .ok (.arraylength, 1) := by decide +kernel
theorem qd_C_addProduction_144 : decode qc_C_addProduction 144 = .ok (.if_icmp .ge 56, 3) := by decide +kernel
theorem qd_C_addProduction_147 : decode qc_C_addProduction 147 = .ok (.aload_n 0, 1) := by decide +kernel
theorem qd_C_addProduction_148 : decode qc_C_addProduction 148 = .ok (.getfield 28, 3) := by decide +kernel
theorem qd_C_addProduction_151 : decode qc_C_addProduction 151 = .ok (.iload_n 1, 1) := by decide +kernel
theorem qd_C_addProduction_152 : decode qc_C_addProduction 152 = .ok (.invokevirtual 96, 3) := by decide +kernel
theorem qd_C_addProduction_155 : decode qc_C_addProduction 155 = .ok (.aload_n 0, 1) := by decide +kernel
theorem qd_C_addProduction_156 : decode qc_C_addProduction 156 = .ok (.iload 5, 2) := by decide +kernel
theorem qd_C_addProduction_158 : decode qc_C_addProduction 158 = .ok (.iload_n 2, 1) := by decide +kernel
theorem qd_C_addProduction_159 : decode qc_C_addProduction 159 = .ok (.iload 9, 2) := by decide +kernel
theorem qd_C_addProduction_161 : decode qc_C_addProduction 161 = .ok (.invokevirtual 84, 3) := by decide +kernel
theorem qd_C_addProduction_164 : decode qc_C_addProduction 164 = .ok (.iadd, 1) := by decide +kernel
theorem qd_C_addProduction_165 : decode qc_C_addProduction 165 = .ok (.aload_n 0, 1) := by decide +kernel
theorem qd_C_addProduction_166 : decode qc_C_addProduction 166 = .ok (.getfield 21, 3) := by decide +kernel
theorem qd_C_addProduction_169 : decode qc_C_addProduction 169 = .ok (.iload 10, 2) := by decide +kernel
theorem qd_C_addProduction_171 : decode qc_C_addProduction 171 = .ok (.iaload, 1) := by decide +kernel
theorem qd_C_addProduction_172 : decode qc_C_addProduction 172 = .ok (.iadd, 1) := by decide +kernel
theorem qd_C_addProduction_173 : decode qc_C_addProduction 173 = .ok (.istore 13, 2) := by decide +kernel
theorem qd_C_addProduction_175 : decode qc_C_addProduction 175 = .ok (.iload 6, 2) := by decide +kernel
theorem qd_C_addProduction_177 : decode qc_C_addProduction 177 = .ok (.i2l, 1) := by decide +kernel
theorem qd_C_addProduction_178 : decode qc_C_addProduction 178 = .ok (.iload 12, 2) := by decide +kernel
theorem qd_C_addProduction_180 : decode qc_C_addProduction 180 = .ok (.i2l, 1) := by decide +kernel
theorem qd_C_addProduction_181 : decode qc_C_addProduction 181 = .ok (.iload 11, 2) := by decide +kernel
theorem qd_C_addProduction_183 : decode qc_C_addProduction 183 = .ok (.i2l, 1) := by decide +kernel
theorem qd_C_addProduction_184 : decode qc_C_addProduction 184 = .ok (.lmul, 1) := by decide +kernel
theorem qd_C_addProduction_185 : decode qc_C_addProduction 185 = .ok (.ladd, 1) := by decide +kernel
theorem qd_C_addProduction_186 : decode qc_C_addProduction 186 = .ok (.invokestatic 99, 3) := by decide +kernel
theorem qd_C_addProduction_189 : decode qc_C_addProduction 189 = .ok (.istore 6, 2) := by decide +kernel
theorem qd_C_addProduction_191 : decode qc_C_addProduction 191 = .ok (.iload 7, 2) := by decide +kernel
theorem qd_C_addProduction_193 : decode qc_C_addProduction 193 = .ok (.iload 13, 2) := by decide +kernel
theorem qd_C_addProduction_195 : decode qc_C_addProduction 195 = .ok (.invokestatic 103, 3) := by decide +kernel
theorem qd_C_addProduction_198 : decode qc_C_addProduction 198 = .ok (.istore 7, 2) := by decide +kernel
theorem qd_C_addProduction_200 : decode qc_C_addProduction 200 = .ok (.iinc 9 1, 3) := by decide +kernel
theorem qd_C_addProduction_203 : decode qc_C_addProduction 203 = .ok (.goto (-139), 3) := by decide +kernel
theorem qd_C_addProduction_206 : decode qc_C_addProduction 206 = .ok (.aload_n 0, 1) := by decide +kernel
theorem qd_C_addProduction_207 : decode qc_C_addProduction 207 = .ok (.iload 4, 2) := by decide +kernel
theorem qd_C_addProduction_209 : decode qc_C_addProduction 209 = .ok (.iload_n 2, 1) := by decide +kernel
theorem qd_C_addProduction_210 : decode qc_C_addProduction 210 = .ok (.iload_n 3, 1) := by decide +kernel
theorem qd_C_addProduction_211 : decode qc_C_addProduction 211 = .ok (.iload 6, 2) := by decide +kernel
theorem qd_C_addProduction_213 : decode qc_C_addProduction 213 = .ok (.iload 7, 2) := by decide +kernel
theorem qd_C_addProduction_215 : decode qc_C_addProduction 215 = .ok (.invokevirtual 56, 3) := by decide +kernel
theorem qd_C_addProduction_218 : decode qc_C_addProduction 218 = .ok (.return_, 1) := by decide +kernel
set_option maxHeartbeats 4000000 in
set_option maxRecDepth 100000 in
theorem c_C_addProduction (l : Launch) (dC : Nat → ClassId) (dI : Nat → Nat → Nat) (cA : ClassId) (N_ : Nat) (aC aCn aCc aCr aCs aG aGh aGi aGc aGo aGr aR aRt : Nat) (sz : Nat) (vCF : Int32) (vCn : (Nat → Int32)) (vCc : (Nat → Int32)) (vCr : (Nat → Int32)) (vCs : (Nat → Int32)) (vGF : Int32) (vGS : Int32) (vGh : (Nat → Int32)) (vGi : (Nat → Int32)) (vGc : (Nat → Int32)) (vRL : Int32) (vRt : (Nat → Int32)) (p0 : Int32) (p1 : Int32) (p2 : Int32) (ho : o_C_addProduction N_ vCn vCc vCr vCs vGS vGh vGi vGc vRL vRt p0 p1 p2) : Met l qy_C_addProduction qw_C_addProduction ({ frames := 2, cells := 0, slots := 0, locals := 48 }) (va_Pc [.ref aC, .int p0, .int p1, .int p2] (fun U => U.heap.size = sz ∧ xP (dC, dI) [(cA, .int)] [(aC, .inr (0, [.ref aG, .ref aR, .ref aCn, .ref aCc, .ref aCr, .ref aCs, .int vCF])), (aCn, .inl (cA, 5760, .inl (vCn))), (aCc, .inl (cA, 5760, .inl (vCc))), (aCr, .inl (cA, 600, .inl (vCr))), (aCs, .inl (cA, 600, .inl (vCs))), (aG, .inr (2, [.ref aGh, .ref aGi, .ref aGc, .ref aGo, .ref aGr, .int vGF, .int vGS])), (aGh, .inl (cA, 24, .inl (vGh))), (aGi, .inl (cA, 72, .inl (vGi))), (aGc, .inl (cA, 24, .inl (vGc))), (aR, .inr (4, [.ref aRt, .int vRL])), (aRt, .inl (cA, 24, .inl (vRt)))] nestN U ∧ va_D (fun _ => True) [(aC, .inr (0, [.ref aG, .ref aR, .ref aCn, .ref aCc, .ref aCr, .ref aCs, .int vCF])), (aCn, .inl (cA, 5760, .inl (vCn))), (aCc, .inl (cA, 5760, .inl (vCc))), (aCr, .inl (cA, 600, .inl (vCr))), (aCs, .inl (cA, 600, .inl (vCs))), (aG, .inr (2, [.ref aGh, .ref aGi, .ref aGc, .ref aGo, .ref aGr, .int vGF, .int vGS])), (aGh, .inl (cA, 24, .inl (vGh))), (aGi, .inl (cA, 72, .inl (vGi))), (aGc, .inl (cA, 24, .inl (vGc))), (aR, .inr (4, [.ref aRt, .int vRL])), (aRt, .inl (cA, 24, .inl (vRt)))])) (va_Qv (fun u => u = f_C_addProduction N_ vCn vCc vCr vCs vGS vGh vGi vGc vRL vRt p0 p1 p2) (fun (u : (Nat → Int32) × (Nat → Int32)) t => xP (dC, dI) [(cA, .int)] [(aC, .inr (0, [.ref aG, .ref aR, .ref aCn, .ref aCc, .ref aCr, .ref aCs, .int vCF])), (aCn, .inl (cA, 5760, .inl (u.1))), (aCc, .inl (cA, 5760, .inl (u.2))), (aCr, .inl (cA, 600, .inl (vCr))), (aCs, .inl (cA, 600, .inl (vCs))), (aG, .inr (2, [.ref aGh, .ref aGi, .ref aGc, .ref aGo, .ref aGr, .int vGF, .int vGS])), (aGh, .inl (cA, 24, .inl (vGh))), (aGi, .inl (cA, 72, .inl (vGi))), (aGc, .inl (cA, 24, .inl (vGc))), (aR, .inr (4, [.ref aRt, .int vRL])), (aRt, .inl (cA, 24, .inl (vRt)))] nestN t ∧ va_D (va_A [(aC, .inr (0, [.ref aG, .ref aR, .ref aCn, .ref aCc, .ref aCr, .ref aCs, .int vCF])), (aCn, .inl (cA, 5760, .inl (vCn))), (aCc, .inl (cA, 5760, .inl (vCc))), (aCr, .inl (cA, 600, .inl (vCr))), (aCs, .inl (cA, 600, .inl (vCs))), (aG, .inr (2, [.ref aGh, .ref aGi, .ref aGc, .ref aGo, .ref aGr, .int vGF, .int vGS])), (aGh, .inl (cA, 24, .inl (vGh))), (aGi, .inl (cA, 72, .inl (vGi))), (aGc, .inl (cA, 24, .inl (vGc))), (aR, .inr (4, [.ref aRt, .int vRL])), (aRt, .inl (cA, 24, .inl (vRt)))] sz) [(aC, .inr (0, [.ref aG, .ref aR, .ref aCn, .ref aCc, .ref aCr, .ref aCs, .int vCF])), (aCn, .inl (cA, 5760, .inl (u.1))), (aCc, .inl (cA, 5760, .inl (u.2))), (aCr, .inl (cA, 600, .inl (vCr))), (aCs, .inl (cA, 600, .inl (vCs))), (aG, .inr (2, [.ref aGh, .ref aGi, .ref aGc, .ref aGo, .ref aGr, .int vGF, .int vGS])), (aGh, .inl (cA, 24, .inl (vGh))), (aGi, .inl (cA, 72, .inl (vGi))), (aGc, .inl (cA, 24, .inl (vGc))), (aR, .inr (4, [.ref aRt, .int vRL])), (aRt, .inl (cA, 24, .inl (vRt)))]) (va_A [(aC, .inr (0, [.ref aG, .ref aR, .ref aCn, .ref aCc, .ref aCr, .ref aCs, .int vCF])), (aCn, .inl (cA, 5760, .inl (vCn))), (aCc, .inl (cA, 5760, .inl (vCc))), (aCr, .inl (cA, 600, .inl (vCr))), (aCs, .inl (cA, 600, .inl (vCs))), (aG, .inr (2, [.ref aGh, .ref aGi, .ref aGc, .ref aGo, .ref aGr, .int vGF, .int vGS])), (aGh, .inl (cA, 24, .inl (vGh))), (aGi, .inl (cA, 72, .inl (vGi))), (aGc, .inl (cA, 24, .inl (vGc))), (aR, .inr (4, [.ref aRt, .int vRL])), (aRt, .inl (cA, 24, .inl (vRt)))] sz)) 0 0 (va_A [(aC, .inr (0, [.ref aG, .ref aR, .ref aCn, .ref aCc, .ref aCr, .ref aCs, .int vCF])), (aCn, .inl (cA, 5760, .inl (vCn))), (aCc, .inl (cA, 5760, .inl (vCc))), (aCr, .inl (cA, 600, .inl (vCr))), (aCs, .inl (cA, 600, .inl (vCs))), (aG, .inr (2, [.ref aGh, .ref aGi, .ref aGc, .ref aGo, .ref aGr, .int vGF, .int vGS])), (aGh, .inl (cA, 24, .inl (vGh))), (aGi, .inl (cA, 72, .inl (vGi))), (aGc, .inl (cA, 24, .inl (vGc))), (aR, .inr (4, [.ref aRt, .int vRL])), (aRt, .inl (cA, 24, .inl (vRt)))] sz) := by
  refine Met.ofW (cc := qc_C_addProduction) (maxL := 14) (ret := (none)) (by decide) rfl ?_
  intro p e s m args below meth c s₁ B hml hv
  obtain ⟨rfl, hsz, ⟨hP, hK, hN⟩, hD0⟩ := hv
  have hx := B.exec
  have hb := B.bytes
  have hr := B.returns
  have hts := atoms_spec (ws := qw_C_addProduction) B.pre
  have hg : ∀ w ∈ gG, w.before _ s = true := fun w h => hts w (List.mem_cons_of_mem _ h)
  have hown : s.vm.findClass qR_C = some m.cls := findClass_of_methodNamed B.named
  have hlocks := B.notSynchronized
  subst hsz
  have hD := hD0.self (sz := s.heap.size)
  generalize hAe : va_A [(aC, .inr (0, [.ref aG, .ref aR, .ref aCn, .ref aCc, .ref aCr, .ref aCs, .int vCF])), (aCn, .inl (cA, 5760, .inl (vCn))), (aCc, .inl (cA, 5760, .inl (vCc))), (aCr, .inl (cA, 600, .inl (vCr))), (aCs, .inl (cA, 600, .inl (vCs))), (aG, .inr (2, [.ref aGh, .ref aGi, .ref aGc, .ref aGo, .ref aGr, .int vGF, .int vGS])), (aGh, .inl (cA, 24, .inl (vGh))), (aGi, .inl (cA, 72, .inl (vGi))), (aGc, .inl (cA, 24, .inl (vGc))), (aR, .inr (4, [.ref aRt, .int vRL])), (aRt, .inl (cA, 24, .inl (vRt)))] s.heap.size = A at hD ⊢
  have hA : ∀ q : Nat, s.heap.size ≤ q → A q := fun q h => by rw [← hAe]; exact Or.inr h
  have hS : va_S A s.heap s.heap [] := va_S.rf
  have hP : va_P (dC, dI) vwCl [(aC, .inr (0, [.ref aG, .ref aR, .ref aCn, .ref aCc, .ref aCr, .ref aCs, .int vCF])), (aCn, .inl (cA, 5760, .inl (vCn))), (aCc, .inl (cA, 5760, .inl (vCc))), (aCr, .inl (cA, 600, .inl (vCr))), (aCs, .inl (cA, 600, .inl (vCs))), (aG, .inr (2, [.ref aGh, .ref aGi, .ref aGc, .ref aGo, .ref aGr, .int vGF, .int vGS])), (aGh, .inl (cA, 24, .inl (vGh))), (aGi, .inl (cA, 72, .inl (vGi))), (aGc, .inl (cA, 24, .inl (vGc))), (aR, .inr (4, [.ref aRt, .int vRL])), (aRt, .inl (cA, 24, .inl (vRt)))] s.heap := hP
  have hl := lv_entry ([.ref aC, .int p0, .int p1, .int p2]) (n := 14) (Nat.le_of_ble_eq_true rfl)
  rw [lg_entry_eq]
  generalize (lg_sl ([.ref aC, .int p0, .int p1, .int p2]) ++ List.replicate (14 - (lg_sl ([.ref aC, .int p0, .int p1, .int p2])).length) Slot.unset).toArray = ls at hl ⊢
  have hl : lv_has ls 14 [(0, .ref aC), (1, .int p0), (2, .int p1), (3, .int p2)] := hl
  generalize hF : f_C_addProduction N_ vCn vCc vCr vCs vGS vGh vGi vGc vRL vRt p0 p1 p2 = Fv
  have hres : Fv = f_C_addProduction N_ vCn vCc vCr vCs vGS vGh vGi vGc vRL vRt p0 p1 p2 := hF.symm
  unfold f_C_addProduction at hres
  unfold o_C_addProduction at ho
  generalize hQ : MQ _ _ _ _ _ _ _ = Qg
  refine lv_aload_n hx hb qd_C_addProduction_0 rfl (lv_at hl 0 rfl) ?_
  refine va_get (D := (dC, dI)) (ci := 0) (v := .ref aG) (C := qR_C) (T := qT_C) (N := 7) hx hb hg qi_C hown hK hP 0 rfl rfl 0 (by decide) (hg _ mw_62) (fun _ h9 => h9) rfl qd_C_addProduction_1 ?_
  refine lv_iload_n hx hb qd_C_addProduction_4 rfl (lv_at hl 1 rfl) ?_
  obtain ⟨g_5, ho⟩ := ho
  refine xc_V (As := [.int p0]) (rest := []) ⟨hx, hb, hml, hown, hg⟩ (c_G_head l dC dI cA aG aGh aGi aGc aGo aGr vGF vGS vGh p0 g_5) (cwV 1 hg (q_gV mw_422 mw_423 mw_424 mw_2 mw_425) rfl rfl rfl qh_G_head ⟨Nat.le_of_ble_eq_true rfl, Nat.le_of_ble_eq_true rfl⟩) hN hK hP [5, 6] rfl 0 2 rfl rfl rfl hl.1 rfl (Nat.le_of_ble_eq_true rfl) qd_C_addProduction_5 ⟨Nat.zero_le _, Nat.zero_le _⟩ ?_
  refine lv_topi (fun r_5 w_5 => ?_)
  have hres := hres.trans (bd_eq w_5)
  have ho := (bd_eq w_5).mp ho
  refine lv_istore (lv' := [(4, .int r_5), (0, .ref aC), (1, .int p0), (2, .int p1), (3, .int p2)]) hx hb qd_C_addProduction_8 hl (by decide) rfl (fun ls hl => ?_)
  refine lv_aload_n hx hb qd_C_addProduction_10 rfl (lv_at hl 1 rfl) ?_
  refine va_get (D := (dC, dI)) (ci := 0) (v := .ref aG) (C := qR_C) (T := qT_C) (N := 7) hx hb hg qi_C hown hK hP 0 rfl rfl 0 (by decide) (hg _ mw_62) (fun _ h9 => h9) rfl qd_C_addProduction_11 ?_
  refine lv_iload_n hx hb qd_C_addProduction_14 rfl (lv_at hl 2 rfl) ?_
  refine lv_iconst (v := 0) hx hb qd_C_addProduction_15 (by decide) ?_
  obtain ⟨g_16, ho⟩ := ho
  refine xc_V (As := [.int p0, .int 0]) (rest := []) ⟨hx, hb, hml, hown, hg⟩ (c_G_item l dC dI cA aG aGh aGi aGc aGo aGr vGF vGS vGi p0 0 g_16) (cwV 2 hg (q_gV mw_375 mw_301 mw_302 mw_2 mw_303) rfl rfl rfl qh_G_item ⟨Nat.le_of_ble_eq_true rfl, Nat.le_of_ble_eq_true rfl⟩) hN hK hP [5, 7] rfl 0 2 rfl rfl rfl hl.1 rfl (Nat.le_of_ble_eq_true rfl) qd_C_addProduction_16 ⟨Nat.zero_le _, Nat.zero_le _⟩ ?_
  refine lv_topi (fun r_16 w_16 => ?_)
  have hres := hres.trans (bd_eq w_16)
  have ho := (bd_eq w_16).mp ho
  refine lv_istore (lv' := [(5, .int r_16), (4, .int r_5), (0, .ref aC), (1, .int p0), (2, .int p1), (3, .int p2)]) hx hb qd_C_addProduction_19 hl (by decide) rfl (fun ls hl => ?_)
  refine lv_aload_n hx hb qd_C_addProduction_21 rfl (lv_at hl 2 rfl) ?_
  refine lv_iload hx hb qd_C_addProduction_22 (lv_at hl 1 rfl) ?_
  refine lv_iload_n hx hb qd_C_addProduction_24 rfl (lv_at hl 4 rfl) ?_
  refine lv_iload_n hx hb qd_C_addProduction_25 rfl (lv_at hl 5 rfl) ?_
  obtain ⟨g_26, ho⟩ := ho
  refine xc_V (As := [.int r_5, .int p1, .int p2]) (rest := []) ⟨hx, hb, hml, hown, hg⟩ (c_C_trees l dC dI cA aC aCn aCc aCr aCs aG aR aRt vCF vCn vRL vRt r_5 p1 p2 g_26) (cwV 3 hg (q_gV mw_384 mw_385 mw_386 mw_4 mw_387) rfl rfl rfl qh_C_trees ⟨Nat.le_of_ble_eq_true rfl, Nat.le_of_ble_eq_true rfl⟩) hN hK hP [0, 1, 9, 10] rfl 0 0 rfl rfl rfl hl.1 rfl (Nat.le_of_ble_eq_true rfl) qd_C_addProduction_26 ⟨Nat.zero_le _, Nat.zero_le _⟩ ?_
  refine lv_topi (fun r_26 w_26 => ?_)
  have hres := hres.trans (bd_eq w_26)
  have ho := (bd_eq w_26).mp ho
  refine lv_istore (lv' := [(6, .int r_26), (5, .int r_16), (4, .int r_5), (0, .ref aC), (1, .int p0), (2, .int p1), (3, .int p2)]) hx hb qd_C_addProduction_29 hl (by decide) rfl (fun ls hl => ?_)
  refine lv_aload_n hx hb qd_C_addProduction_31 rfl (lv_at hl 3 rfl) ?_
  refine lv_iload hx hb qd_C_addProduction_32 (lv_at hl 2 rfl) ?_
  refine lv_iload_n hx hb qd_C_addProduction_34 rfl (lv_at hl 5 rfl) ?_
  refine lv_iload_n hx hb qd_C_addProduction_35 rfl (lv_at hl 6 rfl) ?_
  obtain ⟨g_36, ho⟩ := ho
  refine xc_V (As := [.int r_5, .int p1, .int p2]) (rest := []) ⟨hx, hb, hml, hown, hg⟩ (c_C_leastCost l dC dI cA aC aCn aCc aCr aCs aG aR vCF vCc r_5 p1 p2 g_36) (cwV 3 hg (q_gV mw_395 mw_396 mw_397 mw_4 mw_398) rfl rfl rfl qh_C_leastCost ⟨Nat.le_of_ble_eq_true rfl, Nat.le_of_ble_eq_true rfl⟩) hN hK hP [0, 2] rfl 0 0 rfl rfl rfl hl.1 rfl (Nat.le_of_ble_eq_true rfl) qd_C_addProduction_36 ⟨Nat.zero_le _, Nat.zero_le _⟩ ?_
  refine lv_topi (fun r_36 w_36 => ?_)
  have hres := hres.trans (bd_eq w_36)
  have ho := (bd_eq w_36).mp ho
  refine lv_istore (lv' := [(7, .int r_36), (6, .int r_26), (5, .int r_16), (4, .int r_5), (0, .ref aC), (1, .int p0), (2, .int p1), (3, .int p2)]) hx hb qd_C_addProduction_39 hl (by decide) rfl (fun ls hl => ?_)
  refine lv_aload_n hx hb qd_C_addProduction_41 rfl (lv_at hl 4 rfl) ?_
  refine va_get (D := (dC, dI)) (ci := 0) (v := .ref aG) (C := qR_C) (T := qT_C) (N := 7) hx hb hg qi_C hown hK hP 0 rfl rfl 0 (by decide) (hg _ mw_62) (fun _ h9 => h9) rfl qd_C_addProduction_42 ?_
  refine lv_iload_n hx hb qd_C_addProduction_45 rfl (lv_at hl 5 rfl) ?_
  refine lv_iload_n hx hb qd_C_addProduction_46 rfl (lv_at hl 7 rfl) ?_
  obtain ⟨g_47, ho⟩ := ho
  refine xc_V (As := [.int p0, .int p2]) (rest := []) ⟨hx, hb, hml, hown, hg⟩ (c_G_lastFirstEnd l dC dI cA aG aGh aGi aGc aGo aGr vGF vGS vGi p0 p2 g_47) (cwV 2 hg (q_gV mw_426 mw_427 mw_428 mw_2 mw_429) rfl rfl rfl qh_G_lastFirstEnd ⟨Nat.le_of_ble_eq_true rfl, Nat.le_of_ble_eq_true rfl⟩) hN hK hP [5, 7] rfl 0 2 rfl rfl rfl hl.1 rfl (Nat.le_of_ble_eq_true rfl) qd_C_addProduction_47 ⟨Nat.zero_le _, Nat.zero_le _⟩ ?_
  refine lv_topi (fun r_47 w_47 => ?_)
  have hres := hres.trans (bd_eq w_47)
  have ho := (bd_eq w_47).mp ho
  refine lv_istore (lv' := [(8, .int r_47), (7, .int r_36), (6, .int r_26), (5, .int r_16), (4, .int r_5), (0, .ref aC), (1, .int p0), (2, .int p1), (3, .int p2)]) hx hb qd_C_addProduction_50 hl (by decide) rfl (fun ls hl => ?_)
  refine lv_aload_n hx hb qd_C_addProduction_52 rfl (lv_at hl 5 rfl) ?_
  refine va_get (D := (dC, dI)) (ci := 0) (v := .ref aG) (C := qR_C) (T := qT_C) (N := 7) hx hb hg qi_C hown hK hP 0 rfl rfl 0 (by decide) (hg _ mw_62) (fun _ h9 => h9) rfl qd_C_addProduction_53 ?_
  refine lv_iload_n hx hb qd_C_addProduction_56 rfl (lv_at hl 6 rfl) ?_
  refine lv_iload_n hx hb qd_C_addProduction_57 rfl (lv_at hl 7 rfl) ?_
  refine lv_iload_n hx hb qd_C_addProduction_58 rfl (lv_at hl 8 rfl) ?_
  obtain ⟨g_59, ho⟩ := ho
  refine xc_V (As := [.int p0, .int p1, .int p2]) (rest := []) ⟨hx, hb, hml, hown, hg⟩ (c_G_leastFirstEnd l dC dI cA aG aGh aGi aGc aGo aGr vGF vGS vGi p0 p1 p2 g_59) (cwV 3 hg (q_gV mw_430 mw_431 mw_432 mw_2 mw_433) rfl rfl rfl qh_G_leastFirstEnd ⟨Nat.le_of_ble_eq_true rfl, Nat.le_of_ble_eq_true rfl⟩) hN hK hP [5, 7] rfl 0 2 rfl rfl rfl hl.1 rfl (Nat.le_of_ble_eq_true rfl) qd_C_addProduction_59 ⟨Nat.zero_le _, Nat.zero_le _⟩ ?_
  refine lv_topi (fun r_59 w_59 => ?_)
  have hres := hres.trans (bd_eq w_59)
  have ho := (bd_eq w_59).mp ho
  refine lv_istore (lv' := [(9, .int r_59), (8, .int r_47), (7, .int r_36), (6, .int r_26), (5, .int r_16), (4, .int r_5), (0, .ref aC), (1, .int p0), (2, .int p1), (3, .int p2)]) hx hb qd_C_addProduction_62 hl (by decide) rfl (fun ls hl => ?_)
  have L_64 : ∀ (K_ : Int32 → Int32 → Int32 → (Nat → Int32) × (Nat → Int32)) (Ko_ : Int32 → Int32 → Int32 → Prop) (hk : ∀ (x6_64 : Int32) (x7_64 : Int32) (x9_64 : Int32) (H : Heap) (locs : List Loc) (ls : Array Slot), va_P (dC, dI) vwCl [(aC, .inr (0, [.ref aG, .ref aR, .ref aCn, .ref aCc, .ref aCr, .ref aCs, .int vCF])), (aCn, .inl (cA, 5760, .inl (vCn))), (aCc, .inl (cA, 5760, .inl (vCc))), (aCr, .inl (cA, 600, .inl (vCr))), (aCs, .inl (cA, 600, .inl (vCs))), (aG, .inr (2, [.ref aGh, .ref aGi, .ref aGc, .ref aGo, .ref aGr, .int vGF, .int vGS])), (aGh, .inl (cA, 24, .inl (vGh))), (aGi, .inl (cA, 72, .inl (vGi))), (aGc, .inl (cA, 24, .inl (vGc))), (aR, .inr (4, [.ref aRt, .int vRL])), (aRt, .inl (cA, 24, .inl (vRt)))] H → va_D A [(aC, .inr (0, [.ref aG, .ref aR, .ref aCn, .ref aCc, .ref aCr, .ref aCs, .int vCF])), (aCn, .inl (cA, 5760, .inl (vCn))), (aCc, .inl (cA, 5760, .inl (vCc))), (aCr, .inl (cA, 600, .inl (vCr))), (aCs, .inl (cA, 600, .inl (vCs))), (aG, .inr (2, [.ref aGh, .ref aGi, .ref aGc, .ref aGo, .ref aGr, .int vGF, .int vGS])), (aGh, .inl (cA, 24, .inl (vGh))), (aGi, .inl (cA, 72, .inl (vGi))), (aGc, .inl (cA, 24, .inl (vGc))), (aR, .inr (4, [.ref aRt, .int vRL])), (aRt, .inl (cA, 24, .inl (vRt)))] → va_S A s.heap H locs → lv_has ls 14 [(9, .int x9_64), (8, .int r_47), (7, .int x7_64), (6, .int x6_64), (5, .int r_16), (4, .int r_5), (0, .ref aC), (1, .int p0), (2, .int p1), (3, .int p2)] → Fv = K_ x6_64 x7_64 x9_64 → Ko_ x6_64 x7_64 x9_64 → W p l e ({ frames := 2, cells := 0, slots := 0, locals := 48 } : Room) s m (([.ref aC, .int p0, .int p1, .int p2] : List Value).toArray) below meth c H locs 0 0 Qg (F0 m 206 ls [])) (n : Nat) (x6_64 : Int32) (x7_64 : Int32) (x9_64 : Int32) (H : Heap) (locs : List Loc) (ls : Array Slot), va_P (dC, dI) vwCl [(aC, .inr (0, [.ref aG, .ref aR, .ref aCn, .ref aCc, .ref aCr, .ref aCs, .int vCF])), (aCn, .inl (cA, 5760, .inl (vCn))), (aCc, .inl (cA, 5760, .inl (vCc))), (aCr, .inl (cA, 600, .inl (vCr))), (aCs, .inl (cA, 600, .inl (vCs))), (aG, .inr (2, [.ref aGh, .ref aGi, .ref aGc, .ref aGo, .ref aGr, .int vGF, .int vGS])), (aGh, .inl (cA, 24, .inl (vGh))), (aGi, .inl (cA, 72, .inl (vGi))), (aGc, .inl (cA, 24, .inl (vGc))), (aR, .inr (4, [.ref aRt, .int vRL])), (aRt, .inl (cA, 24, .inl (vRt)))] H → va_D A [(aC, .inr (0, [.ref aG, .ref aR, .ref aCn, .ref aCc, .ref aCr, .ref aCs, .int vCF])), (aCn, .inl (cA, 5760, .inl (vCn))), (aCc, .inl (cA, 5760, .inl (vCc))), (aCr, .inl (cA, 600, .inl (vCr))), (aCs, .inl (cA, 600, .inl (vCs))), (aG, .inr (2, [.ref aGh, .ref aGi, .ref aGc, .ref aGo, .ref aGr, .int vGF, .int vGS])), (aGh, .inl (cA, 24, .inl (vGh))), (aGi, .inl (cA, 72, .inl (vGi))), (aGc, .inl (cA, 24, .inl (vGc))), (aR, .inr (4, [.ref aRt, .int vRL])), (aRt, .inl (cA, 24, .inl (vRt)))] → va_S A s.heap H locs → lv_has ls 14 [(9, .int x9_64), (8, .int r_47), (7, .int x7_64), (6, .int x6_64), (5, .int r_16), (4, .int r_5), (0, .ref aC), (1, .int p0), (2, .int p1), (3, .int p2)] → Fv = l_C_addProduction_64 p0 p1 r_16 r_47 vCn vCc vCr vCs vGS vGc vRL vRt K_ n x6_64 x7_64 x9_64 → ol_C_addProduction_64 p0 p1 r_16 r_47 vCn vCc vCr vCs vGS vGc vRL vRt Ko_ n x6_64 x7_64 x9_64 → W p l e ({ frames := 2, cells := 0, slots := 0, locals := 48 } : Room) s m (([.ref aC, .int p0, .int p1, .int p2] : List Value).toArray) below meth c H locs 0 0 Qg (F0 m 64 ls []) := by
    intro K_ Ko_ hk n
    induction n with
    | zero => intro x6_64 x7_64 x9_64 H locs ls hP hD hS hl hres ho; exact ho.elim
    | succ n ih =>
      intro x6_64 x7_64 x9_64 H locs ls hP hD hS hl hres ho
      rw [l_C_addProduction_64, s_C_addProduction_64] at hres
      rw [ol_C_addProduction_64, os_C_addProduction_64] at ho
      refine lv_iload hx hb qd_C_addProduction_64 (lv_at hl 0 rfl) ?_
      refine lv_iload hx hb qd_C_addProduction_66 (lv_at hl 1 rfl) ?_
      refine lv_icmp_gt (tgt := 206) hx hb qd_C_addProduction_68 (by decide) (fun c_68 => ?_) (fun c_68 => ?_)
      · have hres := hres.trans (if_pos c_68)
        have ho := (if_pos c_68).mp ho
        exact hk x6_64 x7_64 x9_64 H locs ls hP hD hS (lv_sub hl [0, 1, 2, 3, 4, 5, 6, 7, 8, 9] rfl) hres ho
      have hres := hres.trans (if_neg c_68)
      have ho := (if_neg c_68).mp ho
      refine lv_iload_n hx hb qd_C_addProduction_71 rfl (lv_at hl 7 rfl) ?_
      refine lv_iload hx hb qd_C_addProduction_72 (lv_at hl 0 rfl) ?_
      refine xc_S (As := [.int p0, .int x9_64]) (rest := []) ⟨hx, hb, hml, hown, hg⟩ (c_C_restCell l dC dI cA p0 x9_64) (va_cwS 2 hg (q_gS mw_406 mw_407 mw_4 mw_408) rfl rfl rfl qh_C_restCell.2 ⟨Nat.le_of_ble_eq_true rfl, Nat.le_of_ble_eq_true rfl⟩) hN hK hP [] rfl rfl hl.1 rfl (Nat.le_of_ble_eq_true rfl) qd_C_addProduction_74 ⟨Nat.zero_le _, Nat.zero_le _⟩ ?_
      refine lv_topi (fun r_74 w_74 => ?_)
      have hres := hres.trans (bd_eq w_74)
      have ho := (bd_eq w_74).mp ho
      refine lv_istore (lv' := [(10, .int r_74), (9, .int x9_64), (8, .int r_47), (7, .int x7_64), (6, .int x6_64), (5, .int r_16), (4, .int r_5), (0, .ref aC), (1, .int p0), (2, .int p1), (3, .int p2)]) hx hb qd_C_addProduction_77 hl (by decide) rfl (fun ls hl => ?_)
      refine lv_iload hx hb qd_C_addProduction_79 (lv_at hl 0 rfl) ?_
      refine lv_if_lt (tgt := 104) hx hb qd_C_addProduction_81 (by decide) (fun c_81 => ?_) (fun c_81 => ?_)
      · have hres := hres.trans (if_pos c_81)
        have ho := (if_pos c_81).mp ho
        refine lv_iconst (v := 0) hx hb qd_C_addProduction_104 (by decide) ?_
        refine lv_istore (lv' := [(11, .int 0), (10, .int r_74), (9, .int x9_64), (8, .int r_47), (7, .int x7_64), (6, .int x6_64), (5, .int r_16), (4, .int r_5), (0, .ref aC), (1, .int p0), (2, .int p1), (3, .int p2)]) hx hb qd_C_addProduction_105 hl (by decide) rfl (fun ls hl => ?_)
        refine lv_iload hx hb qd_C_addProduction_107 (lv_at hl 0 rfl) ?_
        refine lv_if_le (tgt := 124) hx hb qd_C_addProduction_109 (by decide) (fun c_109 => ?_) (fun c_109 => ?_)
        rotate_left
        · exact absurd (by decide) c_109
        refine lv_iconst (v := 0) hx hb qd_C_addProduction_124 (by decide) ?_
        refine lv_istore (lv' := [(12, .int 0), (11, .int 0), (10, .int r_74), (9, .int x9_64), (8, .int r_47), (7, .int x7_64), (6, .int x6_64), (5, .int r_16), (4, .int r_5), (0, .ref aC), (1, .int p0), (2, .int p1), (3, .int p2)]) hx hb qd_C_addProduction_125 hl (by decide) rfl (fun ls hl => ?_)
        refine lv_iload hx hb qd_C_addProduction_127 (lv_at hl 0 rfl) ?_
        refine lv_if_le (tgt := 200) hx hb qd_C_addProduction_129 (by decide) (fun c_129 => ?_) (fun c_129 => ?_)
        rotate_left
        · exact absurd (by decide) c_129
        refine lv_iinc (v := x9_64 + 1) (lv' := [(9, .int (x9_64 + 1)), (12, .int 0), (11, .int 0), (10, .int r_74), (8, .int r_47), (7, .int x7_64), (6, .int x6_64), (5, .int r_16), (4, .int r_5), (0, .ref aC), (1, .int p0), (2, .int p1), (3, .int p2)]) hx hb qd_C_addProduction_200 hl (k := 3) rfl (congrArg (fun z => _ + z) (by decide)) (by decide) rfl (fun ls hl => ?_)
        refine lv_goto (tgt := 64) hx hb qd_C_addProduction_203 (by decide) ?_
        exact ih x6_64 x7_64 (x9_64 + 1) H locs ls hP hD hS (lv_sub hl [0, 4, 5, 6, 7, 8, 9, 10, 11, 12] rfl) hres ho
      have hres := hres.trans (if_neg c_81)
      have ho := (if_neg c_81).mp ho
      refine lv_iload hx hb qd_C_addProduction_84 (lv_at hl 0 rfl) ?_
      refine lv_aload_n hx hb qd_C_addProduction_86 rfl (lv_at hl 7 rfl) ?_
      refine va_get (D := (dC, dI)) (ci := 0) (v := .ref aCr) (C := qR_C) (T := qT_C) (N := 7) hx hb hg qi_C hown hK hP 0 rfl rfl 4 (by decide) (hg _ mw_66) (fun _ h9 => h9) rfl qd_C_addProduction_87 ?_
      refine va_alen (v := 600) hx hb hK hP 3 0 rfl rfl (show Int32.ofNat 600 = 600 by decide) qd_C_addProduction_90 ?_
      refine lv_icmp_ge (tgt := 104) hx hb qd_C_addProduction_91 (by decide) (fun c_91 => ?_) (fun c_91 => ?_)
      · have hres := hres.trans (if_pos c_91)
        have ho := (if_pos c_91).mp ho
        refine lv_iconst (v := 0) hx hb qd_C_addProduction_104 (by decide) ?_
        refine lv_istore (lv' := [(11, .int 0), (10, .int r_74), (9, .int x9_64), (8, .int r_47), (7, .int x7_64), (6, .int x6_64), (5, .int r_16), (4, .int r_5), (0, .ref aC), (1, .int p0), (2, .int p1), (3, .int p2)]) hx hb qd_C_addProduction_105 hl (by decide) rfl (fun ls hl => ?_)
        refine lv_iload hx hb qd_C_addProduction_107 (lv_at hl 0 rfl) ?_
        refine lv_if_le (tgt := 124) hx hb qd_C_addProduction_109 (by decide) (fun c_109 => ?_) (fun c_109 => ?_)
        rotate_left
        · exact absurd (by decide) c_109
        refine lv_iconst (v := 0) hx hb qd_C_addProduction_124 (by decide) ?_
        refine lv_istore (lv' := [(12, .int 0), (11, .int 0), (10, .int r_74), (9, .int x9_64), (8, .int r_47), (7, .int x7_64), (6, .int x6_64), (5, .int r_16), (4, .int r_5), (0, .ref aC), (1, .int p0), (2, .int p1), (3, .int p2)]) hx hb qd_C_addProduction_125 hl (by decide) rfl (fun ls hl => ?_)
        refine lv_iload hx hb qd_C_addProduction_127 (lv_at hl 0 rfl) ?_
        refine lv_if_le (tgt := 200) hx hb qd_C_addProduction_129 (by decide) (fun c_129 => ?_) (fun c_129 => ?_)
        rotate_left
        · exact absurd (by decide) c_129
        refine lv_iinc (v := x9_64 + 1) (lv' := [(9, .int (x9_64 + 1)), (12, .int 0), (11, .int 0), (10, .int r_74), (8, .int r_47), (7, .int x7_64), (6, .int x6_64), (5, .int r_16), (4, .int r_5), (0, .ref aC), (1, .int p0), (2, .int p1), (3, .int p2)]) hx hb qd_C_addProduction_200 hl (k := 3) rfl (congrArg (fun z => _ + z) (by decide)) (by decide) rfl (fun ls hl => ?_)
        refine lv_goto (tgt := 64) hx hb qd_C_addProduction_203 (by decide) ?_
        exact ih x6_64 x7_64 (x9_64 + 1) H locs ls hP hD hS (lv_sub hl [0, 4, 5, 6, 7, 8, 9, 10, 11, 12] rfl) hres ho
      have hres := hres.trans (if_neg c_91)
      have ho := (if_neg c_91).mp ho
      refine lv_aload_n hx hb qd_C_addProduction_94 rfl (lv_at hl 7 rfl) ?_
      refine va_get (D := (dC, dI)) (ci := 0) (v := .ref aCr) (C := qR_C) (T := qT_C) (N := 7) hx hb hg qi_C hown hK hP 0 rfl rfl 4 (by decide) (hg _ mw_66) (fun _ h9 => h9) rfl qd_C_addProduction_95 ?_
      refine lv_iload hx hb qd_C_addProduction_98 (lv_at hl 0 rfl) ?_
      obtain ⟨g_100, ho⟩ := ho
      refine va_iald hx hb hK hP 3 0 rfl rfl g_100 qd_C_addProduction_100 ?_
      refine lv_goto (tgt := 105) hx hb qd_C_addProduction_101 (by decide) ?_
      refine lv_istore (lv' := [(11, .int (vCr r_74.toNatClampNeg)), (10, .int r_74), (9, .int x9_64), (8, .int r_47), (7, .int x7_64), (6, .int x6_64), (5, .int r_16), (4, .int r_5), (0, .ref aC), (1, .int p0), (2, .int p1), (3, .int p2)]) hx hb qd_C_addProduction_105 hl (by decide) rfl (fun ls hl => ?_)
      refine lv_iload hx hb qd_C_addProduction_107 (lv_at hl 0 rfl) ?_
      refine lv_if_le (tgt := 124) hx hb qd_C_addProduction_109 (by decide) (fun c_109 => ?_) (fun c_109 => ?_)
      · have hres := hres.trans (if_pos c_109)
        have ho := (if_pos c_109).mp ho
        refine lv_iconst (v := 0) hx hb qd_C_addProduction_124 (by decide) ?_
        refine lv_istore (lv' := [(12, .int 0), (11, .int (vCr r_74.toNatClampNeg)), (10, .int r_74), (9, .int x9_64), (8, .int r_47), (7, .int x7_64), (6, .int x6_64), (5, .int r_16), (4, .int r_5), (0, .ref aC), (1, .int p0), (2, .int p1), (3, .int p2)]) hx hb qd_C_addProduction_125 hl (by decide) rfl (fun ls hl => ?_)
        refine lv_iload hx hb qd_C_addProduction_127 (lv_at hl 0 rfl) ?_
        refine lv_if_le (tgt := 200) hx hb qd_C_addProduction_129 (by decide) (fun c_129 => ?_) (fun c_129 => ?_)
        rotate_left
        · exact absurd (by decide) c_129
        refine lv_iinc (v := x9_64 + 1) (lv' := [(9, .int (x9_64 + 1)), (12, .int 0), (11, .int (vCr r_74.toNatClampNeg)), (10, .int r_74), (8, .int r_47), (7, .int x7_64), (6, .int x6_64), (5, .int r_16), (4, .int r_5), (0, .ref aC), (1, .int p0), (2, .int p1), (3, .int p2)]) hx hb qd_C_addProduction_200 hl (k := 3) rfl (congrArg (fun z => _ + z) (by decide)) (by decide) rfl (fun ls hl => ?_)
        refine lv_goto (tgt := 64) hx hb qd_C_addProduction_203 (by decide) ?_
        exact ih x6_64 x7_64 (x9_64 + 1) H locs ls hP hD hS (lv_sub hl [0, 4, 5, 6, 7, 8, 9, 10, 11, 12] rfl) hres ho
      have hres := hres.trans (if_neg c_109)
      have ho := (if_neg c_109).mp ho
      refine lv_aload_n hx hb qd_C_addProduction_112 rfl (lv_at hl 8 rfl) ?_
      refine lv_iload hx hb qd_C_addProduction_113 (lv_at hl 6 rfl) ?_
      refine lv_iload_n hx hb qd_C_addProduction_115 rfl (lv_at hl 10 rfl) ?_
      refine lv_iload hx hb qd_C_addProduction_116 (lv_at hl 2 rfl) ?_
      obtain ⟨g_118, ho⟩ := ho
      refine xc_V (As := [.int r_16, .int p1, .int x9_64]) (rest := []) ⟨hx, hb, hml, hown, hg⟩ (c_C_trees l dC dI cA aC aCn aCc aCr aCs aG aR aRt vCF vCn vRL vRt r_16 p1 x9_64 g_118) (cwV 3 hg (q_gV mw_384 mw_385 mw_386 mw_4 mw_387) rfl rfl rfl qh_C_trees ⟨Nat.le_of_ble_eq_true rfl, Nat.le_of_ble_eq_true rfl⟩) hN hK hP [0, 1, 9, 10] rfl 0 0 rfl rfl rfl hl.1 rfl (Nat.le_of_ble_eq_true rfl) qd_C_addProduction_118 ⟨Nat.zero_le _, Nat.zero_le _⟩ ?_
      refine lv_topi (fun r_118 w_118 => ?_)
      have hres := hres.trans (bd_eq w_118)
      have ho := (bd_eq w_118).mp ho
      refine lv_goto (tgt := 125) hx hb qd_C_addProduction_121 (by decide) ?_
      refine lv_istore (lv' := [(12, .int r_118), (11, .int (vCr r_74.toNatClampNeg)), (10, .int r_74), (9, .int x9_64), (8, .int r_47), (7, .int x7_64), (6, .int x6_64), (5, .int r_16), (4, .int r_5), (0, .ref aC), (1, .int p0), (2, .int p1), (3, .int p2)]) hx hb qd_C_addProduction_125 hl (by decide) rfl (fun ls hl => ?_)
      refine lv_iload hx hb qd_C_addProduction_127 (lv_at hl 0 rfl) ?_
      refine lv_if_le (tgt := 200) hx hb qd_C_addProduction_129 (by decide) (fun c_129 => ?_) (fun c_129 => ?_)
      · have hres := hres.trans (if_pos c_129)
        have ho := (if_pos c_129).mp ho
        refine lv_iinc (v := x9_64 + 1) (lv' := [(9, .int (x9_64 + 1)), (12, .int r_118), (11, .int (vCr r_74.toNatClampNeg)), (10, .int r_74), (8, .int r_47), (7, .int x7_64), (6, .int x6_64), (5, .int r_16), (4, .int r_5), (0, .ref aC), (1, .int p0), (2, .int p1), (3, .int p2)]) hx hb qd_C_addProduction_200 hl (k := 3) rfl (congrArg (fun z => _ + z) (by decide)) (by decide) rfl (fun ls hl => ?_)
        refine lv_goto (tgt := 64) hx hb qd_C_addProduction_203 (by decide) ?_
        exact ih x6_64 x7_64 (x9_64 + 1) H locs ls hP hD hS (lv_sub hl [0, 4, 5, 6, 7, 8, 9, 10, 11, 12] rfl) hres ho
      have hres := hres.trans (if_neg c_129)
      have ho := (if_neg c_129).mp ho
      refine lv_iload hx hb qd_C_addProduction_132 (lv_at hl 2 rfl) ?_
      refine lv_if_lt (tgt := 200) hx hb qd_C_addProduction_134 (by decide) (fun c_134 => ?_) (fun c_134 => ?_)
      · exact absurd c_134 c_81
      refine lv_iload hx hb qd_C_addProduction_137 (lv_at hl 2 rfl) ?_
      refine lv_aload_n hx hb qd_C_addProduction_139 rfl (lv_at hl 9 rfl) ?_
      refine va_get (D := (dC, dI)) (ci := 0) (v := .ref aCs) (C := qR_C) (T := qT_C) (N := 7) hx hb hg qi_C hown hK hP 0 rfl rfl 5 (by decide) (hg _ mw_67) (fun _ h9 => h9) rfl qd_C_addProduction_140 ?_
      refine va_alen (v := 600) hx hb hK hP 4 0 rfl rfl (show Int32.ofNat 600 = 600 by decide) qd_C_addProduction_143 ?_
      refine lv_icmp_ge (tgt := 200) hx hb qd_C_addProduction_144 (by decide) (fun c_144 => ?_) (fun c_144 => ?_)
      · exact absurd c_144 c_91
      refine lv_aload_n hx hb qd_C_addProduction_147 rfl (lv_at hl 9 rfl) ?_
      refine va_get (D := (dC, dI)) (ci := 0) (v := .ref aG) (C := qR_C) (T := qT_C) (N := 7) hx hb hg qi_C hown hK hP 0 rfl rfl 0 (by decide) (hg _ mw_62) (fun _ h9 => h9) rfl qd_C_addProduction_148 ?_
      refine lv_iload_n hx hb qd_C_addProduction_151 rfl (lv_at hl 10 rfl) ?_
      obtain ⟨g_152, ho⟩ := ho
      refine xc_V (As := [.int p0]) (rest := []) ⟨hx, hb, hml, hown, hg⟩ (c_G_ownCost l dC dI cA aG aGh aGi aGc aGo aGr vGF vGS vGc p0 g_152) (cwV 1 hg (q_gV mw_434 mw_435 mw_436 mw_2 mw_437) rfl rfl rfl qh_G_ownCost ⟨Nat.le_of_ble_eq_true rfl, Nat.le_of_ble_eq_true rfl⟩) hN hK hP [5, 8] rfl 0 2 rfl rfl rfl hl.1 rfl (Nat.le_of_ble_eq_true rfl) qd_C_addProduction_152 ⟨Nat.zero_le _, Nat.zero_le _⟩ ?_
      refine lv_topi (fun r_152 w_152 => ?_)
      have hres := hres.trans (bd_eq w_152)
      have ho := (bd_eq w_152).mp ho
      refine lv_aload_n hx hb qd_C_addProduction_155 rfl (lv_at hl 9 rfl) ?_
      refine lv_iload hx hb qd_C_addProduction_156 (lv_at hl 7 rfl) ?_
      refine lv_iload_n hx hb qd_C_addProduction_158 rfl (lv_at hl 11 rfl) ?_
      refine lv_iload hx hb qd_C_addProduction_159 (lv_at hl 3 rfl) ?_
      obtain ⟨g_161, ho⟩ := ho
      refine xc_V (As := [.int r_16, .int p1, .int x9_64]) (rest := [.int r_152]) ⟨hx, hb, hml, hown, hg⟩ (c_C_leastCost l dC dI cA aC aCn aCc aCr aCs aG aR vCF vCc r_16 p1 x9_64 g_161) (cwV 3 hg (q_gV mw_395 mw_396 mw_397 mw_4 mw_398) rfl rfl rfl qh_C_leastCost ⟨Nat.le_of_ble_eq_true rfl, Nat.le_of_ble_eq_true rfl⟩) hN hK hP [0, 2] rfl 0 0 rfl rfl rfl hl.1 rfl (Nat.le_of_ble_eq_true rfl) qd_C_addProduction_161 ⟨Nat.zero_le _, Nat.zero_le _⟩ ?_
      refine lv_topi (fun r_161 w_161 => ?_)
      have hres := hres.trans (bd_eq w_161)
      have ho := (bd_eq w_161).mp ho
      refine lv_iadd hx hb qd_C_addProduction_164 ?_
      refine lv_aload_n hx hb qd_C_addProduction_165 rfl (lv_at hl 9 rfl) ?_
      refine va_get (D := (dC, dI)) (ci := 0) (v := .ref aCs) (C := qR_C) (T := qT_C) (N := 7) hx hb hg qi_C hown hK hP 0 rfl rfl 5 (by decide) (hg _ mw_67) (fun _ h9 => h9) rfl qd_C_addProduction_166 ?_
      refine lv_iload hx hb qd_C_addProduction_169 (lv_at hl 2 rfl) ?_
      obtain ⟨g_171, ho⟩ := ho
      refine va_iald hx hb hK hP 4 0 rfl rfl g_171 qd_C_addProduction_171 ?_
      refine lv_iadd hx hb qd_C_addProduction_172 ?_
      refine lv_istore (lv' := [(13, .int ((r_152 + r_161) + (vCs r_74.toNatClampNeg))), (12, .int r_118), (11, .int (vCr r_74.toNatClampNeg)), (10, .int r_74), (9, .int x9_64), (8, .int r_47), (7, .int x7_64), (6, .int x6_64), (5, .int r_16), (4, .int r_5), (0, .ref aC), (1, .int p0), (2, .int p1), (3, .int p2)]) hx hb qd_C_addProduction_173 hl (by decide) rfl (fun ls hl => ?_)
      refine lv_iload hx hb qd_C_addProduction_175 (lv_at hl 7 rfl) ?_
      refine lv_i2l hx hb qd_C_addProduction_177 rfl ?_
      refine lv_iload hx hb qd_C_addProduction_178 (lv_at hl 1 rfl) ?_
      refine lv_i2l hx hb qd_C_addProduction_180 rfl ?_
      refine lv_iload hx hb qd_C_addProduction_181 (lv_at hl 2 rfl) ?_
      refine lv_i2l hx hb qd_C_addProduction_183 rfl ?_
      refine lv_lmul hx hb qd_C_addProduction_184 ?_
      refine lv_ladd hx hb qd_C_addProduction_185 ?_
      refine xc_N (As := [.long (x6_64.toInt64 + (r_118.toInt64 * ((vCr r_74.toNatClampNeg).toInt64)))]) (rest := []) ⟨hx, hb, hml, hown, hg⟩ (c_H_atMostMany l dC dI cA (x6_64.toInt64 + (r_118.toInt64 * ((vCr r_74.toNatClampNeg).toInt64)))) (⟨va_cnB 1 hg (q_gC mw_400) rfl rfl rfl (hN _ nw_6) (hg _ mw_1) qh_H_atMostMany.2 ⟨Nat.le_of_ble_eq_true rfl, Nat.le_of_ble_eq_true rfl⟩, hg _ mw_399, trivial⟩) hN hK hP [] rfl rfl hl.1 rfl (Nat.le_of_ble_eq_true rfl) qd_C_addProduction_186 ⟨Nat.zero_le _, Nat.zero_le _⟩ ?_
      refine lv_topi (fun r_186 w_186 => ?_)
      have hres := hres.trans (bd_eq w_186)
      have ho := (bd_eq w_186).mp ho
      refine lv_istore (lv' := [(6, .int r_186), (13, .int ((r_152 + r_161) + (vCs r_74.toNatClampNeg))), (12, .int r_118), (11, .int (vCr r_74.toNatClampNeg)), (10, .int r_74), (9, .int x9_64), (8, .int r_47), (7, .int x7_64), (5, .int r_16), (4, .int r_5), (0, .ref aC), (1, .int p0), (2, .int p1), (3, .int p2)]) hx hb qd_C_addProduction_189 hl (by decide) rfl (fun ls hl => ?_)
      refine lv_iload hx hb qd_C_addProduction_191 (lv_at hl 7 rfl) ?_
      refine lv_iload hx hb qd_C_addProduction_193 (lv_at hl 1 rfl) ?_
      refine xc_S (As := [.int x7_64, .int ((r_152 + r_161) + (vCs r_74.toNatClampNeg))]) (rest := []) ⟨hx, hb, hml, hown, hg⟩ (c_C_cheaper l dC dI cA x7_64 ((r_152 + r_161) + (vCs r_74.toNatClampNeg))) (va_cwS 2 hg (q_gS mw_403 mw_404 mw_4 mw_405) rfl rfl rfl qh_C_cheaper.2 ⟨Nat.le_of_ble_eq_true rfl, Nat.le_of_ble_eq_true rfl⟩) hN hK hP [] rfl rfl hl.1 rfl (Nat.le_of_ble_eq_true rfl) qd_C_addProduction_195 ⟨Nat.zero_le _, Nat.zero_le _⟩ ?_
      refine lv_topi (fun r_195 w_195 => ?_)
      have hres := hres.trans (bd_eq w_195)
      have ho := (bd_eq w_195).mp ho
      refine lv_istore (lv' := [(7, .int r_195), (6, .int r_186), (13, .int ((r_152 + r_161) + (vCs r_74.toNatClampNeg))), (12, .int r_118), (11, .int (vCr r_74.toNatClampNeg)), (10, .int r_74), (9, .int x9_64), (8, .int r_47), (5, .int r_16), (4, .int r_5), (0, .ref aC), (1, .int p0), (2, .int p1), (3, .int p2)]) hx hb qd_C_addProduction_198 hl (by decide) rfl (fun ls hl => ?_)
      refine lv_iinc (v := x9_64 + 1) (lv' := [(9, .int (x9_64 + 1)), (7, .int r_195), (6, .int r_186), (13, .int ((r_152 + r_161) + (vCs r_74.toNatClampNeg))), (12, .int r_118), (11, .int (vCr r_74.toNatClampNeg)), (10, .int r_74), (8, .int r_47), (5, .int r_16), (4, .int r_5), (0, .ref aC), (1, .int p0), (2, .int p1), (3, .int p2)]) hx hb qd_C_addProduction_200 hl (k := 6) rfl (congrArg (fun z => _ + z) (by decide)) (by decide) rfl (fun ls hl => ?_)
      refine lv_goto (tgt := 64) hx hb qd_C_addProduction_203 (by decide) ?_
      exact ih r_186 r_195 (x9_64 + 1) H locs ls hP hD hS (lv_sub hl [0, 7, 1, 2, 8, 9, 10, 11, 12, 13] rfl) hres ho
  refine L_64 _ _ (fun x6_64 x7_64 x9_64 H locs ls hP hD hS hl hres ho => ?_) _ _ _ _ _ _ ls hP hD hS hl hres ho
  refine lv_aload_n hx hb qd_C_addProduction_206 rfl (lv_at hl 6 rfl) ?_
  refine lv_iload hx hb qd_C_addProduction_207 (lv_at hl 5 rfl) ?_
  refine lv_iload_n hx hb qd_C_addProduction_209 rfl (lv_at hl 8 rfl) ?_
  refine lv_iload_n hx hb qd_C_addProduction_210 rfl (lv_at hl 9 rfl) ?_
  refine lv_iload hx hb qd_C_addProduction_211 (lv_at hl 3 rfl) ?_
  refine lv_iload hx hb qd_C_addProduction_213 (lv_at hl 2 rfl) ?_
  obtain ⟨g_215, ho⟩ := ho
  refine xm_Vv (As := [.int r_5, .int p1, .int p2, .int x6_64, .int x7_64]) (rest := []) (w1 := fun (u_215 : (Nat → Int32) × (Nat → Int32)) => [(aC, .inr (0, [.ref aG, .ref aR, .ref aCn, .ref aCc, .ref aCr, .ref aCs, .int vCF])), (aCn, .inl (cA, 5760, .inl (u_215.1))), (aCc, .inl (cA, 5760, .inl (u_215.2)))]) (w2 := fun (u_215 : (Nat → Int32) × (Nat → Int32)) => [(aC, .inr (0, [.ref aG, .ref aR, .ref aCn, .ref aCc, .ref aCr, .ref aCs, .int vCF])), (aCn, .inl (cA, 5760, .inl (u_215.1))), (aCc, .inl (cA, 5760, .inl (u_215.2))), (aCr, .inl (cA, 600, .inl (vCr))), (aCs, .inl (cA, 600, .inl (vCs))), (aG, .inr (2, [.ref aGh, .ref aGi, .ref aGc, .ref aGo, .ref aGr, .int vGF, .int vGS])), (aGh, .inl (cA, 24, .inl (vGh))), (aGi, .inl (cA, 72, .inl (vGi))), (aGc, .inl (cA, 24, .inl (vGc))), (aR, .inr (4, [.ref aRt, .int vRL])), (aRt, .inl (cA, 24, .inl (vRt)))]) ⟨hx, hb, hml, hown, hg⟩ (c_C_write l dC dI cA aC aCn aCc aCr aCs aG aR _ vCF vCn vCc r_5 p1 p2 x6_64 x7_64 g_215) (cwV 5 hg (q_gV mw_412 mw_413 mw_754 mw_4 mw_414) rfl rfl rfl qh_C_write ⟨Nat.le_of_ble_eq_true rfl, Nat.le_of_ble_eq_true rfl⟩) hN hK hP hD hS hA [0, 1, 2] [3, 4, 5, 6, 7, 8, 9, 10] rfl rfl (by decide) (by decide) (by decide) [8, 9, 10, 0, 1, 2, 3, 4, 5, 6, 7] (fun _ => rfl) (by decide) 0 0 rfl rfl rfl hl.1 rfl (Nat.le_of_ble_eq_true rfl) qd_C_addProduction_215 ⟨Nat.zero_le _, Nat.zero_le _⟩ (fun u_215 H locs w_215 hP hD hS => ?_)
  have hP : va_P (dC, dI) vwCl [(aC, .inr (0, [.ref aG, .ref aR, .ref aCn, .ref aCc, .ref aCr, .ref aCs, .int vCF])), (aCn, .inl (cA, 5760, .inl (u_215.1))), (aCc, .inl (cA, 5760, .inl (u_215.2))), (aCr, .inl (cA, 600, .inl (vCr))), (aCs, .inl (cA, 600, .inl (vCs))), (aG, .inr (2, [.ref aGh, .ref aGi, .ref aGc, .ref aGo, .ref aGr, .int vGF, .int vGS])), (aGh, .inl (cA, 24, .inl (vGh))), (aGi, .inl (cA, 72, .inl (vGi))), (aGc, .inl (cA, 24, .inl (vGc))), (aR, .inr (4, [.ref aRt, .int vRL])), (aRt, .inl (cA, 24, .inl (vRt)))] H := hP
  have hD : va_D A [(aC, .inr (0, [.ref aG, .ref aR, .ref aCn, .ref aCc, .ref aCr, .ref aCs, .int vCF])), (aCn, .inl (cA, 5760, .inl (u_215.1))), (aCc, .inl (cA, 5760, .inl (u_215.2))), (aCr, .inl (cA, 600, .inl (vCr))), (aCs, .inl (cA, 600, .inl (vCs))), (aG, .inr (2, [.ref aGh, .ref aGi, .ref aGc, .ref aGo, .ref aGr, .int vGF, .int vGS])), (aGh, .inl (cA, 24, .inl (vGh))), (aGi, .inl (cA, 72, .inl (vGi))), (aGc, .inl (cA, 24, .inl (vGc))), (aR, .inr (4, [.ref aRt, .int vRL])), (aRt, .inl (cA, 24, .inl (vRt)))] := hD
  have hres := hres.trans (bd_eq w_215)
  have ho := (bd_eq w_215).mp ho
  subst hQ
  exact W.vret hx hb hr (fun t ht hW => ⟨⟨(u_215.1, u_215.2), rfl, hres.symm, ⟨by rw [ht]; exact hP, va_K.moved hW.alike hK, x_N hN hW⟩, hD⟩, hS.F ht⟩) hS.2.2 qd_C_addProduction_218
theorem qd_C_fillPart_0 : decode qc_C_fillPart 0 = .ok (.iconst 0, 1) := by decide +kernel
theorem qd_C_fillPart_1 : decode qc_C_fillPart 1 = .ok (.istore_n 3, 1) := by decide +kernel
theorem qd_C_fillPart_2 : decode qc_C_fillPart 2 = .ok (.iload_n 3, 1) := by decide +kernel
theorem qd_C_fillPart_3 : decode qc_C_fillPart 3 = .ok (.bipush 10, 2) := by decide +kernel
theorem qd_C_fillPart_5 : decode qc_C_fillPart 5 = .ok (.if_icmp .ge 18, 3) := by decide +kernel
theorem qd_C_fillPart_8 : decode qc_C_fillPart 8 = .ok (.aload_n 0, 1) := by decide +kernel
theorem qd_C_fillPart_9 : decode qc_C_fillPart 9 = .ok (.iload_n 3, 1) := by decide +kernel
theorem qd_C_fillPart_10 : decode qc_C_fillPart 10 = .ok (.iload_n 1, 1) := by decide +kernel
theorem qd_C_fillPart_11 : decode qc_C_fillPart 11 = .ok (.iload_n 2, 1) := by decide +kernel
theorem qd_C_fillPart_12 : decode qc_C_fillPart 12 = .ok (.iconst 0, 1) := by decide +kernel
theorem qd_C_fillPart_13 : decode qc_C_fillPart 13 = .ok (.iconst (-1), 1) := by decide +kernel
theorem qd_C_fillPart_14 : decode qc_C_fillPart 14 = .ok (.invokevirtual 56, 3) := by decide +kernel
theorem qd_C_fillPart_17 : decode qc_C_fillPart 17 = .ok (.iinc 3 1, 3) := by decide +kernel
theorem qd_C_fillPart_20 : decode qc_C_fillPart 20 = .ok (.goto (-18), 3) := by decide +kernel
theorem qd_C_fillPart_23 : decode qc_C_fillPart 23 = .ok (.iconst 0, 1) := by decide +kernel
theorem qd_C_fillPart_24 : decode qc_C_fillPart 24 = .ok (.istore_n 3, 1) := by decide +kernel
theorem qd_C_fillPart_25 : decode qc_C_fillPart 25 = .ok (.iload_n 3, 1) := by decide +kernel
theorem qd_C_fillPart_26 : decode qc_C_fillPart 26 = .ok (.aload_n 0, 1) := by decide +kernel
theorem qd_C_fillPart_27 : decode qc_C_fillPart 27 = .ok (.getfield 28, 3) := by decide +kernel
theorem qd_C_fillPart_30 : decode qc_C_fillPart 30 = .ok (.invokevirtual 60, 3) := by decide +kernel
theorem qd_C_fillPart_33 : decode qc_C_fillPart 33 = .ok (.if_icmp .ge 23, 3) := by decide +kernel
theorem qd_C_fillPart_36 : decode qc_C_fillPart 36 = .ok (.aload_n 0, 1) := by decide +kernel
theorem qd_C_fillPart_37 : decode qc_C_fillPart 37 = .ok (.aload_n 0, 1) := by decide +kernel
theorem qd_C_fillPart_38 : decode qc_C_fillPart 38 = .ok (.getfield 28, 3) := by decide +kernel
theorem qd_C_fillPart_41 : decode qc_C_fillPart 41 = .ok (.iload_n 3, 1) := by decide +kernel
theorem qd_C_fillPart_42 : decode qc_C_fillPart 42 = .ok (.invokevirtual 66, 3) := by decide +kernel
theorem qd_C_fillPart_45 : decode qc_C_fillPart 45 = .ok (.iload_n 1, 1) := by decide +kernel
theorem qd_C_fillPart_46 : decode qc_C_fillPart 46 = .ok (.iload_n 2, 1) := by decide +kernel
theorem qd_C_fillPart_47 : decode qc_C_fillPart 47 = .ok (.invokevirtual 70, 3) := by decide +kernel
theorem qd_C_fillPart_50 : decode qc_C_fillPart 50 = .ok (.iinc 3 1, 3) := by decide +kernel
theorem qd_C_fillPart_53 : decode qc_C_fillPart 53 = .ok (.goto (-28), 3) := by decide +kernel
theorem qd_C_fillPart_56 : decode qc_C_fillPart 56 = .ok (.return_, 1) := by decide +kernel
set_option maxHeartbeats 4000000 in
set_option maxRecDepth 100000 in
theorem c_C_fillPart (l : Launch) (dC : Nat → ClassId) (dI : Nat → Nat → Nat) (cA : ClassId) (N_ : Nat) (aC aCn aCc aCr aCs aG aGh aGi aGc aGo aGr aR aRt : Nat) (sz : Nat) (vCF : Int32) (vCn : (Nat → Int32)) (vCc : (Nat → Int32)) (vCr : (Nat → Int32)) (vCs : (Nat → Int32)) (vGF : Int32) (vGS : Int32) (vGh : (Nat → Int32)) (vGi : (Nat → Int32)) (vGc : (Nat → Int32)) (vGo : (Nat → Int32)) (vRL : Int32) (vRt : (Nat → Int32)) (p0 : Int32) (p1 : Int32) (ho : o_C_fillPart N_ vCn vCc vCr vCs vGS vGh vGi vGc vGo vRL vRt p0 p1) : Met l qy_C_fillPart qw_C_fillPart ({ frames := 3, cells := 0, slots := 0, locals := 81 }) (va_Pc [.ref aC, .int p0, .int p1] (fun U => U.heap.size = sz ∧ xP (dC, dI) [(cA, .int)] [(aC, .inr (0, [.ref aG, .ref aR, .ref aCn, .ref aCc, .ref aCr, .ref aCs, .int vCF])), (aCn, .inl (cA, 5760, .inl (vCn))), (aCc, .inl (cA, 5760, .inl (vCc))), (aCr, .inl (cA, 600, .inl (vCr))), (aCs, .inl (cA, 600, .inl (vCs))), (aG, .inr (2, [.ref aGh, .ref aGi, .ref aGc, .ref aGo, .ref aGr, .int vGF, .int vGS])), (aGh, .inl (cA, 24, .inl (vGh))), (aGi, .inl (cA, 72, .inl (vGi))), (aGc, .inl (cA, 24, .inl (vGc))), (aGo, .inl (cA, 24, .inl (vGo))), (aR, .inr (4, [.ref aRt, .int vRL])), (aRt, .inl (cA, 24, .inl (vRt)))] nestN U ∧ va_D (fun _ => True) [(aC, .inr (0, [.ref aG, .ref aR, .ref aCn, .ref aCc, .ref aCr, .ref aCs, .int vCF])), (aCn, .inl (cA, 5760, .inl (vCn))), (aCc, .inl (cA, 5760, .inl (vCc))), (aCr, .inl (cA, 600, .inl (vCr))), (aCs, .inl (cA, 600, .inl (vCs))), (aG, .inr (2, [.ref aGh, .ref aGi, .ref aGc, .ref aGo, .ref aGr, .int vGF, .int vGS])), (aGh, .inl (cA, 24, .inl (vGh))), (aGi, .inl (cA, 72, .inl (vGi))), (aGc, .inl (cA, 24, .inl (vGc))), (aGo, .inl (cA, 24, .inl (vGo))), (aR, .inr (4, [.ref aRt, .int vRL])), (aRt, .inl (cA, 24, .inl (vRt)))])) (va_Qv (fun u => u = f_C_fillPart N_ vCn vCc vCr vCs vGS vGh vGi vGc vGo vRL vRt p0 p1) (fun (u : (Nat → Int32) × (Nat → Int32)) t => xP (dC, dI) [(cA, .int)] [(aC, .inr (0, [.ref aG, .ref aR, .ref aCn, .ref aCc, .ref aCr, .ref aCs, .int vCF])), (aCn, .inl (cA, 5760, .inl (u.1))), (aCc, .inl (cA, 5760, .inl (u.2))), (aCr, .inl (cA, 600, .inl (vCr))), (aCs, .inl (cA, 600, .inl (vCs))), (aG, .inr (2, [.ref aGh, .ref aGi, .ref aGc, .ref aGo, .ref aGr, .int vGF, .int vGS])), (aGh, .inl (cA, 24, .inl (vGh))), (aGi, .inl (cA, 72, .inl (vGi))), (aGc, .inl (cA, 24, .inl (vGc))), (aGo, .inl (cA, 24, .inl (vGo))), (aR, .inr (4, [.ref aRt, .int vRL])), (aRt, .inl (cA, 24, .inl (vRt)))] nestN t ∧ va_D (va_A [(aC, .inr (0, [.ref aG, .ref aR, .ref aCn, .ref aCc, .ref aCr, .ref aCs, .int vCF])), (aCn, .inl (cA, 5760, .inl (vCn))), (aCc, .inl (cA, 5760, .inl (vCc))), (aCr, .inl (cA, 600, .inl (vCr))), (aCs, .inl (cA, 600, .inl (vCs))), (aG, .inr (2, [.ref aGh, .ref aGi, .ref aGc, .ref aGo, .ref aGr, .int vGF, .int vGS])), (aGh, .inl (cA, 24, .inl (vGh))), (aGi, .inl (cA, 72, .inl (vGi))), (aGc, .inl (cA, 24, .inl (vGc))), (aGo, .inl (cA, 24, .inl (vGo))), (aR, .inr (4, [.ref aRt, .int vRL])), (aRt, .inl (cA, 24, .inl (vRt)))] sz) [(aC, .inr (0, [.ref aG, .ref aR, .ref aCn, .ref aCc, .ref aCr, .ref aCs, .int vCF])), (aCn, .inl (cA, 5760, .inl (u.1))), (aCc, .inl (cA, 5760, .inl (u.2))), (aCr, .inl (cA, 600, .inl (vCr))), (aCs, .inl (cA, 600, .inl (vCs))), (aG, .inr (2, [.ref aGh, .ref aGi, .ref aGc, .ref aGo, .ref aGr, .int vGF, .int vGS])), (aGh, .inl (cA, 24, .inl (vGh))), (aGi, .inl (cA, 72, .inl (vGi))), (aGc, .inl (cA, 24, .inl (vGc))), (aGo, .inl (cA, 24, .inl (vGo))), (aR, .inr (4, [.ref aRt, .int vRL])), (aRt, .inl (cA, 24, .inl (vRt)))]) (va_A [(aC, .inr (0, [.ref aG, .ref aR, .ref aCn, .ref aCc, .ref aCr, .ref aCs, .int vCF])), (aCn, .inl (cA, 5760, .inl (vCn))), (aCc, .inl (cA, 5760, .inl (vCc))), (aCr, .inl (cA, 600, .inl (vCr))), (aCs, .inl (cA, 600, .inl (vCs))), (aG, .inr (2, [.ref aGh, .ref aGi, .ref aGc, .ref aGo, .ref aGr, .int vGF, .int vGS])), (aGh, .inl (cA, 24, .inl (vGh))), (aGi, .inl (cA, 72, .inl (vGi))), (aGc, .inl (cA, 24, .inl (vGc))), (aGo, .inl (cA, 24, .inl (vGo))), (aR, .inr (4, [.ref aRt, .int vRL])), (aRt, .inl (cA, 24, .inl (vRt)))] sz)) 0 0 (va_A [(aC, .inr (0, [.ref aG, .ref aR, .ref aCn, .ref aCc, .ref aCr, .ref aCs, .int vCF])), (aCn, .inl (cA, 5760, .inl (vCn))), (aCc, .inl (cA, 5760, .inl (vCc))), (aCr, .inl (cA, 600, .inl (vCr))), (aCs, .inl (cA, 600, .inl (vCs))), (aG, .inr (2, [.ref aGh, .ref aGi, .ref aGc, .ref aGo, .ref aGr, .int vGF, .int vGS])), (aGh, .inl (cA, 24, .inl (vGh))), (aGi, .inl (cA, 72, .inl (vGi))), (aGc, .inl (cA, 24, .inl (vGc))), (aGo, .inl (cA, 24, .inl (vGo))), (aR, .inr (4, [.ref aRt, .int vRL])), (aRt, .inl (cA, 24, .inl (vRt)))] sz) := by
  refine Met.ofW (cc := qc_C_fillPart) (maxL := 4) (ret := (none)) (by decide) rfl ?_
  intro p e s m args below meth c s₁ B hml hv
  obtain ⟨rfl, hsz, ⟨hP, hK, hN⟩, hD0⟩ := hv
  have hx := B.exec
  have hb := B.bytes
  have hr := B.returns
  have hts := atoms_spec (ws := qw_C_fillPart) B.pre
  have hg : ∀ w ∈ gG, w.before _ s = true := fun w h => hts w (List.mem_cons_of_mem _ h)
  have hown : s.vm.findClass qR_C = some m.cls := findClass_of_methodNamed B.named
  have hlocks := B.notSynchronized
  subst hsz
  have hD := hD0.self (sz := s.heap.size)
  generalize hAe : va_A [(aC, .inr (0, [.ref aG, .ref aR, .ref aCn, .ref aCc, .ref aCr, .ref aCs, .int vCF])), (aCn, .inl (cA, 5760, .inl (vCn))), (aCc, .inl (cA, 5760, .inl (vCc))), (aCr, .inl (cA, 600, .inl (vCr))), (aCs, .inl (cA, 600, .inl (vCs))), (aG, .inr (2, [.ref aGh, .ref aGi, .ref aGc, .ref aGo, .ref aGr, .int vGF, .int vGS])), (aGh, .inl (cA, 24, .inl (vGh))), (aGi, .inl (cA, 72, .inl (vGi))), (aGc, .inl (cA, 24, .inl (vGc))), (aGo, .inl (cA, 24, .inl (vGo))), (aR, .inr (4, [.ref aRt, .int vRL])), (aRt, .inl (cA, 24, .inl (vRt)))] s.heap.size = A at hD ⊢
  have hA : ∀ q : Nat, s.heap.size ≤ q → A q := fun q h => by rw [← hAe]; exact Or.inr h
  have hS : va_S A s.heap s.heap [] := va_S.rf
  have hP : va_P (dC, dI) vwCl [(aC, .inr (0, [.ref aG, .ref aR, .ref aCn, .ref aCc, .ref aCr, .ref aCs, .int vCF])), (aCn, .inl (cA, 5760, .inl (vCn))), (aCc, .inl (cA, 5760, .inl (vCc))), (aCr, .inl (cA, 600, .inl (vCr))), (aCs, .inl (cA, 600, .inl (vCs))), (aG, .inr (2, [.ref aGh, .ref aGi, .ref aGc, .ref aGo, .ref aGr, .int vGF, .int vGS])), (aGh, .inl (cA, 24, .inl (vGh))), (aGi, .inl (cA, 72, .inl (vGi))), (aGc, .inl (cA, 24, .inl (vGc))), (aGo, .inl (cA, 24, .inl (vGo))), (aR, .inr (4, [.ref aRt, .int vRL])), (aRt, .inl (cA, 24, .inl (vRt)))] s.heap := hP
  have hl := lv_entry ([.ref aC, .int p0, .int p1]) (n := 4) (Nat.le_of_ble_eq_true rfl)
  rw [lg_entry_eq]
  generalize (lg_sl ([.ref aC, .int p0, .int p1]) ++ List.replicate (4 - (lg_sl ([.ref aC, .int p0, .int p1])).length) Slot.unset).toArray = ls at hl ⊢
  have hl : lv_has ls 4 [(0, .ref aC), (1, .int p0), (2, .int p1)] := hl
  generalize hF : f_C_fillPart N_ vCn vCc vCr vCs vGS vGh vGi vGc vGo vRL vRt p0 p1 = Fv
  have hres : Fv = f_C_fillPart N_ vCn vCc vCr vCs vGS vGh vGi vGc vGo vRL vRt p0 p1 := hF.symm
  unfold f_C_fillPart at hres
  unfold o_C_fillPart at ho
  generalize hQ : MQ _ _ _ _ _ _ _ = Qg
  refine lv_iconst (v := 0) hx hb qd_C_fillPart_0 (by decide) ?_
  refine lv_istore_n (lv' := [(3, .int 0), (0, .ref aC), (1, .int p0), (2, .int p1)]) hx hb qd_C_fillPart_1 rfl hl (by decide) rfl (fun ls hl => ?_)
  have L_2 : ∀ (K_ : Int32 → (Nat → Int32) → (Nat → Int32) → (Nat → Int32) × (Nat → Int32)) (Ko_ : Int32 → (Nat → Int32) → (Nat → Int32) → Prop) (hk : ∀ (x3_2 : Int32) (vCn_2 : (Nat → Int32)) (vCc_2 : (Nat → Int32)) (H : Heap) (locs : List Loc) (ls : Array Slot), va_P (dC, dI) vwCl [(aC, .inr (0, [.ref aG, .ref aR, .ref aCn, .ref aCc, .ref aCr, .ref aCs, .int vCF])), (aCn, .inl (cA, 5760, .inl (vCn_2))), (aCc, .inl (cA, 5760, .inl (vCc_2))), (aCr, .inl (cA, 600, .inl (vCr))), (aCs, .inl (cA, 600, .inl (vCs))), (aG, .inr (2, [.ref aGh, .ref aGi, .ref aGc, .ref aGo, .ref aGr, .int vGF, .int vGS])), (aGh, .inl (cA, 24, .inl (vGh))), (aGi, .inl (cA, 72, .inl (vGi))), (aGc, .inl (cA, 24, .inl (vGc))), (aGo, .inl (cA, 24, .inl (vGo))), (aR, .inr (4, [.ref aRt, .int vRL])), (aRt, .inl (cA, 24, .inl (vRt)))] H → va_D A [(aC, .inr (0, [.ref aG, .ref aR, .ref aCn, .ref aCc, .ref aCr, .ref aCs, .int vCF])), (aCn, .inl (cA, 5760, .inl (vCn_2))), (aCc, .inl (cA, 5760, .inl (vCc_2))), (aCr, .inl (cA, 600, .inl (vCr))), (aCs, .inl (cA, 600, .inl (vCs))), (aG, .inr (2, [.ref aGh, .ref aGi, .ref aGc, .ref aGo, .ref aGr, .int vGF, .int vGS])), (aGh, .inl (cA, 24, .inl (vGh))), (aGi, .inl (cA, 72, .inl (vGi))), (aGc, .inl (cA, 24, .inl (vGc))), (aGo, .inl (cA, 24, .inl (vGo))), (aR, .inr (4, [.ref aRt, .int vRL])), (aRt, .inl (cA, 24, .inl (vRt)))] → va_S A s.heap H locs → lv_has ls 4 [(3, .int x3_2), (0, .ref aC), (1, .int p0), (2, .int p1)] → Fv = K_ x3_2 vCn_2 vCc_2 → Ko_ x3_2 vCn_2 vCc_2 → W p l e ({ frames := 3, cells := 0, slots := 0, locals := 81 } : Room) s m (([.ref aC, .int p0, .int p1] : List Value).toArray) below meth c H locs 0 0 Qg (F0 m 23 ls [])) (n : Nat) (x3_2 : Int32) (vCn_2 : (Nat → Int32)) (vCc_2 : (Nat → Int32)) (H : Heap) (locs : List Loc) (ls : Array Slot), va_P (dC, dI) vwCl [(aC, .inr (0, [.ref aG, .ref aR, .ref aCn, .ref aCc, .ref aCr, .ref aCs, .int vCF])), (aCn, .inl (cA, 5760, .inl (vCn_2))), (aCc, .inl (cA, 5760, .inl (vCc_2))), (aCr, .inl (cA, 600, .inl (vCr))), (aCs, .inl (cA, 600, .inl (vCs))), (aG, .inr (2, [.ref aGh, .ref aGi, .ref aGc, .ref aGo, .ref aGr, .int vGF, .int vGS])), (aGh, .inl (cA, 24, .inl (vGh))), (aGi, .inl (cA, 72, .inl (vGi))), (aGc, .inl (cA, 24, .inl (vGc))), (aGo, .inl (cA, 24, .inl (vGo))), (aR, .inr (4, [.ref aRt, .int vRL])), (aRt, .inl (cA, 24, .inl (vRt)))] H → va_D A [(aC, .inr (0, [.ref aG, .ref aR, .ref aCn, .ref aCc, .ref aCr, .ref aCs, .int vCF])), (aCn, .inl (cA, 5760, .inl (vCn_2))), (aCc, .inl (cA, 5760, .inl (vCc_2))), (aCr, .inl (cA, 600, .inl (vCr))), (aCs, .inl (cA, 600, .inl (vCs))), (aG, .inr (2, [.ref aGh, .ref aGi, .ref aGc, .ref aGo, .ref aGr, .int vGF, .int vGS])), (aGh, .inl (cA, 24, .inl (vGh))), (aGi, .inl (cA, 72, .inl (vGi))), (aGc, .inl (cA, 24, .inl (vGc))), (aGo, .inl (cA, 24, .inl (vGo))), (aR, .inr (4, [.ref aRt, .int vRL])), (aRt, .inl (cA, 24, .inl (vRt)))] → va_S A s.heap H locs → lv_has ls 4 [(3, .int x3_2), (0, .ref aC), (1, .int p0), (2, .int p1)] → Fv = l_C_fillPart_2 p0 p1 K_ n x3_2 vCn_2 vCc_2 → ol_C_fillPart_2 p0 p1 Ko_ n x3_2 vCn_2 vCc_2 → W p l e ({ frames := 3, cells := 0, slots := 0, locals := 81 } : Room) s m (([.ref aC, .int p0, .int p1] : List Value).toArray) below meth c H locs 0 0 Qg (F0 m 2 ls []) := by
    intro K_ Ko_ hk n
    induction n with
    | zero => intro x3_2 vCn_2 vCc_2 H locs ls hP hD hS hl hres ho; exact ho.elim
    | succ n ih =>
      intro x3_2 vCn_2 vCc_2 H locs ls hP hD hS hl hres ho
      rw [l_C_fillPart_2, s_C_fillPart_2] at hres
      rw [ol_C_fillPart_2, os_C_fillPart_2] at ho
      refine lv_iload_n hx hb qd_C_fillPart_2 rfl (lv_at hl 0 rfl) ?_
      refine lv_bipush (v := 10) hx hb qd_C_fillPart_3 (by decide) ?_
      refine lv_icmp_ge (tgt := 23) hx hb qd_C_fillPart_5 (by decide) (fun c_5 => ?_) (fun c_5 => ?_)
      · have hres := hres.trans (if_pos c_5)
        have ho := (if_pos c_5).mp ho
        exact hk x3_2 vCn_2 vCc_2 H locs ls hP hD hS (lv_sub hl [0, 1, 2, 3] rfl) hres ho
      have hres := hres.trans (if_neg c_5)
      have ho := (if_neg c_5).mp ho
      refine lv_aload_n hx hb qd_C_fillPart_8 rfl (lv_at hl 1 rfl) ?_
      refine lv_iload_n hx hb qd_C_fillPart_9 rfl (lv_at hl 0 rfl) ?_
      refine lv_iload_n hx hb qd_C_fillPart_10 rfl (lv_at hl 2 rfl) ?_
      refine lv_iload_n hx hb qd_C_fillPart_11 rfl (lv_at hl 3 rfl) ?_
      refine lv_iconst (v := 0) hx hb qd_C_fillPart_12 (by decide) ?_
      refine lv_iconst (v := (-1)) hx hb qd_C_fillPart_13 (by decide) ?_
      obtain ⟨g_14, ho⟩ := ho
      refine xm_Vv (As := [.int x3_2, .int p0, .int p1, .int 0, .int ((-1))]) (rest := []) (w1 := fun (u_14 : (Nat → Int32) × (Nat → Int32)) => [(aC, .inr (0, [.ref aG, .ref aR, .ref aCn, .ref aCc, .ref aCr, .ref aCs, .int vCF])), (aCn, .inl (cA, 5760, .inl (u_14.1))), (aCc, .inl (cA, 5760, .inl (u_14.2)))]) (w2 := fun (u_14 : (Nat → Int32) × (Nat → Int32)) => [(aC, .inr (0, [.ref aG, .ref aR, .ref aCn, .ref aCc, .ref aCr, .ref aCs, .int vCF])), (aCn, .inl (cA, 5760, .inl (u_14.1))), (aCc, .inl (cA, 5760, .inl (u_14.2))), (aCr, .inl (cA, 600, .inl (vCr))), (aCs, .inl (cA, 600, .inl (vCs))), (aG, .inr (2, [.ref aGh, .ref aGi, .ref aGc, .ref aGo, .ref aGr, .int vGF, .int vGS])), (aGh, .inl (cA, 24, .inl (vGh))), (aGi, .inl (cA, 72, .inl (vGi))), (aGc, .inl (cA, 24, .inl (vGc))), (aGo, .inl (cA, 24, .inl (vGo))), (aR, .inr (4, [.ref aRt, .int vRL])), (aRt, .inl (cA, 24, .inl (vRt)))]) ⟨hx, hb, hml, hown, hg⟩ (c_C_write l dC dI cA aC aCn aCc aCr aCs aG aR _ vCF vCn_2 vCc_2 x3_2 p0 p1 0 ((-1)) g_14) (cwV 5 hg (q_gV mw_412 mw_413 mw_754 mw_4 mw_414) rfl rfl rfl qh_C_write ⟨Nat.le_of_ble_eq_true rfl, Nat.le_of_ble_eq_true rfl⟩) hN hK hP hD hS hA [0, 1, 2] [3, 4, 5, 6, 7, 8, 9, 10, 11] rfl rfl (by decide) (by decide) (by decide) [9, 10, 11, 0, 1, 2, 3, 4, 5, 6, 7, 8] (fun _ => rfl) (by decide) 0 0 rfl rfl rfl hl.1 rfl (Nat.le_of_ble_eq_true rfl) qd_C_fillPart_14 ⟨Nat.zero_le _, Nat.zero_le _⟩ (fun u_14 H locs w_14 hP hD hS => ?_)
      have hP : va_P (dC, dI) vwCl [(aC, .inr (0, [.ref aG, .ref aR, .ref aCn, .ref aCc, .ref aCr, .ref aCs, .int vCF])), (aCn, .inl (cA, 5760, .inl (u_14.1))), (aCc, .inl (cA, 5760, .inl (u_14.2))), (aCr, .inl (cA, 600, .inl (vCr))), (aCs, .inl (cA, 600, .inl (vCs))), (aG, .inr (2, [.ref aGh, .ref aGi, .ref aGc, .ref aGo, .ref aGr, .int vGF, .int vGS])), (aGh, .inl (cA, 24, .inl (vGh))), (aGi, .inl (cA, 72, .inl (vGi))), (aGc, .inl (cA, 24, .inl (vGc))), (aGo, .inl (cA, 24, .inl (vGo))), (aR, .inr (4, [.ref aRt, .int vRL])), (aRt, .inl (cA, 24, .inl (vRt)))] H := hP
      have hD : va_D A [(aC, .inr (0, [.ref aG, .ref aR, .ref aCn, .ref aCc, .ref aCr, .ref aCs, .int vCF])), (aCn, .inl (cA, 5760, .inl (u_14.1))), (aCc, .inl (cA, 5760, .inl (u_14.2))), (aCr, .inl (cA, 600, .inl (vCr))), (aCs, .inl (cA, 600, .inl (vCs))), (aG, .inr (2, [.ref aGh, .ref aGi, .ref aGc, .ref aGo, .ref aGr, .int vGF, .int vGS])), (aGh, .inl (cA, 24, .inl (vGh))), (aGi, .inl (cA, 72, .inl (vGi))), (aGc, .inl (cA, 24, .inl (vGc))), (aGo, .inl (cA, 24, .inl (vGo))), (aR, .inr (4, [.ref aRt, .int vRL])), (aRt, .inl (cA, 24, .inl (vRt)))] := hD
      have hres := hres.trans (bd_eq w_14)
      have ho := (bd_eq w_14).mp ho
      refine lv_iinc (v := x3_2 + 1) (lv' := [(3, .int (x3_2 + 1)), (0, .ref aC), (1, .int p0), (2, .int p1)]) hx hb qd_C_fillPart_17 hl (k := 0) rfl (congrArg (fun z => _ + z) (by decide)) (by decide) rfl (fun ls hl => ?_)
      refine lv_goto (tgt := 2) hx hb qd_C_fillPart_20 (by decide) ?_
      exact ih (x3_2 + 1) u_14.1 u_14.2 H locs ls hP hD hS (lv_sub hl [0, 1, 2, 3] rfl) hres ho
  refine L_2 _ _ (fun x3_2 vCn_2 vCc_2 H locs ls hP hD hS hl hres ho => ?_) _ _ _ _ _ _ ls hP hD hS hl hres ho
  refine lv_iconst (v := 0) hx hb qd_C_fillPart_23 (by decide) ?_
  refine lv_istore_n (lv' := [(3, .int 0), (0, .ref aC), (1, .int p0), (2, .int p1)]) hx hb qd_C_fillPart_24 rfl hl (by decide) rfl (fun ls hl => ?_)
  have L_25 : ∀ (K_ : Int32 → (Nat → Int32) → (Nat → Int32) → (Nat → Int32) × (Nat → Int32)) (Ko_ : Int32 → (Nat → Int32) → (Nat → Int32) → Prop) (hk : ∀ (x3_25 : Int32) (vCn_25 : (Nat → Int32)) (vCc_25 : (Nat → Int32)) (H : Heap) (locs : List Loc) (ls : Array Slot), va_P (dC, dI) vwCl [(aC, .inr (0, [.ref aG, .ref aR, .ref aCn, .ref aCc, .ref aCr, .ref aCs, .int vCF])), (aCn, .inl (cA, 5760, .inl (vCn_25))), (aCc, .inl (cA, 5760, .inl (vCc_25))), (aCr, .inl (cA, 600, .inl (vCr))), (aCs, .inl (cA, 600, .inl (vCs))), (aG, .inr (2, [.ref aGh, .ref aGi, .ref aGc, .ref aGo, .ref aGr, .int vGF, .int vGS])), (aGh, .inl (cA, 24, .inl (vGh))), (aGi, .inl (cA, 72, .inl (vGi))), (aGc, .inl (cA, 24, .inl (vGc))), (aGo, .inl (cA, 24, .inl (vGo))), (aR, .inr (4, [.ref aRt, .int vRL])), (aRt, .inl (cA, 24, .inl (vRt)))] H → va_D A [(aC, .inr (0, [.ref aG, .ref aR, .ref aCn, .ref aCc, .ref aCr, .ref aCs, .int vCF])), (aCn, .inl (cA, 5760, .inl (vCn_25))), (aCc, .inl (cA, 5760, .inl (vCc_25))), (aCr, .inl (cA, 600, .inl (vCr))), (aCs, .inl (cA, 600, .inl (vCs))), (aG, .inr (2, [.ref aGh, .ref aGi, .ref aGc, .ref aGo, .ref aGr, .int vGF, .int vGS])), (aGh, .inl (cA, 24, .inl (vGh))), (aGi, .inl (cA, 72, .inl (vGi))), (aGc, .inl (cA, 24, .inl (vGc))), (aGo, .inl (cA, 24, .inl (vGo))), (aR, .inr (4, [.ref aRt, .int vRL])), (aRt, .inl (cA, 24, .inl (vRt)))] → va_S A s.heap H locs → lv_has ls 4 [(3, .int x3_25), (0, .ref aC), (1, .int p0), (2, .int p1)] → Fv = K_ x3_25 vCn_25 vCc_25 → Ko_ x3_25 vCn_25 vCc_25 → W p l e ({ frames := 3, cells := 0, slots := 0, locals := 81 } : Room) s m (([.ref aC, .int p0, .int p1] : List Value).toArray) below meth c H locs 0 0 Qg (F0 m 56 ls [])) (n : Nat) (x3_25 : Int32) (vCn_25 : (Nat → Int32)) (vCc_25 : (Nat → Int32)) (H : Heap) (locs : List Loc) (ls : Array Slot), va_P (dC, dI) vwCl [(aC, .inr (0, [.ref aG, .ref aR, .ref aCn, .ref aCc, .ref aCr, .ref aCs, .int vCF])), (aCn, .inl (cA, 5760, .inl (vCn_25))), (aCc, .inl (cA, 5760, .inl (vCc_25))), (aCr, .inl (cA, 600, .inl (vCr))), (aCs, .inl (cA, 600, .inl (vCs))), (aG, .inr (2, [.ref aGh, .ref aGi, .ref aGc, .ref aGo, .ref aGr, .int vGF, .int vGS])), (aGh, .inl (cA, 24, .inl (vGh))), (aGi, .inl (cA, 72, .inl (vGi))), (aGc, .inl (cA, 24, .inl (vGc))), (aGo, .inl (cA, 24, .inl (vGo))), (aR, .inr (4, [.ref aRt, .int vRL])), (aRt, .inl (cA, 24, .inl (vRt)))] H → va_D A [(aC, .inr (0, [.ref aG, .ref aR, .ref aCn, .ref aCc, .ref aCr, .ref aCs, .int vCF])), (aCn, .inl (cA, 5760, .inl (vCn_25))), (aCc, .inl (cA, 5760, .inl (vCc_25))), (aCr, .inl (cA, 600, .inl (vCr))), (aCs, .inl (cA, 600, .inl (vCs))), (aG, .inr (2, [.ref aGh, .ref aGi, .ref aGc, .ref aGo, .ref aGr, .int vGF, .int vGS])), (aGh, .inl (cA, 24, .inl (vGh))), (aGi, .inl (cA, 72, .inl (vGi))), (aGc, .inl (cA, 24, .inl (vGc))), (aGo, .inl (cA, 24, .inl (vGo))), (aR, .inr (4, [.ref aRt, .int vRL])), (aRt, .inl (cA, 24, .inl (vRt)))] → va_S A s.heap H locs → lv_has ls 4 [(3, .int x3_25), (0, .ref aC), (1, .int p0), (2, .int p1)] → Fv = l_C_fillPart_25 N_ p0 p1 vCr vCs vGS vGh vGi vGc vGo vRL vRt K_ n x3_25 vCn_25 vCc_25 → ol_C_fillPart_25 N_ p0 p1 vCr vCs vGS vGh vGi vGc vGo vRL vRt Ko_ n x3_25 vCn_25 vCc_25 → W p l e ({ frames := 3, cells := 0, slots := 0, locals := 81 } : Room) s m (([.ref aC, .int p0, .int p1] : List Value).toArray) below meth c H locs 0 0 Qg (F0 m 25 ls []) := by
    intro K_ Ko_ hk n
    induction n with
    | zero => intro x3_25 vCn_25 vCc_25 H locs ls hP hD hS hl hres ho; exact ho.elim
    | succ n ih =>
      intro x3_25 vCn_25 vCc_25 H locs ls hP hD hS hl hres ho
      rw [l_C_fillPart_25, s_C_fillPart_25] at hres
      rw [ol_C_fillPart_25, os_C_fillPart_25] at ho
      refine lv_iload_n hx hb qd_C_fillPart_25 rfl (lv_at hl 0 rfl) ?_
      refine lv_aload_n hx hb qd_C_fillPart_26 rfl (lv_at hl 1 rfl) ?_
      refine va_get (D := (dC, dI)) (ci := 0) (v := .ref aG) (C := qR_C) (T := qT_C) (N := 7) hx hb hg qi_C hown hK hP 0 rfl rfl 0 (by decide) (hg _ mw_62) (fun _ h9 => h9) rfl qd_C_fillPart_27 ?_
      refine xc_V (As := []) (rest := [.int x3_25]) ⟨hx, hb, hml, hown, hg⟩ (c_G_size l dC dI cA aG aGh aGi aGc aGo aGr vGF vGS) (cwV 0 hg (q_gV mw_368 mw_369 mw_370 mw_2 mw_371) rfl rfl rfl qh_G_size ⟨Nat.le_of_ble_eq_true rfl, Nat.le_of_ble_eq_true rfl⟩) hN hK hP [5] rfl 0 2 rfl rfl rfl hl.1 rfl (Nat.le_of_ble_eq_true rfl) qd_C_fillPart_30 ⟨Nat.zero_le _, Nat.zero_le _⟩ ?_
      refine lv_icmp_ge (tgt := 56) hx hb qd_C_fillPart_33 (by decide) (fun c_33 => ?_) (fun c_33 => ?_)
      · have hres := hres.trans (if_pos c_33)
        have ho := (if_pos c_33).mp ho
        exact hk x3_25 vCn_25 vCc_25 H locs ls hP hD hS (lv_sub hl [0, 1, 2, 3] rfl) hres ho
      have hres := hres.trans (if_neg c_33)
      have ho := (if_neg c_33).mp ho
      refine lv_aload_n hx hb qd_C_fillPart_36 rfl (lv_at hl 1 rfl) ?_
      refine lv_aload_n hx hb qd_C_fillPart_37 rfl (lv_at hl 1 rfl) ?_
      refine va_get (D := (dC, dI)) (ci := 0) (v := .ref aG) (C := qR_C) (T := qT_C) (N := 7) hx hb hg qi_C hown hK hP 0 rfl rfl 0 (by decide) (hg _ mw_62) (fun _ h9 => h9) rfl qd_C_fillPart_38 ?_
      refine lv_iload_n hx hb qd_C_fillPart_41 rfl (lv_at hl 0 rfl) ?_
      obtain ⟨g_42, ho⟩ := ho
      refine xc_V (As := [.int x3_25]) (rest := [.ref aC]) ⟨hx, hb, hml, hown, hg⟩ (c_G_inStepOrder l dC dI cA aG aGh aGi aGc aGo aGr vGF vGS vGo x3_25 g_42) (cwV 1 hg (q_gV mw_415 mw_416 mw_417 mw_2 mw_418) rfl rfl rfl qh_G_inStepOrder ⟨Nat.le_of_ble_eq_true rfl, Nat.le_of_ble_eq_true rfl⟩) hN hK hP [5, 9] rfl 0 2 rfl rfl rfl hl.1 rfl (Nat.le_of_ble_eq_true rfl) qd_C_fillPart_42 ⟨Nat.zero_le _, Nat.zero_le _⟩ ?_
      refine lv_topi (fun r_42 w_42 => ?_)
      have hres := hres.trans (bd_eq w_42)
      have ho := (bd_eq w_42).mp ho
      refine lv_iload_n hx hb qd_C_fillPart_45 rfl (lv_at hl 2 rfl) ?_
      refine lv_iload_n hx hb qd_C_fillPart_46 rfl (lv_at hl 3 rfl) ?_
      obtain ⟨g_47, ho⟩ := ho
      refine xm_Vv (As := [.int r_42, .int p0, .int p1]) (rest := []) (w1 := fun (u_47 : (Nat → Int32) × (Nat → Int32)) => [(aC, .inr (0, [.ref aG, .ref aR, .ref aCn, .ref aCc, .ref aCr, .ref aCs, .int vCF])), (aCn, .inl (cA, 5760, .inl (u_47.1))), (aCc, .inl (cA, 5760, .inl (u_47.2))), (aCr, .inl (cA, 600, .inl (vCr))), (aCs, .inl (cA, 600, .inl (vCs))), (aG, .inr (2, [.ref aGh, .ref aGi, .ref aGc, .ref aGo, .ref aGr, .int vGF, .int vGS])), (aGh, .inl (cA, 24, .inl (vGh))), (aGi, .inl (cA, 72, .inl (vGi))), (aGc, .inl (cA, 24, .inl (vGc))), (aR, .inr (4, [.ref aRt, .int vRL])), (aRt, .inl (cA, 24, .inl (vRt)))]) (w2 := fun (u_47 : (Nat → Int32) × (Nat → Int32)) => [(aC, .inr (0, [.ref aG, .ref aR, .ref aCn, .ref aCc, .ref aCr, .ref aCs, .int vCF])), (aCn, .inl (cA, 5760, .inl (u_47.1))), (aCc, .inl (cA, 5760, .inl (u_47.2))), (aCr, .inl (cA, 600, .inl (vCr))), (aCs, .inl (cA, 600, .inl (vCs))), (aG, .inr (2, [.ref aGh, .ref aGi, .ref aGc, .ref aGo, .ref aGr, .int vGF, .int vGS])), (aGh, .inl (cA, 24, .inl (vGh))), (aGi, .inl (cA, 72, .inl (vGi))), (aGc, .inl (cA, 24, .inl (vGc))), (aGo, .inl (cA, 24, .inl (vGo))), (aR, .inr (4, [.ref aRt, .int vRL])), (aRt, .inl (cA, 24, .inl (vRt)))]) ⟨hx, hb, hml, hown, hg⟩ (c_C_addProduction l dC dI cA N_ aC aCn aCc aCr aCs aG aGh aGi aGc aGo aGr aR aRt _ vCF vCn_25 vCc_25 vCr vCs vGF vGS vGh vGi vGc vRL vRt r_42 p0 p1 g_47) (cwV 3 hg (q_gV mw_419 mw_420 mw_755 mw_4 mw_421) rfl rfl rfl qh_C_addProduction ⟨Nat.le_of_ble_eq_true rfl, Nat.le_of_ble_eq_true rfl⟩) hN hK hP hD hS hA [0, 1, 2, 3, 4, 5, 6, 7, 8, 10, 11] [9] rfl rfl (by decide) (by decide) (by decide) [1, 2, 3, 4, 5, 6, 7, 8, 9, 0, 10, 11] (fun _ => rfl) (by decide) 0 0 rfl rfl rfl hl.1 rfl (Nat.le_of_ble_eq_true rfl) qd_C_fillPart_47 ⟨Nat.zero_le _, Nat.zero_le _⟩ (fun u_47 H locs w_47 hP hD hS => ?_)
      have hP : va_P (dC, dI) vwCl [(aC, .inr (0, [.ref aG, .ref aR, .ref aCn, .ref aCc, .ref aCr, .ref aCs, .int vCF])), (aCn, .inl (cA, 5760, .inl (u_47.1))), (aCc, .inl (cA, 5760, .inl (u_47.2))), (aCr, .inl (cA, 600, .inl (vCr))), (aCs, .inl (cA, 600, .inl (vCs))), (aG, .inr (2, [.ref aGh, .ref aGi, .ref aGc, .ref aGo, .ref aGr, .int vGF, .int vGS])), (aGh, .inl (cA, 24, .inl (vGh))), (aGi, .inl (cA, 72, .inl (vGi))), (aGc, .inl (cA, 24, .inl (vGc))), (aGo, .inl (cA, 24, .inl (vGo))), (aR, .inr (4, [.ref aRt, .int vRL])), (aRt, .inl (cA, 24, .inl (vRt)))] H := hP
      have hD : va_D A [(aC, .inr (0, [.ref aG, .ref aR, .ref aCn, .ref aCc, .ref aCr, .ref aCs, .int vCF])), (aCn, .inl (cA, 5760, .inl (u_47.1))), (aCc, .inl (cA, 5760, .inl (u_47.2))), (aCr, .inl (cA, 600, .inl (vCr))), (aCs, .inl (cA, 600, .inl (vCs))), (aG, .inr (2, [.ref aGh, .ref aGi, .ref aGc, .ref aGo, .ref aGr, .int vGF, .int vGS])), (aGh, .inl (cA, 24, .inl (vGh))), (aGi, .inl (cA, 72, .inl (vGi))), (aGc, .inl (cA, 24, .inl (vGc))), (aGo, .inl (cA, 24, .inl (vGo))), (aR, .inr (4, [.ref aRt, .int vRL])), (aRt, .inl (cA, 24, .inl (vRt)))] := hD
      have hres := hres.trans (bd_eq w_47)
      have ho := (bd_eq w_47).mp ho
      refine lv_iinc (v := x3_25 + 1) (lv' := [(3, .int (x3_25 + 1)), (0, .ref aC), (1, .int p0), (2, .int p1)]) hx hb qd_C_fillPart_50 hl (k := 0) rfl (congrArg (fun z => _ + z) (by decide)) (by decide) rfl (fun ls hl => ?_)
      refine lv_goto (tgt := 25) hx hb qd_C_fillPart_53 (by decide) ?_
      exact ih (x3_25 + 1) u_47.1 u_47.2 H locs ls hP hD hS (lv_sub hl [0, 1, 2, 3] rfl) hres ho
  refine L_25 _ _ (fun x3_25 vCn_25 vCc_25 H locs ls hP hD hS hl hres ho => ?_) _ _ _ _ _ _ ls hP hD hS hl hres ho
  subst hQ
  exact W.vret hx hb hr (fun t ht hW => ⟨⟨(vCn_25, vCc_25), rfl, hres.symm, ⟨by rw [ht]; exact hP, va_K.moved hW.alike hK, x_N hN hW⟩, hD⟩, hS.F ht⟩) hS.2.2 qd_C_fillPart_56
theorem qd_C_fillColumn_0 : decode qc_C_fillColumn 0 = .ok (.aload_n 0, 1) := by decide +kernel
theorem qd_C_fillColumn_1 : decode qc_C_fillColumn 1 = .ok (.iload_n 1, 1) := by decide +kernel
theorem qd_C_fillColumn_2 : decode qc_C_fillColumn 2 = .ok (.iload_n 1, 1) := by decide +kernel
theorem qd_C_fillColumn_3 : decode qc_C_fillColumn 3 = .ok (.invokevirtual 49, 3) := by decide +kernel
theorem qd_C_fillColumn_6 : decode qc_C_fillColumn 6 = .ok (.iload_n 1, 1) := by decide +kernel
theorem qd_C_fillColumn_7 : decode qc_C_fillColumn 7 = .ok (.iconst 1, 1) := by decide +kernel
theorem qd_C_fillColumn_8 : decode qc_C_fillColumn 8 = .ok (.isub, 1) := by decide +kernel
theorem qd_C_fillColumn_9 : decode qc_C_fillColumn 9 = .ok (.istore_n 2, 1) := by decide +kernel
theorem qd_C_fillColumn_10 : decode qc_C_fillColumn 10 = .ok (.iload_n 2, 1) := by decide +kernel
theorem qd_C_fillColumn_11 : decode qc_C_fillColumn 11 = .ok (.ifCond .lt 21, 3) := by decide +kernel
theorem qd_C_fillColumn_14 : decode qc_C_fillColumn 14 = .ok (.aload_n 0, 1) := by decide +kernel
theorem qd_C_fillColumn_15 : decode qc_C_fillColumn 15 = .ok (.iload_n 2, 1) := by decide +kernel
theorem qd_C_fillColumn_16 : decode qc_C_fillColumn 16 = .ok (.iload_n 1, 1) := by decide +kernel
theorem qd_C_fillColumn_17 : decode qc_C_fillColumn 17 = .ok (.invokevirtual 53, 3) := by decide +kernel
theorem qd_C_fillColumn_20 : decode qc_C_fillColumn 20 = .ok (.aload_n 0, 1) := by decide +kernel
theorem qd_C_fillColumn_21 : decode qc_C_fillColumn 21 = .ok (.iload_n 2, 1) := by decide +kernel
theorem qd_C_fillColumn_22 : decode qc_C_fillColumn 22 = .ok (.iload_n 1, 1) := by decide +kernel
theorem qd_C_fillColumn_23 : decode qc_C_fillColumn 23 = .ok (.invokevirtual 49, 3) := by decide +kernel
theorem qd_C_fillColumn_26 : decode qc_C_fillColumn 26 = .ok (.iinc 2 (-1), 3) := by decide +kernel
theorem qd_C_fillColumn_29 : decode qc_C_fillColumn 29 = .ok (.goto (-19), 3) := by decide +kernel
theorem qd_C_fillColumn_32 : decode qc_C_fillColumn 32 = .ok (.return_, 1) := by decide +kernel
set_option maxHeartbeats 4000000 in
set_option maxRecDepth 100000 in
theorem c_C_fillColumn (l : Launch) (dC : Nat → ClassId) (dI : Nat → Nat → Nat) (cA : ClassId) (N_ : Nat) (aC aCn aCc aCr aCs aG aGh aGi aGc aGo aGr aR aRt : Nat) (sz : Nat) (vCF : Int32) (vCn : (Nat → Int32)) (vCc : (Nat → Int32)) (vCr : (Nat → Int32)) (vCs : (Nat → Int32)) (vGF : Int32) (vGS : Int32) (vGh : (Nat → Int32)) (vGi : (Nat → Int32)) (vGc : (Nat → Int32)) (vGo : (Nat → Int32)) (vRL : Int32) (vRt : (Nat → Int32)) (p0 : Int32) (ho : o_C_fillColumn N_ vCn vCc vCr vCs vGS vGh vGi vGc vGo vRL vRt p0) : Met l qy_C_fillColumn qw_C_fillColumn ({ frames := 4, cells := 0, slots := 0, locals := 104 }) (va_Pc [.ref aC, .int p0] (fun U => U.heap.size = sz ∧ xP (dC, dI) [(cA, .int)] [(aC, .inr (0, [.ref aG, .ref aR, .ref aCn, .ref aCc, .ref aCr, .ref aCs, .int vCF])), (aCn, .inl (cA, 5760, .inl (vCn))), (aCc, .inl (cA, 5760, .inl (vCc))), (aCr, .inl (cA, 600, .inl (vCr))), (aCs, .inl (cA, 600, .inl (vCs))), (aG, .inr (2, [.ref aGh, .ref aGi, .ref aGc, .ref aGo, .ref aGr, .int vGF, .int vGS])), (aGh, .inl (cA, 24, .inl (vGh))), (aGi, .inl (cA, 72, .inl (vGi))), (aGc, .inl (cA, 24, .inl (vGc))), (aGo, .inl (cA, 24, .inl (vGo))), (aR, .inr (4, [.ref aRt, .int vRL])), (aRt, .inl (cA, 24, .inl (vRt)))] nestN U ∧ va_D (fun _ => True) [(aC, .inr (0, [.ref aG, .ref aR, .ref aCn, .ref aCc, .ref aCr, .ref aCs, .int vCF])), (aCn, .inl (cA, 5760, .inl (vCn))), (aCc, .inl (cA, 5760, .inl (vCc))), (aCr, .inl (cA, 600, .inl (vCr))), (aCs, .inl (cA, 600, .inl (vCs))), (aG, .inr (2, [.ref aGh, .ref aGi, .ref aGc, .ref aGo, .ref aGr, .int vGF, .int vGS])), (aGh, .inl (cA, 24, .inl (vGh))), (aGi, .inl (cA, 72, .inl (vGi))), (aGc, .inl (cA, 24, .inl (vGc))), (aGo, .inl (cA, 24, .inl (vGo))), (aR, .inr (4, [.ref aRt, .int vRL])), (aRt, .inl (cA, 24, .inl (vRt)))])) (va_Qv (fun u => u = f_C_fillColumn N_ vCn vCc vCr vCs vGS vGh vGi vGc vGo vRL vRt p0) (fun (u : (Nat → Int32) × (Nat → Int32) × (Nat → Int32) × (Nat → Int32)) t => xP (dC, dI) [(cA, .int)] [(aC, .inr (0, [.ref aG, .ref aR, .ref aCn, .ref aCc, .ref aCr, .ref aCs, .int vCF])), (aCn, .inl (cA, 5760, .inl (u.1))), (aCc, .inl (cA, 5760, .inl (u.2.1))), (aCr, .inl (cA, 600, .inl (u.2.2.1))), (aCs, .inl (cA, 600, .inl (u.2.2.2))), (aG, .inr (2, [.ref aGh, .ref aGi, .ref aGc, .ref aGo, .ref aGr, .int vGF, .int vGS])), (aGh, .inl (cA, 24, .inl (vGh))), (aGi, .inl (cA, 72, .inl (vGi))), (aGc, .inl (cA, 24, .inl (vGc))), (aGo, .inl (cA, 24, .inl (vGo))), (aR, .inr (4, [.ref aRt, .int vRL])), (aRt, .inl (cA, 24, .inl (vRt)))] nestN t ∧ va_D (va_A [(aC, .inr (0, [.ref aG, .ref aR, .ref aCn, .ref aCc, .ref aCr, .ref aCs, .int vCF])), (aCn, .inl (cA, 5760, .inl (vCn))), (aCc, .inl (cA, 5760, .inl (vCc))), (aCr, .inl (cA, 600, .inl (vCr))), (aCs, .inl (cA, 600, .inl (vCs))), (aG, .inr (2, [.ref aGh, .ref aGi, .ref aGc, .ref aGo, .ref aGr, .int vGF, .int vGS])), (aGh, .inl (cA, 24, .inl (vGh))), (aGi, .inl (cA, 72, .inl (vGi))), (aGc, .inl (cA, 24, .inl (vGc))), (aGo, .inl (cA, 24, .inl (vGo))), (aR, .inr (4, [.ref aRt, .int vRL])), (aRt, .inl (cA, 24, .inl (vRt)))] sz) [(aC, .inr (0, [.ref aG, .ref aR, .ref aCn, .ref aCc, .ref aCr, .ref aCs, .int vCF])), (aCn, .inl (cA, 5760, .inl (u.1))), (aCc, .inl (cA, 5760, .inl (u.2.1))), (aCr, .inl (cA, 600, .inl (u.2.2.1))), (aCs, .inl (cA, 600, .inl (u.2.2.2))), (aG, .inr (2, [.ref aGh, .ref aGi, .ref aGc, .ref aGo, .ref aGr, .int vGF, .int vGS])), (aGh, .inl (cA, 24, .inl (vGh))), (aGi, .inl (cA, 72, .inl (vGi))), (aGc, .inl (cA, 24, .inl (vGc))), (aGo, .inl (cA, 24, .inl (vGo))), (aR, .inr (4, [.ref aRt, .int vRL])), (aRt, .inl (cA, 24, .inl (vRt)))]) (va_A [(aC, .inr (0, [.ref aG, .ref aR, .ref aCn, .ref aCc, .ref aCr, .ref aCs, .int vCF])), (aCn, .inl (cA, 5760, .inl (vCn))), (aCc, .inl (cA, 5760, .inl (vCc))), (aCr, .inl (cA, 600, .inl (vCr))), (aCs, .inl (cA, 600, .inl (vCs))), (aG, .inr (2, [.ref aGh, .ref aGi, .ref aGc, .ref aGo, .ref aGr, .int vGF, .int vGS])), (aGh, .inl (cA, 24, .inl (vGh))), (aGi, .inl (cA, 72, .inl (vGi))), (aGc, .inl (cA, 24, .inl (vGc))), (aGo, .inl (cA, 24, .inl (vGo))), (aR, .inr (4, [.ref aRt, .int vRL])), (aRt, .inl (cA, 24, .inl (vRt)))] sz)) 0 0 (va_A [(aC, .inr (0, [.ref aG, .ref aR, .ref aCn, .ref aCc, .ref aCr, .ref aCs, .int vCF])), (aCn, .inl (cA, 5760, .inl (vCn))), (aCc, .inl (cA, 5760, .inl (vCc))), (aCr, .inl (cA, 600, .inl (vCr))), (aCs, .inl (cA, 600, .inl (vCs))), (aG, .inr (2, [.ref aGh, .ref aGi, .ref aGc, .ref aGo, .ref aGr, .int vGF, .int vGS])), (aGh, .inl (cA, 24, .inl (vGh))), (aGi, .inl (cA, 72, .inl (vGi))), (aGc, .inl (cA, 24, .inl (vGc))), (aGo, .inl (cA, 24, .inl (vGo))), (aR, .inr (4, [.ref aRt, .int vRL])), (aRt, .inl (cA, 24, .inl (vRt)))] sz) := by
  refine Met.ofW (cc := qc_C_fillColumn) (maxL := 3) (ret := (none)) (by decide) rfl ?_
  intro p e s m args below meth c s₁ B hml hv
  obtain ⟨rfl, hsz, ⟨hP, hK, hN⟩, hD0⟩ := hv
  have hx := B.exec
  have hb := B.bytes
  have hr := B.returns
  have hts := atoms_spec (ws := qw_C_fillColumn) B.pre
  have hg : ∀ w ∈ gG, w.before _ s = true := fun w h => hts w (List.mem_cons_of_mem _ h)
  have hown : s.vm.findClass qR_C = some m.cls := findClass_of_methodNamed B.named
  have hlocks := B.notSynchronized
  subst hsz
  have hD := hD0.self (sz := s.heap.size)
  generalize hAe : va_A [(aC, .inr (0, [.ref aG, .ref aR, .ref aCn, .ref aCc, .ref aCr, .ref aCs, .int vCF])), (aCn, .inl (cA, 5760, .inl (vCn))), (aCc, .inl (cA, 5760, .inl (vCc))), (aCr, .inl (cA, 600, .inl (vCr))), (aCs, .inl (cA, 600, .inl (vCs))), (aG, .inr (2, [.ref aGh, .ref aGi, .ref aGc, .ref aGo, .ref aGr, .int vGF, .int vGS])), (aGh, .inl (cA, 24, .inl (vGh))), (aGi, .inl (cA, 72, .inl (vGi))), (aGc, .inl (cA, 24, .inl (vGc))), (aGo, .inl (cA, 24, .inl (vGo))), (aR, .inr (4, [.ref aRt, .int vRL])), (aRt, .inl (cA, 24, .inl (vRt)))] s.heap.size = A at hD ⊢
  have hA : ∀ q : Nat, s.heap.size ≤ q → A q := fun q h => by rw [← hAe]; exact Or.inr h
  have hS : va_S A s.heap s.heap [] := va_S.rf
  have hP : va_P (dC, dI) vwCl [(aC, .inr (0, [.ref aG, .ref aR, .ref aCn, .ref aCc, .ref aCr, .ref aCs, .int vCF])), (aCn, .inl (cA, 5760, .inl (vCn))), (aCc, .inl (cA, 5760, .inl (vCc))), (aCr, .inl (cA, 600, .inl (vCr))), (aCs, .inl (cA, 600, .inl (vCs))), (aG, .inr (2, [.ref aGh, .ref aGi, .ref aGc, .ref aGo, .ref aGr, .int vGF, .int vGS])), (aGh, .inl (cA, 24, .inl (vGh))), (aGi, .inl (cA, 72, .inl (vGi))), (aGc, .inl (cA, 24, .inl (vGc))), (aGo, .inl (cA, 24, .inl (vGo))), (aR, .inr (4, [.ref aRt, .int vRL])), (aRt, .inl (cA, 24, .inl (vRt)))] s.heap := hP
  have hl := lv_entry ([.ref aC, .int p0]) (n := 3) (Nat.le_of_ble_eq_true rfl)
  rw [lg_entry_eq]
  generalize (lg_sl ([.ref aC, .int p0]) ++ List.replicate (3 - (lg_sl ([.ref aC, .int p0])).length) Slot.unset).toArray = ls at hl ⊢
  have hl : lv_has ls 3 [(0, .ref aC), (1, .int p0)] := hl
  generalize hF : f_C_fillColumn N_ vCn vCc vCr vCs vGS vGh vGi vGc vGo vRL vRt p0 = Fv
  have hres : Fv = f_C_fillColumn N_ vCn vCc vCr vCs vGS vGh vGi vGc vGo vRL vRt p0 := hF.symm
  unfold f_C_fillColumn at hres
  unfold o_C_fillColumn at ho
  generalize hQ : MQ _ _ _ _ _ _ _ = Qg
  refine lv_aload_n hx hb qd_C_fillColumn_0 rfl (lv_at hl 0 rfl) ?_
  refine lv_iload_n hx hb qd_C_fillColumn_1 rfl (lv_at hl 1 rfl) ?_
  refine lv_iload_n hx hb qd_C_fillColumn_2 rfl (lv_at hl 1 rfl) ?_
  obtain ⟨g_3, ho⟩ := ho
  refine xm_Vv (As := [.int p0, .int p0]) (rest := []) (w1 := fun (u_3 : (Nat → Int32) × (Nat → Int32)) => [(aC, .inr (0, [.ref aG, .ref aR, .ref aCn, .ref aCc, .ref aCr, .ref aCs, .int vCF])), (aCn, .inl (cA, 5760, .inl (vCn))), (aCc, .inl (cA, 5760, .inl (vCc))), (aCr, .inl (cA, 600, .inl (u_3.1))), (aCs, .inl (cA, 600, .inl (u_3.2))), (aG, .inr (2, [.ref aGh, .ref aGi, .ref aGc, .ref aGo, .ref aGr, .int vGF, .int vGS])), (aGi, .inl (cA, 72, .inl (vGi))), (aR, .inr (4, [.ref aRt, .int vRL])), (aRt, .inl (cA, 24, .inl (vRt)))]) (w2 := fun (u_3 : (Nat → Int32) × (Nat → Int32)) => [(aC, .inr (0, [.ref aG, .ref aR, .ref aCn, .ref aCc, .ref aCr, .ref aCs, .int vCF])), (aCn, .inl (cA, 5760, .inl (vCn))), (aCc, .inl (cA, 5760, .inl (vCc))), (aCr, .inl (cA, 600, .inl (u_3.1))), (aCs, .inl (cA, 600, .inl (u_3.2))), (aG, .inr (2, [.ref aGh, .ref aGi, .ref aGc, .ref aGo, .ref aGr, .int vGF, .int vGS])), (aGh, .inl (cA, 24, .inl (vGh))), (aGi, .inl (cA, 72, .inl (vGi))), (aGc, .inl (cA, 24, .inl (vGc))), (aGo, .inl (cA, 24, .inl (vGo))), (aR, .inr (4, [.ref aRt, .int vRL])), (aRt, .inl (cA, 24, .inl (vRt)))]) ⟨hx, hb, hml, hown, hg⟩ (c_C_fillRests l dC dI cA N_ aC aCn aCc aCr aCs aG aGh aGi aGc aGo aGr aR aRt _ vCF vCn vCc vCr vCs vGF vGS vGi vRL vRt p0 p0 g_3) (cwV 2 hg (q_gV mw_365 mw_366 mw_751 mw_4 mw_367) rfl rfl rfl qh_C_fillRests ⟨Nat.le_of_ble_eq_true rfl, Nat.le_of_ble_eq_true rfl⟩) hN hK hP hD hS hA [0, 1, 2, 3, 4, 5, 7, 10, 11] [6, 8, 9] rfl rfl (by decide) (by decide) (by decide) [3, 4, 5, 6, 7, 8, 0, 9, 1, 2, 10, 11] (fun _ => rfl) (by decide) 0 0 rfl rfl rfl hl.1 rfl (Nat.le_of_ble_eq_true rfl) qd_C_fillColumn_3 ⟨Nat.zero_le _, Nat.zero_le _⟩ (fun u_3 H locs w_3 hP hD hS => ?_)
  have hP : va_P (dC, dI) vwCl [(aC, .inr (0, [.ref aG, .ref aR, .ref aCn, .ref aCc, .ref aCr, .ref aCs, .int vCF])), (aCn, .inl (cA, 5760, .inl (vCn))), (aCc, .inl (cA, 5760, .inl (vCc))), (aCr, .inl (cA, 600, .inl (u_3.1))), (aCs, .inl (cA, 600, .inl (u_3.2))), (aG, .inr (2, [.ref aGh, .ref aGi, .ref aGc, .ref aGo, .ref aGr, .int vGF, .int vGS])), (aGh, .inl (cA, 24, .inl (vGh))), (aGi, .inl (cA, 72, .inl (vGi))), (aGc, .inl (cA, 24, .inl (vGc))), (aGo, .inl (cA, 24, .inl (vGo))), (aR, .inr (4, [.ref aRt, .int vRL])), (aRt, .inl (cA, 24, .inl (vRt)))] H := hP
  have hD : va_D A [(aC, .inr (0, [.ref aG, .ref aR, .ref aCn, .ref aCc, .ref aCr, .ref aCs, .int vCF])), (aCn, .inl (cA, 5760, .inl (vCn))), (aCc, .inl (cA, 5760, .inl (vCc))), (aCr, .inl (cA, 600, .inl (u_3.1))), (aCs, .inl (cA, 600, .inl (u_3.2))), (aG, .inr (2, [.ref aGh, .ref aGi, .ref aGc, .ref aGo, .ref aGr, .int vGF, .int vGS])), (aGh, .inl (cA, 24, .inl (vGh))), (aGi, .inl (cA, 72, .inl (vGi))), (aGc, .inl (cA, 24, .inl (vGc))), (aGo, .inl (cA, 24, .inl (vGo))), (aR, .inr (4, [.ref aRt, .int vRL])), (aRt, .inl (cA, 24, .inl (vRt)))] := hD
  have hres := hres.trans (bd_eq w_3)
  have ho := (bd_eq w_3).mp ho
  refine lv_iload_n hx hb qd_C_fillColumn_6 rfl (lv_at hl 1 rfl) ?_
  refine lv_iconst (v := 1) hx hb qd_C_fillColumn_7 (by decide) ?_
  refine lv_isub hx hb qd_C_fillColumn_8 ?_
  refine lv_istore_n (lv' := [(2, .int (p0 - 1)), (0, .ref aC), (1, .int p0)]) hx hb qd_C_fillColumn_9 rfl hl (by decide) rfl (fun ls hl => ?_)
  have L_10 : ∀ (K_ : Int32 → (Nat → Int32) → (Nat → Int32) → (Nat → Int32) → (Nat → Int32) → (Nat → Int32) × (Nat → Int32) × (Nat → Int32) × (Nat → Int32)) (Ko_ : Int32 → (Nat → Int32) → (Nat → Int32) → (Nat → Int32) → (Nat → Int32) → Prop) (hk : ∀ (x2_10 : Int32) (vCn_10 : (Nat → Int32)) (vCc_10 : (Nat → Int32)) (vCr_10 : (Nat → Int32)) (vCs_10 : (Nat → Int32)) (H : Heap) (locs : List Loc) (ls : Array Slot), va_P (dC, dI) vwCl [(aC, .inr (0, [.ref aG, .ref aR, .ref aCn, .ref aCc, .ref aCr, .ref aCs, .int vCF])), (aCn, .inl (cA, 5760, .inl (vCn_10))), (aCc, .inl (cA, 5760, .inl (vCc_10))), (aCr, .inl (cA, 600, .inl (vCr_10))), (aCs, .inl (cA, 600, .inl (vCs_10))), (aG, .inr (2, [.ref aGh, .ref aGi, .ref aGc, .ref aGo, .ref aGr, .int vGF, .int vGS])), (aGh, .inl (cA, 24, .inl (vGh))), (aGi, .inl (cA, 72, .inl (vGi))), (aGc, .inl (cA, 24, .inl (vGc))), (aGo, .inl (cA, 24, .inl (vGo))), (aR, .inr (4, [.ref aRt, .int vRL])), (aRt, .inl (cA, 24, .inl (vRt)))] H → va_D A [(aC, .inr (0, [.ref aG, .ref aR, .ref aCn, .ref aCc, .ref aCr, .ref aCs, .int vCF])), (aCn, .inl (cA, 5760, .inl (vCn_10))), (aCc, .inl (cA, 5760, .inl (vCc_10))), (aCr, .inl (cA, 600, .inl (vCr_10))), (aCs, .inl (cA, 600, .inl (vCs_10))), (aG, .inr (2, [.ref aGh, .ref aGi, .ref aGc, .ref aGo, .ref aGr, .int vGF, .int vGS])), (aGh, .inl (cA, 24, .inl (vGh))), (aGi, .inl (cA, 72, .inl (vGi))), (aGc, .inl (cA, 24, .inl (vGc))), (aGo, .inl (cA, 24, .inl (vGo))), (aR, .inr (4, [.ref aRt, .int vRL])), (aRt, .inl (cA, 24, .inl (vRt)))] → va_S A s.heap H locs → lv_has ls 3 [(2, .int x2_10), (0, .ref aC), (1, .int p0)] → Fv = K_ x2_10 vCn_10 vCc_10 vCr_10 vCs_10 → Ko_ x2_10 vCn_10 vCc_10 vCr_10 vCs_10 → W p l e ({ frames := 4, cells := 0, slots := 0, locals := 104 } : Room) s m (([.ref aC, .int p0] : List Value).toArray) below meth c H locs 0 0 Qg (F0 m 32 ls [])) (n : Nat) (x2_10 : Int32) (vCn_10 : (Nat → Int32)) (vCc_10 : (Nat → Int32)) (vCr_10 : (Nat → Int32)) (vCs_10 : (Nat → Int32)) (H : Heap) (locs : List Loc) (ls : Array Slot), va_P (dC, dI) vwCl [(aC, .inr (0, [.ref aG, .ref aR, .ref aCn, .ref aCc, .ref aCr, .ref aCs, .int vCF])), (aCn, .inl (cA, 5760, .inl (vCn_10))), (aCc, .inl (cA, 5760, .inl (vCc_10))), (aCr, .inl (cA, 600, .inl (vCr_10))), (aCs, .inl (cA, 600, .inl (vCs_10))), (aG, .inr (2, [.ref aGh, .ref aGi, .ref aGc, .ref aGo, .ref aGr, .int vGF, .int vGS])), (aGh, .inl (cA, 24, .inl (vGh))), (aGi, .inl (cA, 72, .inl (vGi))), (aGc, .inl (cA, 24, .inl (vGc))), (aGo, .inl (cA, 24, .inl (vGo))), (aR, .inr (4, [.ref aRt, .int vRL])), (aRt, .inl (cA, 24, .inl (vRt)))] H → va_D A [(aC, .inr (0, [.ref aG, .ref aR, .ref aCn, .ref aCc, .ref aCr, .ref aCs, .int vCF])), (aCn, .inl (cA, 5760, .inl (vCn_10))), (aCc, .inl (cA, 5760, .inl (vCc_10))), (aCr, .inl (cA, 600, .inl (vCr_10))), (aCs, .inl (cA, 600, .inl (vCs_10))), (aG, .inr (2, [.ref aGh, .ref aGi, .ref aGc, .ref aGo, .ref aGr, .int vGF, .int vGS])), (aGh, .inl (cA, 24, .inl (vGh))), (aGi, .inl (cA, 72, .inl (vGi))), (aGc, .inl (cA, 24, .inl (vGc))), (aGo, .inl (cA, 24, .inl (vGo))), (aR, .inr (4, [.ref aRt, .int vRL])), (aRt, .inl (cA, 24, .inl (vRt)))] → va_S A s.heap H locs → lv_has ls 3 [(2, .int x2_10), (0, .ref aC), (1, .int p0)] → Fv = l_C_fillColumn_10 N_ p0 vGS vGh vGi vGc vGo vRL vRt K_ n x2_10 vCn_10 vCc_10 vCr_10 vCs_10 → ol_C_fillColumn_10 N_ p0 vGS vGh vGi vGc vGo vRL vRt Ko_ n x2_10 vCn_10 vCc_10 vCr_10 vCs_10 → W p l e ({ frames := 4, cells := 0, slots := 0, locals := 104 } : Room) s m (([.ref aC, .int p0] : List Value).toArray) below meth c H locs 0 0 Qg (F0 m 10 ls []) := by
    intro K_ Ko_ hk n
    induction n with
    | zero => intro x2_10 vCn_10 vCc_10 vCr_10 vCs_10 H locs ls hP hD hS hl hres ho; exact ho.elim
    | succ n ih =>
      intro x2_10 vCn_10 vCc_10 vCr_10 vCs_10 H locs ls hP hD hS hl hres ho
      rw [l_C_fillColumn_10, s_C_fillColumn_10] at hres
      rw [ol_C_fillColumn_10, os_C_fillColumn_10] at ho
      refine lv_iload_n hx hb qd_C_fillColumn_10 rfl (lv_at hl 0 rfl) ?_
      refine lv_if_lt (tgt := 32) hx hb qd_C_fillColumn_11 (by decide) (fun c_11 => ?_) (fun c_11 => ?_)
      · have hres := hres.trans (if_pos c_11)
        have ho := (if_pos c_11).mp ho
        exact hk x2_10 vCn_10 vCc_10 vCr_10 vCs_10 H locs ls hP hD hS (lv_sub hl [0, 1, 2] rfl) hres ho
      have hres := hres.trans (if_neg c_11)
      have ho := (if_neg c_11).mp ho
      refine lv_aload_n hx hb qd_C_fillColumn_14 rfl (lv_at hl 1 rfl) ?_
      refine lv_iload_n hx hb qd_C_fillColumn_15 rfl (lv_at hl 0 rfl) ?_
      refine lv_iload_n hx hb qd_C_fillColumn_16 rfl (lv_at hl 2 rfl) ?_
      obtain ⟨g_17, ho⟩ := ho
      refine xm_Vv (As := [.int x2_10, .int p0]) (rest := []) (w1 := fun (u_17 : (Nat → Int32) × (Nat → Int32)) => [(aC, .inr (0, [.ref aG, .ref aR, .ref aCn, .ref aCc, .ref aCr, .ref aCs, .int vCF])), (aCn, .inl (cA, 5760, .inl (u_17.1))), (aCc, .inl (cA, 5760, .inl (u_17.2))), (aCr, .inl (cA, 600, .inl (vCr_10))), (aCs, .inl (cA, 600, .inl (vCs_10))), (aG, .inr (2, [.ref aGh, .ref aGi, .ref aGc, .ref aGo, .ref aGr, .int vGF, .int vGS])), (aGh, .inl (cA, 24, .inl (vGh))), (aGi, .inl (cA, 72, .inl (vGi))), (aGc, .inl (cA, 24, .inl (vGc))), (aGo, .inl (cA, 24, .inl (vGo))), (aR, .inr (4, [.ref aRt, .int vRL])), (aRt, .inl (cA, 24, .inl (vRt)))]) (w2 := fun (u_17 : (Nat → Int32) × (Nat → Int32)) => [(aC, .inr (0, [.ref aG, .ref aR, .ref aCn, .ref aCc, .ref aCr, .ref aCs, .int vCF])), (aCn, .inl (cA, 5760, .inl (u_17.1))), (aCc, .inl (cA, 5760, .inl (u_17.2))), (aCr, .inl (cA, 600, .inl (vCr_10))), (aCs, .inl (cA, 600, .inl (vCs_10))), (aG, .inr (2, [.ref aGh, .ref aGi, .ref aGc, .ref aGo, .ref aGr, .int vGF, .int vGS])), (aGh, .inl (cA, 24, .inl (vGh))), (aGi, .inl (cA, 72, .inl (vGi))), (aGc, .inl (cA, 24, .inl (vGc))), (aGo, .inl (cA, 24, .inl (vGo))), (aR, .inr (4, [.ref aRt, .int vRL])), (aRt, .inl (cA, 24, .inl (vRt)))]) ⟨hx, hb, hml, hown, hg⟩ (c_C_fillPart l dC dI cA N_ aC aCn aCc aCr aCs aG aGh aGi aGc aGo aGr aR aRt _ vCF vCn_10 vCc_10 vCr_10 vCs_10 vGF vGS vGh vGi vGc vGo vRL vRt x2_10 p0 g_17) (cwV 2 hg (q_gV mw_409 mw_410 mw_753 mw_4 mw_411) rfl rfl rfl qh_C_fillPart ⟨Nat.le_of_ble_eq_true rfl, Nat.le_of_ble_eq_true rfl⟩) hN hK hP hD hS hA [0, 1, 2, 3, 4, 5, 6, 7, 8, 9, 10, 11] [] rfl rfl (by decide) (by decide) (by decide) [0, 1, 2, 3, 4, 5, 6, 7, 8, 9, 10, 11] (fun _ => rfl) (by decide) 0 0 rfl rfl rfl hl.1 rfl (Nat.le_of_ble_eq_true rfl) qd_C_fillColumn_17 ⟨Nat.zero_le _, Nat.zero_le _⟩ (fun u_17 H locs w_17 hP hD hS => ?_)
      have hP : va_P (dC, dI) vwCl [(aC, .inr (0, [.ref aG, .ref aR, .ref aCn, .ref aCc, .ref aCr, .ref aCs, .int vCF])), (aCn, .inl (cA, 5760, .inl (u_17.1))), (aCc, .inl (cA, 5760, .inl (u_17.2))), (aCr, .inl (cA, 600, .inl (vCr_10))), (aCs, .inl (cA, 600, .inl (vCs_10))), (aG, .inr (2, [.ref aGh, .ref aGi, .ref aGc, .ref aGo, .ref aGr, .int vGF, .int vGS])), (aGh, .inl (cA, 24, .inl (vGh))), (aGi, .inl (cA, 72, .inl (vGi))), (aGc, .inl (cA, 24, .inl (vGc))), (aGo, .inl (cA, 24, .inl (vGo))), (aR, .inr (4, [.ref aRt, .int vRL])), (aRt, .inl (cA, 24, .inl (vRt)))] H := hP
      have hD : va_D A [(aC, .inr (0, [.ref aG, .ref aR, .ref aCn, .ref aCc, .ref aCr, .ref aCs, .int vCF])), (aCn, .inl (cA, 5760, .inl (u_17.1))), (aCc, .inl (cA, 5760, .inl (u_17.2))), (aCr, .inl (cA, 600, .inl (vCr_10))), (aCs, .inl (cA, 600, .inl (vCs_10))), (aG, .inr (2, [.ref aGh, .ref aGi, .ref aGc, .ref aGo, .ref aGr, .int vGF, .int vGS])), (aGh, .inl (cA, 24, .inl (vGh))), (aGi, .inl (cA, 72, .inl (vGi))), (aGc, .inl (cA, 24, .inl (vGc))), (aGo, .inl (cA, 24, .inl (vGo))), (aR, .inr (4, [.ref aRt, .int vRL])), (aRt, .inl (cA, 24, .inl (vRt)))] := hD
      have hres := hres.trans (bd_eq w_17)
      have ho := (bd_eq w_17).mp ho
      refine lv_aload_n hx hb qd_C_fillColumn_20 rfl (lv_at hl 1 rfl) ?_
      refine lv_iload_n hx hb qd_C_fillColumn_21 rfl (lv_at hl 0 rfl) ?_
      refine lv_iload_n hx hb qd_C_fillColumn_22 rfl (lv_at hl 2 rfl) ?_
      obtain ⟨g_23, ho⟩ := ho
      refine xm_Vv (As := [.int x2_10, .int p0]) (rest := []) (w1 := fun (u_23 : (Nat → Int32) × (Nat → Int32)) => [(aC, .inr (0, [.ref aG, .ref aR, .ref aCn, .ref aCc, .ref aCr, .ref aCs, .int vCF])), (aCn, .inl (cA, 5760, .inl (u_17.1))), (aCc, .inl (cA, 5760, .inl (u_17.2))), (aCr, .inl (cA, 600, .inl (u_23.1))), (aCs, .inl (cA, 600, .inl (u_23.2))), (aG, .inr (2, [.ref aGh, .ref aGi, .ref aGc, .ref aGo, .ref aGr, .int vGF, .int vGS])), (aGi, .inl (cA, 72, .inl (vGi))), (aR, .inr (4, [.ref aRt, .int vRL])), (aRt, .inl (cA, 24, .inl (vRt)))]) (w2 := fun (u_23 : (Nat → Int32) × (Nat → Int32)) => [(aC, .inr (0, [.ref aG, .ref aR, .ref aCn, .ref aCc, .ref aCr, .ref aCs, .int vCF])), (aCn, .inl (cA, 5760, .inl (u_17.1))), (aCc, .inl (cA, 5760, .inl (u_17.2))), (aCr, .inl (cA, 600, .inl (u_23.1))), (aCs, .inl (cA, 600, .inl (u_23.2))), (aG, .inr (2, [.ref aGh, .ref aGi, .ref aGc, .ref aGo, .ref aGr, .int vGF, .int vGS])), (aGh, .inl (cA, 24, .inl (vGh))), (aGi, .inl (cA, 72, .inl (vGi))), (aGc, .inl (cA, 24, .inl (vGc))), (aGo, .inl (cA, 24, .inl (vGo))), (aR, .inr (4, [.ref aRt, .int vRL])), (aRt, .inl (cA, 24, .inl (vRt)))]) ⟨hx, hb, hml, hown, hg⟩ (c_C_fillRests l dC dI cA N_ aC aCn aCc aCr aCs aG aGh aGi aGc aGo aGr aR aRt _ vCF u_17.1 u_17.2 vCr_10 vCs_10 vGF vGS vGi vRL vRt x2_10 p0 g_23) (cwV 2 hg (q_gV mw_365 mw_366 mw_751 mw_4 mw_367) rfl rfl rfl qh_C_fillRests ⟨Nat.le_of_ble_eq_true rfl, Nat.le_of_ble_eq_true rfl⟩) hN hK hP hD hS hA [0, 1, 2, 3, 4, 5, 7, 10, 11] [6, 8, 9] rfl rfl (by decide) (by decide) (by decide) [3, 4, 5, 6, 7, 8, 0, 9, 1, 2, 10, 11] (fun _ => rfl) (by decide) 0 0 rfl rfl rfl hl.1 rfl (Nat.le_of_ble_eq_true rfl) qd_C_fillColumn_23 ⟨Nat.zero_le _, Nat.zero_le _⟩ (fun u_23 H locs w_23 hP hD hS => ?_)
      have hP : va_P (dC, dI) vwCl [(aC, .inr (0, [.ref aG, .ref aR, .ref aCn, .ref aCc, .ref aCr, .ref aCs, .int vCF])), (aCn, .inl (cA, 5760, .inl (u_17.1))), (aCc, .inl (cA, 5760, .inl (u_17.2))), (aCr, .inl (cA, 600, .inl (u_23.1))), (aCs, .inl (cA, 600, .inl (u_23.2))), (aG, .inr (2, [.ref aGh, .ref aGi, .ref aGc, .ref aGo, .ref aGr, .int vGF, .int vGS])), (aGh, .inl (cA, 24, .inl (vGh))), (aGi, .inl (cA, 72, .inl (vGi))), (aGc, .inl (cA, 24, .inl (vGc))), (aGo, .inl (cA, 24, .inl (vGo))), (aR, .inr (4, [.ref aRt, .int vRL])), (aRt, .inl (cA, 24, .inl (vRt)))] H := hP
      have hD : va_D A [(aC, .inr (0, [.ref aG, .ref aR, .ref aCn, .ref aCc, .ref aCr, .ref aCs, .int vCF])), (aCn, .inl (cA, 5760, .inl (u_17.1))), (aCc, .inl (cA, 5760, .inl (u_17.2))), (aCr, .inl (cA, 600, .inl (u_23.1))), (aCs, .inl (cA, 600, .inl (u_23.2))), (aG, .inr (2, [.ref aGh, .ref aGi, .ref aGc, .ref aGo, .ref aGr, .int vGF, .int vGS])), (aGh, .inl (cA, 24, .inl (vGh))), (aGi, .inl (cA, 72, .inl (vGi))), (aGc, .inl (cA, 24, .inl (vGc))), (aGo, .inl (cA, 24, .inl (vGo))), (aR, .inr (4, [.ref aRt, .int vRL])), (aRt, .inl (cA, 24, .inl (vRt)))] := hD
      have hres := hres.trans (bd_eq w_23)
      have ho := (bd_eq w_23).mp ho
      refine lv_iinc (v := x2_10 + (-1)) (lv' := [(2, .int (x2_10 + (-1))), (0, .ref aC), (1, .int p0)]) hx hb qd_C_fillColumn_26 hl (k := 0) rfl (congrArg (fun z => _ + z) (by decide)) (by decide) rfl (fun ls hl => ?_)
      refine lv_goto (tgt := 10) hx hb qd_C_fillColumn_29 (by decide) ?_
      exact ih (x2_10 + (-1)) u_17.1 u_17.2 u_23.1 u_23.2 H locs ls hP hD hS (lv_sub hl [0, 1, 2] rfl) hres ho
  refine L_10 _ _ (fun x2_10 vCn_10 vCc_10 vCr_10 vCs_10 H locs ls hP hD hS hl hres ho => ?_) _ _ _ _ _ _ _ _ ls hP hD hS hl hres ho
  subst hQ
  exact W.vret hx hb hr (fun t ht hW => ⟨⟨(vCn_10, vCc_10, vCr_10, vCs_10), rfl, hres.symm, ⟨by rw [ht]; exact hP, va_K.moved hW.alike hK, x_N hN hW⟩, hD⟩, hS.F ht⟩) hS.2.2 qd_C_fillColumn_32
theorem qd_C_fill_0 : decode qc_C_fill 0 = .ok (.aload_n 0, 1) := by decide +kernel
theorem qd_C_fill_1 : decode qc_C_fill 1 = .ok (.getfield 24, 3) := by decide +kernel
theorem qd_C_fill_4 : decode qc_C_fill 4 = .ok (.iconst 1, 1) := by decide +kernel
theorem qd_C_fill_5 : decode qc_C_fill 5 = .ok (.iadd, 1) := by decide +kernel
theorem qd_C_fill_6 : decode qc_C_fill 6 = .ok (.istore_n 2, 1) := by decide +kernel
theorem qd_C_fill_7 : decode qc_C_fill 7 = .ok (.iload_n 2, 1) := by decide +kernel
theorem qd_C_fill_8 : decode qc_C_fill 8 = .ok (.iload_n 1, 1) := by decide +kernel
theorem qd_C_fill_9 : decode qc_C_fill 9 = .ok (.if_icmp .gt 14, 3) := by decide +kernel
theorem qd_C_fill_12 : decode qc_C_fill 12 = .ok (.aload_n 0, 1) := by decide +kernel
theorem qd_C_fill_13 : decode qc_C_fill 13 = .ok (.iload_n 2, 1) := by decide +kernel
theorem qd_C_fill_14 : decode qc_C_fill 14 = .ok (.invokevirtual 42, 3) := by decide +kernel
theorem qd_C_fill_17 : decode qc_C_fill 17 = .ok (.iinc 2 1, 3) := by decide +kernel
theorem qd_C_fill_20 : decode qc_C_fill 20 = .ok (.goto (-13), 3) := by decide +kernel
theorem qd_C_fill_23 : decode qc_C_fill 23 = .ok (.aload_n 0, 1) := by decide +kernel
theorem qd_C_fill_24 : decode qc_C_fill 24 = .ok (.aload_n 0, 1) := by decide +kernel
theorem qd_C_fill_25 : decode qc_C_fill 25 = .ok (.getfield 24, 3) := by decide +kernel
theorem qd_C_fill_28 : decode qc_C_fill 28 = .ok (.iload_n 1, 1) := by decide +kernel
theorem qd_C_fill_29 : decode qc_C_fill 29 = .ok (.invokestatic 46, 3) := by decide +kernel
theorem qd_C_fill_32 : decode qc_C_fill 32 = .ok (.putfield 24, 3) := by decide +kernel
theorem qd_C_fill_35 : decode qc_C_fill 35 = .ok (.return_, 1) := by decide +kernel
set_option maxHeartbeats 4000000 in
set_option maxRecDepth 100000 in
theorem c_C_fill (l : Launch) (dC : Nat → ClassId) (dI : Nat → Nat → Nat) (cA : ClassId) (N_ : Nat) (aC aCn aCc aCr aCs aG aGh aGi aGc aGo aGr aR aRt : Nat) (sz : Nat) (vCF : Int32) (vCn : (Nat → Int32)) (vCc : (Nat → Int32)) (vCr : (Nat → Int32)) (vCs : (Nat → Int32)) (vGF : Int32) (vGS : Int32) (vGh : (Nat → Int32)) (vGi : (Nat → Int32)) (vGc : (Nat → Int32)) (vGo : (Nat → Int32)) (vRL : Int32) (vRt : (Nat → Int32)) (p0 : Int32) (ho : o_C_fill N_ vCF vCn vCc vCr vCs vGS vGh vGi vGc vGo vRL vRt p0) : Met l qy_C_fill qw_C_fill ({ frames := 5, cells := 0, slots := 0, locals := 126 }) (va_Pc [.ref aC, .int p0] (fun U => U.heap.size = sz ∧ xP (dC, dI) [(cA, .int)] [(aC, .inr (0, [.ref aG, .ref aR, .ref aCn, .ref aCc, .ref aCr, .ref aCs, .int vCF])), (aCn, .inl (cA, 5760, .inl (vCn))), (aCc, .inl (cA, 5760, .inl (vCc))), (aCr, .inl (cA, 600, .inl (vCr))), (aCs, .inl (cA, 600, .inl (vCs))), (aG, .inr (2, [.ref aGh, .ref aGi, .ref aGc, .ref aGo, .ref aGr, .int vGF, .int vGS])), (aGh, .inl (cA, 24, .inl (vGh))), (aGi, .inl (cA, 72, .inl (vGi))), (aGc, .inl (cA, 24, .inl (vGc))), (aGo, .inl (cA, 24, .inl (vGo))), (aR, .inr (4, [.ref aRt, .int vRL])), (aRt, .inl (cA, 24, .inl (vRt)))] nestN U ∧ va_D (fun _ => True) [(aC, .inr (0, [.ref aG, .ref aR, .ref aCn, .ref aCc, .ref aCr, .ref aCs, .int vCF])), (aCn, .inl (cA, 5760, .inl (vCn))), (aCc, .inl (cA, 5760, .inl (vCc))), (aCr, .inl (cA, 600, .inl (vCr))), (aCs, .inl (cA, 600, .inl (vCs))), (aG, .inr (2, [.ref aGh, .ref aGi, .ref aGc, .ref aGo, .ref aGr, .int vGF, .int vGS])), (aGh, .inl (cA, 24, .inl (vGh))), (aGi, .inl (cA, 72, .inl (vGi))), (aGc, .inl (cA, 24, .inl (vGc))), (aGo, .inl (cA, 24, .inl (vGo))), (aR, .inr (4, [.ref aRt, .int vRL])), (aRt, .inl (cA, 24, .inl (vRt)))])) (va_Qv (fun u => u = f_C_fill N_ vCF vCn vCc vCr vCs vGS vGh vGi vGc vGo vRL vRt p0) (fun (u : Int32 × (Nat → Int32) × (Nat → Int32) × (Nat → Int32) × (Nat → Int32)) t => xP (dC, dI) [(cA, .int)] [(aC, .inr (0, [.ref aG, .ref aR, .ref aCn, .ref aCc, .ref aCr, .ref aCs, .int u.1])), (aCn, .inl (cA, 5760, .inl (u.2.1))), (aCc, .inl (cA, 5760, .inl (u.2.2.1))), (aCr, .inl (cA, 600, .inl (u.2.2.2.1))), (aCs, .inl (cA, 600, .inl (u.2.2.2.2))), (aG, .inr (2, [.ref aGh, .ref aGi, .ref aGc, .ref aGo, .ref aGr, .int vGF, .int vGS])), (aGh, .inl (cA, 24, .inl (vGh))), (aGi, .inl (cA, 72, .inl (vGi))), (aGc, .inl (cA, 24, .inl (vGc))), (aGo, .inl (cA, 24, .inl (vGo))), (aR, .inr (4, [.ref aRt, .int vRL])), (aRt, .inl (cA, 24, .inl (vRt)))] nestN t ∧ va_D (va_A [(aC, .inr (0, [.ref aG, .ref aR, .ref aCn, .ref aCc, .ref aCr, .ref aCs, .int vCF])), (aCn, .inl (cA, 5760, .inl (vCn))), (aCc, .inl (cA, 5760, .inl (vCc))), (aCr, .inl (cA, 600, .inl (vCr))), (aCs, .inl (cA, 600, .inl (vCs))), (aG, .inr (2, [.ref aGh, .ref aGi, .ref aGc, .ref aGo, .ref aGr, .int vGF, .int vGS])), (aGh, .inl (cA, 24, .inl (vGh))), (aGi, .inl (cA, 72, .inl (vGi))), (aGc, .inl (cA, 24, .inl (vGc))), (aGo, .inl (cA, 24, .inl (vGo))), (aR, .inr (4, [.ref aRt, .int vRL])), (aRt, .inl (cA, 24, .inl (vRt)))] sz) [(aC, .inr (0, [.ref aG, .ref aR, .ref aCn, .ref aCc, .ref aCr, .ref aCs, .int u.1])), (aCn, .inl (cA, 5760, .inl (u.2.1))), (aCc, .inl (cA, 5760, .inl (u.2.2.1))), (aCr, .inl (cA, 600, .inl (u.2.2.2.1))), (aCs, .inl (cA, 600, .inl (u.2.2.2.2))), (aG, .inr (2, [.ref aGh, .ref aGi, .ref aGc, .ref aGo, .ref aGr, .int vGF, .int vGS])), (aGh, .inl (cA, 24, .inl (vGh))), (aGi, .inl (cA, 72, .inl (vGi))), (aGc, .inl (cA, 24, .inl (vGc))), (aGo, .inl (cA, 24, .inl (vGo))), (aR, .inr (4, [.ref aRt, .int vRL])), (aRt, .inl (cA, 24, .inl (vRt)))]) (va_A [(aC, .inr (0, [.ref aG, .ref aR, .ref aCn, .ref aCc, .ref aCr, .ref aCs, .int vCF])), (aCn, .inl (cA, 5760, .inl (vCn))), (aCc, .inl (cA, 5760, .inl (vCc))), (aCr, .inl (cA, 600, .inl (vCr))), (aCs, .inl (cA, 600, .inl (vCs))), (aG, .inr (2, [.ref aGh, .ref aGi, .ref aGc, .ref aGo, .ref aGr, .int vGF, .int vGS])), (aGh, .inl (cA, 24, .inl (vGh))), (aGi, .inl (cA, 72, .inl (vGi))), (aGc, .inl (cA, 24, .inl (vGc))), (aGo, .inl (cA, 24, .inl (vGo))), (aR, .inr (4, [.ref aRt, .int vRL])), (aRt, .inl (cA, 24, .inl (vRt)))] sz)) 0 0 (va_A [(aC, .inr (0, [.ref aG, .ref aR, .ref aCn, .ref aCc, .ref aCr, .ref aCs, .int vCF])), (aCn, .inl (cA, 5760, .inl (vCn))), (aCc, .inl (cA, 5760, .inl (vCc))), (aCr, .inl (cA, 600, .inl (vCr))), (aCs, .inl (cA, 600, .inl (vCs))), (aG, .inr (2, [.ref aGh, .ref aGi, .ref aGc, .ref aGo, .ref aGr, .int vGF, .int vGS])), (aGh, .inl (cA, 24, .inl (vGh))), (aGi, .inl (cA, 72, .inl (vGi))), (aGc, .inl (cA, 24, .inl (vGc))), (aGo, .inl (cA, 24, .inl (vGo))), (aR, .inr (4, [.ref aRt, .int vRL])), (aRt, .inl (cA, 24, .inl (vRt)))] sz) := by
  refine Met.ofW (cc := qc_C_fill) (maxL := 3) (ret := (none)) (by decide) rfl ?_
  intro p e s m args below meth c s₁ B hml hv
  obtain ⟨rfl, hsz, ⟨hP, hK, hN⟩, hD0⟩ := hv
  have hx := B.exec
  have hb := B.bytes
  have hr := B.returns
  have hts := atoms_spec (ws := qw_C_fill) B.pre
  have hg : ∀ w ∈ gG, w.before _ s = true := fun w h => hts w (List.mem_cons_of_mem _ h)
  have hown : s.vm.findClass qR_C = some m.cls := findClass_of_methodNamed B.named
  have hlocks := B.notSynchronized
  subst hsz
  have hD := hD0.self (sz := s.heap.size)
  generalize hAe : va_A [(aC, .inr (0, [.ref aG, .ref aR, .ref aCn, .ref aCc, .ref aCr, .ref aCs, .int vCF])), (aCn, .inl (cA, 5760, .inl (vCn))), (aCc, .inl (cA, 5760, .inl (vCc))), (aCr, .inl (cA, 600, .inl (vCr))), (aCs, .inl (cA, 600, .inl (vCs))), (aG, .inr (2, [.ref aGh, .ref aGi, .ref aGc, .ref aGo, .ref aGr, .int vGF, .int vGS])), (aGh, .inl (cA, 24, .inl (vGh))), (aGi, .inl (cA, 72, .inl (vGi))), (aGc, .inl (cA, 24, .inl (vGc))), (aGo, .inl (cA, 24, .inl (vGo))), (aR, .inr (4, [.ref aRt, .int vRL])), (aRt, .inl (cA, 24, .inl (vRt)))] s.heap.size = A at hD ⊢
  have hA : ∀ q : Nat, s.heap.size ≤ q → A q := fun q h => by rw [← hAe]; exact Or.inr h
  have hS : va_S A s.heap s.heap [] := va_S.rf
  have hP : va_P (dC, dI) vwCl [(aC, .inr (0, [.ref aG, .ref aR, .ref aCn, .ref aCc, .ref aCr, .ref aCs, .int vCF])), (aCn, .inl (cA, 5760, .inl (vCn))), (aCc, .inl (cA, 5760, .inl (vCc))), (aCr, .inl (cA, 600, .inl (vCr))), (aCs, .inl (cA, 600, .inl (vCs))), (aG, .inr (2, [.ref aGh, .ref aGi, .ref aGc, .ref aGo, .ref aGr, .int vGF, .int vGS])), (aGh, .inl (cA, 24, .inl (vGh))), (aGi, .inl (cA, 72, .inl (vGi))), (aGc, .inl (cA, 24, .inl (vGc))), (aGo, .inl (cA, 24, .inl (vGo))), (aR, .inr (4, [.ref aRt, .int vRL])), (aRt, .inl (cA, 24, .inl (vRt)))] s.heap := hP
  have hl := lv_entry ([.ref aC, .int p0]) (n := 3) (Nat.le_of_ble_eq_true rfl)
  rw [lg_entry_eq]
  generalize (lg_sl ([.ref aC, .int p0]) ++ List.replicate (3 - (lg_sl ([.ref aC, .int p0])).length) Slot.unset).toArray = ls at hl ⊢
  have hl : lv_has ls 3 [(0, .ref aC), (1, .int p0)] := hl
  generalize hF : f_C_fill N_ vCF vCn vCc vCr vCs vGS vGh vGi vGc vGo vRL vRt p0 = Fv
  have hres : Fv = f_C_fill N_ vCF vCn vCc vCr vCs vGS vGh vGi vGc vGo vRL vRt p0 := hF.symm
  unfold f_C_fill at hres
  unfold o_C_fill at ho
  generalize hQ : MQ _ _ _ _ _ _ _ = Qg
  refine lv_aload_n hx hb qd_C_fill_0 rfl (lv_at hl 0 rfl) ?_
  refine va_get (D := (dC, dI)) (ci := 0) (v := .int vCF) (C := qR_C) (T := qT_C) (N := 7) hx hb hg qi_C hown hK hP 0 rfl rfl 6 (by decide) (hg _ mw_68) (fun _ h9 => h9) rfl qd_C_fill_1 ?_
  refine lv_iconst (v := 1) hx hb qd_C_fill_4 (by decide) ?_
  refine lv_iadd hx hb qd_C_fill_5 ?_
  refine lv_istore_n (lv' := [(2, .int (vCF + 1)), (0, .ref aC), (1, .int p0)]) hx hb qd_C_fill_6 rfl hl (by decide) rfl (fun ls hl => ?_)
  have L_7 : ∀ (K_ : Int32 → (Nat → Int32) → (Nat → Int32) → (Nat → Int32) → (Nat → Int32) → Int32 × (Nat → Int32) × (Nat → Int32) × (Nat → Int32) × (Nat → Int32)) (Ko_ : Int32 → (Nat → Int32) → (Nat → Int32) → (Nat → Int32) → (Nat → Int32) → Prop) (hk : ∀ (x2_7 : Int32) (vCn_7 : (Nat → Int32)) (vCc_7 : (Nat → Int32)) (vCr_7 : (Nat → Int32)) (vCs_7 : (Nat → Int32)) (H : Heap) (locs : List Loc) (ls : Array Slot), va_P (dC, dI) vwCl [(aC, .inr (0, [.ref aG, .ref aR, .ref aCn, .ref aCc, .ref aCr, .ref aCs, .int vCF])), (aCn, .inl (cA, 5760, .inl (vCn_7))), (aCc, .inl (cA, 5760, .inl (vCc_7))), (aCr, .inl (cA, 600, .inl (vCr_7))), (aCs, .inl (cA, 600, .inl (vCs_7))), (aG, .inr (2, [.ref aGh, .ref aGi, .ref aGc, .ref aGo, .ref aGr, .int vGF, .int vGS])), (aGh, .inl (cA, 24, .inl (vGh))), (aGi, .inl (cA, 72, .inl (vGi))), (aGc, .inl (cA, 24, .inl (vGc))), (aGo, .inl (cA, 24, .inl (vGo))), (aR, .inr (4, [.ref aRt, .int vRL])), (aRt, .inl (cA, 24, .inl (vRt)))] H → va_D A [(aC, .inr (0, [.ref aG, .ref aR, .ref aCn, .ref aCc, .ref aCr, .ref aCs, .int vCF])), (aCn, .inl (cA, 5760, .inl (vCn_7))), (aCc, .inl (cA, 5760, .inl (vCc_7))), (aCr, .inl (cA, 600, .inl (vCr_7))), (aCs, .inl (cA, 600, .inl (vCs_7))), (aG, .inr (2, [.ref aGh, .ref aGi, .ref aGc, .ref aGo, .ref aGr, .int vGF, .int vGS])), (aGh, .inl (cA, 24, .inl (vGh))), (aGi, .inl (cA, 72, .inl (vGi))), (aGc, .inl (cA, 24, .inl (vGc))), (aGo, .inl (cA, 24, .inl (vGo))), (aR, .inr (4, [.ref aRt, .int vRL])), (aRt, .inl (cA, 24, .inl (vRt)))] → va_S A s.heap H locs → lv_has ls 3 [(2, .int x2_7), (0, .ref aC), (1, .int p0)] → Fv = K_ x2_7 vCn_7 vCc_7 vCr_7 vCs_7 → Ko_ x2_7 vCn_7 vCc_7 vCr_7 vCs_7 → W p l e ({ frames := 5, cells := 0, slots := 0, locals := 126 } : Room) s m (([.ref aC, .int p0] : List Value).toArray) below meth c H locs 0 0 Qg (F0 m 23 ls [])) (n : Nat) (x2_7 : Int32) (vCn_7 : (Nat → Int32)) (vCc_7 : (Nat → Int32)) (vCr_7 : (Nat → Int32)) (vCs_7 : (Nat → Int32)) (H : Heap) (locs : List Loc) (ls : Array Slot), va_P (dC, dI) vwCl [(aC, .inr (0, [.ref aG, .ref aR, .ref aCn, .ref aCc, .ref aCr, .ref aCs, .int vCF])), (aCn, .inl (cA, 5760, .inl (vCn_7))), (aCc, .inl (cA, 5760, .inl (vCc_7))), (aCr, .inl (cA, 600, .inl (vCr_7))), (aCs, .inl (cA, 600, .inl (vCs_7))), (aG, .inr (2, [.ref aGh, .ref aGi, .ref aGc, .ref aGo, .ref aGr, .int vGF, .int vGS])), (aGh, .inl (cA, 24, .inl (vGh))), (aGi, .inl (cA, 72, .inl (vGi))), (aGc, .inl (cA, 24, .inl (vGc))), (aGo, .inl (cA, 24, .inl (vGo))), (aR, .inr (4, [.ref aRt, .int vRL])), (aRt, .inl (cA, 24, .inl (vRt)))] H → va_D A [(aC, .inr (0, [.ref aG, .ref aR, .ref aCn, .ref aCc, .ref aCr, .ref aCs, .int vCF])), (aCn, .inl (cA, 5760, .inl (vCn_7))), (aCc, .inl (cA, 5760, .inl (vCc_7))), (aCr, .inl (cA, 600, .inl (vCr_7))), (aCs, .inl (cA, 600, .inl (vCs_7))), (aG, .inr (2, [.ref aGh, .ref aGi, .ref aGc, .ref aGo, .ref aGr, .int vGF, .int vGS])), (aGh, .inl (cA, 24, .inl (vGh))), (aGi, .inl (cA, 72, .inl (vGi))), (aGc, .inl (cA, 24, .inl (vGc))), (aGo, .inl (cA, 24, .inl (vGo))), (aR, .inr (4, [.ref aRt, .int vRL])), (aRt, .inl (cA, 24, .inl (vRt)))] → va_S A s.heap H locs → lv_has ls 3 [(2, .int x2_7), (0, .ref aC), (1, .int p0)] → Fv = l_C_fill_7 N_ p0 vGS vGh vGi vGc vGo vRL vRt K_ n x2_7 vCn_7 vCc_7 vCr_7 vCs_7 → ol_C_fill_7 N_ p0 vGS vGh vGi vGc vGo vRL vRt Ko_ n x2_7 vCn_7 vCc_7 vCr_7 vCs_7 → W p l e ({ frames := 5, cells := 0, slots := 0, locals := 126 } : Room) s m (([.ref aC, .int p0] : List Value).toArray) below meth c H locs 0 0 Qg (F0 m 7 ls []) := by
    intro K_ Ko_ hk n
    induction n with
    | zero => intro x2_7 vCn_7 vCc_7 vCr_7 vCs_7 H locs ls hP hD hS hl hres ho; exact ho.elim
    | succ n ih =>
      intro x2_7 vCn_7 vCc_7 vCr_7 vCs_7 H locs ls hP hD hS hl hres ho
      rw [l_C_fill_7, s_C_fill_7] at hres
      rw [ol_C_fill_7, os_C_fill_7] at ho
      refine lv_iload_n hx hb qd_C_fill_7 rfl (lv_at hl 0 rfl) ?_
      refine lv_iload_n hx hb qd_C_fill_8 rfl (lv_at hl 2 rfl) ?_
      refine lv_icmp_gt (tgt := 23) hx hb qd_C_fill_9 (by decide) (fun c_9 => ?_) (fun c_9 => ?_)
      · have hres := hres.trans (if_pos c_9)
        have ho := (if_pos c_9).mp ho
        exact hk x2_7 vCn_7 vCc_7 vCr_7 vCs_7 H locs ls hP hD hS (lv_sub hl [0, 1, 2] rfl) hres ho
      have hres := hres.trans (if_neg c_9)
      have ho := (if_neg c_9).mp ho
      refine lv_aload_n hx hb qd_C_fill_12 rfl (lv_at hl 1 rfl) ?_
      refine lv_iload_n hx hb qd_C_fill_13 rfl (lv_at hl 0 rfl) ?_
      obtain ⟨g_14, ho⟩ := ho
      refine xm_Vv (As := [.int x2_7]) (rest := []) (w1 := fun (u_14 : (Nat → Int32) × (Nat → Int32) × (Nat → Int32) × (Nat → Int32)) => [(aC, .inr (0, [.ref aG, .ref aR, .ref aCn, .ref aCc, .ref aCr, .ref aCs, .int vCF])), (aCn, .inl (cA, 5760, .inl (u_14.1))), (aCc, .inl (cA, 5760, .inl (u_14.2.1))), (aCr, .inl (cA, 600, .inl (u_14.2.2.1))), (aCs, .inl (cA, 600, .inl (u_14.2.2.2))), (aG, .inr (2, [.ref aGh, .ref aGi, .ref aGc, .ref aGo, .ref aGr, .int vGF, .int vGS])), (aGh, .inl (cA, 24, .inl (vGh))), (aGi, .inl (cA, 72, .inl (vGi))), (aGc, .inl (cA, 24, .inl (vGc))), (aGo, .inl (cA, 24, .inl (vGo))), (aR, .inr (4, [.ref aRt, .int vRL])), (aRt, .inl (cA, 24, .inl (vRt)))]) (w2 := fun (u_14 : (Nat → Int32) × (Nat → Int32) × (Nat → Int32) × (Nat → Int32)) => [(aC, .inr (0, [.ref aG, .ref aR, .ref aCn, .ref aCc, .ref aCr, .ref aCs, .int vCF])), (aCn, .inl (cA, 5760, .inl (u_14.1))), (aCc, .inl (cA, 5760, .inl (u_14.2.1))), (aCr, .inl (cA, 600, .inl (u_14.2.2.1))), (aCs, .inl (cA, 600, .inl (u_14.2.2.2))), (aG, .inr (2, [.ref aGh, .ref aGi, .ref aGc, .ref aGo, .ref aGr, .int vGF, .int vGS])), (aGh, .inl (cA, 24, .inl (vGh))), (aGi, .inl (cA, 72, .inl (vGi))), (aGc, .inl (cA, 24, .inl (vGc))), (aGo, .inl (cA, 24, .inl (vGo))), (aR, .inr (4, [.ref aRt, .int vRL])), (aRt, .inl (cA, 24, .inl (vRt)))]) ⟨hx, hb, hml, hown, hg⟩ (c_C_fillColumn l dC dI cA N_ aC aCn aCc aCr aCs aG aGh aGi aGc aGo aGr aR aRt _ vCF vCn_7 vCc_7 vCr_7 vCs_7 vGF vGS vGh vGi vGc vGo vRL vRt x2_7 g_14) (cwV 1 hg (q_gV mw_362 mw_363 mw_750 mw_4 mw_364) rfl rfl rfl qh_C_fillColumn ⟨Nat.le_of_ble_eq_true rfl, Nat.le_of_ble_eq_true rfl⟩) hN hK hP hD hS hA [0, 1, 2, 3, 4, 5, 6, 7, 8, 9, 10, 11] [] rfl rfl (by decide) (by decide) (by decide) [0, 1, 2, 3, 4, 5, 6, 7, 8, 9, 10, 11] (fun _ => rfl) (by decide) 0 0 rfl rfl rfl hl.1 rfl (Nat.le_of_ble_eq_true rfl) qd_C_fill_14 ⟨Nat.zero_le _, Nat.zero_le _⟩ (fun u_14 H locs w_14 hP hD hS => ?_)
      have hP : va_P (dC, dI) vwCl [(aC, .inr (0, [.ref aG, .ref aR, .ref aCn, .ref aCc, .ref aCr, .ref aCs, .int vCF])), (aCn, .inl (cA, 5760, .inl (u_14.1))), (aCc, .inl (cA, 5760, .inl (u_14.2.1))), (aCr, .inl (cA, 600, .inl (u_14.2.2.1))), (aCs, .inl (cA, 600, .inl (u_14.2.2.2))), (aG, .inr (2, [.ref aGh, .ref aGi, .ref aGc, .ref aGo, .ref aGr, .int vGF, .int vGS])), (aGh, .inl (cA, 24, .inl (vGh))), (aGi, .inl (cA, 72, .inl (vGi))), (aGc, .inl (cA, 24, .inl (vGc))), (aGo, .inl (cA, 24, .inl (vGo))), (aR, .inr (4, [.ref aRt, .int vRL])), (aRt, .inl (cA, 24, .inl (vRt)))] H := hP
      have hD : va_D A [(aC, .inr (0, [.ref aG, .ref aR, .ref aCn, .ref aCc, .ref aCr, .ref aCs, .int vCF])), (aCn, .inl (cA, 5760, .inl (u_14.1))), (aCc, .inl (cA, 5760, .inl (u_14.2.1))), (aCr, .inl (cA, 600, .inl (u_14.2.2.1))), (aCs, .inl (cA, 600, .inl (u_14.2.2.2))), (aG, .inr (2, [.ref aGh, .ref aGi, .ref aGc, .ref aGo, .ref aGr, .int vGF, .int vGS])), (aGh, .inl (cA, 24, .inl (vGh))), (aGi, .inl (cA, 72, .inl (vGi))), (aGc, .inl (cA, 24, .inl (vGc))), (aGo, .inl (cA, 24, .inl (vGo))), (aR, .inr (4, [.ref aRt, .int vRL])), (aRt, .inl (cA, 24, .inl (vRt)))] := hD
      have hres := hres.trans (bd_eq w_14)
      have ho := (bd_eq w_14).mp ho
      refine lv_iinc (v := x2_7 + 1) (lv' := [(2, .int (x2_7 + 1)), (0, .ref aC), (1, .int p0)]) hx hb qd_C_fill_17 hl (k := 0) rfl (congrArg (fun z => _ + z) (by decide)) (by decide) rfl (fun ls hl => ?_)
      refine lv_goto (tgt := 7) hx hb qd_C_fill_20 (by decide) ?_
      exact ih (x2_7 + 1) u_14.1 u_14.2.1 u_14.2.2.1 u_14.2.2.2 H locs ls hP hD hS (lv_sub hl [0, 1, 2] rfl) hres ho
  refine L_7 _ _ (fun x2_7 vCn_7 vCc_7 vCr_7 vCs_7 H locs ls hP hD hS hl hres ho => ?_) _ _ _ _ _ _ _ _ ls hP hD hS hl hres ho
  refine lv_aload_n hx hb qd_C_fill_23 rfl (lv_at hl 1 rfl) ?_
  refine lv_aload_n hx hb qd_C_fill_24 rfl (lv_at hl 1 rfl) ?_
  refine va_get (D := (dC, dI)) (ci := 0) (v := .int vCF) (C := qR_C) (T := qT_C) (N := 7) hx hb hg qi_C hown hK hP 0 rfl rfl 6 (by decide) (hg _ mw_68) (fun _ h9 => h9) rfl qd_C_fill_25 ?_
  refine lv_iload_n hx hb qd_C_fill_28 rfl (lv_at hl 2 rfl) ?_
  refine va_mmax hx hb (hml.trans hl.1.symm) hown (hg _ mw_438) (hg _ mw_439) (hg _ mw_9) (hg _ mw_440) (Nat.le_of_ble_eq_true rfl) (Nat.le_of_ble_eq_true rfl) (Nat.zero_le _) (Nat.zero_le _) qd_C_fill_29 ?_
  refine va_put (D := (dC, dI)) (ci := 0) (v := .int (if vCF < p0 then p0 else vCF)) (ty := .int) (C := qR_C) (T := qT_C) (N := 7) hx hb hg qi_C qt_C qk_C qn_C hown hK hP hD hS 0 rfl rfl 6 (by decide) (hg _ mw_68) (fun _ h9 => h9) rfl (by decide +kernel) rfl rfl (Nat.le_of_ble_eq_true rfl) qd_C_fill_32 (fun H locs hP hD hS => ?_)
  have hP : va_P (dC, dI) vwCl [(aC, .inr (0, [.ref aG, .ref aR, .ref aCn, .ref aCc, .ref aCr, .ref aCs, .int (if vCF < p0 then p0 else vCF)])), (aCn, .inl (cA, 5760, .inl (vCn_7))), (aCc, .inl (cA, 5760, .inl (vCc_7))), (aCr, .inl (cA, 600, .inl (vCr_7))), (aCs, .inl (cA, 600, .inl (vCs_7))), (aG, .inr (2, [.ref aGh, .ref aGi, .ref aGc, .ref aGo, .ref aGr, .int vGF, .int vGS])), (aGh, .inl (cA, 24, .inl (vGh))), (aGi, .inl (cA, 72, .inl (vGi))), (aGc, .inl (cA, 24, .inl (vGc))), (aGo, .inl (cA, 24, .inl (vGo))), (aR, .inr (4, [.ref aRt, .int vRL])), (aRt, .inl (cA, 24, .inl (vRt)))] H := hP
  have hD : va_D A [(aC, .inr (0, [.ref aG, .ref aR, .ref aCn, .ref aCc, .ref aCr, .ref aCs, .int (if vCF < p0 then p0 else vCF)])), (aCn, .inl (cA, 5760, .inl (vCn_7))), (aCc, .inl (cA, 5760, .inl (vCc_7))), (aCr, .inl (cA, 600, .inl (vCr_7))), (aCs, .inl (cA, 600, .inl (vCs_7))), (aG, .inr (2, [.ref aGh, .ref aGi, .ref aGc, .ref aGo, .ref aGr, .int vGF, .int vGS])), (aGh, .inl (cA, 24, .inl (vGh))), (aGi, .inl (cA, 72, .inl (vGi))), (aGc, .inl (cA, 24, .inl (vGc))), (aGo, .inl (cA, 24, .inl (vGo))), (aR, .inr (4, [.ref aRt, .int vRL])), (aRt, .inl (cA, 24, .inl (vRt)))] := hD
  subst hQ
  exact W.vret hx hb hr (fun t ht hW => ⟨⟨(if vCF < p0 then p0 else vCF, vCn_7, vCc_7, vCr_7, vCs_7), rfl, hres.symm, ⟨by rw [ht]; exact hP, va_K.moved hW.alike hK, x_N hN hW⟩, hD⟩, hS.F ht⟩) hS.2.2 qd_C_fill_35
