theorem qd_O_cell_0 : decode qc_O_cell 0 = .ok (.iload_n 0, 1) := by decide +kernel
theorem qd_O_cell_1 : decode qc_O_cell 1 = .ok (.ifCond .lt 23, 3) := by decide +kernel
theorem qd_O_cell_4 : decode qc_O_cell 4 = .ok (.iload_n 0, 1) := by decide +kernel
theorem qd_O_cell_5 : decode qc_O_cell 5 = .ok (.bipush 10, 2) := by decide +kernel
theorem qd_O_cell_7 : decode qc_O_cell 7 = .ok (.if_icmp .ge 17, 3) := by decide +kernel
theorem qd_O_cell_10 : decode qc_O_cell 10 = .ok (.iload_n 1, 1) := by decide +kernel
theorem qd_O_cell_11 : decode qc_O_cell 11 = .ok (.ifCond .lt 13, 3) := by decide +kernel
theorem qd_O_cell_14 : decode qc_O_cell 14 = .ok (.iload_n 1, 1) := by decide +kernel
theorem qd_O_cell_15 : decode qc_O_cell 15 = .ok (.bipush 25, 2) := by decide +kernel
theorem qd_O_cell_17 : decode qc_O_cell 17 = .ok (.if_icmp .ge 7, 3) := by decide +kernel
theorem qd_O_cell_20 : decode qc_O_cell 20 = .ok (.iconst 1, 1) := by decide +kernel
theorem qd_O_cell_21 : decode qc_O_cell 21 = .ok (.goto 4, 3) := by decide +kernel
theorem qd_O_cell_24 : decode qc_O_cell 24 = .ok (.iconst 0, 1) := by decide +kernel
theorem qd_O_cell_25 : decode qc_O_cell 25 = .ok (.istore_n 2, 1) := by decide +kernel
theorem qd_O_cell_26 : decode qc_O_cell 26 = .ok (.iload_n 2, 1) := by decide +kernel
theorem qd_O_cell_27 : decode qc_O_cell 27 = .ok (.ifCond .eq 12, 3) := by decide +kernel
theorem qd_O_cell_30 : decode qc_O_cell 30 = .ok (.iload_n 1, 1) := by decide +kernel
theorem qd_O_cell_31 : decode qc_O_cell 31 = .ok (.bipush 10, 2) := by decide +kernel
theorem qd_O_cell_33 : decode qc_O_cell 33 = .ok (.imul, 1) := by decide +kernel
theorem qd_O_cell_34 : decode qc_O_cell 34 = .ok (.iload_n 0, 1) := by decide +kernel
theorem qd_O_cell_35 : decode qc_O_cell 35 = .ok (.iadd, 1) := by decide +kernel
theorem qd_O_cell_36 : decode qc_O_cell 36 = .ok (.goto 4, 3) := by decide +kernel
theorem qd_O_cell_39 : decode qc_O_cell 39 = .ok (.iconst (-1), 1) := by decide +kernel
theorem qd_O_cell_40 : decode qc_O_cell 40 = .ok (.ireturn, 1) := by decide +kernel
set_option maxHeartbeats 4000000 in
set_option maxRecDepth 100000 in
theorem c_O_cell (l : Launch) (dC : Nat → ClassId) (dI : Nat → Nat → Nat) (cA : ClassId) (p0 : Int32) (p1 : Int32) : Met l qy_O_cell qw_O_cell ({ frames := 0, cells := 0, slots := 0, locals := 0 }) (va_Pc [.int p0, .int p1] (xP (dC, dI) [(cA, .int)] [] nestN)) (vp_Si (fun r => r = f_O_cell p0 p1)) 0 0 (fun _ => False) := by
  refine Met.ofW (cc := qc_O_cell) (maxL := 3) (ret := (some .int)) (by decide) rfl ?_
  intro p e s m args below meth c s₁ B hml hv
  obtain ⟨rfl, hP, hK, hN⟩ := hv
  have hx := B.exec
  have hb := B.bytes
  have hr := B.returns
  have hts := atoms_spec (ws := qw_O_cell) B.pre
  have hg : ∀ w ∈ gG, w.before _ s = true := fun w h => hts w (List.mem_cons_of_mem _ h)
  have hown : s.vm.findClass qR_O = some m.cls := findClass_of_methodNamed B.named
  have hlocks := B.notSynchronized
  have hP : va_P (dC, dI) vwCl [] s.heap := hP
  have hl := lv_entry ([.int p0, .int p1]) (n := 3) (Nat.le_of_ble_eq_true rfl)
  rw [lg_entry_eq]
  generalize (lg_sl ([.int p0, .int p1]) ++ List.replicate (3 - (lg_sl ([.int p0, .int p1])).length) Slot.unset).toArray = ls at hl ⊢
  have hl : lv_has ls 3 [(0, .int p0), (1, .int p1)] := hl
  generalize hF : f_O_cell p0 p1 = Fv
  have hres : Fv = f_O_cell p0 p1 := hF.symm
  unfold f_O_cell at hres
  refine lv_iload_n hx hb qd_O_cell_0 rfl (lv_at hl 0 rfl) ?_
  refine lv_if_lt (tgt := 24) hx hb qd_O_cell_1 (by decide) (fun c_1 => ?_) (fun c_1 => ?_)
  · have hres := hres.trans (if_pos c_1)
    refine lv_iconst (v := 0) hx hb qd_O_cell_24 (by decide) ?_
    refine lv_istore_n (lv' := [(2, .int 0), (0, .int p0), (1, .int p1)]) hx hb qd_O_cell_25 rfl hl (by decide) rfl (fun ls hl => ?_)
    refine lv_iload_n hx hb qd_O_cell_26 rfl (lv_at hl 0 rfl) ?_
    refine lv_if_eq (tgt := 39) hx hb qd_O_cell_27 (by decide) (fun c_27 => ?_) (fun c_27 => ?_)
    rotate_left
    · exact absurd (by decide) c_27
    refine lv_iconst (v := (-1)) hx hb qd_O_cell_39 (by decide) ?_
    exact W.iret (v := (-1)) hx hb hr (fun t ht hW => ⟨_, rfl, hres.symm, ht⟩) (fun _ h => nomatch h) qd_O_cell_40
  have hres := hres.trans (if_neg c_1)
  refine lv_iload_n hx hb qd_O_cell_4 rfl (lv_at hl 0 rfl) ?_
  refine lv_bipush (v := 10) hx hb qd_O_cell_5 (by decide) ?_
  refine lv_icmp_ge (tgt := 24) hx hb qd_O_cell_7 (by decide) (fun c_7 => ?_) (fun c_7 => ?_)
  · have hres := hres.trans (if_pos c_7)
    refine lv_iconst (v := 0) hx hb qd_O_cell_24 (by decide) ?_
    refine lv_istore_n (lv' := [(2, .int 0), (0, .int p0), (1, .int p1)]) hx hb qd_O_cell_25 rfl hl (by decide) rfl (fun ls hl => ?_)
    refine lv_iload_n hx hb qd_O_cell_26 rfl (lv_at hl 0 rfl) ?_
    refine lv_if_eq (tgt := 39) hx hb qd_O_cell_27 (by decide) (fun c_27 => ?_) (fun c_27 => ?_)
    rotate_left
    · exact absurd (by decide) c_27
    refine lv_iconst (v := (-1)) hx hb qd_O_cell_39 (by decide) ?_
    exact W.iret (v := (-1)) hx hb hr (fun t ht hW => ⟨_, rfl, hres.symm, ht⟩) (fun _ h => nomatch h) qd_O_cell_40
  have hres := hres.trans (if_neg c_7)
  refine lv_iload_n hx hb qd_O_cell_10 rfl (lv_at hl 1 rfl) ?_
  refine lv_if_lt (tgt := 24) hx hb qd_O_cell_11 (by decide) (fun c_11 => ?_) (fun c_11 => ?_)
  · have hres := hres.trans (if_pos c_11)
    refine lv_iconst (v := 0) hx hb qd_O_cell_24 (by decide) ?_
    refine lv_istore_n (lv' := [(2, .int 0), (0, .int p0), (1, .int p1)]) hx hb qd_O_cell_25 rfl hl (by decide) rfl (fun ls hl => ?_)
    refine lv_iload_n hx hb qd_O_cell_26 rfl (lv_at hl 0 rfl) ?_
    refine lv_if_eq (tgt := 39) hx hb qd_O_cell_27 (by decide) (fun c_27 => ?_) (fun c_27 => ?_)
    rotate_left
    · exact absurd (by decide) c_27
    refine lv_iconst (v := (-1)) hx hb qd_O_cell_39 (by decide) ?_
    exact W.iret (v := (-1)) hx hb hr (fun t ht hW => ⟨_, rfl, hres.symm, ht⟩) (fun _ h => nomatch h) qd_O_cell_40
  have hres := hres.trans (if_neg c_11)
  refine lv_iload_n hx hb qd_O_cell_14 rfl (lv_at hl 1 rfl) ?_
  refine lv_bipush (v := 25) hx hb qd_O_cell_15 (by decide) ?_
  refine lv_icmp_ge (tgt := 24) hx hb qd_O_cell_17 (by decide) (fun c_17 => ?_) (fun c_17 => ?_)
  · have hres := hres.trans (if_pos c_17)
    refine lv_iconst (v := 0) hx hb qd_O_cell_24 (by decide) ?_
    refine lv_istore_n (lv' := [(2, .int 0), (0, .int p0), (1, .int p1)]) hx hb qd_O_cell_25 rfl hl (by decide) rfl (fun ls hl => ?_)
    refine lv_iload_n hx hb qd_O_cell_26 rfl (lv_at hl 0 rfl) ?_
    refine lv_if_eq (tgt := 39) hx hb qd_O_cell_27 (by decide) (fun c_27 => ?_) (fun c_27 => ?_)
    rotate_left
    · exact absurd (by decide) c_27
    refine lv_iconst (v := (-1)) hx hb qd_O_cell_39 (by decide) ?_
    exact W.iret (v := (-1)) hx hb hr (fun t ht hW => ⟨_, rfl, hres.symm, ht⟩) (fun _ h => nomatch h) qd_O_cell_40
  have hres := hres.trans (if_neg c_17)
  refine lv_iconst (v := 1) hx hb qd_O_cell_20 (by decide) ?_
  refine lv_goto (tgt := 25) hx hb qd_O_cell_21 (by decide) ?_
  refine lv_istore_n (lv' := [(2, .int 1), (0, .int p0), (1, .int p1)]) hx hb qd_O_cell_25 rfl hl (by decide) rfl (fun ls hl => ?_)
  refine lv_iload_n hx hb qd_O_cell_26 rfl (lv_at hl 0 rfl) ?_
  refine lv_if_eq (tgt := 39) hx hb qd_O_cell_27 (by decide) (fun c_27 => ?_) (fun c_27 => ?_)
  · exact absurd c_27 (by decide)
  refine lv_iload_n hx hb qd_O_cell_30 rfl (lv_at hl 2 rfl) ?_
  refine lv_bipush (v := 10) hx hb qd_O_cell_31 (by decide) ?_
  refine lv_imul hx hb qd_O_cell_33 ?_
  refine lv_iload_n hx hb qd_O_cell_34 rfl (lv_at hl 1 rfl) ?_
  refine lv_iadd hx hb qd_O_cell_35 ?_
  refine lv_goto (tgt := 40) hx hb qd_O_cell_36 (by decide) ?_
  exact W.iret (v := (p1 * 10) + p0) hx hb hr (fun t ht hW => ⟨_, rfl, hres.symm, ht⟩) (fun _ h => nomatch h) qd_O_cell_40
theorem qd_O_write_0 : decode qc_O_write 0 = .ok (.iload_n 1, 1) := by decide +kernel
theorem qd_O_write_1 : decode qc_O_write 1 = .ok (.iload_n 2, 1) := by decide +kernel
theorem qd_O_write_2 : decode qc_O_write 2 = .ok (.invokestatic 74, 3) := by decide +kernel
theorem qd_O_write_5 : decode qc_O_write 5 = .ok (.istore 4, 2) := by decide +kernel
theorem qd_O_write_7 : decode qc_O_write 7 = .ok (.iload 4, 2) := by decide +kernel
theorem qd_O_write_9 : decode qc_O_write 9 = .ok (.ifCond .lt 21, 3) := by decide +kernel
theorem qd_O_write_12 : decode qc_O_write 12 = .ok (.iload 4, 2) := by decide +kernel
theorem qd_O_write_14 : decode qc_O_write 14 = .ok (.aload_n 0, 1) := by decide +kernel
theorem qd_O_write_15 : decode qc_O_write 15 = .ok (.getfield 9, 3) := by decide +kernel
theorem qd_O_write_18 : decode qc_O_write 18 = .ok (.arraylength, 1) := by decide +kernel
theorem qd_O_write_19 : decode qc_O_write 19 = .ok (.if_icmp .ge 11, 3) := by decide +kernel
theorem qd_O_write_22 : decode qc_O_write 22 = .ok (.aload_n 0, 1) := by decide +kernel
theorem qd_O_write_23 : decode qc_O_write 23 = .ok (.getfield 9, 3) := by decide +kernel
theorem qd_O_write_26 : decode qc_O_write 26 = .ok (.iload 4, 2) := by decide +kernel
theorem qd_O_write_28 : decode qc_O_write 28 = .ok (.iload_n 3, 1) := by decide +kernel
theorem qd_O_write_29 : decode qc_O_write 29 = .ok (.iastore, 1) := by decide +kernel
theorem qd_O_write_30 : decode qc_O_write 30 = .ok (.return_, 1) := by decide +kernel
set_option maxHeartbeats 4000000 in
set_option maxRecDepth 100000 in
theorem c_O_write (l : Launch) (dC : Nat → ClassId) (dI : Nat → Nat → Nat) (cA : ClassId) (aO aOn aC aG : Nat) (sz : Nat) (vOE : Int32) (vOn : (Nat → Int32)) (p0 : Int32) (p1 : Int32) (p2 : Int32) (ho : o_O_write vOn p0 p1 p2) : Met l qy_O_write qw_O_write ({ frames := 1, cells := 0, slots := 0, locals := 22 }) (va_Pc [.ref aO, .int p0, .int p1, .int p2] (fun U => U.heap.size = sz ∧ xP (dC, dI) [(cA, .int)] [(aO, .inr (3, [.ref aG, .ref aC, .ref aOn, .int vOE])), (aOn, .inl (cA, 250, .inl (vOn)))] nestN U ∧ va_D (fun _ => True) [(aO, .inr (3, [.ref aG, .ref aC, .ref aOn, .int vOE])), (aOn, .inl (cA, 250, .inl (vOn)))])) (va_Qv (fun u => u = f_O_write vOn p0 p1 p2) (fun (u : (Nat → Int32)) t => xP (dC, dI) [(cA, .int)] [(aO, .inr (3, [.ref aG, .ref aC, .ref aOn, .int vOE])), (aOn, .inl (cA, 250, .inl (u)))] nestN t ∧ va_D (va_A [(aO, .inr (3, [.ref aG, .ref aC, .ref aOn, .int vOE])), (aOn, .inl (cA, 250, .inl (vOn)))] sz) [(aO, .inr (3, [.ref aG, .ref aC, .ref aOn, .int vOE])), (aOn, .inl (cA, 250, .inl (u)))]) (va_A [(aO, .inr (3, [.ref aG, .ref aC, .ref aOn, .int vOE])), (aOn, .inl (cA, 250, .inl (vOn)))] sz)) 0 0 (va_A [(aO, .inr (3, [.ref aG, .ref aC, .ref aOn, .int vOE])), (aOn, .inl (cA, 250, .inl (vOn)))] sz) := by
  refine Met.ofW (cc := qc_O_write) (maxL := 5) (ret := (none)) (by decide) rfl ?_
  intro p e s m args below meth c s₁ B hml hv
  obtain ⟨rfl, hsz, ⟨hP, hK, hN⟩, hD0⟩ := hv
  have hx := B.exec
  have hb := B.bytes
  have hr := B.returns
  have hts := atoms_spec (ws := qw_O_write) B.pre
  have hg : ∀ w ∈ gG, w.before _ s = true := fun w h => hts w (List.mem_cons_of_mem _ h)
  have hown : s.vm.findClass qR_O = some m.cls := findClass_of_methodNamed B.named
  have hlocks := B.notSynchronized
  subst hsz
  have hD := hD0.self (sz := s.heap.size)
  generalize hAe : va_A [(aO, .inr (3, [.ref aG, .ref aC, .ref aOn, .int vOE])), (aOn, .inl (cA, 250, .inl (vOn)))] s.heap.size = A at hD ⊢
  have hA : ∀ q : Nat, s.heap.size ≤ q → A q := fun q h => by rw [← hAe]; exact Or.inr h
  have hS : va_S A s.heap s.heap [] := va_S.rf
  have hP : va_P (dC, dI) vwCl [(aO, .inr (3, [.ref aG, .ref aC, .ref aOn, .int vOE])), (aOn, .inl (cA, 250, .inl (vOn)))] s.heap := hP
  have hl := lv_entry ([.ref aO, .int p0, .int p1, .int p2]) (n := 5) (Nat.le_of_ble_eq_true rfl)
  rw [lg_entry_eq]
  generalize (lg_sl ([.ref aO, .int p0, .int p1, .int p2]) ++ List.replicate (5 - (lg_sl ([.ref aO, .int p0, .int p1, .int p2])).length) Slot.unset).toArray = ls at hl ⊢
  have hl : lv_has ls 5 [(0, .ref aO), (1, .int p0), (2, .int p1), (3, .int p2)] := hl
  generalize hF : f_O_write vOn p0 p1 p2 = Fv
  have hres : Fv = f_O_write vOn p0 p1 p2 := hF.symm
  unfold f_O_write at hres
  unfold o_O_write at ho
  refine lv_iload_n hx hb qd_O_write_0 rfl (lv_at hl 1 rfl) ?_
  refine lv_iload_n hx hb qd_O_write_1 rfl (lv_at hl 2 rfl) ?_
  refine xc_S (As := [.int p0, .int p1]) (rest := []) ⟨hx, hb, hml, hown, hg⟩ (c_O_cell l dC dI cA p0 p1) (va_cwS 2 hg (q_gS mw_545 mw_546 mw_7 mw_547) rfl rfl rfl qh_O_cell.2 ⟨Nat.le_of_ble_eq_true rfl, Nat.le_of_ble_eq_true rfl⟩) hN hK hP [] rfl rfl hl.1 rfl (Nat.le_of_ble_eq_true rfl) qd_O_write_2 ⟨Nat.zero_le _, Nat.zero_le _⟩ ?_
  refine lv_topi (fun r_2 w_2 => ?_)
  have hres := hres.trans (bd_eq w_2)
  have ho := (bd_eq w_2).mp ho
  refine lv_istore (lv' := [(4, .int r_2), (0, .ref aO), (1, .int p0), (2, .int p1), (3, .int p2)]) hx hb qd_O_write_5 hl (by decide) rfl (fun ls hl => ?_)
  refine lv_iload hx hb qd_O_write_7 (lv_at hl 0 rfl) ?_
  refine lv_if_lt (tgt := 30) hx hb qd_O_write_9 (by decide) (fun c_9 => ?_) (fun c_9 => ?_)
  · have hres := hres.trans (if_pos c_9)
    have ho := (if_pos c_9).mp ho
    exact W.vret hx hb hr (fun t ht hW => ⟨⟨vOn, rfl, hres.symm, ⟨by rw [ht]; exact hP, va_K.moved hW.alike hK, x_N hN hW⟩, hD⟩, hS.F ht⟩) hS.2.2 qd_O_write_30
  have hres := hres.trans (if_neg c_9)
  have ho := (if_neg c_9).mp ho
  refine lv_iload hx hb qd_O_write_12 (lv_at hl 0 rfl) ?_
  refine lv_aload_n hx hb qd_O_write_14 rfl (lv_at hl 1 rfl) ?_
  refine va_get (D := (dC, dI)) (ci := 3) (v := .ref aOn) (C := qR_O) (T := qT_O) (N := 4) hx hb hg qi_O hown hK hP 0 rfl rfl 2 (by decide) (hg _ mw_127) (fun _ h9 => h9) rfl qd_O_write_15 ?_
  refine va_alen (v := 250) hx hb hK hP 1 0 rfl rfl (show Int32.ofNat 250 = 250 by decide) qd_O_write_18 ?_
  refine lv_icmp_ge (tgt := 30) hx hb qd_O_write_19 (by decide) (fun c_19 => ?_) (fun c_19 => ?_)
  · have hres := hres.trans (if_pos c_19)
    have ho := (if_pos c_19).mp ho
    exact W.vret hx hb hr (fun t ht hW => ⟨⟨vOn, rfl, hres.symm, ⟨by rw [ht]; exact hP, va_K.moved hW.alike hK, x_N hN hW⟩, hD⟩, hS.F ht⟩) hS.2.2 qd_O_write_30
  have hres := hres.trans (if_neg c_19)
  have ho := (if_neg c_19).mp ho
  refine lv_aload_n hx hb qd_O_write_22 rfl (lv_at hl 1 rfl) ?_
  refine va_get (D := (dC, dI)) (ci := 3) (v := .ref aOn) (C := qR_O) (T := qT_O) (N := 4) hx hb hg qi_O hown hK hP 0 rfl rfl 2 (by decide) (hg _ mw_127) (fun _ h9 => h9) rfl qd_O_write_23 ?_
  refine lv_iload hx hb qd_O_write_26 (lv_at hl 0 rfl) ?_
  refine lv_iload_n hx hb qd_O_write_28 rfl (lv_at hl 4 rfl) ?_
  obtain ⟨g_29, ho⟩ := ho
  refine va_iast hx hb hK hP hD hS 1 0 rfl rfl g_29 qd_O_write_29 (fun H locs hP hD hS => ?_)
  have hP : va_P (dC, dI) vwCl [(aO, .inr (3, [.ref aG, .ref aC, .ref aOn, .int vOE])), (aOn, .inl (cA, 250, .inl (upd vOn r_2.toNatClampNeg p2)))] H := hP
  have hD : va_D A [(aO, .inr (3, [.ref aG, .ref aC, .ref aOn, .int vOE])), (aOn, .inl (cA, 250, .inl (upd vOn r_2.toNatClampNeg p2)))] := hD
  exact W.vret hx hb hr (fun t ht hW => ⟨⟨(upd vOn r_2.toNatClampNeg p2), rfl, hres.symm, ⟨by rw [ht]; exact hP, va_K.moved hW.alike hK, x_N hN hW⟩, hD⟩, hS.F ht⟩) hS.2.2 qd_O_write_30
theorem qd_O_itemNexts_0 : decode qc_O_itemNexts 0 = .ok (.iload_n 1, 1) := by decide +kernel
theorem qd_O_itemNexts_1 : decode qc_O_itemNexts 1 = .ok (.bipush 10, 2) := by decide +kernel
theorem qd_O_itemNexts_3 : decode qc_O_itemNexts 3 = .ok (.if_icmp .lt 22, 3) := by decide +kernel
theorem qd_O_itemNexts_6 : decode qc_O_itemNexts 6 = .ok (.iload_n 2, 1) := by decide +kernel
theorem qd_O_itemNexts_7 : decode qc_O_itemNexts 7 = .ok (.aload_n 0, 1) := by decide +kernel
theorem qd_O_itemNexts_8 : decode qc_O_itemNexts 8 = .ok (.getfield 15, 3) := by decide +kernel
theorem qd_O_itemNexts_11 : decode qc_O_itemNexts 11 = .ok (.if_icmp .ne 12, 3) := by decide +kernel
theorem qd_O_itemNexts_14 : decode qc_O_itemNexts 14 = .ok (.iconst 1, 1) := by decide +kernel
theorem qd_O_itemNexts_15 : decode qc_O_itemNexts 15 = .ok (.iload_n 1, 1) := by decide +kernel
theorem qd_O_itemNexts_16 : decode qc_O_itemNexts 16 = .ok (.bipush 10, 2) := by decide +kernel
theorem qd_O_itemNexts_18 : decode qc_O_itemNexts 18 = .ok (.isub, 1) := by decide +kernel
theorem qd_O_itemNexts_19 : decode qc_O_itemNexts 19 = .ok (.ishl, 1) := by decide +kernel
theorem qd_O_itemNexts_20 : decode qc_O_itemNexts 20 = .ok (.goto 4, 3) := by decide +kernel
theorem qd_O_itemNexts_23 : decode qc_O_itemNexts 23 = .ok (.iconst 0, 1) := by decide +kernel
theorem qd_O_itemNexts_24 : decode qc_O_itemNexts 24 = .ok (.ireturn, 1) := by decide +kernel
theorem qd_O_itemNexts_25 : decode qc_O_itemNexts 25 = .ok (.iload_n 1, 1) := by decide +kernel
theorem qd_O_itemNexts_26 : decode qc_O_itemNexts 26 = .ok (.iload_n 2, 1) := by decide +kernel
theorem qd_O_itemNexts_27 : decode qc_O_itemNexts 27 = .ok (.invokestatic 74, 3) := by decide +kernel
theorem qd_O_itemNexts_30 : decode qc_O_itemNexts 30 = .ok (.istore_n 3, 1) := by decide +kernel
theorem qd_O_itemNexts_31 : decode qc_O_itemNexts 31 = .ok (.iload_n 3, 1) := by decide +kernel
theorem qd_O_itemNexts_32 : decode qc_O_itemNexts 32 = .ok (.ifCond .lt 21, 3) := by decide +kernel
theorem qd_O_itemNexts_35 : decode qc_O_itemNexts 35 = .ok (.iload_n 3, 1) := by decide +kernel
theorem qd_O_itemNexts_36 : decode qc_O_itemNexts 36 = .ok (.aload_n 0, 1) := by decide +kernel
theorem qd_O_itemNexts_37 : decode qc_O_itemNexts 37 = .ok (.getfield 9, 3) := by decide +kernel
theorem qd_O_itemNexts_40 : decode qc_O_itemNexts 40 = .ok (.arraylength, 1) := by decide +kernel
theorem qd_O_itemNexts_41 : decode qc_O_itemNexts 41 = .ok (.if_icmp .ge 12, 3) := by decide +kernel
theorem qd_O_itemNexts_44 : decode qc_O_itemNexts 44 = .ok (.aload_n 0, 1) := by decide +kernel
theorem qd_O_itemNexts_45 : decode qc_O_itemNexts 45 = .ok (.getfield 9, 3) := by decide +kernel
theorem qd_O_itemNexts_48 : decode qc_O_itemNexts 48 = .ok (.iload_n 3, 1) := by decide +kernel
theorem qd_O_itemNexts_49 : decode qc_O_itemNexts 49 = .ok (.iaload, 1) := by decide +kernel
theorem qd_O_itemNexts_50 : decode qc_O_itemNexts 50 = .ok (.goto 4, 3) := by decide +kernel
theorem qd_O_itemNexts_53 : decode qc_O_itemNexts 53 = .ok (.iconst 0, 1) := by decide +kernel
theorem qd_O_itemNexts_54 : decode qc_O_itemNexts 54 = .ok (.ireturn, 1) := by decide +kernel
set_option maxHeartbeats 4000000 in
set_option maxRecDepth 100000 in
theorem c_O_itemNexts (l : Launch) (dC : Nat → ClassId) (dI : Nat → Nat → Nat) (cA : ClassId) (aO aOn aC aG : Nat) (vOE : Int32) (vOn : (Nat → Int32)) (p0 : Int32) (p1 : Int32) (ho : o_O_itemNexts vOE vOn p0 p1) : Met l qy_O_itemNexts qw_O_itemNexts ({ frames := 1, cells := 0, slots := 0, locals := 22 }) (va_Pc [.ref aO, .int p0, .int p1] (xP (dC, dI) [(cA, .int)] [(aO, .inr (3, [.ref aG, .ref aC, .ref aOn, .int vOE])), (aOn, .inl (cA, 250, .inl (vOn)))] nestN)) (vp_Si (fun r => r = f_O_itemNexts vOE vOn p0 p1)) 0 0 (fun _ => False) := by
  refine Met.ofW (cc := qc_O_itemNexts) (maxL := 4) (ret := (some .int)) (by decide) rfl ?_
  intro p e s m args below meth c s₁ B hml hv
  obtain ⟨rfl, hP, hK, hN⟩ := hv
  have hx := B.exec
  have hb := B.bytes
  have hr := B.returns
  have hts := atoms_spec (ws := qw_O_itemNexts) B.pre
  have hg : ∀ w ∈ gG, w.before _ s = true := fun w h => hts w (List.mem_cons_of_mem _ h)
  have hown : s.vm.findClass qR_O = some m.cls := findClass_of_methodNamed B.named
  have hlocks := B.notSynchronized
  have hP : va_P (dC, dI) vwCl [(aO, .inr (3, [.ref aG, .ref aC, .ref aOn, .int vOE])), (aOn, .inl (cA, 250, .inl (vOn)))] s.heap := hP
  have hl := lv_entry ([.ref aO, .int p0, .int p1]) (n := 4) (Nat.le_of_ble_eq_true rfl)
  rw [lg_entry_eq]
  generalize (lg_sl ([.ref aO, .int p0, .int p1]) ++ List.replicate (4 - (lg_sl ([.ref aO, .int p0, .int p1])).length) Slot.unset).toArray = ls at hl ⊢
  have hl : lv_has ls 4 [(0, .ref aO), (1, .int p0), (2, .int p1)] := hl
  generalize hF : f_O_itemNexts vOE vOn p0 p1 = Fv
  have hres : Fv = f_O_itemNexts vOE vOn p0 p1 := hF.symm
  unfold f_O_itemNexts at hres
  unfold o_O_itemNexts at ho
  refine lv_iload_n hx hb qd_O_itemNexts_0 rfl (lv_at hl 1 rfl) ?_
  refine lv_bipush (v := 10) hx hb qd_O_itemNexts_1 (by decide) ?_
  refine lv_icmp_lt (tgt := 25) hx hb qd_O_itemNexts_3 (by decide) (fun c_3 => ?_) (fun c_3 => ?_)
  · have hres := hres.trans (if_pos c_3)
    have ho := (if_pos c_3).mp ho
    refine lv_iload_n hx hb qd_O_itemNexts_25 rfl (lv_at hl 1 rfl) ?_
    refine lv_iload_n hx hb qd_O_itemNexts_26 rfl (lv_at hl 2 rfl) ?_
    refine xc_S (As := [.int p0, .int p1]) (rest := []) ⟨hx, hb, hml, hown, hg⟩ (c_O_cell l dC dI cA p0 p1) (va_cwS 2 hg (q_gS mw_545 mw_546 mw_7 mw_547) rfl rfl rfl qh_O_cell.2 ⟨Nat.le_of_ble_eq_true rfl, Nat.le_of_ble_eq_true rfl⟩) hN hK hP [] rfl rfl hl.1 rfl (Nat.le_of_ble_eq_true rfl) qd_O_itemNexts_27 ⟨Nat.zero_le _, Nat.zero_le _⟩ ?_
    refine lv_topi (fun r_27 w_27 => ?_)
    have hres := hres.trans (bd_eq w_27)
    have ho := (bd_eq w_27).mp ho
    refine lv_istore_n (lv' := [(3, .int r_27), (0, .ref aO), (1, .int p0), (2, .int p1)]) hx hb qd_O_itemNexts_30 rfl hl (by decide) rfl (fun ls hl => ?_)
    refine lv_iload_n hx hb qd_O_itemNexts_31 rfl (lv_at hl 0 rfl) ?_
    refine lv_if_lt (tgt := 53) hx hb qd_O_itemNexts_32 (by decide) (fun c_32 => ?_) (fun c_32 => ?_)
    · have hres := hres.trans (if_pos c_32)
      have ho := (if_pos c_32).mp ho
      refine lv_iconst (v := 0) hx hb qd_O_itemNexts_53 (by decide) ?_
      exact W.iret (v := 0) hx hb hr (fun t ht hW => ⟨_, rfl, hres.symm, ht⟩) (fun _ h => nomatch h) qd_O_itemNexts_54
    have hres := hres.trans (if_neg c_32)
    have ho := (if_neg c_32).mp ho
    refine lv_iload_n hx hb qd_O_itemNexts_35 rfl (lv_at hl 0 rfl) ?_
    refine lv_aload_n hx hb qd_O_itemNexts_36 rfl (lv_at hl 1 rfl) ?_
    refine va_get (D := (dC, dI)) (ci := 3) (v := .ref aOn) (C := qR_O) (T := qT_O) (N := 4) hx hb hg qi_O hown hK hP 0 rfl rfl 2 (by decide) (hg _ mw_127) (fun _ h9 => h9) rfl qd_O_itemNexts_37 ?_
    refine va_alen (v := 250) hx hb hK hP 1 0 rfl rfl (show Int32.ofNat 250 = 250 by decide) qd_O_itemNexts_40 ?_
    refine lv_icmp_ge (tgt := 53) hx hb qd_O_itemNexts_41 (by decide) (fun c_41 => ?_) (fun c_41 => ?_)
    · have hres := hres.trans (if_pos c_41)
      have ho := (if_pos c_41).mp ho
      refine lv_iconst (v := 0) hx hb qd_O_itemNexts_53 (by decide) ?_
      exact W.iret (v := 0) hx hb hr (fun t ht hW => ⟨_, rfl, hres.symm, ht⟩) (fun _ h => nomatch h) qd_O_itemNexts_54
    have hres := hres.trans (if_neg c_41)
    have ho := (if_neg c_41).mp ho
    refine lv_aload_n hx hb qd_O_itemNexts_44 rfl (lv_at hl 1 rfl) ?_
    refine va_get (D := (dC, dI)) (ci := 3) (v := .ref aOn) (C := qR_O) (T := qT_O) (N := 4) hx hb hg qi_O hown hK hP 0 rfl rfl 2 (by decide) (hg _ mw_127) (fun _ h9 => h9) rfl qd_O_itemNexts_45 ?_
    refine lv_iload_n hx hb qd_O_itemNexts_48 rfl (lv_at hl 0 rfl) ?_
    obtain ⟨g_49, ho⟩ := ho
    refine va_iald hx hb hK hP 1 0 rfl rfl g_49 qd_O_itemNexts_49 ?_
    refine lv_goto (tgt := 54) hx hb qd_O_itemNexts_50 (by decide) ?_
    exact W.iret (v := vOn r_27.toNatClampNeg) hx hb hr (fun t ht hW => ⟨_, rfl, hres.symm, ht⟩) (fun _ h => nomatch h) qd_O_itemNexts_54
  have hres := hres.trans (if_neg c_3)
  have ho := (if_neg c_3).mp ho
  refine lv_iload_n hx hb qd_O_itemNexts_6 rfl (lv_at hl 2 rfl) ?_
  refine lv_aload_n hx hb qd_O_itemNexts_7 rfl (lv_at hl 0 rfl) ?_
  refine va_get (D := (dC, dI)) (ci := 3) (v := .int vOE) (C := qR_O) (T := qT_O) (N := 4) hx hb hg qi_O hown hK hP 0 rfl rfl 3 (by decide) (hg _ mw_128) (fun _ h9 => h9) rfl qd_O_itemNexts_8 ?_
  refine lv_icmp_ne (tgt := 23) hx hb qd_O_itemNexts_11 (by decide) (fun c_11 => ?_) (fun c_11 => ?_)
  · have hres := hres.trans (if_neg c_11)
    have ho := (if_neg c_11).mp ho
    refine lv_iconst (v := 0) hx hb qd_O_itemNexts_23 (by decide) ?_
    exact W.iret (v := 0) hx hb hr (fun t ht hW => ⟨_, rfl, hres.symm, ht⟩) (fun _ h => nomatch h) qd_O_itemNexts_24
  have hres := hres.trans (if_pos c_11)
  have ho := (if_pos c_11).mp ho
  refine lv_iconst (v := 1) hx hb qd_O_itemNexts_14 (by decide) ?_
  refine lv_iload_n hx hb qd_O_itemNexts_15 rfl (lv_at hl 1 rfl) ?_
  refine lv_bipush (v := 10) hx hb qd_O_itemNexts_16 (by decide) ?_
  refine lv_isub hx hb qd_O_itemNexts_18 ?_
  refine lv_ishl hx hb qd_O_itemNexts_19 ?_
  refine lv_goto (tgt := 24) hx hb qd_O_itemNexts_20 (by decide) ?_
  exact W.iret (v := (1 : Int32) <<< ((p0 - 10) &&& 31)) hx hb hr (fun t ht hW => ⟨_, rfl, hres.symm, ht⟩) (fun _ h => nomatch h) qd_O_itemNexts_24
theorem qd_O_nextsBehindSecond_0 : decode qc_O_nextsBehindSecond 0 = .ok (.iconst 0, 1) := by decide +kernel
theorem qd_O_nextsBehindSecond_1 : decode qc_O_nextsBehindSecond 1 = .ok (.istore_n 3, 1) := by decide +kernel
theorem qd_O_nextsBehindSecond_2 : decode qc_O_nextsBehindSecond 2 = .ok (.iload_n 2, 1) := by decide +kernel
theorem qd_O_nextsBehindSecond_3 : decode qc_O_nextsBehindSecond 3 = .ok (.iconst 1, 1) := by decide +kernel
theorem qd_O_nextsBehindSecond_4 : decode qc_O_nextsBehindSecond 4 = .ok (.iadd, 1) := by decide +kernel
theorem qd_O_nextsBehindSecond_5 : decode qc_O_nextsBehindSecond 5 = .ok (.istore 4, 2) := by decide +kernel
theorem qd_O_nextsBehindSecond_7 : decode qc_O_nextsBehindSecond 7 = .ok (.iload 4, 2) := by decide +kernel
theorem qd_O_nextsBehindSecond_9 : decode qc_O_nextsBehindSecond 9 = .ok (.aload_n 0, 1) := by decide +kernel
theorem qd_O_nextsBehindSecond_10 : decode qc_O_nextsBehindSecond 10 = .ok (.getfield 15, 3) := by decide +kernel
theorem qd_O_nextsBehindSecond_13 : decode qc_O_nextsBehindSecond 13 = .ok (.if_icmp .gt 49, 3) := by decide +kernel
theorem qd_O_nextsBehindSecond_16 : decode qc_O_nextsBehindSecond 16 = .ok (.aload_n 0, 1) := by decide +kernel
theorem qd_O_nextsBehindSecond_17 : decode qc_O_nextsBehindSecond 17 = .ok (.getfield 23, 3) := by decide +kernel
theorem qd_O_nextsBehindSecond_20 : decode qc_O_nextsBehindSecond 20 = .ok (.aload_n 0, 1) := by decide +kernel
theorem qd_O_nextsBehindSecond_21 : decode qc_O_nextsBehindSecond 21 = .ok (.getfield 19, 3) := by decide +kernel
theorem qd_O_nextsBehindSecond_24 : decode qc_O_nextsBehindSecond 24 = .ok (.iload_n 1, 1) := by decide +kernel
theorem qd_O_nextsBehindSecond_25 : decode qc_O_nextsBehindSecond 25 = .ok (.iconst 1, 1) := by decide +kernel
theorem qd_O_nextsBehindSecond_26 : decode qc_O_nextsBehindSecond 26 = .ok (.invokevirtual 62, 3) := by decide +kernel
theorem qd_O_nextsBehindSecond_29 : decode qc_O_nextsBehindSecond 29 = .ok (.iload_n 2, 1) := by decide +kernel
theorem qd_O_nextsBehindSecond_30 : decode qc_O_nextsBehindSecond 30 = .ok (.iload 4, 2) := by decide +kernel
theorem qd_O_nextsBehindSecond_32 : decode qc_O_nextsBehindSecond 32 = .ok (.invokevirtual 65, 3) := by decide +kernel
theorem qd_O_nextsBehindSecond_35 : decode qc_O_nextsBehindSecond 35 = .ok (.ifCond .le 21, 3) := by decide +kernel
theorem qd_O_nextsBehindSecond_38 : decode qc_O_nextsBehindSecond 38 = .ok (.iload_n 3, 1) := by decide +kernel
theorem qd_O_nextsBehindSecond_39 : decode qc_O_nextsBehindSecond 39 = .ok (.aload_n 0, 1) := by decide +kernel
theorem qd_O_nextsBehindSecond_40 : decode qc_O_nextsBehindSecond 40 = .ok (.aload_n 0, 1) := by decide +kernel
theorem qd_O_nextsBehindSecond_41 : decode qc_O_nextsBehindSecond 41 = .ok (.getfield 19, 3) := by decide +kernel
theorem qd_O_nextsBehindSecond_44 : decode qc_O_nextsBehindSecond 44 = .ok (.iload_n 1, 1) := by decide +kernel
theorem qd_O_nextsBehindSecond_45 : decode qc_O_nextsBehindSecond 45 = .ok (.iconst 2, 1) := by decide +kernel
theorem qd_O_nextsBehindSecond_46 : decode qc_O_nextsBehindSecond 46 = .ok (.invokevirtual 62, 3) := by decide +kernel
theorem qd_O_nextsBehindSecond_49 : decode qc_O_nextsBehindSecond 49 = .ok (.iload 4, 2) := by decide +kernel
theorem qd_O_nextsBehindSecond_51 : decode qc_O_nextsBehindSecond 51 = .ok (.invokevirtual 31, 3) := by decide +kernel
theorem qd_O_nextsBehindSecond_54 : decode qc_O_nextsBehindSecond 54 = .ok (.ior, 1) := by decide +kernel
theorem qd_O_nextsBehindSecond_55 : decode qc_O_nextsBehindSecond 55 = .ok (.istore_n 3, 1) := by decide +kernel
theorem qd_O_nextsBehindSecond_56 : decode qc_O_nextsBehindSecond 56 = .ok (.iinc 4 1, 3) := by decide +kernel
theorem qd_O_nextsBehindSecond_59 : decode qc_O_nextsBehindSecond 59 = .ok (.goto (-52), 3) := by decide +kernel
theorem qd_O_nextsBehindSecond_62 : decode qc_O_nextsBehindSecond 62 = .ok (.iload_n 3, 1) := by decide +kernel
theorem qd_O_nextsBehindSecond_63 : decode qc_O_nextsBehindSecond 63 = .ok (.ireturn, 1) := by decide +kernel
set_option maxHeartbeats 4000000 in
set_option maxRecDepth 100000 in
theorem c_O_nextsBehindSecond (l : Launch) (dC : Nat → ClassId) (dI : Nat → Nat → Nat) (cA : ClassId) (N_ : Nat) (aO aOn aC aCn aCc aCr aCs aG aGh aGi aGc aGo aGr aR aRt : Nat) (vOE : Int32) (vOn : (Nat → Int32)) (vCF : Int32) (vCn : (Nat → Int32)) (vGF : Int32) (vGS : Int32) (vGi : (Nat → Int32)) (vRL : Int32) (vRt : (Nat → Int32)) (p0 : Int32) (p1 : Int32) (ho : o_O_nextsBehindSecond N_ vOE vOn vCn vGS vGi vRL vRt p0 p1) : Met l qy_O_nextsBehindSecond qw_O_nextsBehindSecond ({ frames := 2, cells := 0, slots := 0, locals := 46 }) (va_Pc [.ref aO, .int p0, .int p1] (xP (dC, dI) [(cA, .int)] [(aO, .inr (3, [.ref aG, .ref aC, .ref aOn, .int vOE])), (aOn, .inl (cA, 250, .inl (vOn))), (aC, .inr (0, [.ref aG, .ref aR, .ref aCn, .ref aCc, .ref aCr, .ref aCs, .int vCF])), (aCn, .inl (cA, 5760, .inl (vCn))), (aG, .inr (2, [.ref aGh, .ref aGi, .ref aGc, .ref aGo, .ref aGr, .int vGF, .int vGS])), (aGi, .inl (cA, 72, .inl (vGi))), (aR, .inr (4, [.ref aRt, .int vRL])), (aRt, .inl (cA, 24, .inl (vRt)))] nestN)) (vp_Si (fun r => r = f_O_nextsBehindSecond N_ vOE vOn vCn vGS vGi vRL vRt p0 p1)) 0 0 (fun _ => False) := by
  refine Met.ofW (cc := qc_O_nextsBehindSecond) (maxL := 5) (ret := (some .int)) (by decide) rfl ?_
  intro p e s m args below meth c s₁ B hml hv
  obtain ⟨rfl, hP, hK, hN⟩ := hv
  have hx := B.exec
  have hb := B.bytes
  have hr := B.returns
  have hts := atoms_spec (ws := qw_O_nextsBehindSecond) B.pre
  have hg : ∀ w ∈ gG, w.before _ s = true := fun w h => hts w (List.mem_cons_of_mem _ h)
  have hown : s.vm.findClass qR_O = some m.cls := findClass_of_methodNamed B.named
  have hlocks := B.notSynchronized
  have hP : va_P (dC, dI) vwCl [(aO, .inr (3, [.ref aG, .ref aC, .ref aOn, .int vOE])), (aOn, .inl (cA, 250, .inl (vOn))), (aC, .inr (0, [.ref aG, .ref aR, .ref aCn, .ref aCc, .ref aCr, .ref aCs, .int vCF])), (aCn, .inl (cA, 5760, .inl (vCn))), (aG, .inr (2, [.ref aGh, .ref aGi, .ref aGc, .ref aGo, .ref aGr, .int vGF, .int vGS])), (aGi, .inl (cA, 72, .inl (vGi))), (aR, .inr (4, [.ref aRt, .int vRL])), (aRt, .inl (cA, 24, .inl (vRt)))] s.heap := hP
  have hl := lv_entry ([.ref aO, .int p0, .int p1]) (n := 5) (Nat.le_of_ble_eq_true rfl)
  rw [lg_entry_eq]
  generalize (lg_sl ([.ref aO, .int p0, .int p1]) ++ List.replicate (5 - (lg_sl ([.ref aO, .int p0, .int p1])).length) Slot.unset).toArray = ls at hl ⊢
  have hl : lv_has ls 5 [(0, .ref aO), (1, .int p0), (2, .int p1)] := hl
  generalize hF : f_O_nextsBehindSecond N_ vOE vOn vCn vGS vGi vRL vRt p0 p1 = Fv
  have hres : Fv = f_O_nextsBehindSecond N_ vOE vOn vCn vGS vGi vRL vRt p0 p1 := hF.symm
  unfold f_O_nextsBehindSecond at hres
  unfold o_O_nextsBehindSecond at ho
  generalize hQ : MQ _ _ _ _ _ _ _ = Qg
  refine lv_iconst (v := 0) hx hb qd_O_nextsBehindSecond_0 (by decide) ?_
  refine lv_istore_n (lv' := [(3, .int 0), (0, .ref aO), (1, .int p0), (2, .int p1)]) hx hb qd_O_nextsBehindSecond_1 rfl hl (by decide) rfl (fun ls hl => ?_)
  refine lv_iload_n hx hb qd_O_nextsBehindSecond_2 rfl (lv_at hl 3 rfl) ?_
  refine lv_iconst (v := 1) hx hb qd_O_nextsBehindSecond_3 (by decide) ?_
  refine lv_iadd hx hb qd_O_nextsBehindSecond_4 ?_
  refine lv_istore (lv' := [(4, .int (p1 + 1)), (3, .int 0), (0, .ref aO), (1, .int p0), (2, .int p1)]) hx hb qd_O_nextsBehindSecond_5 hl (by decide) rfl (fun ls hl => ?_)
  have L_7 : ∀ (K_ : Int32 → Int32 → Int32) (Ko_ : Int32 → Int32 → Prop) (hk : ∀ (x3_7 : Int32) (x4_7 : Int32) (ls : Array Slot), lv_has ls 5 [(4, .int x4_7), (3, .int x3_7), (0, .ref aO), (1, .int p0), (2, .int p1)] → Fv = K_ x3_7 x4_7 → Ko_ x3_7 x4_7 → W p l e ({ frames := 2, cells := 0, slots := 0, locals := 46 } : Room) s m (([.ref aO, .int p0, .int p1] : List Value).toArray) below meth c s.heap [] 0 0 Qg (F0 m 62 ls [])) (n : Nat) (x3_7 : Int32) (x4_7 : Int32) (ls : Array Slot), lv_has ls 5 [(4, .int x4_7), (3, .int x3_7), (0, .ref aO), (1, .int p0), (2, .int p1)] → Fv = l_O_nextsBehindSecond_7 p0 p1 vOE vOn vCn vGS vGi vRL vRt K_ n x3_7 x4_7 → ol_O_nextsBehindSecond_7 p0 p1 vOE vOn vCn vGS vGi vRL vRt Ko_ n x3_7 x4_7 → W p l e ({ frames := 2, cells := 0, slots := 0, locals := 46 } : Room) s m (([.ref aO, .int p0, .int p1] : List Value).toArray) below meth c s.heap [] 0 0 Qg (F0 m 7 ls []) := by
    intro K_ Ko_ hk n
    induction n with
    | zero => intro x3_7 x4_7 ls hl hres ho; exact ho.elim
    | succ n ih =>
      intro x3_7 x4_7 ls hl hres ho
      rw [l_O_nextsBehindSecond_7, s_O_nextsBehindSecond_7] at hres
      rw [ol_O_nextsBehindSecond_7, os_O_nextsBehindSecond_7] at ho
      refine lv_iload hx hb qd_O_nextsBehindSecond_7 (lv_at hl 0 rfl) ?_
      refine lv_aload_n hx hb qd_O_nextsBehindSecond_9 rfl (lv_at hl 2 rfl) ?_
      refine va_get (D := (dC, dI)) (ci := 3) (v := .int vOE) (C := qR_O) (T := qT_O) (N := 4) hx hb hg qi_O hown hK hP 0 rfl rfl 3 (by decide) (hg _ mw_128) (fun _ h9 => h9) rfl qd_O_nextsBehindSecond_10 ?_
      refine lv_icmp_gt (tgt := 62) hx hb qd_O_nextsBehindSecond_13 (by decide) (fun c_13 => ?_) (fun c_13 => ?_)
      · have hres := hres.trans (if_pos c_13)
        have ho := (if_pos c_13).mp ho
        exact hk x3_7 x4_7 ls (lv_sub hl [0, 1, 2, 3, 4] rfl) hres ho
      have hres := hres.trans (if_neg c_13)
      have ho := (if_neg c_13).mp ho
      refine lv_aload_n hx hb qd_O_nextsBehindSecond_16 rfl (lv_at hl 2 rfl) ?_
      refine va_get (D := (dC, dI)) (ci := 3) (v := .ref aC) (C := qR_O) (T := qT_O) (N := 4) hx hb hg qi_O hown hK hP 0 rfl rfl 1 (by decide) (hg _ mw_126) (fun _ h9 => h9) rfl qd_O_nextsBehindSecond_17 ?_
      refine lv_aload_n hx hb qd_O_nextsBehindSecond_20 rfl (lv_at hl 2 rfl) ?_
      refine va_get (D := (dC, dI)) (ci := 3) (v := .ref aG) (C := qR_O) (T := qT_O) (N := 4) hx hb hg qi_O hown hK hP 0 rfl rfl 0 (by decide) (hg _ mw_125) (fun _ h9 => h9) rfl qd_O_nextsBehindSecond_21 ?_
      refine lv_iload_n hx hb qd_O_nextsBehindSecond_24 rfl (lv_at hl 3 rfl) ?_
      refine lv_iconst (v := 1) hx hb qd_O_nextsBehindSecond_25 (by decide) ?_
      obtain ⟨g_26, ho⟩ := ho
      refine xc_V (As := [.int p0, .int 1]) (rest := [.ref aC]) ⟨hx, hb, hml, hown, hg⟩ (c_G_item l dC dI cA aG aGh aGi aGc aGo aGr vGF vGS vGi p0 1 g_26) (cwV 2 hg (q_gV mw_554 mw_301 mw_302 mw_2 mw_303) rfl rfl rfl qh_G_item ⟨Nat.le_of_ble_eq_true rfl, Nat.le_of_ble_eq_true rfl⟩) hN hK hP [4, 5] rfl 0 2 rfl rfl rfl hl.1 rfl (Nat.le_of_ble_eq_true rfl) qd_O_nextsBehindSecond_26 ⟨Nat.zero_le _, Nat.zero_le _⟩ ?_
      refine lv_topi (fun r_26 w_26 => ?_)
      have hres := hres.trans (bd_eq w_26)
      have ho := (bd_eq w_26).mp ho
      refine lv_iload_n hx hb qd_O_nextsBehindSecond_29 rfl (lv_at hl 4 rfl) ?_
      refine lv_iload hx hb qd_O_nextsBehindSecond_30 (lv_at hl 0 rfl) ?_
      obtain ⟨g_32, ho⟩ := ho
      refine xc_V (As := [.int r_26, .int p1, .int x4_7]) (rest := []) ⟨hx, hb, hml, hown, hg⟩ (c_C_trees l dC dI cA aC aCn aCc aCr aCs aG aR aRt vCF vCn vRL vRt r_26 p1 x4_7 g_32) (cwV 3 hg (q_gV mw_555 mw_385 mw_386 mw_4 mw_387) rfl rfl rfl qh_C_trees ⟨Nat.le_of_ble_eq_true rfl, Nat.le_of_ble_eq_true rfl⟩) hN hK hP [2, 3, 6, 7] rfl 0 0 rfl rfl rfl hl.1 rfl (Nat.le_of_ble_eq_true rfl) qd_O_nextsBehindSecond_32 ⟨Nat.zero_le _, Nat.zero_le _⟩ ?_
      refine lv_topi (fun r_32 w_32 => ?_)
      have hres := hres.trans (bd_eq w_32)
      have ho := (bd_eq w_32).mp ho
      refine lv_if_le (tgt := 56) hx hb qd_O_nextsBehindSecond_35 (by decide) (fun c_35 => ?_) (fun c_35 => ?_)
      · have hres := hres.trans (if_pos c_35)
        have ho := (if_pos c_35).mp ho
        refine lv_iinc (v := x4_7 + 1) (lv' := [(4, .int (x4_7 + 1)), (3, .int x3_7), (0, .ref aO), (1, .int p0), (2, .int p1)]) hx hb qd_O_nextsBehindSecond_56 hl (k := 0) rfl (congrArg (fun z => _ + z) (by decide)) (by decide) rfl (fun ls hl => ?_)
        refine lv_goto (tgt := 7) hx hb qd_O_nextsBehindSecond_59 (by decide) ?_
        exact ih x3_7 (x4_7 + 1) ls (lv_sub hl [0, 1, 2, 3, 4] rfl) hres ho
      have hres := hres.trans (if_neg c_35)
      have ho := (if_neg c_35).mp ho
      refine lv_iload_n hx hb qd_O_nextsBehindSecond_38 rfl (lv_at hl 1 rfl) ?_
      refine lv_aload_n hx hb qd_O_nextsBehindSecond_39 rfl (lv_at hl 2 rfl) ?_
      refine lv_aload_n hx hb qd_O_nextsBehindSecond_40 rfl (lv_at hl 2 rfl) ?_
      refine va_get (D := (dC, dI)) (ci := 3) (v := .ref aG) (C := qR_O) (T := qT_O) (N := 4) hx hb hg qi_O hown hK hP 0 rfl rfl 0 (by decide) (hg _ mw_125) (fun _ h9 => h9) rfl qd_O_nextsBehindSecond_41 ?_
      refine lv_iload_n hx hb qd_O_nextsBehindSecond_44 rfl (lv_at hl 3 rfl) ?_
      refine lv_iconst (v := 2) hx hb qd_O_nextsBehindSecond_45 (by decide) ?_
      obtain ⟨g_46, ho⟩ := ho
      refine xc_V (As := [.int p0, .int 2]) (rest := [.ref aO, .int x3_7]) ⟨hx, hb, hml, hown, hg⟩ (c_G_item l dC dI cA aG aGh aGi aGc aGo aGr vGF vGS vGi p0 2 g_46) (cwV 2 hg (q_gV mw_554 mw_301 mw_302 mw_2 mw_303) rfl rfl rfl qh_G_item ⟨Nat.le_of_ble_eq_true rfl, Nat.le_of_ble_eq_true rfl⟩) hN hK hP [4, 5] rfl 0 2 rfl rfl rfl hl.1 rfl (Nat.le_of_ble_eq_true rfl) qd_O_nextsBehindSecond_46 ⟨Nat.zero_le _, Nat.zero_le _⟩ ?_
      refine lv_topi (fun r_46 w_46 => ?_)
      have hres := hres.trans (bd_eq w_46)
      have ho := (bd_eq w_46).mp ho
      refine lv_iload hx hb qd_O_nextsBehindSecond_49 (lv_at hl 0 rfl) ?_
      obtain ⟨g_51, ho⟩ := ho
      refine xc_V (As := [.int r_46, .int x4_7]) (rest := [.int x3_7]) ⟨hx, hb, hml, hown, hg⟩ (c_O_itemNexts l dC dI cA aO aOn aC aG vOE vOn r_46 x4_7 g_51) (cwV 2 hg (q_gV mw_556 mw_557 mw_766 mw_7 mw_558) rfl rfl rfl qh_O_itemNexts ⟨Nat.le_of_ble_eq_true rfl, Nat.le_of_ble_eq_true rfl⟩) hN hK hP [0, 1] rfl 0 3 rfl rfl rfl hl.1 rfl (Nat.le_of_ble_eq_true rfl) qd_O_nextsBehindSecond_51 ⟨Nat.zero_le _, Nat.zero_le _⟩ ?_
      refine lv_topi (fun r_51 w_51 => ?_)
      have hres := hres.trans (bd_eq w_51)
      have ho := (bd_eq w_51).mp ho
      refine lv_ior hx hb qd_O_nextsBehindSecond_54 ?_
      refine lv_istore_n (lv' := [(3, .int (x3_7 ||| r_51)), (4, .int x4_7), (0, .ref aO), (1, .int p0), (2, .int p1)]) hx hb qd_O_nextsBehindSecond_55 rfl hl (by decide) rfl (fun ls hl => ?_)
      refine lv_iinc (v := x4_7 + 1) (lv' := [(4, .int (x4_7 + 1)), (3, .int (x3_7 ||| r_51)), (0, .ref aO), (1, .int p0), (2, .int p1)]) hx hb qd_O_nextsBehindSecond_56 hl (k := 1) rfl (congrArg (fun z => _ + z) (by decide)) (by decide) rfl (fun ls hl => ?_)
      refine lv_goto (tgt := 7) hx hb qd_O_nextsBehindSecond_59 (by decide) ?_
      exact ih (x3_7 ||| r_51) (x4_7 + 1) ls (lv_sub hl [0, 1, 2, 3, 4] rfl) hres ho
  refine L_7 _ _ (fun x3_7 x4_7 ls hl hres ho => ?_) _ _ _ ls hl hres ho
  refine lv_iload_n hx hb qd_O_nextsBehindSecond_62 rfl (lv_at hl 1 rfl) ?_
  subst hQ
  exact W.iret (v := x3_7) hx hb hr (fun t ht hW => ⟨_, rfl, hres.symm, ht⟩) (fun _ h => nomatch h) qd_O_nextsBehindSecond_63
theorem qd_O_nextsBehindFirst_0 : decode qc_O_nextsBehindFirst 0 = .ok (.iconst 0, 1) := by decide +kernel
theorem qd_O_nextsBehindFirst_1 : decode qc_O_nextsBehindFirst 1 = .ok (.istore_n 3, 1) := by decide +kernel
theorem qd_O_nextsBehindFirst_2 : decode qc_O_nextsBehindFirst 2 = .ok (.iload_n 2, 1) := by decide +kernel
theorem qd_O_nextsBehindFirst_3 : decode qc_O_nextsBehindFirst 3 = .ok (.iconst 1, 1) := by decide +kernel
theorem qd_O_nextsBehindFirst_4 : decode qc_O_nextsBehindFirst 4 = .ok (.iadd, 1) := by decide +kernel
theorem qd_O_nextsBehindFirst_5 : decode qc_O_nextsBehindFirst 5 = .ok (.istore 4, 2) := by decide +kernel
theorem qd_O_nextsBehindFirst_7 : decode qc_O_nextsBehindFirst 7 = .ok (.iload 4, 2) := by decide +kernel
theorem qd_O_nextsBehindFirst_9 : decode qc_O_nextsBehindFirst 9 = .ok (.aload_n 0, 1) := by decide +kernel
theorem qd_O_nextsBehindFirst_10 : decode qc_O_nextsBehindFirst 10 = .ok (.getfield 15, 3) := by decide +kernel
theorem qd_O_nextsBehindFirst_13 : decode qc_O_nextsBehindFirst 13 = .ok (.if_icmp .gt 59, 3) := by decide +kernel
theorem qd_O_nextsBehindFirst_16 : decode qc_O_nextsBehindFirst 16 = .ok (.aload_n 0, 1) := by decide +kernel
theorem qd_O_nextsBehindFirst_17 : decode qc_O_nextsBehindFirst 17 = .ok (.getfield 23, 3) := by decide +kernel
theorem qd_O_nextsBehindFirst_20 : decode qc_O_nextsBehindFirst 20 = .ok (.aload_n 0, 1) := by decide +kernel
theorem qd_O_nextsBehindFirst_21 : decode qc_O_nextsBehindFirst 21 = .ok (.getfield 19, 3) := by decide +kernel
theorem qd_O_nextsBehindFirst_24 : decode qc_O_nextsBehindFirst 24 = .ok (.iload_n 1, 1) := by decide +kernel
theorem qd_O_nextsBehindFirst_25 : decode qc_O_nextsBehindFirst 25 = .ok (.iconst 0, 1) := by decide +kernel
theorem qd_O_nextsBehindFirst_26 : decode qc_O_nextsBehindFirst 26 = .ok (.invokevirtual 62, 3) := by decide +kernel
theorem qd_O_nextsBehindFirst_29 : decode qc_O_nextsBehindFirst 29 = .ok (.iload_n 2, 1) := by decide +kernel
theorem qd_O_nextsBehindFirst_30 : decode qc_O_nextsBehindFirst 30 = .ok (.iload 4, 2) := by decide +kernel
theorem qd_O_nextsBehindFirst_32 : decode qc_O_nextsBehindFirst 32 = .ok (.invokevirtual 65, 3) := by decide +kernel
theorem qd_O_nextsBehindFirst_35 : decode qc_O_nextsBehindFirst 35 = .ok (.ifCond .le 31, 3) := by decide +kernel
theorem qd_O_nextsBehindFirst_38 : decode qc_O_nextsBehindFirst 38 = .ok (.iload_n 3, 1) := by decide +kernel
theorem qd_O_nextsBehindFirst_39 : decode qc_O_nextsBehindFirst 39 = .ok (.aload_n 0, 1) := by decide +kernel
theorem qd_O_nextsBehindFirst_40 : decode qc_O_nextsBehindFirst 40 = .ok (.aload_n 0, 1) := by decide +kernel
theorem qd_O_nextsBehindFirst_41 : decode qc_O_nextsBehindFirst 41 = .ok (.getfield 19, 3) := by decide +kernel
theorem qd_O_nextsBehindFirst_44 : decode qc_O_nextsBehindFirst 44 = .ok (.iload_n 1, 1) := by decide +kernel
theorem qd_O_nextsBehindFirst_45 : decode qc_O_nextsBehindFirst 45 = .ok (.iconst 1, 1) := by decide +kernel
theorem qd_O_nextsBehindFirst_46 : decode qc_O_nextsBehindFirst 46 = .ok (.invokevirtual 62, 3) := by decide +kernel
theorem qd_O_nextsBehindFirst_49 : decode qc_O_nextsBehindFirst 49 = .ok (.iload 4, 2) := by decide +kernel
theorem qd_O_nextsBehindFirst_51 : decode qc_O_nextsBehindFirst 51 = .ok (.invokevirtual 31, 3) := by decide +kernel
theorem qd_O_nextsBehindFirst_54 : decode qc_O_nextsBehindFirst 54 = .ok (.ior, 1) := by decide +kernel
theorem qd_O_nextsBehindFirst_55 : decode qc_O_nextsBehindFirst 55 = .ok (.istore_n 3, 1) := by decide +kernel
theorem qd_O_nextsBehindFirst_56 : decode qc_O_nextsBehindFirst 56 = .ok (.iload_n 3, 1) := by decide +kernel
theorem qd_O_nextsBehindFirst_57 : decode qc_O_nextsBehindFirst 57 = .ok (.aload_n 0, 1) := by decide +kernel
theorem qd_O_nextsBehindFirst_58 : decode qc_O_nextsBehindFirst 58 = .ok (.iload_n 1, 1) := by decide +kernel
theorem qd_O_nextsBehindFirst_59 : decode qc_O_nextsBehindFirst 59 = .ok (.iload 4, 2) := by decide +kernel
theorem qd_O_nextsBehindFirst_61 : decode qc_O_nextsBehindFirst 61 = .ok (.invokevirtual 71, 3) := by decide +kernel
theorem qd_O_nextsBehindFirst_64 : decode qc_O_nextsBehindFirst 64 = .ok (.ior, 1) := by decide +kernel
theorem qd_O_nextsBehindFirst_65 : decode qc_O_nextsBehindFirst 65 = .ok (.istore_n 3, 1) := by decide +kernel
theorem qd_O_nextsBehindFirst_66 : decode qc_O_nextsBehindFirst 66 = .ok (.iinc 4 1, 3) := by decide +kernel
theorem qd_O_nextsBehindFirst_69 : decode qc_O_nextsBehindFirst 69 = .ok (.goto (-62), 3) := by decide +kernel
theorem qd_O_nextsBehindFirst_72 : decode qc_O_nextsBehindFirst 72 = .ok (.iload_n 3, 1) := by decide +kernel
theorem qd_O_nextsBehindFirst_73 : decode qc_O_nextsBehindFirst 73 = .ok (.ireturn, 1) := by decide +kernel
set_option maxHeartbeats 4000000 in
set_option maxRecDepth 100000 in
theorem c_O_nextsBehindFirst (l : Launch) (dC : Nat → ClassId) (dI : Nat → Nat → Nat) (cA : ClassId) (N_ : Nat) (aO aOn aC aCn aCc aCr aCs aG aGh aGi aGc aGo aGr aR aRt : Nat) (vOE : Int32) (vOn : (Nat → Int32)) (vCF : Int32) (vCn : (Nat → Int32)) (vGF : Int32) (vGS : Int32) (vGi : (Nat → Int32)) (vRL : Int32) (vRt : (Nat → Int32)) (p0 : Int32) (p1 : Int32) (ho : o_O_nextsBehindFirst N_ vOE vOn vCn vGS vGi vRL vRt p0 p1) : Met l qy_O_nextsBehindFirst qw_O_nextsBehindFirst ({ frames := 3, cells := 0, slots := 0, locals := 70 }) (va_Pc [.ref aO, .int p0, .int p1] (xP (dC, dI) [(cA, .int)] [(aO, .inr (3, [.ref aG, .ref aC, .ref aOn, .int vOE])), (aOn, .inl (cA, 250, .inl (vOn))), (aC, .inr (0, [.ref aG, .ref aR, .ref aCn, .ref aCc, .ref aCr, .ref aCs, .int vCF])), (aCn, .inl (cA, 5760, .inl (vCn))), (aG, .inr (2, [.ref aGh, .ref aGi, .ref aGc, .ref aGo, .ref aGr, .int vGF, .int vGS])), (aGi, .inl (cA, 72, .inl (vGi))), (aR, .inr (4, [.ref aRt, .int vRL])), (aRt, .inl (cA, 24, .inl (vRt)))] nestN)) (vp_Si (fun r => r = f_O_nextsBehindFirst N_ vOE vOn vCn vGS vGi vRL vRt p0 p1)) 0 0 (fun _ => False) := by
  refine Met.ofW (cc := qc_O_nextsBehindFirst) (maxL := 5) (ret := (some .int)) (by decide) rfl ?_
  intro p e s m args below meth c s₁ B hml hv
  obtain ⟨rfl, hP, hK, hN⟩ := hv
  have hx := B.exec
  have hb := B.bytes
  have hr := B.returns
  have hts := atoms_spec (ws := qw_O_nextsBehindFirst) B.pre
  have hg : ∀ w ∈ gG, w.before _ s = true := fun w h => hts w (List.mem_cons_of_mem _ h)
  have hown : s.vm.findClass qR_O = some m.cls := findClass_of_methodNamed B.named
  have hlocks := B.notSynchronized
  have hP : va_P (dC, dI) vwCl [(aO, .inr (3, [.ref aG, .ref aC, .ref aOn, .int vOE])), (aOn, .inl (cA, 250, .inl (vOn))), (aC, .inr (0, [.ref aG, .ref aR, .ref aCn, .ref aCc, .ref aCr, .ref aCs, .int vCF])), (aCn, .inl (cA, 5760, .inl (vCn))), (aG, .inr (2, [.ref aGh, .ref aGi, .ref aGc, .ref aGo, .ref aGr, .int vGF, .int vGS])), (aGi, .inl (cA, 72, .inl (vGi))), (aR, .inr (4, [.ref aRt, .int vRL])), (aRt, .inl (cA, 24, .inl (vRt)))] s.heap := hP
  have hl := lv_entry ([.ref aO, .int p0, .int p1]) (n := 5) (Nat.le_of_ble_eq_true rfl)
  rw [lg_entry_eq]
  generalize (lg_sl ([.ref aO, .int p0, .int p1]) ++ List.replicate (5 - (lg_sl ([.ref aO, .int p0, .int p1])).length) Slot.unset).toArray = ls at hl ⊢
  have hl : lv_has ls 5 [(0, .ref aO), (1, .int p0), (2, .int p1)] := hl
  generalize hF : f_O_nextsBehindFirst N_ vOE vOn vCn vGS vGi vRL vRt p0 p1 = Fv
  have hres : Fv = f_O_nextsBehindFirst N_ vOE vOn vCn vGS vGi vRL vRt p0 p1 := hF.symm
  unfold f_O_nextsBehindFirst at hres
  unfold o_O_nextsBehindFirst at ho
  generalize hQ : MQ _ _ _ _ _ _ _ = Qg
  refine lv_iconst (v := 0) hx hb qd_O_nextsBehindFirst_0 (by decide) ?_
  refine lv_istore_n (lv' := [(3, .int 0), (0, .ref aO), (1, .int p0), (2, .int p1)]) hx hb qd_O_nextsBehindFirst_1 rfl hl (by decide) rfl (fun ls hl => ?_)
  refine lv_iload_n hx hb qd_O_nextsBehindFirst_2 rfl (lv_at hl 3 rfl) ?_
  refine lv_iconst (v := 1) hx hb qd_O_nextsBehindFirst_3 (by decide) ?_
  refine lv_iadd hx hb qd_O_nextsBehindFirst_4 ?_
  refine lv_istore (lv' := [(4, .int (p1 + 1)), (3, .int 0), (0, .ref aO), (1, .int p0), (2, .int p1)]) hx hb qd_O_nextsBehindFirst_5 hl (by decide) rfl (fun ls hl => ?_)
  have L_7 : ∀ (K_ : Int32 → Int32 → Int32) (Ko_ : Int32 → Int32 → Prop) (hk : ∀ (x3_7 : Int32) (x4_7 : Int32) (ls : Array Slot), lv_has ls 5 [(4, .int x4_7), (3, .int x3_7), (0, .ref aO), (1, .int p0), (2, .int p1)] → Fv = K_ x3_7 x4_7 → Ko_ x3_7 x4_7 → W p l e ({ frames := 3, cells := 0, slots := 0, locals := 70 } : Room) s m (([.ref aO, .int p0, .int p1] : List Value).toArray) below meth c s.heap [] 0 0 Qg (F0 m 72 ls [])) (n : Nat) (x3_7 : Int32) (x4_7 : Int32) (ls : Array Slot), lv_has ls 5 [(4, .int x4_7), (3, .int x3_7), (0, .ref aO), (1, .int p0), (2, .int p1)] → Fv = l_O_nextsBehindFirst_7 N_ p0 p1 vOE vOn vCn vGS vGi vRL vRt K_ n x3_7 x4_7 → ol_O_nextsBehindFirst_7 N_ p0 p1 vOE vOn vCn vGS vGi vRL vRt Ko_ n x3_7 x4_7 → W p l e ({ frames := 3, cells := 0, slots := 0, locals := 70 } : Room) s m (([.ref aO, .int p0, .int p1] : List Value).toArray) below meth c s.heap [] 0 0 Qg (F0 m 7 ls []) := by
    intro K_ Ko_ hk n
    induction n with
    | zero => intro x3_7 x4_7 ls hl hres ho; exact ho.elim
    | succ n ih =>
      intro x3_7 x4_7 ls hl hres ho
      rw [l_O_nextsBehindFirst_7, s_O_nextsBehindFirst_7] at hres
      rw [ol_O_nextsBehindFirst_7, os_O_nextsBehindFirst_7] at ho
      refine lv_iload hx hb qd_O_nextsBehindFirst_7 (lv_at hl 0 rfl) ?_
      refine lv_aload_n hx hb qd_O_nextsBehindFirst_9 rfl (lv_at hl 2 rfl) ?_
      refine va_get (D := (dC, dI)) (ci := 3) (v := .int vOE) (C := qR_O) (T := qT_O) (N := 4) hx hb hg qi_O hown hK hP 0 rfl rfl 3 (by decide) (hg _ mw_128) (fun _ h9 => h9) rfl qd_O_nextsBehindFirst_10 ?_
      refine lv_icmp_gt (tgt := 72) hx hb qd_O_nextsBehindFirst_13 (by decide) (fun c_13 => ?_) (fun c_13 => ?_)
      · have hres := hres.trans (if_pos c_13)
        have ho := (if_pos c_13).mp ho
        exact hk x3_7 x4_7 ls (lv_sub hl [0, 1, 2, 3, 4] rfl) hres ho
      have hres := hres.trans (if_neg c_13)
      have ho := (if_neg c_13).mp ho
      refine lv_aload_n hx hb qd_O_nextsBehindFirst_16 rfl (lv_at hl 2 rfl) ?_
      refine va_get (D := (dC, dI)) (ci := 3) (v := .ref aC) (C := qR_O) (T := qT_O) (N := 4) hx hb hg qi_O hown hK hP 0 rfl rfl 1 (by decide) (hg _ mw_126) (fun _ h9 => h9) rfl qd_O_nextsBehindFirst_17 ?_
      refine lv_aload_n hx hb qd_O_nextsBehindFirst_20 rfl (lv_at hl 2 rfl) ?_
      refine va_get (D := (dC, dI)) (ci := 3) (v := .ref aG) (C := qR_O) (T := qT_O) (N := 4) hx hb hg qi_O hown hK hP 0 rfl rfl 0 (by decide) (hg _ mw_125) (fun _ h9 => h9) rfl qd_O_nextsBehindFirst_21 ?_
      refine lv_iload_n hx hb qd_O_nextsBehindFirst_24 rfl (lv_at hl 3 rfl) ?_
      refine lv_iconst (v := 0) hx hb qd_O_nextsBehindFirst_25 (by decide) ?_
      obtain ⟨g_26, ho⟩ := ho
      refine xc_V (As := [.int p0, .int 0]) (rest := [.ref aC]) ⟨hx, hb, hml, hown, hg⟩ (c_G_item l dC dI cA aG aGh aGi aGc aGo aGr vGF vGS vGi p0 0 g_26) (cwV 2 hg (q_gV mw_554 mw_301 mw_302 mw_2 mw_303) rfl rfl rfl qh_G_item ⟨Nat.le_of_ble_eq_true rfl, Nat.le_of_ble_eq_true rfl⟩) hN hK hP [4, 5] rfl 0 2 rfl rfl rfl hl.1 rfl (Nat.le_of_ble_eq_true rfl) qd_O_nextsBehindFirst_26 ⟨Nat.zero_le _, Nat.zero_le _⟩ ?_
      refine lv_topi (fun r_26 w_26 => ?_)
      have hres := hres.trans (bd_eq w_26)
      have ho := (bd_eq w_26).mp ho
      refine lv_iload_n hx hb qd_O_nextsBehindFirst_29 rfl (lv_at hl 4 rfl) ?_
      refine lv_iload hx hb qd_O_nextsBehindFirst_30 (lv_at hl 0 rfl) ?_
      obtain ⟨g_32, ho⟩ := ho
      refine xc_V (As := [.int r_26, .int p1, .int x4_7]) (rest := []) ⟨hx, hb, hml, hown, hg⟩ (c_C_trees l dC dI cA aC aCn aCc aCr aCs aG aR aRt vCF vCn vRL vRt r_26 p1 x4_7 g_32) (cwV 3 hg (q_gV mw_555 mw_385 mw_386 mw_4 mw_387) rfl rfl rfl qh_C_trees ⟨Nat.le_of_ble_eq_true rfl, Nat.le_of_ble_eq_true rfl⟩) hN hK hP [2, 3, 6, 7] rfl 0 0 rfl rfl rfl hl.1 rfl (Nat.le_of_ble_eq_true rfl) qd_O_nextsBehindFirst_32 ⟨Nat.zero_le _, Nat.zero_le _⟩ ?_
      refine lv_topi (fun r_32 w_32 => ?_)
      have hres := hres.trans (bd_eq w_32)
      have ho := (bd_eq w_32).mp ho
      refine lv_if_le (tgt := 66) hx hb qd_O_nextsBehindFirst_35 (by decide) (fun c_35 => ?_) (fun c_35 => ?_)
      · have hres := hres.trans (if_pos c_35)
        have ho := (if_pos c_35).mp ho
        refine lv_iinc (v := x4_7 + 1) (lv' := [(4, .int (x4_7 + 1)), (3, .int x3_7), (0, .ref aO), (1, .int p0), (2, .int p1)]) hx hb qd_O_nextsBehindFirst_66 hl (k := 0) rfl (congrArg (fun z => _ + z) (by decide)) (by decide) rfl (fun ls hl => ?_)
        refine lv_goto (tgt := 7) hx hb qd_O_nextsBehindFirst_69 (by decide) ?_
        exact ih x3_7 (x4_7 + 1) ls (lv_sub hl [0, 1, 2, 3, 4] rfl) hres ho
      have hres := hres.trans (if_neg c_35)
      have ho := (if_neg c_35).mp ho
      refine lv_iload_n hx hb qd_O_nextsBehindFirst_38 rfl (lv_at hl 1 rfl) ?_
      refine lv_aload_n hx hb qd_O_nextsBehindFirst_39 rfl (lv_at hl 2 rfl) ?_
      refine lv_aload_n hx hb qd_O_nextsBehindFirst_40 rfl (lv_at hl 2 rfl) ?_
      refine va_get (D := (dC, dI)) (ci := 3) (v := .ref aG) (C := qR_O) (T := qT_O) (N := 4) hx hb hg qi_O hown hK hP 0 rfl rfl 0 (by decide) (hg _ mw_125) (fun _ h9 => h9) rfl qd_O_nextsBehindFirst_41 ?_
      refine lv_iload_n hx hb qd_O_nextsBehindFirst_44 rfl (lv_at hl 3 rfl) ?_
      refine lv_iconst (v := 1) hx hb qd_O_nextsBehindFirst_45 (by decide) ?_
      obtain ⟨g_46, ho⟩ := ho
      refine xc_V (As := [.int p0, .int 1]) (rest := [.ref aO, .int x3_7]) ⟨hx, hb, hml, hown, hg⟩ (c_G_item l dC dI cA aG aGh aGi aGc aGo aGr vGF vGS vGi p0 1 g_46) (cwV 2 hg (q_gV mw_554 mw_301 mw_302 mw_2 mw_303) rfl rfl rfl qh_G_item ⟨Nat.le_of_ble_eq_true rfl, Nat.le_of_ble_eq_true rfl⟩) hN hK hP [4, 5] rfl 0 2 rfl rfl rfl hl.1 rfl (Nat.le_of_ble_eq_true rfl) qd_O_nextsBehindFirst_46 ⟨Nat.zero_le _, Nat.zero_le _⟩ ?_
      refine lv_topi (fun r_46 w_46 => ?_)
      have hres := hres.trans (bd_eq w_46)
      have ho := (bd_eq w_46).mp ho
      refine lv_iload hx hb qd_O_nextsBehindFirst_49 (lv_at hl 0 rfl) ?_
      obtain ⟨g_51, ho⟩ := ho
      refine xc_V (As := [.int r_46, .int x4_7]) (rest := [.int x3_7]) ⟨hx, hb, hml, hown, hg⟩ (c_O_itemNexts l dC dI cA aO aOn aC aG vOE vOn r_46 x4_7 g_51) (cwV 2 hg (q_gV mw_556 mw_557 mw_766 mw_7 mw_558) rfl rfl rfl qh_O_itemNexts ⟨Nat.le_of_ble_eq_true rfl, Nat.le_of_ble_eq_true rfl⟩) hN hK hP [0, 1] rfl 0 3 rfl rfl rfl hl.1 rfl (Nat.le_of_ble_eq_true rfl) qd_O_nextsBehindFirst_51 ⟨Nat.zero_le _, Nat.zero_le _⟩ ?_
      refine lv_topi (fun r_51 w_51 => ?_)
      have hres := hres.trans (bd_eq w_51)
      have ho := (bd_eq w_51).mp ho
      refine lv_ior hx hb qd_O_nextsBehindFirst_54 ?_
      refine lv_istore_n (lv' := [(3, .int (x3_7 ||| r_51)), (4, .int x4_7), (0, .ref aO), (1, .int p0), (2, .int p1)]) hx hb qd_O_nextsBehindFirst_55 rfl hl (by decide) rfl (fun ls hl => ?_)
      refine lv_iload_n hx hb qd_O_nextsBehindFirst_56 rfl (lv_at hl 0 rfl) ?_
      refine lv_aload_n hx hb qd_O_nextsBehindFirst_57 rfl (lv_at hl 2 rfl) ?_
      refine lv_iload_n hx hb qd_O_nextsBehindFirst_58 rfl (lv_at hl 3 rfl) ?_
      refine lv_iload hx hb qd_O_nextsBehindFirst_59 (lv_at hl 1 rfl) ?_
      obtain ⟨g_61, ho⟩ := ho
      refine xc_V (As := [.int p0, .int x4_7]) (rest := [.int (x3_7 ||| r_51)]) ⟨hx, hb, hml, hown, hg⟩ (c_O_nextsBehindSecond l dC dI cA N_ aO aOn aC aCn aCc aCr aCs aG aGh aGi aGc aGo aGr aR aRt vOE vOn vCF vCn vGF vGS vGi vRL vRt p0 x4_7 g_61) (cwV 2 hg (q_gV mw_559 mw_560 mw_767 mw_7 mw_561) rfl rfl rfl qh_O_nextsBehindSecond ⟨Nat.le_of_ble_eq_true rfl, Nat.le_of_ble_eq_true rfl⟩) hN hK hP [0, 1, 2, 3, 4, 5, 6, 7] rfl 0 3 rfl rfl rfl hl.1 rfl (Nat.le_of_ble_eq_true rfl) qd_O_nextsBehindFirst_61 ⟨Nat.zero_le _, Nat.zero_le _⟩ ?_
      refine lv_topi (fun r_61 w_61 => ?_)
      have hres := hres.trans (bd_eq w_61)
      have ho := (bd_eq w_61).mp ho
      refine lv_ior hx hb qd_O_nextsBehindFirst_64 ?_
      refine lv_istore_n (lv' := [(3, .int ((x3_7 ||| r_51) ||| r_61)), (4, .int x4_7), (0, .ref aO), (1, .int p0), (2, .int p1)]) hx hb qd_O_nextsBehindFirst_65 rfl hl (by decide) rfl (fun ls hl => ?_)
      refine lv_iinc (v := x4_7 + 1) (lv' := [(4, .int (x4_7 + 1)), (3, .int ((x3_7 ||| r_51) ||| r_61)), (0, .ref aO), (1, .int p0), (2, .int p1)]) hx hb qd_O_nextsBehindFirst_66 hl (k := 1) rfl (congrArg (fun z => _ + z) (by decide)) (by decide) rfl (fun ls hl => ?_)
      refine lv_goto (tgt := 7) hx hb qd_O_nextsBehindFirst_69 (by decide) ?_
      exact ih ((x3_7 ||| r_51) ||| r_61) (x4_7 + 1) ls (lv_sub hl [0, 1, 2, 3, 4] rfl) hres ho
  refine L_7 _ _ (fun x3_7 x4_7 ls hl hres ho => ?_) _ _ _ ls hl hres ho
  refine lv_iload_n hx hb qd_O_nextsBehindFirst_72 rfl (lv_at hl 1 rfl) ?_
  subst hQ
  exact W.iret (v := x3_7) hx hb hr (fun t ht hW => ⟨_, rfl, hres.symm, ht⟩) (fun _ h => nomatch h) qd_O_nextsBehindFirst_73
theorem qd_O_addTo_0 : decode qc_O_addTo 0 = .ok (.aload_n 0, 1) := by decide +kernel
theorem qd_O_addTo_1 : decode qc_O_addTo 1 = .ok (.iload_n 1, 1) := by decide +kernel
theorem qd_O_addTo_2 : decode qc_O_addTo 2 = .ok (.iload_n 2, 1) := by decide +kernel
theorem qd_O_addTo_3 : decode qc_O_addTo 3 = .ok (.aload_n 0, 1) := by decide +kernel
theorem qd_O_addTo_4 : decode qc_O_addTo 4 = .ok (.iload_n 1, 1) := by decide +kernel
theorem qd_O_addTo_5 : decode qc_O_addTo 5 = .ok (.iload_n 2, 1) := by decide +kernel
theorem qd_O_addTo_6 : decode qc_O_addTo 6 = .ok (.invokevirtual 31, 3) := by decide +kernel
theorem qd_O_addTo_9 : decode qc_O_addTo 9 = .ok (.iload_n 3, 1) := by decide +kernel
theorem qd_O_addTo_10 : decode qc_O_addTo 10 = .ok (.ior, 1) := by decide +kernel
theorem qd_O_addTo_11 : decode qc_O_addTo 11 = .ok (.invokevirtual 35, 3) := by decide +kernel
theorem qd_O_addTo_14 : decode qc_O_addTo 14 = .ok (.return_, 1) := by decide +kernel
set_option maxHeartbeats 4000000 in
set_option maxRecDepth 100000 in
theorem c_O_addTo (l : Launch) (dC : Nat → ClassId) (dI : Nat → Nat → Nat) (cA : ClassId) (aO aOn aC aG : Nat) (sz : Nat) (vOE : Int32) (vOn : (Nat → Int32)) (p0 : Int32) (p1 : Int32) (p2 : Int32) (ho : o_O_addTo vOE vOn p0 p1 p2) : Met l qy_O_addTo qw_O_addTo ({ frames := 2, cells := 0, slots := 0, locals := 46 }) (va_Pc [.ref aO, .int p0, .int p1, .int p2] (fun U => U.heap.size = sz ∧ xP (dC, dI) [(cA, .int)] [(aO, .inr (3, [.ref aG, .ref aC, .ref aOn, .int vOE])), (aOn, .inl (cA, 250, .inl (vOn)))] nestN U ∧ va_D (fun _ => True) [(aO, .inr (3, [.ref aG, .ref aC, .ref aOn, .int vOE])), (aOn, .inl (cA, 250, .inl (vOn)))])) (va_Qv (fun u => u = f_O_addTo vOE vOn p0 p1 p2) (fun (u : (Nat → Int32)) t => xP (dC, dI) [(cA, .int)] [(aO, .inr (3, [.ref aG, .ref aC, .ref aOn, .int vOE])), (aOn, .inl (cA, 250, .inl (u)))] nestN t ∧ va_D (va_A [(aO, .inr (3, [.ref aG, .ref aC, .ref aOn, .int vOE])), (aOn, .inl (cA, 250, .inl (vOn)))] sz) [(aO, .inr (3, [.ref aG, .ref aC, .ref aOn, .int vOE])), (aOn, .inl (cA, 250, .inl (u)))]) (va_A [(aO, .inr (3, [.ref aG, .ref aC, .ref aOn, .int vOE])), (aOn, .inl (cA, 250, .inl (vOn)))] sz)) 0 0 (va_A [(aO, .inr (3, [.ref aG, .ref aC, .ref aOn, .int vOE])), (aOn, .inl (cA, 250, .inl (vOn)))] sz) := by
  refine Met.ofW (cc := qc_O_addTo) (maxL := 4) (ret := (none)) (by decide) rfl ?_
  intro p e s m args below meth c s₁ B hml hv
  obtain ⟨rfl, hsz, ⟨hP, hK, hN⟩, hD0⟩ := hv
  have hx := B.exec
  have hb := B.bytes
  have hr := B.returns
  have hts := atoms_spec (ws := qw_O_addTo) B.pre
  have hg : ∀ w ∈ gG, w.before _ s = true := fun w h => hts w (List.mem_cons_of_mem _ h)
  have hown : s.vm.findClass qR_O = some m.cls := findClass_of_methodNamed B.named
  have hlocks := B.notSynchronized
  subst hsz
  have hD := hD0.self (sz := s.heap.size)
  generalize hAe : va_A [(aO, .inr (3, [.ref aG, .ref aC, .ref aOn, .int vOE])), (aOn, .inl (cA, 250, .inl (vOn)))] s.heap.size = A at hD ⊢
  have hA : ∀ q : Nat, s.heap.size ≤ q → A q := fun q h => by rw [← hAe]; exact Or.inr h
  have hS : va_S A s.heap s.heap [] := va_S.rf
  have hP : va_P (dC, dI) vwCl [(aO, .inr (3, [.ref aG, .ref aC, .ref aOn, .int vOE])), (aOn, .inl (cA, 250, .inl (vOn)))] s.heap := hP
  have hl := lv_entry ([.ref aO, .int p0, .int p1, .int p2]) (n := 4) (Nat.le_of_ble_eq_true rfl)
  rw [lg_entry_eq]
  generalize (lg_sl ([.ref aO, .int p0, .int p1, .int p2]) ++ List.replicate (4 - (lg_sl ([.ref aO, .int p0, .int p1, .int p2])).length) Slot.unset).toArray = ls at hl ⊢
  have hl : lv_has ls 4 [(0, .ref aO), (1, .int p0), (2, .int p1), (3, .int p2)] := hl
  generalize hF : f_O_addTo vOE vOn p0 p1 p2 = Fv
  have hres : Fv = f_O_addTo vOE vOn p0 p1 p2 := hF.symm
  unfold f_O_addTo at hres
  unfold o_O_addTo at ho
  refine lv_aload_n hx hb qd_O_addTo_0 rfl (lv_at hl 0 rfl) ?_
  refine lv_iload_n hx hb qd_O_addTo_1 rfl (lv_at hl 1 rfl) ?_
  refine lv_iload_n hx hb qd_O_addTo_2 rfl (lv_at hl 2 rfl) ?_
  refine lv_aload_n hx hb qd_O_addTo_3 rfl (lv_at hl 0 rfl) ?_
  refine lv_iload_n hx hb qd_O_addTo_4 rfl (lv_at hl 1 rfl) ?_
  refine lv_iload_n hx hb qd_O_addTo_5 rfl (lv_at hl 2 rfl) ?_
  obtain ⟨g_6, ho⟩ := ho
  refine xc_V (As := [.int p0, .int p1]) (rest := [.int p1, .int p0, .ref aO]) ⟨hx, hb, hml, hown, hg⟩ (c_O_itemNexts l dC dI cA aO aOn aC aG vOE vOn p0 p1 g_6) (cwV 2 hg (q_gV mw_556 mw_557 mw_766 mw_7 mw_558) rfl rfl rfl qh_O_itemNexts ⟨Nat.le_of_ble_eq_true rfl, Nat.le_of_ble_eq_true rfl⟩) hN hK hP [0, 1] rfl 0 3 rfl rfl rfl hl.1 rfl (Nat.le_of_ble_eq_true rfl) qd_O_addTo_6 ⟨Nat.zero_le _, Nat.zero_le _⟩ ?_
  refine lv_topi (fun r_6 w_6 => ?_)
  have hres := hres.trans (bd_eq w_6)
  have ho := (bd_eq w_6).mp ho
  refine lv_iload_n hx hb qd_O_addTo_9 rfl (lv_at hl 3 rfl) ?_
  refine lv_ior hx hb qd_O_addTo_10 ?_
  obtain ⟨g_11, ho⟩ := ho
  refine xm_Vv (As := [.int p0, .int p1, .int (r_6 ||| p2)]) (rest := []) (w1 := fun (u_11 : (Nat → Int32)) => [(aO, .inr (3, [.ref aG, .ref aC, .ref aOn, .int vOE])), (aOn, .inl (cA, 250, .inl (u_11)))]) (w2 := fun (u_11 : (Nat → Int32)) => [(aO, .inr (3, [.ref aG, .ref aC, .ref aOn, .int vOE])), (aOn, .inl (cA, 250, .inl (u_11)))]) ⟨hx, hb, hml, hown, hg⟩ (c_O_write l dC dI cA aO aOn aC aG _ vOE vOn p0 p1 (r_6 ||| p2) g_11) (cwV 3 hg (q_gV mw_542 mw_543 mw_764 mw_7 mw_544) rfl rfl rfl qh_O_write ⟨Nat.le_of_ble_eq_true rfl, Nat.le_of_ble_eq_true rfl⟩) hN hK hP hD hS hA [0, 1] [] rfl rfl (by decide) (by decide) (by decide) [0, 1] (fun _ => rfl) (by decide) 0 3 rfl rfl rfl hl.1 rfl (Nat.le_of_ble_eq_true rfl) qd_O_addTo_11 ⟨Nat.zero_le _, Nat.zero_le _⟩ (fun u_11 H locs w_11 hP hD hS => ?_)
  have hP : va_P (dC, dI) vwCl [(aO, .inr (3, [.ref aG, .ref aC, .ref aOn, .int vOE])), (aOn, .inl (cA, 250, .inl (u_11)))] H := hP
  have hD : va_D A [(aO, .inr (3, [.ref aG, .ref aC, .ref aOn, .int vOE])), (aOn, .inl (cA, 250, .inl (u_11)))] := hD
  have hres := hres.trans (bd_eq w_11)
  have ho := (bd_eq w_11).mp ho
  exact W.vret hx hb hr (fun t ht hW => ⟨⟨u_11, rfl, hres.symm, ⟨by rw [ht]; exact hP, va_K.moved hW.alike hK, x_N hN hW⟩, hD⟩, hS.F ht⟩) hS.2.2 qd_O_addTo_14
theorem qd_O_addFirstItems_0 : decode qc_O_addFirstItems 0 = .ok (.iconst 0, 1) := by decide +kernel
theorem qd_O_addFirstItems_1 : decode qc_O_addFirstItems 1 = .ok (.istore_n 2, 1) := by decide +kernel
theorem qd_O_addFirstItems_2 : decode qc_O_addFirstItems 2 = .ok (.iconst 0, 1) := by decide +kernel
theorem qd_O_addFirstItems_3 : decode qc_O_addFirstItems 3 = .ok (.istore_n 3, 1) := by decide +kernel
theorem qd_O_addFirstItems_4 : decode qc_O_addFirstItems 4 = .ok (.iload_n 3, 1) := by decide +kernel
theorem qd_O_addFirstItems_5 : decode qc_O_addFirstItems 5 = .ok (.aload_n 0, 1) := by decide +kernel
theorem qd_O_addFirstItems_6 : decode qc_O_addFirstItems 6 = .ok (.getfield 19, 3) := by decide +kernel
theorem qd_O_addFirstItems_9 : decode qc_O_addFirstItems 9 = .ok (.invokevirtual 39, 3) := by decide +kernel
theorem qd_O_addFirstItems_12 : decode qc_O_addFirstItems 12 = .ok (.if_icmp .ge 74, 3) := by decide +kernel
theorem qd_O_addFirstItems_15 : decode qc_O_addFirstItems 15 = .ok (.aload_n 0, 1) := by decide +kernel
theorem qd_O_addFirstItems_16 : decode qc_O_addFirstItems 16 = .ok (.aload_n 0, 1) := by decide +kernel
theorem qd_O_addFirstItems_17 : decode qc_O_addFirstItems 17 = .ok (.getfield 19, 3) := by decide +kernel
theorem qd_O_addFirstItems_20 : decode qc_O_addFirstItems 20 = .ok (.iload_n 3, 1) := by decide +kernel
theorem qd_O_addFirstItems_21 : decode qc_O_addFirstItems 21 = .ok (.iconst 0, 1) := by decide +kernel
theorem qd_O_addFirstItems_22 : decode qc_O_addFirstItems 22 = .ok (.invokevirtual 62, 3) := by decide +kernel
theorem qd_O_addFirstItems_25 : decode qc_O_addFirstItems 25 = .ok (.iload_n 1, 1) := by decide +kernel
theorem qd_O_addFirstItems_26 : decode qc_O_addFirstItems 26 = .ok (.invokevirtual 31, 3) := by decide +kernel
theorem qd_O_addFirstItems_29 : decode qc_O_addFirstItems 29 = .ok (.istore 4, 2) := by decide +kernel
theorem qd_O_addFirstItems_31 : decode qc_O_addFirstItems 31 = .ok (.iload 4, 2) := by decide +kernel
theorem qd_O_addFirstItems_33 : decode qc_O_addFirstItems 33 = .ok (.aload_n 0, 1) := by decide +kernel
theorem qd_O_addFirstItems_34 : decode qc_O_addFirstItems 34 = .ok (.aload_n 0, 1) := by decide +kernel
theorem qd_O_addFirstItems_35 : decode qc_O_addFirstItems 35 = .ok (.getfield 19, 3) := by decide +kernel
theorem qd_O_addFirstItems_38 : decode qc_O_addFirstItems 38 = .ok (.iload_n 3, 1) := by decide +kernel
theorem qd_O_addFirstItems_39 : decode qc_O_addFirstItems 39 = .ok (.invokevirtual 49, 3) := by decide +kernel
theorem qd_O_addFirstItems_42 : decode qc_O_addFirstItems 42 = .ok (.iload_n 1, 1) := by decide +kernel
theorem qd_O_addFirstItems_43 : decode qc_O_addFirstItems 43 = .ok (.invokevirtual 31, 3) := by decide +kernel
theorem qd_O_addFirstItems_46 : decode qc_O_addFirstItems 46 = .ok (.iconst (-1), 1) := by decide +kernel
theorem qd_O_addFirstItems_47 : decode qc_O_addFirstItems 47 = .ok (.ixor, 1) := by decide +kernel
theorem qd_O_addFirstItems_48 : decode qc_O_addFirstItems 48 = .ok (.iand, 1) := by decide +kernel
theorem qd_O_addFirstItems_49 : decode qc_O_addFirstItems 49 = .ok (.ifCond .eq 31, 3) := by decide +kernel
theorem qd_O_addFirstItems_52 : decode qc_O_addFirstItems 52 = .ok (.aload_n 0, 1) := by decide +kernel
theorem qd_O_addFirstItems_53 : decode qc_O_addFirstItems 53 = .ok (.getfield 19, 3) := by decide +kernel
theorem qd_O_addFirstItems_56 : decode qc_O_addFirstItems 56 = .ok (.iload_n 3, 1) := by decide +kernel
theorem qd_O_addFirstItems_57 : decode qc_O_addFirstItems 57 = .ok (.invokevirtual 45, 3) := by decide +kernel
theorem qd_O_addFirstItems_60 : decode qc_O_addFirstItems 60 = .ok (.ifCond .eq 20, 3) := by decide +kernel
theorem qd_O_addFirstItems_63 : decode qc_O_addFirstItems 63 = .ok (.aload_n 0, 1) := by decide +kernel
theorem qd_O_addFirstItems_64 : decode qc_O_addFirstItems 64 = .ok (.aload_n 0, 1) := by decide +kernel
theorem qd_O_addFirstItems_65 : decode qc_O_addFirstItems 65 = .ok (.getfield 19, 3) := by decide +kernel
theorem qd_O_addFirstItems_68 : decode qc_O_addFirstItems 68 = .ok (.iload_n 3, 1) := by decide +kernel
theorem qd_O_addFirstItems_69 : decode qc_O_addFirstItems 69 = .ok (.invokevirtual 49, 3) := by decide +kernel
theorem qd_O_addFirstItems_72 : decode qc_O_addFirstItems 72 = .ok (.iload_n 1, 1) := by decide +kernel
theorem qd_O_addFirstItems_73 : decode qc_O_addFirstItems 73 = .ok (.iload 4, 2) := by decide +kernel
theorem qd_O_addFirstItems_75 : decode qc_O_addFirstItems 75 = .ok (.invokevirtual 56, 3) := by decide +kernel
theorem qd_O_addFirstItems_78 : decode qc_O_addFirstItems 78 = .ok (.iconst 1, 1) := by decide +kernel
theorem qd_O_addFirstItems_79 : decode qc_O_addFirstItems 79 = .ok (.istore_n 2, 1) := by decide +kernel
theorem qd_O_addFirstItems_80 : decode qc_O_addFirstItems 80 = .ok (.iinc 3 1, 3) := by decide +kernel
theorem qd_O_addFirstItems_83 : decode qc_O_addFirstItems 83 = .ok (.goto (-79), 3) := by decide +kernel
theorem qd_O_addFirstItems_86 : decode qc_O_addFirstItems 86 = .ok (.iload_n 2, 1) := by decide +kernel
theorem qd_O_addFirstItems_87 : decode qc_O_addFirstItems 87 = .ok (.ireturn, 1) := by decide +kernel
set_option maxHeartbeats 4000000 in
set_option maxRecDepth 100000 in
theorem c_O_addFirstItems (l : Launch) (dC : Nat → ClassId) (dI : Nat → Nat → Nat) (cA : ClassId) (N_ : Nat) (aO aOn aC aG aGh aGi aGc aGo aGr : Nat) (sz : Nat) (vOE : Int32) (vOn : (Nat → Int32)) (vGF : Int32) (vGS : Int32) (vGh : (Nat → Int32)) (vGi : (Nat → Int32)) (p0 : Int32) (ho : o_O_addFirstItems N_ vOE vOn vGF vGS vGh vGi p0) : Met l qy_O_addFirstItems qw_O_addFirstItems ({ frames := 3, cells := 0, slots := 0, locals := 69 }) (va_Pc [.ref aO, .int p0] (fun U => U.heap.size = sz ∧ xP (dC, dI) [(cA, .int)] [(aO, .inr (3, [.ref aG, .ref aC, .ref aOn, .int vOE])), (aOn, .inl (cA, 250, .inl (vOn))), (aG, .inr (2, [.ref aGh, .ref aGi, .ref aGc, .ref aGo, .ref aGr, .int vGF, .int vGS])), (aGh, .inl (cA, 24, .inl (vGh))), (aGi, .inl (cA, 72, .inl (vGi)))] nestN U ∧ va_D (fun _ => True) [(aO, .inr (3, [.ref aG, .ref aC, .ref aOn, .int vOE])), (aOn, .inl (cA, 250, .inl (vOn))), (aG, .inr (2, [.ref aGh, .ref aGi, .ref aGc, .ref aGo, .ref aGr, .int vGF, .int vGS])), (aGh, .inl (cA, 24, .inl (vGh))), (aGi, .inl (cA, 72, .inl (vGi)))])) (va_Qi (fun r (u : Int32 × (Nat → Int32)) => u = f_O_addFirstItems N_ vOE vOn vGF vGS vGh vGi p0 ∧ r = u.1) (fun (u : Int32 × (Nat → Int32)) t => xP (dC, dI) [(cA, .int)] [(aO, .inr (3, [.ref aG, .ref aC, .ref aOn, .int vOE])), (aOn, .inl (cA, 250, .inl (u.2))), (aG, .inr (2, [.ref aGh, .ref aGi, .ref aGc, .ref aGo, .ref aGr, .int vGF, .int vGS])), (aGh, .inl (cA, 24, .inl (vGh))), (aGi, .inl (cA, 72, .inl (vGi)))] nestN t ∧ va_D (va_A [(aO, .inr (3, [.ref aG, .ref aC, .ref aOn, .int vOE])), (aOn, .inl (cA, 250, .inl (vOn))), (aG, .inr (2, [.ref aGh, .ref aGi, .ref aGc, .ref aGo, .ref aGr, .int vGF, .int vGS])), (aGh, .inl (cA, 24, .inl (vGh))), (aGi, .inl (cA, 72, .inl (vGi)))] sz) [(aO, .inr (3, [.ref aG, .ref aC, .ref aOn, .int vOE])), (aOn, .inl (cA, 250, .inl (u.2))), (aG, .inr (2, [.ref aGh, .ref aGi, .ref aGc, .ref aGo, .ref aGr, .int vGF, .int vGS])), (aGh, .inl (cA, 24, .inl (vGh))), (aGi, .inl (cA, 72, .inl (vGi)))]) (va_A [(aO, .inr (3, [.ref aG, .ref aC, .ref aOn, .int vOE])), (aOn, .inl (cA, 250, .inl (vOn))), (aG, .inr (2, [.ref aGh, .ref aGi, .ref aGc, .ref aGo, .ref aGr, .int vGF, .int vGS])), (aGh, .inl (cA, 24, .inl (vGh))), (aGi, .inl (cA, 72, .inl (vGi)))] sz)) 0 0 (va_A [(aO, .inr (3, [.ref aG, .ref aC, .ref aOn, .int vOE])), (aOn, .inl (cA, 250, .inl (vOn))), (aG, .inr (2, [.ref aGh, .ref aGi, .ref aGc, .ref aGo, .ref aGr, .int vGF, .int vGS])), (aGh, .inl (cA, 24, .inl (vGh))), (aGi, .inl (cA, 72, .inl (vGi)))] sz) := by
  refine Met.ofW (cc := qc_O_addFirstItems) (maxL := 5) (ret := (some .boolean)) (by decide) rfl ?_
  intro p e s m args below meth c s₁ B hml hv
  obtain ⟨rfl, hsz, ⟨hP, hK, hN⟩, hD0⟩ := hv
  have hx := B.exec
  have hb := B.bytes
  have hr := B.returns
  have hts := atoms_spec (ws := qw_O_addFirstItems) B.pre
  have hg : ∀ w ∈ gG, w.before _ s = true := fun w h => hts w (List.mem_cons_of_mem _ h)
  have hown : s.vm.findClass qR_O = some m.cls := findClass_of_methodNamed B.named
  have hlocks := B.notSynchronized
  subst hsz
  have hD := hD0.self (sz := s.heap.size)
  generalize hAe : va_A [(aO, .inr (3, [.ref aG, .ref aC, .ref aOn, .int vOE])), (aOn, .inl (cA, 250, .inl (vOn))), (aG, .inr (2, [.ref aGh, .ref aGi, .ref aGc, .ref aGo, .ref aGr, .int vGF, .int vGS])), (aGh, .inl (cA, 24, .inl (vGh))), (aGi, .inl (cA, 72, .inl (vGi)))] s.heap.size = A at hD ⊢
  have hA : ∀ q : Nat, s.heap.size ≤ q → A q := fun q h => by rw [← hAe]; exact Or.inr h
  have hS : va_S A s.heap s.heap [] := va_S.rf
  have hP : va_P (dC, dI) vwCl [(aO, .inr (3, [.ref aG, .ref aC, .ref aOn, .int vOE])), (aOn, .inl (cA, 250, .inl (vOn))), (aG, .inr (2, [.ref aGh, .ref aGi, .ref aGc, .ref aGo, .ref aGr, .int vGF, .int vGS])), (aGh, .inl (cA, 24, .inl (vGh))), (aGi, .inl (cA, 72, .inl (vGi)))] s.heap := hP
  have hl := lv_entry ([.ref aO, .int p0]) (n := 5) (Nat.le_of_ble_eq_true rfl)
  rw [lg_entry_eq]
  generalize (lg_sl ([.ref aO, .int p0]) ++ List.replicate (5 - (lg_sl ([.ref aO, .int p0])).length) Slot.unset).toArray = ls at hl ⊢
  have hl : lv_has ls 5 [(0, .ref aO), (1, .int p0)] := hl
  generalize hF : f_O_addFirstItems N_ vOE vOn vGF vGS vGh vGi p0 = Fv
  have hres : Fv = f_O_addFirstItems N_ vOE vOn vGF vGS vGh vGi p0 := hF.symm
  unfold f_O_addFirstItems at hres
  unfold o_O_addFirstItems at ho
  generalize hQ : MQ _ _ _ _ _ _ _ = Qg
  refine lv_iconst (v := 0) hx hb qd_O_addFirstItems_0 (by decide) ?_
  refine lv_istore_n (lv' := [(2, .int 0), (0, .ref aO), (1, .int p0)]) hx hb qd_O_addFirstItems_1 rfl hl (by decide) rfl (fun ls hl => ?_)
  refine lv_iconst (v := 0) hx hb qd_O_addFirstItems_2 (by decide) ?_
  refine lv_istore_n (lv' := [(3, .int 0), (2, .int 0), (0, .ref aO), (1, .int p0)]) hx hb qd_O_addFirstItems_3 rfl hl (by decide) rfl (fun ls hl => ?_)
  have L_4 : ∀ (K_ : Int32 → Int32 → (Nat → Int32) → Int32 × (Nat → Int32)) (Ko_ : Int32 → Int32 → (Nat → Int32) → Prop) (hk : ∀ (x2_4 : Int32) (x3_4 : Int32) (vOn_4 : (Nat → Int32)) (H : Heap) (locs : List Loc) (ls : Array Slot), va_P (dC, dI) vwCl [(aO, .inr (3, [.ref aG, .ref aC, .ref aOn, .int vOE])), (aOn, .inl (cA, 250, .inl (vOn_4))), (aG, .inr (2, [.ref aGh, .ref aGi, .ref aGc, .ref aGo, .ref aGr, .int vGF, .int vGS])), (aGh, .inl (cA, 24, .inl (vGh))), (aGi, .inl (cA, 72, .inl (vGi)))] H → va_D A [(aO, .inr (3, [.ref aG, .ref aC, .ref aOn, .int vOE])), (aOn, .inl (cA, 250, .inl (vOn_4))), (aG, .inr (2, [.ref aGh, .ref aGi, .ref aGc, .ref aGo, .ref aGr, .int vGF, .int vGS])), (aGh, .inl (cA, 24, .inl (vGh))), (aGi, .inl (cA, 72, .inl (vGi)))] → va_S A s.heap H locs → lv_has ls 5 [(3, .int x3_4), (2, .int x2_4), (0, .ref aO), (1, .int p0)] → Fv = K_ x2_4 x3_4 vOn_4 → Ko_ x2_4 x3_4 vOn_4 → W p l e ({ frames := 3, cells := 0, slots := 0, locals := 69 } : Room) s m (([.ref aO, .int p0] : List Value).toArray) below meth c H locs 0 0 Qg (F0 m 86 ls [])) (n : Nat) (x2_4 : Int32) (x3_4 : Int32) (vOn_4 : (Nat → Int32)) (H : Heap) (locs : List Loc) (ls : Array Slot), va_P (dC, dI) vwCl [(aO, .inr (3, [.ref aG, .ref aC, .ref aOn, .int vOE])), (aOn, .inl (cA, 250, .inl (vOn_4))), (aG, .inr (2, [.ref aGh, .ref aGi, .ref aGc, .ref aGo, .ref aGr, .int vGF, .int vGS])), (aGh, .inl (cA, 24, .inl (vGh))), (aGi, .inl (cA, 72, .inl (vGi)))] H → va_D A [(aO, .inr (3, [.ref aG, .ref aC, .ref aOn, .int vOE])), (aOn, .inl (cA, 250, .inl (vOn_4))), (aG, .inr (2, [.ref aGh, .ref aGi, .ref aGc, .ref aGo, .ref aGr, .int vGF, .int vGS])), (aGh, .inl (cA, 24, .inl (vGh))), (aGi, .inl (cA, 72, .inl (vGi)))] → va_S A s.heap H locs → lv_has ls 5 [(3, .int x3_4), (2, .int x2_4), (0, .ref aO), (1, .int p0)] → Fv = l_O_addFirstItems_4 p0 vOE vGF vGS vGh vGi K_ n x2_4 x3_4 vOn_4 → ol_O_addFirstItems_4 p0 vOE vGF vGS vGh vGi Ko_ n x2_4 x3_4 vOn_4 → W p l e ({ frames := 3, cells := 0, slots := 0, locals := 69 } : Room) s m (([.ref aO, .int p0] : List Value).toArray) below meth c H locs 0 0 Qg (F0 m 4 ls []) := by
    intro K_ Ko_ hk n
    induction n with
    | zero => intro x2_4 x3_4 vOn_4 H locs ls hP hD hS hl hres ho; exact ho.elim
    | succ n ih =>
      intro x2_4 x3_4 vOn_4 H locs ls hP hD hS hl hres ho
      rw [l_O_addFirstItems_4, s_O_addFirstItems_4] at hres
      rw [ol_O_addFirstItems_4, os_O_addFirstItems_4] at ho
      refine lv_iload_n hx hb qd_O_addFirstItems_4 rfl (lv_at hl 0 rfl) ?_
      refine lv_aload_n hx hb qd_O_addFirstItems_5 rfl (lv_at hl 2 rfl) ?_
      refine va_get (D := (dC, dI)) (ci := 3) (v := .ref aG) (C := qR_O) (T := qT_O) (N := 4) hx hb hg qi_O hown hK hP 0 rfl rfl 0 (by decide) (hg _ mw_125) (fun _ h9 => h9) rfl qd_O_addFirstItems_6 ?_
      refine xc_V (As := []) (rest := [.int x3_4]) ⟨hx, hb, hml, hown, hg⟩ (c_G_size l dC dI cA aG aGh aGi aGc aGo aGr vGF vGS) (cwV 0 hg (q_gV mw_548 mw_369 mw_370 mw_2 mw_371) rfl rfl rfl qh_G_size ⟨Nat.le_of_ble_eq_true rfl, Nat.le_of_ble_eq_true rfl⟩) hN hK hP [2] rfl 0 2 rfl rfl rfl hl.1 rfl (Nat.le_of_ble_eq_true rfl) qd_O_addFirstItems_9 ⟨Nat.zero_le _, Nat.zero_le _⟩ ?_
      refine lv_icmp_ge (tgt := 86) hx hb qd_O_addFirstItems_12 (by decide) (fun c_12 => ?_) (fun c_12 => ?_)
      · have hres := hres.trans (if_pos c_12)
        have ho := (if_pos c_12).mp ho
        exact hk x2_4 x3_4 vOn_4 H locs ls hP hD hS (lv_sub hl [0, 1, 2, 3] rfl) hres ho
      have hres := hres.trans (if_neg c_12)
      have ho := (if_neg c_12).mp ho
      refine lv_aload_n hx hb qd_O_addFirstItems_15 rfl (lv_at hl 2 rfl) ?_
      refine lv_aload_n hx hb qd_O_addFirstItems_16 rfl (lv_at hl 2 rfl) ?_
      refine va_get (D := (dC, dI)) (ci := 3) (v := .ref aG) (C := qR_O) (T := qT_O) (N := 4) hx hb hg qi_O hown hK hP 0 rfl rfl 0 (by decide) (hg _ mw_125) (fun _ h9 => h9) rfl qd_O_addFirstItems_17 ?_
      refine lv_iload_n hx hb qd_O_addFirstItems_20 rfl (lv_at hl 0 rfl) ?_
      refine lv_iconst (v := 0) hx hb qd_O_addFirstItems_21 (by decide) ?_
      obtain ⟨g_22, ho⟩ := ho
      refine xc_V (As := [.int x3_4, .int 0]) (rest := [.ref aO]) ⟨hx, hb, hml, hown, hg⟩ (c_G_item l dC dI cA aG aGh aGi aGc aGo aGr vGF vGS vGi x3_4 0 g_22) (cwV 2 hg (q_gV mw_554 mw_301 mw_302 mw_2 mw_303) rfl rfl rfl qh_G_item ⟨Nat.le_of_ble_eq_true rfl, Nat.le_of_ble_eq_true rfl⟩) hN hK hP [2, 4] rfl 0 2 rfl rfl rfl hl.1 rfl (Nat.le_of_ble_eq_true rfl) qd_O_addFirstItems_22 ⟨Nat.zero_le _, Nat.zero_le _⟩ ?_
      refine lv_topi (fun r_22 w_22 => ?_)
      have hres := hres.trans (bd_eq w_22)
      have ho := (bd_eq w_22).mp ho
      refine lv_iload_n hx hb qd_O_addFirstItems_25 rfl (lv_at hl 3 rfl) ?_
      obtain ⟨g_26, ho⟩ := ho
      refine xc_V (As := [.int r_22, .int p0]) (rest := []) ⟨hx, hb, hml, hown, hg⟩ (c_O_itemNexts l dC dI cA aO aOn aC aG vOE vOn_4 r_22 p0 g_26) (cwV 2 hg (q_gV mw_556 mw_557 mw_766 mw_7 mw_558) rfl rfl rfl qh_O_itemNexts ⟨Nat.le_of_ble_eq_true rfl, Nat.le_of_ble_eq_true rfl⟩) hN hK hP [0, 1] rfl 0 3 rfl rfl rfl hl.1 rfl (Nat.le_of_ble_eq_true rfl) qd_O_addFirstItems_26 ⟨Nat.zero_le _, Nat.zero_le _⟩ ?_
      refine lv_topi (fun r_26 w_26 => ?_)
      have hres := hres.trans (bd_eq w_26)
      have ho := (bd_eq w_26).mp ho
      refine lv_istore (lv' := [(4, .int r_26), (3, .int x3_4), (2, .int x2_4), (0, .ref aO), (1, .int p0)]) hx hb qd_O_addFirstItems_29 hl (by decide) rfl (fun ls hl => ?_)
      refine lv_iload hx hb qd_O_addFirstItems_31 (lv_at hl 0 rfl) ?_
      refine lv_aload_n hx hb qd_O_addFirstItems_33 rfl (lv_at hl 3 rfl) ?_
      refine lv_aload_n hx hb qd_O_addFirstItems_34 rfl (lv_at hl 3 rfl) ?_
      refine va_get (D := (dC, dI)) (ci := 3) (v := .ref aG) (C := qR_O) (T := qT_O) (N := 4) hx hb hg qi_O hown hK hP 0 rfl rfl 0 (by decide) (hg _ mw_125) (fun _ h9 => h9) rfl qd_O_addFirstItems_35 ?_
      refine lv_iload_n hx hb qd_O_addFirstItems_38 rfl (lv_at hl 1 rfl) ?_
      obtain ⟨g_39, ho⟩ := ho
      refine xc_V (As := [.int x3_4]) (rest := [.ref aO, .int r_26]) ⟨hx, hb, hml, hown, hg⟩ (c_G_head l dC dI cA aG aGh aGi aGc aGo aGr vGF vGS vGh x3_4 g_39) (cwV 1 hg (q_gV mw_550 mw_423 mw_424 mw_2 mw_425) rfl rfl rfl qh_G_head ⟨Nat.le_of_ble_eq_true rfl, Nat.le_of_ble_eq_true rfl⟩) hN hK hP [2, 3] rfl 0 2 rfl rfl rfl hl.1 rfl (Nat.le_of_ble_eq_true rfl) qd_O_addFirstItems_39 ⟨Nat.zero_le _, Nat.zero_le _⟩ ?_
      refine lv_topi (fun r_39 w_39 => ?_)
      have hres := hres.trans (bd_eq w_39)
      have ho := (bd_eq w_39).mp ho
      refine lv_iload_n hx hb qd_O_addFirstItems_42 rfl (lv_at hl 4 rfl) ?_
      obtain ⟨g_43, ho⟩ := ho
      refine xc_V (As := [.int r_39, .int p0]) (rest := [.int r_26]) ⟨hx, hb, hml, hown, hg⟩ (c_O_itemNexts l dC dI cA aO aOn aC aG vOE vOn_4 r_39 p0 g_43) (cwV 2 hg (q_gV mw_556 mw_557 mw_766 mw_7 mw_558) rfl rfl rfl qh_O_itemNexts ⟨Nat.le_of_ble_eq_true rfl, Nat.le_of_ble_eq_true rfl⟩) hN hK hP [0, 1] rfl 0 3 rfl rfl rfl hl.1 rfl (Nat.le_of_ble_eq_true rfl) qd_O_addFirstItems_43 ⟨Nat.zero_le _, Nat.zero_le _⟩ ?_
      refine lv_topi (fun r_43 w_43 => ?_)
      have hres := hres.trans (bd_eq w_43)
      have ho := (bd_eq w_43).mp ho
      refine lv_iconst (v := (-1)) hx hb qd_O_addFirstItems_46 (by decide) ?_
      refine lv_ixor hx hb qd_O_addFirstItems_47 ?_
      refine lv_iand hx hb qd_O_addFirstItems_48 ?_
      refine lv_if_eq (tgt := 80) hx hb qd_O_addFirstItems_49 (by decide) (fun c_49 => ?_) (fun c_49 => ?_)
      · have hres := hres.trans (if_pos c_49)
        have ho := (if_pos c_49).mp ho
        refine lv_iinc (v := x3_4 + 1) (lv' := [(3, .int (x3_4 + 1)), (4, .int r_26), (2, .int x2_4), (0, .ref aO), (1, .int p0)]) hx hb qd_O_addFirstItems_80 hl (k := 1) rfl (congrArg (fun z => _ + z) (by decide)) (by decide) rfl (fun ls hl => ?_)
        refine lv_goto (tgt := 4) hx hb qd_O_addFirstItems_83 (by decide) ?_
        exact ih x2_4 (x3_4 + 1) vOn_4 H locs ls hP hD hS (lv_sub hl [0, 2, 3, 4] rfl) hres ho
      have hres := hres.trans (if_neg c_49)
      have ho := (if_neg c_49).mp ho
      refine lv_aload_n hx hb qd_O_addFirstItems_52 rfl (lv_at hl 3 rfl) ?_
      refine va_get (D := (dC, dI)) (ci := 3) (v := .ref aG) (C := qR_O) (T := qT_O) (N := 4) hx hb hg qi_O hown hK hP 0 rfl rfl 0 (by decide) (hg _ mw_125) (fun _ h9 => h9) rfl qd_O_addFirstItems_53 ?_
      refine lv_iload_n hx hb qd_O_addFirstItems_56 rfl (lv_at hl 1 rfl) ?_
      obtain ⟨g_57, ho⟩ := ho
      refine xc_V (As := [.int x3_4]) (rest := []) ⟨hx, hb, hml, hown, hg⟩ (c_G_isUsable l dC dI cA aG aGh aGi aGc aGo aGr vGF vGS vGi x3_4 g_57) (cwV 1 hg (q_gV mw_549 mw_297 mw_298 mw_2 mw_299) rfl rfl rfl qh_G_isUsable ⟨Nat.le_of_ble_eq_true rfl, Nat.le_of_ble_eq_true rfl⟩) hN hK hP [2, 4] rfl 0 2 rfl rfl rfl hl.1 rfl (Nat.le_of_ble_eq_true rfl) qd_O_addFirstItems_57 ⟨Nat.zero_le _, Nat.zero_le _⟩ ?_
      refine lv_topi (fun r_57 w_57 => ?_)
      have hres := hres.trans (bd_eq w_57)
      have ho := (bd_eq w_57).mp ho
      refine lv_if_eq (tgt := 80) hx hb qd_O_addFirstItems_60 (by decide) (fun c_60 => ?_) (fun c_60 => ?_)
      · have hres := hres.trans (if_pos c_60)
        have ho := (if_pos c_60).mp ho
        refine lv_iinc (v := x3_4 + 1) (lv' := [(3, .int (x3_4 + 1)), (4, .int r_26), (2, .int x2_4), (0, .ref aO), (1, .int p0)]) hx hb qd_O_addFirstItems_80 hl (k := 1) rfl (congrArg (fun z => _ + z) (by decide)) (by decide) rfl (fun ls hl => ?_)
        refine lv_goto (tgt := 4) hx hb qd_O_addFirstItems_83 (by decide) ?_
        exact ih x2_4 (x3_4 + 1) vOn_4 H locs ls hP hD hS (lv_sub hl [0, 2, 3, 4] rfl) hres ho
      have hres := hres.trans (if_neg c_60)
      have ho := (if_neg c_60).mp ho
      refine lv_aload_n hx hb qd_O_addFirstItems_63 rfl (lv_at hl 3 rfl) ?_
      refine lv_aload_n hx hb qd_O_addFirstItems_64 rfl (lv_at hl 3 rfl) ?_
      refine va_get (D := (dC, dI)) (ci := 3) (v := .ref aG) (C := qR_O) (T := qT_O) (N := 4) hx hb hg qi_O hown hK hP 0 rfl rfl 0 (by decide) (hg _ mw_125) (fun _ h9 => h9) rfl qd_O_addFirstItems_65 ?_
      refine lv_iload_n hx hb qd_O_addFirstItems_68 rfl (lv_at hl 1 rfl) ?_
      obtain ⟨g_69, ho⟩ := ho
      refine xc_V (As := [.int x3_4]) (rest := [.ref aO]) ⟨hx, hb, hml, hown, hg⟩ (c_G_head l dC dI cA aG aGh aGi aGc aGo aGr vGF vGS vGh x3_4 g_69) (cwV 1 hg (q_gV mw_550 mw_423 mw_424 mw_2 mw_425) rfl rfl rfl qh_G_head ⟨Nat.le_of_ble_eq_true rfl, Nat.le_of_ble_eq_true rfl⟩) hN hK hP [2, 3] rfl 0 2 rfl rfl rfl hl.1 rfl (Nat.le_of_ble_eq_true rfl) qd_O_addFirstItems_69 ⟨Nat.zero_le _, Nat.zero_le _⟩ ?_
      refine lv_topi (fun r_69 w_69 => ?_)
      have hres := hres.trans (bd_eq w_69)
      have ho := (bd_eq w_69).mp ho
      refine lv_iload_n hx hb qd_O_addFirstItems_72 rfl (lv_at hl 4 rfl) ?_
      refine lv_iload hx hb qd_O_addFirstItems_73 (lv_at hl 0 rfl) ?_
      obtain ⟨g_75, ho⟩ := ho
      refine xm_Vv (As := [.int r_69, .int p0, .int r_26]) (rest := []) (w1 := fun (u_75 : (Nat → Int32)) => [(aO, .inr (3, [.ref aG, .ref aC, .ref aOn, .int vOE])), (aOn, .inl (cA, 250, .inl (u_75)))]) (w2 := fun (u_75 : (Nat → Int32)) => [(aO, .inr (3, [.ref aG, .ref aC, .ref aOn, .int vOE])), (aOn, .inl (cA, 250, .inl (u_75))), (aG, .inr (2, [.ref aGh, .ref aGi, .ref aGc, .ref aGo, .ref aGr, .int vGF, .int vGS])), (aGh, .inl (cA, 24, .inl (vGh))), (aGi, .inl (cA, 72, .inl (vGi)))]) ⟨hx, hb, hml, hown, hg⟩ (c_O_addTo l dC dI cA aO aOn aC aG _ vOE vOn_4 r_69 p0 r_26 g_75) (cwV 3 hg (q_gV mw_562 mw_563 mw_768 mw_7 mw_564) rfl rfl rfl qh_O_addTo ⟨Nat.le_of_ble_eq_true rfl, Nat.le_of_ble_eq_true rfl⟩) hN hK hP hD hS hA [0, 1] [2, 3, 4] rfl rfl (by decide) (by decide) (by decide) [3, 4, 0, 1, 2] (fun _ => rfl) (by decide) 0 3 rfl rfl rfl hl.1 rfl (Nat.le_of_ble_eq_true rfl) qd_O_addFirstItems_75 ⟨Nat.zero_le _, Nat.zero_le _⟩ (fun u_75 H locs w_75 hP hD hS => ?_)
      have hP : va_P (dC, dI) vwCl [(aO, .inr (3, [.ref aG, .ref aC, .ref aOn, .int vOE])), (aOn, .inl (cA, 250, .inl (u_75))), (aG, .inr (2, [.ref aGh, .ref aGi, .ref aGc, .ref aGo, .ref aGr, .int vGF, .int vGS])), (aGh, .inl (cA, 24, .inl (vGh))), (aGi, .inl (cA, 72, .inl (vGi)))] H := hP
      have hD : va_D A [(aO, .inr (3, [.ref aG, .ref aC, .ref aOn, .int vOE])), (aOn, .inl (cA, 250, .inl (u_75))), (aG, .inr (2, [.ref aGh, .ref aGi, .ref aGc, .ref aGo, .ref aGr, .int vGF, .int vGS])), (aGh, .inl (cA, 24, .inl (vGh))), (aGi, .inl (cA, 72, .inl (vGi)))] := hD
      have hres := hres.trans (bd_eq w_75)
      have ho := (bd_eq w_75).mp ho
      refine lv_iconst (v := 1) hx hb qd_O_addFirstItems_78 (by decide) ?_
      refine lv_istore_n (lv' := [(2, .int 1), (4, .int r_26), (3, .int x3_4), (0, .ref aO), (1, .int p0)]) hx hb qd_O_addFirstItems_79 rfl hl (by decide) rfl (fun ls hl => ?_)
      refine lv_iinc (v := x3_4 + 1) (lv' := [(3, .int (x3_4 + 1)), (2, .int 1), (4, .int r_26), (0, .ref aO), (1, .int p0)]) hx hb qd_O_addFirstItems_80 hl (k := 2) rfl (congrArg (fun z => _ + z) (by decide)) (by decide) rfl (fun ls hl => ?_)
      refine lv_goto (tgt := 4) hx hb qd_O_addFirstItems_83 (by decide) ?_
      exact ih 1 (x3_4 + 1) u_75 H locs ls hP hD hS (lv_sub hl [0, 1, 3, 4] rfl) hres ho
  refine L_4 _ _ (fun x2_4 x3_4 vOn_4 H locs ls hP hD hS hl hres ho => ?_) _ _ _ _ _ _ ls hP hD hS hl hres ho
  refine lv_iload_n hx hb qd_O_addFirstItems_86 rfl (lv_at hl 1 rfl) ?_
  subst hQ
  exact W.zret (v := x2_4) (ty := .boolean) hx hb hr (x_nz ho.1) (fun t ht hW => ⟨⟨_, (x2_4, vOn_4), rfl, ⟨hres.symm, rfl⟩, ⟨by rw [ht]; exact hP, va_K.moved hW.alike hK, x_N hN hW⟩, hD⟩, hS.F ht⟩) hS.2.2 qd_O_addFirstItems_87
theorem qd_O_lookFrom_0 : decode qc_O_lookFrom 0 = .ok (.iconst 0, 1) := by decide +kernel
theorem qd_O_lookFrom_1 : decode qc_O_lookFrom 1 = .ok (.istore_n 2, 1) := by decide +kernel
theorem qd_O_lookFrom_2 : decode qc_O_lookFrom 2 = .ok (.iload_n 2, 1) := by decide +kernel
theorem qd_O_lookFrom_3 : decode qc_O_lookFrom 3 = .ok (.bipush 10, 2) := by decide +kernel
theorem qd_O_lookFrom_5 : decode qc_O_lookFrom 5 = .ok (.if_icmp .ge 16, 3) := by decide +kernel
theorem qd_O_lookFrom_8 : decode qc_O_lookFrom 8 = .ok (.aload_n 0, 1) := by decide +kernel
theorem qd_O_lookFrom_9 : decode qc_O_lookFrom 9 = .ok (.iload_n 2, 1) := by decide +kernel
theorem qd_O_lookFrom_10 : decode qc_O_lookFrom 10 = .ok (.iload_n 1, 1) := by decide +kernel
theorem qd_O_lookFrom_11 : decode qc_O_lookFrom 11 = .ok (.iconst 0, 1) := by decide +kernel
theorem qd_O_lookFrom_12 : decode qc_O_lookFrom 12 = .ok (.invokevirtual 35, 3) := by decide +kernel
theorem qd_O_lookFrom_15 : decode qc_O_lookFrom 15 = .ok (.iinc 2 1, 3) := by decide +kernel
theorem qd_O_lookFrom_18 : decode qc_O_lookFrom 18 = .ok (.goto (-16), 3) := by decide +kernel
theorem qd_O_lookFrom_21 : decode qc_O_lookFrom 21 = .ok (.iconst 0, 1) := by decide +kernel
theorem qd_O_lookFrom_22 : decode qc_O_lookFrom 22 = .ok (.istore_n 2, 1) := by decide +kernel
theorem qd_O_lookFrom_23 : decode qc_O_lookFrom 23 = .ok (.iload_n 2, 1) := by decide +kernel
theorem qd_O_lookFrom_24 : decode qc_O_lookFrom 24 = .ok (.aload_n 0, 1) := by decide +kernel
theorem qd_O_lookFrom_25 : decode qc_O_lookFrom 25 = .ok (.getfield 19, 3) := by decide +kernel
theorem qd_O_lookFrom_28 : decode qc_O_lookFrom 28 = .ok (.invokevirtual 39, 3) := by decide +kernel
theorem qd_O_lookFrom_31 : decode qc_O_lookFrom 31 = .ok (.if_icmp .ge 39, 3) := by decide +kernel
theorem qd_O_lookFrom_34 : decode qc_O_lookFrom 34 = .ok (.aload_n 0, 1) := by decide +kernel
theorem qd_O_lookFrom_35 : decode qc_O_lookFrom 35 = .ok (.getfield 19, 3) := by decide +kernel
theorem qd_O_lookFrom_38 : decode qc_O_lookFrom 38 = .ok (.iload_n 2, 1) := by decide +kernel
theorem qd_O_lookFrom_39 : decode qc_O_lookFrom 39 = .ok (.invokevirtual 45, 3) := by decide +kernel
theorem qd_O_lookFrom_42 : decode qc_O_lookFrom 42 = .ok (.ifCond .eq 22, 3) := by decide +kernel
theorem qd_O_lookFrom_45 : decode qc_O_lookFrom 45 = .ok (.aload_n 0, 1) := by decide +kernel
theorem qd_O_lookFrom_46 : decode qc_O_lookFrom 46 = .ok (.aload_n 0, 1) := by decide +kernel
theorem qd_O_lookFrom_47 : decode qc_O_lookFrom 47 = .ok (.getfield 19, 3) := by decide +kernel
theorem qd_O_lookFrom_50 : decode qc_O_lookFrom 50 = .ok (.iload_n 2, 1) := by decide +kernel
theorem qd_O_lookFrom_51 : decode qc_O_lookFrom 51 = .ok (.invokevirtual 49, 3) := by decide +kernel
theorem qd_O_lookFrom_54 : decode qc_O_lookFrom 54 = .ok (.iload_n 1, 1) := by decide +kernel
theorem qd_O_lookFrom_55 : decode qc_O_lookFrom 55 = .ok (.aload_n 0, 1) := by decide +kernel
theorem qd_O_lookFrom_56 : decode qc_O_lookFrom 56 = .ok (.iload_n 2, 1) := by decide +kernel
theorem qd_O_lookFrom_57 : decode qc_O_lookFrom 57 = .ok (.iload_n 1, 1) := by decide +kernel
theorem qd_O_lookFrom_58 : decode qc_O_lookFrom 58 = .ok (.invokevirtual 53, 3) := by decide +kernel
theorem qd_O_lookFrom_61 : decode qc_O_lookFrom 61 = .ok (.invokevirtual 56, 3) := by decide +kernel
theorem qd_O_lookFrom_64 : decode qc_O_lookFrom 64 = .ok (.iinc 2 1, 3) := by decide +kernel
theorem qd_O_lookFrom_67 : decode qc_O_lookFrom 67 = .ok (.goto (-44), 3) := by decide +kernel
theorem qd_O_lookFrom_70 : decode qc_O_lookFrom 70 = .ok (.iconst 1, 1) := by decide +kernel
theorem qd_O_lookFrom_71 : decode qc_O_lookFrom 71 = .ok (.istore_n 2, 1) := by decide +kernel
theorem qd_O_lookFrom_72 : decode qc_O_lookFrom 72 = .ok (.iconst 0, 1) := by decide +kernel
theorem qd_O_lookFrom_73 : decode qc_O_lookFrom 73 = .ok (.istore_n 3, 1) := by decide +kernel
theorem qd_O_lookFrom_74 : decode qc_O_lookFrom 74 = .ok (.iload_n 3, 1) := by decide +kernel
theorem qd_O_lookFrom_75 : decode qc_O_lookFrom 75 = .ok (.bipush 10, 2) := by decide +kernel
theorem qd_O_lookFrom_77 : decode qc_O_lookFrom 77 = .ok (.if_icmp .ge 19, 3) := by decide +kernel
theorem qd_O_lookFrom_80 : decode qc_O_lookFrom 80 = .ok (.iload_n 2, 1) := by decide +kernel
theorem qd_O_lookFrom_81 : decode qc_O_lookFrom 81 = .ok (.ifCond .eq 15, 3) := by decide +kernel
theorem qd_O_lookFrom_84 : decode qc_O_lookFrom 84 = .ok (.aload_n 0, 1) := by decide +kernel
theorem qd_O_lookFrom_85 : decode qc_O_lookFrom 85 = .ok (.iload_n 1, 1) := by decide +kernel
theorem qd_O_lookFrom_86 : decode qc_O_lookFrom 86 = .ok (.invokevirtual 59, 3) := by decide +kernel
theorem qd_O_lookFrom_89 : decode qc_O_lookFrom 89 = .ok (.istore_n 2, 1) := by decide +kernel
theorem qd_O_lookFrom_90 : decode qc_O_lookFrom 90 = .ok (.iinc 3 1, 3) := by decide +kernel
theorem qd_O_lookFrom_93 : decode qc_O_lookFrom 93 = .ok (.goto (-19), 3) := by decide +kernel
theorem qd_O_lookFrom_96 : decode qc_O_lookFrom 96 = .ok (.return_, 1) := by decide +kernel
set_option maxHeartbeats 4000000 in
set_option maxRecDepth 100000 in
theorem c_O_lookFrom (l : Launch) (dC : Nat → ClassId) (dI : Nat → Nat → Nat) (cA : ClassId) (N_ : Nat) (aO aOn aC aCn aCc aCr aCs aG aGh aGi aGc aGo aGr aR aRt : Nat) (sz : Nat) (vOE : Int32) (vOn : (Nat → Int32)) (vCF : Int32) (vCn : (Nat → Int32)) (vGF : Int32) (vGS : Int32) (vGh : (Nat → Int32)) (vGi : (Nat → Int32)) (vRL : Int32) (vRt : (Nat → Int32)) (p0 : Int32) (ho : o_O_lookFrom N_ vOE vOn vCn vGF vGS vGh vGi vRL vRt p0) : Met l qy_O_lookFrom qw_O_lookFrom ({ frames := 4, cells := 0, slots := 0, locals := 94 }) (va_Pc [.ref aO, .int p0] (fun U => U.heap.size = sz ∧ xP (dC, dI) [(cA, .int)] [(aO, .inr (3, [.ref aG, .ref aC, .ref aOn, .int vOE])), (aOn, .inl (cA, 250, .inl (vOn))), (aC, .inr (0, [.ref aG, .ref aR, .ref aCn, .ref aCc, .ref aCr, .ref aCs, .int vCF])), (aCn, .inl (cA, 5760, .inl (vCn))), (aG, .inr (2, [.ref aGh, .ref aGi, .ref aGc, .ref aGo, .ref aGr, .int vGF, .int vGS])), (aGh, .inl (cA, 24, .inl (vGh))), (aGi, .inl (cA, 72, .inl (vGi))), (aR, .inr (4, [.ref aRt, .int vRL])), (aRt, .inl (cA, 24, .inl (vRt)))] nestN U ∧ va_D (fun _ => True) [(aO, .inr (3, [.ref aG, .ref aC, .ref aOn, .int vOE])), (aOn, .inl (cA, 250, .inl (vOn))), (aC, .inr (0, [.ref aG, .ref aR, .ref aCn, .ref aCc, .ref aCr, .ref aCs, .int vCF])), (aCn, .inl (cA, 5760, .inl (vCn))), (aG, .inr (2, [.ref aGh, .ref aGi, .ref aGc, .ref aGo, .ref aGr, .int vGF, .int vGS])), (aGh, .inl (cA, 24, .inl (vGh))), (aGi, .inl (cA, 72, .inl (vGi))), (aR, .inr (4, [.ref aRt, .int vRL])), (aRt, .inl (cA, 24, .inl (vRt)))])) (va_Qv (fun u => u = f_O_lookFrom N_ vOE vOn vCn vGF vGS vGh vGi vRL vRt p0) (fun (u : (Nat → Int32)) t => xP (dC, dI) [(cA, .int)] [(aO, .inr (3, [.ref aG, .ref aC, .ref aOn, .int vOE])), (aOn, .inl (cA, 250, .inl (u))), (aC, .inr (0, [.ref aG, .ref aR, .ref aCn, .ref aCc, .ref aCr, .ref aCs, .int vCF])), (aCn, .inl (cA, 5760, .inl (vCn))), (aG, .inr (2, [.ref aGh, .ref aGi, .ref aGc, .ref aGo, .ref aGr, .int vGF, .int vGS])), (aGh, .inl (cA, 24, .inl (vGh))), (aGi, .inl (cA, 72, .inl (vGi))), (aR, .inr (4, [.ref aRt, .int vRL])), (aRt, .inl (cA, 24, .inl (vRt)))] nestN t ∧ va_D (va_A [(aO, .inr (3, [.ref aG, .ref aC, .ref aOn, .int vOE])), (aOn, .inl (cA, 250, .inl (vOn))), (aC, .inr (0, [.ref aG, .ref aR, .ref aCn, .ref aCc, .ref aCr, .ref aCs, .int vCF])), (aCn, .inl (cA, 5760, .inl (vCn))), (aG, .inr (2, [.ref aGh, .ref aGi, .ref aGc, .ref aGo, .ref aGr, .int vGF, .int vGS])), (aGh, .inl (cA, 24, .inl (vGh))), (aGi, .inl (cA, 72, .inl (vGi))), (aR, .inr (4, [.ref aRt, .int vRL])), (aRt, .inl (cA, 24, .inl (vRt)))] sz) [(aO, .inr (3, [.ref aG, .ref aC, .ref aOn, .int vOE])), (aOn, .inl (cA, 250, .inl (u))), (aC, .inr (0, [.ref aG, .ref aR, .ref aCn, .ref aCc, .ref aCr, .ref aCs, .int vCF])), (aCn, .inl (cA, 5760, .inl (vCn))), (aG, .inr (2, [.ref aGh, .ref aGi, .ref aGc, .ref aGo, .ref aGr, .int vGF, .int vGS])), (aGh, .inl (cA, 24, .inl (vGh))), (aGi, .inl (cA, 72, .inl (vGi))), (aR, .inr (4, [.ref aRt, .int vRL])), (aRt, .inl (cA, 24, .inl (vRt)))]) (va_A [(aO, .inr (3, [.ref aG, .ref aC, .ref aOn, .int vOE])), (aOn, .inl (cA, 250, .inl (vOn))), (aC, .inr (0, [.ref aG, .ref aR, .ref aCn, .ref aCc, .ref aCr, .ref aCs, .int vCF])), (aCn, .inl (cA, 5760, .inl (vCn))), (aG, .inr (2, [.ref aGh, .ref aGi, .ref aGc, .ref aGo, .ref aGr, .int vGF, .int vGS])), (aGh, .inl (cA, 24, .inl (vGh))), (aGi, .inl (cA, 72, .inl (vGi))), (aR, .inr (4, [.ref aRt, .int vRL])), (aRt, .inl (cA, 24, .inl (vRt)))] sz)) 0 0 (va_A [(aO, .inr (3, [.ref aG, .ref aC, .ref aOn, .int vOE])), (aOn, .inl (cA, 250, .inl (vOn))), (aC, .inr (0, [.ref aG, .ref aR, .ref aCn, .ref aCc, .ref aCr, .ref aCs, .int vCF])), (aCn, .inl (cA, 5760, .inl (vCn))), (aG, .inr (2, [.ref aGh, .ref aGi, .ref aGc, .ref aGo, .ref aGr, .int vGF, .int vGS])), (aGh, .inl (cA, 24, .inl (vGh))), (aGi, .inl (cA, 72, .inl (vGi))), (aR, .inr (4, [.ref aRt, .int vRL])), (aRt, .inl (cA, 24, .inl (vRt)))] sz) := by
  refine Met.ofW (cc := qc_O_lookFrom) (maxL := 4) (ret := (none)) (by decide) rfl ?_
  intro p e s m args below meth c s₁ B hml hv
  obtain ⟨rfl, hsz, ⟨hP, hK, hN⟩, hD0⟩ := hv
  have hx := B.exec
  have hb := B.bytes
  have hr := B.returns
  have hts := atoms_spec (ws := qw_O_lookFrom) B.pre
  have hg : ∀ w ∈ gG, w.before _ s = true := fun w h => hts w (List.mem_cons_of_mem _ h)
  have hown : s.vm.findClass qR_O = some m.cls := findClass_of_methodNamed B.named
  have hlocks := B.notSynchronized
  subst hsz
  have hD := hD0.self (sz := s.heap.size)
  generalize hAe : va_A [(aO, .inr (3, [.ref aG, .ref aC, .ref aOn, .int vOE])), (aOn, .inl (cA, 250, .inl (vOn))), (aC, .inr (0, [.ref aG, .ref aR, .ref aCn, .ref aCc, .ref aCr, .ref aCs, .int vCF])), (aCn, .inl (cA, 5760, .inl (vCn))), (aG, .inr (2, [.ref aGh, .ref aGi, .ref aGc, .ref aGo, .ref aGr, .int vGF, .int vGS])), (aGh, .inl (cA, 24, .inl (vGh))), (aGi, .inl (cA, 72, .inl (vGi))), (aR, .inr (4, [.ref aRt, .int vRL])), (aRt, .inl (cA, 24, .inl (vRt)))] s.heap.size = A at hD ⊢
  have hA : ∀ q : Nat, s.heap.size ≤ q → A q := fun q h => by rw [← hAe]; exact Or.inr h
  have hS : va_S A s.heap s.heap [] := va_S.rf
  have hP : va_P (dC, dI) vwCl [(aO, .inr (3, [.ref aG, .ref aC, .ref aOn, .int vOE])), (aOn, .inl (cA, 250, .inl (vOn))), (aC, .inr (0, [.ref aG, .ref aR, .ref aCn, .ref aCc, .ref aCr, .ref aCs, .int vCF])), (aCn, .inl (cA, 5760, .inl (vCn))), (aG, .inr (2, [.ref aGh, .ref aGi, .ref aGc, .ref aGo, .ref aGr, .int vGF, .int vGS])), (aGh, .inl (cA, 24, .inl (vGh))), (aGi, .inl (cA, 72, .inl (vGi))), (aR, .inr (4, [.ref aRt, .int vRL])), (aRt, .inl (cA, 24, .inl (vRt)))] s.heap := hP
  have hl := lv_entry ([.ref aO, .int p0]) (n := 4) (Nat.le_of_ble_eq_true rfl)
  rw [lg_entry_eq]
  generalize (lg_sl ([.ref aO, .int p0]) ++ List.replicate (4 - (lg_sl ([.ref aO, .int p0])).length) Slot.unset).toArray = ls at hl ⊢
  have hl : lv_has ls 4 [(0, .ref aO), (1, .int p0)] := hl
  generalize hF : f_O_lookFrom N_ vOE vOn vCn vGF vGS vGh vGi vRL vRt p0 = Fv
  have hres : Fv = f_O_lookFrom N_ vOE vOn vCn vGF vGS vGh vGi vRL vRt p0 := hF.symm
  unfold f_O_lookFrom at hres
  unfold o_O_lookFrom at ho
  generalize hQ : MQ _ _ _ _ _ _ _ = Qg
  refine lv_iconst (v := 0) hx hb qd_O_lookFrom_0 (by decide) ?_
  refine lv_istore_n (lv' := [(2, .int 0), (0, .ref aO), (1, .int p0)]) hx hb qd_O_lookFrom_1 rfl hl (by decide) rfl (fun ls hl => ?_)
  have L_2 : ∀ (K_ : Int32 → (Nat → Int32) → (Nat → Int32)) (Ko_ : Int32 → (Nat → Int32) → Prop) (hk : ∀ (x2_2 : Int32) (vOn_2 : (Nat → Int32)) (H : Heap) (locs : List Loc) (ls : Array Slot), va_P (dC, dI) vwCl [(aO, .inr (3, [.ref aG, .ref aC, .ref aOn, .int vOE])), (aOn, .inl (cA, 250, .inl (vOn_2))), (aC, .inr (0, [.ref aG, .ref aR, .ref aCn, .ref aCc, .ref aCr, .ref aCs, .int vCF])), (aCn, .inl (cA, 5760, .inl (vCn))), (aG, .inr (2, [.ref aGh, .ref aGi, .ref aGc, .ref aGo, .ref aGr, .int vGF, .int vGS])), (aGh, .inl (cA, 24, .inl (vGh))), (aGi, .inl (cA, 72, .inl (vGi))), (aR, .inr (4, [.ref aRt, .int vRL])), (aRt, .inl (cA, 24, .inl (vRt)))] H → va_D A [(aO, .inr (3, [.ref aG, .ref aC, .ref aOn, .int vOE])), (aOn, .inl (cA, 250, .inl (vOn_2))), (aC, .inr (0, [.ref aG, .ref aR, .ref aCn, .ref aCc, .ref aCr, .ref aCs, .int vCF])), (aCn, .inl (cA, 5760, .inl (vCn))), (aG, .inr (2, [.ref aGh, .ref aGi, .ref aGc, .ref aGo, .ref aGr, .int vGF, .int vGS])), (aGh, .inl (cA, 24, .inl (vGh))), (aGi, .inl (cA, 72, .inl (vGi))), (aR, .inr (4, [.ref aRt, .int vRL])), (aRt, .inl (cA, 24, .inl (vRt)))] → va_S A s.heap H locs → lv_has ls 4 [(2, .int x2_2), (0, .ref aO), (1, .int p0)] → Fv = K_ x2_2 vOn_2 → Ko_ x2_2 vOn_2 → W p l e ({ frames := 4, cells := 0, slots := 0, locals := 94 } : Room) s m (([.ref aO, .int p0] : List Value).toArray) below meth c H locs 0 0 Qg (F0 m 21 ls [])) (n : Nat) (x2_2 : Int32) (vOn_2 : (Nat → Int32)) (H : Heap) (locs : List Loc) (ls : Array Slot), va_P (dC, dI) vwCl [(aO, .inr (3, [.ref aG, .ref aC, .ref aOn, .int vOE])), (aOn, .inl (cA, 250, .inl (vOn_2))), (aC, .inr (0, [.ref aG, .ref aR, .ref aCn, .ref aCc, .ref aCr, .ref aCs, .int vCF])), (aCn, .inl (cA, 5760, .inl (vCn))), (aG, .inr (2, [.ref aGh, .ref aGi, .ref aGc, .ref aGo, .ref aGr, .int vGF, .int vGS])), (aGh, .inl (cA, 24, .inl (vGh))), (aGi, .inl (cA, 72, .inl (vGi))), (aR, .inr (4, [.ref aRt, .int vRL])), (aRt, .inl (cA, 24, .inl (vRt)))] H → va_D A [(aO, .inr (3, [.ref aG, .ref aC, .ref aOn, .int vOE])), (aOn, .inl (cA, 250, .inl (vOn_2))), (aC, .inr (0, [.ref aG, .ref aR, .ref aCn, .ref aCc, .ref aCr, .ref aCs, .int vCF])), (aCn, .inl (cA, 5760, .inl (vCn))), (aG, .inr (2, [.ref aGh, .ref aGi, .ref aGc, .ref aGo, .ref aGr, .int vGF, .int vGS])), (aGh, .inl (cA, 24, .inl (vGh))), (aGi, .inl (cA, 72, .inl (vGi))), (aR, .inr (4, [.ref aRt, .int vRL])), (aRt, .inl (cA, 24, .inl (vRt)))] → va_S A s.heap H locs → lv_has ls 4 [(2, .int x2_2), (0, .ref aO), (1, .int p0)] → Fv = l_O_lookFrom_2 p0 K_ n x2_2 vOn_2 → ol_O_lookFrom_2 p0 Ko_ n x2_2 vOn_2 → W p l e ({ frames := 4, cells := 0, slots := 0, locals := 94 } : Room) s m (([.ref aO, .int p0] : List Value).toArray) below meth c H locs 0 0 Qg (F0 m 2 ls []) := by
    intro K_ Ko_ hk n
    induction n with
    | zero => intro x2_2 vOn_2 H locs ls hP hD hS hl hres ho; exact ho.elim
    | succ n ih =>
      intro x2_2 vOn_2 H locs ls hP hD hS hl hres ho
      rw [l_O_lookFrom_2, s_O_lookFrom_2] at hres
      rw [ol_O_lookFrom_2, os_O_lookFrom_2] at ho
      refine lv_iload_n hx hb qd_O_lookFrom_2 rfl (lv_at hl 0 rfl) ?_
      refine lv_bipush (v := 10) hx hb qd_O_lookFrom_3 (by decide) ?_
      refine lv_icmp_ge (tgt := 21) hx hb qd_O_lookFrom_5 (by decide) (fun c_5 => ?_) (fun c_5 => ?_)
      · have hres := hres.trans (if_pos c_5)
        have ho := (if_pos c_5).mp ho
        exact hk x2_2 vOn_2 H locs ls hP hD hS (lv_sub hl [0, 1, 2] rfl) hres ho
      have hres := hres.trans (if_neg c_5)
      have ho := (if_neg c_5).mp ho
      refine lv_aload_n hx hb qd_O_lookFrom_8 rfl (lv_at hl 1 rfl) ?_
      refine lv_iload_n hx hb qd_O_lookFrom_9 rfl (lv_at hl 0 rfl) ?_
      refine lv_iload_n hx hb qd_O_lookFrom_10 rfl (lv_at hl 2 rfl) ?_
      refine lv_iconst (v := 0) hx hb qd_O_lookFrom_11 (by decide) ?_
      obtain ⟨g_12, ho⟩ := ho
      refine xm_Vv (As := [.int x2_2, .int p0, .int 0]) (rest := []) (w1 := fun (u_12 : (Nat → Int32)) => [(aO, .inr (3, [.ref aG, .ref aC, .ref aOn, .int vOE])), (aOn, .inl (cA, 250, .inl (u_12)))]) (w2 := fun (u_12 : (Nat → Int32)) => [(aO, .inr (3, [.ref aG, .ref aC, .ref aOn, .int vOE])), (aOn, .inl (cA, 250, .inl (u_12))), (aC, .inr (0, [.ref aG, .ref aR, .ref aCn, .ref aCc, .ref aCr, .ref aCs, .int vCF])), (aCn, .inl (cA, 5760, .inl (vCn))), (aG, .inr (2, [.ref aGh, .ref aGi, .ref aGc, .ref aGo, .ref aGr, .int vGF, .int vGS])), (aGh, .inl (cA, 24, .inl (vGh))), (aGi, .inl (cA, 72, .inl (vGi))), (aR, .inr (4, [.ref aRt, .int vRL])), (aRt, .inl (cA, 24, .inl (vRt)))]) ⟨hx, hb, hml, hown, hg⟩ (c_O_write l dC dI cA aO aOn aC aG _ vOE vOn_2 x2_2 p0 0 g_12) (cwV 3 hg (q_gV mw_542 mw_543 mw_764 mw_7 mw_544) rfl rfl rfl qh_O_write ⟨Nat.le_of_ble_eq_true rfl, Nat.le_of_ble_eq_true rfl⟩) hN hK hP hD hS hA [0, 1] [2, 3, 4, 5, 6, 7, 8] rfl rfl (by decide) (by decide) (by decide) [7, 8, 0, 1, 2, 3, 4, 5, 6] (fun _ => rfl) (by decide) 0 3 rfl rfl rfl hl.1 rfl (Nat.le_of_ble_eq_true rfl) qd_O_lookFrom_12 ⟨Nat.zero_le _, Nat.zero_le _⟩ (fun u_12 H locs w_12 hP hD hS => ?_)
      have hP : va_P (dC, dI) vwCl [(aO, .inr (3, [.ref aG, .ref aC, .ref aOn, .int vOE])), (aOn, .inl (cA, 250, .inl (u_12))), (aC, .inr (0, [.ref aG, .ref aR, .ref aCn, .ref aCc, .ref aCr, .ref aCs, .int vCF])), (aCn, .inl (cA, 5760, .inl (vCn))), (aG, .inr (2, [.ref aGh, .ref aGi, .ref aGc, .ref aGo, .ref aGr, .int vGF, .int vGS])), (aGh, .inl (cA, 24, .inl (vGh))), (aGi, .inl (cA, 72, .inl (vGi))), (aR, .inr (4, [.ref aRt, .int vRL])), (aRt, .inl (cA, 24, .inl (vRt)))] H := hP
      have hD : va_D A [(aO, .inr (3, [.ref aG, .ref aC, .ref aOn, .int vOE])), (aOn, .inl (cA, 250, .inl (u_12))), (aC, .inr (0, [.ref aG, .ref aR, .ref aCn, .ref aCc, .ref aCr, .ref aCs, .int vCF])), (aCn, .inl (cA, 5760, .inl (vCn))), (aG, .inr (2, [.ref aGh, .ref aGi, .ref aGc, .ref aGo, .ref aGr, .int vGF, .int vGS])), (aGh, .inl (cA, 24, .inl (vGh))), (aGi, .inl (cA, 72, .inl (vGi))), (aR, .inr (4, [.ref aRt, .int vRL])), (aRt, .inl (cA, 24, .inl (vRt)))] := hD
      have hres := hres.trans (bd_eq w_12)
      have ho := (bd_eq w_12).mp ho
      refine lv_iinc (v := x2_2 + 1) (lv' := [(2, .int (x2_2 + 1)), (0, .ref aO), (1, .int p0)]) hx hb qd_O_lookFrom_15 hl (k := 0) rfl (congrArg (fun z => _ + z) (by decide)) (by decide) rfl (fun ls hl => ?_)
      refine lv_goto (tgt := 2) hx hb qd_O_lookFrom_18 (by decide) ?_
      exact ih (x2_2 + 1) u_12 H locs ls hP hD hS (lv_sub hl [0, 1, 2] rfl) hres ho
  refine L_2 _ _ (fun x2_2 vOn_2 H locs ls hP hD hS hl hres ho => ?_) _ _ _ _ _ ls hP hD hS hl hres ho
  refine lv_iconst (v := 0) hx hb qd_O_lookFrom_21 (by decide) ?_
  refine lv_istore_n (lv' := [(2, .int 0), (0, .ref aO), (1, .int p0)]) hx hb qd_O_lookFrom_22 rfl hl (by decide) rfl (fun ls hl => ?_)
  have L_23 : ∀ (K_ : Int32 → (Nat → Int32) → (Nat → Int32)) (Ko_ : Int32 → (Nat → Int32) → Prop) (hk : ∀ (x2_23 : Int32) (vOn_23 : (Nat → Int32)) (H : Heap) (locs : List Loc) (ls : Array Slot), va_P (dC, dI) vwCl [(aO, .inr (3, [.ref aG, .ref aC, .ref aOn, .int vOE])), (aOn, .inl (cA, 250, .inl (vOn_23))), (aC, .inr (0, [.ref aG, .ref aR, .ref aCn, .ref aCc, .ref aCr, .ref aCs, .int vCF])), (aCn, .inl (cA, 5760, .inl (vCn))), (aG, .inr (2, [.ref aGh, .ref aGi, .ref aGc, .ref aGo, .ref aGr, .int vGF, .int vGS])), (aGh, .inl (cA, 24, .inl (vGh))), (aGi, .inl (cA, 72, .inl (vGi))), (aR, .inr (4, [.ref aRt, .int vRL])), (aRt, .inl (cA, 24, .inl (vRt)))] H → va_D A [(aO, .inr (3, [.ref aG, .ref aC, .ref aOn, .int vOE])), (aOn, .inl (cA, 250, .inl (vOn_23))), (aC, .inr (0, [.ref aG, .ref aR, .ref aCn, .ref aCc, .ref aCr, .ref aCs, .int vCF])), (aCn, .inl (cA, 5760, .inl (vCn))), (aG, .inr (2, [.ref aGh, .ref aGi, .ref aGc, .ref aGo, .ref aGr, .int vGF, .int vGS])), (aGh, .inl (cA, 24, .inl (vGh))), (aGi, .inl (cA, 72, .inl (vGi))), (aR, .inr (4, [.ref aRt, .int vRL])), (aRt, .inl (cA, 24, .inl (vRt)))] → va_S A s.heap H locs → lv_has ls 4 [(2, .int x2_23), (0, .ref aO), (1, .int p0)] → Fv = K_ x2_23 vOn_23 → Ko_ x2_23 vOn_23 → W p l e ({ frames := 4, cells := 0, slots := 0, locals := 94 } : Room) s m (([.ref aO, .int p0] : List Value).toArray) below meth c H locs 0 0 Qg (F0 m 70 ls [])) (n : Nat) (x2_23 : Int32) (vOn_23 : (Nat → Int32)) (H : Heap) (locs : List Loc) (ls : Array Slot), va_P (dC, dI) vwCl [(aO, .inr (3, [.ref aG, .ref aC, .ref aOn, .int vOE])), (aOn, .inl (cA, 250, .inl (vOn_23))), (aC, .inr (0, [.ref aG, .ref aR, .ref aCn, .ref aCc, .ref aCr, .ref aCs, .int vCF])), (aCn, .inl (cA, 5760, .inl (vCn))), (aG, .inr (2, [.ref aGh, .ref aGi, .ref aGc, .ref aGo, .ref aGr, .int vGF, .int vGS])), (aGh, .inl (cA, 24, .inl (vGh))), (aGi, .inl (cA, 72, .inl (vGi))), (aR, .inr (4, [.ref aRt, .int vRL])), (aRt, .inl (cA, 24, .inl (vRt)))] H → va_D A [(aO, .inr (3, [.ref aG, .ref aC, .ref aOn, .int vOE])), (aOn, .inl (cA, 250, .inl (vOn_23))), (aC, .inr (0, [.ref aG, .ref aR, .ref aCn, .ref aCc, .ref aCr, .ref aCs, .int vCF])), (aCn, .inl (cA, 5760, .inl (vCn))), (aG, .inr (2, [.ref aGh, .ref aGi, .ref aGc, .ref aGo, .ref aGr, .int vGF, .int vGS])), (aGh, .inl (cA, 24, .inl (vGh))), (aGi, .inl (cA, 72, .inl (vGi))), (aR, .inr (4, [.ref aRt, .int vRL])), (aRt, .inl (cA, 24, .inl (vRt)))] → va_S A s.heap H locs → lv_has ls 4 [(2, .int x2_23), (0, .ref aO), (1, .int p0)] → Fv = l_O_lookFrom_23 N_ p0 vOE vCn vGF vGS vGh vGi vRL vRt K_ n x2_23 vOn_23 → ol_O_lookFrom_23 N_ p0 vOE vCn vGF vGS vGh vGi vRL vRt Ko_ n x2_23 vOn_23 → W p l e ({ frames := 4, cells := 0, slots := 0, locals := 94 } : Room) s m (([.ref aO, .int p0] : List Value).toArray) below meth c H locs 0 0 Qg (F0 m 23 ls []) := by
    intro K_ Ko_ hk n
    induction n with
    | zero => intro x2_23 vOn_23 H locs ls hP hD hS hl hres ho; exact ho.elim
    | succ n ih =>
      intro x2_23 vOn_23 H locs ls hP hD hS hl hres ho
      rw [l_O_lookFrom_23, s_O_lookFrom_23] at hres
      rw [ol_O_lookFrom_23, os_O_lookFrom_23] at ho
      refine lv_iload_n hx hb qd_O_lookFrom_23 rfl (lv_at hl 0 rfl) ?_
      refine lv_aload_n hx hb qd_O_lookFrom_24 rfl (lv_at hl 1 rfl) ?_
      refine va_get (D := (dC, dI)) (ci := 3) (v := .ref aG) (C := qR_O) (T := qT_O) (N := 4) hx hb hg qi_O hown hK hP 0 rfl rfl 0 (by decide) (hg _ mw_125) (fun _ h9 => h9) rfl qd_O_lookFrom_25 ?_
      refine xc_V (As := []) (rest := [.int x2_23]) ⟨hx, hb, hml, hown, hg⟩ (c_G_size l dC dI cA aG aGh aGi aGc aGo aGr vGF vGS) (cwV 0 hg (q_gV mw_548 mw_369 mw_370 mw_2 mw_371) rfl rfl rfl qh_G_size ⟨Nat.le_of_ble_eq_true rfl, Nat.le_of_ble_eq_true rfl⟩) hN hK hP [4] rfl 0 2 rfl rfl rfl hl.1 rfl (Nat.le_of_ble_eq_true rfl) qd_O_lookFrom_28 ⟨Nat.zero_le _, Nat.zero_le _⟩ ?_
      refine lv_icmp_ge (tgt := 70) hx hb qd_O_lookFrom_31 (by decide) (fun c_31 => ?_) (fun c_31 => ?_)
      · have hres := hres.trans (if_pos c_31)
        have ho := (if_pos c_31).mp ho
        exact hk x2_23 vOn_23 H locs ls hP hD hS (lv_sub hl [0, 1, 2] rfl) hres ho
      have hres := hres.trans (if_neg c_31)
      have ho := (if_neg c_31).mp ho
      refine lv_aload_n hx hb qd_O_lookFrom_34 rfl (lv_at hl 1 rfl) ?_
      refine va_get (D := (dC, dI)) (ci := 3) (v := .ref aG) (C := qR_O) (T := qT_O) (N := 4) hx hb hg qi_O hown hK hP 0 rfl rfl 0 (by decide) (hg _ mw_125) (fun _ h9 => h9) rfl qd_O_lookFrom_35 ?_
      refine lv_iload_n hx hb qd_O_lookFrom_38 rfl (lv_at hl 0 rfl) ?_
      obtain ⟨g_39, ho⟩ := ho
      refine xc_V (As := [.int x2_23]) (rest := []) ⟨hx, hb, hml, hown, hg⟩ (c_G_isUsable l dC dI cA aG aGh aGi aGc aGo aGr vGF vGS vGi x2_23 g_39) (cwV 1 hg (q_gV mw_549 mw_297 mw_298 mw_2 mw_299) rfl rfl rfl qh_G_isUsable ⟨Nat.le_of_ble_eq_true rfl, Nat.le_of_ble_eq_true rfl⟩) hN hK hP [4, 6] rfl 0 2 rfl rfl rfl hl.1 rfl (Nat.le_of_ble_eq_true rfl) qd_O_lookFrom_39 ⟨Nat.zero_le _, Nat.zero_le _⟩ ?_
      refine lv_topi (fun r_39 w_39 => ?_)
      have hres := hres.trans (bd_eq w_39)
      have ho := (bd_eq w_39).mp ho
      refine lv_if_eq (tgt := 64) hx hb qd_O_lookFrom_42 (by decide) (fun c_42 => ?_) (fun c_42 => ?_)
      · have hres := hres.trans (if_pos c_42)
        have ho := (if_pos c_42).mp ho
        refine lv_iinc (v := x2_23 + 1) (lv' := [(2, .int (x2_23 + 1)), (0, .ref aO), (1, .int p0)]) hx hb qd_O_lookFrom_64 hl (k := 0) rfl (congrArg (fun z => _ + z) (by decide)) (by decide) rfl (fun ls hl => ?_)
        refine lv_goto (tgt := 23) hx hb qd_O_lookFrom_67 (by decide) ?_
        exact ih (x2_23 + 1) vOn_23 H locs ls hP hD hS (lv_sub hl [0, 1, 2] rfl) hres ho
      have hres := hres.trans (if_neg c_42)
      have ho := (if_neg c_42).mp ho
      refine lv_aload_n hx hb qd_O_lookFrom_45 rfl (lv_at hl 1 rfl) ?_
      refine lv_aload_n hx hb qd_O_lookFrom_46 rfl (lv_at hl 1 rfl) ?_
      refine va_get (D := (dC, dI)) (ci := 3) (v := .ref aG) (C := qR_O) (T := qT_O) (N := 4) hx hb hg qi_O hown hK hP 0 rfl rfl 0 (by decide) (hg _ mw_125) (fun _ h9 => h9) rfl qd_O_lookFrom_47 ?_
      refine lv_iload_n hx hb qd_O_lookFrom_50 rfl (lv_at hl 0 rfl) ?_
      obtain ⟨g_51, ho⟩ := ho
      refine xc_V (As := [.int x2_23]) (rest := [.ref aO]) ⟨hx, hb, hml, hown, hg⟩ (c_G_head l dC dI cA aG aGh aGi aGc aGo aGr vGF vGS vGh x2_23 g_51) (cwV 1 hg (q_gV mw_550 mw_423 mw_424 mw_2 mw_425) rfl rfl rfl qh_G_head ⟨Nat.le_of_ble_eq_true rfl, Nat.le_of_ble_eq_true rfl⟩) hN hK hP [4, 5] rfl 0 2 rfl rfl rfl hl.1 rfl (Nat.le_of_ble_eq_true rfl) qd_O_lookFrom_51 ⟨Nat.zero_le _, Nat.zero_le _⟩ ?_
      refine lv_topi (fun r_51 w_51 => ?_)
      have hres := hres.trans (bd_eq w_51)
      have ho := (bd_eq w_51).mp ho
      refine lv_iload_n hx hb qd_O_lookFrom_54 rfl (lv_at hl 2 rfl) ?_
      refine lv_aload_n hx hb qd_O_lookFrom_55 rfl (lv_at hl 1 rfl) ?_
      refine lv_iload_n hx hb qd_O_lookFrom_56 rfl (lv_at hl 0 rfl) ?_
      refine lv_iload_n hx hb qd_O_lookFrom_57 rfl (lv_at hl 2 rfl) ?_
      obtain ⟨g_58, ho⟩ := ho
      refine xc_V (As := [.int x2_23, .int p0]) (rest := [.int p0, .int r_51, .ref aO]) ⟨hx, hb, hml, hown, hg⟩ (c_O_nextsBehindFirst l dC dI cA N_ aO aOn aC aCn aCc aCr aCs aG aGh aGi aGc aGo aGr aR aRt vOE vOn_23 vCF vCn vGF vGS vGi vRL vRt x2_23 p0 g_58) (cwV 2 hg (q_gV mw_551 mw_552 mw_765 mw_7 mw_553) rfl rfl rfl qh_O_nextsBehindFirst ⟨Nat.le_of_ble_eq_true rfl, Nat.le_of_ble_eq_true rfl⟩) hN hK hP [0, 1, 2, 3, 4, 6, 7, 8] rfl 0 3 rfl rfl rfl hl.1 rfl (Nat.le_of_ble_eq_true rfl) qd_O_lookFrom_58 ⟨Nat.zero_le _, Nat.zero_le _⟩ ?_
      refine lv_topi (fun r_58 w_58 => ?_)
      have hres := hres.trans (bd_eq w_58)
      have ho := (bd_eq w_58).mp ho
      obtain ⟨g_61, ho⟩ := ho
      refine xm_Vv (As := [.int r_51, .int p0, .int r_58]) (rest := []) (w1 := fun (u_61 : (Nat → Int32)) => [(aO, .inr (3, [.ref aG, .ref aC, .ref aOn, .int vOE])), (aOn, .inl (cA, 250, .inl (u_61)))]) (w2 := fun (u_61 : (Nat → Int32)) => [(aO, .inr (3, [.ref aG, .ref aC, .ref aOn, .int vOE])), (aOn, .inl (cA, 250, .inl (u_61))), (aC, .inr (0, [.ref aG, .ref aR, .ref aCn, .ref aCc, .ref aCr, .ref aCs, .int vCF])), (aCn, .inl (cA, 5760, .inl (vCn))), (aG, .inr (2, [.ref aGh, .ref aGi, .ref aGc, .ref aGo, .ref aGr, .int vGF, .int vGS])), (aGh, .inl (cA, 24, .inl (vGh))), (aGi, .inl (cA, 72, .inl (vGi))), (aR, .inr (4, [.ref aRt, .int vRL])), (aRt, .inl (cA, 24, .inl (vRt)))]) ⟨hx, hb, hml, hown, hg⟩ (c_O_addTo l dC dI cA aO aOn aC aG _ vOE vOn_23 r_51 p0 r_58 g_61) (cwV 3 hg (q_gV mw_562 mw_563 mw_768 mw_7 mw_564) rfl rfl rfl qh_O_addTo ⟨Nat.le_of_ble_eq_true rfl, Nat.le_of_ble_eq_true rfl⟩) hN hK hP hD hS hA [0, 1] [2, 3, 4, 5, 6, 7, 8] rfl rfl (by decide) (by decide) (by decide) [7, 8, 0, 1, 2, 3, 4, 5, 6] (fun _ => rfl) (by decide) 0 3 rfl rfl rfl hl.1 rfl (Nat.le_of_ble_eq_true rfl) qd_O_lookFrom_61 ⟨Nat.zero_le _, Nat.zero_le _⟩ (fun u_61 H locs w_61 hP hD hS => ?_)
      have hP : va_P (dC, dI) vwCl [(aO, .inr (3, [.ref aG, .ref aC, .ref aOn, .int vOE])), (aOn, .inl (cA, 250, .inl (u_61))), (aC, .inr (0, [.ref aG, .ref aR, .ref aCn, .ref aCc, .ref aCr, .ref aCs, .int vCF])), (aCn, .inl (cA, 5760, .inl (vCn))), (aG, .inr (2, [.ref aGh, .ref aGi, .ref aGc, .ref aGo, .ref aGr, .int vGF, .int vGS])), (aGh, .inl (cA, 24, .inl (vGh))), (aGi, .inl (cA, 72, .inl (vGi))), (aR, .inr (4, [.ref aRt, .int vRL])), (aRt, .inl (cA, 24, .inl (vRt)))] H := hP
      have hD : va_D A [(aO, .inr (3, [.ref aG, .ref aC, .ref aOn, .int vOE])), (aOn, .inl (cA, 250, .inl (u_61))), (aC, .inr (0, [.ref aG, .ref aR, .ref aCn, .ref aCc, .ref aCr, .ref aCs, .int vCF])), (aCn, .inl (cA, 5760, .inl (vCn))), (aG, .inr (2, [.ref aGh, .ref aGi, .ref aGc, .ref aGo, .ref aGr, .int vGF, .int vGS])), (aGh, .inl (cA, 24, .inl (vGh))), (aGi, .inl (cA, 72, .inl (vGi))), (aR, .inr (4, [.ref aRt, .int vRL])), (aRt, .inl (cA, 24, .inl (vRt)))] := hD
      have hres := hres.trans (bd_eq w_61)
      have ho := (bd_eq w_61).mp ho
      refine lv_iinc (v := x2_23 + 1) (lv' := [(2, .int (x2_23 + 1)), (0, .ref aO), (1, .int p0)]) hx hb qd_O_lookFrom_64 hl (k := 0) rfl (congrArg (fun z => _ + z) (by decide)) (by decide) rfl (fun ls hl => ?_)
      refine lv_goto (tgt := 23) hx hb qd_O_lookFrom_67 (by decide) ?_
      exact ih (x2_23 + 1) u_61 H locs ls hP hD hS (lv_sub hl [0, 1, 2] rfl) hres ho
  refine L_23 _ _ (fun x2_23 vOn_23 H locs ls hP hD hS hl hres ho => ?_) _ _ _ _ _ ls hP hD hS hl hres ho
  refine lv_iconst (v := 1) hx hb qd_O_lookFrom_70 (by decide) ?_
  refine lv_istore_n (lv' := [(2, .int 1), (0, .ref aO), (1, .int p0)]) hx hb qd_O_lookFrom_71 rfl hl (by decide) rfl (fun ls hl => ?_)
  refine lv_iconst (v := 0) hx hb qd_O_lookFrom_72 (by decide) ?_
  refine lv_istore_n (lv' := [(3, .int 0), (2, .int 1), (0, .ref aO), (1, .int p0)]) hx hb qd_O_lookFrom_73 rfl hl (by decide) rfl (fun ls hl => ?_)
  have L_74 : ∀ (K_ : Int32 → Int32 → (Nat → Int32) → (Nat → Int32)) (Ko_ : Int32 → Int32 → (Nat → Int32) → Prop) (hk : ∀ (x2_74 : Int32) (x3_74 : Int32) (vOn_74 : (Nat → Int32)) (H : Heap) (locs : List Loc) (ls : Array Slot), va_P (dC, dI) vwCl [(aO, .inr (3, [.ref aG, .ref aC, .ref aOn, .int vOE])), (aOn, .inl (cA, 250, .inl (vOn_74))), (aC, .inr (0, [.ref aG, .ref aR, .ref aCn, .ref aCc, .ref aCr, .ref aCs, .int vCF])), (aCn, .inl (cA, 5760, .inl (vCn))), (aG, .inr (2, [.ref aGh, .ref aGi, .ref aGc, .ref aGo, .ref aGr, .int vGF, .int vGS])), (aGh, .inl (cA, 24, .inl (vGh))), (aGi, .inl (cA, 72, .inl (vGi))), (aR, .inr (4, [.ref aRt, .int vRL])), (aRt, .inl (cA, 24, .inl (vRt)))] H → va_D A [(aO, .inr (3, [.ref aG, .ref aC, .ref aOn, .int vOE])), (aOn, .inl (cA, 250, .inl (vOn_74))), (aC, .inr (0, [.ref aG, .ref aR, .ref aCn, .ref aCc, .ref aCr, .ref aCs, .int vCF])), (aCn, .inl (cA, 5760, .inl (vCn))), (aG, .inr (2, [.ref aGh, .ref aGi, .ref aGc, .ref aGo, .ref aGr, .int vGF, .int vGS])), (aGh, .inl (cA, 24, .inl (vGh))), (aGi, .inl (cA, 72, .inl (vGi))), (aR, .inr (4, [.ref aRt, .int vRL])), (aRt, .inl (cA, 24, .inl (vRt)))] → va_S A s.heap H locs → lv_has ls 4 [(3, .int x3_74), (2, .int x2_74), (0, .ref aO), (1, .int p0)] → Fv = K_ x2_74 x3_74 vOn_74 → Ko_ x2_74 x3_74 vOn_74 → W p l e ({ frames := 4, cells := 0, slots := 0, locals := 94 } : Room) s m (([.ref aO, .int p0] : List Value).toArray) below meth c H locs 0 0 Qg (F0 m 96 ls [])) (n : Nat) (x2_74 : Int32) (x3_74 : Int32) (vOn_74 : (Nat → Int32)) (H : Heap) (locs : List Loc) (ls : Array Slot), va_P (dC, dI) vwCl [(aO, .inr (3, [.ref aG, .ref aC, .ref aOn, .int vOE])), (aOn, .inl (cA, 250, .inl (vOn_74))), (aC, .inr (0, [.ref aG, .ref aR, .ref aCn, .ref aCc, .ref aCr, .ref aCs, .int vCF])), (aCn, .inl (cA, 5760, .inl (vCn))), (aG, .inr (2, [.ref aGh, .ref aGi, .ref aGc, .ref aGo, .ref aGr, .int vGF, .int vGS])), (aGh, .inl (cA, 24, .inl (vGh))), (aGi, .inl (cA, 72, .inl (vGi))), (aR, .inr (4, [.ref aRt, .int vRL])), (aRt, .inl (cA, 24, .inl (vRt)))] H → va_D A [(aO, .inr (3, [.ref aG, .ref aC, .ref aOn, .int vOE])), (aOn, .inl (cA, 250, .inl (vOn_74))), (aC, .inr (0, [.ref aG, .ref aR, .ref aCn, .ref aCc, .ref aCr, .ref aCs, .int vCF])), (aCn, .inl (cA, 5760, .inl (vCn))), (aG, .inr (2, [.ref aGh, .ref aGi, .ref aGc, .ref aGo, .ref aGr, .int vGF, .int vGS])), (aGh, .inl (cA, 24, .inl (vGh))), (aGi, .inl (cA, 72, .inl (vGi))), (aR, .inr (4, [.ref aRt, .int vRL])), (aRt, .inl (cA, 24, .inl (vRt)))] → va_S A s.heap H locs → lv_has ls 4 [(3, .int x3_74), (2, .int x2_74), (0, .ref aO), (1, .int p0)] → Fv = l_O_lookFrom_74 N_ p0 vOE vGF vGS vGh vGi K_ n x2_74 x3_74 vOn_74 → ol_O_lookFrom_74 N_ p0 vOE vGF vGS vGh vGi Ko_ n x2_74 x3_74 vOn_74 → W p l e ({ frames := 4, cells := 0, slots := 0, locals := 94 } : Room) s m (([.ref aO, .int p0] : List Value).toArray) below meth c H locs 0 0 Qg (F0 m 74 ls []) := by
    intro K_ Ko_ hk n
    induction n with
    | zero => intro x2_74 x3_74 vOn_74 H locs ls hP hD hS hl hres ho; exact ho.elim
    | succ n ih =>
      intro x2_74 x3_74 vOn_74 H locs ls hP hD hS hl hres ho
      rw [l_O_lookFrom_74, s_O_lookFrom_74] at hres
      rw [ol_O_lookFrom_74, os_O_lookFrom_74] at ho
      refine lv_iload_n hx hb qd_O_lookFrom_74 rfl (lv_at hl 0 rfl) ?_
      refine lv_bipush (v := 10) hx hb qd_O_lookFrom_75 (by decide) ?_
      refine lv_icmp_ge (tgt := 96) hx hb qd_O_lookFrom_77 (by decide) (fun c_77 => ?_) (fun c_77 => ?_)
      · have hres := hres.trans (if_pos c_77)
        have ho := (if_pos c_77).mp ho
        exact hk x2_74 x3_74 vOn_74 H locs ls hP hD hS (lv_sub hl [0, 1, 2, 3] rfl) hres ho
      have hres := hres.trans (if_neg c_77)
      have ho := (if_neg c_77).mp ho
      refine lv_iload_n hx hb qd_O_lookFrom_80 rfl (lv_at hl 1 rfl) ?_
      refine lv_if_eq (tgt := 96) hx hb qd_O_lookFrom_81 (by decide) (fun c_81 => ?_) (fun c_81 => ?_)
      · have hres := hres.trans (if_pos c_81)
        have ho := (if_pos c_81).mp ho
        exact hk x2_74 x3_74 vOn_74 H locs ls hP hD hS (lv_sub hl [0, 1, 2, 3] rfl) hres ho
      have hres := hres.trans (if_neg c_81)
      have ho := (if_neg c_81).mp ho
      refine lv_aload_n hx hb qd_O_lookFrom_84 rfl (lv_at hl 2 rfl) ?_
      refine lv_iload_n hx hb qd_O_lookFrom_85 rfl (lv_at hl 3 rfl) ?_
      obtain ⟨g_86, ho⟩ := ho
      refine xm_Vi (As := [.int p0]) (rest := []) (w1 := fun (u_86 : Int32 × (Nat → Int32)) => [(aO, .inr (3, [.ref aG, .ref aC, .ref aOn, .int vOE])), (aOn, .inl (cA, 250, .inl (u_86.2))), (aG, .inr (2, [.ref aGh, .ref aGi, .ref aGc, .ref aGo, .ref aGr, .int vGF, .int vGS])), (aGh, .inl (cA, 24, .inl (vGh))), (aGi, .inl (cA, 72, .inl (vGi)))]) (w2 := fun (u_86 : Int32 × (Nat → Int32)) => [(aO, .inr (3, [.ref aG, .ref aC, .ref aOn, .int vOE])), (aOn, .inl (cA, 250, .inl (u_86.2))), (aC, .inr (0, [.ref aG, .ref aR, .ref aCn, .ref aCc, .ref aCr, .ref aCs, .int vCF])), (aCn, .inl (cA, 5760, .inl (vCn))), (aG, .inr (2, [.ref aGh, .ref aGi, .ref aGc, .ref aGo, .ref aGr, .int vGF, .int vGS])), (aGh, .inl (cA, 24, .inl (vGh))), (aGi, .inl (cA, 72, .inl (vGi))), (aR, .inr (4, [.ref aRt, .int vRL])), (aRt, .inl (cA, 24, .inl (vRt)))]) ⟨hx, hb, hml, hown, hg⟩ (c_O_addFirstItems l dC dI cA N_ aO aOn aC aG aGh aGi aGc aGo aGr _ vOE vOn_74 vGF vGS vGh vGi p0 g_86) (cwV 1 hg (q_gV mw_565 mw_566 mw_769 mw_7 mw_567) rfl rfl rfl qh_O_addFirstItems ⟨Nat.le_of_ble_eq_true rfl, Nat.le_of_ble_eq_true rfl⟩) hN hK hP hD hS hA [0, 1, 4, 5, 6] [2, 3, 7, 8] rfl rfl (by decide) (by decide) (by decide) [4, 5, 0, 1, 6, 7, 8, 2, 3] (fun _ => rfl) (by decide) 0 3 rfl rfl rfl hl.1 rfl (Nat.le_of_ble_eq_true rfl) qd_O_lookFrom_86 ⟨Nat.zero_le _, Nat.zero_le _⟩ (fun u_86 H locs w_86 hP hD hS => ?_)
      have hP : va_P (dC, dI) vwCl [(aO, .inr (3, [.ref aG, .ref aC, .ref aOn, .int vOE])), (aOn, .inl (cA, 250, .inl (u_86.2))), (aC, .inr (0, [.ref aG, .ref aR, .ref aCn, .ref aCc, .ref aCr, .ref aCs, .int vCF])), (aCn, .inl (cA, 5760, .inl (vCn))), (aG, .inr (2, [.ref aGh, .ref aGi, .ref aGc, .ref aGo, .ref aGr, .int vGF, .int vGS])), (aGh, .inl (cA, 24, .inl (vGh))), (aGi, .inl (cA, 72, .inl (vGi))), (aR, .inr (4, [.ref aRt, .int vRL])), (aRt, .inl (cA, 24, .inl (vRt)))] H := hP
      have hD : va_D A [(aO, .inr (3, [.ref aG, .ref aC, .ref aOn, .int vOE])), (aOn, .inl (cA, 250, .inl (u_86.2))), (aC, .inr (0, [.ref aG, .ref aR, .ref aCn, .ref aCc, .ref aCr, .ref aCs, .int vCF])), (aCn, .inl (cA, 5760, .inl (vCn))), (aG, .inr (2, [.ref aGh, .ref aGi, .ref aGc, .ref aGo, .ref aGr, .int vGF, .int vGS])), (aGh, .inl (cA, 24, .inl (vGh))), (aGi, .inl (cA, 72, .inl (vGi))), (aR, .inr (4, [.ref aRt, .int vRL])), (aRt, .inl (cA, 24, .inl (vRt)))] := hD
      have hres := hres.trans (bd_eq w_86)
      have ho := (bd_eq w_86).mp ho
      refine lv_istore_n (lv' := [(2, .int u_86.1), (3, .int x3_74), (0, .ref aO), (1, .int p0)]) hx hb qd_O_lookFrom_89 rfl hl (by decide) rfl (fun ls hl => ?_)
      refine lv_iinc (v := x3_74 + 1) (lv' := [(3, .int (x3_74 + 1)), (2, .int u_86.1), (0, .ref aO), (1, .int p0)]) hx hb qd_O_lookFrom_90 hl (k := 1) rfl (congrArg (fun z => _ + z) (by decide)) (by decide) rfl (fun ls hl => ?_)
      refine lv_goto (tgt := 74) hx hb qd_O_lookFrom_93 (by decide) ?_
      exact ih u_86.1 (x3_74 + 1) u_86.2 H locs ls hP hD hS (lv_sub hl [0, 1, 2, 3] rfl) hres ho
  refine L_74 _ _ (fun x2_74 x3_74 vOn_74 H locs ls hP hD hS hl hres ho => ?_) _ _ _ _ _ _ ls hP hD hS hl hres ho
  subst hQ
  exact W.vret hx hb hr (fun t ht hW => ⟨⟨vOn_74, rfl, hres.symm, ⟨by rw [ht]; exact hP, va_K.moved hW.alike hK, x_N hN hW⟩, hD⟩, hS.F ht⟩) hS.2.2 qd_O_lookFrom_96
theorem qd_O_tokensBehind_0 : decode qc_O_tokensBehind 0 = .ok (.aload_n 0, 1) := by decide +kernel
theorem qd_O_tokensBehind_1 : decode qc_O_tokensBehind 1 = .ok (.iload_n 1, 1) := by decide +kernel
theorem qd_O_tokensBehind_2 : decode qc_O_tokensBehind 2 = .ok (.putfield 15, 3) := by decide +kernel
theorem qd_O_tokensBehind_5 : decode qc_O_tokensBehind 5 = .ok (.iload_n 1, 1) := by decide +kernel
theorem qd_O_tokensBehind_6 : decode qc_O_tokensBehind 6 = .ok (.istore_n 2, 1) := by decide +kernel
theorem qd_O_tokensBehind_7 : decode qc_O_tokensBehind 7 = .ok (.iload_n 2, 1) := by decide +kernel
theorem qd_O_tokensBehind_8 : decode qc_O_tokensBehind 8 = .ok (.ifCond .lt 14, 3) := by decide +kernel
theorem qd_O_tokensBehind_11 : decode qc_O_tokensBehind 11 = .ok (.aload_n 0, 1) := by decide +kernel
theorem qd_O_tokensBehind_12 : decode qc_O_tokensBehind 12 = .ok (.iload_n 2, 1) := by decide +kernel
theorem qd_O_tokensBehind_13 : decode qc_O_tokensBehind 13 = .ok (.invokevirtual 27, 3) := by decide +kernel
theorem qd_O_tokensBehind_16 : decode qc_O_tokensBehind 16 = .ok (.iinc 2 (-1), 3) := by decide +kernel
theorem qd_O_tokensBehind_19 : decode qc_O_tokensBehind 19 = .ok (.goto (-12), 3) := by decide +kernel
theorem qd_O_tokensBehind_22 : decode qc_O_tokensBehind 22 = .ok (.aload_n 0, 1) := by decide +kernel
theorem qd_O_tokensBehind_23 : decode qc_O_tokensBehind 23 = .ok (.iconst 0, 1) := by decide +kernel
theorem qd_O_tokensBehind_24 : decode qc_O_tokensBehind 24 = .ok (.iconst 0, 1) := by decide +kernel
theorem qd_O_tokensBehind_25 : decode qc_O_tokensBehind 25 = .ok (.invokevirtual 31, 3) := by decide +kernel
theorem qd_O_tokensBehind_28 : decode qc_O_tokensBehind 28 = .ok (.ireturn, 1) := by decide +kernel
set_option maxHeartbeats 4000000 in
set_option maxRecDepth 100000 in
theorem c_O_tokensBehind (l : Launch) (dC : Nat → ClassId) (dI : Nat → Nat → Nat) (cA : ClassId) (N_ : Nat) (aO aOn aC aCn aCc aCr aCs aG aGh aGi aGc aGo aGr aR aRt : Nat) (sz : Nat) (vOE : Int32) (vOn : (Nat → Int32)) (vCF : Int32) (vCn : (Nat → Int32)) (vGF : Int32) (vGS : Int32) (vGh : (Nat → Int32)) (vGi : (Nat → Int32)) (vRL : Int32) (vRt : (Nat → Int32)) (p0 : Int32) (ho : o_O_tokensBehind N_ vOE vOn vCn vGF vGS vGh vGi vRL vRt p0) : Met l qy_O_tokensBehind qw_O_tokensBehind ({ frames := 5, cells := 0, slots := 0, locals := 117 }) (va_Pc [.ref aO, .int p0] (fun U => U.heap.size = sz ∧ xP (dC, dI) [(cA, .int)] [(aO, .inr (3, [.ref aG, .ref aC, .ref aOn, .int vOE])), (aOn, .inl (cA, 250, .inl (vOn))), (aC, .inr (0, [.ref aG, .ref aR, .ref aCn, .ref aCc, .ref aCr, .ref aCs, .int vCF])), (aCn, .inl (cA, 5760, .inl (vCn))), (aG, .inr (2, [.ref aGh, .ref aGi, .ref aGc, .ref aGo, .ref aGr, .int vGF, .int vGS])), (aGh, .inl (cA, 24, .inl (vGh))), (aGi, .inl (cA, 72, .inl (vGi))), (aR, .inr (4, [.ref aRt, .int vRL])), (aRt, .inl (cA, 24, .inl (vRt)))] nestN U ∧ va_D (fun _ => True) [(aO, .inr (3, [.ref aG, .ref aC, .ref aOn, .int vOE])), (aOn, .inl (cA, 250, .inl (vOn))), (aC, .inr (0, [.ref aG, .ref aR, .ref aCn, .ref aCc, .ref aCr, .ref aCs, .int vCF])), (aCn, .inl (cA, 5760, .inl (vCn))), (aG, .inr (2, [.ref aGh, .ref aGi, .ref aGc, .ref aGo, .ref aGr, .int vGF, .int vGS])), (aGh, .inl (cA, 24, .inl (vGh))), (aGi, .inl (cA, 72, .inl (vGi))), (aR, .inr (4, [.ref aRt, .int vRL])), (aRt, .inl (cA, 24, .inl (vRt)))])) (va_Qi (fun r (u : Int32 × Int32 × (Nat → Int32)) => u = f_O_tokensBehind N_ vOE vOn vCn vGF vGS vGh vGi vRL vRt p0 ∧ r = u.1) (fun (u : Int32 × Int32 × (Nat → Int32)) t => xP (dC, dI) [(cA, .int)] [(aO, .inr (3, [.ref aG, .ref aC, .ref aOn, .int u.2.1])), (aOn, .inl (cA, 250, .inl (u.2.2))), (aC, .inr (0, [.ref aG, .ref aR, .ref aCn, .ref aCc, .ref aCr, .ref aCs, .int vCF])), (aCn, .inl (cA, 5760, .inl (vCn))), (aG, .inr (2, [.ref aGh, .ref aGi, .ref aGc, .ref aGo, .ref aGr, .int vGF, .int vGS])), (aGh, .inl (cA, 24, .inl (vGh))), (aGi, .inl (cA, 72, .inl (vGi))), (aR, .inr (4, [.ref aRt, .int vRL])), (aRt, .inl (cA, 24, .inl (vRt)))] nestN t ∧ va_D (va_A [(aO, .inr (3, [.ref aG, .ref aC, .ref aOn, .int vOE])), (aOn, .inl (cA, 250, .inl (vOn))), (aC, .inr (0, [.ref aG, .ref aR, .ref aCn, .ref aCc, .ref aCr, .ref aCs, .int vCF])), (aCn, .inl (cA, 5760, .inl (vCn))), (aG, .inr (2, [.ref aGh, .ref aGi, .ref aGc, .ref aGo, .ref aGr, .int vGF, .int vGS])), (aGh, .inl (cA, 24, .inl (vGh))), (aGi, .inl (cA, 72, .inl (vGi))), (aR, .inr (4, [.ref aRt, .int vRL])), (aRt, .inl (cA, 24, .inl (vRt)))] sz) [(aO, .inr (3, [.ref aG, .ref aC, .ref aOn, .int u.2.1])), (aOn, .inl (cA, 250, .inl (u.2.2))), (aC, .inr (0, [.ref aG, .ref aR, .ref aCn, .ref aCc, .ref aCr, .ref aCs, .int vCF])), (aCn, .inl (cA, 5760, .inl (vCn))), (aG, .inr (2, [.ref aGh, .ref aGi, .ref aGc, .ref aGo, .ref aGr, .int vGF, .int vGS])), (aGh, .inl (cA, 24, .inl (vGh))), (aGi, .inl (cA, 72, .inl (vGi))), (aR, .inr (4, [.ref aRt, .int vRL])), (aRt, .inl (cA, 24, .inl (vRt)))]) (va_A [(aO, .inr (3, [.ref aG, .ref aC, .ref aOn, .int vOE])), (aOn, .inl (cA, 250, .inl (vOn))), (aC, .inr (0, [.ref aG, .ref aR, .ref aCn, .ref aCc, .ref aCr, .ref aCs, .int vCF])), (aCn, .inl (cA, 5760, .inl (vCn))), (aG, .inr (2, [.ref aGh, .ref aGi, .ref aGc, .ref aGo, .ref aGr, .int vGF, .int vGS])), (aGh, .inl (cA, 24, .inl (vGh))), (aGi, .inl (cA, 72, .inl (vGi))), (aR, .inr (4, [.ref aRt, .int vRL])), (aRt, .inl (cA, 24, .inl (vRt)))] sz)) 0 0 (va_A [(aO, .inr (3, [.ref aG, .ref aC, .ref aOn, .int vOE])), (aOn, .inl (cA, 250, .inl (vOn))), (aC, .inr (0, [.ref aG, .ref aR, .ref aCn, .ref aCc, .ref aCr, .ref aCs, .int vCF])), (aCn, .inl (cA, 5760, .inl (vCn))), (aG, .inr (2, [.ref aGh, .ref aGi, .ref aGc, .ref aGo, .ref aGr, .int vGF, .int vGS])), (aGh, .inl (cA, 24, .inl (vGh))), (aGi, .inl (cA, 72, .inl (vGi))), (aR, .inr (4, [.ref aRt, .int vRL])), (aRt, .inl (cA, 24, .inl (vRt)))] sz) := by
  refine Met.ofW (cc := qc_O_tokensBehind) (maxL := 3) (ret := (some .int)) (by decide) rfl ?_
  intro p e s m args below meth c s₁ B hml hv
  obtain ⟨rfl, hsz, ⟨hP, hK, hN⟩, hD0⟩ := hv
  have hx := B.exec
  have hb := B.bytes
  have hr := B.returns
  have hts := atoms_spec (ws := qw_O_tokensBehind) B.pre
  have hg : ∀ w ∈ gG, w.before _ s = true := fun w h => hts w (List.mem_cons_of_mem _ h)
  have hown : s.vm.findClass qR_O = some m.cls := findClass_of_methodNamed B.named
  have hlocks := B.notSynchronized
  subst hsz
  have hD := hD0.self (sz := s.heap.size)
  generalize hAe : va_A [(aO, .inr (3, [.ref aG, .ref aC, .ref aOn, .int vOE])), (aOn, .inl (cA, 250, .inl (vOn))), (aC, .inr (0, [.ref aG, .ref aR, .ref aCn, .ref aCc, .ref aCr, .ref aCs, .int vCF])), (aCn, .inl (cA, 5760, .inl (vCn))), (aG, .inr (2, [.ref aGh, .ref aGi, .ref aGc, .ref aGo, .ref aGr, .int vGF, .int vGS])), (aGh, .inl (cA, 24, .inl (vGh))), (aGi, .inl (cA, 72, .inl (vGi))), (aR, .inr (4, [.ref aRt, .int vRL])), (aRt, .inl (cA, 24, .inl (vRt)))] s.heap.size = A at hD ⊢
  have hA : ∀ q : Nat, s.heap.size ≤ q → A q := fun q h => by rw [← hAe]; exact Or.inr h
  have hS : va_S A s.heap s.heap [] := va_S.rf
  have hP : va_P (dC, dI) vwCl [(aO, .inr (3, [.ref aG, .ref aC, .ref aOn, .int vOE])), (aOn, .inl (cA, 250, .inl (vOn))), (aC, .inr (0, [.ref aG, .ref aR, .ref aCn, .ref aCc, .ref aCr, .ref aCs, .int vCF])), (aCn, .inl (cA, 5760, .inl (vCn))), (aG, .inr (2, [.ref aGh, .ref aGi, .ref aGc, .ref aGo, .ref aGr, .int vGF, .int vGS])), (aGh, .inl (cA, 24, .inl (vGh))), (aGi, .inl (cA, 72, .inl (vGi))), (aR, .inr (4, [.ref aRt, .int vRL])), (aRt, .inl (cA, 24, .inl (vRt)))] s.heap := hP
  have hl := lv_entry ([.ref aO, .int p0]) (n := 3) (Nat.le_of_ble_eq_true rfl)
  rw [lg_entry_eq]
  generalize (lg_sl ([.ref aO, .int p0]) ++ List.replicate (3 - (lg_sl ([.ref aO, .int p0])).length) Slot.unset).toArray = ls at hl ⊢
  have hl : lv_has ls 3 [(0, .ref aO), (1, .int p0)] := hl
  generalize hF : f_O_tokensBehind N_ vOE vOn vCn vGF vGS vGh vGi vRL vRt p0 = Fv
  have hres : Fv = f_O_tokensBehind N_ vOE vOn vCn vGF vGS vGh vGi vRL vRt p0 := hF.symm
  unfold f_O_tokensBehind at hres
  unfold o_O_tokensBehind at ho
  generalize hQ : MQ _ _ _ _ _ _ _ = Qg
  refine lv_aload_n hx hb qd_O_tokensBehind_0 rfl (lv_at hl 0 rfl) ?_
  refine lv_iload_n hx hb qd_O_tokensBehind_1 rfl (lv_at hl 1 rfl) ?_
  refine va_put (D := (dC, dI)) (ci := 3) (v := .int p0) (ty := .int) (C := qR_O) (T := qT_O) (N := 4) hx hb hg qi_O qt_O qk_O qn_O hown hK hP hD hS 0 rfl rfl 3 (by decide) (hg _ mw_128) (fun _ h9 => h9) rfl (by decide +kernel) rfl rfl (Nat.le_of_ble_eq_true rfl) qd_O_tokensBehind_2 (fun H locs hP hD hS => ?_)
  have hP : va_P (dC, dI) vwCl [(aO, .inr (3, [.ref aG, .ref aC, .ref aOn, .int p0])), (aOn, .inl (cA, 250, .inl (vOn))), (aC, .inr (0, [.ref aG, .ref aR, .ref aCn, .ref aCc, .ref aCr, .ref aCs, .int vCF])), (aCn, .inl (cA, 5760, .inl (vCn))), (aG, .inr (2, [.ref aGh, .ref aGi, .ref aGc, .ref aGo, .ref aGr, .int vGF, .int vGS])), (aGh, .inl (cA, 24, .inl (vGh))), (aGi, .inl (cA, 72, .inl (vGi))), (aR, .inr (4, [.ref aRt, .int vRL])), (aRt, .inl (cA, 24, .inl (vRt)))] H := hP
  have hD : va_D A [(aO, .inr (3, [.ref aG, .ref aC, .ref aOn, .int p0])), (aOn, .inl (cA, 250, .inl (vOn))), (aC, .inr (0, [.ref aG, .ref aR, .ref aCn, .ref aCc, .ref aCr, .ref aCs, .int vCF])), (aCn, .inl (cA, 5760, .inl (vCn))), (aG, .inr (2, [.ref aGh, .ref aGi, .ref aGc, .ref aGo, .ref aGr, .int vGF, .int vGS])), (aGh, .inl (cA, 24, .inl (vGh))), (aGi, .inl (cA, 72, .inl (vGi))), (aR, .inr (4, [.ref aRt, .int vRL])), (aRt, .inl (cA, 24, .inl (vRt)))] := hD
  refine lv_iload_n hx hb qd_O_tokensBehind_5 rfl (lv_at hl 1 rfl) ?_
  refine lv_istore_n (lv' := [(2, .int p0), (0, .ref aO), (1, .int p0)]) hx hb qd_O_tokensBehind_6 rfl hl (by decide) rfl (fun ls hl => ?_)
  have L_7 : ∀ (K_ : Int32 → (Nat → Int32) → Int32 × Int32 × (Nat → Int32)) (Ko_ : Int32 → (Nat → Int32) → Prop) (hk : ∀ (x2_7 : Int32) (vOn_7 : (Nat → Int32)) (H : Heap) (locs : List Loc) (ls : Array Slot), va_P (dC, dI) vwCl [(aO, .inr (3, [.ref aG, .ref aC, .ref aOn, .int p0])), (aOn, .inl (cA, 250, .inl (vOn_7))), (aC, .inr (0, [.ref aG, .ref aR, .ref aCn, .ref aCc, .ref aCr, .ref aCs, .int vCF])), (aCn, .inl (cA, 5760, .inl (vCn))), (aG, .inr (2, [.ref aGh, .ref aGi, .ref aGc, .ref aGo, .ref aGr, .int vGF, .int vGS])), (aGh, .inl (cA, 24, .inl (vGh))), (aGi, .inl (cA, 72, .inl (vGi))), (aR, .inr (4, [.ref aRt, .int vRL])), (aRt, .inl (cA, 24, .inl (vRt)))] H → va_D A [(aO, .inr (3, [.ref aG, .ref aC, .ref aOn, .int p0])), (aOn, .inl (cA, 250, .inl (vOn_7))), (aC, .inr (0, [.ref aG, .ref aR, .ref aCn, .ref aCc, .ref aCr, .ref aCs, .int vCF])), (aCn, .inl (cA, 5760, .inl (vCn))), (aG, .inr (2, [.ref aGh, .ref aGi, .ref aGc, .ref aGo, .ref aGr, .int vGF, .int vGS])), (aGh, .inl (cA, 24, .inl (vGh))), (aGi, .inl (cA, 72, .inl (vGi))), (aR, .inr (4, [.ref aRt, .int vRL])), (aRt, .inl (cA, 24, .inl (vRt)))] → va_S A s.heap H locs → lv_has ls 3 [(2, .int x2_7), (0, .ref aO), (1, .int p0)] → Fv = K_ x2_7 vOn_7 → Ko_ x2_7 vOn_7 → W p l e ({ frames := 5, cells := 0, slots := 0, locals := 117 } : Room) s m (([.ref aO, .int p0] : List Value).toArray) below meth c H locs 0 0 Qg (F0 m 22 ls [])) (n : Nat) (x2_7 : Int32) (vOn_7 : (Nat → Int32)) (H : Heap) (locs : List Loc) (ls : Array Slot), va_P (dC, dI) vwCl [(aO, .inr (3, [.ref aG, .ref aC, .ref aOn, .int p0])), (aOn, .inl (cA, 250, .inl (vOn_7))), (aC, .inr (0, [.ref aG, .ref aR, .ref aCn, .ref aCc, .ref aCr, .ref aCs, .int vCF])), (aCn, .inl (cA, 5760, .inl (vCn))), (aG, .inr (2, [.ref aGh, .ref aGi, .ref aGc, .ref aGo, .ref aGr, .int vGF, .int vGS])), (aGh, .inl (cA, 24, .inl (vGh))), (aGi, .inl (cA, 72, .inl (vGi))), (aR, .inr (4, [.ref aRt, .int vRL])), (aRt, .inl (cA, 24, .inl (vRt)))] H → va_D A [(aO, .inr (3, [.ref aG, .ref aC, .ref aOn, .int p0])), (aOn, .inl (cA, 250, .inl (vOn_7))), (aC, .inr (0, [.ref aG, .ref aR, .ref aCn, .ref aCc, .ref aCr, .ref aCs, .int vCF])), (aCn, .inl (cA, 5760, .inl (vCn))), (aG, .inr (2, [.ref aGh, .ref aGi, .ref aGc, .ref aGo, .ref aGr, .int vGF, .int vGS])), (aGh, .inl (cA, 24, .inl (vGh))), (aGi, .inl (cA, 72, .inl (vGi))), (aR, .inr (4, [.ref aRt, .int vRL])), (aRt, .inl (cA, 24, .inl (vRt)))] → va_S A s.heap H locs → lv_has ls 3 [(2, .int x2_7), (0, .ref aO), (1, .int p0)] → Fv = l_O_tokensBehind_7 N_ p0 vCn vGF vGS vGh vGi vRL vRt K_ n x2_7 vOn_7 → ol_O_tokensBehind_7 N_ p0 vCn vGF vGS vGh vGi vRL vRt Ko_ n x2_7 vOn_7 → W p l e ({ frames := 5, cells := 0, slots := 0, locals := 117 } : Room) s m (([.ref aO, .int p0] : List Value).toArray) below meth c H locs 0 0 Qg (F0 m 7 ls []) := by
    intro K_ Ko_ hk n
    induction n with
    | zero => intro x2_7 vOn_7 H locs ls hP hD hS hl hres ho; exact ho.elim
    | succ n ih =>
      intro x2_7 vOn_7 H locs ls hP hD hS hl hres ho
      rw [l_O_tokensBehind_7, s_O_tokensBehind_7] at hres
      rw [ol_O_tokensBehind_7, os_O_tokensBehind_7] at ho
      refine lv_iload_n hx hb qd_O_tokensBehind_7 rfl (lv_at hl 0 rfl) ?_
      refine lv_if_lt (tgt := 22) hx hb qd_O_tokensBehind_8 (by decide) (fun c_8 => ?_) (fun c_8 => ?_)
      · have hres := hres.trans (if_pos c_8)
        have ho := (if_pos c_8).mp ho
        exact hk x2_7 vOn_7 H locs ls hP hD hS (lv_sub hl [0, 1, 2] rfl) hres ho
      have hres := hres.trans (if_neg c_8)
      have ho := (if_neg c_8).mp ho
      refine lv_aload_n hx hb qd_O_tokensBehind_11 rfl (lv_at hl 1 rfl) ?_
      refine lv_iload_n hx hb qd_O_tokensBehind_12 rfl (lv_at hl 0 rfl) ?_
      obtain ⟨g_13, ho⟩ := ho
      refine xm_Vv (As := [.int x2_7]) (rest := []) (w1 := fun (u_13 : (Nat → Int32)) => [(aO, .inr (3, [.ref aG, .ref aC, .ref aOn, .int p0])), (aOn, .inl (cA, 250, .inl (u_13))), (aC, .inr (0, [.ref aG, .ref aR, .ref aCn, .ref aCc, .ref aCr, .ref aCs, .int vCF])), (aCn, .inl (cA, 5760, .inl (vCn))), (aG, .inr (2, [.ref aGh, .ref aGi, .ref aGc, .ref aGo, .ref aGr, .int vGF, .int vGS])), (aGh, .inl (cA, 24, .inl (vGh))), (aGi, .inl (cA, 72, .inl (vGi))), (aR, .inr (4, [.ref aRt, .int vRL])), (aRt, .inl (cA, 24, .inl (vRt)))]) (w2 := fun (u_13 : (Nat → Int32)) => [(aO, .inr (3, [.ref aG, .ref aC, .ref aOn, .int p0])), (aOn, .inl (cA, 250, .inl (u_13))), (aC, .inr (0, [.ref aG, .ref aR, .ref aCn, .ref aCc, .ref aCr, .ref aCs, .int vCF])), (aCn, .inl (cA, 5760, .inl (vCn))), (aG, .inr (2, [.ref aGh, .ref aGi, .ref aGc, .ref aGo, .ref aGr, .int vGF, .int vGS])), (aGh, .inl (cA, 24, .inl (vGh))), (aGi, .inl (cA, 72, .inl (vGi))), (aR, .inr (4, [.ref aRt, .int vRL])), (aRt, .inl (cA, 24, .inl (vRt)))]) ⟨hx, hb, hml, hown, hg⟩ (c_O_lookFrom l dC dI cA N_ aO aOn aC aCn aCc aCr aCs aG aGh aGi aGc aGo aGr aR aRt _ p0 vOn_7 vCF vCn vGF vGS vGh vGi vRL vRt x2_7 g_13) (cwV 1 hg (q_gV mw_539 mw_540 mw_763 mw_7 mw_541) rfl rfl rfl qh_O_lookFrom ⟨Nat.le_of_ble_eq_true rfl, Nat.le_of_ble_eq_true rfl⟩) hN hK hP hD hS hA [0, 1, 2, 3, 4, 5, 6, 7, 8] [] rfl rfl (by decide) (by decide) (by decide) [0, 1, 2, 3, 4, 5, 6, 7, 8] (fun _ => rfl) (by decide) 0 3 rfl rfl rfl hl.1 rfl (Nat.le_of_ble_eq_true rfl) qd_O_tokensBehind_13 ⟨Nat.zero_le _, Nat.zero_le _⟩ (fun u_13 H locs w_13 hP hD hS => ?_)
      have hP : va_P (dC, dI) vwCl [(aO, .inr (3, [.ref aG, .ref aC, .ref aOn, .int p0])), (aOn, .inl (cA, 250, .inl (u_13))), (aC, .inr (0, [.ref aG, .ref aR, .ref aCn, .ref aCc, .ref aCr, .ref aCs, .int vCF])), (aCn, .inl (cA, 5760, .inl (vCn))), (aG, .inr (2, [.ref aGh, .ref aGi, .ref aGc, .ref aGo, .ref aGr, .int vGF, .int vGS])), (aGh, .inl (cA, 24, .inl (vGh))), (aGi, .inl (cA, 72, .inl (vGi))), (aR, .inr (4, [.ref aRt, .int vRL])), (aRt, .inl (cA, 24, .inl (vRt)))] H := hP
      have hD : va_D A [(aO, .inr (3, [.ref aG, .ref aC, .ref aOn, .int p0])), (aOn, .inl (cA, 250, .inl (u_13))), (aC, .inr (0, [.ref aG, .ref aR, .ref aCn, .ref aCc, .ref aCr, .ref aCs, .int vCF])), (aCn, .inl (cA, 5760, .inl (vCn))), (aG, .inr (2, [.ref aGh, .ref aGi, .ref aGc, .ref aGo, .ref aGr, .int vGF, .int vGS])), (aGh, .inl (cA, 24, .inl (vGh))), (aGi, .inl (cA, 72, .inl (vGi))), (aR, .inr (4, [.ref aRt, .int vRL])), (aRt, .inl (cA, 24, .inl (vRt)))] := hD
      have hres := hres.trans (bd_eq w_13)
      have ho := (bd_eq w_13).mp ho
      refine lv_iinc (v := x2_7 + (-1)) (lv' := [(2, .int (x2_7 + (-1))), (0, .ref aO), (1, .int p0)]) hx hb qd_O_tokensBehind_16 hl (k := 0) rfl (congrArg (fun z => _ + z) (by decide)) (by decide) rfl (fun ls hl => ?_)
      refine lv_goto (tgt := 7) hx hb qd_O_tokensBehind_19 (by decide) ?_
      exact ih (x2_7 + (-1)) u_13 H locs ls hP hD hS (lv_sub hl [0, 1, 2] rfl) hres ho
  refine L_7 _ _ (fun x2_7 vOn_7 H locs ls hP hD hS hl hres ho => ?_) _ _ _ _ _ ls hP hD hS hl hres ho
  refine lv_aload_n hx hb qd_O_tokensBehind_22 rfl (lv_at hl 1 rfl) ?_
  refine lv_iconst (v := 0) hx hb qd_O_tokensBehind_23 (by decide) ?_
  refine lv_iconst (v := 0) hx hb qd_O_tokensBehind_24 (by decide) ?_
  obtain ⟨g_25, ho⟩ := ho
  refine xc_V (As := [.int 0, .int 0]) (rest := []) ⟨hx, hb, hml, hown, hg⟩ (c_O_itemNexts l dC dI cA aO aOn aC aG p0 vOn_7 0 0 g_25) (cwV 2 hg (q_gV mw_556 mw_557 mw_766 mw_7 mw_558) rfl rfl rfl qh_O_itemNexts ⟨Nat.le_of_ble_eq_true rfl, Nat.le_of_ble_eq_true rfl⟩) hN hK hP [0, 1] rfl 0 3 rfl rfl rfl hl.1 rfl (Nat.le_of_ble_eq_true rfl) qd_O_tokensBehind_25 ⟨Nat.zero_le _, Nat.zero_le _⟩ ?_
  refine lv_topi (fun r_25 w_25 => ?_)
  have hres := hres.trans (bd_eq w_25)
  have ho := (bd_eq w_25).mp ho
  subst hQ
  exact W.iret (v := r_25) hx hb hr (fun t ht hW => ⟨⟨_, (r_25, p0, vOn_7), rfl, ⟨hres.symm, rfl⟩, ⟨by rw [ht]; exact hP, va_K.moved hW.alike hK, x_N hN hW⟩, hD⟩, hS.F ht⟩) hS.2.2 qd_O_tokensBehind_28
