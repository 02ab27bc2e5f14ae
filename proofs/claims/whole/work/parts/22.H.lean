theorem qd_H_isItem_0 : decode qc_H_isItem 0 = .ok (.iload_n 0, 1) := by decide +kernel
theorem qd_H_isItem_1 : decode qc_H_isItem 1 = .ok (.ifCond .lt 13, 3) := by decide +kernel
theorem qd_H_isItem_4 : decode qc_H_isItem 4 = .ok (.iload_n 0, 1) := by decide +kernel
theorem qd_H_isItem_5 : decode qc_H_isItem 5 = .ok (.bipush 20, 2) := by decide +kernel
theorem qd_H_isItem_7 : decode qc_H_isItem 7 = .ok (.if_icmp .ge 7, 3) := by decide +kernel
theorem qd_H_isItem_10 : decode qc_H_isItem 10 = .ok (.iconst 1, 1) := by decide +kernel
theorem qd_H_isItem_11 : decode qc_H_isItem 11 = .ok (.goto 4, 3) := by decide +kernel
theorem qd_H_isItem_14 : decode qc_H_isItem 14 = .ok (.iconst 0, 1) := by decide +kernel
theorem qd_H_isItem_15 : decode qc_H_isItem 15 = .ok (.ireturn, 1) := by decide +kernel
set_option maxHeartbeats 4000000 in
set_option maxRecDepth 100000 in
theorem c_H_isItem (l : Launch) (dC : Nat → ClassId) (dI : Nat → Nat → Nat) (cA : ClassId) (p0 : Int32) : Met l qy_H_isItem qw_H_isItem ({ frames := 0, cells := 0, slots := 0, locals := 0 }) (va_Pc [.int p0] (xP (dC, dI) [(cA, .int)] [] nestN)) (vp_Si (fun r => r = f_H_isItem p0)) 0 0 (fun _ => False) := by
  refine Met.ofW (cc := qc_H_isItem) (maxL := 1) (ret := (some .boolean)) (by decide) rfl ?_
  intro p e s m args below meth c s₁ B hml hv
  obtain ⟨rfl, hP, hK, hN⟩ := hv
  have hx := B.exec
  have hb := B.bytes
  have hr := B.returns
  have hts := atoms_spec (ws := qw_H_isItem) B.pre
  have hg : ∀ w ∈ gG, w.before _ s = true := fun w h => hts w (List.mem_cons_of_mem _ h)
  have hown : s.vm.findClass qR_H = some m.cls := findClass_of_methodNamed B.named
  have hlocks := B.notSynchronized
  have hP : va_P (dC, dI) vwCl [] s.heap := hP
  have hl := lv_entry ([.int p0]) (n := 1) (Nat.le_of_ble_eq_true rfl)
  rw [lg_entry_eq]
  generalize (lg_sl ([.int p0]) ++ List.replicate (1 - (lg_sl ([.int p0])).length) Slot.unset).toArray = ls at hl ⊢
  have hl : lv_has ls 1 [(0, .int p0)] := hl
  generalize hF : f_H_isItem p0 = Fv
  have hres : Fv = f_H_isItem p0 := hF.symm
  unfold f_H_isItem at hres
  refine lv_iload_n hx hb qd_H_isItem_0 rfl (lv_at hl 0 rfl) ?_
  refine lv_if_lt (tgt := 14) hx hb qd_H_isItem_1 (by decide) (fun c_1 => ?_) (fun c_1 => ?_)
  · have hres := hres.trans (if_pos c_1)
    refine lv_iconst (v := 0) hx hb qd_H_isItem_14 (by decide) ?_
    exact W.zret (v := 0) (ty := .boolean) hx hb hr (by decide) (fun t ht hW => ⟨_, rfl, hres.symm, ht⟩) (fun _ h => nomatch h) qd_H_isItem_15
  have hres := hres.trans (if_neg c_1)
  refine lv_iload_n hx hb qd_H_isItem_4 rfl (lv_at hl 0 rfl) ?_
  refine lv_bipush (v := 20) hx hb qd_H_isItem_5 (by decide) ?_
  refine lv_icmp_ge (tgt := 14) hx hb qd_H_isItem_7 (by decide) (fun c_7 => ?_) (fun c_7 => ?_)
  · have hres := hres.trans (if_pos c_7)
    refine lv_iconst (v := 0) hx hb qd_H_isItem_14 (by decide) ?_
    exact W.zret (v := 0) (ty := .boolean) hx hb hr (by decide) (fun t ht hW => ⟨_, rfl, hres.symm, ht⟩) (fun _ h => nomatch h) qd_H_isItem_15
  have hres := hres.trans (if_neg c_7)
  refine lv_iconst (v := 1) hx hb qd_H_isItem_10 (by decide) ?_
  refine lv_goto (tgt := 15) hx hb qd_H_isItem_11 (by decide) ?_
  exact W.zret (v := 1) (ty := .boolean) hx hb hr (by decide) (fun t ht hW => ⟨_, rfl, hres.symm, ht⟩) (fun _ h => nomatch h) qd_H_isItem_15
theorem qd_H_areItems_0 : decode qc_H_areItems 0 = .ok (.iload_n 0, 1) := by decide +kernel
theorem qd_H_areItems_1 : decode qc_H_areItems 1 = .ok (.invokestatic 166, 3) := by decide +kernel
theorem qd_H_areItems_4 : decode qc_H_areItems 4 = .ok (.ifCond .eq 31, 3) := by decide +kernel
theorem qd_H_areItems_7 : decode qc_H_areItems 7 = .ok (.iload_n 1, 1) := by decide +kernel
theorem qd_H_areItems_8 : decode qc_H_areItems 8 = .ok (.iconst (-1), 1) := by decide +kernel
theorem qd_H_areItems_9 : decode qc_H_areItems 9 = .ok (.if_icmp .eq 10, 3) := by decide +kernel
theorem qd_H_areItems_12 : decode qc_H_areItems 12 = .ok (.iload_n 1, 1) := by decide +kernel
theorem qd_H_areItems_13 : decode qc_H_areItems 13 = .ok (.invokestatic 166, 3) := by decide +kernel
theorem qd_H_areItems_16 : decode qc_H_areItems 16 = .ok (.ifCond .eq 19, 3) := by decide +kernel
theorem qd_H_areItems_19 : decode qc_H_areItems 19 = .ok (.iload_n 2, 1) := by decide +kernel
theorem qd_H_areItems_20 : decode qc_H_areItems 20 = .ok (.iconst (-1), 1) := by decide +kernel
theorem qd_H_areItems_21 : decode qc_H_areItems 21 = .ok (.if_icmp .eq 10, 3) := by decide +kernel
theorem qd_H_areItems_24 : decode qc_H_areItems 24 = .ok (.iload_n 2, 1) := by decide +kernel
theorem qd_H_areItems_25 : decode qc_H_areItems 25 = .ok (.invokestatic 166, 3) := by decide +kernel
theorem qd_H_areItems_28 : decode qc_H_areItems 28 = .ok (.ifCond .eq 7, 3) := by decide +kernel
theorem qd_H_areItems_31 : decode qc_H_areItems 31 = .ok (.iconst 1, 1) := by decide +kernel
theorem qd_H_areItems_32 : decode qc_H_areItems 32 = .ok (.goto 4, 3) := by decide +kernel
theorem qd_H_areItems_35 : decode qc_H_areItems 35 = .ok (.iconst 0, 1) := by decide +kernel
theorem qd_H_areItems_36 : decode qc_H_areItems 36 = .ok (.istore_n 3, 1) := by decide +kernel
theorem qd_H_areItems_37 : decode qc_H_areItems 37 = .ok (.iload_n 3, 1) := by decide +kernel
theorem qd_H_areItems_38 : decode qc_H_areItems 38 = .ok (.ifCond .eq 17, 3) := by decide +kernel
theorem qd_H_areItems_41 : decode qc_H_areItems 41 = .ok (.iload_n 1, 1) := by decide +kernel
theorem qd_H_areItems_42 : decode qc_H_areItems 42 = .ok (.iconst (-1), 1) := by decide +kernel
theorem qd_H_areItems_43 : decode qc_H_areItems 43 = .ok (.if_icmp .ne 8, 3) := by decide +kernel
theorem qd_H_areItems_46 : decode qc_H_areItems 46 = .ok (.iload_n 2, 1) := by decide +kernel
theorem qd_H_areItems_47 : decode qc_H_areItems 47 = .ok (.iconst (-1), 1) := by decide +kernel
theorem qd_H_areItems_48 : decode qc_H_areItems 48 = .ok (.if_icmp .ne 7, 3) := by decide +kernel
theorem qd_H_areItems_51 : decode qc_H_areItems 51 = .ok (.iconst 1, 1) := by decide +kernel
theorem qd_H_areItems_52 : decode qc_H_areItems 52 = .ok (.goto 4, 3) := by decide +kernel
theorem qd_H_areItems_55 : decode qc_H_areItems 55 = .ok (.iconst 0, 1) := by decide +kernel
theorem qd_H_areItems_56 : decode qc_H_areItems 56 = .ok (.ireturn, 1) := by decide +kernel
set_option maxHeartbeats 4000000 in
set_option maxRecDepth 100000 in
theorem c_H_areItems (l : Launch) (dC : Nat → ClassId) (dI : Nat → Nat → Nat) (cA : ClassId) (p0 : Int32) (p1 : Int32) (p2 : Int32) : Met l qy_H_areItems qw_H_areItems ({ frames := 1, cells := 0, slots := 0, locals := 20 }) (va_Pc [.int p0, .int p1, .int p2] (xP (dC, dI) [(cA, .int)] [] nestN)) (vp_Si (fun r => r = f_H_areItems p0 p1 p2)) 0 0 (fun _ => False) := by
  refine Met.ofW (cc := qc_H_areItems) (maxL := 4) (ret := (some .boolean)) (by decide) rfl ?_
  intro p e s m args below meth c s₁ B hml hv
  obtain ⟨rfl, hP, hK, hN⟩ := hv
  have hx := B.exec
  have hb := B.bytes
  have hr := B.returns
  have hts := atoms_spec (ws := qw_H_areItems) B.pre
  have hg : ∀ w ∈ gG, w.before _ s = true := fun w h => hts w (List.mem_cons_of_mem _ h)
  have hown : s.vm.findClass qR_H = some m.cls := findClass_of_methodNamed B.named
  have hlocks := B.notSynchronized
  have hP : va_P (dC, dI) vwCl [] s.heap := hP
  have hl := lv_entry ([.int p0, .int p1, .int p2]) (n := 4) (Nat.le_of_ble_eq_true rfl)
  rw [lg_entry_eq]
  generalize (lg_sl ([.int p0, .int p1, .int p2]) ++ List.replicate (4 - (lg_sl ([.int p0, .int p1, .int p2])).length) Slot.unset).toArray = ls at hl ⊢
  have hl : lv_has ls 4 [(0, .int p0), (1, .int p1), (2, .int p2)] := hl
  generalize hF : f_H_areItems p0 p1 p2 = Fv
  have hres : Fv = f_H_areItems p0 p1 p2 := hF.symm
  unfold f_H_areItems at hres
  refine lv_iload_n hx hb qd_H_areItems_0 rfl (lv_at hl 0 rfl) ?_
  refine xc_S (As := [.int p0]) (rest := []) ⟨hx, hb, hml, hown, hg⟩ (c_H_isItem l dC dI cA p0) (va_cwS 1 hg (q_gS mw_184 mw_185 mw_1 mw_186) rfl rfl rfl qh_H_isItem.2 ⟨Nat.le_of_ble_eq_true rfl, Nat.le_of_ble_eq_true rfl⟩) hN hK hP [] rfl rfl hl.1 rfl (Nat.le_of_ble_eq_true rfl) qd_H_areItems_1 ⟨Nat.zero_le _, Nat.zero_le _⟩ ?_
  refine lv_topi (fun r_1 w_1 => ?_)
  have hres := hres.trans (bd_eq w_1)
  refine lv_if_eq (tgt := 35) hx hb qd_H_areItems_4 (by decide) (fun c_4 => ?_) (fun c_4 => ?_)
  · have hres := hres.trans (if_pos c_4)
    refine lv_iconst (v := 0) hx hb qd_H_areItems_35 (by decide) ?_
    refine lv_istore_n (lv' := [(3, .int 0), (0, .int p0), (1, .int p1), (2, .int p2)]) hx hb qd_H_areItems_36 rfl hl (by decide) rfl (fun ls hl => ?_)
    refine lv_iload_n hx hb qd_H_areItems_37 rfl (lv_at hl 0 rfl) ?_
    refine lv_if_eq (tgt := 55) hx hb qd_H_areItems_38 (by decide) (fun c_38 => ?_) (fun c_38 => ?_)
    rotate_left
    · exact absurd (by decide) c_38
    refine lv_iconst (v := 0) hx hb qd_H_areItems_55 (by decide) ?_
    exact W.zret (v := 0) (ty := .boolean) hx hb hr (by decide) (fun t ht hW => ⟨_, rfl, hres.symm, ht⟩) (fun _ h => nomatch h) qd_H_areItems_56
  have hres := hres.trans (if_neg c_4)
  refine lv_iload_n hx hb qd_H_areItems_7 rfl (lv_at hl 1 rfl) ?_
  refine lv_iconst (v := (-1)) hx hb qd_H_areItems_8 (by decide) ?_
  refine lv_icmp_eq (tgt := 19) hx hb qd_H_areItems_9 (by decide) (fun c_9 => ?_) (fun c_9 => ?_)
  · have hres := hres.trans (if_pos c_9)
    refine lv_iload_n hx hb qd_H_areItems_19 rfl (lv_at hl 2 rfl) ?_
    refine lv_iconst (v := (-1)) hx hb qd_H_areItems_20 (by decide) ?_
    refine lv_icmp_eq (tgt := 31) hx hb qd_H_areItems_21 (by decide) (fun c_21 => ?_) (fun c_21 => ?_)
    · have hres := hres.trans (if_pos c_21)
      refine lv_iconst (v := 1) hx hb qd_H_areItems_31 (by decide) ?_
      refine lv_goto (tgt := 36) hx hb qd_H_areItems_32 (by decide) ?_
      refine lv_istore_n (lv' := [(3, .int 1), (0, .int p0), (1, .int p1), (2, .int p2)]) hx hb qd_H_areItems_36 rfl hl (by decide) rfl (fun ls hl => ?_)
      refine lv_iload_n hx hb qd_H_areItems_37 rfl (lv_at hl 0 rfl) ?_
      refine lv_if_eq (tgt := 55) hx hb qd_H_areItems_38 (by decide) (fun c_38 => ?_) (fun c_38 => ?_)
      · exact absurd c_38 (by decide)
      refine lv_iload_n hx hb qd_H_areItems_41 rfl (lv_at hl 2 rfl) ?_
      refine lv_iconst (v := (-1)) hx hb qd_H_areItems_42 (by decide) ?_
      refine lv_icmp_ne (tgt := 51) hx hb qd_H_areItems_43 (by decide) (fun c_43 => ?_) (fun c_43 => ?_)
      · exact absurd c_9 c_43
      refine lv_iload_n hx hb qd_H_areItems_46 rfl (lv_at hl 3 rfl) ?_
      refine lv_iconst (v := (-1)) hx hb qd_H_areItems_47 (by decide) ?_
      refine lv_icmp_ne (tgt := 55) hx hb qd_H_areItems_48 (by decide) (fun c_48 => ?_) (fun c_48 => ?_)
      · exact absurd c_21 c_48
      refine lv_iconst (v := 1) hx hb qd_H_areItems_51 (by decide) ?_
      refine lv_goto (tgt := 56) hx hb qd_H_areItems_52 (by decide) ?_
      exact W.zret (v := 1) (ty := .boolean) hx hb hr (by decide) (fun t ht hW => ⟨_, rfl, hres.symm, ht⟩) (fun _ h => nomatch h) qd_H_areItems_56
    have hres := hres.trans (if_neg c_21)
    refine lv_iload_n hx hb qd_H_areItems_24 rfl (lv_at hl 2 rfl) ?_
    refine xc_S (As := [.int p2]) (rest := []) ⟨hx, hb, hml, hown, hg⟩ (c_H_isItem l dC dI cA p2) (va_cwS 1 hg (q_gS mw_184 mw_185 mw_1 mw_186) rfl rfl rfl qh_H_isItem.2 ⟨Nat.le_of_ble_eq_true rfl, Nat.le_of_ble_eq_true rfl⟩) hN hK hP [] rfl rfl hl.1 rfl (Nat.le_of_ble_eq_true rfl) qd_H_areItems_25 ⟨Nat.zero_le _, Nat.zero_le _⟩ ?_
    refine lv_topi (fun r_25 w_25 => ?_)
    have hres := hres.trans (bd_eq w_25)
    refine lv_if_eq (tgt := 35) hx hb qd_H_areItems_28 (by decide) (fun c_28 => ?_) (fun c_28 => ?_)
    · have hres := hres.trans (if_pos c_28)
      refine lv_iconst (v := 0) hx hb qd_H_areItems_35 (by decide) ?_
      refine lv_istore_n (lv' := [(3, .int 0), (0, .int p0), (1, .int p1), (2, .int p2)]) hx hb qd_H_areItems_36 rfl hl (by decide) rfl (fun ls hl => ?_)
      refine lv_iload_n hx hb qd_H_areItems_37 rfl (lv_at hl 0 rfl) ?_
      refine lv_if_eq (tgt := 55) hx hb qd_H_areItems_38 (by decide) (fun c_38 => ?_) (fun c_38 => ?_)
      rotate_left
      · exact absurd (by decide) c_38
      refine lv_iconst (v := 0) hx hb qd_H_areItems_55 (by decide) ?_
      exact W.zret (v := 0) (ty := .boolean) hx hb hr (by decide) (fun t ht hW => ⟨_, rfl, hres.symm, ht⟩) (fun _ h => nomatch h) qd_H_areItems_56
    have hres := hres.trans (if_neg c_28)
    refine lv_iconst (v := 1) hx hb qd_H_areItems_31 (by decide) ?_
    refine lv_goto (tgt := 36) hx hb qd_H_areItems_32 (by decide) ?_
    refine lv_istore_n (lv' := [(3, .int 1), (0, .int p0), (1, .int p1), (2, .int p2)]) hx hb qd_H_areItems_36 rfl hl (by decide) rfl (fun ls hl => ?_)
    refine lv_iload_n hx hb qd_H_areItems_37 rfl (lv_at hl 0 rfl) ?_
    refine lv_if_eq (tgt := 55) hx hb qd_H_areItems_38 (by decide) (fun c_38 => ?_) (fun c_38 => ?_)
    · exact absurd c_38 (by decide)
    refine lv_iload_n hx hb qd_H_areItems_41 rfl (lv_at hl 2 rfl) ?_
    refine lv_iconst (v := (-1)) hx hb qd_H_areItems_42 (by decide) ?_
    refine lv_icmp_ne (tgt := 51) hx hb qd_H_areItems_43 (by decide) (fun c_43 => ?_) (fun c_43 => ?_)
    · exact absurd c_9 c_43
    refine lv_iload_n hx hb qd_H_areItems_46 rfl (lv_at hl 3 rfl) ?_
    refine lv_iconst (v := (-1)) hx hb qd_H_areItems_47 (by decide) ?_
    refine lv_icmp_ne (tgt := 55) hx hb qd_H_areItems_48 (by decide) (fun c_48 => ?_) (fun c_48 => ?_)
    rotate_left
    · exact absurd c_48 c_21
    refine lv_iconst (v := 0) hx hb qd_H_areItems_55 (by decide) ?_
    exact W.zret (v := 0) (ty := .boolean) hx hb hr (by decide) (fun t ht hW => ⟨_, rfl, hres.symm, ht⟩) (fun _ h => nomatch h) qd_H_areItems_56
  have hres := hres.trans (if_neg c_9)
  refine lv_iload_n hx hb qd_H_areItems_12 rfl (lv_at hl 1 rfl) ?_
  refine xc_S (As := [.int p1]) (rest := []) ⟨hx, hb, hml, hown, hg⟩ (c_H_isItem l dC dI cA p1) (va_cwS 1 hg (q_gS mw_184 mw_185 mw_1 mw_186) rfl rfl rfl qh_H_isItem.2 ⟨Nat.le_of_ble_eq_true rfl, Nat.le_of_ble_eq_true rfl⟩) hN hK hP [] rfl rfl hl.1 rfl (Nat.le_of_ble_eq_true rfl) qd_H_areItems_13 ⟨Nat.zero_le _, Nat.zero_le _⟩ ?_
  refine lv_topi (fun r_13 w_13 => ?_)
  have hres := hres.trans (bd_eq w_13)
  refine lv_if_eq (tgt := 35) hx hb qd_H_areItems_16 (by decide) (fun c_16 => ?_) (fun c_16 => ?_)
  · have hres := hres.trans (if_pos c_16)
    refine lv_iconst (v := 0) hx hb qd_H_areItems_35 (by decide) ?_
    refine lv_istore_n (lv' := [(3, .int 0), (0, .int p0), (1, .int p1), (2, .int p2)]) hx hb qd_H_areItems_36 rfl hl (by decide) rfl (fun ls hl => ?_)
    refine lv_iload_n hx hb qd_H_areItems_37 rfl (lv_at hl 0 rfl) ?_
    refine lv_if_eq (tgt := 55) hx hb qd_H_areItems_38 (by decide) (fun c_38 => ?_) (fun c_38 => ?_)
    rotate_left
    · exact absurd (by decide) c_38
    refine lv_iconst (v := 0) hx hb qd_H_areItems_55 (by decide) ?_
    exact W.zret (v := 0) (ty := .boolean) hx hb hr (by decide) (fun t ht hW => ⟨_, rfl, hres.symm, ht⟩) (fun _ h => nomatch h) qd_H_areItems_56
  have hres := hres.trans (if_neg c_16)
  refine lv_iload_n hx hb qd_H_areItems_19 rfl (lv_at hl 2 rfl) ?_
  refine lv_iconst (v := (-1)) hx hb qd_H_areItems_20 (by decide) ?_
  refine lv_icmp_eq (tgt := 31) hx hb qd_H_areItems_21 (by decide) (fun c_21 => ?_) (fun c_21 => ?_)
  · have hres := hres.trans (if_pos c_21)
    refine lv_iconst (v := 1) hx hb qd_H_areItems_31 (by decide) ?_
    refine lv_goto (tgt := 36) hx hb qd_H_areItems_32 (by decide) ?_
    refine lv_istore_n (lv' := [(3, .int 1), (0, .int p0), (1, .int p1), (2, .int p2)]) hx hb qd_H_areItems_36 rfl hl (by decide) rfl (fun ls hl => ?_)
    refine lv_iload_n hx hb qd_H_areItems_37 rfl (lv_at hl 0 rfl) ?_
    refine lv_if_eq (tgt := 55) hx hb qd_H_areItems_38 (by decide) (fun c_38 => ?_) (fun c_38 => ?_)
    · exact absurd c_38 (by decide)
    refine lv_iload_n hx hb qd_H_areItems_41 rfl (lv_at hl 2 rfl) ?_
    refine lv_iconst (v := (-1)) hx hb qd_H_areItems_42 (by decide) ?_
    refine lv_icmp_ne (tgt := 51) hx hb qd_H_areItems_43 (by decide) (fun c_43 => ?_) (fun c_43 => ?_)
    rotate_left
    · exact absurd c_43 c_9
    refine lv_iconst (v := 1) hx hb qd_H_areItems_51 (by decide) ?_
    refine lv_goto (tgt := 56) hx hb qd_H_areItems_52 (by decide) ?_
    exact W.zret (v := 1) (ty := .boolean) hx hb hr (by decide) (fun t ht hW => ⟨_, rfl, hres.symm, ht⟩) (fun _ h => nomatch h) qd_H_areItems_56
  have hres := hres.trans (if_neg c_21)
  refine lv_iload_n hx hb qd_H_areItems_24 rfl (lv_at hl 2 rfl) ?_
  refine xc_S (As := [.int p2]) (rest := []) ⟨hx, hb, hml, hown, hg⟩ (c_H_isItem l dC dI cA p2) (va_cwS 1 hg (q_gS mw_184 mw_185 mw_1 mw_186) rfl rfl rfl qh_H_isItem.2 ⟨Nat.le_of_ble_eq_true rfl, Nat.le_of_ble_eq_true rfl⟩) hN hK hP [] rfl rfl hl.1 rfl (Nat.le_of_ble_eq_true rfl) qd_H_areItems_25 ⟨Nat.zero_le _, Nat.zero_le _⟩ ?_
  refine lv_topi (fun r_25 w_25 => ?_)
  have hres := hres.trans (bd_eq w_25)
  refine lv_if_eq (tgt := 35) hx hb qd_H_areItems_28 (by decide) (fun c_28 => ?_) (fun c_28 => ?_)
  · have hres := hres.trans (if_pos c_28)
    refine lv_iconst (v := 0) hx hb qd_H_areItems_35 (by decide) ?_
    refine lv_istore_n (lv' := [(3, .int 0), (0, .int p0), (1, .int p1), (2, .int p2)]) hx hb qd_H_areItems_36 rfl hl (by decide) rfl (fun ls hl => ?_)
    refine lv_iload_n hx hb qd_H_areItems_37 rfl (lv_at hl 0 rfl) ?_
    refine lv_if_eq (tgt := 55) hx hb qd_H_areItems_38 (by decide) (fun c_38 => ?_) (fun c_38 => ?_)
    rotate_left
    · exact absurd (by decide) c_38
    refine lv_iconst (v := 0) hx hb qd_H_areItems_55 (by decide) ?_
    exact W.zret (v := 0) (ty := .boolean) hx hb hr (by decide) (fun t ht hW => ⟨_, rfl, hres.symm, ht⟩) (fun _ h => nomatch h) qd_H_areItems_56
  have hres := hres.trans (if_neg c_28)
  refine lv_iconst (v := 1) hx hb qd_H_areItems_31 (by decide) ?_
  refine lv_goto (tgt := 36) hx hb qd_H_areItems_32 (by decide) ?_
  refine lv_istore_n (lv' := [(3, .int 1), (0, .int p0), (1, .int p1), (2, .int p2)]) hx hb qd_H_areItems_36 rfl hl (by decide) rfl (fun ls hl => ?_)
  refine lv_iload_n hx hb qd_H_areItems_37 rfl (lv_at hl 0 rfl) ?_
  refine lv_if_eq (tgt := 55) hx hb qd_H_areItems_38 (by decide) (fun c_38 => ?_) (fun c_38 => ?_)
  · exact absurd c_38 (by decide)
  refine lv_iload_n hx hb qd_H_areItems_41 rfl (lv_at hl 2 rfl) ?_
  refine lv_iconst (v := (-1)) hx hb qd_H_areItems_42 (by decide) ?_
  refine lv_icmp_ne (tgt := 51) hx hb qd_H_areItems_43 (by decide) (fun c_43 => ?_) (fun c_43 => ?_)
  rotate_left
  · exact absurd c_43 c_9
  refine lv_iconst (v := 1) hx hb qd_H_areItems_51 (by decide) ?_
  refine lv_goto (tgt := 56) hx hb qd_H_areItems_52 (by decide) ?_
  exact W.zret (v := 1) (ty := .boolean) hx hb hr (by decide) (fun t ht hW => ⟨_, rfl, hres.symm, ht⟩) (fun _ h => nomatch h) qd_H_areItems_56
theorem qd_H_isSymbol_0 : decode qc_H_isSymbol 0 = .ok (.iload_n 0, 1) := by decide +kernel
theorem qd_H_isSymbol_1 : decode qc_H_isSymbol 1 = .ok (.ifCond .lt 13, 3) := by decide +kernel
theorem qd_H_isSymbol_4 : decode qc_H_isSymbol 4 = .ok (.iload_n 0, 1) := by decide +kernel
theorem qd_H_isSymbol_5 : decode qc_H_isSymbol 5 = .ok (.bipush 10, 2) := by decide +kernel
theorem qd_H_isSymbol_7 : decode qc_H_isSymbol 7 = .ok (.if_icmp .ge 7, 3) := by decide +kernel
theorem qd_H_isSymbol_10 : decode qc_H_isSymbol 10 = .ok (.iconst 1, 1) := by decide +kernel
theorem qd_H_isSymbol_11 : decode qc_H_isSymbol 11 = .ok (.goto 4, 3) := by decide +kernel
theorem qd_H_isSymbol_14 : decode qc_H_isSymbol 14 = .ok (.iconst 0, 1) := by decide +kernel
theorem qd_H_isSymbol_15 : decode qc_H_isSymbol 15 = .ok (.ireturn, 1) := by decide +kernel
set_option maxHeartbeats 4000000 in
set_option maxRecDepth 100000 in
theorem c_H_isSymbol (l : Launch) (dC : Nat → ClassId) (dI : Nat → Nat → Nat) (cA : ClassId) (p0 : Int32) : Met l qy_H_isSymbol qw_H_isSymbol ({ frames := 0, cells := 0, slots := 0, locals := 0 }) (va_Pc [.int p0] (xP (dC, dI) [(cA, .int)] [] nestN)) (vp_Si (fun r => r = f_H_isSymbol p0)) 0 0 (fun _ => False) := by
  refine Met.ofW (cc := qc_H_isSymbol) (maxL := 1) (ret := (some .boolean)) (by decide) rfl ?_
  intro p e s m args below meth c s₁ B hml hv
  obtain ⟨rfl, hP, hK, hN⟩ := hv
  have hx := B.exec
  have hb := B.bytes
  have hr := B.returns
  have hts := atoms_spec (ws := qw_H_isSymbol) B.pre
  have hg : ∀ w ∈ gG, w.before _ s = true := fun w h => hts w (List.mem_cons_of_mem _ h)
  have hown : s.vm.findClass qR_H = some m.cls := findClass_of_methodNamed B.named
  have hlocks := B.notSynchronized
  have hP : va_P (dC, dI) vwCl [] s.heap := hP
  have hl := lv_entry ([.int p0]) (n := 1) (Nat.le_of_ble_eq_true rfl)
  rw [lg_entry_eq]
  generalize (lg_sl ([.int p0]) ++ List.replicate (1 - (lg_sl ([.int p0])).length) Slot.unset).toArray = ls at hl ⊢
  have hl : lv_has ls 1 [(0, .int p0)] := hl
  generalize hF : f_H_isSymbol p0 = Fv
  have hres : Fv = f_H_isSymbol p0 := hF.symm
  unfold f_H_isSymbol at hres
  refine lv_iload_n hx hb qd_H_isSymbol_0 rfl (lv_at hl 0 rfl) ?_
  refine lv_if_lt (tgt := 14) hx hb qd_H_isSymbol_1 (by decide) (fun c_1 => ?_) (fun c_1 => ?_)
  · have hres := hres.trans (if_pos c_1)
    refine lv_iconst (v := 0) hx hb qd_H_isSymbol_14 (by decide) ?_
    exact W.zret (v := 0) (ty := .boolean) hx hb hr (by decide) (fun t ht hW => ⟨_, rfl, hres.symm, ht⟩) (fun _ h => nomatch h) qd_H_isSymbol_15
  have hres := hres.trans (if_neg c_1)
  refine lv_iload_n hx hb qd_H_isSymbol_4 rfl (lv_at hl 0 rfl) ?_
  refine lv_bipush (v := 10) hx hb qd_H_isSymbol_5 (by decide) ?_
  refine lv_icmp_ge (tgt := 14) hx hb qd_H_isSymbol_7 (by decide) (fun c_7 => ?_) (fun c_7 => ?_)
  · have hres := hres.trans (if_pos c_7)
    refine lv_iconst (v := 0) hx hb qd_H_isSymbol_14 (by decide) ?_
    exact W.zret (v := 0) (ty := .boolean) hx hb hr (by decide) (fun t ht hW => ⟨_, rfl, hres.symm, ht⟩) (fun _ h => nomatch h) qd_H_isSymbol_15
  have hres := hres.trans (if_neg c_7)
  refine lv_iconst (v := 1) hx hb qd_H_isSymbol_10 (by decide) ?_
  refine lv_goto (tgt := 15) hx hb qd_H_isSymbol_11 (by decide) ?_
  exact W.zret (v := 1) (ty := .boolean) hx hb hr (by decide) (fun t ht hW => ⟨_, rfl, hres.symm, ht⟩) (fun _ h => nomatch h) qd_H_isSymbol_15
theorem qd_H_isStep_0 : decode qc_H_isStep 0 = .ok (.iload_n 0, 1) := by decide +kernel
theorem qd_H_isStep_1 : decode qc_H_isStep 1 = .ok (.invokestatic 66, 3) := by decide +kernel
theorem qd_H_isStep_4 : decode qc_H_isStep 4 = .ok (.ifCond .eq 12, 3) := by decide +kernel
theorem qd_H_isStep_7 : decode qc_H_isStep 7 = .ok (.iload_n 1, 1) := by decide +kernel
theorem qd_H_isStep_8 : decode qc_H_isStep 8 = .ok (.iconst (-1), 1) := by decide +kernel
theorem qd_H_isStep_9 : decode qc_H_isStep 9 = .ok (.if_icmp .ne 7, 3) := by decide +kernel
theorem qd_H_isStep_12 : decode qc_H_isStep 12 = .ok (.iconst 1, 1) := by decide +kernel
theorem qd_H_isStep_13 : decode qc_H_isStep 13 = .ok (.goto 4, 3) := by decide +kernel
theorem qd_H_isStep_16 : decode qc_H_isStep 16 = .ok (.iconst 0, 1) := by decide +kernel
theorem qd_H_isStep_17 : decode qc_H_isStep 17 = .ok (.ireturn, 1) := by decide +kernel
set_option maxHeartbeats 4000000 in
set_option maxRecDepth 100000 in
theorem c_H_isStep (l : Launch) (dC : Nat → ClassId) (dI : Nat → Nat → Nat) (cA : ClassId) (p0 : Int32) (p1 : Int32) : Met l qy_H_isStep qw_H_isStep ({ frames := 1, cells := 0, slots := 0, locals := 20 }) (va_Pc [.int p0, .int p1] (xP (dC, dI) [(cA, .int)] [] nestN)) (vp_Si (fun r => r = f_H_isStep p0 p1)) 0 0 (fun _ => False) := by
  refine Met.ofW (cc := qc_H_isStep) (maxL := 2) (ret := (some .boolean)) (by decide) rfl ?_
  intro p e s m args below meth c s₁ B hml hv
  obtain ⟨rfl, hP, hK, hN⟩ := hv
  have hx := B.exec
  have hb := B.bytes
  have hr := B.returns
  have hts := atoms_spec (ws := qw_H_isStep) B.pre
  have hg : ∀ w ∈ gG, w.before _ s = true := fun w h => hts w (List.mem_cons_of_mem _ h)
  have hown : s.vm.findClass qR_H = some m.cls := findClass_of_methodNamed B.named
  have hlocks := B.notSynchronized
  have hP : va_P (dC, dI) vwCl [] s.heap := hP
  have hl := lv_entry ([.int p0, .int p1]) (n := 2) (Nat.le_of_ble_eq_true rfl)
  rw [lg_entry_eq]
  generalize (lg_sl ([.int p0, .int p1]) ++ List.replicate (2 - (lg_sl ([.int p0, .int p1])).length) Slot.unset).toArray = ls at hl ⊢
  have hl : lv_has ls 2 [(0, .int p0), (1, .int p1)] := hl
  generalize hF : f_H_isStep p0 p1 = Fv
  have hres : Fv = f_H_isStep p0 p1 := hF.symm
  unfold f_H_isStep at hres
  refine lv_iload_n hx hb qd_H_isStep_0 rfl (lv_at hl 0 rfl) ?_
  refine xc_S (As := [.int p0]) (rest := []) ⟨hx, hb, hml, hown, hg⟩ (c_H_isSymbol l dC dI cA p0) (va_cwS 1 hg (q_gS mw_178 mw_179 mw_1 mw_180) rfl rfl rfl qh_H_isSymbol.2 ⟨Nat.le_of_ble_eq_true rfl, Nat.le_of_ble_eq_true rfl⟩) hN hK hP [] rfl rfl hl.1 rfl (Nat.le_of_ble_eq_true rfl) qd_H_isStep_1 ⟨Nat.zero_le _, Nat.zero_le _⟩ ?_
  refine lv_topi (fun r_1 w_1 => ?_)
  have hres := hres.trans (bd_eq w_1)
  refine lv_if_eq (tgt := 16) hx hb qd_H_isStep_4 (by decide) (fun c_4 => ?_) (fun c_4 => ?_)
  · have hres := hres.trans (if_pos c_4)
    refine lv_iconst (v := 0) hx hb qd_H_isStep_16 (by decide) ?_
    exact W.zret (v := 0) (ty := .boolean) hx hb hr (by decide) (fun t ht hW => ⟨_, rfl, hres.symm, ht⟩) (fun _ h => nomatch h) qd_H_isStep_17
  have hres := hres.trans (if_neg c_4)
  refine lv_iload_n hx hb qd_H_isStep_7 rfl (lv_at hl 1 rfl) ?_
  refine lv_iconst (v := (-1)) hx hb qd_H_isStep_8 (by decide) ?_
  refine lv_icmp_ne (tgt := 16) hx hb qd_H_isStep_9 (by decide) (fun c_9 => ?_) (fun c_9 => ?_)
  · have hres := hres.trans (if_neg c_9)
    refine lv_iconst (v := 0) hx hb qd_H_isStep_16 (by decide) ?_
    exact W.zret (v := 0) (ty := .boolean) hx hb hr (by decide) (fun t ht hW => ⟨_, rfl, hres.symm, ht⟩) (fun _ h => nomatch h) qd_H_isStep_17
  have hres := hres.trans (if_pos c_9)
  refine lv_iconst (v := 1) hx hb qd_H_isStep_12 (by decide) ?_
  refine lv_goto (tgt := 17) hx hb qd_H_isStep_13 (by decide) ?_
  exact W.zret (v := 1) (ty := .boolean) hx hb hr (by decide) (fun t ht hW => ⟨_, rfl, hres.symm, ht⟩) (fun _ h => nomatch h) qd_H_isStep_17
theorem qd_H_has_0 : decode qc_H_has 0 = .ok (.iload_n 0, 1) := by decide +kernel
theorem qd_H_has_1 : decode qc_H_has 1 = .ok (.iconst 1, 1) := by decide +kernel
theorem qd_H_has_2 : decode qc_H_has 2 = .ok (.iload_n 1, 1) := by decide +kernel
theorem qd_H_has_3 : decode qc_H_has 3 = .ok (.ishl, 1) := by decide +kernel
theorem qd_H_has_4 : decode qc_H_has 4 = .ok (.iand, 1) := by decide +kernel
theorem qd_H_has_5 : decode qc_H_has 5 = .ok (.ifCond .eq 7, 3) := by decide +kernel
theorem qd_H_has_8 : decode qc_H_has 8 = .ok (.iconst 1, 1) := by decide +kernel
theorem qd_H_has_9 : decode qc_H_has 9 = .ok (.goto 4, 3) := by decide +kernel
theorem qd_H_has_12 : decode qc_H_has 12 = .ok (.iconst 0, 1) := by decide +kernel
theorem qd_H_has_13 : decode qc_H_has 13 = .ok (.ireturn, 1) := by decide +kernel
set_option maxHeartbeats 4000000 in
set_option maxRecDepth 100000 in
theorem c_H_has (l : Launch) (dC : Nat → ClassId) (dI : Nat → Nat → Nat) (cA : ClassId) (p0 : Int32) (p1 : Int32) : Met l qy_H_has qw_H_has ({ frames := 0, cells := 0, slots := 0, locals := 0 }) (va_Pc [.int p0, .int p1] (xP (dC, dI) [(cA, .int)] [] nestN)) (vp_Si (fun r => r = f_H_has p0 p1)) 0 0 (fun _ => False) := by
  refine Met.ofW (cc := qc_H_has) (maxL := 2) (ret := (some .boolean)) (by decide) rfl ?_
  intro p e s m args below meth c s₁ B hml hv
  obtain ⟨rfl, hP, hK, hN⟩ := hv
  have hx := B.exec
  have hb := B.bytes
  have hr := B.returns
  have hts := atoms_spec (ws := qw_H_has) B.pre
  have hg : ∀ w ∈ gG, w.before _ s = true := fun w h => hts w (List.mem_cons_of_mem _ h)
  have hown : s.vm.findClass qR_H = some m.cls := findClass_of_methodNamed B.named
  have hlocks := B.notSynchronized
  have hP : va_P (dC, dI) vwCl [] s.heap := hP
  have hl := lv_entry ([.int p0, .int p1]) (n := 2) (Nat.le_of_ble_eq_true rfl)
  rw [lg_entry_eq]
  generalize (lg_sl ([.int p0, .int p1]) ++ List.replicate (2 - (lg_sl ([.int p0, .int p1])).length) Slot.unset).toArray = ls at hl ⊢
  have hl : lv_has ls 2 [(0, .int p0), (1, .int p1)] := hl
  generalize hF : f_H_has p0 p1 = Fv
  have hres : Fv = f_H_has p0 p1 := hF.symm
  unfold f_H_has at hres
  refine lv_iload_n hx hb qd_H_has_0 rfl (lv_at hl 0 rfl) ?_
  refine lv_iconst (v := 1) hx hb qd_H_has_1 (by decide) ?_
  refine lv_iload_n hx hb qd_H_has_2 rfl (lv_at hl 1 rfl) ?_
  refine lv_ishl hx hb qd_H_has_3 ?_
  refine lv_iand hx hb qd_H_has_4 ?_
  refine lv_if_eq (tgt := 12) hx hb qd_H_has_5 (by decide) (fun c_5 => ?_) (fun c_5 => ?_)
  · have hres := hres.trans (if_pos c_5)
    refine lv_iconst (v := 0) hx hb qd_H_has_12 (by decide) ?_
    exact W.zret (v := 0) (ty := .boolean) hx hb hr (by decide) (fun t ht hW => ⟨_, rfl, hres.symm, ht⟩) (fun _ h => nomatch h) qd_H_has_13
  have hres := hres.trans (if_neg c_5)
  refine lv_iconst (v := 1) hx hb qd_H_has_8 (by decide) ?_
  refine lv_goto (tgt := 13) hx hb qd_H_has_9 (by decide) ?_
  exact W.zret (v := 1) (ty := .boolean) hx hb hr (by decide) (fun t ht hW => ⟨_, rfl, hres.symm, ht⟩) (fun _ h => nomatch h) qd_H_has_13
theorem qd_H_atMostMany_0 : decode qc_H_atMostMany 0 = .ok (.lload_n 0, 1) := by decide +kernel
theorem qd_H_atMostMany_1 : decode qc_H_atMostMany 1 = .ok (.ldc2_w 169, 3) := by decide +kernel
theorem qd_H_atMostMany_4 : decode qc_H_atMostMany 4 = .ok (.lcmp, 1) := by decide +kernel
theorem qd_H_atMostMany_5 : decode qc_H_atMostMany 5 = .ok (.ifCond .ge 8, 3) := by decide +kernel
theorem qd_H_atMostMany_8 : decode qc_H_atMostMany 8 = .ok (.lload_n 0, 1) := by decide +kernel
theorem qd_H_atMostMany_9 : decode qc_H_atMostMany 9 = .ok (.l2i, 1) := by decide +kernel
theorem qd_H_atMostMany_10 : decode qc_H_atMostMany 10 = .ok (.goto 5, 3) := by decide +kernel
theorem qd_H_atMostMany_13 : decode qc_H_atMostMany 13 = .ok (.ldc 171, 2) := by decide +kernel
theorem qd_H_atMostMany_15 : decode qc_H_atMostMany 15 = .ok (.ireturn, 1) := by decide +kernel
set_option maxHeartbeats 4000000 in
set_option maxRecDepth 100000 in
theorem c_H_atMostMany (l : Launch) (dC : Nat → ClassId) (dI : Nat → Nat → Nat) (cA : ClassId) (p0 : Int64) : Met l qy_H_atMostMany qw_H_atMostMany ({ frames := 0, cells := 0, slots := 0, locals := 0 }) (va_Pc [.long p0] (xP (dC, dI) [(cA, .int)] [] nestN)) (vp_Si (fun r => r = f_H_atMostMany p0)) 0 0 (fun _ => False) := by
  refine Met.ofW (cc := qc_H_atMostMany) (maxL := 2) (ret := (some .int)) (by decide) rfl ?_
  intro p e s m args below meth c s₁ B hml hv
  obtain ⟨rfl, hP, hK, hN⟩ := hv
  have hx := B.exec
  have hb := B.bytes
  have hr := B.returns
  have hts := atoms_spec (ws := qw_H_atMostMany) B.pre
  have hg : ∀ w ∈ gG, w.before _ s = true := fun w h => hts w (List.mem_cons_of_mem _ h)
  have hown : s.vm.findClass qR_H = some m.cls := findClass_of_methodNamed B.named
  have hlocks := B.notSynchronized
  have hP : va_P (dC, dI) vwCl [] s.heap := hP
  have hl := lv_entry ([.long p0]) (n := 2) (Nat.le_of_ble_eq_true rfl)
  rw [lg_entry_eq]
  generalize (lg_sl ([.long p0]) ++ List.replicate (2 - (lg_sl ([.long p0])).length) Slot.unset).toArray = ls at hl ⊢
  have hl : lv_has ls 2 [(0, .long p0)] := hl
  generalize hF : f_H_atMostMany p0 = Fv
  have hres : Fv = f_H_atMostMany p0 := hF.symm
  unfold f_H_atMostMany at hres
  refine lv_lload_n hx hb qd_H_atMostMany_0 rfl (lv_at hl 0 rfl) ?_
  refine lv_ldc2 (v := 1000000000) hx hb hown (hg _ mw_401) qd_H_atMostMany_1 ?_
  refine W.lcmp hx hb qd_H_atMostMany_4 ?_
  refine lv_topi (fun r_4 w_4 => ?_)
  have hres := hres.trans (bd_eq w_4)
  refine lv_if_ge (tgt := 13) hx hb qd_H_atMostMany_5 (by decide) (fun c_5 => ?_) (fun c_5 => ?_)
  · have hres := hres.trans (if_pos c_5)
    refine lv_ldc (v := 1000000000) hx hb hown (hg _ mw_402) qd_H_atMostMany_13 ?_
    exact W.iret (v := 1000000000) hx hb hr (fun t ht hW => ⟨_, rfl, hres.symm, ht⟩) (fun _ h => nomatch h) qd_H_atMostMany_15
  have hres := hres.trans (if_neg c_5)
  refine lv_lload_n hx hb qd_H_atMostMany_8 rfl (lv_at hl 0 rfl) ?_
  refine lv_l2i hx hb qd_H_atMostMany_9 rfl ?_
  refine lv_goto (tgt := 15) hx hb qd_H_atMostMany_10 (by decide) ?_
  exact W.iret (v := p0.toInt32) hx hb hr (fun t ht hW => ⟨_, rfl, hres.symm, ht⟩) (fun _ h => nomatch h) qd_H_atMostMany_15
