theorem qd_F_pileUp_0 : decode qc_F_pileUp 0 = .ok (.iload_n 1, 1) := by decide +kernel
theorem qd_F_pileUp_1 : decode qc_F_pileUp 1 = .ok (.invokestatic 90, 3) := by decide +kernel
theorem qd_F_pileUp_4 : decode qc_F_pileUp 4 = .ok (.ifCond .eq 81, 3) := by decide +kernel
theorem qd_F_pileUp_7 : decode qc_F_pileUp 7 = .ok (.aload_n 0, 1) := by decide +kernel
theorem qd_F_pileUp_8 : decode qc_F_pileUp 8 = .ok (.getfield 27, 3) := by decide +kernel
theorem qd_F_pileUp_11 : decode qc_F_pileUp 11 = .ok (.ifCond .lt 74, 3) := by decide +kernel
theorem qd_F_pileUp_14 : decode qc_F_pileUp 14 = .ok (.aload_n 0, 1) := by decide +kernel
theorem qd_F_pileUp_15 : decode qc_F_pileUp 15 = .ok (.getfield 27, 3) := by decide +kernel
theorem qd_F_pileUp_18 : decode qc_F_pileUp 18 = .ok (.bipush 24, 2) := by decide +kernel
theorem qd_F_pileUp_20 : decode qc_F_pileUp 20 = .ok (.if_icmp .ge 65, 3) := by decide +kernel
theorem qd_F_pileUp_23 : decode qc_F_pileUp 23 = .ok (.aload_n 0, 1) := by decide +kernel
theorem qd_F_pileUp_24 : decode qc_F_pileUp 24 = .ok (.getfield 9, 3) := by decide +kernel
theorem qd_F_pileUp_27 : decode qc_F_pileUp 27 = .ok (.aload_n 0, 1) := by decide +kernel
theorem qd_F_pileUp_28 : decode qc_F_pileUp 28 = .ok (.getfield 27, 3) := by decide +kernel
theorem qd_F_pileUp_31 : decode qc_F_pileUp 31 = .ok (.iload_n 1, 1) := by decide +kernel
theorem qd_F_pileUp_32 : decode qc_F_pileUp 32 = .ok (.iastore, 1) := by decide +kernel
theorem qd_F_pileUp_33 : decode qc_F_pileUp 33 = .ok (.aload_n 0, 1) := by decide +kernel
theorem qd_F_pileUp_34 : decode qc_F_pileUp 34 = .ok (.getfield 15, 3) := by decide +kernel
theorem qd_F_pileUp_37 : decode qc_F_pileUp 37 = .ok (.aload_n 0, 1) := by decide +kernel
theorem qd_F_pileUp_38 : decode qc_F_pileUp 38 = .ok (.getfield 27, 3) := by decide +kernel
theorem qd_F_pileUp_41 : decode qc_F_pileUp 41 = .ok (.iload_n 2, 1) := by decide +kernel
theorem qd_F_pileUp_42 : decode qc_F_pileUp 42 = .ok (.iastore, 1) := by decide +kernel
theorem qd_F_pileUp_43 : decode qc_F_pileUp 43 = .ok (.aload_n 0, 1) := by decide +kernel
theorem qd_F_pileUp_44 : decode qc_F_pileUp 44 = .ok (.getfield 18, 3) := by decide +kernel
theorem qd_F_pileUp_47 : decode qc_F_pileUp 47 = .ok (.aload_n 0, 1) := by decide +kernel
theorem qd_F_pileUp_48 : decode qc_F_pileUp 48 = .ok (.getfield 27, 3) := by decide +kernel
theorem qd_F_pileUp_51 : decode qc_F_pileUp 51 = .ok (.iload_n 3, 1) := by decide +kernel
theorem qd_F_pileUp_52 : decode qc_F_pileUp 52 = .ok (.iastore, 1) := by decide +kernel
theorem qd_F_pileUp_53 : decode qc_F_pileUp 53 = .ok (.aload_n 0, 1) := by decide +kernel
theorem qd_F_pileUp_54 : decode qc_F_pileUp 54 = .ok (.getfield 21, 3) := by decide +kernel
theorem qd_F_pileUp_57 : decode qc_F_pileUp 57 = .ok (.aload_n 0, 1) := by decide +kernel
theorem qd_F_pileUp_58 : decode qc_F_pileUp 58 = .ok (.getfield 27, 3) := by decide +kernel
theorem qd_F_pileUp_61 : decode qc_F_pileUp 61 = .ok (.iload 4, 2) := by decide +kernel
theorem qd_F_pileUp_63 : decode qc_F_pileUp 63 = .ok (.iastore, 1) := by decide +kernel
theorem qd_F_pileUp_64 : decode qc_F_pileUp 64 = .ok (.aload_n 0, 1) := by decide +kernel
theorem qd_F_pileUp_65 : decode qc_F_pileUp 65 = .ok (.getfield 24, 3) := by decide +kernel
theorem qd_F_pileUp_68 : decode qc_F_pileUp 68 = .ok (.aload_n 0, 1) := by decide +kernel
theorem qd_F_pileUp_69 : decode qc_F_pileUp 69 = .ok (.getfield 27, 3) := by decide +kernel
theorem qd_F_pileUp_72 : decode qc_F_pileUp 72 = .ok (.iload 5, 2) := by decide +kernel
theorem qd_F_pileUp_74 : decode qc_F_pileUp 74 = .ok (.iastore, 1) := by decide +kernel
theorem qd_F_pileUp_75 : decode qc_F_pileUp 75 = .ok (.aload_n 0, 1) := by decide +kernel
theorem qd_F_pileUp_76 : decode qc_F_pileUp 76 = .ok (.dup, 1) := by decide +kernel
theorem qd_F_pileUp_77 : decode qc_F_pileUp 77 = .ok (.getfield 27, 3) := by decide +kernel
theorem qd_F_pileUp_80 : decode qc_F_pileUp 80 = .ok (.iconst 1, 1) := by decide +kernel
theorem qd_F_pileUp_81 : decode qc_F_pileUp 81 = .ok (.iadd, 1) := by decide +kernel
theorem qd_F_pileUp_82 : decode qc_F_pileUp 82 = .ok (.putfield 27, 3) := by decide +kernel
theorem qd_F_pileUp_85 : decode qc_F_pileUp 85 = .ok (.return_, 1) := by decide +kernel
set_option maxHeartbeats 4000000 in
set_option maxRecDepth 100000 in
theorem c_F_pileUp (l : Launch) (dC : Nat → ClassId) (dI : Nat → Nat → Nat) (cA : ClassId) (aF aFs aFf aFt aFn aFd aC aG : Nat) (sz : Nat) (vFW : Int32) (vFB : Int32) (vFE : Int32) (vFN : Int32) (vFL : Int32) (vFX : Int32) (vFY : Int32) (vFs : (Nat → Int32)) (vFf : (Nat → Int32)) (vFt : (Nat → Int32)) (vFn : (Nat → Int32)) (vFd : (Nat → Int32)) (p0 : Int32) (p1 : Int32) (p2 : Int32) (p3 : Int32) (p4 : Int32) (ho : o_F_pileUp vFW vFs vFf vFt vFn vFd p0 p1 p2 p3 p4) : Met l qy_F_pileUp qw_F_pileUp ({ frames := 1, cells := 0, slots := 0, locals := 20 }) (va_Pc [.ref aF, .int p0, .int p1, .int p2, .int p3, .int p4] (fun U => U.heap.size = sz ∧ xP (dC, dI) [(cA, .int)] [(aF, .inr (1, [.ref aG, .ref aC, .ref aFs, .ref aFf, .ref aFt, .ref aFn, .ref aFd, .int vFW, .int vFB, .int vFE, .int vFN, .int vFL, .int vFX, .int vFY])), (aFs, .inl (cA, 24, .inl (vFs))), (aFf, .inl (cA, 24, .inl (vFf))), (aFt, .inl (cA, 24, .inl (vFt))), (aFn, .inl (cA, 24, .inl (vFn))), (aFd, .inl (cA, 24, .inl (vFd)))] nestN U ∧ va_D (fun _ => True) [(aF, .inr (1, [.ref aG, .ref aC, .ref aFs, .ref aFf, .ref aFt, .ref aFn, .ref aFd, .int vFW, .int vFB, .int vFE, .int vFN, .int vFL, .int vFX, .int vFY])), (aFs, .inl (cA, 24, .inl (vFs))), (aFf, .inl (cA, 24, .inl (vFf))), (aFt, .inl (cA, 24, .inl (vFt))), (aFn, .inl (cA, 24, .inl (vFn))), (aFd, .inl (cA, 24, .inl (vFd)))])) (va_Qv (fun u => u = f_F_pileUp vFW vFs vFf vFt vFn vFd p0 p1 p2 p3 p4) (fun (u : Int32 × (Nat → Int32) × (Nat → Int32) × (Nat → Int32) × (Nat → Int32) × (Nat → Int32)) t => xP (dC, dI) [(cA, .int)] [(aF, .inr (1, [.ref aG, .ref aC, .ref aFs, .ref aFf, .ref aFt, .ref aFn, .ref aFd, .int u.1, .int vFB, .int vFE, .int vFN, .int vFL, .int vFX, .int vFY])), (aFs, .inl (cA, 24, .inl (u.2.1))), (aFf, .inl (cA, 24, .inl (u.2.2.1))), (aFt, .inl (cA, 24, .inl (u.2.2.2.1))), (aFn, .inl (cA, 24, .inl (u.2.2.2.2.1))), (aFd, .inl (cA, 24, .inl (u.2.2.2.2.2)))] nestN t ∧ va_D (va_A [(aF, .inr (1, [.ref aG, .ref aC, .ref aFs, .ref aFf, .ref aFt, .ref aFn, .ref aFd, .int vFW, .int vFB, .int vFE, .int vFN, .int vFL, .int vFX, .int vFY])), (aFs, .inl (cA, 24, .inl (vFs))), (aFf, .inl (cA, 24, .inl (vFf))), (aFt, .inl (cA, 24, .inl (vFt))), (aFn, .inl (cA, 24, .inl (vFn))), (aFd, .inl (cA, 24, .inl (vFd)))] sz) [(aF, .inr (1, [.ref aG, .ref aC, .ref aFs, .ref aFf, .ref aFt, .ref aFn, .ref aFd, .int u.1, .int vFB, .int vFE, .int vFN, .int vFL, .int vFX, .int vFY])), (aFs, .inl (cA, 24, .inl (u.2.1))), (aFf, .inl (cA, 24, .inl (u.2.2.1))), (aFt, .inl (cA, 24, .inl (u.2.2.2.1))), (aFn, .inl (cA, 24, .inl (u.2.2.2.2.1))), (aFd, .inl (cA, 24, .inl (u.2.2.2.2.2)))]) (va_A [(aF, .inr (1, [.ref aG, .ref aC, .ref aFs, .ref aFf, .ref aFt, .ref aFn, .ref aFd, .int vFW, .int vFB, .int vFE, .int vFN, .int vFL, .int vFX, .int vFY])), (aFs, .inl (cA, 24, .inl (vFs))), (aFf, .inl (cA, 24, .inl (vFf))), (aFt, .inl (cA, 24, .inl (vFt))), (aFn, .inl (cA, 24, .inl (vFn))), (aFd, .inl (cA, 24, .inl (vFd)))] sz)) 0 0 (va_A [(aF, .inr (1, [.ref aG, .ref aC, .ref aFs, .ref aFf, .ref aFt, .ref aFn, .ref aFd, .int vFW, .int vFB, .int vFE, .int vFN, .int vFL, .int vFX, .int vFY])), (aFs, .inl (cA, 24, .inl (vFs))), (aFf, .inl (cA, 24, .inl (vFf))), (aFt, .inl (cA, 24, .inl (vFt))), (aFn, .inl (cA, 24, .inl (vFn))), (aFd, .inl (cA, 24, .inl (vFd)))] sz) := by
  refine Met.ofW (cc := qc_F_pileUp) (maxL := 6) (ret := (none)) (by decide) rfl ?_
  intro p e s m args below meth c s₁ B hml hv
  obtain ⟨rfl, hsz, ⟨hP, hK, hN⟩, hD0⟩ := hv
  have hx := B.exec
  have hb := B.bytes
  have hr := B.returns
  have hts := atoms_spec (ws := qw_F_pileUp) B.pre
  have hg : ∀ w ∈ gG, w.before _ s = true := fun w h => hts w (List.mem_cons_of_mem _ h)
  have hown : s.vm.findClass qR_F = some m.cls := findClass_of_methodNamed B.named
  have hlocks := B.notSynchronized
  subst hsz
  have hD := hD0.self (sz := s.heap.size)
  generalize hAe : va_A [(aF, .inr (1, [.ref aG, .ref aC, .ref aFs, .ref aFf, .ref aFt, .ref aFn, .ref aFd, .int vFW, .int vFB, .int vFE, .int vFN, .int vFL, .int vFX, .int vFY])), (aFs, .inl (cA, 24, .inl (vFs))), (aFf, .inl (cA, 24, .inl (vFf))), (aFt, .inl (cA, 24, .inl (vFt))), (aFn, .inl (cA, 24, .inl (vFn))), (aFd, .inl (cA, 24, .inl (vFd)))] s.heap.size = A at hD ⊢
  have hA : ∀ q : Nat, s.heap.size ≤ q → A q := fun q h => by rw [← hAe]; exact Or.inr h
  have hS : va_S A s.heap s.heap [] := va_S.rf
  have hP : va_P (dC, dI) vwCl [(aF, .inr (1, [.ref aG, .ref aC, .ref aFs, .ref aFf, .ref aFt, .ref aFn, .ref aFd, .int vFW, .int vFB, .int vFE, .int vFN, .int vFL, .int vFX, .int vFY])), (aFs, .inl (cA, 24, .inl (vFs))), (aFf, .inl (cA, 24, .inl (vFf))), (aFt, .inl (cA, 24, .inl (vFt))), (aFn, .inl (cA, 24, .inl (vFn))), (aFd, .inl (cA, 24, .inl (vFd)))] s.heap := hP
  have hl := lv_entry ([.ref aF, .int p0, .int p1, .int p2, .int p3, .int p4]) (n := 6) (Nat.le_of_ble_eq_true rfl)
  rw [lg_entry_eq]
  generalize (lg_sl ([.ref aF, .int p0, .int p1, .int p2, .int p3, .int p4]) ++ List.replicate (6 - (lg_sl ([.ref aF, .int p0, .int p1, .int p2, .int p3, .int p4])).length) Slot.unset).toArray = ls at hl ⊢
  have hl : lv_has ls 6 [(0, .ref aF), (1, .int p0), (2, .int p1), (3, .int p2), (4, .int p3), (5, .int p4)] := hl
  generalize hF : f_F_pileUp vFW vFs vFf vFt vFn vFd p0 p1 p2 p3 p4 = Fv
  have hres : Fv = f_F_pileUp vFW vFs vFf vFt vFn vFd p0 p1 p2 p3 p4 := hF.symm
  unfold f_F_pileUp at hres
  unfold o_F_pileUp at ho
  refine lv_iload_n hx hb qd_F_pileUp_0 rfl (lv_at hl 1 rfl) ?_
  refine xc_N (As := [.int p0]) (rest := []) ⟨hx, hb, hml, hown, hg⟩ (c_H_isSymbol l dC dI cA p0) (⟨va_cnB 1 hg (q_gC mw_180) rfl rfl rfl (hN _ nw_7) (hg _ mw_1) qh_H_isSymbol.2 ⟨Nat.le_of_ble_eq_true rfl, Nat.le_of_ble_eq_true rfl⟩, hg _ mw_179, trivial⟩) hN hK hP [] rfl rfl hl.1 rfl (Nat.le_of_ble_eq_true rfl) qd_F_pileUp_1 ⟨Nat.zero_le _, Nat.zero_le _⟩ ?_
  refine lv_topi (fun r_1 w_1 => ?_)
  have hres := hres.trans (bd_eq w_1)
  have ho := (bd_eq w_1).mp ho
  refine lv_if_eq (tgt := 85) hx hb qd_F_pileUp_4 (by decide) (fun c_4 => ?_) (fun c_4 => ?_)
  · have hres := hres.trans (if_pos c_4)
    have ho := (if_pos c_4).mp ho
    exact W.vret hx hb hr (fun t ht hW => ⟨⟨(vFW, vFs, vFf, vFt, vFn, vFd), rfl, hres.symm, ⟨by rw [ht]; exact hP, va_K.moved hW.alike hK, x_N hN hW⟩, hD⟩, hS.F ht⟩) hS.2.2 qd_F_pileUp_85
  have hres := hres.trans (if_neg c_4)
  have ho := (if_neg c_4).mp ho
  refine lv_aload_n hx hb qd_F_pileUp_7 rfl (lv_at hl 0 rfl) ?_
  refine va_get (D := (dC, dI)) (ci := 1) (v := .int vFW) (C := qR_F) (T := qT_F) (N := 14) hx hb hg qi_F hown hK hP 0 rfl rfl 7 (by decide) (hg _ mw_98) (fun _ h9 => h9) rfl qd_F_pileUp_8 ?_
  refine lv_if_lt (tgt := 85) hx hb qd_F_pileUp_11 (by decide) (fun c_11 => ?_) (fun c_11 => ?_)
  · have hres := hres.trans (if_pos c_11)
    have ho := (if_pos c_11).mp ho
    exact W.vret hx hb hr (fun t ht hW => ⟨⟨(vFW, vFs, vFf, vFt, vFn, vFd), rfl, hres.symm, ⟨by rw [ht]; exact hP, va_K.moved hW.alike hK, x_N hN hW⟩, hD⟩, hS.F ht⟩) hS.2.2 qd_F_pileUp_85
  have hres := hres.trans (if_neg c_11)
  have ho := (if_neg c_11).mp ho
  refine lv_aload_n hx hb qd_F_pileUp_14 rfl (lv_at hl 0 rfl) ?_
  refine va_get (D := (dC, dI)) (ci := 1) (v := .int vFW) (C := qR_F) (T := qT_F) (N := 14) hx hb hg qi_F hown hK hP 0 rfl rfl 7 (by decide) (hg _ mw_98) (fun _ h9 => h9) rfl qd_F_pileUp_15 ?_
  refine lv_bipush (v := 24) hx hb qd_F_pileUp_18 (by decide) ?_
  refine lv_icmp_ge (tgt := 85) hx hb qd_F_pileUp_20 (by decide) (fun c_20 => ?_) (fun c_20 => ?_)
  · have hres := hres.trans (if_pos c_20)
    have ho := (if_pos c_20).mp ho
    exact W.vret hx hb hr (fun t ht hW => ⟨⟨(vFW, vFs, vFf, vFt, vFn, vFd), rfl, hres.symm, ⟨by rw [ht]; exact hP, va_K.moved hW.alike hK, x_N hN hW⟩, hD⟩, hS.F ht⟩) hS.2.2 qd_F_pileUp_85
  have hres := hres.trans (if_neg c_20)
  have ho := (if_neg c_20).mp ho
  refine lv_aload_n hx hb qd_F_pileUp_23 rfl (lv_at hl 0 rfl) ?_
  refine va_get (D := (dC, dI)) (ci := 1) (v := .ref aFs) (C := qR_F) (T := qT_F) (N := 14) hx hb hg qi_F hown hK hP 0 rfl rfl 2 (by decide) (hg _ mw_93) (fun _ h9 => h9) rfl qd_F_pileUp_24 ?_
  refine lv_aload_n hx hb qd_F_pileUp_27 rfl (lv_at hl 0 rfl) ?_
  refine va_get (D := (dC, dI)) (ci := 1) (v := .int vFW) (C := qR_F) (T := qT_F) (N := 14) hx hb hg qi_F hown hK hP 0 rfl rfl 7 (by decide) (hg _ mw_98) (fun _ h9 => h9) rfl qd_F_pileUp_28 ?_
  refine lv_iload_n hx hb qd_F_pileUp_31 rfl (lv_at hl 1 rfl) ?_
  obtain ⟨g_32, ho⟩ := ho
  refine va_iast hx hb hK hP hD hS 1 0 rfl rfl g_32 qd_F_pileUp_32 (fun H locs hP hD hS => ?_)
  have hP : va_P (dC, dI) vwCl [(aF, .inr (1, [.ref aG, .ref aC, .ref aFs, .ref aFf, .ref aFt, .ref aFn, .ref aFd, .int vFW, .int vFB, .int vFE, .int vFN, .int vFL, .int vFX, .int vFY])), (aFs, .inl (cA, 24, .inl (upd vFs vFW.toNatClampNeg p0))), (aFf, .inl (cA, 24, .inl (vFf))), (aFt, .inl (cA, 24, .inl (vFt))), (aFn, .inl (cA, 24, .inl (vFn))), (aFd, .inl (cA, 24, .inl (vFd)))] H := hP
  have hD : va_D A [(aF, .inr (1, [.ref aG, .ref aC, .ref aFs, .ref aFf, .ref aFt, .ref aFn, .ref aFd, .int vFW, .int vFB, .int vFE, .int vFN, .int vFL, .int vFX, .int vFY])), (aFs, .inl (cA, 24, .inl (upd vFs vFW.toNatClampNeg p0))), (aFf, .inl (cA, 24, .inl (vFf))), (aFt, .inl (cA, 24, .inl (vFt))), (aFn, .inl (cA, 24, .inl (vFn))), (aFd, .inl (cA, 24, .inl (vFd)))] := hD
  refine lv_aload_n hx hb qd_F_pileUp_33 rfl (lv_at hl 0 rfl) ?_
  refine va_get (D := (dC, dI)) (ci := 1) (v := .ref aFf) (C := qR_F) (T := qT_F) (N := 14) hx hb hg qi_F hown hK hP 0 rfl rfl 3 (by decide) (hg _ mw_94) (fun _ h9 => h9) rfl qd_F_pileUp_34 ?_
  refine lv_aload_n hx hb qd_F_pileUp_37 rfl (lv_at hl 0 rfl) ?_
  refine va_get (D := (dC, dI)) (ci := 1) (v := .int vFW) (C := qR_F) (T := qT_F) (N := 14) hx hb hg qi_F hown hK hP 0 rfl rfl 7 (by decide) (hg _ mw_98) (fun _ h9 => h9) rfl qd_F_pileUp_38 ?_
  refine lv_iload_n hx hb qd_F_pileUp_41 rfl (lv_at hl 2 rfl) ?_
  obtain ⟨g_42, ho⟩ := ho
  refine va_iast hx hb hK hP hD hS 2 0 rfl rfl g_42 qd_F_pileUp_42 (fun H locs hP hD hS => ?_)
  have hP : va_P (dC, dI) vwCl [(aF, .inr (1, [.ref aG, .ref aC, .ref aFs, .ref aFf, .ref aFt, .ref aFn, .ref aFd, .int vFW, .int vFB, .int vFE, .int vFN, .int vFL, .int vFX, .int vFY])), (aFs, .inl (cA, 24, .inl (upd vFs vFW.toNatClampNeg p0))), (aFf, .inl (cA, 24, .inl (upd vFf vFW.toNatClampNeg p1))), (aFt, .inl (cA, 24, .inl (vFt))), (aFn, .inl (cA, 24, .inl (vFn))), (aFd, .inl (cA, 24, .inl (vFd)))] H := hP
  have hD : va_D A [(aF, .inr (1, [.ref aG, .ref aC, .ref aFs, .ref aFf, .ref aFt, .ref aFn, .ref aFd, .int vFW, .int vFB, .int vFE, .int vFN, .int vFL, .int vFX, .int vFY])), (aFs, .inl (cA, 24, .inl (upd vFs vFW.toNatClampNeg p0))), (aFf, .inl (cA, 24, .inl (upd vFf vFW.toNatClampNeg p1))), (aFt, .inl (cA, 24, .inl (vFt))), (aFn, .inl (cA, 24, .inl (vFn))), (aFd, .inl (cA, 24, .inl (vFd)))] := hD
  refine lv_aload_n hx hb qd_F_pileUp_43 rfl (lv_at hl 0 rfl) ?_
  refine va_get (D := (dC, dI)) (ci := 1) (v := .ref aFt) (C := qR_F) (T := qT_F) (N := 14) hx hb hg qi_F hown hK hP 0 rfl rfl 4 (by decide) (hg _ mw_95) (fun _ h9 => h9) rfl qd_F_pileUp_44 ?_
  refine lv_aload_n hx hb qd_F_pileUp_47 rfl (lv_at hl 0 rfl) ?_
  refine va_get (D := (dC, dI)) (ci := 1) (v := .int vFW) (C := qR_F) (T := qT_F) (N := 14) hx hb hg qi_F hown hK hP 0 rfl rfl 7 (by decide) (hg _ mw_98) (fun _ h9 => h9) rfl qd_F_pileUp_48 ?_
  refine lv_iload_n hx hb qd_F_pileUp_51 rfl (lv_at hl 3 rfl) ?_
  obtain ⟨g_52, ho⟩ := ho
  refine va_iast hx hb hK hP hD hS 3 0 rfl rfl g_52 qd_F_pileUp_52 (fun H locs hP hD hS => ?_)
  have hP : va_P (dC, dI) vwCl [(aF, .inr (1, [.ref aG, .ref aC, .ref aFs, .ref aFf, .ref aFt, .ref aFn, .ref aFd, .int vFW, .int vFB, .int vFE, .int vFN, .int vFL, .int vFX, .int vFY])), (aFs, .inl (cA, 24, .inl (upd vFs vFW.toNatClampNeg p0))), (aFf, .inl (cA, 24, .inl (upd vFf vFW.toNatClampNeg p1))), (aFt, .inl (cA, 24, .inl (upd vFt vFW.toNatClampNeg p2))), (aFn, .inl (cA, 24, .inl (vFn))), (aFd, .inl (cA, 24, .inl (vFd)))] H := hP
  have hD : va_D A [(aF, .inr (1, [.ref aG, .ref aC, .ref aFs, .ref aFf, .ref aFt, .ref aFn, .ref aFd, .int vFW, .int vFB, .int vFE, .int vFN, .int vFL, .int vFX, .int vFY])), (aFs, .inl (cA, 24, .inl (upd vFs vFW.toNatClampNeg p0))), (aFf, .inl (cA, 24, .inl (upd vFf vFW.toNatClampNeg p1))), (aFt, .inl (cA, 24, .inl (upd vFt vFW.toNatClampNeg p2))), (aFn, .inl (cA, 24, .inl (vFn))), (aFd, .inl (cA, 24, .inl (vFd)))] := hD
  refine lv_aload_n hx hb qd_F_pileUp_53 rfl (lv_at hl 0 rfl) ?_
  refine va_get (D := (dC, dI)) (ci := 1) (v := .ref aFn) (C := qR_F) (T := qT_F) (N := 14) hx hb hg qi_F hown hK hP 0 rfl rfl 5 (by decide) (hg _ mw_96) (fun _ h9 => h9) rfl qd_F_pileUp_54 ?_
  refine lv_aload_n hx hb qd_F_pileUp_57 rfl (lv_at hl 0 rfl) ?_
  refine va_get (D := (dC, dI)) (ci := 1) (v := .int vFW) (C := qR_F) (T := qT_F) (N := 14) hx hb hg qi_F hown hK hP 0 rfl rfl 7 (by decide) (hg _ mw_98) (fun _ h9 => h9) rfl qd_F_pileUp_58 ?_
  refine lv_iload hx hb qd_F_pileUp_61 (lv_at hl 4 rfl) ?_
  obtain ⟨g_63, ho⟩ := ho
  refine va_iast hx hb hK hP hD hS 4 0 rfl rfl g_63 qd_F_pileUp_63 (fun H locs hP hD hS => ?_)
  have hP : va_P (dC, dI) vwCl [(aF, .inr (1, [.ref aG, .ref aC, .ref aFs, .ref aFf, .ref aFt, .ref aFn, .ref aFd, .int vFW, .int vFB, .int vFE, .int vFN, .int vFL, .int vFX, .int vFY])), (aFs, .inl (cA, 24, .inl (upd vFs vFW.toNatClampNeg p0))), (aFf, .inl (cA, 24, .inl (upd vFf vFW.toNatClampNeg p1))), (aFt, .inl (cA, 24, .inl (upd vFt vFW.toNatClampNeg p2))), (aFn, .inl (cA, 24, .inl (upd vFn vFW.toNatClampNeg p3))), (aFd, .inl (cA, 24, .inl (vFd)))] H := hP
  have hD : va_D A [(aF, .inr (1, [.ref aG, .ref aC, .ref aFs, .ref aFf, .ref aFt, .ref aFn, .ref aFd, .int vFW, .int vFB, .int vFE, .int vFN, .int vFL, .int vFX, .int vFY])), (aFs, .inl (cA, 24, .inl (upd vFs vFW.toNatClampNeg p0))), (aFf, .inl (cA, 24, .inl (upd vFf vFW.toNatClampNeg p1))), (aFt, .inl (cA, 24, .inl (upd vFt vFW.toNatClampNeg p2))), (aFn, .inl (cA, 24, .inl (upd vFn vFW.toNatClampNeg p3))), (aFd, .inl (cA, 24, .inl (vFd)))] := hD
  refine lv_aload_n hx hb qd_F_pileUp_64 rfl (lv_at hl 0 rfl) ?_
  refine va_get (D := (dC, dI)) (ci := 1) (v := .ref aFd) (C := qR_F) (T := qT_F) (N := 14) hx hb hg qi_F hown hK hP 0 rfl rfl 6 (by decide) (hg _ mw_97) (fun _ h9 => h9) rfl qd_F_pileUp_65 ?_
  refine lv_aload_n hx hb qd_F_pileUp_68 rfl (lv_at hl 0 rfl) ?_
  refine va_get (D := (dC, dI)) (ci := 1) (v := .int vFW) (C := qR_F) (T := qT_F) (N := 14) hx hb hg qi_F hown hK hP 0 rfl rfl 7 (by decide) (hg _ mw_98) (fun _ h9 => h9) rfl qd_F_pileUp_69 ?_
  refine lv_iload hx hb qd_F_pileUp_72 (lv_at hl 5 rfl) ?_
  obtain ⟨g_74, ho⟩ := ho
  refine va_iast hx hb hK hP hD hS 5 0 rfl rfl g_74 qd_F_pileUp_74 (fun H locs hP hD hS => ?_)
  have hP : va_P (dC, dI) vwCl [(aF, .inr (1, [.ref aG, .ref aC, .ref aFs, .ref aFf, .ref aFt, .ref aFn, .ref aFd, .int vFW, .int vFB, .int vFE, .int vFN, .int vFL, .int vFX, .int vFY])), (aFs, .inl (cA, 24, .inl (upd vFs vFW.toNatClampNeg p0))), (aFf, .inl (cA, 24, .inl (upd vFf vFW.toNatClampNeg p1))), (aFt, .inl (cA, 24, .inl (upd vFt vFW.toNatClampNeg p2))), (aFn, .inl (cA, 24, .inl (upd vFn vFW.toNatClampNeg p3))), (aFd, .inl (cA, 24, .inl (upd vFd vFW.toNatClampNeg p4)))] H := hP
  have hD : va_D A [(aF, .inr (1, [.ref aG, .ref aC, .ref aFs, .ref aFf, .ref aFt, .ref aFn, .ref aFd, .int vFW, .int vFB, .int vFE, .int vFN, .int vFL, .int vFX, .int vFY])), (aFs, .inl (cA, 24, .inl (upd vFs vFW.toNatClampNeg p0))), (aFf, .inl (cA, 24, .inl (upd vFf vFW.toNatClampNeg p1))), (aFt, .inl (cA, 24, .inl (upd vFt vFW.toNatClampNeg p2))), (aFn, .inl (cA, 24, .inl (upd vFn vFW.toNatClampNeg p3))), (aFd, .inl (cA, 24, .inl (upd vFd vFW.toNatClampNeg p4)))] := hD
  refine lv_aload_n hx hb qd_F_pileUp_75 rfl (lv_at hl 0 rfl) ?_
  refine lv_dup hx hb qd_F_pileUp_76 rfl ?_
  refine va_get (D := (dC, dI)) (ci := 1) (v := .int vFW) (C := qR_F) (T := qT_F) (N := 14) hx hb hg qi_F hown hK hP 0 rfl rfl 7 (by decide) (hg _ mw_98) (fun _ h9 => h9) rfl qd_F_pileUp_77 ?_
  refine lv_iconst (v := 1) hx hb qd_F_pileUp_80 (by decide) ?_
  refine lv_iadd hx hb qd_F_pileUp_81 ?_
  refine va_put (D := (dC, dI)) (ci := 1) (v := .int (vFW + 1)) (ty := .int) (C := qR_F) (T := qT_F) (N := 14) hx hb hg qi_F qt_F qk_F qn_F hown hK hP hD hS 0 rfl rfl 7 (by decide) (hg _ mw_98) (fun _ h9 => h9) rfl (by decide +kernel) rfl rfl (Nat.le_of_ble_eq_true rfl) qd_F_pileUp_82 (fun H locs hP hD hS => ?_)
  have hP : va_P (dC, dI) vwCl [(aF, .inr (1, [.ref aG, .ref aC, .ref aFs, .ref aFf, .ref aFt, .ref aFn, .ref aFd, .int (vFW + 1), .int vFB, .int vFE, .int vFN, .int vFL, .int vFX, .int vFY])), (aFs, .inl (cA, 24, .inl (upd vFs vFW.toNatClampNeg p0))), (aFf, .inl (cA, 24, .inl (upd vFf vFW.toNatClampNeg p1))), (aFt, .inl (cA, 24, .inl (upd vFt vFW.toNatClampNeg p2))), (aFn, .inl (cA, 24, .inl (upd vFn vFW.toNatClampNeg p3))), (aFd, .inl (cA, 24, .inl (upd vFd vFW.toNatClampNeg p4)))] H := hP
  have hD : va_D A [(aF, .inr (1, [.ref aG, .ref aC, .ref aFs, .ref aFf, .ref aFt, .ref aFn, .ref aFd, .int (vFW + 1), .int vFB, .int vFE, .int vFN, .int vFL, .int vFX, .int vFY])), (aFs, .inl (cA, 24, .inl (upd vFs vFW.toNatClampNeg p0))), (aFf, .inl (cA, 24, .inl (upd vFf vFW.toNatClampNeg p1))), (aFt, .inl (cA, 24, .inl (upd vFt vFW.toNatClampNeg p2))), (aFn, .inl (cA, 24, .inl (upd vFn vFW.toNatClampNeg p3))), (aFd, .inl (cA, 24, .inl (upd vFd vFW.toNatClampNeg p4)))] := hD
  exact W.vret hx hb hr (fun t ht hW => ⟨⟨(vFW + 1, upd vFs vFW.toNatClampNeg p0, upd vFf vFW.toNatClampNeg p1, upd vFt vFW.toNatClampNeg p2, upd vFn vFW.toNatClampNeg p3, upd vFd vFW.toNatClampNeg p4), rfl, hres.symm, ⟨by rw [ht]; exact hP, va_K.moved hW.alike hK, x_N hN hW⟩, hD⟩, hS.F ht⟩) hS.2.2 qd_F_pileUp_85
theorem qd_F_splitTrees_0 : decode qc_F_splitTrees 0 = .ok (.aload_n 0, 1) := by decide +kernel
theorem qd_F_splitTrees_1 : decode qc_F_splitTrees 1 = .ok (.getfield 53, 3) := by decide +kernel
theorem qd_F_splitTrees_4 : decode qc_F_splitTrees 4 = .ok (.aload_n 0, 1) := by decide +kernel
theorem qd_F_splitTrees_5 : decode qc_F_splitTrees 5 = .ok (.getfield 49, 3) := by decide +kernel
theorem qd_F_splitTrees_8 : decode qc_F_splitTrees 8 = .ok (.iload_n 1, 1) := by decide +kernel
theorem qd_F_splitTrees_9 : decode qc_F_splitTrees 9 = .ok (.iconst 0, 1) := by decide +kernel
theorem qd_F_splitTrees_10 : decode qc_F_splitTrees 10 = .ok (.invokevirtual 128, 3) := by decide +kernel
theorem qd_F_splitTrees_13 : decode qc_F_splitTrees 13 = .ok (.aload_n 0, 1) := by decide +kernel
theorem qd_F_splitTrees_14 : decode qc_F_splitTrees 14 = .ok (.getfield 31, 3) := by decide +kernel
theorem qd_F_splitTrees_17 : decode qc_F_splitTrees 17 = .ok (.iload_n 2, 1) := by decide +kernel
theorem qd_F_splitTrees_18 : decode qc_F_splitTrees 18 = .ok (.invokevirtual 131, 3) := by decide +kernel
theorem qd_F_splitTrees_21 : decode qc_F_splitTrees 21 = .ok (.i2l, 1) := by decide +kernel
theorem qd_F_splitTrees_22 : decode qc_F_splitTrees 22 = .ok (.lstore 4, 2) := by decide +kernel
theorem qd_F_splitTrees_24 : decode qc_F_splitTrees 24 = .ok (.lload 4, 2) := by decide +kernel
theorem qd_F_splitTrees_26 : decode qc_F_splitTrees 26 = .ok (.lconst 0, 1) := by decide +kernel
theorem qd_F_splitTrees_27 : decode qc_F_splitTrees 27 = .ok (.lcmp, 1) := by decide +kernel
theorem qd_F_splitTrees_28 : decode qc_F_splitTrees 28 = .ok (.ifCond .le 31, 3) := by decide +kernel
theorem qd_F_splitTrees_31 : decode qc_F_splitTrees 31 = .ok (.lload 4, 2) := by decide +kernel
theorem qd_F_splitTrees_33 : decode qc_F_splitTrees 33 = .ok (.aload_n 0, 1) := by decide +kernel
theorem qd_F_splitTrees_34 : decode qc_F_splitTrees 34 = .ok (.getfield 53, 3) := by decide +kernel
theorem qd_F_splitTrees_37 : decode qc_F_splitTrees 37 = .ok (.aload_n 0, 1) := by decide +kernel
theorem qd_F_splitTrees_38 : decode qc_F_splitTrees 38 = .ok (.getfield 49, 3) := by decide +kernel
theorem qd_F_splitTrees_41 : decode qc_F_splitTrees 41 = .ok (.iload_n 1, 1) := by decide +kernel
theorem qd_F_splitTrees_42 : decode qc_F_splitTrees 42 = .ok (.iconst 1, 1) := by decide +kernel
theorem qd_F_splitTrees_43 : decode qc_F_splitTrees 43 = .ok (.invokevirtual 128, 3) := by decide +kernel
theorem qd_F_splitTrees_46 : decode qc_F_splitTrees 46 = .ok (.iload_n 2, 1) := by decide +kernel
theorem qd_F_splitTrees_47 : decode qc_F_splitTrees 47 = .ok (.iload_n 3, 1) := by decide +kernel
theorem qd_F_splitTrees_48 : decode qc_F_splitTrees 48 = .ok (.invokevirtual 131, 3) := by decide +kernel
theorem qd_F_splitTrees_51 : decode qc_F_splitTrees 51 = .ok (.i2l, 1) := by decide +kernel
theorem qd_F_splitTrees_52 : decode qc_F_splitTrees 52 = .ok (.lmul, 1) := by decide +kernel
theorem qd_F_splitTrees_53 : decode qc_F_splitTrees 53 = .ok (.invokestatic 134, 3) := by decide +kernel
theorem qd_F_splitTrees_56 : decode qc_F_splitTrees 56 = .ok (.i2l, 1) := by decide +kernel
theorem qd_F_splitTrees_57 : decode qc_F_splitTrees 57 = .ok (.lstore 4, 2) := by decide +kernel
theorem qd_F_splitTrees_59 : decode qc_F_splitTrees 59 = .ok (.lload 4, 2) := by decide +kernel
theorem qd_F_splitTrees_61 : decode qc_F_splitTrees 61 = .ok (.lconst 0, 1) := by decide +kernel
theorem qd_F_splitTrees_62 : decode qc_F_splitTrees 62 = .ok (.lcmp, 1) := by decide +kernel
theorem qd_F_splitTrees_63 : decode qc_F_splitTrees 63 = .ok (.ifCond .le 30, 3) := by decide +kernel
theorem qd_F_splitTrees_66 : decode qc_F_splitTrees 66 = .ok (.lload 4, 2) := by decide +kernel
theorem qd_F_splitTrees_68 : decode qc_F_splitTrees 68 = .ok (.aload_n 0, 1) := by decide +kernel
theorem qd_F_splitTrees_69 : decode qc_F_splitTrees 69 = .ok (.getfield 53, 3) := by decide +kernel
theorem qd_F_splitTrees_72 : decode qc_F_splitTrees 72 = .ok (.aload_n 0, 1) := by decide +kernel
theorem qd_F_splitTrees_73 : decode qc_F_splitTrees 73 = .ok (.getfield 49, 3) := by decide +kernel
theorem qd_F_splitTrees_76 : decode qc_F_splitTrees 76 = .ok (.iload_n 1, 1) := by decide +kernel
theorem qd_F_splitTrees_77 : decode qc_F_splitTrees 77 = .ok (.iconst 2, 1) := by decide +kernel
theorem qd_F_splitTrees_78 : decode qc_F_splitTrees 78 = .ok (.invokevirtual 128, 3) := by decide +kernel
theorem qd_F_splitTrees_81 : decode qc_F_splitTrees 81 = .ok (.iload_n 3, 1) := by decide +kernel
theorem qd_F_splitTrees_82 : decode qc_F_splitTrees 82 = .ok (.aload_n 0, 1) := by decide +kernel
theorem qd_F_splitTrees_83 : decode qc_F_splitTrees 83 = .ok (.getfield 34, 3) := by decide +kernel
theorem qd_F_splitTrees_86 : decode qc_F_splitTrees 86 = .ok (.invokevirtual 131, 3) := by decide +kernel
theorem qd_F_splitTrees_89 : decode qc_F_splitTrees 89 = .ok (.i2l, 1) := by decide +kernel
theorem qd_F_splitTrees_90 : decode qc_F_splitTrees 90 = .ok (.lmul, 1) := by decide +kernel
theorem qd_F_splitTrees_91 : decode qc_F_splitTrees 91 = .ok (.lstore 4, 2) := by decide +kernel
theorem qd_F_splitTrees_93 : decode qc_F_splitTrees 93 = .ok (.lload 4, 2) := by decide +kernel
theorem qd_F_splitTrees_95 : decode qc_F_splitTrees 95 = .ok (.invokestatic 134, 3) := by decide +kernel
theorem qd_F_splitTrees_98 : decode qc_F_splitTrees 98 = .ok (.ireturn, 1) := by decide +kernel
set_option maxHeartbeats 4000000 in
set_option maxRecDepth 100000 in
theorem c_F_splitTrees (l : Launch) (dC : Nat → ClassId) (dI : Nat → Nat → Nat) (cA : ClassId) (aF aFs aFf aFt aFn aFd aC aCn aCc aCr aCs aG aGh aGi aGc aGo aGr aR aRt : Nat) (vFW : Int32) (vFB : Int32) (vFE : Int32) (vFN : Int32) (vFL : Int32) (vFX : Int32) (vFY : Int32) (vCF : Int32) (vCn : (Nat → Int32)) (vGF : Int32) (vGS : Int32) (vGi : (Nat → Int32)) (vRL : Int32) (vRt : (Nat → Int32)) (p0 : Int32) (p1 : Int32) (p2 : Int32) (ho : o_F_splitTrees vFB vFE vCn vGS vGi vRL vRt p0 p1 p2) : Met l qy_F_splitTrees qw_F_splitTrees ({ frames := 2, cells := 0, slots := 0, locals := 46 }) (va_Pc [.ref aF, .int p0, .int p1, .int p2] (xP (dC, dI) [(cA, .int)] [(aF, .inr (1, [.ref aG, .ref aC, .ref aFs, .ref aFf, .ref aFt, .ref aFn, .ref aFd, .int vFW, .int vFB, .int vFE, .int vFN, .int vFL, .int vFX, .int vFY])), (aC, .inr (0, [.ref aG, .ref aR, .ref aCn, .ref aCc, .ref aCr, .ref aCs, .int vCF])), (aCn, .inl (cA, 5760, .inl (vCn))), (aG, .inr (2, [.ref aGh, .ref aGi, .ref aGc, .ref aGo, .ref aGr, .int vGF, .int vGS])), (aGi, .inl (cA, 72, .inl (vGi))), (aR, .inr (4, [.ref aRt, .int vRL])), (aRt, .inl (cA, 24, .inl (vRt)))] nestN)) (vp_Si (fun r => r = f_F_splitTrees vFB vFE vCn vGS vGi vRL vRt p0 p1 p2)) 0 0 (fun _ => False) := by
  refine Met.ofW (cc := qc_F_splitTrees) (maxL := 6) (ret := (some .int)) (by decide) rfl ?_
  intro p e s m args below meth c s₁ B hml hv
  obtain ⟨rfl, hP, hK, hN⟩ := hv
  have hx := B.exec
  have hb := B.bytes
  have hr := B.returns
  have hts := atoms_spec (ws := qw_F_splitTrees) B.pre
  have hg : ∀ w ∈ gG, w.before _ s = true := fun w h => hts w (List.mem_cons_of_mem _ h)
  have hown : s.vm.findClass qR_F = some m.cls := findClass_of_methodNamed B.named
  have hlocks := B.notSynchronized
  have hP : va_P (dC, dI) vwCl [(aF, .inr (1, [.ref aG, .ref aC, .ref aFs, .ref aFf, .ref aFt, .ref aFn, .ref aFd, .int vFW, .int vFB, .int vFE, .int vFN, .int vFL, .int vFX, .int vFY])), (aC, .inr (0, [.ref aG, .ref aR, .ref aCn, .ref aCc, .ref aCr, .ref aCs, .int vCF])), (aCn, .inl (cA, 5760, .inl (vCn))), (aG, .inr (2, [.ref aGh, .ref aGi, .ref aGc, .ref aGo, .ref aGr, .int vGF, .int vGS])), (aGi, .inl (cA, 72, .inl (vGi))), (aR, .inr (4, [.ref aRt, .int vRL])), (aRt, .inl (cA, 24, .inl (vRt)))] s.heap := hP
  have hl := lv_entry ([.ref aF, .int p0, .int p1, .int p2]) (n := 6) (Nat.le_of_ble_eq_true rfl)
  rw [lg_entry_eq]
  generalize (lg_sl ([.ref aF, .int p0, .int p1, .int p2]) ++ List.replicate (6 - (lg_sl ([.ref aF, .int p0, .int p1, .int p2])).length) Slot.unset).toArray = ls at hl ⊢
  have hl : lv_has ls 6 [(0, .ref aF), (1, .int p0), (2, .int p1), (3, .int p2)] := hl
  generalize hF : f_F_splitTrees vFB vFE vCn vGS vGi vRL vRt p0 p1 p2 = Fv
  have hres : Fv = f_F_splitTrees vFB vFE vCn vGS vGi vRL vRt p0 p1 p2 := hF.symm
  unfold f_F_splitTrees at hres
  unfold o_F_splitTrees at ho
  refine lv_aload_n hx hb qd_F_splitTrees_0 rfl (lv_at hl 0 rfl) ?_
  refine va_get (D := (dC, dI)) (ci := 1) (v := .ref aC) (C := qR_F) (T := qT_F) (N := 14) hx hb hg qi_F hown hK hP 0 rfl rfl 1 (by decide) (hg _ mw_92) (fun _ h9 => h9) rfl qd_F_splitTrees_1 ?_
  refine lv_aload_n hx hb qd_F_splitTrees_4 rfl (lv_at hl 0 rfl) ?_
  refine va_get (D := (dC, dI)) (ci := 1) (v := .ref aG) (C := qR_F) (T := qT_F) (N := 14) hx hb hg qi_F hown hK hP 0 rfl rfl 0 (by decide) (hg _ mw_91) (fun _ h9 => h9) rfl qd_F_splitTrees_5 ?_
  refine lv_iload_n hx hb qd_F_splitTrees_8 rfl (lv_at hl 1 rfl) ?_
  refine lv_iconst (v := 0) hx hb qd_F_splitTrees_9 (by decide) ?_
  obtain ⟨g_10, ho⟩ := ho
  refine xc_V (As := [.int p0, .int 0]) (rest := [.ref aC]) ⟨hx, hb, hml, hown, hg⟩ (c_G_item l dC dI cA aG aGh aGi aGc aGo aGr vGF vGS vGi p0 0 g_10) (cwV 2 hg (q_gV mw_500 mw_301 mw_302 mw_2 mw_303) rfl rfl rfl qh_G_item ⟨Nat.le_of_ble_eq_true rfl, Nat.le_of_ble_eq_true rfl⟩) hN hK hP [3, 4] rfl 0 2 rfl rfl rfl hl.1 rfl (Nat.le_of_ble_eq_true rfl) qd_F_splitTrees_10 ⟨Nat.zero_le _, Nat.zero_le _⟩ ?_
  refine lv_topi (fun r_10 w_10 => ?_)
  have hres := hres.trans (bd_eq w_10)
  have ho := (bd_eq w_10).mp ho
  refine lv_aload_n hx hb qd_F_splitTrees_13 rfl (lv_at hl 0 rfl) ?_
  refine va_get (D := (dC, dI)) (ci := 1) (v := .int vFB) (C := qR_F) (T := qT_F) (N := 14) hx hb hg qi_F hown hK hP 0 rfl rfl 8 (by decide) (hg _ mw_99) (fun _ h9 => h9) rfl qd_F_splitTrees_14 ?_
  refine lv_iload_n hx hb qd_F_splitTrees_17 rfl (lv_at hl 2 rfl) ?_
  obtain ⟨g_18, ho⟩ := ho
  refine xc_V (As := [.int r_10, .int vFB, .int p1]) (rest := []) ⟨hx, hb, hml, hown, hg⟩ (c_C_trees l dC dI cA aC aCn aCc aCr aCs aG aR aRt vCF vCn vRL vRt r_10 vFB p1 g_18) (cwV 3 hg (q_gV mw_501 mw_385 mw_386 mw_4 mw_387) rfl rfl rfl qh_C_trees ⟨Nat.le_of_ble_eq_true rfl, Nat.le_of_ble_eq_true rfl⟩) hN hK hP [1, 2, 5, 6] rfl 0 0 rfl rfl rfl hl.1 rfl (Nat.le_of_ble_eq_true rfl) qd_F_splitTrees_18 ⟨Nat.zero_le _, Nat.zero_le _⟩ ?_
  refine lv_topi (fun r_18 w_18 => ?_)
  have hres := hres.trans (bd_eq w_18)
  have ho := (bd_eq w_18).mp ho
  refine lv_i2l hx hb qd_F_splitTrees_21 rfl ?_
  refine lv_lstore (lv' := [(4, .long r_18.toInt64), (0, .ref aF), (1, .int p0), (2, .int p1), (3, .int p2)]) hx hb qd_F_splitTrees_22 hl (by decide) rfl (fun ls hl => ?_)
  refine lv_lload hx hb qd_F_splitTrees_24 (lv_at hl 0 rfl) ?_
  refine lv_lconst (v := 0) hx hb qd_F_splitTrees_26 (by decide) ?_
  refine W.lcmp hx hb qd_F_splitTrees_27 ?_
  refine lv_topi (fun r_27 w_27 => ?_)
  have hres := hres.trans (bd_eq w_27)
  have ho := (bd_eq w_27).mp ho
  refine lv_if_le (tgt := 59) hx hb qd_F_splitTrees_28 (by decide) (fun c_28 => ?_) (fun c_28 => ?_)
  · have hres := hres.trans (if_pos c_28)
    have ho := (if_pos c_28).mp ho
    refine lv_lload hx hb qd_F_splitTrees_59 (lv_at hl 0 rfl) ?_
    refine lv_lconst (v := 0) hx hb qd_F_splitTrees_61 (by decide) ?_
    refine W.lcmp hx hb qd_F_splitTrees_62 ?_
    refine lv_topi (fun r_62 w_62 => ?_)
    have hres := hres.trans (bd_eq w_62)
    have ho := (bd_eq w_62).mp ho
    refine lv_if_le (tgt := 93) hx hb qd_F_splitTrees_63 (by decide) (fun c_63 => ?_) (fun c_63 => ?_)
    · have hres := hres.trans (if_pos c_63)
      have ho := (if_pos c_63).mp ho
      refine lv_lload hx hb qd_F_splitTrees_93 (lv_at hl 0 rfl) ?_
      refine xc_N (As := [.long r_18.toInt64]) (rest := []) ⟨hx, hb, hml, hown, hg⟩ (c_H_atMostMany l dC dI cA r_18.toInt64) (⟨va_cnB 1 hg (q_gC mw_400) rfl rfl rfl (hN _ nw_8) (hg _ mw_1) qh_H_atMostMany.2 ⟨Nat.le_of_ble_eq_true rfl, Nat.le_of_ble_eq_true rfl⟩, hg _ mw_399, trivial⟩) hN hK hP [] rfl rfl hl.1 rfl (Nat.le_of_ble_eq_true rfl) qd_F_splitTrees_95 ⟨Nat.zero_le _, Nat.zero_le _⟩ ?_
      refine lv_topi (fun r_95 w_95 => ?_)
      have hres := hres.trans (bd_eq w_95)
      have ho := (bd_eq w_95).mp ho
      exact W.iret (v := r_95) hx hb hr (fun t ht hW => ⟨_, rfl, hres.symm, ht⟩) (fun _ h => nomatch h) qd_F_splitTrees_98
    have hres := hres.trans (if_neg c_63)
    have ho := (if_neg c_63).mp ho
    refine lv_lload hx hb qd_F_splitTrees_66 (lv_at hl 0 rfl) ?_
    refine lv_aload_n hx hb qd_F_splitTrees_68 rfl (lv_at hl 1 rfl) ?_
    refine va_get (D := (dC, dI)) (ci := 1) (v := .ref aC) (C := qR_F) (T := qT_F) (N := 14) hx hb hg qi_F hown hK hP 0 rfl rfl 1 (by decide) (hg _ mw_92) (fun _ h9 => h9) rfl qd_F_splitTrees_69 ?_
    refine lv_aload_n hx hb qd_F_splitTrees_72 rfl (lv_at hl 1 rfl) ?_
    refine va_get (D := (dC, dI)) (ci := 1) (v := .ref aG) (C := qR_F) (T := qT_F) (N := 14) hx hb hg qi_F hown hK hP 0 rfl rfl 0 (by decide) (hg _ mw_91) (fun _ h9 => h9) rfl qd_F_splitTrees_73 ?_
    refine lv_iload_n hx hb qd_F_splitTrees_76 rfl (lv_at hl 2 rfl) ?_
    refine lv_iconst (v := 2) hx hb qd_F_splitTrees_77 (by decide) ?_
    obtain ⟨g_78, ho⟩ := ho
    refine xc_V (As := [.int p0, .int 2]) (rest := [.ref aC, .long r_18.toInt64]) ⟨hx, hb, hml, hown, hg⟩ (c_G_item l dC dI cA aG aGh aGi aGc aGo aGr vGF vGS vGi p0 2 g_78) (cwV 2 hg (q_gV mw_500 mw_301 mw_302 mw_2 mw_303) rfl rfl rfl qh_G_item ⟨Nat.le_of_ble_eq_true rfl, Nat.le_of_ble_eq_true rfl⟩) hN hK hP [3, 4] rfl 0 2 rfl rfl rfl hl.1 rfl (Nat.le_of_ble_eq_true rfl) qd_F_splitTrees_78 ⟨Nat.zero_le _, Nat.zero_le _⟩ ?_
    refine lv_topi (fun r_78 w_78 => ?_)
    have hres := hres.trans (bd_eq w_78)
    have ho := (bd_eq w_78).mp ho
    refine lv_iload_n hx hb qd_F_splitTrees_81 rfl (lv_at hl 4 rfl) ?_
    refine lv_aload_n hx hb qd_F_splitTrees_82 rfl (lv_at hl 1 rfl) ?_
    refine va_get (D := (dC, dI)) (ci := 1) (v := .int vFE) (C := qR_F) (T := qT_F) (N := 14) hx hb hg qi_F hown hK hP 0 rfl rfl 9 (by decide) (hg _ mw_100) (fun _ h9 => h9) rfl qd_F_splitTrees_83 ?_
    obtain ⟨g_86, ho⟩ := ho
    refine xc_V (As := [.int r_78, .int p2, .int vFE]) (rest := [.long r_18.toInt64]) ⟨hx, hb, hml, hown, hg⟩ (c_C_trees l dC dI cA aC aCn aCc aCr aCs aG aR aRt vCF vCn vRL vRt r_78 p2 vFE g_86) (cwV 3 hg (q_gV mw_501 mw_385 mw_386 mw_4 mw_387) rfl rfl rfl qh_C_trees ⟨Nat.le_of_ble_eq_true rfl, Nat.le_of_ble_eq_true rfl⟩) hN hK hP [1, 2, 5, 6] rfl 0 0 rfl rfl rfl hl.1 rfl (Nat.le_of_ble_eq_true rfl) qd_F_splitTrees_86 ⟨Nat.zero_le _, Nat.zero_le _⟩ ?_
    refine lv_topi (fun r_86 w_86 => ?_)
    have hres := hres.trans (bd_eq w_86)
    have ho := (bd_eq w_86).mp ho
    refine lv_i2l hx hb qd_F_splitTrees_89 rfl ?_
    refine lv_lmul hx hb qd_F_splitTrees_90 ?_
    refine lv_lstore (lv' := [(4, .long (r_18.toInt64 * r_86.toInt64)), (0, .ref aF), (1, .int p0), (2, .int p1), (3, .int p2)]) hx hb qd_F_splitTrees_91 hl (by decide) rfl (fun ls hl => ?_)
    refine lv_lload hx hb qd_F_splitTrees_93 (lv_at hl 0 rfl) ?_
    refine xc_N (As := [.long (r_18.toInt64 * r_86.toInt64)]) (rest := []) ⟨hx, hb, hml, hown, hg⟩ (c_H_atMostMany l dC dI cA (r_18.toInt64 * r_86.toInt64)) (⟨va_cnB 1 hg (q_gC mw_400) rfl rfl rfl (hN _ nw_8) (hg _ mw_1) qh_H_atMostMany.2 ⟨Nat.le_of_ble_eq_true rfl, Nat.le_of_ble_eq_true rfl⟩, hg _ mw_399, trivial⟩) hN hK hP [] rfl rfl hl.1 rfl (Nat.le_of_ble_eq_true rfl) qd_F_splitTrees_95 ⟨Nat.zero_le _, Nat.zero_le _⟩ ?_
    refine lv_topi (fun r_95 w_95 => ?_)
    have hres := hres.trans (bd_eq w_95)
    have ho := (bd_eq w_95).mp ho
    exact W.iret (v := r_95) hx hb hr (fun t ht hW => ⟨_, rfl, hres.symm, ht⟩) (fun _ h => nomatch h) qd_F_splitTrees_98
  have hres := hres.trans (if_neg c_28)
  have ho := (if_neg c_28).mp ho
  refine lv_lload hx hb qd_F_splitTrees_31 (lv_at hl 0 rfl) ?_
  refine lv_aload_n hx hb qd_F_splitTrees_33 rfl (lv_at hl 1 rfl) ?_
  refine va_get (D := (dC, dI)) (ci := 1) (v := .ref aC) (C := qR_F) (T := qT_F) (N := 14) hx hb hg qi_F hown hK hP 0 rfl rfl 1 (by decide) (hg _ mw_92) (fun _ h9 => h9) rfl qd_F_splitTrees_34 ?_
  refine lv_aload_n hx hb qd_F_splitTrees_37 rfl (lv_at hl 1 rfl) ?_
  refine va_get (D := (dC, dI)) (ci := 1) (v := .ref aG) (C := qR_F) (T := qT_F) (N := 14) hx hb hg qi_F hown hK hP 0 rfl rfl 0 (by decide) (hg _ mw_91) (fun _ h9 => h9) rfl qd_F_splitTrees_38 ?_
  refine lv_iload_n hx hb qd_F_splitTrees_41 rfl (lv_at hl 2 rfl) ?_
  refine lv_iconst (v := 1) hx hb qd_F_splitTrees_42 (by decide) ?_
  obtain ⟨g_43, ho⟩ := ho
  refine xc_V (As := [.int p0, .int 1]) (rest := [.ref aC, .long r_18.toInt64]) ⟨hx, hb, hml, hown, hg⟩ (c_G_item l dC dI cA aG aGh aGi aGc aGo aGr vGF vGS vGi p0 1 g_43) (cwV 2 hg (q_gV mw_500 mw_301 mw_302 mw_2 mw_303) rfl rfl rfl qh_G_item ⟨Nat.le_of_ble_eq_true rfl, Nat.le_of_ble_eq_true rfl⟩) hN hK hP [3, 4] rfl 0 2 rfl rfl rfl hl.1 rfl (Nat.le_of_ble_eq_true rfl) qd_F_splitTrees_43 ⟨Nat.zero_le _, Nat.zero_le _⟩ ?_
  refine lv_topi (fun r_43 w_43 => ?_)
  have hres := hres.trans (bd_eq w_43)
  have ho := (bd_eq w_43).mp ho
  refine lv_iload_n hx hb qd_F_splitTrees_46 rfl (lv_at hl 3 rfl) ?_
  refine lv_iload_n hx hb qd_F_splitTrees_47 rfl (lv_at hl 4 rfl) ?_
  obtain ⟨g_48, ho⟩ := ho
  refine xc_V (As := [.int r_43, .int p1, .int p2]) (rest := [.long r_18.toInt64]) ⟨hx, hb, hml, hown, hg⟩ (c_C_trees l dC dI cA aC aCn aCc aCr aCs aG aR aRt vCF vCn vRL vRt r_43 p1 p2 g_48) (cwV 3 hg (q_gV mw_501 mw_385 mw_386 mw_4 mw_387) rfl rfl rfl qh_C_trees ⟨Nat.le_of_ble_eq_true rfl, Nat.le_of_ble_eq_true rfl⟩) hN hK hP [1, 2, 5, 6] rfl 0 0 rfl rfl rfl hl.1 rfl (Nat.le_of_ble_eq_true rfl) qd_F_splitTrees_48 ⟨Nat.zero_le _, Nat.zero_le _⟩ ?_
  refine lv_topi (fun r_48 w_48 => ?_)
  have hres := hres.trans (bd_eq w_48)
  have ho := (bd_eq w_48).mp ho
  refine lv_i2l hx hb qd_F_splitTrees_51 rfl ?_
  refine lv_lmul hx hb qd_F_splitTrees_52 ?_
  refine xc_N (As := [.long (r_18.toInt64 * r_48.toInt64)]) (rest := []) ⟨hx, hb, hml, hown, hg⟩ (c_H_atMostMany l dC dI cA (r_18.toInt64 * r_48.toInt64)) (⟨va_cnB 1 hg (q_gC mw_400) rfl rfl rfl (hN _ nw_8) (hg _ mw_1) qh_H_atMostMany.2 ⟨Nat.le_of_ble_eq_true rfl, Nat.le_of_ble_eq_true rfl⟩, hg _ mw_399, trivial⟩) hN hK hP [] rfl rfl hl.1 rfl (Nat.le_of_ble_eq_true rfl) qd_F_splitTrees_53 ⟨Nat.zero_le _, Nat.zero_le _⟩ ?_
  refine lv_topi (fun r_53 w_53 => ?_)
  have hres := hres.trans (bd_eq w_53)
  have ho := (bd_eq w_53).mp ho
  refine lv_i2l hx hb qd_F_splitTrees_56 rfl ?_
  refine lv_lstore (lv' := [(4, .long r_53.toInt64), (0, .ref aF), (1, .int p0), (2, .int p1), (3, .int p2)]) hx hb qd_F_splitTrees_57 hl (by decide) rfl (fun ls hl => ?_)
  refine lv_lload hx hb qd_F_splitTrees_59 (lv_at hl 0 rfl) ?_
  refine lv_lconst (v := 0) hx hb qd_F_splitTrees_61 (by decide) ?_
  refine W.lcmp hx hb qd_F_splitTrees_62 ?_
  refine lv_topi (fun r_62 w_62 => ?_)
  have hres := hres.trans (bd_eq w_62)
  have ho := (bd_eq w_62).mp ho
  refine lv_if_le (tgt := 93) hx hb qd_F_splitTrees_63 (by decide) (fun c_63 => ?_) (fun c_63 => ?_)
  · have hres := hres.trans (if_pos c_63)
    have ho := (if_pos c_63).mp ho
    refine lv_lload hx hb qd_F_splitTrees_93 (lv_at hl 0 rfl) ?_
    refine xc_N (As := [.long r_53.toInt64]) (rest := []) ⟨hx, hb, hml, hown, hg⟩ (c_H_atMostMany l dC dI cA r_53.toInt64) (⟨va_cnB 1 hg (q_gC mw_400) rfl rfl rfl (hN _ nw_8) (hg _ mw_1) qh_H_atMostMany.2 ⟨Nat.le_of_ble_eq_true rfl, Nat.le_of_ble_eq_true rfl⟩, hg _ mw_399, trivial⟩) hN hK hP [] rfl rfl hl.1 rfl (Nat.le_of_ble_eq_true rfl) qd_F_splitTrees_95 ⟨Nat.zero_le _, Nat.zero_le _⟩ ?_
    refine lv_topi (fun r_95 w_95 => ?_)
    have hres := hres.trans (bd_eq w_95)
    have ho := (bd_eq w_95).mp ho
    exact W.iret (v := r_95) hx hb hr (fun t ht hW => ⟨_, rfl, hres.symm, ht⟩) (fun _ h => nomatch h) qd_F_splitTrees_98
  have hres := hres.trans (if_neg c_63)
  have ho := (if_neg c_63).mp ho
  refine lv_lload hx hb qd_F_splitTrees_66 (lv_at hl 0 rfl) ?_
  refine lv_aload_n hx hb qd_F_splitTrees_68 rfl (lv_at hl 1 rfl) ?_
  refine va_get (D := (dC, dI)) (ci := 1) (v := .ref aC) (C := qR_F) (T := qT_F) (N := 14) hx hb hg qi_F hown hK hP 0 rfl rfl 1 (by decide) (hg _ mw_92) (fun _ h9 => h9) rfl qd_F_splitTrees_69 ?_
  refine lv_aload_n hx hb qd_F_splitTrees_72 rfl (lv_at hl 1 rfl) ?_
  refine va_get (D := (dC, dI)) (ci := 1) (v := .ref aG) (C := qR_F) (T := qT_F) (N := 14) hx hb hg qi_F hown hK hP 0 rfl rfl 0 (by decide) (hg _ mw_91) (fun _ h9 => h9) rfl qd_F_splitTrees_73 ?_
  refine lv_iload_n hx hb qd_F_splitTrees_76 rfl (lv_at hl 2 rfl) ?_
  refine lv_iconst (v := 2) hx hb qd_F_splitTrees_77 (by decide) ?_
  obtain ⟨g_78, ho⟩ := ho
  refine xc_V (As := [.int p0, .int 2]) (rest := [.ref aC, .long r_53.toInt64]) ⟨hx, hb, hml, hown, hg⟩ (c_G_item l dC dI cA aG aGh aGi aGc aGo aGr vGF vGS vGi p0 2 g_78) (cwV 2 hg (q_gV mw_500 mw_301 mw_302 mw_2 mw_303) rfl rfl rfl qh_G_item ⟨Nat.le_of_ble_eq_true rfl, Nat.le_of_ble_eq_true rfl⟩) hN hK hP [3, 4] rfl 0 2 rfl rfl rfl hl.1 rfl (Nat.le_of_ble_eq_true rfl) qd_F_splitTrees_78 ⟨Nat.zero_le _, Nat.zero_le _⟩ ?_
  refine lv_topi (fun r_78 w_78 => ?_)
  have hres := hres.trans (bd_eq w_78)
  have ho := (bd_eq w_78).mp ho
  refine lv_iload_n hx hb qd_F_splitTrees_81 rfl (lv_at hl 4 rfl) ?_
  refine lv_aload_n hx hb qd_F_splitTrees_82 rfl (lv_at hl 1 rfl) ?_
  refine va_get (D := (dC, dI)) (ci := 1) (v := .int vFE) (C := qR_F) (T := qT_F) (N := 14) hx hb hg qi_F hown hK hP 0 rfl rfl 9 (by decide) (hg _ mw_100) (fun _ h9 => h9) rfl qd_F_splitTrees_83 ?_
  obtain ⟨g_86, ho⟩ := ho
  refine xc_V (As := [.int r_78, .int p2, .int vFE]) (rest := [.long r_53.toInt64]) ⟨hx, hb, hml, hown, hg⟩ (c_C_trees l dC dI cA aC aCn aCc aCr aCs aG aR aRt vCF vCn vRL vRt r_78 p2 vFE g_86) (cwV 3 hg (q_gV mw_501 mw_385 mw_386 mw_4 mw_387) rfl rfl rfl qh_C_trees ⟨Nat.le_of_ble_eq_true rfl, Nat.le_of_ble_eq_true rfl⟩) hN hK hP [1, 2, 5, 6] rfl 0 0 rfl rfl rfl hl.1 rfl (Nat.le_of_ble_eq_true rfl) qd_F_splitTrees_86 ⟨Nat.zero_le _, Nat.zero_le _⟩ ?_
  refine lv_topi (fun r_86 w_86 => ?_)
  have hres := hres.trans (bd_eq w_86)
  have ho := (bd_eq w_86).mp ho
  refine lv_i2l hx hb qd_F_splitTrees_89 rfl ?_
  refine lv_lmul hx hb qd_F_splitTrees_90 ?_
  refine lv_lstore (lv' := [(4, .long (r_53.toInt64 * r_86.toInt64)), (0, .ref aF), (1, .int p0), (2, .int p1), (3, .int p2)]) hx hb qd_F_splitTrees_91 hl (by decide) rfl (fun ls hl => ?_)
  refine lv_lload hx hb qd_F_splitTrees_93 (lv_at hl 0 rfl) ?_
  refine xc_N (As := [.long (r_53.toInt64 * r_86.toInt64)]) (rest := []) ⟨hx, hb, hml, hown, hg⟩ (c_H_atMostMany l dC dI cA (r_53.toInt64 * r_86.toInt64)) (⟨va_cnB 1 hg (q_gC mw_400) rfl rfl rfl (hN _ nw_8) (hg _ mw_1) qh_H_atMostMany.2 ⟨Nat.le_of_ble_eq_true rfl, Nat.le_of_ble_eq_true rfl⟩, hg _ mw_399, trivial⟩) hN hK hP [] rfl rfl hl.1 rfl (Nat.le_of_ble_eq_true rfl) qd_F_splitTrees_95 ⟨Nat.zero_le _, Nat.zero_le _⟩ ?_
  refine lv_topi (fun r_95 w_95 => ?_)
  have hres := hres.trans (bd_eq w_95)
  have ho := (bd_eq w_95).mp ho
  exact W.iret (v := r_95) hx hb hr (fun t ht hW => ⟨_, rfl, hres.symm, ht⟩) (fun _ h => nomatch h) qd_F_splitTrees_98
theorem qd_F_splitCost_0 : decode qc_F_splitCost 0 = .ok (.aload_n 0, 1) := by decide +kernel
theorem qd_F_splitCost_1 : decode qc_F_splitCost 1 = .ok (.getfield 49, 3) := by decide +kernel
theorem qd_F_splitCost_4 : decode qc_F_splitCost 4 = .ok (.iload_n 1, 1) := by decide +kernel
theorem qd_F_splitCost_5 : decode qc_F_splitCost 5 = .ok (.invokevirtual 138, 3) := by decide +kernel
theorem qd_F_splitCost_8 : decode qc_F_splitCost 8 = .ok (.aload_n 0, 1) := by decide +kernel
theorem qd_F_splitCost_9 : decode qc_F_splitCost 9 = .ok (.getfield 53, 3) := by decide +kernel
theorem qd_F_splitCost_12 : decode qc_F_splitCost 12 = .ok (.aload_n 0, 1) := by decide +kernel
theorem qd_F_splitCost_13 : decode qc_F_splitCost 13 = .ok (.getfield 49, 3) := by decide +kernel
theorem qd_F_splitCost_16 : decode qc_F_splitCost 16 = .ok (.iload_n 1, 1) := by decide +kernel
theorem qd_F_splitCost_17 : decode qc_F_splitCost 17 = .ok (.iconst 0, 1) := by decide +kernel
theorem qd_F_splitCost_18 : decode qc_F_splitCost 18 = .ok (.invokevirtual 128, 3) := by decide +kernel
theorem qd_F_splitCost_21 : decode qc_F_splitCost 21 = .ok (.aload_n 0, 1) := by decide +kernel
theorem qd_F_splitCost_22 : decode qc_F_splitCost 22 = .ok (.getfield 31, 3) := by decide +kernel
theorem qd_F_splitCost_25 : decode qc_F_splitCost 25 = .ok (.iload_n 2, 1) := by decide +kernel
theorem qd_F_splitCost_26 : decode qc_F_splitCost 26 = .ok (.invokevirtual 72, 3) := by decide +kernel
theorem qd_F_splitCost_29 : decode qc_F_splitCost 29 = .ok (.iadd, 1) := by decide +kernel
theorem qd_F_splitCost_30 : decode qc_F_splitCost 30 = .ok (.aload_n 0, 1) := by decide +kernel
theorem qd_F_splitCost_31 : decode qc_F_splitCost 31 = .ok (.getfield 53, 3) := by decide +kernel
theorem qd_F_splitCost_34 : decode qc_F_splitCost 34 = .ok (.aload_n 0, 1) := by decide +kernel
theorem qd_F_splitCost_35 : decode qc_F_splitCost 35 = .ok (.getfield 49, 3) := by decide +kernel
theorem qd_F_splitCost_38 : decode qc_F_splitCost 38 = .ok (.iload_n 1, 1) := by decide +kernel
theorem qd_F_splitCost_39 : decode qc_F_splitCost 39 = .ok (.iconst 1, 1) := by decide +kernel
theorem qd_F_splitCost_40 : decode qc_F_splitCost 40 = .ok (.invokevirtual 128, 3) := by decide +kernel
theorem qd_F_splitCost_43 : decode qc_F_splitCost 43 = .ok (.iload_n 2, 1) := by decide +kernel
theorem qd_F_splitCost_44 : decode qc_F_splitCost 44 = .ok (.iload_n 3, 1) := by decide +kernel
theorem qd_F_splitCost_45 : decode qc_F_splitCost 45 = .ok (.invokevirtual 72, 3) := by decide +kernel
theorem qd_F_splitCost_48 : decode qc_F_splitCost 48 = .ok (.iadd, 1) := by decide +kernel
theorem qd_F_splitCost_49 : decode qc_F_splitCost 49 = .ok (.aload_n 0, 1) := by decide +kernel
theorem qd_F_splitCost_50 : decode qc_F_splitCost 50 = .ok (.getfield 53, 3) := by decide +kernel
theorem qd_F_splitCost_53 : decode qc_F_splitCost 53 = .ok (.aload_n 0, 1) := by decide +kernel
theorem qd_F_splitCost_54 : decode qc_F_splitCost 54 = .ok (.getfield 49, 3) := by decide +kernel
theorem qd_F_splitCost_57 : decode qc_F_splitCost 57 = .ok (.iload_n 1, 1) := by decide +kernel
theorem qd_F_splitCost_58 : decode qc_F_splitCost 58 = .ok (.iconst 2, 1) := by decide +kernel
theorem qd_F_splitCost_59 : decode qc_F_splitCost 59 = .ok (.invokevirtual 128, 3) := by decide +kernel
theorem qd_F_splitCost_62 : decode qc_F_splitCost 62 = .ok (.iload_n 3, 1) := by decide +kernel
theorem qd_F_splitCost_63 : decode qc_F_splitCost 63 = .ok (.aload_n 0, 1) := by decide +kernel
theorem qd_F_splitCost_64 : decode qc_F_splitCost 64 = .ok (.getfield 34, 3) := by decide +kernel
theorem qd_F_splitCost_67 : decode qc_F_splitCost 67 = .ok (.invokevirtual 72, 3) := by decide +kernel
theorem qd_F_splitCost_70 : decode qc_F_splitCost 70 = .ok (.iadd, 1) := by decide +kernel
theorem qd_F_splitCost_71 : decode qc_F_splitCost 71 = .ok (.ireturn, 1) := by decide +kernel
set_option maxHeartbeats 4000000 in
set_option maxRecDepth 100000 in
theorem c_F_splitCost (l : Launch) (dC : Nat → ClassId) (dI : Nat → Nat → Nat) (cA : ClassId) (aF aFs aFf aFt aFn aFd aC aCn aCc aCr aCs aG aGh aGi aGc aGo aGr aR : Nat) (vFW : Int32) (vFB : Int32) (vFE : Int32) (vFN : Int32) (vFL : Int32) (vFX : Int32) (vFY : Int32) (vCF : Int32) (vCc : (Nat → Int32)) (vGF : Int32) (vGS : Int32) (vGi : (Nat → Int32)) (vGc : (Nat → Int32)) (p0 : Int32) (p1 : Int32) (p2 : Int32) (ho : o_F_splitCost vFB vFE vCc vGS vGi vGc p0 p1 p2) : Met l qy_F_splitCost qw_F_splitCost ({ frames := 2, cells := 0, slots := 0, locals := 46 }) (va_Pc [.ref aF, .int p0, .int p1, .int p2] (xP (dC, dI) [(cA, .int)] [(aF, .inr (1, [.ref aG, .ref aC, .ref aFs, .ref aFf, .ref aFt, .ref aFn, .ref aFd, .int vFW, .int vFB, .int vFE, .int vFN, .int vFL, .int vFX, .int vFY])), (aC, .inr (0, [.ref aG, .ref aR, .ref aCn, .ref aCc, .ref aCr, .ref aCs, .int vCF])), (aCc, .inl (cA, 5760, .inl (vCc))), (aG, .inr (2, [.ref aGh, .ref aGi, .ref aGc, .ref aGo, .ref aGr, .int vGF, .int vGS])), (aGi, .inl (cA, 72, .inl (vGi))), (aGc, .inl (cA, 24, .inl (vGc)))] nestN)) (vp_Si (fun r => r = f_F_splitCost vFB vFE vCc vGS vGi vGc p0 p1 p2)) 0 0 (fun _ => False) := by
  refine Met.ofW (cc := qc_F_splitCost) (maxL := 4) (ret := (some .int)) (by decide) rfl ?_
  intro p e s m args below meth c s₁ B hml hv
  obtain ⟨rfl, hP, hK, hN⟩ := hv
  have hx := B.exec
  have hb := B.bytes
  have hr := B.returns
  have hts := atoms_spec (ws := qw_F_splitCost) B.pre
  have hg : ∀ w ∈ gG, w.before _ s = true := fun w h => hts w (List.mem_cons_of_mem _ h)
  have hown : s.vm.findClass qR_F = some m.cls := findClass_of_methodNamed B.named
  have hlocks := B.notSynchronized
  have hP : va_P (dC, dI) vwCl [(aF, .inr (1, [.ref aG, .ref aC, .ref aFs, .ref aFf, .ref aFt, .ref aFn, .ref aFd, .int vFW, .int vFB, .int vFE, .int vFN, .int vFL, .int vFX, .int vFY])), (aC, .inr (0, [.ref aG, .ref aR, .ref aCn, .ref aCc, .ref aCr, .ref aCs, .int vCF])), (aCc, .inl (cA, 5760, .inl (vCc))), (aG, .inr (2, [.ref aGh, .ref aGi, .ref aGc, .ref aGo, .ref aGr, .int vGF, .int vGS])), (aGi, .inl (cA, 72, .inl (vGi))), (aGc, .inl (cA, 24, .inl (vGc)))] s.heap := hP
  have hl := lv_entry ([.ref aF, .int p0, .int p1, .int p2]) (n := 4) (Nat.le_of_ble_eq_true rfl)
  rw [lg_entry_eq]
  generalize (lg_sl ([.ref aF, .int p0, .int p1, .int p2]) ++ List.replicate (4 - (lg_sl ([.ref aF, .int p0, .int p1, .int p2])).length) Slot.unset).toArray = ls at hl ⊢
  have hl : lv_has ls 4 [(0, .ref aF), (1, .int p0), (2, .int p1), (3, .int p2)] := hl
  generalize hF : f_F_splitCost vFB vFE vCc vGS vGi vGc p0 p1 p2 = Fv
  have hres : Fv = f_F_splitCost vFB vFE vCc vGS vGi vGc p0 p1 p2 := hF.symm
  unfold f_F_splitCost at hres
  unfold o_F_splitCost at ho
  refine lv_aload_n hx hb qd_F_splitCost_0 rfl (lv_at hl 0 rfl) ?_
  refine va_get (D := (dC, dI)) (ci := 1) (v := .ref aG) (C := qR_F) (T := qT_F) (N := 14) hx hb hg qi_F hown hK hP 0 rfl rfl 0 (by decide) (hg _ mw_91) (fun _ h9 => h9) rfl qd_F_splitCost_1 ?_
  refine lv_iload_n hx hb qd_F_splitCost_4 rfl (lv_at hl 1 rfl) ?_
  obtain ⟨g_5, ho⟩ := ho
  refine xc_V (As := [.int p0]) (rest := []) ⟨hx, hb, hml, hown, hg⟩ (c_G_ownCost l dC dI cA aG aGh aGi aGc aGo aGr vGF vGS vGc p0 g_5) (cwV 1 hg (q_gV mw_505 mw_435 mw_436 mw_2 mw_437) rfl rfl rfl qh_G_ownCost ⟨Nat.le_of_ble_eq_true rfl, Nat.le_of_ble_eq_true rfl⟩) hN hK hP [3, 5] rfl 0 2 rfl rfl rfl hl.1 rfl (Nat.le_of_ble_eq_true rfl) qd_F_splitCost_5 ⟨Nat.zero_le _, Nat.zero_le _⟩ ?_
  refine lv_topi (fun r_5 w_5 => ?_)
  have hres := hres.trans (bd_eq w_5)
  have ho := (bd_eq w_5).mp ho
  refine lv_aload_n hx hb qd_F_splitCost_8 rfl (lv_at hl 0 rfl) ?_
  refine va_get (D := (dC, dI)) (ci := 1) (v := .ref aC) (C := qR_F) (T := qT_F) (N := 14) hx hb hg qi_F hown hK hP 0 rfl rfl 1 (by decide) (hg _ mw_92) (fun _ h9 => h9) rfl qd_F_splitCost_9 ?_
  refine lv_aload_n hx hb qd_F_splitCost_12 rfl (lv_at hl 0 rfl) ?_
  refine va_get (D := (dC, dI)) (ci := 1) (v := .ref aG) (C := qR_F) (T := qT_F) (N := 14) hx hb hg qi_F hown hK hP 0 rfl rfl 0 (by decide) (hg _ mw_91) (fun _ h9 => h9) rfl qd_F_splitCost_13 ?_
  refine lv_iload_n hx hb qd_F_splitCost_16 rfl (lv_at hl 1 rfl) ?_
  refine lv_iconst (v := 0) hx hb qd_F_splitCost_17 (by decide) ?_
  obtain ⟨g_18, ho⟩ := ho
  refine xc_V (As := [.int p0, .int 0]) (rest := [.ref aC, .int r_5]) ⟨hx, hb, hml, hown, hg⟩ (c_G_item l dC dI cA aG aGh aGi aGc aGo aGr vGF vGS vGi p0 0 g_18) (cwV 2 hg (q_gV mw_500 mw_301 mw_302 mw_2 mw_303) rfl rfl rfl qh_G_item ⟨Nat.le_of_ble_eq_true rfl, Nat.le_of_ble_eq_true rfl⟩) hN hK hP [3, 4] rfl 0 2 rfl rfl rfl hl.1 rfl (Nat.le_of_ble_eq_true rfl) qd_F_splitCost_18 ⟨Nat.zero_le _, Nat.zero_le _⟩ ?_
  refine lv_topi (fun r_18 w_18 => ?_)
  have hres := hres.trans (bd_eq w_18)
  have ho := (bd_eq w_18).mp ho
  refine lv_aload_n hx hb qd_F_splitCost_21 rfl (lv_at hl 0 rfl) ?_
  refine va_get (D := (dC, dI)) (ci := 1) (v := .int vFB) (C := qR_F) (T := qT_F) (N := 14) hx hb hg qi_F hown hK hP 0 rfl rfl 8 (by decide) (hg _ mw_99) (fun _ h9 => h9) rfl qd_F_splitCost_22 ?_
  refine lv_iload_n hx hb qd_F_splitCost_25 rfl (lv_at hl 2 rfl) ?_
  obtain ⟨g_26, ho⟩ := ho
  refine xc_V (As := [.int r_18, .int vFB, .int p1]) (rest := [.int r_5]) ⟨hx, hb, hml, hown, hg⟩ (c_C_leastCost l dC dI cA aC aCn aCc aCr aCs aG aR vCF vCc r_18 vFB p1 g_26) (cwV 3 hg (q_gV mw_481 mw_396 mw_397 mw_4 mw_398) rfl rfl rfl qh_C_leastCost ⟨Nat.le_of_ble_eq_true rfl, Nat.le_of_ble_eq_true rfl⟩) hN hK hP [1, 2] rfl 0 0 rfl rfl rfl hl.1 rfl (Nat.le_of_ble_eq_true rfl) qd_F_splitCost_26 ⟨Nat.zero_le _, Nat.zero_le _⟩ ?_
  refine lv_topi (fun r_26 w_26 => ?_)
  have hres := hres.trans (bd_eq w_26)
  have ho := (bd_eq w_26).mp ho
  refine lv_iadd hx hb qd_F_splitCost_29 ?_
  refine lv_aload_n hx hb qd_F_splitCost_30 rfl (lv_at hl 0 rfl) ?_
  refine va_get (D := (dC, dI)) (ci := 1) (v := .ref aC) (C := qR_F) (T := qT_F) (N := 14) hx hb hg qi_F hown hK hP 0 rfl rfl 1 (by decide) (hg _ mw_92) (fun _ h9 => h9) rfl qd_F_splitCost_31 ?_
  refine lv_aload_n hx hb qd_F_splitCost_34 rfl (lv_at hl 0 rfl) ?_
  refine va_get (D := (dC, dI)) (ci := 1) (v := .ref aG) (C := qR_F) (T := qT_F) (N := 14) hx hb hg qi_F hown hK hP 0 rfl rfl 0 (by decide) (hg _ mw_91) (fun _ h9 => h9) rfl qd_F_splitCost_35 ?_
  refine lv_iload_n hx hb qd_F_splitCost_38 rfl (lv_at hl 1 rfl) ?_
  refine lv_iconst (v := 1) hx hb qd_F_splitCost_39 (by decide) ?_
  obtain ⟨g_40, ho⟩ := ho
  refine xc_V (As := [.int p0, .int 1]) (rest := [.ref aC, .int (r_5 + r_26)]) ⟨hx, hb, hml, hown, hg⟩ (c_G_item l dC dI cA aG aGh aGi aGc aGo aGr vGF vGS vGi p0 1 g_40) (cwV 2 hg (q_gV mw_500 mw_301 mw_302 mw_2 mw_303) rfl rfl rfl qh_G_item ⟨Nat.le_of_ble_eq_true rfl, Nat.le_of_ble_eq_true rfl⟩) hN hK hP [3, 4] rfl 0 2 rfl rfl rfl hl.1 rfl (Nat.le_of_ble_eq_true rfl) qd_F_splitCost_40 ⟨Nat.zero_le _, Nat.zero_le _⟩ ?_
  refine lv_topi (fun r_40 w_40 => ?_)
  have hres := hres.trans (bd_eq w_40)
  have ho := (bd_eq w_40).mp ho
  refine lv_iload_n hx hb qd_F_splitCost_43 rfl (lv_at hl 2 rfl) ?_
  refine lv_iload_n hx hb qd_F_splitCost_44 rfl (lv_at hl 3 rfl) ?_
  obtain ⟨g_45, ho⟩ := ho
  refine xc_V (As := [.int r_40, .int p1, .int p2]) (rest := [.int (r_5 + r_26)]) ⟨hx, hb, hml, hown, hg⟩ (c_C_leastCost l dC dI cA aC aCn aCc aCr aCs aG aR vCF vCc r_40 p1 p2 g_45) (cwV 3 hg (q_gV mw_481 mw_396 mw_397 mw_4 mw_398) rfl rfl rfl qh_C_leastCost ⟨Nat.le_of_ble_eq_true rfl, Nat.le_of_ble_eq_true rfl⟩) hN hK hP [1, 2] rfl 0 0 rfl rfl rfl hl.1 rfl (Nat.le_of_ble_eq_true rfl) qd_F_splitCost_45 ⟨Nat.zero_le _, Nat.zero_le _⟩ ?_
  refine lv_topi (fun r_45 w_45 => ?_)
  have hres := hres.trans (bd_eq w_45)
  have ho := (bd_eq w_45).mp ho
  refine lv_iadd hx hb qd_F_splitCost_48 ?_
  refine lv_aload_n hx hb qd_F_splitCost_49 rfl (lv_at hl 0 rfl) ?_
  refine va_get (D := (dC, dI)) (ci := 1) (v := .ref aC) (C := qR_F) (T := qT_F) (N := 14) hx hb hg qi_F hown hK hP 0 rfl rfl 1 (by decide) (hg _ mw_92) (fun _ h9 => h9) rfl qd_F_splitCost_50 ?_
  refine lv_aload_n hx hb qd_F_splitCost_53 rfl (lv_at hl 0 rfl) ?_
  refine va_get (D := (dC, dI)) (ci := 1) (v := .ref aG) (C := qR_F) (T := qT_F) (N := 14) hx hb hg qi_F hown hK hP 0 rfl rfl 0 (by decide) (hg _ mw_91) (fun _ h9 => h9) rfl qd_F_splitCost_54 ?_
  refine lv_iload_n hx hb qd_F_splitCost_57 rfl (lv_at hl 1 rfl) ?_
  refine lv_iconst (v := 2) hx hb qd_F_splitCost_58 (by decide) ?_
  obtain ⟨g_59, ho⟩ := ho
  refine xc_V (As := [.int p0, .int 2]) (rest := [.ref aC, .int ((r_5 + r_26) + r_45)]) ⟨hx, hb, hml, hown, hg⟩ (c_G_item l dC dI cA aG aGh aGi aGc aGo aGr vGF vGS vGi p0 2 g_59) (cwV 2 hg (q_gV mw_500 mw_301 mw_302 mw_2 mw_303) rfl rfl rfl qh_G_item ⟨Nat.le_of_ble_eq_true rfl, Nat.le_of_ble_eq_true rfl⟩) hN hK hP [3, 4] rfl 0 2 rfl rfl rfl hl.1 rfl (Nat.le_of_ble_eq_true rfl) qd_F_splitCost_59 ⟨Nat.zero_le _, Nat.zero_le _⟩ ?_
  refine lv_topi (fun r_59 w_59 => ?_)
  have hres := hres.trans (bd_eq w_59)
  have ho := (bd_eq w_59).mp ho
  refine lv_iload_n hx hb qd_F_splitCost_62 rfl (lv_at hl 3 rfl) ?_
  refine lv_aload_n hx hb qd_F_splitCost_63 rfl (lv_at hl 0 rfl) ?_
  refine va_get (D := (dC, dI)) (ci := 1) (v := .int vFE) (C := qR_F) (T := qT_F) (N := 14) hx hb hg qi_F hown hK hP 0 rfl rfl 9 (by decide) (hg _ mw_100) (fun _ h9 => h9) rfl qd_F_splitCost_64 ?_
  obtain ⟨g_67, ho⟩ := ho
  refine xc_V (As := [.int r_59, .int p2, .int vFE]) (rest := [.int ((r_5 + r_26) + r_45)]) ⟨hx, hb, hml, hown, hg⟩ (c_C_leastCost l dC dI cA aC aCn aCc aCr aCs aG aR vCF vCc r_59 p2 vFE g_67) (cwV 3 hg (q_gV mw_481 mw_396 mw_397 mw_4 mw_398) rfl rfl rfl qh_C_leastCost ⟨Nat.le_of_ble_eq_true rfl, Nat.le_of_ble_eq_true rfl⟩) hN hK hP [1, 2] rfl 0 0 rfl rfl rfl hl.1 rfl (Nat.le_of_ble_eq_true rfl) qd_F_splitCost_67 ⟨Nat.zero_le _, Nat.zero_le _⟩ ?_
  refine lv_topi (fun r_67 w_67 => ?_)
  have hres := hres.trans (bd_eq w_67)
  have ho := (bd_eq w_67).mp ho
  refine lv_iadd hx hb qd_F_splitCost_70 ?_
  exact W.iret (v := ((r_5 + r_26) + r_45) + r_67) hx hb hr (fun t ht hW => ⟨_, rfl, hres.symm, ht⟩) (fun _ h => nomatch h) qd_F_splitCost_71
theorem qd_F_isWithin_0 : decode qc_F_isWithin 0 = .ok (.aload_n 0, 1) := by decide +kernel
theorem qd_F_isWithin_1 : decode qc_F_isWithin 1 = .ok (.iload_n 1, 1) := by decide +kernel
theorem qd_F_isWithin_2 : decode qc_F_isWithin 2 = .ok (.iload_n 2, 1) := by decide +kernel
theorem qd_F_isWithin_3 : decode qc_F_isWithin 3 = .ok (.iload_n 3, 1) := by decide +kernel
theorem qd_F_isWithin_4 : decode qc_F_isWithin 4 = .ok (.invokevirtual 122, 3) := by decide +kernel
theorem qd_F_isWithin_7 : decode qc_F_isWithin 7 = .ok (.istore 4, 2) := by decide +kernel
theorem qd_F_isWithin_9 : decode qc_F_isWithin 9 = .ok (.aload_n 0, 1) := by decide +kernel
theorem qd_F_isWithin_10 : decode qc_F_isWithin 10 = .ok (.getfield 37, 3) := by decide +kernel
theorem qd_F_isWithin_13 : decode qc_F_isWithin 13 = .ok (.iconst (-1), 1) := by decide +kernel
theorem qd_F_isWithin_14 : decode qc_F_isWithin 14 = .ok (.if_icmp .ne 28, 3) := by decide +kernel
theorem qd_F_isWithin_17 : decode qc_F_isWithin 17 = .ok (.iload 4, 2) := by decide +kernel
theorem qd_F_isWithin_19 : decode qc_F_isWithin 19 = .ok (.ifCond .le 21, 3) := by decide +kernel
theorem qd_F_isWithin_22 : decode qc_F_isWithin 22 = .ok (.aload_n 0, 1) := by decide +kernel
theorem qd_F_isWithin_23 : decode qc_F_isWithin 23 = .ok (.iload_n 1, 1) := by decide +kernel
theorem qd_F_isWithin_24 : decode qc_F_isWithin 24 = .ok (.iload_n 2, 1) := by decide +kernel
theorem qd_F_isWithin_25 : decode qc_F_isWithin 25 = .ok (.iload_n 3, 1) := by decide +kernel
theorem qd_F_isWithin_26 : decode qc_F_isWithin 26 = .ok (.invokevirtual 125, 3) := by decide +kernel
theorem qd_F_isWithin_29 : decode qc_F_isWithin 29 = .ok (.aload_n 0, 1) := by decide +kernel
theorem qd_F_isWithin_30 : decode qc_F_isWithin 30 = .ok (.getfield 40, 3) := by decide +kernel
theorem qd_F_isWithin_33 : decode qc_F_isWithin 33 = .ok (.if_icmp .ne 7, 3) := by decide +kernel
theorem qd_F_isWithin_36 : decode qc_F_isWithin 36 = .ok (.iconst 1, 1) := by decide +kernel
theorem qd_F_isWithin_37 : decode qc_F_isWithin 37 = .ok (.goto 4, 3) := by decide +kernel
theorem qd_F_isWithin_40 : decode qc_F_isWithin 40 = .ok (.iconst 0, 1) := by decide +kernel
theorem qd_F_isWithin_41 : decode qc_F_isWithin 41 = .ok (.ireturn, 1) := by decide +kernel
theorem qd_F_isWithin_42 : decode qc_F_isWithin 42 = .ok (.aload_n 0, 1) := by decide +kernel
theorem qd_F_isWithin_43 : decode qc_F_isWithin 43 = .ok (.getfield 37, 3) := by decide +kernel
theorem qd_F_isWithin_46 : decode qc_F_isWithin 46 = .ok (.iload 4, 2) := by decide +kernel
theorem qd_F_isWithin_48 : decode qc_F_isWithin 48 = .ok (.if_icmp .ge 5, 3) := by decide +kernel
theorem qd_F_isWithin_51 : decode qc_F_isWithin 51 = .ok (.iconst 1, 1) := by decide +kernel
theorem qd_F_isWithin_52 : decode qc_F_isWithin 52 = .ok (.ireturn, 1) := by decide +kernel
theorem qd_F_isWithin_53 : decode qc_F_isWithin 53 = .ok (.aload_n 0, 1) := by decide +kernel
theorem qd_F_isWithin_54 : decode qc_F_isWithin 54 = .ok (.dup, 1) := by decide +kernel
theorem qd_F_isWithin_55 : decode qc_F_isWithin 55 = .ok (.getfield 37, 3) := by decide +kernel
theorem qd_F_isWithin_58 : decode qc_F_isWithin 58 = .ok (.iload 4, 2) := by decide +kernel
theorem qd_F_isWithin_60 : decode qc_F_isWithin 60 = .ok (.isub, 1) := by decide +kernel
theorem qd_F_isWithin_61 : decode qc_F_isWithin 61 = .ok (.putfield 37, 3) := by decide +kernel
theorem qd_F_isWithin_64 : decode qc_F_isWithin 64 = .ok (.iconst 0, 1) := by decide +kernel
theorem qd_F_isWithin_65 : decode qc_F_isWithin 65 = .ok (.ireturn, 1) := by decide +kernel
set_option maxHeartbeats 4000000 in
set_option maxRecDepth 100000 in
theorem c_F_isWithin (l : Launch) (dC : Nat → ClassId) (dI : Nat → Nat → Nat) (cA : ClassId) (aF aFs aFf aFt aFn aFd aC aCn aCc aCr aCs aG aGh aGi aGc aGo aGr aR aRt : Nat) (sz : Nat) (vFW : Int32) (vFB : Int32) (vFE : Int32) (vFN : Int32) (vFL : Int32) (vFX : Int32) (vFY : Int32) (vCF : Int32) (vCn : (Nat → Int32)) (vCc : (Nat → Int32)) (vGF : Int32) (vGS : Int32) (vGi : (Nat → Int32)) (vGc : (Nat → Int32)) (vRL : Int32) (vRt : (Nat → Int32)) (p0 : Int32) (p1 : Int32) (p2 : Int32) (ho : o_F_isWithin vFB vFE vFN vFL vCn vCc vGS vGi vGc vRL vRt p0 p1 p2) : Met l qy_F_isWithin qw_F_isWithin ({ frames := 3, cells := 0, slots := 0, locals := 71 }) (va_Pc [.ref aF, .int p0, .int p1, .int p2] (fun U => U.heap.size = sz ∧ xP (dC, dI) [(cA, .int)] [(aF, .inr (1, [.ref aG, .ref aC, .ref aFs, .ref aFf, .ref aFt, .ref aFn, .ref aFd, .int vFW, .int vFB, .int vFE, .int vFN, .int vFL, .int vFX, .int vFY])), (aC, .inr (0, [.ref aG, .ref aR, .ref aCn, .ref aCc, .ref aCr, .ref aCs, .int vCF])), (aCn, .inl (cA, 5760, .inl (vCn))), (aCc, .inl (cA, 5760, .inl (vCc))), (aG, .inr (2, [.ref aGh, .ref aGi, .ref aGc, .ref aGo, .ref aGr, .int vGF, .int vGS])), (aGi, .inl (cA, 72, .inl (vGi))), (aGc, .inl (cA, 24, .inl (vGc))), (aR, .inr (4, [.ref aRt, .int vRL])), (aRt, .inl (cA, 24, .inl (vRt)))] nestN U ∧ va_D (fun _ => True) [(aF, .inr (1, [.ref aG, .ref aC, .ref aFs, .ref aFf, .ref aFt, .ref aFn, .ref aFd, .int vFW, .int vFB, .int vFE, .int vFN, .int vFL, .int vFX, .int vFY])), (aC, .inr (0, [.ref aG, .ref aR, .ref aCn, .ref aCc, .ref aCr, .ref aCs, .int vCF])), (aCn, .inl (cA, 5760, .inl (vCn))), (aCc, .inl (cA, 5760, .inl (vCc))), (aG, .inr (2, [.ref aGh, .ref aGi, .ref aGc, .ref aGo, .ref aGr, .int vGF, .int vGS])), (aGi, .inl (cA, 72, .inl (vGi))), (aGc, .inl (cA, 24, .inl (vGc))), (aR, .inr (4, [.ref aRt, .int vRL])), (aRt, .inl (cA, 24, .inl (vRt)))])) (va_Qi (fun r (u : Int32 × Int32) => u = f_F_isWithin vFB vFE vFN vFL vCn vCc vGS vGi vGc vRL vRt p0 p1 p2 ∧ r = u.1) (fun (u : Int32 × Int32) t => xP (dC, dI) [(cA, .int)] [(aF, .inr (1, [.ref aG, .ref aC, .ref aFs, .ref aFf, .ref aFt, .ref aFn, .ref aFd, .int vFW, .int vFB, .int vFE, .int u.2, .int vFL, .int vFX, .int vFY])), (aC, .inr (0, [.ref aG, .ref aR, .ref aCn, .ref aCc, .ref aCr, .ref aCs, .int vCF])), (aCn, .inl (cA, 5760, .inl (vCn))), (aCc, .inl (cA, 5760, .inl (vCc))), (aG, .inr (2, [.ref aGh, .ref aGi, .ref aGc, .ref aGo, .ref aGr, .int vGF, .int vGS])), (aGi, .inl (cA, 72, .inl (vGi))), (aGc, .inl (cA, 24, .inl (vGc))), (aR, .inr (4, [.ref aRt, .int vRL])), (aRt, .inl (cA, 24, .inl (vRt)))] nestN t ∧ va_D (va_A [(aF, .inr (1, [.ref aG, .ref aC, .ref aFs, .ref aFf, .ref aFt, .ref aFn, .ref aFd, .int vFW, .int vFB, .int vFE, .int vFN, .int vFL, .int vFX, .int vFY])), (aC, .inr (0, [.ref aG, .ref aR, .ref aCn, .ref aCc, .ref aCr, .ref aCs, .int vCF])), (aCn, .inl (cA, 5760, .inl (vCn))), (aCc, .inl (cA, 5760, .inl (vCc))), (aG, .inr (2, [.ref aGh, .ref aGi, .ref aGc, .ref aGo, .ref aGr, .int vGF, .int vGS])), (aGi, .inl (cA, 72, .inl (vGi))), (aGc, .inl (cA, 24, .inl (vGc))), (aR, .inr (4, [.ref aRt, .int vRL])), (aRt, .inl (cA, 24, .inl (vRt)))] sz) [(aF, .inr (1, [.ref aG, .ref aC, .ref aFs, .ref aFf, .ref aFt, .ref aFn, .ref aFd, .int vFW, .int vFB, .int vFE, .int u.2, .int vFL, .int vFX, .int vFY])), (aC, .inr (0, [.ref aG, .ref aR, .ref aCn, .ref aCc, .ref aCr, .ref aCs, .int vCF])), (aCn, .inl (cA, 5760, .inl (vCn))), (aCc, .inl (cA, 5760, .inl (vCc))), (aG, .inr (2, [.ref aGh, .ref aGi, .ref aGc, .ref aGo, .ref aGr, .int vGF, .int vGS])), (aGi, .inl (cA, 72, .inl (vGi))), (aGc, .inl (cA, 24, .inl (vGc))), (aR, .inr (4, [.ref aRt, .int vRL])), (aRt, .inl (cA, 24, .inl (vRt)))]) (va_A [(aF, .inr (1, [.ref aG, .ref aC, .ref aFs, .ref aFf, .ref aFt, .ref aFn, .ref aFd, .int vFW, .int vFB, .int vFE, .int vFN, .int vFL, .int vFX, .int vFY])), (aC, .inr (0, [.ref aG, .ref aR, .ref aCn, .ref aCc, .ref aCr, .ref aCs, .int vCF])), (aCn, .inl (cA, 5760, .inl (vCn))), (aCc, .inl (cA, 5760, .inl (vCc))), (aG, .inr (2, [.ref aGh, .ref aGi, .ref aGc, .ref aGo, .ref aGr, .int vGF, .int vGS])), (aGi, .inl (cA, 72, .inl (vGi))), (aGc, .inl (cA, 24, .inl (vGc))), (aR, .inr (4, [.ref aRt, .int vRL])), (aRt, .inl (cA, 24, .inl (vRt)))] sz)) 0 0 (va_A [(aF, .inr (1, [.ref aG, .ref aC, .ref aFs, .ref aFf, .ref aFt, .ref aFn, .ref aFd, .int vFW, .int vFB, .int vFE, .int vFN, .int vFL, .int vFX, .int vFY])), (aC, .inr (0, [.ref aG, .ref aR, .ref aCn, .ref aCc, .ref aCr, .ref aCs, .int vCF])), (aCn, .inl (cA, 5760, .inl (vCn))), (aCc, .inl (cA, 5760, .inl (vCc))), (aG, .inr (2, [.ref aGh, .ref aGi, .ref aGc, .ref aGo, .ref aGr, .int vGF, .int vGS])), (aGi, .inl (cA, 72, .inl (vGi))), (aGc, .inl (cA, 24, .inl (vGc))), (aR, .inr (4, [.ref aRt, .int vRL])), (aRt, .inl (cA, 24, .inl (vRt)))] sz) := by
  refine Met.ofW (cc := qc_F_isWithin) (maxL := 5) (ret := (some .boolean)) (by decide) rfl ?_
  intro p e s m args below meth c s₁ B hml hv
  obtain ⟨rfl, hsz, ⟨hP, hK, hN⟩, hD0⟩ := hv
  have hx := B.exec
  have hb := B.bytes
  have hr := B.returns
  have hts := atoms_spec (ws := qw_F_isWithin) B.pre
  have hg : ∀ w ∈ gG, w.before _ s = true := fun w h => hts w (List.mem_cons_of_mem _ h)
  have hown : s.vm.findClass qR_F = some m.cls := findClass_of_methodNamed B.named
  have hlocks := B.notSynchronized
  subst hsz
  have hD := hD0.self (sz := s.heap.size)
  generalize hAe : va_A [(aF, .inr (1, [.ref aG, .ref aC, .ref aFs, .ref aFf, .ref aFt, .ref aFn, .ref aFd, .int vFW, .int vFB, .int vFE, .int vFN, .int vFL, .int vFX, .int vFY])), (aC, .inr (0, [.ref aG, .ref aR, .ref aCn, .ref aCc, .ref aCr, .ref aCs, .int vCF])), (aCn, .inl (cA, 5760, .inl (vCn))), (aCc, .inl (cA, 5760, .inl (vCc))), (aG, .inr (2, [.ref aGh, .ref aGi, .ref aGc, .ref aGo, .ref aGr, .int vGF, .int vGS])), (aGi, .inl (cA, 72, .inl (vGi))), (aGc, .inl (cA, 24, .inl (vGc))), (aR, .inr (4, [.ref aRt, .int vRL])), (aRt, .inl (cA, 24, .inl (vRt)))] s.heap.size = A at hD ⊢
  have hA : ∀ q : Nat, s.heap.size ≤ q → A q := fun q h => by rw [← hAe]; exact Or.inr h
  have hS : va_S A s.heap s.heap [] := va_S.rf
  have hP : va_P (dC, dI) vwCl [(aF, .inr (1, [.ref aG, .ref aC, .ref aFs, .ref aFf, .ref aFt, .ref aFn, .ref aFd, .int vFW, .int vFB, .int vFE, .int vFN, .int vFL, .int vFX, .int vFY])), (aC, .inr (0, [.ref aG, .ref aR, .ref aCn, .ref aCc, .ref aCr, .ref aCs, .int vCF])), (aCn, .inl (cA, 5760, .inl (vCn))), (aCc, .inl (cA, 5760, .inl (vCc))), (aG, .inr (2, [.ref aGh, .ref aGi, .ref aGc, .ref aGo, .ref aGr, .int vGF, .int vGS])), (aGi, .inl (cA, 72, .inl (vGi))), (aGc, .inl (cA, 24, .inl (vGc))), (aR, .inr (4, [.ref aRt, .int vRL])), (aRt, .inl (cA, 24, .inl (vRt)))] s.heap := hP
  have hl := lv_entry ([.ref aF, .int p0, .int p1, .int p2]) (n := 5) (Nat.le_of_ble_eq_true rfl)
  rw [lg_entry_eq]
  generalize (lg_sl ([.ref aF, .int p0, .int p1, .int p2]) ++ List.replicate (5 - (lg_sl ([.ref aF, .int p0, .int p1, .int p2])).length) Slot.unset).toArray = ls at hl ⊢
  have hl : lv_has ls 5 [(0, .ref aF), (1, .int p0), (2, .int p1), (3, .int p2)] := hl
  generalize hF : f_F_isWithin vFB vFE vFN vFL vCn vCc vGS vGi vGc vRL vRt p0 p1 p2 = Fv
  have hres : Fv = f_F_isWithin vFB vFE vFN vFL vCn vCc vGS vGi vGc vRL vRt p0 p1 p2 := hF.symm
  unfold f_F_isWithin at hres
  unfold o_F_isWithin at ho
  refine lv_aload_n hx hb qd_F_isWithin_0 rfl (lv_at hl 0 rfl) ?_
  refine lv_iload_n hx hb qd_F_isWithin_1 rfl (lv_at hl 1 rfl) ?_
  refine lv_iload_n hx hb qd_F_isWithin_2 rfl (lv_at hl 2 rfl) ?_
  refine lv_iload_n hx hb qd_F_isWithin_3 rfl (lv_at hl 3 rfl) ?_
  obtain ⟨g_4, ho⟩ := ho
  refine xc_V (As := [.int p0, .int p1, .int p2]) (rest := []) ⟨hx, hb, hml, hown, hg⟩ (c_F_splitTrees l dC dI cA aF aFs aFf aFt aFn aFd aC aCn aCc aCr aCs aG aGh aGi aGc aGo aGr aR aRt vFW vFB vFE vFN vFL vFX vFY vCF vCn vGF vGS vGi vRL vRt p0 p1 p2 g_4) (cwV 3 hg (q_gV mw_497 mw_498 mw_760 mw_6 mw_499) rfl rfl rfl qh_F_splitTrees ⟨Nat.le_of_ble_eq_true rfl, Nat.le_of_ble_eq_true rfl⟩) hN hK hP [0, 1, 2, 4, 5, 7, 8] rfl 0 1 rfl rfl rfl hl.1 rfl (Nat.le_of_ble_eq_true rfl) qd_F_isWithin_4 ⟨Nat.zero_le _, Nat.zero_le _⟩ ?_
  refine lv_topi (fun r_4 w_4 => ?_)
  have hres := hres.trans (bd_eq w_4)
  have ho := (bd_eq w_4).mp ho
  refine lv_istore (lv' := [(4, .int r_4), (0, .ref aF), (1, .int p0), (2, .int p1), (3, .int p2)]) hx hb qd_F_isWithin_7 hl (by decide) rfl (fun ls hl => ?_)
  refine lv_aload_n hx hb qd_F_isWithin_9 rfl (lv_at hl 1 rfl) ?_
  refine va_get (D := (dC, dI)) (ci := 1) (v := .int vFN) (C := qR_F) (T := qT_F) (N := 14) hx hb hg qi_F hown hK hP 0 rfl rfl 10 (by decide) (hg _ mw_101) (fun _ h9 => h9) rfl qd_F_isWithin_10 ?_
  refine lv_iconst (v := (-1)) hx hb qd_F_isWithin_13 (by decide) ?_
  refine lv_icmp_ne (tgt := 42) hx hb qd_F_isWithin_14 (by decide) (fun c_14 => ?_) (fun c_14 => ?_)
  · have hres := hres.trans (if_neg c_14)
    have ho := (if_neg c_14).mp ho
    refine lv_aload_n hx hb qd_F_isWithin_42 rfl (lv_at hl 1 rfl) ?_
    refine va_get (D := (dC, dI)) (ci := 1) (v := .int vFN) (C := qR_F) (T := qT_F) (N := 14) hx hb hg qi_F hown hK hP 0 rfl rfl 10 (by decide) (hg _ mw_101) (fun _ h9 => h9) rfl qd_F_isWithin_43 ?_
    refine lv_iload hx hb qd_F_isWithin_46 (lv_at hl 0 rfl) ?_
    refine lv_icmp_ge (tgt := 53) hx hb qd_F_isWithin_48 (by decide) (fun c_48 => ?_) (fun c_48 => ?_)
    · have hres := hres.trans (if_pos c_48)
      have ho := (if_pos c_48).mp ho
      refine lv_aload_n hx hb qd_F_isWithin_53 rfl (lv_at hl 1 rfl) ?_
      refine lv_dup hx hb qd_F_isWithin_54 rfl ?_
      refine va_get (D := (dC, dI)) (ci := 1) (v := .int vFN) (C := qR_F) (T := qT_F) (N := 14) hx hb hg qi_F hown hK hP 0 rfl rfl 10 (by decide) (hg _ mw_101) (fun _ h9 => h9) rfl qd_F_isWithin_55 ?_
      refine lv_iload hx hb qd_F_isWithin_58 (lv_at hl 0 rfl) ?_
      refine lv_isub hx hb qd_F_isWithin_60 ?_
      refine va_put (D := (dC, dI)) (ci := 1) (v := .int (vFN - r_4)) (ty := .int) (C := qR_F) (T := qT_F) (N := 14) hx hb hg qi_F qt_F qk_F qn_F hown hK hP hD hS 0 rfl rfl 10 (by decide) (hg _ mw_101) (fun _ h9 => h9) rfl (by decide +kernel) rfl rfl (Nat.le_of_ble_eq_true rfl) qd_F_isWithin_61 (fun H locs hP hD hS => ?_)
      have hP : va_P (dC, dI) vwCl [(aF, .inr (1, [.ref aG, .ref aC, .ref aFs, .ref aFf, .ref aFt, .ref aFn, .ref aFd, .int vFW, .int vFB, .int vFE, .int (vFN - r_4), .int vFL, .int vFX, .int vFY])), (aC, .inr (0, [.ref aG, .ref aR, .ref aCn, .ref aCc, .ref aCr, .ref aCs, .int vCF])), (aCn, .inl (cA, 5760, .inl (vCn))), (aCc, .inl (cA, 5760, .inl (vCc))), (aG, .inr (2, [.ref aGh, .ref aGi, .ref aGc, .ref aGo, .ref aGr, .int vGF, .int vGS])), (aGi, .inl (cA, 72, .inl (vGi))), (aGc, .inl (cA, 24, .inl (vGc))), (aR, .inr (4, [.ref aRt, .int vRL])), (aRt, .inl (cA, 24, .inl (vRt)))] H := hP
      have hD : va_D A [(aF, .inr (1, [.ref aG, .ref aC, .ref aFs, .ref aFf, .ref aFt, .ref aFn, .ref aFd, .int vFW, .int vFB, .int vFE, .int (vFN - r_4), .int vFL, .int vFX, .int vFY])), (aC, .inr (0, [.ref aG, .ref aR, .ref aCn, .ref aCc, .ref aCr, .ref aCs, .int vCF])), (aCn, .inl (cA, 5760, .inl (vCn))), (aCc, .inl (cA, 5760, .inl (vCc))), (aG, .inr (2, [.ref aGh, .ref aGi, .ref aGc, .ref aGo, .ref aGr, .int vGF, .int vGS])), (aGi, .inl (cA, 72, .inl (vGi))), (aGc, .inl (cA, 24, .inl (vGc))), (aR, .inr (4, [.ref aRt, .int vRL])), (aRt, .inl (cA, 24, .inl (vRt)))] := hD
      refine lv_iconst (v := 0) hx hb qd_F_isWithin_64 (by decide) ?_
      exact W.zret (v := 0) (ty := .boolean) hx hb hr (by decide) (fun t ht hW => ⟨⟨_, (0, vFN - r_4), rfl, ⟨hres.symm, rfl⟩, ⟨by rw [ht]; exact hP, va_K.moved hW.alike hK, x_N hN hW⟩, hD⟩, hS.F ht⟩) hS.2.2 qd_F_isWithin_65
    have hres := hres.trans (if_neg c_48)
    have ho := (if_neg c_48).mp ho
    refine lv_iconst (v := 1) hx hb qd_F_isWithin_51 (by decide) ?_
    exact W.zret (v := 1) (ty := .boolean) hx hb hr (by decide) (fun t ht hW => ⟨⟨_, (1, vFN), rfl, ⟨hres.symm, rfl⟩, ⟨by rw [ht]; exact hP, va_K.moved hW.alike hK, x_N hN hW⟩, hD⟩, hS.F ht⟩) hS.2.2 qd_F_isWithin_52
  have hres := hres.trans (if_pos c_14)
  have ho := (if_pos c_14).mp ho
  refine lv_iload hx hb qd_F_isWithin_17 (lv_at hl 0 rfl) ?_
  refine lv_if_le (tgt := 40) hx hb qd_F_isWithin_19 (by decide) (fun c_19 => ?_) (fun c_19 => ?_)
  · have hres := hres.trans (if_pos c_19)
    have ho := (if_pos c_19).mp ho
    refine lv_iconst (v := 0) hx hb qd_F_isWithin_40 (by decide) ?_
    exact W.zret (v := 0) (ty := .boolean) hx hb hr (by decide) (fun t ht hW => ⟨⟨_, (0, vFN), rfl, ⟨hres.symm, rfl⟩, ⟨by rw [ht]; exact hP, va_K.moved hW.alike hK, x_N hN hW⟩, hD⟩, hS.F ht⟩) hS.2.2 qd_F_isWithin_41
  have hres := hres.trans (if_neg c_19)
  have ho := (if_neg c_19).mp ho
  refine lv_aload_n hx hb qd_F_isWithin_22 rfl (lv_at hl 1 rfl) ?_
  refine lv_iload_n hx hb qd_F_isWithin_23 rfl (lv_at hl 2 rfl) ?_
  refine lv_iload_n hx hb qd_F_isWithin_24 rfl (lv_at hl 3 rfl) ?_
  refine lv_iload_n hx hb qd_F_isWithin_25 rfl (lv_at hl 4 rfl) ?_
  obtain ⟨g_26, ho⟩ := ho
  refine xc_V (As := [.int p0, .int p1, .int p2]) (rest := []) ⟨hx, hb, hml, hown, hg⟩ (c_F_splitCost l dC dI cA aF aFs aFf aFt aFn aFd aC aCn aCc aCr aCs aG aGh aGi aGc aGo aGr aR vFW vFB vFE vFN vFL vFX vFY vCF vCc vGF vGS vGi vGc p0 p1 p2 g_26) (cwV 3 hg (q_gV mw_502 mw_503 mw_761 mw_6 mw_504) rfl rfl rfl qh_F_splitCost ⟨Nat.le_of_ble_eq_true rfl, Nat.le_of_ble_eq_true rfl⟩) hN hK hP [0, 1, 3, 4, 5, 6] rfl 0 1 rfl rfl rfl hl.1 rfl (Nat.le_of_ble_eq_true rfl) qd_F_isWithin_26 ⟨Nat.zero_le _, Nat.zero_le _⟩ ?_
  refine lv_topi (fun r_26 w_26 => ?_)
  have hres := hres.trans (bd_eq w_26)
  have ho := (bd_eq w_26).mp ho
  refine lv_aload_n hx hb qd_F_isWithin_29 rfl (lv_at hl 1 rfl) ?_
  refine va_get (D := (dC, dI)) (ci := 1) (v := .int vFL) (C := qR_F) (T := qT_F) (N := 14) hx hb hg qi_F hown hK hP 0 rfl rfl 11 (by decide) (hg _ mw_102) (fun _ h9 => h9) rfl qd_F_isWithin_30 ?_
  refine lv_icmp_ne (tgt := 40) hx hb qd_F_isWithin_33 (by decide) (fun c_33 => ?_) (fun c_33 => ?_)
  · have hres := hres.trans (if_neg c_33)
    have ho := (if_neg c_33).mp ho
    refine lv_iconst (v := 0) hx hb qd_F_isWithin_40 (by decide) ?_
    exact W.zret (v := 0) (ty := .boolean) hx hb hr (by decide) (fun t ht hW => ⟨⟨_, (0, vFN), rfl, ⟨hres.symm, rfl⟩, ⟨by rw [ht]; exact hP, va_K.moved hW.alike hK, x_N hN hW⟩, hD⟩, hS.F ht⟩) hS.2.2 qd_F_isWithin_41
  have hres := hres.trans (if_pos c_33)
  have ho := (if_pos c_33).mp ho
  refine lv_iconst (v := 1) hx hb qd_F_isWithin_36 (by decide) ?_
  refine lv_goto (tgt := 41) hx hb qd_F_isWithin_37 (by decide) ?_
  exact W.zret (v := 1) (ty := .boolean) hx hb hr (by decide) (fun t ht hW => ⟨⟨_, (1, vFN), rfl, ⟨hres.symm, rfl⟩, ⟨by rw [ht]; exact hP, va_K.moved hW.alike hK, x_N hN hW⟩, hD⟩, hS.F ht⟩) hS.2.2 qd_F_isWithin_41
theorem qd_F_findSplit_0 : decode qc_F_findSplit 0 = .ok (.aload_n 0, 1) := by decide +kernel
theorem qd_F_findSplit_1 : decode qc_F_findSplit 1 = .ok (.getfield 49, 3) := by decide +kernel
theorem qd_F_findSplit_4 : decode qc_F_findSplit 4 = .ok (.iload_n 1, 1) := by decide +kernel
theorem qd_F_findSplit_5 : decode qc_F_findSplit 5 = .ok (.aload_n 0, 1) := by decide +kernel
theorem qd_F_findSplit_6 : decode qc_F_findSplit 6 = .ok (.getfield 34, 3) := by decide +kernel
theorem qd_F_findSplit_9 : decode qc_F_findSplit 9 = .ok (.invokevirtual 106, 3) := by decide +kernel
theorem qd_F_findSplit_12 : decode qc_F_findSplit 12 = .ok (.istore_n 2, 1) := by decide +kernel
theorem qd_F_findSplit_13 : decode qc_F_findSplit 13 = .ok (.aload_n 0, 1) := by decide +kernel
theorem qd_F_findSplit_14 : decode qc_F_findSplit 14 = .ok (.getfield 49, 3) := by decide +kernel
theorem qd_F_findSplit_17 : decode qc_F_findSplit 17 = .ok (.iload_n 1, 1) := by decide +kernel
theorem qd_F_findSplit_18 : decode qc_F_findSplit 18 = .ok (.aload_n 0, 1) := by decide +kernel
theorem qd_F_findSplit_19 : decode qc_F_findSplit 19 = .ok (.getfield 34, 3) := by decide +kernel
theorem qd_F_findSplit_22 : decode qc_F_findSplit 22 = .ok (.invokevirtual 109, 3) := by decide +kernel
theorem qd_F_findSplit_25 : decode qc_F_findSplit 25 = .ok (.istore_n 3, 1) := by decide +kernel
theorem qd_F_findSplit_26 : decode qc_F_findSplit 26 = .ok (.aload_n 0, 1) := by decide +kernel
theorem qd_F_findSplit_27 : decode qc_F_findSplit 27 = .ok (.getfield 49, 3) := by decide +kernel
theorem qd_F_findSplit_30 : decode qc_F_findSplit 30 = .ok (.iload_n 1, 1) := by decide +kernel
theorem qd_F_findSplit_31 : decode qc_F_findSplit 31 = .ok (.aload_n 0, 1) := by decide +kernel
theorem qd_F_findSplit_32 : decode qc_F_findSplit 32 = .ok (.getfield 31, 3) := by decide +kernel
theorem qd_F_findSplit_35 : decode qc_F_findSplit 35 = .ok (.aload_n 0, 1) := by decide +kernel
theorem qd_F_findSplit_36 : decode qc_F_findSplit 36 = .ok (.getfield 34, 3) := by decide +kernel
theorem qd_F_findSplit_39 : decode qc_F_findSplit 39 = .ok (.invokevirtual 112, 3) := by decide +kernel
theorem qd_F_findSplit_42 : decode qc_F_findSplit 42 = .ok (.istore 4, 2) := by decide +kernel
theorem qd_F_findSplit_44 : decode qc_F_findSplit 44 = .ok (.iload 4, 2) := by decide +kernel
theorem qd_F_findSplit_46 : decode qc_F_findSplit 46 = .ok (.iload_n 2, 1) := by decide +kernel
theorem qd_F_findSplit_47 : decode qc_F_findSplit 47 = .ok (.if_icmp .gt 67, 3) := by decide +kernel
theorem qd_F_findSplit_50 : decode qc_F_findSplit 50 = .ok (.aload_n 0, 1) := by decide +kernel
theorem qd_F_findSplit_51 : decode qc_F_findSplit 51 = .ok (.getfield 49, 3) := by decide +kernel
theorem qd_F_findSplit_54 : decode qc_F_findSplit 54 = .ok (.iload_n 1, 1) := by decide +kernel
theorem qd_F_findSplit_55 : decode qc_F_findSplit 55 = .ok (.iload 4, 2) := by decide +kernel
theorem qd_F_findSplit_57 : decode qc_F_findSplit 57 = .ok (.aload_n 0, 1) := by decide +kernel
theorem qd_F_findSplit_58 : decode qc_F_findSplit 58 = .ok (.getfield 34, 3) := by decide +kernel
theorem qd_F_findSplit_61 : decode qc_F_findSplit 61 = .ok (.invokevirtual 115, 3) := by decide +kernel
theorem qd_F_findSplit_64 : decode qc_F_findSplit 64 = .ok (.istore 5, 2) := by decide +kernel
theorem qd_F_findSplit_66 : decode qc_F_findSplit 66 = .ok (.iload 5, 2) := by decide +kernel
theorem qd_F_findSplit_68 : decode qc_F_findSplit 68 = .ok (.istore 6, 2) := by decide +kernel
theorem qd_F_findSplit_70 : decode qc_F_findSplit 70 = .ok (.iload 6, 2) := by decide +kernel
theorem qd_F_findSplit_72 : decode qc_F_findSplit 72 = .ok (.iload_n 3, 1) := by decide +kernel
theorem qd_F_findSplit_73 : decode qc_F_findSplit 73 = .ok (.if_icmp .gt 35, 3) := by decide +kernel
theorem qd_F_findSplit_76 : decode qc_F_findSplit 76 = .ok (.aload_n 0, 1) := by decide +kernel
theorem qd_F_findSplit_77 : decode qc_F_findSplit 77 = .ok (.iload_n 1, 1) := by decide +kernel
theorem qd_F_findSplit_78 : decode qc_F_findSplit 78 = .ok (.iload 4, 2) := by decide +kernel
theorem qd_F_findSplit_80 : decode qc_F_findSplit 80 = .ok (.iload 6, 2) := by decide +kernel
theorem qd_F_findSplit_82 : decode qc_F_findSplit 82 = .ok (.invokevirtual 118, 3) := by decide +kernel
theorem qd_F_findSplit_85 : decode qc_F_findSplit 85 = .ok (.ifCond .eq 17, 3) := by decide +kernel
theorem qd_F_findSplit_88 : decode qc_F_findSplit 88 = .ok (.aload_n 0, 1) := by decide +kernel
theorem qd_F_findSplit_89 : decode qc_F_findSplit 89 = .ok (.iload 4, 2) := by decide +kernel
theorem qd_F_findSplit_91 : decode qc_F_findSplit 91 = .ok (.putfield 43, 3) := by decide +kernel
theorem qd_F_findSplit_94 : decode qc_F_findSplit 94 = .ok (.aload_n 0, 1) := by decide +kernel
theorem qd_F_findSplit_95 : decode qc_F_findSplit 95 = .ok (.iload 6, 2) := by decide +kernel
theorem qd_F_findSplit_97 : decode qc_F_findSplit 97 = .ok (.putfield 46, 3) := by decide +kernel
theorem qd_F_findSplit_100 : decode qc_F_findSplit 100 = .ok (.iconst 1, 1) := by decide +kernel
theorem qd_F_findSplit_101 : decode qc_F_findSplit 101 = .ok (.ireturn, 1) := by decide +kernel
theorem qd_F_findSplit_102 : decode qc_F_findSplit 102 = .ok (.iinc 6 1, 3) := by decide +kernel
theorem qd_F_findSplit_105 : decode qc_F_findSplit 105 = .ok (.goto (-35), 3) := by decide +kernel
theorem qd_F_findSplit_108 : decode qc_F_findSplit 108 = .ok (.iinc 4 1, 3) := by decide +kernel
theorem qd_F_findSplit_111 : decode qc_F_findSplit 111 = .ok (.goto (-67), 3) := by decide +kernel
theorem qd_F_findSplit_114 : decode qc_F_findSplit 114 = .ok (.iconst 0, 1) := by decide +kernel
theorem qd_F_findSplit_115 : decode qc_F_findSplit 115 = .ok (.ireturn, 1) := by decide +kernel
set_option maxHeartbeats 4000000 in
set_option maxRecDepth 100000 in
theorem c_F_findSplit (l : Launch) (dC : Nat → ClassId) (dI : Nat → Nat → Nat) (cA : ClassId) (N_ : Nat) (aF aFs aFf aFt aFn aFd aC aCn aCc aCr aCs aG aGh aGi aGc aGo aGr aR aRt : Nat) (sz : Nat) (vFW : Int32) (vFB : Int32) (vFE : Int32) (vFN : Int32) (vFL : Int32) (vFX : Int32) (vFY : Int32) (vCF : Int32) (vCn : (Nat → Int32)) (vCc : (Nat → Int32)) (vGF : Int32) (vGS : Int32) (vGi : (Nat → Int32)) (vGc : (Nat → Int32)) (vRL : Int32) (vRt : (Nat → Int32)) (p0 : Int32) (ho : o_F_findSplit N_ vFB vFE vFN vFL vFX vFY vCn vCc vGS vGi vGc vRL vRt p0) : Met l qy_F_findSplit qw_F_findSplit ({ frames := 4, cells := 0, slots := 0, locals := 95 }) (va_Pc [.ref aF, .int p0] (fun U => U.heap.size = sz ∧ xP (dC, dI) [(cA, .int)] [(aF, .inr (1, [.ref aG, .ref aC, .ref aFs, .ref aFf, .ref aFt, .ref aFn, .ref aFd, .int vFW, .int vFB, .int vFE, .int vFN, .int vFL, .int vFX, .int vFY])), (aC, .inr (0, [.ref aG, .ref aR, .ref aCn, .ref aCc, .ref aCr, .ref aCs, .int vCF])), (aCn, .inl (cA, 5760, .inl (vCn))), (aCc, .inl (cA, 5760, .inl (vCc))), (aG, .inr (2, [.ref aGh, .ref aGi, .ref aGc, .ref aGo, .ref aGr, .int vGF, .int vGS])), (aGi, .inl (cA, 72, .inl (vGi))), (aGc, .inl (cA, 24, .inl (vGc))), (aR, .inr (4, [.ref aRt, .int vRL])), (aRt, .inl (cA, 24, .inl (vRt)))] nestN U ∧ va_D (fun _ => True) [(aF, .inr (1, [.ref aG, .ref aC, .ref aFs, .ref aFf, .ref aFt, .ref aFn, .ref aFd, .int vFW, .int vFB, .int vFE, .int vFN, .int vFL, .int vFX, .int vFY])), (aC, .inr (0, [.ref aG, .ref aR, .ref aCn, .ref aCc, .ref aCr, .ref aCs, .int vCF])), (aCn, .inl (cA, 5760, .inl (vCn))), (aCc, .inl (cA, 5760, .inl (vCc))), (aG, .inr (2, [.ref aGh, .ref aGi, .ref aGc, .ref aGo, .ref aGr, .int vGF, .int vGS])), (aGi, .inl (cA, 72, .inl (vGi))), (aGc, .inl (cA, 24, .inl (vGc))), (aR, .inr (4, [.ref aRt, .int vRL])), (aRt, .inl (cA, 24, .inl (vRt)))])) (va_Qi (fun r (u : Int32 × Int32 × Int32 × Int32) => u = f_F_findSplit N_ vFB vFE vFN vFL vFX vFY vCn vCc vGS vGi vGc vRL vRt p0 ∧ r = u.1) (fun (u : Int32 × Int32 × Int32 × Int32) t => xP (dC, dI) [(cA, .int)] [(aF, .inr (1, [.ref aG, .ref aC, .ref aFs, .ref aFf, .ref aFt, .ref aFn, .ref aFd, .int vFW, .int vFB, .int vFE, .int u.2.1, .int vFL, .int u.2.2.1, .int u.2.2.2])), (aC, .inr (0, [.ref aG, .ref aR, .ref aCn, .ref aCc, .ref aCr, .ref aCs, .int vCF])), (aCn, .inl (cA, 5760, .inl (vCn))), (aCc, .inl (cA, 5760, .inl (vCc))), (aG, .inr (2, [.ref aGh, .ref aGi, .ref aGc, .ref aGo, .ref aGr, .int vGF, .int vGS])), (aGi, .inl (cA, 72, .inl (vGi))), (aGc, .inl (cA, 24, .inl (vGc))), (aR, .inr (4, [.ref aRt, .int vRL])), (aRt, .inl (cA, 24, .inl (vRt)))] nestN t ∧ va_D (va_A [(aF, .inr (1, [.ref aG, .ref aC, .ref aFs, .ref aFf, .ref aFt, .ref aFn, .ref aFd, .int vFW, .int vFB, .int vFE, .int vFN, .int vFL, .int vFX, .int vFY])), (aC, .inr (0, [.ref aG, .ref aR, .ref aCn, .ref aCc, .ref aCr, .ref aCs, .int vCF])), (aCn, .inl (cA, 5760, .inl (vCn))), (aCc, .inl (cA, 5760, .inl (vCc))), (aG, .inr (2, [.ref aGh, .ref aGi, .ref aGc, .ref aGo, .ref aGr, .int vGF, .int vGS])), (aGi, .inl (cA, 72, .inl (vGi))), (aGc, .inl (cA, 24, .inl (vGc))), (aR, .inr (4, [.ref aRt, .int vRL])), (aRt, .inl (cA, 24, .inl (vRt)))] sz) [(aF, .inr (1, [.ref aG, .ref aC, .ref aFs, .ref aFf, .ref aFt, .ref aFn, .ref aFd, .int vFW, .int vFB, .int vFE, .int u.2.1, .int vFL, .int u.2.2.1, .int u.2.2.2])), (aC, .inr (0, [.ref aG, .ref aR, .ref aCn, .ref aCc, .ref aCr, .ref aCs, .int vCF])), (aCn, .inl (cA, 5760, .inl (vCn))), (aCc, .inl (cA, 5760, .inl (vCc))), (aG, .inr (2, [.ref aGh, .ref aGi, .ref aGc, .ref aGo, .ref aGr, .int vGF, .int vGS])), (aGi, .inl (cA, 72, .inl (vGi))), (aGc, .inl (cA, 24, .inl (vGc))), (aR, .inr (4, [.ref aRt, .int vRL])), (aRt, .inl (cA, 24, .inl (vRt)))]) (va_A [(aF, .inr (1, [.ref aG, .ref aC, .ref aFs, .ref aFf, .ref aFt, .ref aFn, .ref aFd, .int vFW, .int vFB, .int vFE, .int vFN, .int vFL, .int vFX, .int vFY])), (aC, .inr (0, [.ref aG, .ref aR, .ref aCn, .ref aCc, .ref aCr, .ref aCs, .int vCF])), (aCn, .inl (cA, 5760, .inl (vCn))), (aCc, .inl (cA, 5760, .inl (vCc))), (aG, .inr (2, [.ref aGh, .ref aGi, .ref aGc, .ref aGo, .ref aGr, .int vGF, .int vGS])), (aGi, .inl (cA, 72, .inl (vGi))), (aGc, .inl (cA, 24, .inl (vGc))), (aR, .inr (4, [.ref aRt, .int vRL])), (aRt, .inl (cA, 24, .inl (vRt)))] sz)) 0 0 (va_A [(aF, .inr (1, [.ref aG, .ref aC, .ref aFs, .ref aFf, .ref aFt, .ref aFn, .ref aFd, .int vFW, .int vFB, .int vFE, .int vFN, .int vFL, .int vFX, .int vFY])), (aC, .inr (0, [.ref aG, .ref aR, .ref aCn, .ref aCc, .ref aCr, .ref aCs, .int vCF])), (aCn, .inl (cA, 5760, .inl (vCn))), (aCc, .inl (cA, 5760, .inl (vCc))), (aG, .inr (2, [.ref aGh, .ref aGi, .ref aGc, .ref aGo, .ref aGr, .int vGF, .int vGS])), (aGi, .inl (cA, 72, .inl (vGi))), (aGc, .inl (cA, 24, .inl (vGc))), (aR, .inr (4, [.ref aRt, .int vRL])), (aRt, .inl (cA, 24, .inl (vRt)))] sz) := by
  refine Met.ofW (cc := qc_F_findSplit) (maxL := 7) (ret := (some .boolean)) (by decide) rfl ?_
  intro p e s m args below meth c s₁ B hml hv
  obtain ⟨rfl, hsz, ⟨hP, hK, hN⟩, hD0⟩ := hv
  have hx := B.exec
  have hb := B.bytes
  have hr := B.returns
  have hts := atoms_spec (ws := qw_F_findSplit) B.pre
  have hg : ∀ w ∈ gG, w.before _ s = true := fun w h => hts w (List.mem_cons_of_mem _ h)
  have hown : s.vm.findClass qR_F = some m.cls := findClass_of_methodNamed B.named
  have hlocks := B.notSynchronized
  subst hsz
  have hD := hD0.self (sz := s.heap.size)
  generalize hAe : va_A [(aF, .inr (1, [.ref aG, .ref aC, .ref aFs, .ref aFf, .ref aFt, .ref aFn, .ref aFd, .int vFW, .int vFB, .int vFE, .int vFN, .int vFL, .int vFX, .int vFY])), (aC, .inr (0, [.ref aG, .ref aR, .ref aCn, .ref aCc, .ref aCr, .ref aCs, .int vCF])), (aCn, .inl (cA, 5760, .inl (vCn))), (aCc, .inl (cA, 5760, .inl (vCc))), (aG, .inr (2, [.ref aGh, .ref aGi, .ref aGc, .ref aGo, .ref aGr, .int vGF, .int vGS])), (aGi, .inl (cA, 72, .inl (vGi))), (aGc, .inl (cA, 24, .inl (vGc))), (aR, .inr (4, [.ref aRt, .int vRL])), (aRt, .inl (cA, 24, .inl (vRt)))] s.heap.size = A at hD ⊢
  have hA : ∀ q : Nat, s.heap.size ≤ q → A q := fun q h => by rw [← hAe]; exact Or.inr h
  have hS : va_S A s.heap s.heap [] := va_S.rf
  have hP : va_P (dC, dI) vwCl [(aF, .inr (1, [.ref aG, .ref aC, .ref aFs, .ref aFf, .ref aFt, .ref aFn, .ref aFd, .int vFW, .int vFB, .int vFE, .int vFN, .int vFL, .int vFX, .int vFY])), (aC, .inr (0, [.ref aG, .ref aR, .ref aCn, .ref aCc, .ref aCr, .ref aCs, .int vCF])), (aCn, .inl (cA, 5760, .inl (vCn))), (aCc, .inl (cA, 5760, .inl (vCc))), (aG, .inr (2, [.ref aGh, .ref aGi, .ref aGc, .ref aGo, .ref aGr, .int vGF, .int vGS])), (aGi, .inl (cA, 72, .inl (vGi))), (aGc, .inl (cA, 24, .inl (vGc))), (aR, .inr (4, [.ref aRt, .int vRL])), (aRt, .inl (cA, 24, .inl (vRt)))] s.heap := hP
  have hl := lv_entry ([.ref aF, .int p0]) (n := 7) (Nat.le_of_ble_eq_true rfl)
  rw [lg_entry_eq]
  generalize (lg_sl ([.ref aF, .int p0]) ++ List.replicate (7 - (lg_sl ([.ref aF, .int p0])).length) Slot.unset).toArray = ls at hl ⊢
  have hl : lv_has ls 7 [(0, .ref aF), (1, .int p0)] := hl
  generalize hF : f_F_findSplit N_ vFB vFE vFN vFL vFX vFY vCn vCc vGS vGi vGc vRL vRt p0 = Fv
  have hres : Fv = f_F_findSplit N_ vFB vFE vFN vFL vFX vFY vCn vCc vGS vGi vGc vRL vRt p0 := hF.symm
  unfold f_F_findSplit at hres
  unfold o_F_findSplit at ho
  generalize hQ : MQ _ _ _ _ _ _ _ = Qg
  refine lv_aload_n hx hb qd_F_findSplit_0 rfl (lv_at hl 0 rfl) ?_
  refine va_get (D := (dC, dI)) (ci := 1) (v := .ref aG) (C := qR_F) (T := qT_F) (N := 14) hx hb hg qi_F hown hK hP 0 rfl rfl 0 (by decide) (hg _ mw_91) (fun _ h9 => h9) rfl qd_F_findSplit_1 ?_
  refine lv_iload_n hx hb qd_F_findSplit_4 rfl (lv_at hl 1 rfl) ?_
  refine lv_aload_n hx hb qd_F_findSplit_5 rfl (lv_at hl 0 rfl) ?_
  refine va_get (D := (dC, dI)) (ci := 1) (v := .int vFE) (C := qR_F) (T := qT_F) (N := 14) hx hb hg qi_F hown hK hP 0 rfl rfl 9 (by decide) (hg _ mw_100) (fun _ h9 => h9) rfl qd_F_findSplit_6 ?_
  obtain ⟨g_9, ho⟩ := ho
  refine xc_V (As := [.int p0, .int vFE]) (rest := []) ⟨hx, hb, hml, hown, hg⟩ (c_G_lastFirstEnd l dC dI cA aG aGh aGi aGc aGo aGr vGF vGS vGi p0 vFE g_9) (cwV 2 hg (q_gV mw_490 mw_427 mw_428 mw_2 mw_429) rfl rfl rfl qh_G_lastFirstEnd ⟨Nat.le_of_ble_eq_true rfl, Nat.le_of_ble_eq_true rfl⟩) hN hK hP [4, 5] rfl 0 2 rfl rfl rfl hl.1 rfl (Nat.le_of_ble_eq_true rfl) qd_F_findSplit_9 ⟨Nat.zero_le _, Nat.zero_le _⟩ ?_
  refine lv_topi (fun r_9 w_9 => ?_)
  have hres := hres.trans (bd_eq w_9)
  have ho := (bd_eq w_9).mp ho
  refine lv_istore_n (lv' := [(2, .int r_9), (0, .ref aF), (1, .int p0)]) hx hb qd_F_findSplit_12 rfl hl (by decide) rfl (fun ls hl => ?_)
  refine lv_aload_n hx hb qd_F_findSplit_13 rfl (lv_at hl 1 rfl) ?_
  refine va_get (D := (dC, dI)) (ci := 1) (v := .ref aG) (C := qR_F) (T := qT_F) (N := 14) hx hb hg qi_F hown hK hP 0 rfl rfl 0 (by decide) (hg _ mw_91) (fun _ h9 => h9) rfl qd_F_findSplit_14 ?_
  refine lv_iload_n hx hb qd_F_findSplit_17 rfl (lv_at hl 2 rfl) ?_
  refine lv_aload_n hx hb qd_F_findSplit_18 rfl (lv_at hl 1 rfl) ?_
  refine va_get (D := (dC, dI)) (ci := 1) (v := .int vFE) (C := qR_F) (T := qT_F) (N := 14) hx hb hg qi_F hown hK hP 0 rfl rfl 9 (by decide) (hg _ mw_100) (fun _ h9 => h9) rfl qd_F_findSplit_19 ?_
  obtain ⟨g_22, ho⟩ := ho
  refine xc_V (As := [.int p0, .int vFE]) (rest := []) ⟨hx, hb, hml, hown, hg⟩ (c_G_lastSecondEnd l dC dI cA aG aGh aGi aGc aGo aGr vGF vGS vGi p0 vFE g_22) (cwV 2 hg (q_gV mw_491 mw_377 mw_378 mw_2 mw_379) rfl rfl rfl qh_G_lastSecondEnd ⟨Nat.le_of_ble_eq_true rfl, Nat.le_of_ble_eq_true rfl⟩) hN hK hP [4, 5] rfl 0 2 rfl rfl rfl hl.1 rfl (Nat.le_of_ble_eq_true rfl) qd_F_findSplit_22 ⟨Nat.zero_le _, Nat.zero_le _⟩ ?_
  refine lv_topi (fun r_22 w_22 => ?_)
  have hres := hres.trans (bd_eq w_22)
  have ho := (bd_eq w_22).mp ho
  refine lv_istore_n (lv' := [(3, .int r_22), (2, .int r_9), (0, .ref aF), (1, .int p0)]) hx hb qd_F_findSplit_25 rfl hl (by decide) rfl (fun ls hl => ?_)
  refine lv_aload_n hx hb qd_F_findSplit_26 rfl (lv_at hl 2 rfl) ?_
  refine va_get (D := (dC, dI)) (ci := 1) (v := .ref aG) (C := qR_F) (T := qT_F) (N := 14) hx hb hg qi_F hown hK hP 0 rfl rfl 0 (by decide) (hg _ mw_91) (fun _ h9 => h9) rfl qd_F_findSplit_27 ?_
  refine lv_iload_n hx hb qd_F_findSplit_30 rfl (lv_at hl 3 rfl) ?_
  refine lv_aload_n hx hb qd_F_findSplit_31 rfl (lv_at hl 2 rfl) ?_
  refine va_get (D := (dC, dI)) (ci := 1) (v := .int vFB) (C := qR_F) (T := qT_F) (N := 14) hx hb hg qi_F hown hK hP 0 rfl rfl 8 (by decide) (hg _ mw_99) (fun _ h9 => h9) rfl qd_F_findSplit_32 ?_
  refine lv_aload_n hx hb qd_F_findSplit_35 rfl (lv_at hl 2 rfl) ?_
  refine va_get (D := (dC, dI)) (ci := 1) (v := .int vFE) (C := qR_F) (T := qT_F) (N := 14) hx hb hg qi_F hown hK hP 0 rfl rfl 9 (by decide) (hg _ mw_100) (fun _ h9 => h9) rfl qd_F_findSplit_36 ?_
  obtain ⟨g_39, ho⟩ := ho
  refine xc_V (As := [.int p0, .int vFB, .int vFE]) (rest := []) ⟨hx, hb, hml, hown, hg⟩ (c_G_leastFirstEnd l dC dI cA aG aGh aGi aGc aGo aGr vGF vGS vGi p0 vFB vFE g_39) (cwV 3 hg (q_gV mw_492 mw_431 mw_432 mw_2 mw_433) rfl rfl rfl qh_G_leastFirstEnd ⟨Nat.le_of_ble_eq_true rfl, Nat.le_of_ble_eq_true rfl⟩) hN hK hP [4, 5] rfl 0 2 rfl rfl rfl hl.1 rfl (Nat.le_of_ble_eq_true rfl) qd_F_findSplit_39 ⟨Nat.zero_le _, Nat.zero_le _⟩ ?_
  refine lv_topi (fun r_39 w_39 => ?_)
  have hres := hres.trans (bd_eq w_39)
  have ho := (bd_eq w_39).mp ho
  refine lv_istore (lv' := [(4, .int r_39), (3, .int r_22), (2, .int r_9), (0, .ref aF), (1, .int p0)]) hx hb qd_F_findSplit_42 hl (by decide) rfl (fun ls hl => ?_)
  have L_44 : ∀ (K_ : Int32 → Int32 → Int32 → Int32 → Int32 × Int32 × Int32 × Int32) (Ko_ : Int32 → Int32 → Int32 → Int32 → Prop) (hk : ∀ (x4_44 : Int32) (vFN_44 : Int32) (vFX_44 : Int32) (vFY_44 : Int32) (H : Heap) (locs : List Loc) (ls : Array Slot), va_P (dC, dI) vwCl [(aF, .inr (1, [.ref aG, .ref aC, .ref aFs, .ref aFf, .ref aFt, .ref aFn, .ref aFd, .int vFW, .int vFB, .int vFE, .int vFN_44, .int vFL, .int vFX_44, .int vFY_44])), (aC, .inr (0, [.ref aG, .ref aR, .ref aCn, .ref aCc, .ref aCr, .ref aCs, .int vCF])), (aCn, .inl (cA, 5760, .inl (vCn))), (aCc, .inl (cA, 5760, .inl (vCc))), (aG, .inr (2, [.ref aGh, .ref aGi, .ref aGc, .ref aGo, .ref aGr, .int vGF, .int vGS])), (aGi, .inl (cA, 72, .inl (vGi))), (aGc, .inl (cA, 24, .inl (vGc))), (aR, .inr (4, [.ref aRt, .int vRL])), (aRt, .inl (cA, 24, .inl (vRt)))] H → va_D A [(aF, .inr (1, [.ref aG, .ref aC, .ref aFs, .ref aFf, .ref aFt, .ref aFn, .ref aFd, .int vFW, .int vFB, .int vFE, .int vFN_44, .int vFL, .int vFX_44, .int vFY_44])), (aC, .inr (0, [.ref aG, .ref aR, .ref aCn, .ref aCc, .ref aCr, .ref aCs, .int vCF])), (aCn, .inl (cA, 5760, .inl (vCn))), (aCc, .inl (cA, 5760, .inl (vCc))), (aG, .inr (2, [.ref aGh, .ref aGi, .ref aGc, .ref aGo, .ref aGr, .int vGF, .int vGS])), (aGi, .inl (cA, 72, .inl (vGi))), (aGc, .inl (cA, 24, .inl (vGc))), (aR, .inr (4, [.ref aRt, .int vRL])), (aRt, .inl (cA, 24, .inl (vRt)))] → va_S A s.heap H locs → lv_has ls 7 [(4, .int x4_44), (3, .int r_22), (2, .int r_9), (0, .ref aF), (1, .int p0)] → Fv = K_ x4_44 vFN_44 vFX_44 vFY_44 → Ko_ x4_44 vFN_44 vFX_44 vFY_44 → W p l e ({ frames := 4, cells := 0, slots := 0, locals := 95 } : Room) s m (([.ref aF, .int p0] : List Value).toArray) below meth c H locs 0 0 Qg (F0 m 114 ls [])) (n : Nat) (x4_44 : Int32) (vFN_44 : Int32) (vFX_44 : Int32) (vFY_44 : Int32) (H : Heap) (locs : List Loc) (ls : Array Slot), va_P (dC, dI) vwCl [(aF, .inr (1, [.ref aG, .ref aC, .ref aFs, .ref aFf, .ref aFt, .ref aFn, .ref aFd, .int vFW, .int vFB, .int vFE, .int vFN_44, .int vFL, .int vFX_44, .int vFY_44])), (aC, .inr (0, [.ref aG, .ref aR, .ref aCn, .ref aCc, .ref aCr, .ref aCs, .int vCF])), (aCn, .inl (cA, 5760, .inl (vCn))), (aCc, .inl (cA, 5760, .inl (vCc))), (aG, .inr (2, [.ref aGh, .ref aGi, .ref aGc, .ref aGo, .ref aGr, .int vGF, .int vGS])), (aGi, .inl (cA, 72, .inl (vGi))), (aGc, .inl (cA, 24, .inl (vGc))), (aR, .inr (4, [.ref aRt, .int vRL])), (aRt, .inl (cA, 24, .inl (vRt)))] H → va_D A [(aF, .inr (1, [.ref aG, .ref aC, .ref aFs, .ref aFf, .ref aFt, .ref aFn, .ref aFd, .int vFW, .int vFB, .int vFE, .int vFN_44, .int vFL, .int vFX_44, .int vFY_44])), (aC, .inr (0, [.ref aG, .ref aR, .ref aCn, .ref aCc, .ref aCr, .ref aCs, .int vCF])), (aCn, .inl (cA, 5760, .inl (vCn))), (aCc, .inl (cA, 5760, .inl (vCc))), (aG, .inr (2, [.ref aGh, .ref aGi, .ref aGc, .ref aGo, .ref aGr, .int vGF, .int vGS])), (aGi, .inl (cA, 72, .inl (vGi))), (aGc, .inl (cA, 24, .inl (vGc))), (aR, .inr (4, [.ref aRt, .int vRL])), (aRt, .inl (cA, 24, .inl (vRt)))] → va_S A s.heap H locs → lv_has ls 7 [(4, .int x4_44), (3, .int r_22), (2, .int r_9), (0, .ref aF), (1, .int p0)] → Fv = l_F_findSplit_44 N_ p0 r_9 r_22 vFB vFE vFL vCn vCc vGS vGi vGc vRL vRt K_ n x4_44 vFN_44 vFX_44 vFY_44 → ol_F_findSplit_44 N_ p0 r_9 r_22 vFB vFE vFL vCn vCc vGS vGi vGc vRL vRt Ko_ n x4_44 vFN_44 vFX_44 vFY_44 → W p l e ({ frames := 4, cells := 0, slots := 0, locals := 95 } : Room) s m (([.ref aF, .int p0] : List Value).toArray) below meth c H locs 0 0 Qg (F0 m 44 ls []) := by
    intro K_ Ko_ hk n
    induction n with
    | zero => intro x4_44 vFN_44 vFX_44 vFY_44 H locs ls hP hD hS hl hres ho; exact ho.elim
    | succ n ih =>
      intro x4_44 vFN_44 vFX_44 vFY_44 H locs ls hP hD hS hl hres ho
      rw [l_F_findSplit_44, s_F_findSplit_44] at hres
      rw [ol_F_findSplit_44, os_F_findSplit_44] at ho
      refine lv_iload hx hb qd_F_findSplit_44 (lv_at hl 0 rfl) ?_
      refine lv_iload_n hx hb qd_F_findSplit_46 rfl (lv_at hl 2 rfl) ?_
      refine lv_icmp_gt (tgt := 114) hx hb qd_F_findSplit_47 (by decide) (fun c_47 => ?_) (fun c_47 => ?_)
      · have hres := hres.trans (if_pos c_47)
        have ho := (if_pos c_47).mp ho
        exact hk x4_44 vFN_44 vFX_44 vFY_44 H locs ls hP hD hS (lv_sub hl [0, 1, 2, 3, 4] rfl) hres ho
      have hres := hres.trans (if_neg c_47)
      have ho := (if_neg c_47).mp ho
      refine lv_aload_n hx hb qd_F_findSplit_50 rfl (lv_at hl 3 rfl) ?_
      refine va_get (D := (dC, dI)) (ci := 1) (v := .ref aG) (C := qR_F) (T := qT_F) (N := 14) hx hb hg qi_F hown hK hP 0 rfl rfl 0 (by decide) (hg _ mw_91) (fun _ h9 => h9) rfl qd_F_findSplit_51 ?_
      refine lv_iload_n hx hb qd_F_findSplit_54 rfl (lv_at hl 4 rfl) ?_
      refine lv_iload hx hb qd_F_findSplit_55 (lv_at hl 0 rfl) ?_
      refine lv_aload_n hx hb qd_F_findSplit_57 rfl (lv_at hl 3 rfl) ?_
      refine va_get (D := (dC, dI)) (ci := 1) (v := .int vFE) (C := qR_F) (T := qT_F) (N := 14) hx hb hg qi_F hown hK hP 0 rfl rfl 9 (by decide) (hg _ mw_100) (fun _ h9 => h9) rfl qd_F_findSplit_58 ?_
      obtain ⟨g_61, ho⟩ := ho
      refine xc_V (As := [.int p0, .int x4_44, .int vFE]) (rest := []) ⟨hx, hb, hml, hown, hg⟩ (c_G_leastSecondEnd l dC dI cA aG aGh aGi aGc aGo aGr vGF vGS vGi p0 x4_44 vFE g_61) (cwV 3 hg (q_gV mw_493 mw_381 mw_382 mw_2 mw_383) rfl rfl rfl qh_G_leastSecondEnd ⟨Nat.le_of_ble_eq_true rfl, Nat.le_of_ble_eq_true rfl⟩) hN hK hP [4, 5] rfl 0 2 rfl rfl rfl hl.1 rfl (Nat.le_of_ble_eq_true rfl) qd_F_findSplit_61 ⟨Nat.zero_le _, Nat.zero_le _⟩ ?_
      refine lv_topi (fun r_61 w_61 => ?_)
      have hres := hres.trans (bd_eq w_61)
      have ho := (bd_eq w_61).mp ho
      refine lv_istore (lv' := [(5, .int r_61), (4, .int x4_44), (3, .int r_22), (2, .int r_9), (0, .ref aF), (1, .int p0)]) hx hb qd_F_findSplit_64 hl (by decide) rfl (fun ls hl => ?_)
      refine lv_iload hx hb qd_F_findSplit_66 (lv_at hl 0 rfl) ?_
      refine lv_istore (lv' := [(6, .int r_61), (5, .int r_61), (4, .int x4_44), (3, .int r_22), (2, .int r_9), (0, .ref aF), (1, .int p0)]) hx hb qd_F_findSplit_68 hl (by decide) rfl (fun ls hl => ?_)
      have L_70 : ∀ (K_ : Int32 → Int32 → Int32 → Int32 → Int32 × Int32 × Int32 × Int32) (Ko_ : Int32 → Int32 → Int32 → Int32 → Prop) (hk : ∀ (x6_70 : Int32) (vFN_70 : Int32) (vFX_70 : Int32) (vFY_70 : Int32) (H : Heap) (locs : List Loc) (ls : Array Slot), va_P (dC, dI) vwCl [(aF, .inr (1, [.ref aG, .ref aC, .ref aFs, .ref aFf, .ref aFt, .ref aFn, .ref aFd, .int vFW, .int vFB, .int vFE, .int vFN_70, .int vFL, .int vFX_70, .int vFY_70])), (aC, .inr (0, [.ref aG, .ref aR, .ref aCn, .ref aCc, .ref aCr, .ref aCs, .int vCF])), (aCn, .inl (cA, 5760, .inl (vCn))), (aCc, .inl (cA, 5760, .inl (vCc))), (aG, .inr (2, [.ref aGh, .ref aGi, .ref aGc, .ref aGo, .ref aGr, .int vGF, .int vGS])), (aGi, .inl (cA, 72, .inl (vGi))), (aGc, .inl (cA, 24, .inl (vGc))), (aR, .inr (4, [.ref aRt, .int vRL])), (aRt, .inl (cA, 24, .inl (vRt)))] H → va_D A [(aF, .inr (1, [.ref aG, .ref aC, .ref aFs, .ref aFf, .ref aFt, .ref aFn, .ref aFd, .int vFW, .int vFB, .int vFE, .int vFN_70, .int vFL, .int vFX_70, .int vFY_70])), (aC, .inr (0, [.ref aG, .ref aR, .ref aCn, .ref aCc, .ref aCr, .ref aCs, .int vCF])), (aCn, .inl (cA, 5760, .inl (vCn))), (aCc, .inl (cA, 5760, .inl (vCc))), (aG, .inr (2, [.ref aGh, .ref aGi, .ref aGc, .ref aGo, .ref aGr, .int vGF, .int vGS])), (aGi, .inl (cA, 72, .inl (vGi))), (aGc, .inl (cA, 24, .inl (vGc))), (aR, .inr (4, [.ref aRt, .int vRL])), (aRt, .inl (cA, 24, .inl (vRt)))] → va_S A s.heap H locs → lv_has ls 7 [(6, .int x6_70), (5, .int r_61), (4, .int x4_44), (3, .int r_22), (2, .int r_9), (0, .ref aF), (1, .int p0)] → Fv = K_ x6_70 vFN_70 vFX_70 vFY_70 → Ko_ x6_70 vFN_70 vFX_70 vFY_70 → W p l e ({ frames := 4, cells := 0, slots := 0, locals := 95 } : Room) s m (([.ref aF, .int p0] : List Value).toArray) below meth c H locs 0 0 Qg (F0 m 108 ls [])) (n : Nat) (x6_70 : Int32) (vFN_70 : Int32) (vFX_70 : Int32) (vFY_70 : Int32) (H : Heap) (locs : List Loc) (ls : Array Slot), va_P (dC, dI) vwCl [(aF, .inr (1, [.ref aG, .ref aC, .ref aFs, .ref aFf, .ref aFt, .ref aFn, .ref aFd, .int vFW, .int vFB, .int vFE, .int vFN_70, .int vFL, .int vFX_70, .int vFY_70])), (aC, .inr (0, [.ref aG, .ref aR, .ref aCn, .ref aCc, .ref aCr, .ref aCs, .int vCF])), (aCn, .inl (cA, 5760, .inl (vCn))), (aCc, .inl (cA, 5760, .inl (vCc))), (aG, .inr (2, [.ref aGh, .ref aGi, .ref aGc, .ref aGo, .ref aGr, .int vGF, .int vGS])), (aGi, .inl (cA, 72, .inl (vGi))), (aGc, .inl (cA, 24, .inl (vGc))), (aR, .inr (4, [.ref aRt, .int vRL])), (aRt, .inl (cA, 24, .inl (vRt)))] H → va_D A [(aF, .inr (1, [.ref aG, .ref aC, .ref aFs, .ref aFf, .ref aFt, .ref aFn, .ref aFd, .int vFW, .int vFB, .int vFE, .int vFN_70, .int vFL, .int vFX_70, .int vFY_70])), (aC, .inr (0, [.ref aG, .ref aR, .ref aCn, .ref aCc, .ref aCr, .ref aCs, .int vCF])), (aCn, .inl (cA, 5760, .inl (vCn))), (aCc, .inl (cA, 5760, .inl (vCc))), (aG, .inr (2, [.ref aGh, .ref aGi, .ref aGc, .ref aGo, .ref aGr, .int vGF, .int vGS])), (aGi, .inl (cA, 72, .inl (vGi))), (aGc, .inl (cA, 24, .inl (vGc))), (aR, .inr (4, [.ref aRt, .int vRL])), (aRt, .inl (cA, 24, .inl (vRt)))] → va_S A s.heap H locs → lv_has ls 7 [(6, .int x6_70), (5, .int r_61), (4, .int x4_44), (3, .int r_22), (2, .int r_9), (0, .ref aF), (1, .int p0)] → Fv = l_F_findSplit_70 p0 r_22 x4_44 vFB vFE vFL vCn vCc vGS vGi vGc vRL vRt K_ n x6_70 vFN_70 vFX_70 vFY_70 → ol_F_findSplit_70 p0 r_22 x4_44 vFB vFE vFL vCn vCc vGS vGi vGc vRL vRt Ko_ n x6_70 vFN_70 vFX_70 vFY_70 → W p l e ({ frames := 4, cells := 0, slots := 0, locals := 95 } : Room) s m (([.ref aF, .int p0] : List Value).toArray) below meth c H locs 0 0 Qg (F0 m 70 ls []) := by
        intro K_ Ko_ hk n
        induction n with
        | zero => intro x6_70 vFN_70 vFX_70 vFY_70 H locs ls hP hD hS hl hres ho; exact ho.elim
        | succ n ih =>
          intro x6_70 vFN_70 vFX_70 vFY_70 H locs ls hP hD hS hl hres ho
          rw [l_F_findSplit_70, s_F_findSplit_70] at hres
          rw [ol_F_findSplit_70, os_F_findSplit_70] at ho
          refine lv_iload hx hb qd_F_findSplit_70 (lv_at hl 0 rfl) ?_
          refine lv_iload_n hx hb qd_F_findSplit_72 rfl (lv_at hl 3 rfl) ?_
          refine lv_icmp_gt (tgt := 108) hx hb qd_F_findSplit_73 (by decide) (fun c_73 => ?_) (fun c_73 => ?_)
          · have hres := hres.trans (if_pos c_73)
            have ho := (if_pos c_73).mp ho
            exact hk x6_70 vFN_70 vFX_70 vFY_70 H locs ls hP hD hS (lv_sub hl [0, 1, 2, 3, 4, 5, 6] rfl) hres ho
          have hres := hres.trans (if_neg c_73)
          have ho := (if_neg c_73).mp ho
          refine lv_aload_n hx hb qd_F_findSplit_76 rfl (lv_at hl 5 rfl) ?_
          refine lv_iload_n hx hb qd_F_findSplit_77 rfl (lv_at hl 6 rfl) ?_
          refine lv_iload hx hb qd_F_findSplit_78 (lv_at hl 2 rfl) ?_
          refine lv_iload hx hb qd_F_findSplit_80 (lv_at hl 0 rfl) ?_
          obtain ⟨g_82, ho⟩ := ho
          refine xm_Vi (As := [.int p0, .int x4_44, .int x6_70]) (rest := []) (w1 := fun (u_82 : Int32 × Int32) => [(aF, .inr (1, [.ref aG, .ref aC, .ref aFs, .ref aFf, .ref aFt, .ref aFn, .ref aFd, .int vFW, .int vFB, .int vFE, .int u_82.2, .int vFL, .int vFX_70, .int vFY_70])), (aC, .inr (0, [.ref aG, .ref aR, .ref aCn, .ref aCc, .ref aCr, .ref aCs, .int vCF])), (aCn, .inl (cA, 5760, .inl (vCn))), (aCc, .inl (cA, 5760, .inl (vCc))), (aG, .inr (2, [.ref aGh, .ref aGi, .ref aGc, .ref aGo, .ref aGr, .int vGF, .int vGS])), (aGi, .inl (cA, 72, .inl (vGi))), (aGc, .inl (cA, 24, .inl (vGc))), (aR, .inr (4, [.ref aRt, .int vRL])), (aRt, .inl (cA, 24, .inl (vRt)))]) (w2 := fun (u_82 : Int32 × Int32) => [(aF, .inr (1, [.ref aG, .ref aC, .ref aFs, .ref aFf, .ref aFt, .ref aFn, .ref aFd, .int vFW, .int vFB, .int vFE, .int u_82.2, .int vFL, .int vFX_70, .int vFY_70])), (aC, .inr (0, [.ref aG, .ref aR, .ref aCn, .ref aCc, .ref aCr, .ref aCs, .int vCF])), (aCn, .inl (cA, 5760, .inl (vCn))), (aCc, .inl (cA, 5760, .inl (vCc))), (aG, .inr (2, [.ref aGh, .ref aGi, .ref aGc, .ref aGo, .ref aGr, .int vGF, .int vGS])), (aGi, .inl (cA, 72, .inl (vGi))), (aGc, .inl (cA, 24, .inl (vGc))), (aR, .inr (4, [.ref aRt, .int vRL])), (aRt, .inl (cA, 24, .inl (vRt)))]) ⟨hx, hb, hml, hown, hg⟩ (c_F_isWithin l dC dI cA aF aFs aFf aFt aFn aFd aC aCn aCc aCr aCs aG aGh aGi aGc aGo aGr aR aRt _ vFW vFB vFE vFN_70 vFL vFX_70 vFY_70 vCF vCn vCc vGF vGS vGi vGc vRL vRt p0 x4_44 x6_70 g_82) (cwV 3 hg (q_gV mw_494 mw_495 mw_759 mw_6 mw_496) rfl rfl rfl qh_F_isWithin ⟨Nat.le_of_ble_eq_true rfl, Nat.le_of_ble_eq_true rfl⟩) hN hK hP hD hS hA [0, 1, 2, 3, 4, 5, 6, 7, 8] [] rfl rfl (by decide) (by decide) (by decide) [0, 1, 2, 3, 4, 5, 6, 7, 8] (fun _ => rfl) (by decide) 0 1 rfl rfl rfl hl.1 rfl (Nat.le_of_ble_eq_true rfl) qd_F_findSplit_82 ⟨Nat.zero_le _, Nat.zero_le _⟩ (fun u_82 H locs w_82 hP hD hS => ?_)
          have hP : va_P (dC, dI) vwCl [(aF, .inr (1, [.ref aG, .ref aC, .ref aFs, .ref aFf, .ref aFt, .ref aFn, .ref aFd, .int vFW, .int vFB, .int vFE, .int u_82.2, .int vFL, .int vFX_70, .int vFY_70])), (aC, .inr (0, [.ref aG, .ref aR, .ref aCn, .ref aCc, .ref aCr, .ref aCs, .int vCF])), (aCn, .inl (cA, 5760, .inl (vCn))), (aCc, .inl (cA, 5760, .inl (vCc))), (aG, .inr (2, [.ref aGh, .ref aGi, .ref aGc, .ref aGo, .ref aGr, .int vGF, .int vGS])), (aGi, .inl (cA, 72, .inl (vGi))), (aGc, .inl (cA, 24, .inl (vGc))), (aR, .inr (4, [.ref aRt, .int vRL])), (aRt, .inl (cA, 24, .inl (vRt)))] H := hP
          have hD : va_D A [(aF, .inr (1, [.ref aG, .ref aC, .ref aFs, .ref aFf, .ref aFt, .ref aFn, .ref aFd, .int vFW, .int vFB, .int vFE, .int u_82.2, .int vFL, .int vFX_70, .int vFY_70])), (aC, .inr (0, [.ref aG, .ref aR, .ref aCn, .ref aCc, .ref aCr, .ref aCs, .int vCF])), (aCn, .inl (cA, 5760, .inl (vCn))), (aCc, .inl (cA, 5760, .inl (vCc))), (aG, .inr (2, [.ref aGh, .ref aGi, .ref aGc, .ref aGo, .ref aGr, .int vGF, .int vGS])), (aGi, .inl (cA, 72, .inl (vGi))), (aGc, .inl (cA, 24, .inl (vGc))), (aR, .inr (4, [.ref aRt, .int vRL])), (aRt, .inl (cA, 24, .inl (vRt)))] := hD
          have hres := hres.trans (bd_eq w_82)
          have ho := (bd_eq w_82).mp ho
          refine lv_if_eq (tgt := 102) hx hb qd_F_findSplit_85 (by decide) (fun c_85 => ?_) (fun c_85 => ?_)
          · have hres := hres.trans (if_pos c_85)
            have ho := (if_pos c_85).mp ho
            refine lv_iinc (v := x6_70 + 1) (lv' := [(6, .int (x6_70 + 1)), (5, .int r_61), (4, .int x4_44), (3, .int r_22), (2, .int r_9), (0, .ref aF), (1, .int p0)]) hx hb qd_F_findSplit_102 hl (k := 0) rfl (congrArg (fun z => _ + z) (by decide)) (by decide) rfl (fun ls hl => ?_)
            refine lv_goto (tgt := 70) hx hb qd_F_findSplit_105 (by decide) ?_
            exact ih (x6_70 + 1) u_82.2 vFX_70 vFY_70 H locs ls hP hD hS (lv_sub hl [0, 1, 2, 3, 4, 5, 6] rfl) hres ho
          have hres := hres.trans (if_neg c_85)
          have ho := (if_neg c_85).mp ho
          refine lv_aload_n hx hb qd_F_findSplit_88 rfl (lv_at hl 5 rfl) ?_
          refine lv_iload hx hb qd_F_findSplit_89 (lv_at hl 2 rfl) ?_
          refine va_put (D := (dC, dI)) (ci := 1) (v := .int x4_44) (ty := .int) (C := qR_F) (T := qT_F) (N := 14) hx hb hg qi_F qt_F qk_F qn_F hown hK hP hD hS 0 rfl rfl 12 (by decide) (hg _ mw_103) (fun _ h9 => h9) rfl (by decide +kernel) rfl rfl (Nat.le_of_ble_eq_true rfl) qd_F_findSplit_91 (fun H locs hP hD hS => ?_)
          have hP : va_P (dC, dI) vwCl [(aF, .inr (1, [.ref aG, .ref aC, .ref aFs, .ref aFf, .ref aFt, .ref aFn, .ref aFd, .int vFW, .int vFB, .int vFE, .int u_82.2, .int vFL, .int x4_44, .int vFY_70])), (aC, .inr (0, [.ref aG, .ref aR, .ref aCn, .ref aCc, .ref aCr, .ref aCs, .int vCF])), (aCn, .inl (cA, 5760, .inl (vCn))), (aCc, .inl (cA, 5760, .inl (vCc))), (aG, .inr (2, [.ref aGh, .ref aGi, .ref aGc, .ref aGo, .ref aGr, .int vGF, .int vGS])), (aGi, .inl (cA, 72, .inl (vGi))), (aGc, .inl (cA, 24, .inl (vGc))), (aR, .inr (4, [.ref aRt, .int vRL])), (aRt, .inl (cA, 24, .inl (vRt)))] H := hP
          have hD : va_D A [(aF, .inr (1, [.ref aG, .ref aC, .ref aFs, .ref aFf, .ref aFt, .ref aFn, .ref aFd, .int vFW, .int vFB, .int vFE, .int u_82.2, .int vFL, .int x4_44, .int vFY_70])), (aC, .inr (0, [.ref aG, .ref aR, .ref aCn, .ref aCc, .ref aCr, .ref aCs, .int vCF])), (aCn, .inl (cA, 5760, .inl (vCn))), (aCc, .inl (cA, 5760, .inl (vCc))), (aG, .inr (2, [.ref aGh, .ref aGi, .ref aGc, .ref aGo, .ref aGr, .int vGF, .int vGS])), (aGi, .inl (cA, 72, .inl (vGi))), (aGc, .inl (cA, 24, .inl (vGc))), (aR, .inr (4, [.ref aRt, .int vRL])), (aRt, .inl (cA, 24, .inl (vRt)))] := hD
          refine lv_aload_n hx hb qd_F_findSplit_94 rfl (lv_at hl 5 rfl) ?_
          refine lv_iload hx hb qd_F_findSplit_95 (lv_at hl 0 rfl) ?_
          refine va_put (D := (dC, dI)) (ci := 1) (v := .int x6_70) (ty := .int) (C := qR_F) (T := qT_F) (N := 14) hx hb hg qi_F qt_F qk_F qn_F hown hK hP hD hS 0 rfl rfl 13 (by decide) (hg _ mw_104) (fun _ h9 => h9) rfl (by decide +kernel) rfl rfl (Nat.le_of_ble_eq_true rfl) qd_F_findSplit_97 (fun H locs hP hD hS => ?_)
          have hP : va_P (dC, dI) vwCl [(aF, .inr (1, [.ref aG, .ref aC, .ref aFs, .ref aFf, .ref aFt, .ref aFn, .ref aFd, .int vFW, .int vFB, .int vFE, .int u_82.2, .int vFL, .int x4_44, .int x6_70])), (aC, .inr (0, [.ref aG, .ref aR, .ref aCn, .ref aCc, .ref aCr, .ref aCs, .int vCF])), (aCn, .inl (cA, 5760, .inl (vCn))), (aCc, .inl (cA, 5760, .inl (vCc))), (aG, .inr (2, [.ref aGh, .ref aGi, .ref aGc, .ref aGo, .ref aGr, .int vGF, .int vGS])), (aGi, .inl (cA, 72, .inl (vGi))), (aGc, .inl (cA, 24, .inl (vGc))), (aR, .inr (4, [.ref aRt, .int vRL])), (aRt, .inl (cA, 24, .inl (vRt)))] H := hP
          have hD : va_D A [(aF, .inr (1, [.ref aG, .ref aC, .ref aFs, .ref aFf, .ref aFt, .ref aFn, .ref aFd, .int vFW, .int vFB, .int vFE, .int u_82.2, .int vFL, .int x4_44, .int x6_70])), (aC, .inr (0, [.ref aG, .ref aR, .ref aCn, .ref aCc, .ref aCr, .ref aCs, .int vCF])), (aCn, .inl (cA, 5760, .inl (vCn))), (aCc, .inl (cA, 5760, .inl (vCc))), (aG, .inr (2, [.ref aGh, .ref aGi, .ref aGc, .ref aGo, .ref aGr, .int vGF, .int vGS])), (aGi, .inl (cA, 72, .inl (vGi))), (aGc, .inl (cA, 24, .inl (vGc))), (aR, .inr (4, [.ref aRt, .int vRL])), (aRt, .inl (cA, 24, .inl (vRt)))] := hD
          refine lv_iconst (v := 1) hx hb qd_F_findSplit_100 (by decide) ?_
          subst hQ
          exact W.zret (v := 1) (ty := .boolean) hx hb hr (by decide) (fun t ht hW => ⟨⟨_, (1, u_82.2, x4_44, x6_70), rfl, ⟨hres.symm, rfl⟩, ⟨by rw [ht]; exact hP, va_K.moved hW.alike hK, x_N hN hW⟩, hD⟩, hS.F ht⟩) hS.2.2 qd_F_findSplit_101
      refine L_70 _ _ (fun x6_70 vFN_70 vFX_70 vFY_70 H locs ls hP hD hS hl hres ho => ?_) _ _ _ _ _ _ _ ls hP hD hS hl hres ho
      refine lv_iinc (v := x4_44 + 1) (lv' := [(4, .int (x4_44 + 1)), (6, .int x6_70), (5, .int r_61), (3, .int r_22), (2, .int r_9), (0, .ref aF), (1, .int p0)]) hx hb qd_F_findSplit_108 hl (k := 2) rfl (congrArg (fun z => _ + z) (by decide)) (by decide) rfl (fun ls hl => ?_)
      refine lv_goto (tgt := 44) hx hb qd_F_findSplit_111 (by decide) ?_
      exact ih (x4_44 + 1) vFN_70 vFX_70 vFY_70 H locs ls hP hD hS (lv_sub hl [0, 3, 4, 5, 6] rfl) hres ho
  refine L_44 _ _ (fun x4_44 vFN_44 vFX_44 vFY_44 H locs ls hP hD hS hl hres ho => ?_) _ _ _ _ _ _ _ ls hP hD hS hl hres ho
  refine lv_iconst (v := 0) hx hb qd_F_findSplit_114 (by decide) ?_
  subst hQ
  exact W.zret (v := 0) (ty := .boolean) hx hb hr (by decide) (fun t ht hW => ⟨⟨_, (0, vFN_44, vFX_44, vFY_44), rfl, ⟨hres.symm, rfl⟩, ⟨by rw [ht]; exact hP, va_K.moved hW.alike hK, x_N hN hW⟩, hD⟩, hS.F ht⟩) hS.2.2 qd_F_findSplit_115
theorem qd_F_findProduction_0 : decode qc_F_findProduction 0 = .ok (.iconst 0, 1) := by decide +kernel
theorem qd_F_findProduction_1 : decode qc_F_findProduction 1 = .ok (.istore_n 2, 1) := by decide +kernel
theorem qd_F_findProduction_2 : decode qc_F_findProduction 2 = .ok (.iload_n 2, 1) := by decide +kernel
theorem qd_F_findProduction_3 : decode qc_F_findProduction 3 = .ok (.aload_n 0, 1) := by decide +kernel
theorem qd_F_findProduction_4 : decode qc_F_findProduction 4 = .ok (.getfield 49, 3) := by decide +kernel
theorem qd_F_findProduction_7 : decode qc_F_findProduction 7 = .ok (.invokevirtual 94, 3) := by decide +kernel
theorem qd_F_findProduction_10 : decode qc_F_findProduction 10 = .ok (.if_icmp .ge 31, 3) := by decide +kernel
theorem qd_F_findProduction_13 : decode qc_F_findProduction 13 = .ok (.aload_n 0, 1) := by decide +kernel
theorem qd_F_findProduction_14 : decode qc_F_findProduction 14 = .ok (.getfield 49, 3) := by decide +kernel
theorem qd_F_findProduction_17 : decode qc_F_findProduction 17 = .ok (.iload_n 2, 1) := by decide +kernel
theorem qd_F_findProduction_18 : decode qc_F_findProduction 18 = .ok (.invokevirtual 100, 3) := by decide +kernel
theorem qd_F_findProduction_21 : decode qc_F_findProduction 21 = .ok (.iload_n 1, 1) := by decide +kernel
theorem qd_F_findProduction_22 : decode qc_F_findProduction 22 = .ok (.if_icmp .ne 13, 3) := by decide +kernel
theorem qd_F_findProduction_25 : decode qc_F_findProduction 25 = .ok (.aload_n 0, 1) := by decide +kernel
theorem qd_F_findProduction_26 : decode qc_F_findProduction 26 = .ok (.iload_n 2, 1) := by decide +kernel
theorem qd_F_findProduction_27 : decode qc_F_findProduction 27 = .ok (.invokevirtual 103, 3) := by decide +kernel
theorem qd_F_findProduction_30 : decode qc_F_findProduction 30 = .ok (.ifCond .eq 5, 3) := by decide +kernel
theorem qd_F_findProduction_33 : decode qc_F_findProduction 33 = .ok (.iload_n 2, 1) := by decide +kernel
theorem qd_F_findProduction_34 : decode qc_F_findProduction 34 = .ok (.ireturn, 1) := by decide +kernel
theorem qd_F_findProduction_35 : decode qc_F_findProduction 35 = .ok (.iinc 2 1, 3) := by decide +kernel
theorem qd_F_findProduction_38 : decode qc_F_findProduction 38 = .ok (.goto (-36), 3) := by decide +kernel
theorem qd_F_findProduction_41 : decode qc_F_findProduction 41 = .ok (.iconst (-1), 1) := by decide +kernel
theorem qd_F_findProduction_42 : decode qc_F_findProduction 42 = .ok (.ireturn, 1) := by decide +kernel
set_option maxHeartbeats 4000000 in
set_option maxRecDepth 100000 in
theorem c_F_findProduction (l : Launch) (dC : Nat → ClassId) (dI : Nat → Nat → Nat) (cA : ClassId) (N_ : Nat) (aF aFs aFf aFt aFn aFd aC aCn aCc aCr aCs aG aGh aGi aGc aGo aGr aR aRt : Nat) (sz : Nat) (vFW : Int32) (vFB : Int32) (vFE : Int32) (vFN : Int32) (vFL : Int32) (vFX : Int32) (vFY : Int32) (vCF : Int32) (vCn : (Nat → Int32)) (vCc : (Nat → Int32)) (vGF : Int32) (vGS : Int32) (vGh : (Nat → Int32)) (vGi : (Nat → Int32)) (vGc : (Nat → Int32)) (vRL : Int32) (vRt : (Nat → Int32)) (p0 : Int32) (ho : o_F_findProduction N_ vFB vFE vFN vFL vFX vFY vCn vCc vGS vGh vGi vGc vRL vRt p0) : Met l qy_F_findProduction qw_F_findProduction ({ frames := 5, cells := 0, slots := 0, locals := 121 }) (va_Pc [.ref aF, .int p0] (fun U => U.heap.size = sz ∧ xP (dC, dI) [(cA, .int)] [(aF, .inr (1, [.ref aG, .ref aC, .ref aFs, .ref aFf, .ref aFt, .ref aFn, .ref aFd, .int vFW, .int vFB, .int vFE, .int vFN, .int vFL, .int vFX, .int vFY])), (aC, .inr (0, [.ref aG, .ref aR, .ref aCn, .ref aCc, .ref aCr, .ref aCs, .int vCF])), (aCn, .inl (cA, 5760, .inl (vCn))), (aCc, .inl (cA, 5760, .inl (vCc))), (aG, .inr (2, [.ref aGh, .ref aGi, .ref aGc, .ref aGo, .ref aGr, .int vGF, .int vGS])), (aGh, .inl (cA, 24, .inl (vGh))), (aGi, .inl (cA, 72, .inl (vGi))), (aGc, .inl (cA, 24, .inl (vGc))), (aR, .inr (4, [.ref aRt, .int vRL])), (aRt, .inl (cA, 24, .inl (vRt)))] nestN U ∧ va_D (fun _ => True) [(aF, .inr (1, [.ref aG, .ref aC, .ref aFs, .ref aFf, .ref aFt, .ref aFn, .ref aFd, .int vFW, .int vFB, .int vFE, .int vFN, .int vFL, .int vFX, .int vFY])), (aC, .inr (0, [.ref aG, .ref aR, .ref aCn, .ref aCc, .ref aCr, .ref aCs, .int vCF])), (aCn, .inl (cA, 5760, .inl (vCn))), (aCc, .inl (cA, 5760, .inl (vCc))), (aG, .inr (2, [.ref aGh, .ref aGi, .ref aGc, .ref aGo, .ref aGr, .int vGF, .int vGS])), (aGh, .inl (cA, 24, .inl (vGh))), (aGi, .inl (cA, 72, .inl (vGi))), (aGc, .inl (cA, 24, .inl (vGc))), (aR, .inr (4, [.ref aRt, .int vRL])), (aRt, .inl (cA, 24, .inl (vRt)))])) (va_Qi (fun r (u : Int32 × Int32 × Int32 × Int32) => u = f_F_findProduction N_ vFB vFE vFN vFL vFX vFY vCn vCc vGS vGh vGi vGc vRL vRt p0 ∧ r = u.1) (fun (u : Int32 × Int32 × Int32 × Int32) t => xP (dC, dI) [(cA, .int)] [(aF, .inr (1, [.ref aG, .ref aC, .ref aFs, .ref aFf, .ref aFt, .ref aFn, .ref aFd, .int vFW, .int vFB, .int vFE, .int u.2.1, .int vFL, .int u.2.2.1, .int u.2.2.2])), (aC, .inr (0, [.ref aG, .ref aR, .ref aCn, .ref aCc, .ref aCr, .ref aCs, .int vCF])), (aCn, .inl (cA, 5760, .inl (vCn))), (aCc, .inl (cA, 5760, .inl (vCc))), (aG, .inr (2, [.ref aGh, .ref aGi, .ref aGc, .ref aGo, .ref aGr, .int vGF, .int vGS])), (aGh, .inl (cA, 24, .inl (vGh))), (aGi, .inl (cA, 72, .inl (vGi))), (aGc, .inl (cA, 24, .inl (vGc))), (aR, .inr (4, [.ref aRt, .int vRL])), (aRt, .inl (cA, 24, .inl (vRt)))] nestN t ∧ va_D (va_A [(aF, .inr (1, [.ref aG, .ref aC, .ref aFs, .ref aFf, .ref aFt, .ref aFn, .ref aFd, .int vFW, .int vFB, .int vFE, .int vFN, .int vFL, .int vFX, .int vFY])), (aC, .inr (0, [.ref aG, .ref aR, .ref aCn, .ref aCc, .ref aCr, .ref aCs, .int vCF])), (aCn, .inl (cA, 5760, .inl (vCn))), (aCc, .inl (cA, 5760, .inl (vCc))), (aG, .inr (2, [.ref aGh, .ref aGi, .ref aGc, .ref aGo, .ref aGr, .int vGF, .int vGS])), (aGh, .inl (cA, 24, .inl (vGh))), (aGi, .inl (cA, 72, .inl (vGi))), (aGc, .inl (cA, 24, .inl (vGc))), (aR, .inr (4, [.ref aRt, .int vRL])), (aRt, .inl (cA, 24, .inl (vRt)))] sz) [(aF, .inr (1, [.ref aG, .ref aC, .ref aFs, .ref aFf, .ref aFt, .ref aFn, .ref aFd, .int vFW, .int vFB, .int vFE, .int u.2.1, .int vFL, .int u.2.2.1, .int u.2.2.2])), (aC, .inr (0, [.ref aG, .ref aR, .ref aCn, .ref aCc, .ref aCr, .ref aCs, .int vCF])), (aCn, .inl (cA, 5760, .inl (vCn))), (aCc, .inl (cA, 5760, .inl (vCc))), (aG, .inr (2, [.ref aGh, .ref aGi, .ref aGc, .ref aGo, .ref aGr, .int vGF, .int vGS])), (aGh, .inl (cA, 24, .inl (vGh))), (aGi, .inl (cA, 72, .inl (vGi))), (aGc, .inl (cA, 24, .inl (vGc))), (aR, .inr (4, [.ref aRt, .int vRL])), (aRt, .inl (cA, 24, .inl (vRt)))]) (va_A [(aF, .inr (1, [.ref aG, .ref aC, .ref aFs, .ref aFf, .ref aFt, .ref aFn, .ref aFd, .int vFW, .int vFB, .int vFE, .int vFN, .int vFL, .int vFX, .int vFY])), (aC, .inr (0, [.ref aG, .ref aR, .ref aCn, .ref aCc, .ref aCr, .ref aCs, .int vCF])), (aCn, .inl (cA, 5760, .inl (vCn))), (aCc, .inl (cA, 5760, .inl (vCc))), (aG, .inr (2, [.ref aGh, .ref aGi, .ref aGc, .ref aGo, .ref aGr, .int vGF, .int vGS])), (aGh, .inl (cA, 24, .inl (vGh))), (aGi, .inl (cA, 72, .inl (vGi))), (aGc, .inl (cA, 24, .inl (vGc))), (aR, .inr (4, [.ref aRt, .int vRL])), (aRt, .inl (cA, 24, .inl (vRt)))] sz)) 0 0 (va_A [(aF, .inr (1, [.ref aG, .ref aC, .ref aFs, .ref aFf, .ref aFt, .ref aFn, .ref aFd, .int vFW, .int vFB, .int vFE, .int vFN, .int vFL, .int vFX, .int vFY])), (aC, .inr (0, [.ref aG, .ref aR, .ref aCn, .ref aCc, .ref aCr, .ref aCs, .int vCF])), (aCn, .inl (cA, 5760, .inl (vCn))), (aCc, .inl (cA, 5760, .inl (vCc))), (aG, .inr (2, [.ref aGh, .ref aGi, .ref aGc, .ref aGo, .ref aGr, .int vGF, .int vGS])), (aGh, .inl (cA, 24, .inl (vGh))), (aGi, .inl (cA, 72, .inl (vGi))), (aGc, .inl (cA, 24, .inl (vGc))), (aR, .inr (4, [.ref aRt, .int vRL])), (aRt, .inl (cA, 24, .inl (vRt)))] sz) := by
  refine Met.ofW (cc := qc_F_findProduction) (maxL := 3) (ret := (some .int)) (by decide) rfl ?_
  intro p e s m args below meth c s₁ B hml hv
  obtain ⟨rfl, hsz, ⟨hP, hK, hN⟩, hD0⟩ := hv
  have hx := B.exec
  have hb := B.bytes
  have hr := B.returns
  have hts := atoms_spec (ws := qw_F_findProduction) B.pre
  have hg : ∀ w ∈ gG, w.before _ s = true := fun w h => hts w (List.mem_cons_of_mem _ h)
  have hown : s.vm.findClass qR_F = some m.cls := findClass_of_methodNamed B.named
  have hlocks := B.notSynchronized
  subst hsz
  have hD := hD0.self (sz := s.heap.size)
  generalize hAe : va_A [(aF, .inr (1, [.ref aG, .ref aC, .ref aFs, .ref aFf, .ref aFt, .ref aFn, .ref aFd, .int vFW, .int vFB, .int vFE, .int vFN, .int vFL, .int vFX, .int vFY])), (aC, .inr (0, [.ref aG, .ref aR, .ref aCn, .ref aCc, .ref aCr, .ref aCs, .int vCF])), (aCn, .inl (cA, 5760, .inl (vCn))), (aCc, .inl (cA, 5760, .inl (vCc))), (aG, .inr (2, [.ref aGh, .ref aGi, .ref aGc, .ref aGo, .ref aGr, .int vGF, .int vGS])), (aGh, .inl (cA, 24, .inl (vGh))), (aGi, .inl (cA, 72, .inl (vGi))), (aGc, .inl (cA, 24, .inl (vGc))), (aR, .inr (4, [.ref aRt, .int vRL])), (aRt, .inl (cA, 24, .inl (vRt)))] s.heap.size = A at hD ⊢
  have hA : ∀ q : Nat, s.heap.size ≤ q → A q := fun q h => by rw [← hAe]; exact Or.inr h
  have hS : va_S A s.heap s.heap [] := va_S.rf
  have hP : va_P (dC, dI) vwCl [(aF, .inr (1, [.ref aG, .ref aC, .ref aFs, .ref aFf, .ref aFt, .ref aFn, .ref aFd, .int vFW, .int vFB, .int vFE, .int vFN, .int vFL, .int vFX, .int vFY])), (aC, .inr (0, [.ref aG, .ref aR, .ref aCn, .ref aCc, .ref aCr, .ref aCs, .int vCF])), (aCn, .inl (cA, 5760, .inl (vCn))), (aCc, .inl (cA, 5760, .inl (vCc))), (aG, .inr (2, [.ref aGh, .ref aGi, .ref aGc, .ref aGo, .ref aGr, .int vGF, .int vGS])), (aGh, .inl (cA, 24, .inl (vGh))), (aGi, .inl (cA, 72, .inl (vGi))), (aGc, .inl (cA, 24, .inl (vGc))), (aR, .inr (4, [.ref aRt, .int vRL])), (aRt, .inl (cA, 24, .inl (vRt)))] s.heap := hP
  have hl := lv_entry ([.ref aF, .int p0]) (n := 3) (Nat.le_of_ble_eq_true rfl)
  rw [lg_entry_eq]
  generalize (lg_sl ([.ref aF, .int p0]) ++ List.replicate (3 - (lg_sl ([.ref aF, .int p0])).length) Slot.unset).toArray = ls at hl ⊢
  have hl : lv_has ls 3 [(0, .ref aF), (1, .int p0)] := hl
  generalize hF : f_F_findProduction N_ vFB vFE vFN vFL vFX vFY vCn vCc vGS vGh vGi vGc vRL vRt p0 = Fv
  have hres : Fv = f_F_findProduction N_ vFB vFE vFN vFL vFX vFY vCn vCc vGS vGh vGi vGc vRL vRt p0 := hF.symm
  unfold f_F_findProduction at hres
  unfold o_F_findProduction at ho
  generalize hQ : MQ _ _ _ _ _ _ _ = Qg
  refine lv_iconst (v := 0) hx hb qd_F_findProduction_0 (by decide) ?_
  refine lv_istore_n (lv' := [(2, .int 0), (0, .ref aF), (1, .int p0)]) hx hb qd_F_findProduction_1 rfl hl (by decide) rfl (fun ls hl => ?_)
  have L_2 : ∀ (K_ : Int32 → Int32 → Int32 → Int32 → Int32 × Int32 × Int32 × Int32) (Ko_ : Int32 → Int32 → Int32 → Int32 → Prop) (hk : ∀ (x2_2 : Int32) (vFN_2 : Int32) (vFX_2 : Int32) (vFY_2 : Int32) (H : Heap) (locs : List Loc) (ls : Array Slot), va_P (dC, dI) vwCl [(aF, .inr (1, [.ref aG, .ref aC, .ref aFs, .ref aFf, .ref aFt, .ref aFn, .ref aFd, .int vFW, .int vFB, .int vFE, .int vFN_2, .int vFL, .int vFX_2, .int vFY_2])), (aC, .inr (0, [.ref aG, .ref aR, .ref aCn, .ref aCc, .ref aCr, .ref aCs, .int vCF])), (aCn, .inl (cA, 5760, .inl (vCn))), (aCc, .inl (cA, 5760, .inl (vCc))), (aG, .inr (2, [.ref aGh, .ref aGi, .ref aGc, .ref aGo, .ref aGr, .int vGF, .int vGS])), (aGh, .inl (cA, 24, .inl (vGh))), (aGi, .inl (cA, 72, .inl (vGi))), (aGc, .inl (cA, 24, .inl (vGc))), (aR, .inr (4, [.ref aRt, .int vRL])), (aRt, .inl (cA, 24, .inl (vRt)))] H → va_D A [(aF, .inr (1, [.ref aG, .ref aC, .ref aFs, .ref aFf, .ref aFt, .ref aFn, .ref aFd, .int vFW, .int vFB, .int vFE, .int vFN_2, .int vFL, .int vFX_2, .int vFY_2])), (aC, .inr (0, [.ref aG, .ref aR, .ref aCn, .ref aCc, .ref aCr, .ref aCs, .int vCF])), (aCn, .inl (cA, 5760, .inl (vCn))), (aCc, .inl (cA, 5760, .inl (vCc))), (aG, .inr (2, [.ref aGh, .ref aGi, .ref aGc, .ref aGo, .ref aGr, .int vGF, .int vGS])), (aGh, .inl (cA, 24, .inl (vGh))), (aGi, .inl (cA, 72, .inl (vGi))), (aGc, .inl (cA, 24, .inl (vGc))), (aR, .inr (4, [.ref aRt, .int vRL])), (aRt, .inl (cA, 24, .inl (vRt)))] → va_S A s.heap H locs → lv_has ls 3 [(2, .int x2_2), (0, .ref aF), (1, .int p0)] → Fv = K_ x2_2 vFN_2 vFX_2 vFY_2 → Ko_ x2_2 vFN_2 vFX_2 vFY_2 → W p l e ({ frames := 5, cells := 0, slots := 0, locals := 121 } : Room) s m (([.ref aF, .int p0] : List Value).toArray) below meth c H locs 0 0 Qg (F0 m 41 ls [])) (n : Nat) (x2_2 : Int32) (vFN_2 : Int32) (vFX_2 : Int32) (vFY_2 : Int32) (H : Heap) (locs : List Loc) (ls : Array Slot), va_P (dC, dI) vwCl [(aF, .inr (1, [.ref aG, .ref aC, .ref aFs, .ref aFf, .ref aFt, .ref aFn, .ref aFd, .int vFW, .int vFB, .int vFE, .int vFN_2, .int vFL, .int vFX_2, .int vFY_2])), (aC, .inr (0, [.ref aG, .ref aR, .ref aCn, .ref aCc, .ref aCr, .ref aCs, .int vCF])), (aCn, .inl (cA, 5760, .inl (vCn))), (aCc, .inl (cA, 5760, .inl (vCc))), (aG, .inr (2, [.ref aGh, .ref aGi, .ref aGc, .ref aGo, .ref aGr, .int vGF, .int vGS])), (aGh, .inl (cA, 24, .inl (vGh))), (aGi, .inl (cA, 72, .inl (vGi))), (aGc, .inl (cA, 24, .inl (vGc))), (aR, .inr (4, [.ref aRt, .int vRL])), (aRt, .inl (cA, 24, .inl (vRt)))] H → va_D A [(aF, .inr (1, [.ref aG, .ref aC, .ref aFs, .ref aFf, .ref aFt, .ref aFn, .ref aFd, .int vFW, .int vFB, .int vFE, .int vFN_2, .int vFL, .int vFX_2, .int vFY_2])), (aC, .inr (0, [.ref aG, .ref aR, .ref aCn, .ref aCc, .ref aCr, .ref aCs, .int vCF])), (aCn, .inl (cA, 5760, .inl (vCn))), (aCc, .inl (cA, 5760, .inl (vCc))), (aG, .inr (2, [.ref aGh, .ref aGi, .ref aGc, .ref aGo, .ref aGr, .int vGF, .int vGS])), (aGh, .inl (cA, 24, .inl (vGh))), (aGi, .inl (cA, 72, .inl (vGi))), (aGc, .inl (cA, 24, .inl (vGc))), (aR, .inr (4, [.ref aRt, .int vRL])), (aRt, .inl (cA, 24, .inl (vRt)))] → va_S A s.heap H locs → lv_has ls 3 [(2, .int x2_2), (0, .ref aF), (1, .int p0)] → Fv = l_F_findProduction_2 N_ p0 vFB vFE vFL vCn vCc vGS vGh vGi vGc vRL vRt K_ n x2_2 vFN_2 vFX_2 vFY_2 → ol_F_findProduction_2 N_ p0 vFB vFE vFL vCn vCc vGS vGh vGi vGc vRL vRt Ko_ n x2_2 vFN_2 vFX_2 vFY_2 → W p l e ({ frames := 5, cells := 0, slots := 0, locals := 121 } : Room) s m (([.ref aF, .int p0] : List Value).toArray) below meth c H locs 0 0 Qg (F0 m 2 ls []) := by
    intro K_ Ko_ hk n
    induction n with
    | zero => intro x2_2 vFN_2 vFX_2 vFY_2 H locs ls hP hD hS hl hres ho; exact ho.elim
    | succ n ih =>
      intro x2_2 vFN_2 vFX_2 vFY_2 H locs ls hP hD hS hl hres ho
      rw [l_F_findProduction_2, s_F_findProduction_2] at hres
      rw [ol_F_findProduction_2, os_F_findProduction_2] at ho
      refine lv_iload_n hx hb qd_F_findProduction_2 rfl (lv_at hl 0 rfl) ?_
      refine lv_aload_n hx hb qd_F_findProduction_3 rfl (lv_at hl 1 rfl) ?_
      refine va_get (D := (dC, dI)) (ci := 1) (v := .ref aG) (C := qR_F) (T := qT_F) (N := 14) hx hb hg qi_F hown hK hP 0 rfl rfl 0 (by decide) (hg _ mw_91) (fun _ h9 => h9) rfl qd_F_findProduction_4 ?_
      refine xc_V (As := []) (rest := [.int x2_2]) ⟨hx, hb, hml, hown, hg⟩ (c_G_size l dC dI cA aG aGh aGi aGc aGo aGr vGF vGS) (cwV 0 hg (q_gV mw_485 mw_369 mw_370 mw_2 mw_371) rfl rfl rfl qh_G_size ⟨Nat.le_of_ble_eq_true rfl, Nat.le_of_ble_eq_true rfl⟩) hN hK hP [4] rfl 0 2 rfl rfl rfl hl.1 rfl (Nat.le_of_ble_eq_true rfl) qd_F_findProduction_7 ⟨Nat.zero_le _, Nat.zero_le _⟩ ?_
      refine lv_icmp_ge (tgt := 41) hx hb qd_F_findProduction_10 (by decide) (fun c_10 => ?_) (fun c_10 => ?_)
      · have hres := hres.trans (if_pos c_10)
        have ho := (if_pos c_10).mp ho
        exact hk x2_2 vFN_2 vFX_2 vFY_2 H locs ls hP hD hS (lv_sub hl [0, 1, 2] rfl) hres ho
      have hres := hres.trans (if_neg c_10)
      have ho := (if_neg c_10).mp ho
      refine lv_aload_n hx hb qd_F_findProduction_13 rfl (lv_at hl 1 rfl) ?_
      refine va_get (D := (dC, dI)) (ci := 1) (v := .ref aG) (C := qR_F) (T := qT_F) (N := 14) hx hb hg qi_F hown hK hP 0 rfl rfl 0 (by decide) (hg _ mw_91) (fun _ h9 => h9) rfl qd_F_findProduction_14 ?_
      refine lv_iload_n hx hb qd_F_findProduction_17 rfl (lv_at hl 0 rfl) ?_
      obtain ⟨g_18, ho⟩ := ho
      refine xc_V (As := [.int x2_2]) (rest := []) ⟨hx, hb, hml, hown, hg⟩ (c_G_head l dC dI cA aG aGh aGi aGc aGo aGr vGF vGS vGh x2_2 g_18) (cwV 1 hg (q_gV mw_486 mw_423 mw_424 mw_2 mw_425) rfl rfl rfl qh_G_head ⟨Nat.le_of_ble_eq_true rfl, Nat.le_of_ble_eq_true rfl⟩) hN hK hP [4, 5] rfl 0 2 rfl rfl rfl hl.1 rfl (Nat.le_of_ble_eq_true rfl) qd_F_findProduction_18 ⟨Nat.zero_le _, Nat.zero_le _⟩ ?_
      refine lv_topi (fun r_18 w_18 => ?_)
      have hres := hres.trans (bd_eq w_18)
      have ho := (bd_eq w_18).mp ho
      refine lv_iload_n hx hb qd_F_findProduction_21 rfl (lv_at hl 2 rfl) ?_
      refine lv_icmp_ne (tgt := 35) hx hb qd_F_findProduction_22 (by decide) (fun c_22 => ?_) (fun c_22 => ?_)
      · have hres := hres.trans (if_neg c_22)
        have ho := (if_neg c_22).mp ho
        refine lv_iinc (v := x2_2 + 1) (lv' := [(2, .int (x2_2 + 1)), (0, .ref aF), (1, .int p0)]) hx hb qd_F_findProduction_35 hl (k := 0) rfl (congrArg (fun z => _ + z) (by decide)) (by decide) rfl (fun ls hl => ?_)
        refine lv_goto (tgt := 2) hx hb qd_F_findProduction_38 (by decide) ?_
        exact ih (x2_2 + 1) vFN_2 vFX_2 vFY_2 H locs ls hP hD hS (lv_sub hl [0, 1, 2] rfl) hres ho
      have hres := hres.trans (if_pos c_22)
      have ho := (if_pos c_22).mp ho
      refine lv_aload_n hx hb qd_F_findProduction_25 rfl (lv_at hl 1 rfl) ?_
      refine lv_iload_n hx hb qd_F_findProduction_26 rfl (lv_at hl 0 rfl) ?_
      obtain ⟨g_27, ho⟩ := ho
      refine xm_Vi (As := [.int x2_2]) (rest := []) (w1 := fun (u_27 : Int32 × Int32 × Int32 × Int32) => [(aF, .inr (1, [.ref aG, .ref aC, .ref aFs, .ref aFf, .ref aFt, .ref aFn, .ref aFd, .int vFW, .int vFB, .int vFE, .int u_27.2.1, .int vFL, .int u_27.2.2.1, .int u_27.2.2.2])), (aC, .inr (0, [.ref aG, .ref aR, .ref aCn, .ref aCc, .ref aCr, .ref aCs, .int vCF])), (aCn, .inl (cA, 5760, .inl (vCn))), (aCc, .inl (cA, 5760, .inl (vCc))), (aG, .inr (2, [.ref aGh, .ref aGi, .ref aGc, .ref aGo, .ref aGr, .int vGF, .int vGS])), (aGi, .inl (cA, 72, .inl (vGi))), (aGc, .inl (cA, 24, .inl (vGc))), (aR, .inr (4, [.ref aRt, .int vRL])), (aRt, .inl (cA, 24, .inl (vRt)))]) (w2 := fun (u_27 : Int32 × Int32 × Int32 × Int32) => [(aF, .inr (1, [.ref aG, .ref aC, .ref aFs, .ref aFf, .ref aFt, .ref aFn, .ref aFd, .int vFW, .int vFB, .int vFE, .int u_27.2.1, .int vFL, .int u_27.2.2.1, .int u_27.2.2.2])), (aC, .inr (0, [.ref aG, .ref aR, .ref aCn, .ref aCc, .ref aCr, .ref aCs, .int vCF])), (aCn, .inl (cA, 5760, .inl (vCn))), (aCc, .inl (cA, 5760, .inl (vCc))), (aG, .inr (2, [.ref aGh, .ref aGi, .ref aGc, .ref aGo, .ref aGr, .int vGF, .int vGS])), (aGh, .inl (cA, 24, .inl (vGh))), (aGi, .inl (cA, 72, .inl (vGi))), (aGc, .inl (cA, 24, .inl (vGc))), (aR, .inr (4, [.ref aRt, .int vRL])), (aRt, .inl (cA, 24, .inl (vRt)))]) ⟨hx, hb, hml, hown, hg⟩ (c_F_findSplit l dC dI cA N_ aF aFs aFf aFt aFn aFd aC aCn aCc aCr aCs aG aGh aGi aGc aGo aGr aR aRt _ vFW vFB vFE vFN_2 vFL vFX_2 vFY_2 vCF vCn vCc vGF vGS vGi vGc vRL vRt x2_2 g_27) (cwV 1 hg (q_gV mw_487 mw_488 mw_758 mw_6 mw_489) rfl rfl rfl qh_F_findSplit ⟨Nat.le_of_ble_eq_true rfl, Nat.le_of_ble_eq_true rfl⟩) hN hK hP hD hS hA [0, 1, 2, 3, 4, 6, 7, 8, 9] [5] rfl rfl (by decide) (by decide) (by decide) [1, 2, 3, 4, 5, 0, 6, 7, 8, 9] (fun _ => rfl) (by decide) 0 1 rfl rfl rfl hl.1 rfl (Nat.le_of_ble_eq_true rfl) qd_F_findProduction_27 ⟨Nat.zero_le _, Nat.zero_le _⟩ (fun u_27 H locs w_27 hP hD hS => ?_)
      have hP : va_P (dC, dI) vwCl [(aF, .inr (1, [.ref aG, .ref aC, .ref aFs, .ref aFf, .ref aFt, .ref aFn, .ref aFd, .int vFW, .int vFB, .int vFE, .int u_27.2.1, .int vFL, .int u_27.2.2.1, .int u_27.2.2.2])), (aC, .inr (0, [.ref aG, .ref aR, .ref aCn, .ref aCc, .ref aCr, .ref aCs, .int vCF])), (aCn, .inl (cA, 5760, .inl (vCn))), (aCc, .inl (cA, 5760, .inl (vCc))), (aG, .inr (2, [.ref aGh, .ref aGi, .ref aGc, .ref aGo, .ref aGr, .int vGF, .int vGS])), (aGh, .inl (cA, 24, .inl (vGh))), (aGi, .inl (cA, 72, .inl (vGi))), (aGc, .inl (cA, 24, .inl (vGc))), (aR, .inr (4, [.ref aRt, .int vRL])), (aRt, .inl (cA, 24, .inl (vRt)))] H := hP
      have hD : va_D A [(aF, .inr (1, [.ref aG, .ref aC, .ref aFs, .ref aFf, .ref aFt, .ref aFn, .ref aFd, .int vFW, .int vFB, .int vFE, .int u_27.2.1, .int vFL, .int u_27.2.2.1, .int u_27.2.2.2])), (aC, .inr (0, [.ref aG, .ref aR, .ref aCn, .ref aCc, .ref aCr, .ref aCs, .int vCF])), (aCn, .inl (cA, 5760, .inl (vCn))), (aCc, .inl (cA, 5760, .inl (vCc))), (aG, .inr (2, [.ref aGh, .ref aGi, .ref aGc, .ref aGo, .ref aGr, .int vGF, .int vGS])), (aGh, .inl (cA, 24, .inl (vGh))), (aGi, .inl (cA, 72, .inl (vGi))), (aGc, .inl (cA, 24, .inl (vGc))), (aR, .inr (4, [.ref aRt, .int vRL])), (aRt, .inl (cA, 24, .inl (vRt)))] := hD
      have hres := hres.trans (bd_eq w_27)
      have ho := (bd_eq w_27).mp ho
      refine lv_if_eq (tgt := 35) hx hb qd_F_findProduction_30 (by decide) (fun c_30 => ?_) (fun c_30 => ?_)
      · have hres := hres.trans (if_pos c_30)
        have ho := (if_pos c_30).mp ho
        refine lv_iinc (v := x2_2 + 1) (lv' := [(2, .int (x2_2 + 1)), (0, .ref aF), (1, .int p0)]) hx hb qd_F_findProduction_35 hl (k := 0) rfl (congrArg (fun z => _ + z) (by decide)) (by decide) rfl (fun ls hl => ?_)
        refine lv_goto (tgt := 2) hx hb qd_F_findProduction_38 (by decide) ?_
        exact ih (x2_2 + 1) u_27.2.1 u_27.2.2.1 u_27.2.2.2 H locs ls hP hD hS (lv_sub hl [0, 1, 2] rfl) hres ho
      have hres := hres.trans (if_neg c_30)
      have ho := (if_neg c_30).mp ho
      refine lv_iload_n hx hb qd_F_findProduction_33 rfl (lv_at hl 0 rfl) ?_
      subst hQ
      exact W.iret (v := x2_2) hx hb hr (fun t ht hW => ⟨⟨_, (x2_2, u_27.2.1, u_27.2.2.1, u_27.2.2.2), rfl, ⟨hres.symm, rfl⟩, ⟨by rw [ht]; exact hP, va_K.moved hW.alike hK, x_N hN hW⟩, hD⟩, hS.F ht⟩) hS.2.2 qd_F_findProduction_34
  refine L_2 _ _ (fun x2_2 vFN_2 vFX_2 vFY_2 H locs ls hP hD hS hl hres ho => ?_) _ _ _ _ _ _ _ ls hP hD hS hl hres ho
  refine lv_iconst (v := (-1)) hx hb qd_F_findProduction_41 (by decide) ?_
  subst hQ
  exact W.iret (v := (-1)) hx hb hr (fun t ht hW => ⟨⟨_, ((-1), vFN_2, vFX_2, vFY_2), rfl, ⟨hres.symm, rfl⟩, ⟨by rw [ht]; exact hP, va_K.moved hW.alike hK, x_N hN hW⟩, hD⟩, hS.F ht⟩) hS.2.2 qd_F_findProduction_42
theorem qd_F_pileUpItems_0 : decode qc_F_pileUpItems 0 = .ok (.aload_n 0, 1) := by decide +kernel
theorem qd_F_pileUpItems_1 : decode qc_F_pileUpItems 1 = .ok (.getfield 53, 3) := by decide +kernel
theorem qd_F_pileUpItems_4 : decode qc_F_pileUpItems 4 = .ok (.aload_n 0, 1) := by decide +kernel
theorem qd_F_pileUpItems_5 : decode qc_F_pileUpItems 5 = .ok (.getfield 49, 3) := by decide +kernel
theorem qd_F_pileUpItems_8 : decode qc_F_pileUpItems 8 = .ok (.iload_n 1, 1) := by decide +kernel
theorem qd_F_pileUpItems_9 : decode qc_F_pileUpItems 9 = .ok (.iconst 1, 1) := by decide +kernel
theorem qd_F_pileUpItems_10 : decode qc_F_pileUpItems 10 = .ok (.invokevirtual 128, 3) := by decide +kernel
theorem qd_F_pileUpItems_13 : decode qc_F_pileUpItems 13 = .ok (.aload_n 0, 1) := by decide +kernel
theorem qd_F_pileUpItems_14 : decode qc_F_pileUpItems 14 = .ok (.getfield 43, 3) := by decide +kernel
theorem qd_F_pileUpItems_17 : decode qc_F_pileUpItems 17 = .ok (.aload_n 0, 1) := by decide +kernel
theorem qd_F_pileUpItems_18 : decode qc_F_pileUpItems 18 = .ok (.getfield 46, 3) := by decide +kernel
theorem qd_F_pileUpItems_21 : decode qc_F_pileUpItems 21 = .ok (.invokevirtual 131, 3) := by decide +kernel
theorem qd_F_pileUpItems_24 : decode qc_F_pileUpItems 24 = .ok (.istore_n 3, 1) := by decide +kernel
theorem qd_F_pileUpItems_25 : decode qc_F_pileUpItems 25 = .ok (.aload_n 0, 1) := by decide +kernel
theorem qd_F_pileUpItems_26 : decode qc_F_pileUpItems 26 = .ok (.getfield 53, 3) := by decide +kernel
theorem qd_F_pileUpItems_29 : decode qc_F_pileUpItems 29 = .ok (.aload_n 0, 1) := by decide +kernel
theorem qd_F_pileUpItems_30 : decode qc_F_pileUpItems 30 = .ok (.getfield 49, 3) := by decide +kernel
theorem qd_F_pileUpItems_33 : decode qc_F_pileUpItems 33 = .ok (.iload_n 1, 1) := by decide +kernel
theorem qd_F_pileUpItems_34 : decode qc_F_pileUpItems 34 = .ok (.iconst 2, 1) := by decide +kernel
theorem qd_F_pileUpItems_35 : decode qc_F_pileUpItems 35 = .ok (.invokevirtual 128, 3) := by decide +kernel
theorem qd_F_pileUpItems_38 : decode qc_F_pileUpItems 38 = .ok (.aload_n 0, 1) := by decide +kernel
theorem qd_F_pileUpItems_39 : decode qc_F_pileUpItems 39 = .ok (.getfield 46, 3) := by decide +kernel
theorem qd_F_pileUpItems_42 : decode qc_F_pileUpItems 42 = .ok (.aload_n 0, 1) := by decide +kernel
theorem qd_F_pileUpItems_43 : decode qc_F_pileUpItems 43 = .ok (.getfield 34, 3) := by decide +kernel
theorem qd_F_pileUpItems_46 : decode qc_F_pileUpItems 46 = .ok (.invokevirtual 131, 3) := by decide +kernel
theorem qd_F_pileUpItems_49 : decode qc_F_pileUpItems 49 = .ok (.istore 4, 2) := by decide +kernel
theorem qd_F_pileUpItems_51 : decode qc_F_pileUpItems 51 = .ok (.iconst (-1), 1) := by decide +kernel
theorem qd_F_pileUpItems_52 : decode qc_F_pileUpItems 52 = .ok (.istore 5, 2) := by decide +kernel
theorem qd_F_pileUpItems_54 : decode qc_F_pileUpItems 54 = .ok (.iconst (-1), 1) := by decide +kernel
theorem qd_F_pileUpItems_55 : decode qc_F_pileUpItems 55 = .ok (.istore 6, 2) := by decide +kernel
theorem qd_F_pileUpItems_57 : decode qc_F_pileUpItems 57 = .ok (.iconst (-1), 1) := by decide +kernel
theorem qd_F_pileUpItems_58 : decode qc_F_pileUpItems 58 = .ok (.istore 7, 2) := by decide +kernel
theorem qd_F_pileUpItems_60 : decode qc_F_pileUpItems 60 = .ok (.aload_n 0, 1) := by decide +kernel
theorem qd_F_pileUpItems_61 : decode qc_F_pileUpItems 61 = .ok (.getfield 37, 3) := by decide +kernel
theorem qd_F_pileUpItems_64 : decode qc_F_pileUpItems 64 = .ok (.iconst (-1), 1) := by decide +kernel
theorem qd_F_pileUpItems_65 : decode qc_F_pileUpItems 65 = .ok (.if_icmp .eq 43, 3) := by decide +kernel
theorem qd_F_pileUpItems_68 : decode qc_F_pileUpItems 68 = .ok (.iload_n 3, 1) := by decide +kernel
theorem qd_F_pileUpItems_69 : decode qc_F_pileUpItems 69 = .ok (.ifCond .le 39, 3) := by decide +kernel
theorem qd_F_pileUpItems_72 : decode qc_F_pileUpItems 72 = .ok (.iload 4, 2) := by decide +kernel
theorem qd_F_pileUpItems_74 : decode qc_F_pileUpItems 74 = .ok (.ifCond .le 34, 3) := by decide +kernel
theorem qd_F_pileUpItems_77 : decode qc_F_pileUpItems 77 = .ok (.aload_n 0, 1) := by decide +kernel
theorem qd_F_pileUpItems_78 : decode qc_F_pileUpItems 78 = .ok (.getfield 37, 3) := by decide +kernel
theorem qd_F_pileUpItems_81 : decode qc_F_pileUpItems 81 = .ok (.iload 4, 2) := by decide +kernel
theorem qd_F_pileUpItems_83 : decode qc_F_pileUpItems 83 = .ok (.irem, 1) := by decide +kernel
theorem qd_F_pileUpItems_84 : decode qc_F_pileUpItems 84 = .ok (.istore 7, 2) := by decide +kernel
theorem qd_F_pileUpItems_86 : decode qc_F_pileUpItems 86 = .ok (.aload_n 0, 1) := by decide +kernel
theorem qd_F_pileUpItems_87 : decode qc_F_pileUpItems 87 = .ok (.getfield 37, 3) := by decide +kernel
theorem qd_F_pileUpItems_90 : decode qc_F_pileUpItems 90 = .ok (.iload 4, 2) := by decide +kernel
theorem qd_F_pileUpItems_92 : decode qc_F_pileUpItems 92 = .ok (.idiv, 1) := by decide +kernel
theorem qd_F_pileUpItems_93 : decode qc_F_pileUpItems 93 = .ok (.iload_n 3, 1) := by decide +kernel
theorem qd_F_pileUpItems_94 : decode qc_F_pileUpItems 94 = .ok (.irem, 1) := by decide +kernel
theorem qd_F_pileUpItems_95 : decode qc_F_pileUpItems 95 = .ok (.istore 6, 2) := by decide +kernel
theorem qd_F_pileUpItems_97 : decode qc_F_pileUpItems 97 = .ok (.aload_n 0, 1) := by decide +kernel
theorem qd_F_pileUpItems_98 : decode qc_F_pileUpItems 98 = .ok (.getfield 37, 3) := by decide +kernel
theorem qd_F_pileUpItems_101 : decode qc_F_pileUpItems 101 = .ok (.iload 4, 2) := by decide +kernel
theorem qd_F_pileUpItems_103 : decode qc_F_pileUpItems 103 = .ok (.idiv, 1) := by decide +kernel
theorem qd_F_pileUpItems_104 : decode qc_F_pileUpItems 104 = .ok (.iload_n 3, 1) := by decide +kernel
theorem qd_F_pileUpItems_105 : decode qc_F_pileUpItems 105 = .ok (.idiv, 1) := by decide +kernel
theorem qd_F_pileUpItems_106 : decode qc_F_pileUpItems 106 = .ok (.istore 5, 2) := by decide +kernel
theorem qd_F_pileUpItems_108 : decode qc_F_pileUpItems 108 = .ok (.aload_n 0, 1) := by decide +kernel
theorem qd_F_pileUpItems_109 : decode qc_F_pileUpItems 109 = .ok (.aload_n 0, 1) := by decide +kernel
theorem qd_F_pileUpItems_110 : decode qc_F_pileUpItems 110 = .ok (.getfield 49, 3) := by decide +kernel
theorem qd_F_pileUpItems_113 : decode qc_F_pileUpItems 113 = .ok (.iload_n 1, 1) := by decide +kernel
theorem qd_F_pileUpItems_114 : decode qc_F_pileUpItems 114 = .ok (.iconst 2, 1) := by decide +kernel
theorem qd_F_pileUpItems_115 : decode qc_F_pileUpItems 115 = .ok (.invokevirtual 128, 3) := by decide +kernel
theorem qd_F_pileUpItems_118 : decode qc_F_pileUpItems 118 = .ok (.aload_n 0, 1) := by decide +kernel
theorem qd_F_pileUpItems_119 : decode qc_F_pileUpItems 119 = .ok (.getfield 46, 3) := by decide +kernel
theorem qd_F_pileUpItems_122 : decode qc_F_pileUpItems 122 = .ok (.aload_n 0, 1) := by decide +kernel
theorem qd_F_pileUpItems_123 : decode qc_F_pileUpItems 123 = .ok (.getfield 34, 3) := by decide +kernel
theorem qd_F_pileUpItems_126 : decode qc_F_pileUpItems 126 = .ok (.iload 7, 2) := by decide +kernel
theorem qd_F_pileUpItems_128 : decode qc_F_pileUpItems 128 = .ok (.iload_n 2, 1) := by decide +kernel
theorem qd_F_pileUpItems_129 : decode qc_F_pileUpItems 129 = .ok (.invokevirtual 62, 3) := by decide +kernel
theorem qd_F_pileUpItems_132 : decode qc_F_pileUpItems 132 = .ok (.aload_n 0, 1) := by decide +kernel
theorem qd_F_pileUpItems_133 : decode qc_F_pileUpItems 133 = .ok (.aload_n 0, 1) := by decide +kernel
theorem qd_F_pileUpItems_134 : decode qc_F_pileUpItems 134 = .ok (.getfield 49, 3) := by decide +kernel
theorem qd_F_pileUpItems_137 : decode qc_F_pileUpItems 137 = .ok (.iload_n 1, 1) := by decide +kernel
theorem qd_F_pileUpItems_138 : decode qc_F_pileUpItems 138 = .ok (.iconst 1, 1) := by decide +kernel
theorem qd_F_pileUpItems_139 : decode qc_F_pileUpItems 139 = .ok (.invokevirtual 128, 3) := by decide +kernel
theorem qd_F_pileUpItems_142 : decode qc_F_pileUpItems 142 = .ok (.aload_n 0, 1) := by decide +kernel
theorem qd_F_pileUpItems_143 : decode qc_F_pileUpItems 143 = .ok (.getfield 43, 3) := by decide +kernel
theorem qd_F_pileUpItems_146 : decode qc_F_pileUpItems 146 = .ok (.aload_n 0, 1) := by decide +kernel
theorem qd_F_pileUpItems_147 : decode qc_F_pileUpItems 147 = .ok (.getfield 46, 3) := by decide +kernel
theorem qd_F_pileUpItems_150 : decode qc_F_pileUpItems 150 = .ok (.iload 6, 2) := by decide +kernel
theorem qd_F_pileUpItems_152 : decode qc_F_pileUpItems 152 = .ok (.iload_n 2, 1) := by decide +kernel
theorem qd_F_pileUpItems_153 : decode qc_F_pileUpItems 153 = .ok (.invokevirtual 62, 3) := by decide +kernel
theorem qd_F_pileUpItems_156 : decode qc_F_pileUpItems 156 = .ok (.aload_n 0, 1) := by decide +kernel
theorem qd_F_pileUpItems_157 : decode qc_F_pileUpItems 157 = .ok (.aload_n 0, 1) := by decide +kernel
theorem qd_F_pileUpItems_158 : decode qc_F_pileUpItems 158 = .ok (.getfield 49, 3) := by decide +kernel
theorem qd_F_pileUpItems_161 : decode qc_F_pileUpItems 161 = .ok (.iload_n 1, 1) := by decide +kernel
theorem qd_F_pileUpItems_162 : decode qc_F_pileUpItems 162 = .ok (.iconst 0, 1) := by decide +kernel
theorem qd_F_pileUpItems_163 : decode qc_F_pileUpItems 163 = .ok (.invokevirtual 128, 3) := by decide +kernel
theorem qd_F_pileUpItems_166 : decode qc_F_pileUpItems 166 = .ok (.aload_n 0, 1) := by decide +kernel
theorem qd_F_pileUpItems_167 : decode qc_F_pileUpItems 167 = .ok (.getfield 31, 3) := by decide +kernel
theorem qd_F_pileUpItems_170 : decode qc_F_pileUpItems 170 = .ok (.aload_n 0, 1) := by decide +kernel
theorem qd_F_pileUpItems_171 : decode qc_F_pileUpItems 171 = .ok (.getfield 43, 3) := by decide +kernel
theorem qd_F_pileUpItems_174 : decode qc_F_pileUpItems 174 = .ok (.iload 5, 2) := by decide +kernel
theorem qd_F_pileUpItems_176 : decode qc_F_pileUpItems 176 = .ok (.iload_n 2, 1) := by decide +kernel
theorem qd_F_pileUpItems_177 : decode qc_F_pileUpItems 177 = .ok (.invokevirtual 62, 3) := by decide +kernel
theorem qd_F_pileUpItems_180 : decode qc_F_pileUpItems 180 = .ok (.return_, 1) := by decide +kernel
set_option maxHeartbeats 4000000 in
set_option maxRecDepth 100000 in
theorem c_F_pileUpItems (l : Launch) (dC : Nat → ClassId) (dI : Nat → Nat → Nat) (cA : ClassId) (aF aFs aFf aFt aFn aFd aC aCn aCc aCr aCs aG aGh aGi aGc aGo aGr aR aRt : Nat) (sz : Nat) (vFW : Int32) (vFB : Int32) (vFE : Int32) (vFN : Int32) (vFL : Int32) (vFX : Int32) (vFY : Int32) (vFs : (Nat → Int32)) (vFf : (Nat → Int32)) (vFt : (Nat → Int32)) (vFn : (Nat → Int32)) (vFd : (Nat → Int32)) (vCF : Int32) (vCn : (Nat → Int32)) (vGF : Int32) (vGS : Int32) (vGi : (Nat → Int32)) (vRL : Int32) (vRt : (Nat → Int32)) (p0 : Int32) (p1 : Int32) (ho : o_F_pileUpItems vFW vFB vFE vFN vFX vFY vFs vFf vFt vFn vFd vCn vGS vGi vRL vRt p0 p1) : Met l qy_F_pileUpItems qw_F_pileUpItems ({ frames := 2, cells := 0, slots := 0, locals := 46 }) (va_Pc [.ref aF, .int p0, .int p1] (fun U => U.heap.size = sz ∧ xP (dC, dI) [(cA, .int)] [(aF, .inr (1, [.ref aG, .ref aC, .ref aFs, .ref aFf, .ref aFt, .ref aFn, .ref aFd, .int vFW, .int vFB, .int vFE, .int vFN, .int vFL, .int vFX, .int vFY])), (aFs, .inl (cA, 24, .inl (vFs))), (aFf, .inl (cA, 24, .inl (vFf))), (aFt, .inl (cA, 24, .inl (vFt))), (aFn, .inl (cA, 24, .inl (vFn))), (aFd, .inl (cA, 24, .inl (vFd))), (aC, .inr (0, [.ref aG, .ref aR, .ref aCn, .ref aCc, .ref aCr, .ref aCs, .int vCF])), (aCn, .inl (cA, 5760, .inl (vCn))), (aG, .inr (2, [.ref aGh, .ref aGi, .ref aGc, .ref aGo, .ref aGr, .int vGF, .int vGS])), (aGi, .inl (cA, 72, .inl (vGi))), (aR, .inr (4, [.ref aRt, .int vRL])), (aRt, .inl (cA, 24, .inl (vRt)))] nestN U ∧ va_D (fun _ => True) [(aF, .inr (1, [.ref aG, .ref aC, .ref aFs, .ref aFf, .ref aFt, .ref aFn, .ref aFd, .int vFW, .int vFB, .int vFE, .int vFN, .int vFL, .int vFX, .int vFY])), (aFs, .inl (cA, 24, .inl (vFs))), (aFf, .inl (cA, 24, .inl (vFf))), (aFt, .inl (cA, 24, .inl (vFt))), (aFn, .inl (cA, 24, .inl (vFn))), (aFd, .inl (cA, 24, .inl (vFd))), (aC, .inr (0, [.ref aG, .ref aR, .ref aCn, .ref aCc, .ref aCr, .ref aCs, .int vCF])), (aCn, .inl (cA, 5760, .inl (vCn))), (aG, .inr (2, [.ref aGh, .ref aGi, .ref aGc, .ref aGo, .ref aGr, .int vGF, .int vGS])), (aGi, .inl (cA, 72, .inl (vGi))), (aR, .inr (4, [.ref aRt, .int vRL])), (aRt, .inl (cA, 24, .inl (vRt)))])) (va_Qv (fun u => u = f_F_pileUpItems vFW vFB vFE vFN vFX vFY vFs vFf vFt vFn vFd vCn vGS vGi vRL vRt p0 p1) (fun (u : Int32 × (Nat → Int32) × (Nat → Int32) × (Nat → Int32) × (Nat → Int32) × (Nat → Int32)) t => xP (dC, dI) [(cA, .int)] [(aF, .inr (1, [.ref aG, .ref aC, .ref aFs, .ref aFf, .ref aFt, .ref aFn, .ref aFd, .int u.1, .int vFB, .int vFE, .int vFN, .int vFL, .int vFX, .int vFY])), (aFs, .inl (cA, 24, .inl (u.2.1))), (aFf, .inl (cA, 24, .inl (u.2.2.1))), (aFt, .inl (cA, 24, .inl (u.2.2.2.1))), (aFn, .inl (cA, 24, .inl (u.2.2.2.2.1))), (aFd, .inl (cA, 24, .inl (u.2.2.2.2.2))), (aC, .inr (0, [.ref aG, .ref aR, .ref aCn, .ref aCc, .ref aCr, .ref aCs, .int vCF])), (aCn, .inl (cA, 5760, .inl (vCn))), (aG, .inr (2, [.ref aGh, .ref aGi, .ref aGc, .ref aGo, .ref aGr, .int vGF, .int vGS])), (aGi, .inl (cA, 72, .inl (vGi))), (aR, .inr (4, [.ref aRt, .int vRL])), (aRt, .inl (cA, 24, .inl (vRt)))] nestN t ∧ va_D (va_A [(aF, .inr (1, [.ref aG, .ref aC, .ref aFs, .ref aFf, .ref aFt, .ref aFn, .ref aFd, .int vFW, .int vFB, .int vFE, .int vFN, .int vFL, .int vFX, .int vFY])), (aFs, .inl (cA, 24, .inl (vFs))), (aFf, .inl (cA, 24, .inl (vFf))), (aFt, .inl (cA, 24, .inl (vFt))), (aFn, .inl (cA, 24, .inl (vFn))), (aFd, .inl (cA, 24, .inl (vFd))), (aC, .inr (0, [.ref aG, .ref aR, .ref aCn, .ref aCc, .ref aCr, .ref aCs, .int vCF])), (aCn, .inl (cA, 5760, .inl (vCn))), (aG, .inr (2, [.ref aGh, .ref aGi, .ref aGc, .ref aGo, .ref aGr, .int vGF, .int vGS])), (aGi, .inl (cA, 72, .inl (vGi))), (aR, .inr (4, [.ref aRt, .int vRL])), (aRt, .inl (cA, 24, .inl (vRt)))] sz) [(aF, .inr (1, [.ref aG, .ref aC, .ref aFs, .ref aFf, .ref aFt, .ref aFn, .ref aFd, .int u.1, .int vFB, .int vFE, .int vFN, .int vFL, .int vFX, .int vFY])), (aFs, .inl (cA, 24, .inl (u.2.1))), (aFf, .inl (cA, 24, .inl (u.2.2.1))), (aFt, .inl (cA, 24, .inl (u.2.2.2.1))), (aFn, .inl (cA, 24, .inl (u.2.2.2.2.1))), (aFd, .inl (cA, 24, .inl (u.2.2.2.2.2))), (aC, .inr (0, [.ref aG, .ref aR, .ref aCn, .ref aCc, .ref aCr, .ref aCs, .int vCF])), (aCn, .inl (cA, 5760, .inl (vCn))), (aG, .inr (2, [.ref aGh, .ref aGi, .ref aGc, .ref aGo, .ref aGr, .int vGF, .int vGS])), (aGi, .inl (cA, 72, .inl (vGi))), (aR, .inr (4, [.ref aRt, .int vRL])), (aRt, .inl (cA, 24, .inl (vRt)))]) (va_A [(aF, .inr (1, [.ref aG, .ref aC, .ref aFs, .ref aFf, .ref aFt, .ref aFn, .ref aFd, .int vFW, .int vFB, .int vFE, .int vFN, .int vFL, .int vFX, .int vFY])), (aFs, .inl (cA, 24, .inl (vFs))), (aFf, .inl (cA, 24, .inl (vFf))), (aFt, .inl (cA, 24, .inl (vFt))), (aFn, .inl (cA, 24, .inl (vFn))), (aFd, .inl (cA, 24, .inl (vFd))), (aC, .inr (0, [.ref aG, .ref aR, .ref aCn, .ref aCc, .ref aCr, .ref aCs, .int vCF])), (aCn, .inl (cA, 5760, .inl (vCn))), (aG, .inr (2, [.ref aGh, .ref aGi, .ref aGc, .ref aGo, .ref aGr, .int vGF, .int vGS])), (aGi, .inl (cA, 72, .inl (vGi))), (aR, .inr (4, [.ref aRt, .int vRL])), (aRt, .inl (cA, 24, .inl (vRt)))] sz)) 0 0 (va_A [(aF, .inr (1, [.ref aG, .ref aC, .ref aFs, .ref aFf, .ref aFt, .ref aFn, .ref aFd, .int vFW, .int vFB, .int vFE, .int vFN, .int vFL, .int vFX, .int vFY])), (aFs, .inl (cA, 24, .inl (vFs))), (aFf, .inl (cA, 24, .inl (vFf))), (aFt, .inl (cA, 24, .inl (vFt))), (aFn, .inl (cA, 24, .inl (vFn))), (aFd, .inl (cA, 24, .inl (vFd))), (aC, .inr (0, [.ref aG, .ref aR, .ref aCn, .ref aCc, .ref aCr, .ref aCs, .int vCF])), (aCn, .inl (cA, 5760, .inl (vCn))), (aG, .inr (2, [.ref aGh, .ref aGi, .ref aGc, .ref aGo, .ref aGr, .int vGF, .int vGS])), (aGi, .inl (cA, 72, .inl (vGi))), (aR, .inr (4, [.ref aRt, .int vRL])), (aRt, .inl (cA, 24, .inl (vRt)))] sz) := by
  refine Met.ofW (cc := qc_F_pileUpItems) (maxL := 8) (ret := (none)) (by decide) rfl ?_
  intro p e s m args below meth c s₁ B hml hv
  obtain ⟨rfl, hsz, ⟨hP, hK, hN⟩, hD0⟩ := hv
  have hx := B.exec
  have hb := B.bytes
  have hr := B.returns
  have hts := atoms_spec (ws := qw_F_pileUpItems) B.pre
  have hg : ∀ w ∈ gG, w.before _ s = true := fun w h => hts w (List.mem_cons_of_mem _ h)
  have hown : s.vm.findClass qR_F = some m.cls := findClass_of_methodNamed B.named
  have hlocks := B.notSynchronized
  subst hsz
  have hD := hD0.self (sz := s.heap.size)
  generalize hAe : va_A [(aF, .inr (1, [.ref aG, .ref aC, .ref aFs, .ref aFf, .ref aFt, .ref aFn, .ref aFd, .int vFW, .int vFB, .int vFE, .int vFN, .int vFL, .int vFX, .int vFY])), (aFs, .inl (cA, 24, .inl (vFs))), (aFf, .inl (cA, 24, .inl (vFf))), (aFt, .inl (cA, 24, .inl (vFt))), (aFn, .inl (cA, 24, .inl (vFn))), (aFd, .inl (cA, 24, .inl (vFd))), (aC, .inr (0, [.ref aG, .ref aR, .ref aCn, .ref aCc, .ref aCr, .ref aCs, .int vCF])), (aCn, .inl (cA, 5760, .inl (vCn))), (aG, .inr (2, [.ref aGh, .ref aGi, .ref aGc, .ref aGo, .ref aGr, .int vGF, .int vGS])), (aGi, .inl (cA, 72, .inl (vGi))), (aR, .inr (4, [.ref aRt, .int vRL])), (aRt, .inl (cA, 24, .inl (vRt)))] s.heap.size = A at hD ⊢
  have hA : ∀ q : Nat, s.heap.size ≤ q → A q := fun q h => by rw [← hAe]; exact Or.inr h
  have hS : va_S A s.heap s.heap [] := va_S.rf
  have hP : va_P (dC, dI) vwCl [(aF, .inr (1, [.ref aG, .ref aC, .ref aFs, .ref aFf, .ref aFt, .ref aFn, .ref aFd, .int vFW, .int vFB, .int vFE, .int vFN, .int vFL, .int vFX, .int vFY])), (aFs, .inl (cA, 24, .inl (vFs))), (aFf, .inl (cA, 24, .inl (vFf))), (aFt, .inl (cA, 24, .inl (vFt))), (aFn, .inl (cA, 24, .inl (vFn))), (aFd, .inl (cA, 24, .inl (vFd))), (aC, .inr (0, [.ref aG, .ref aR, .ref aCn, .ref aCc, .ref aCr, .ref aCs, .int vCF])), (aCn, .inl (cA, 5760, .inl (vCn))), (aG, .inr (2, [.ref aGh, .ref aGi, .ref aGc, .ref aGo, .ref aGr, .int vGF, .int vGS])), (aGi, .inl (cA, 72, .inl (vGi))), (aR, .inr (4, [.ref aRt, .int vRL])), (aRt, .inl (cA, 24, .inl (vRt)))] s.heap := hP
  have hl := lv_entry ([.ref aF, .int p0, .int p1]) (n := 8) (Nat.le_of_ble_eq_true rfl)
  rw [lg_entry_eq]
  generalize (lg_sl ([.ref aF, .int p0, .int p1]) ++ List.replicate (8 - (lg_sl ([.ref aF, .int p0, .int p1])).length) Slot.unset).toArray = ls at hl ⊢
  have hl : lv_has ls 8 [(0, .ref aF), (1, .int p0), (2, .int p1)] := hl
  generalize hF : f_F_pileUpItems vFW vFB vFE vFN vFX vFY vFs vFf vFt vFn vFd vCn vGS vGi vRL vRt p0 p1 = Fv
  have hres : Fv = f_F_pileUpItems vFW vFB vFE vFN vFX vFY vFs vFf vFt vFn vFd vCn vGS vGi vRL vRt p0 p1 := hF.symm
  unfold f_F_pileUpItems at hres
  unfold o_F_pileUpItems at ho
  refine lv_aload_n hx hb qd_F_pileUpItems_0 rfl (lv_at hl 0 rfl) ?_
  refine va_get (D := (dC, dI)) (ci := 1) (v := .ref aC) (C := qR_F) (T := qT_F) (N := 14) hx hb hg qi_F hown hK hP 0 rfl rfl 1 (by decide) (hg _ mw_92) (fun _ h9 => h9) rfl qd_F_pileUpItems_1 ?_
  refine lv_aload_n hx hb qd_F_pileUpItems_4 rfl (lv_at hl 0 rfl) ?_
  refine va_get (D := (dC, dI)) (ci := 1) (v := .ref aG) (C := qR_F) (T := qT_F) (N := 14) hx hb hg qi_F hown hK hP 0 rfl rfl 0 (by decide) (hg _ mw_91) (fun _ h9 => h9) rfl qd_F_pileUpItems_5 ?_
  refine lv_iload_n hx hb qd_F_pileUpItems_8 rfl (lv_at hl 1 rfl) ?_
  refine lv_iconst (v := 1) hx hb qd_F_pileUpItems_9 (by decide) ?_
  obtain ⟨g_10, ho⟩ := ho
  refine xc_V (As := [.int p0, .int 1]) (rest := [.ref aC]) ⟨hx, hb, hml, hown, hg⟩ (c_G_item l dC dI cA aG aGh aGi aGc aGo aGr vGF vGS vGi p0 1 g_10) (cwV 2 hg (q_gV mw_500 mw_301 mw_302 mw_2 mw_303) rfl rfl rfl qh_G_item ⟨Nat.le_of_ble_eq_true rfl, Nat.le_of_ble_eq_true rfl⟩) hN hK hP [8, 9] rfl 0 2 rfl rfl rfl hl.1 rfl (Nat.le_of_ble_eq_true rfl) qd_F_pileUpItems_10 ⟨Nat.zero_le _, Nat.zero_le _⟩ ?_
  refine lv_topi (fun r_10 w_10 => ?_)
  have hres := hres.trans (bd_eq w_10)
  have ho := (bd_eq w_10).mp ho
  refine lv_aload_n hx hb qd_F_pileUpItems_13 rfl (lv_at hl 0 rfl) ?_
  refine va_get (D := (dC, dI)) (ci := 1) (v := .int vFX) (C := qR_F) (T := qT_F) (N := 14) hx hb hg qi_F hown hK hP 0 rfl rfl 12 (by decide) (hg _ mw_103) (fun _ h9 => h9) rfl qd_F_pileUpItems_14 ?_
  refine lv_aload_n hx hb qd_F_pileUpItems_17 rfl (lv_at hl 0 rfl) ?_
  refine va_get (D := (dC, dI)) (ci := 1) (v := .int vFY) (C := qR_F) (T := qT_F) (N := 14) hx hb hg qi_F hown hK hP 0 rfl rfl 13 (by decide) (hg _ mw_104) (fun _ h9 => h9) rfl qd_F_pileUpItems_18 ?_
  obtain ⟨g_21, ho⟩ := ho
  refine xc_V (As := [.int r_10, .int vFX, .int vFY]) (rest := []) ⟨hx, hb, hml, hown, hg⟩ (c_C_trees l dC dI cA aC aCn aCc aCr aCs aG aR aRt vCF vCn vRL vRt r_10 vFX vFY g_21) (cwV 3 hg (q_gV mw_501 mw_385 mw_386 mw_4 mw_387) rfl rfl rfl qh_C_trees ⟨Nat.le_of_ble_eq_true rfl, Nat.le_of_ble_eq_true rfl⟩) hN hK hP [6, 7, 10, 11] rfl 0 0 rfl rfl rfl hl.1 rfl (Nat.le_of_ble_eq_true rfl) qd_F_pileUpItems_21 ⟨Nat.zero_le _, Nat.zero_le _⟩ ?_
  refine lv_topi (fun r_21 w_21 => ?_)
  have hres := hres.trans (bd_eq w_21)
  have ho := (bd_eq w_21).mp ho
  refine lv_istore_n (lv' := [(3, .int r_21), (0, .ref aF), (1, .int p0), (2, .int p1)]) hx hb qd_F_pileUpItems_24 rfl hl (by decide) rfl (fun ls hl => ?_)
  refine lv_aload_n hx hb qd_F_pileUpItems_25 rfl (lv_at hl 1 rfl) ?_
  refine va_get (D := (dC, dI)) (ci := 1) (v := .ref aC) (C := qR_F) (T := qT_F) (N := 14) hx hb hg qi_F hown hK hP 0 rfl rfl 1 (by decide) (hg _ mw_92) (fun _ h9 => h9) rfl qd_F_pileUpItems_26 ?_
  refine lv_aload_n hx hb qd_F_pileUpItems_29 rfl (lv_at hl 1 rfl) ?_
  refine va_get (D := (dC, dI)) (ci := 1) (v := .ref aG) (C := qR_F) (T := qT_F) (N := 14) hx hb hg qi_F hown hK hP 0 rfl rfl 0 (by decide) (hg _ mw_91) (fun _ h9 => h9) rfl qd_F_pileUpItems_30 ?_
  refine lv_iload_n hx hb qd_F_pileUpItems_33 rfl (lv_at hl 2 rfl) ?_
  refine lv_iconst (v := 2) hx hb qd_F_pileUpItems_34 (by decide) ?_
  obtain ⟨g_35, ho⟩ := ho
  refine xc_V (As := [.int p0, .int 2]) (rest := [.ref aC]) ⟨hx, hb, hml, hown, hg⟩ (c_G_item l dC dI cA aG aGh aGi aGc aGo aGr vGF vGS vGi p0 2 g_35) (cwV 2 hg (q_gV mw_500 mw_301 mw_302 mw_2 mw_303) rfl rfl rfl qh_G_item ⟨Nat.le_of_ble_eq_true rfl, Nat.le_of_ble_eq_true rfl⟩) hN hK hP [8, 9] rfl 0 2 rfl rfl rfl hl.1 rfl (Nat.le_of_ble_eq_true rfl) qd_F_pileUpItems_35 ⟨Nat.zero_le _, Nat.zero_le _⟩ ?_
  refine lv_topi (fun r_35 w_35 => ?_)
  have hres := hres.trans (bd_eq w_35)
  have ho := (bd_eq w_35).mp ho
  refine lv_aload_n hx hb qd_F_pileUpItems_38 rfl (lv_at hl 1 rfl) ?_
  refine va_get (D := (dC, dI)) (ci := 1) (v := .int vFY) (C := qR_F) (T := qT_F) (N := 14) hx hb hg qi_F hown hK hP 0 rfl rfl 13 (by decide) (hg _ mw_104) (fun _ h9 => h9) rfl qd_F_pileUpItems_39 ?_
  refine lv_aload_n hx hb qd_F_pileUpItems_42 rfl (lv_at hl 1 rfl) ?_
  refine va_get (D := (dC, dI)) (ci := 1) (v := .int vFE) (C := qR_F) (T := qT_F) (N := 14) hx hb hg qi_F hown hK hP 0 rfl rfl 9 (by decide) (hg _ mw_100) (fun _ h9 => h9) rfl qd_F_pileUpItems_43 ?_
  obtain ⟨g_46, ho⟩ := ho
  refine xc_V (As := [.int r_35, .int vFY, .int vFE]) (rest := []) ⟨hx, hb, hml, hown, hg⟩ (c_C_trees l dC dI cA aC aCn aCc aCr aCs aG aR aRt vCF vCn vRL vRt r_35 vFY vFE g_46) (cwV 3 hg (q_gV mw_501 mw_385 mw_386 mw_4 mw_387) rfl rfl rfl qh_C_trees ⟨Nat.le_of_ble_eq_true rfl, Nat.le_of_ble_eq_true rfl⟩) hN hK hP [6, 7, 10, 11] rfl 0 0 rfl rfl rfl hl.1 rfl (Nat.le_of_ble_eq_true rfl) qd_F_pileUpItems_46 ⟨Nat.zero_le _, Nat.zero_le _⟩ ?_
  refine lv_topi (fun r_46 w_46 => ?_)
  have hres := hres.trans (bd_eq w_46)
  have ho := (bd_eq w_46).mp ho
  refine lv_istore (lv' := [(4, .int r_46), (3, .int r_21), (0, .ref aF), (1, .int p0), (2, .int p1)]) hx hb qd_F_pileUpItems_49 hl (by decide) rfl (fun ls hl => ?_)
  refine lv_iconst (v := (-1)) hx hb qd_F_pileUpItems_51 (by decide) ?_
  refine lv_istore (lv' := [(5, .int ((-1))), (4, .int r_46), (3, .int r_21), (0, .ref aF), (1, .int p0), (2, .int p1)]) hx hb qd_F_pileUpItems_52 hl (by decide) rfl (fun ls hl => ?_)
  refine lv_iconst (v := (-1)) hx hb qd_F_pileUpItems_54 (by decide) ?_
  refine lv_istore (lv' := [(6, .int ((-1))), (5, .int ((-1))), (4, .int r_46), (3, .int r_21), (0, .ref aF), (1, .int p0), (2, .int p1)]) hx hb qd_F_pileUpItems_55 hl (by decide) rfl (fun ls hl => ?_)
  refine lv_iconst (v := (-1)) hx hb qd_F_pileUpItems_57 (by decide) ?_
  refine lv_istore (lv' := [(7, .int ((-1))), (6, .int ((-1))), (5, .int ((-1))), (4, .int r_46), (3, .int r_21), (0, .ref aF), (1, .int p0), (2, .int p1)]) hx hb qd_F_pileUpItems_58 hl (by decide) rfl (fun ls hl => ?_)
  refine lv_aload_n hx hb qd_F_pileUpItems_60 rfl (lv_at hl 5 rfl) ?_
  refine va_get (D := (dC, dI)) (ci := 1) (v := .int vFN) (C := qR_F) (T := qT_F) (N := 14) hx hb hg qi_F hown hK hP 0 rfl rfl 10 (by decide) (hg _ mw_101) (fun _ h9 => h9) rfl qd_F_pileUpItems_61 ?_
  refine lv_iconst (v := (-1)) hx hb qd_F_pileUpItems_64 (by decide) ?_
  refine lv_icmp_eq (tgt := 108) hx hb qd_F_pileUpItems_65 (by decide) (fun c_65 => ?_) (fun c_65 => ?_)
  · have hres := hres.trans (if_pos c_65)
    have ho := (if_pos c_65).mp ho
    refine lv_aload_n hx hb qd_F_pileUpItems_108 rfl (lv_at hl 5 rfl) ?_
    refine lv_aload_n hx hb qd_F_pileUpItems_109 rfl (lv_at hl 5 rfl) ?_
    refine va_get (D := (dC, dI)) (ci := 1) (v := .ref aG) (C := qR_F) (T := qT_F) (N := 14) hx hb hg qi_F hown hK hP 0 rfl rfl 0 (by decide) (hg _ mw_91) (fun _ h9 => h9) rfl qd_F_pileUpItems_110 ?_
    refine lv_iload_n hx hb qd_F_pileUpItems_113 rfl (lv_at hl 6 rfl) ?_
    refine lv_iconst (v := 2) hx hb qd_F_pileUpItems_114 (by decide) ?_
    obtain ⟨g_115, ho⟩ := ho
    refine xc_V (As := [.int p0, .int 2]) (rest := [.ref aF]) ⟨hx, hb, hml, hown, hg⟩ (c_G_item l dC dI cA aG aGh aGi aGc aGo aGr vGF vGS vGi p0 2 g_115) (cwV 2 hg (q_gV mw_500 mw_301 mw_302 mw_2 mw_303) rfl rfl rfl qh_G_item ⟨Nat.le_of_ble_eq_true rfl, Nat.le_of_ble_eq_true rfl⟩) hN hK hP [8, 9] rfl 0 2 rfl rfl rfl hl.1 rfl (Nat.le_of_ble_eq_true rfl) qd_F_pileUpItems_115 ⟨Nat.zero_le _, Nat.zero_le _⟩ ?_
    refine lv_topi (fun r_115 w_115 => ?_)
    have hres := hres.trans (bd_eq w_115)
    have ho := (bd_eq w_115).mp ho
    refine lv_aload_n hx hb qd_F_pileUpItems_118 rfl (lv_at hl 5 rfl) ?_
    refine va_get (D := (dC, dI)) (ci := 1) (v := .int vFY) (C := qR_F) (T := qT_F) (N := 14) hx hb hg qi_F hown hK hP 0 rfl rfl 13 (by decide) (hg _ mw_104) (fun _ h9 => h9) rfl qd_F_pileUpItems_119 ?_
    refine lv_aload_n hx hb qd_F_pileUpItems_122 rfl (lv_at hl 5 rfl) ?_
    refine va_get (D := (dC, dI)) (ci := 1) (v := .int vFE) (C := qR_F) (T := qT_F) (N := 14) hx hb hg qi_F hown hK hP 0 rfl rfl 9 (by decide) (hg _ mw_100) (fun _ h9 => h9) rfl qd_F_pileUpItems_123 ?_
    refine lv_iload hx hb qd_F_pileUpItems_126 (lv_at hl 0 rfl) ?_
    refine lv_iload_n hx hb qd_F_pileUpItems_128 rfl (lv_at hl 7 rfl) ?_
    obtain ⟨g_129, ho⟩ := ho
    refine xm_Vv (As := [.int r_115, .int vFY, .int vFE, .int ((-1)), .int p1]) (rest := []) (w1 := fun (u_129 : Int32 × (Nat → Int32) × (Nat → Int32) × (Nat → Int32) × (Nat → Int32) × (Nat → Int32)) => [(aF, .inr (1, [.ref aG, .ref aC, .ref aFs, .ref aFf, .ref aFt, .ref aFn, .ref aFd, .int u_129.1, .int vFB, .int vFE, .int vFN, .int vFL, .int vFX, .int vFY])), (aFs, .inl (cA, 24, .inl (u_129.2.1))), (aFf, .inl (cA, 24, .inl (u_129.2.2.1))), (aFt, .inl (cA, 24, .inl (u_129.2.2.2.1))), (aFn, .inl (cA, 24, .inl (u_129.2.2.2.2.1))), (aFd, .inl (cA, 24, .inl (u_129.2.2.2.2.2)))]) (w2 := fun (u_129 : Int32 × (Nat → Int32) × (Nat → Int32) × (Nat → Int32) × (Nat → Int32) × (Nat → Int32)) => [(aF, .inr (1, [.ref aG, .ref aC, .ref aFs, .ref aFf, .ref aFt, .ref aFn, .ref aFd, .int u_129.1, .int vFB, .int vFE, .int vFN, .int vFL, .int vFX, .int vFY])), (aFs, .inl (cA, 24, .inl (u_129.2.1))), (aFf, .inl (cA, 24, .inl (u_129.2.2.1))), (aFt, .inl (cA, 24, .inl (u_129.2.2.2.1))), (aFn, .inl (cA, 24, .inl (u_129.2.2.2.2.1))), (aFd, .inl (cA, 24, .inl (u_129.2.2.2.2.2))), (aC, .inr (0, [.ref aG, .ref aR, .ref aCn, .ref aCc, .ref aCr, .ref aCs, .int vCF])), (aCn, .inl (cA, 5760, .inl (vCn))), (aG, .inr (2, [.ref aGh, .ref aGi, .ref aGc, .ref aGo, .ref aGr, .int vGF, .int vGS])), (aGi, .inl (cA, 72, .inl (vGi))), (aR, .inr (4, [.ref aRt, .int vRL])), (aRt, .inl (cA, 24, .inl (vRt)))]) ⟨hx, hb, hml, hown, hg⟩ (c_F_pileUp l dC dI cA aF aFs aFf aFt aFn aFd aC aG _ vFW vFB vFE vFN vFL vFX vFY vFs vFf vFt vFn vFd r_115 vFY vFE ((-1)) p1 g_129) (cwV 5 hg (q_gV mw_477 mw_478 mw_756 mw_6 mw_479) rfl rfl rfl qh_F_pileUp ⟨Nat.le_of_ble_eq_true rfl, Nat.le_of_ble_eq_true rfl⟩) hN hK hP hD hS hA [0, 1, 2, 3, 4, 5] [6, 7, 8, 9, 10, 11] rfl rfl (by decide) (by decide) (by decide) [6, 7, 8, 9, 10, 11, 0, 1, 2, 3, 4, 5] (fun _ => rfl) (by decide) 0 1 rfl rfl rfl hl.1 rfl (Nat.le_of_ble_eq_true rfl) qd_F_pileUpItems_129 ⟨Nat.zero_le _, Nat.zero_le _⟩ (fun u_129 H locs w_129 hP hD hS => ?_)
    have hP : va_P (dC, dI) vwCl [(aF, .inr (1, [.ref aG, .ref aC, .ref aFs, .ref aFf, .ref aFt, .ref aFn, .ref aFd, .int u_129.1, .int vFB, .int vFE, .int vFN, .int vFL, .int vFX, .int vFY])), (aFs, .inl (cA, 24, .inl (u_129.2.1))), (aFf, .inl (cA, 24, .inl (u_129.2.2.1))), (aFt, .inl (cA, 24, .inl (u_129.2.2.2.1))), (aFn, .inl (cA, 24, .inl (u_129.2.2.2.2.1))), (aFd, .inl (cA, 24, .inl (u_129.2.2.2.2.2))), (aC, .inr (0, [.ref aG, .ref aR, .ref aCn, .ref aCc, .ref aCr, .ref aCs, .int vCF])), (aCn, .inl (cA, 5760, .inl (vCn))), (aG, .inr (2, [.ref aGh, .ref aGi, .ref aGc, .ref aGo, .ref aGr, .int vGF, .int vGS])), (aGi, .inl (cA, 72, .inl (vGi))), (aR, .inr (4, [.ref aRt, .int vRL])), (aRt, .inl (cA, 24, .inl (vRt)))] H := hP
    have hD : va_D A [(aF, .inr (1, [.ref aG, .ref aC, .ref aFs, .ref aFf, .ref aFt, .ref aFn, .ref aFd, .int u_129.1, .int vFB, .int vFE, .int vFN, .int vFL, .int vFX, .int vFY])), (aFs, .inl (cA, 24, .inl (u_129.2.1))), (aFf, .inl (cA, 24, .inl (u_129.2.2.1))), (aFt, .inl (cA, 24, .inl (u_129.2.2.2.1))), (aFn, .inl (cA, 24, .inl (u_129.2.2.2.2.1))), (aFd, .inl (cA, 24, .inl (u_129.2.2.2.2.2))), (aC, .inr (0, [.ref aG, .ref aR, .ref aCn, .ref aCc, .ref aCr, .ref aCs, .int vCF])), (aCn, .inl (cA, 5760, .inl (vCn))), (aG, .inr (2, [.ref aGh, .ref aGi, .ref aGc, .ref aGo, .ref aGr, .int vGF, .int vGS])), (aGi, .inl (cA, 72, .inl (vGi))), (aR, .inr (4, [.ref aRt, .int vRL])), (aRt, .inl (cA, 24, .inl (vRt)))] := hD
    have hres := hres.trans (bd_eq w_129)
    have ho := (bd_eq w_129).mp ho
    refine lv_aload_n hx hb qd_F_pileUpItems_132 rfl (lv_at hl 5 rfl) ?_
    refine lv_aload_n hx hb qd_F_pileUpItems_133 rfl (lv_at hl 5 rfl) ?_
    refine va_get (D := (dC, dI)) (ci := 1) (v := .ref aG) (C := qR_F) (T := qT_F) (N := 14) hx hb hg qi_F hown hK hP 0 rfl rfl 0 (by decide) (hg _ mw_91) (fun _ h9 => h9) rfl qd_F_pileUpItems_134 ?_
    refine lv_iload_n hx hb qd_F_pileUpItems_137 rfl (lv_at hl 6 rfl) ?_
    refine lv_iconst (v := 1) hx hb qd_F_pileUpItems_138 (by decide) ?_
    obtain ⟨g_139, ho⟩ := ho
    refine xc_V (As := [.int p0, .int 1]) (rest := [.ref aF]) ⟨hx, hb, hml, hown, hg⟩ (c_G_item l dC dI cA aG aGh aGi aGc aGo aGr vGF vGS vGi p0 1 g_139) (cwV 2 hg (q_gV mw_500 mw_301 mw_302 mw_2 mw_303) rfl rfl rfl qh_G_item ⟨Nat.le_of_ble_eq_true rfl, Nat.le_of_ble_eq_true rfl⟩) hN hK hP [8, 9] rfl 0 2 rfl rfl rfl hl.1 rfl (Nat.le_of_ble_eq_true rfl) qd_F_pileUpItems_139 ⟨Nat.zero_le _, Nat.zero_le _⟩ ?_
    refine lv_topi (fun r_139 w_139 => ?_)
    have hres := hres.trans (bd_eq w_139)
    have ho := (bd_eq w_139).mp ho
    refine lv_aload_n hx hb qd_F_pileUpItems_142 rfl (lv_at hl 5 rfl) ?_
    refine va_get (D := (dC, dI)) (ci := 1) (v := .int vFX) (C := qR_F) (T := qT_F) (N := 14) hx hb hg qi_F hown hK hP 0 rfl rfl 12 (by decide) (hg _ mw_103) (fun _ h9 => h9) rfl qd_F_pileUpItems_143 ?_
    refine lv_aload_n hx hb qd_F_pileUpItems_146 rfl (lv_at hl 5 rfl) ?_
    refine va_get (D := (dC, dI)) (ci := 1) (v := .int vFY) (C := qR_F) (T := qT_F) (N := 14) hx hb hg qi_F hown hK hP 0 rfl rfl 13 (by decide) (hg _ mw_104) (fun _ h9 => h9) rfl qd_F_pileUpItems_147 ?_
    refine lv_iload hx hb qd_F_pileUpItems_150 (lv_at hl 1 rfl) ?_
    refine lv_iload_n hx hb qd_F_pileUpItems_152 rfl (lv_at hl 7 rfl) ?_
    obtain ⟨g_153, ho⟩ := ho
    refine xm_Vv (As := [.int r_139, .int vFX, .int vFY, .int ((-1)), .int p1]) (rest := []) (w1 := fun (u_153 : Int32 × (Nat → Int32) × (Nat → Int32) × (Nat → Int32) × (Nat → Int32) × (Nat → Int32)) => [(aF, .inr (1, [.ref aG, .ref aC, .ref aFs, .ref aFf, .ref aFt, .ref aFn, .ref aFd, .int u_153.1, .int vFB, .int vFE, .int vFN, .int vFL, .int vFX, .int vFY])), (aFs, .inl (cA, 24, .inl (u_153.2.1))), (aFf, .inl (cA, 24, .inl (u_153.2.2.1))), (aFt, .inl (cA, 24, .inl (u_153.2.2.2.1))), (aFn, .inl (cA, 24, .inl (u_153.2.2.2.2.1))), (aFd, .inl (cA, 24, .inl (u_153.2.2.2.2.2)))]) (w2 := fun (u_153 : Int32 × (Nat → Int32) × (Nat → Int32) × (Nat → Int32) × (Nat → Int32) × (Nat → Int32)) => [(aF, .inr (1, [.ref aG, .ref aC, .ref aFs, .ref aFf, .ref aFt, .ref aFn, .ref aFd, .int u_153.1, .int vFB, .int vFE, .int vFN, .int vFL, .int vFX, .int vFY])), (aFs, .inl (cA, 24, .inl (u_153.2.1))), (aFf, .inl (cA, 24, .inl (u_153.2.2.1))), (aFt, .inl (cA, 24, .inl (u_153.2.2.2.1))), (aFn, .inl (cA, 24, .inl (u_153.2.2.2.2.1))), (aFd, .inl (cA, 24, .inl (u_153.2.2.2.2.2))), (aC, .inr (0, [.ref aG, .ref aR, .ref aCn, .ref aCc, .ref aCr, .ref aCs, .int vCF])), (aCn, .inl (cA, 5760, .inl (vCn))), (aG, .inr (2, [.ref aGh, .ref aGi, .ref aGc, .ref aGo, .ref aGr, .int vGF, .int vGS])), (aGi, .inl (cA, 72, .inl (vGi))), (aR, .inr (4, [.ref aRt, .int vRL])), (aRt, .inl (cA, 24, .inl (vRt)))]) ⟨hx, hb, hml, hown, hg⟩ (c_F_pileUp l dC dI cA aF aFs aFf aFt aFn aFd aC aG _ u_129.1 vFB vFE vFN vFL vFX vFY u_129.2.1 u_129.2.2.1 u_129.2.2.2.1 u_129.2.2.2.2.1 u_129.2.2.2.2.2 r_139 vFX vFY ((-1)) p1 g_153) (cwV 5 hg (q_gV mw_477 mw_478 mw_756 mw_6 mw_479) rfl rfl rfl qh_F_pileUp ⟨Nat.le_of_ble_eq_true rfl, Nat.le_of_ble_eq_true rfl⟩) hN hK hP hD hS hA [0, 1, 2, 3, 4, 5] [6, 7, 8, 9, 10, 11] rfl rfl (by decide) (by decide) (by decide) [6, 7, 8, 9, 10, 11, 0, 1, 2, 3, 4, 5] (fun _ => rfl) (by decide) 0 1 rfl rfl rfl hl.1 rfl (Nat.le_of_ble_eq_true rfl) qd_F_pileUpItems_153 ⟨Nat.zero_le _, Nat.zero_le _⟩ (fun u_153 H locs w_153 hP hD hS => ?_)
    have hP : va_P (dC, dI) vwCl [(aF, .inr (1, [.ref aG, .ref aC, .ref aFs, .ref aFf, .ref aFt, .ref aFn, .ref aFd, .int u_153.1, .int vFB, .int vFE, .int vFN, .int vFL, .int vFX, .int vFY])), (aFs, .inl (cA, 24, .inl (u_153.2.1))), (aFf, .inl (cA, 24, .inl (u_153.2.2.1))), (aFt, .inl (cA, 24, .inl (u_153.2.2.2.1))), (aFn, .inl (cA, 24, .inl (u_153.2.2.2.2.1))), (aFd, .inl (cA, 24, .inl (u_153.2.2.2.2.2))), (aC, .inr (0, [.ref aG, .ref aR, .ref aCn, .ref aCc, .ref aCr, .ref aCs, .int vCF])), (aCn, .inl (cA, 5760, .inl (vCn))), (aG, .inr (2, [.ref aGh, .ref aGi, .ref aGc, .ref aGo, .ref aGr, .int vGF, .int vGS])), (aGi, .inl (cA, 72, .inl (vGi))), (aR, .inr (4, [.ref aRt, .int vRL])), (aRt, .inl (cA, 24, .inl (vRt)))] H := hP
    have hD : va_D A [(aF, .inr (1, [.ref aG, .ref aC, .ref aFs, .ref aFf, .ref aFt, .ref aFn, .ref aFd, .int u_153.1, .int vFB, .int vFE, .int vFN, .int vFL, .int vFX, .int vFY])), (aFs, .inl (cA, 24, .inl (u_153.2.1))), (aFf, .inl (cA, 24, .inl (u_153.2.2.1))), (aFt, .inl (cA, 24, .inl (u_153.2.2.2.1))), (aFn, .inl (cA, 24, .inl (u_153.2.2.2.2.1))), (aFd, .inl (cA, 24, .inl (u_153.2.2.2.2.2))), (aC, .inr (0, [.ref aG, .ref aR, .ref aCn, .ref aCc, .ref aCr, .ref aCs, .int vCF])), (aCn, .inl (cA, 5760, .inl (vCn))), (aG, .inr (2, [.ref aGh, .ref aGi, .ref aGc, .ref aGo, .ref aGr, .int vGF, .int vGS])), (aGi, .inl (cA, 72, .inl (vGi))), (aR, .inr (4, [.ref aRt, .int vRL])), (aRt, .inl (cA, 24, .inl (vRt)))] := hD
    have hres := hres.trans (bd_eq w_153)
    have ho := (bd_eq w_153).mp ho
    refine lv_aload_n hx hb qd_F_pileUpItems_156 rfl (lv_at hl 5 rfl) ?_
    refine lv_aload_n hx hb qd_F_pileUpItems_157 rfl (lv_at hl 5 rfl) ?_
    refine va_get (D := (dC, dI)) (ci := 1) (v := .ref aG) (C := qR_F) (T := qT_F) (N := 14) hx hb hg qi_F hown hK hP 0 rfl rfl 0 (by decide) (hg _ mw_91) (fun _ h9 => h9) rfl qd_F_pileUpItems_158 ?_
    refine lv_iload_n hx hb qd_F_pileUpItems_161 rfl (lv_at hl 6 rfl) ?_
    refine lv_iconst (v := 0) hx hb qd_F_pileUpItems_162 (by decide) ?_
    obtain ⟨g_163, ho⟩ := ho
    refine xc_V (As := [.int p0, .int 0]) (rest := [.ref aF]) ⟨hx, hb, hml, hown, hg⟩ (c_G_item l dC dI cA aG aGh aGi aGc aGo aGr vGF vGS vGi p0 0 g_163) (cwV 2 hg (q_gV mw_500 mw_301 mw_302 mw_2 mw_303) rfl rfl rfl qh_G_item ⟨Nat.le_of_ble_eq_true rfl, Nat.le_of_ble_eq_true rfl⟩) hN hK hP [8, 9] rfl 0 2 rfl rfl rfl hl.1 rfl (Nat.le_of_ble_eq_true rfl) qd_F_pileUpItems_163 ⟨Nat.zero_le _, Nat.zero_le _⟩ ?_
    refine lv_topi (fun r_163 w_163 => ?_)
    have hres := hres.trans (bd_eq w_163)
    have ho := (bd_eq w_163).mp ho
    refine lv_aload_n hx hb qd_F_pileUpItems_166 rfl (lv_at hl 5 rfl) ?_
    refine va_get (D := (dC, dI)) (ci := 1) (v := .int vFB) (C := qR_F) (T := qT_F) (N := 14) hx hb hg qi_F hown hK hP 0 rfl rfl 8 (by decide) (hg _ mw_99) (fun _ h9 => h9) rfl qd_F_pileUpItems_167 ?_
    refine lv_aload_n hx hb qd_F_pileUpItems_170 rfl (lv_at hl 5 rfl) ?_
    refine va_get (D := (dC, dI)) (ci := 1) (v := .int vFX) (C := qR_F) (T := qT_F) (N := 14) hx hb hg qi_F hown hK hP 0 rfl rfl 12 (by decide) (hg _ mw_103) (fun _ h9 => h9) rfl qd_F_pileUpItems_171 ?_
    refine lv_iload hx hb qd_F_pileUpItems_174 (lv_at hl 2 rfl) ?_
    refine lv_iload_n hx hb qd_F_pileUpItems_176 rfl (lv_at hl 7 rfl) ?_
    obtain ⟨g_177, ho⟩ := ho
    refine xm_Vv (As := [.int r_163, .int vFB, .int vFX, .int ((-1)), .int p1]) (rest := []) (w1 := fun (u_177 : Int32 × (Nat → Int32) × (Nat → Int32) × (Nat → Int32) × (Nat → Int32) × (Nat → Int32)) => [(aF, .inr (1, [.ref aG, .ref aC, .ref aFs, .ref aFf, .ref aFt, .ref aFn, .ref aFd, .int u_177.1, .int vFB, .int vFE, .int vFN, .int vFL, .int vFX, .int vFY])), (aFs, .inl (cA, 24, .inl (u_177.2.1))), (aFf, .inl (cA, 24, .inl (u_177.2.2.1))), (aFt, .inl (cA, 24, .inl (u_177.2.2.2.1))), (aFn, .inl (cA, 24, .inl (u_177.2.2.2.2.1))), (aFd, .inl (cA, 24, .inl (u_177.2.2.2.2.2)))]) (w2 := fun (u_177 : Int32 × (Nat → Int32) × (Nat → Int32) × (Nat → Int32) × (Nat → Int32) × (Nat → Int32)) => [(aF, .inr (1, [.ref aG, .ref aC, .ref aFs, .ref aFf, .ref aFt, .ref aFn, .ref aFd, .int u_177.1, .int vFB, .int vFE, .int vFN, .int vFL, .int vFX, .int vFY])), (aFs, .inl (cA, 24, .inl (u_177.2.1))), (aFf, .inl (cA, 24, .inl (u_177.2.2.1))), (aFt, .inl (cA, 24, .inl (u_177.2.2.2.1))), (aFn, .inl (cA, 24, .inl (u_177.2.2.2.2.1))), (aFd, .inl (cA, 24, .inl (u_177.2.2.2.2.2))), (aC, .inr (0, [.ref aG, .ref aR, .ref aCn, .ref aCc, .ref aCr, .ref aCs, .int vCF])), (aCn, .inl (cA, 5760, .inl (vCn))), (aG, .inr (2, [.ref aGh, .ref aGi, .ref aGc, .ref aGo, .ref aGr, .int vGF, .int vGS])), (aGi, .inl (cA, 72, .inl (vGi))), (aR, .inr (4, [.ref aRt, .int vRL])), (aRt, .inl (cA, 24, .inl (vRt)))]) ⟨hx, hb, hml, hown, hg⟩ (c_F_pileUp l dC dI cA aF aFs aFf aFt aFn aFd aC aG _ u_153.1 vFB vFE vFN vFL vFX vFY u_153.2.1 u_153.2.2.1 u_153.2.2.2.1 u_153.2.2.2.2.1 u_153.2.2.2.2.2 r_163 vFB vFX ((-1)) p1 g_177) (cwV 5 hg (q_gV mw_477 mw_478 mw_756 mw_6 mw_479) rfl rfl rfl qh_F_pileUp ⟨Nat.le_of_ble_eq_true rfl, Nat.le_of_ble_eq_true rfl⟩) hN hK hP hD hS hA [0, 1, 2, 3, 4, 5] [6, 7, 8, 9, 10, 11] rfl rfl (by decide) (by decide) (by decide) [6, 7, 8, 9, 10, 11, 0, 1, 2, 3, 4, 5] (fun _ => rfl) (by decide) 0 1 rfl rfl rfl hl.1 rfl (Nat.le_of_ble_eq_true rfl) qd_F_pileUpItems_177 ⟨Nat.zero_le _, Nat.zero_le _⟩ (fun u_177 H locs w_177 hP hD hS => ?_)
    have hP : va_P (dC, dI) vwCl [(aF, .inr (1, [.ref aG, .ref aC, .ref aFs, .ref aFf, .ref aFt, .ref aFn, .ref aFd, .int u_177.1, .int vFB, .int vFE, .int vFN, .int vFL, .int vFX, .int vFY])), (aFs, .inl (cA, 24, .inl (u_177.2.1))), (aFf, .inl (cA, 24, .inl (u_177.2.2.1))), (aFt, .inl (cA, 24, .inl (u_177.2.2.2.1))), (aFn, .inl (cA, 24, .inl (u_177.2.2.2.2.1))), (aFd, .inl (cA, 24, .inl (u_177.2.2.2.2.2))), (aC, .inr (0, [.ref aG, .ref aR, .ref aCn, .ref aCc, .ref aCr, .ref aCs, .int vCF])), (aCn, .inl (cA, 5760, .inl (vCn))), (aG, .inr (2, [.ref aGh, .ref aGi, .ref aGc, .ref aGo, .ref aGr, .int vGF, .int vGS])), (aGi, .inl (cA, 72, .inl (vGi))), (aR, .inr (4, [.ref aRt, .int vRL])), (aRt, .inl (cA, 24, .inl (vRt)))] H := hP
    have hD : va_D A [(aF, .inr (1, [.ref aG, .ref aC, .ref aFs, .ref aFf, .ref aFt, .ref aFn, .ref aFd, .int u_177.1, .int vFB, .int vFE, .int vFN, .int vFL, .int vFX, .int vFY])), (aFs, .inl (cA, 24, .inl (u_177.2.1))), (aFf, .inl (cA, 24, .inl (u_177.2.2.1))), (aFt, .inl (cA, 24, .inl (u_177.2.2.2.1))), (aFn, .inl (cA, 24, .inl (u_177.2.2.2.2.1))), (aFd, .inl (cA, 24, .inl (u_177.2.2.2.2.2))), (aC, .inr (0, [.ref aG, .ref aR, .ref aCn, .ref aCc, .ref aCr, .ref aCs, .int vCF])), (aCn, .inl (cA, 5760, .inl (vCn))), (aG, .inr (2, [.ref aGh, .ref aGi, .ref aGc, .ref aGo, .ref aGr, .int vGF, .int vGS])), (aGi, .inl (cA, 72, .inl (vGi))), (aR, .inr (4, [.ref aRt, .int vRL])), (aRt, .inl (cA, 24, .inl (vRt)))] := hD
    have hres := hres.trans (bd_eq w_177)
    have ho := (bd_eq w_177).mp ho
    exact W.vret hx hb hr (fun t ht hW => ⟨⟨(u_177.1, u_177.2.1, u_177.2.2.1, u_177.2.2.2.1, u_177.2.2.2.2.1, u_177.2.2.2.2.2), rfl, hres.symm, ⟨by rw [ht]; exact hP, va_K.moved hW.alike hK, x_N hN hW⟩, hD⟩, hS.F ht⟩) hS.2.2 qd_F_pileUpItems_180
  have hres := hres.trans (if_neg c_65)
  have ho := (if_neg c_65).mp ho
  refine lv_iload_n hx hb qd_F_pileUpItems_68 rfl (lv_at hl 4 rfl) ?_
  refine lv_if_le (tgt := 108) hx hb qd_F_pileUpItems_69 (by decide) (fun c_69 => ?_) (fun c_69 => ?_)
  · have hres := hres.trans (if_pos c_69)
    have ho := (if_pos c_69).mp ho
    refine lv_aload_n hx hb qd_F_pileUpItems_108 rfl (lv_at hl 5 rfl) ?_
    refine lv_aload_n hx hb qd_F_pileUpItems_109 rfl (lv_at hl 5 rfl) ?_
    refine va_get (D := (dC, dI)) (ci := 1) (v := .ref aG) (C := qR_F) (T := qT_F) (N := 14) hx hb hg qi_F hown hK hP 0 rfl rfl 0 (by decide) (hg _ mw_91) (fun _ h9 => h9) rfl qd_F_pileUpItems_110 ?_
    refine lv_iload_n hx hb qd_F_pileUpItems_113 rfl (lv_at hl 6 rfl) ?_
    refine lv_iconst (v := 2) hx hb qd_F_pileUpItems_114 (by decide) ?_
    obtain ⟨g_115, ho⟩ := ho
    refine xc_V (As := [.int p0, .int 2]) (rest := [.ref aF]) ⟨hx, hb, hml, hown, hg⟩ (c_G_item l dC dI cA aG aGh aGi aGc aGo aGr vGF vGS vGi p0 2 g_115) (cwV 2 hg (q_gV mw_500 mw_301 mw_302 mw_2 mw_303) rfl rfl rfl qh_G_item ⟨Nat.le_of_ble_eq_true rfl, Nat.le_of_ble_eq_true rfl⟩) hN hK hP [8, 9] rfl 0 2 rfl rfl rfl hl.1 rfl (Nat.le_of_ble_eq_true rfl) qd_F_pileUpItems_115 ⟨Nat.zero_le _, Nat.zero_le _⟩ ?_
    refine lv_topi (fun r_115 w_115 => ?_)
    have hres := hres.trans (bd_eq w_115)
    have ho := (bd_eq w_115).mp ho
    refine lv_aload_n hx hb qd_F_pileUpItems_118 rfl (lv_at hl 5 rfl) ?_
    refine va_get (D := (dC, dI)) (ci := 1) (v := .int vFY) (C := qR_F) (T := qT_F) (N := 14) hx hb hg qi_F hown hK hP 0 rfl rfl 13 (by decide) (hg _ mw_104) (fun _ h9 => h9) rfl qd_F_pileUpItems_119 ?_
    refine lv_aload_n hx hb qd_F_pileUpItems_122 rfl (lv_at hl 5 rfl) ?_
    refine va_get (D := (dC, dI)) (ci := 1) (v := .int vFE) (C := qR_F) (T := qT_F) (N := 14) hx hb hg qi_F hown hK hP 0 rfl rfl 9 (by decide) (hg _ mw_100) (fun _ h9 => h9) rfl qd_F_pileUpItems_123 ?_
    refine lv_iload hx hb qd_F_pileUpItems_126 (lv_at hl 0 rfl) ?_
    refine lv_iload_n hx hb qd_F_pileUpItems_128 rfl (lv_at hl 7 rfl) ?_
    obtain ⟨g_129, ho⟩ := ho
    refine xm_Vv (As := [.int r_115, .int vFY, .int vFE, .int ((-1)), .int p1]) (rest := []) (w1 := fun (u_129 : Int32 × (Nat → Int32) × (Nat → Int32) × (Nat → Int32) × (Nat → Int32) × (Nat → Int32)) => [(aF, .inr (1, [.ref aG, .ref aC, .ref aFs, .ref aFf, .ref aFt, .ref aFn, .ref aFd, .int u_129.1, .int vFB, .int vFE, .int vFN, .int vFL, .int vFX, .int vFY])), (aFs, .inl (cA, 24, .inl (u_129.2.1))), (aFf, .inl (cA, 24, .inl (u_129.2.2.1))), (aFt, .inl (cA, 24, .inl (u_129.2.2.2.1))), (aFn, .inl (cA, 24, .inl (u_129.2.2.2.2.1))), (aFd, .inl (cA, 24, .inl (u_129.2.2.2.2.2)))]) (w2 := fun (u_129 : Int32 × (Nat → Int32) × (Nat → Int32) × (Nat → Int32) × (Nat → Int32) × (Nat → Int32)) => [(aF, .inr (1, [.ref aG, .ref aC, .ref aFs, .ref aFf, .ref aFt, .ref aFn, .ref aFd, .int u_129.1, .int vFB, .int vFE, .int vFN, .int vFL, .int vFX, .int vFY])), (aFs, .inl (cA, 24, .inl (u_129.2.1))), (aFf, .inl (cA, 24, .inl (u_129.2.2.1))), (aFt, .inl (cA, 24, .inl (u_129.2.2.2.1))), (aFn, .inl (cA, 24, .inl (u_129.2.2.2.2.1))), (aFd, .inl (cA, 24, .inl (u_129.2.2.2.2.2))), (aC, .inr (0, [.ref aG, .ref aR, .ref aCn, .ref aCc, .ref aCr, .ref aCs, .int vCF])), (aCn, .inl (cA, 5760, .inl (vCn))), (aG, .inr (2, [.ref aGh, .ref aGi, .ref aGc, .ref aGo, .ref aGr, .int vGF, .int vGS])), (aGi, .inl (cA, 72, .inl (vGi))), (aR, .inr (4, [.ref aRt, .int vRL])), (aRt, .inl (cA, 24, .inl (vRt)))]) ⟨hx, hb, hml, hown, hg⟩ (c_F_pileUp l dC dI cA aF aFs aFf aFt aFn aFd aC aG _ vFW vFB vFE vFN vFL vFX vFY vFs vFf vFt vFn vFd r_115 vFY vFE ((-1)) p1 g_129) (cwV 5 hg (q_gV mw_477 mw_478 mw_756 mw_6 mw_479) rfl rfl rfl qh_F_pileUp ⟨Nat.le_of_ble_eq_true rfl, Nat.le_of_ble_eq_true rfl⟩) hN hK hP hD hS hA [0, 1, 2, 3, 4, 5] [6, 7, 8, 9, 10, 11] rfl rfl (by decide) (by decide) (by decide) [6, 7, 8, 9, 10, 11, 0, 1, 2, 3, 4, 5] (fun _ => rfl) (by decide) 0 1 rfl rfl rfl hl.1 rfl (Nat.le_of_ble_eq_true rfl) qd_F_pileUpItems_129 ⟨Nat.zero_le _, Nat.zero_le _⟩ (fun u_129 H locs w_129 hP hD hS => ?_)
    have hP : va_P (dC, dI) vwCl [(aF, .inr (1, [.ref aG, .ref aC, .ref aFs, .ref aFf, .ref aFt, .ref aFn, .ref aFd, .int u_129.1, .int vFB, .int vFE, .int vFN, .int vFL, .int vFX, .int vFY])), (aFs, .inl (cA, 24, .inl (u_129.2.1))), (aFf, .inl (cA, 24, .inl (u_129.2.2.1))), (aFt, .inl (cA, 24, .inl (u_129.2.2.2.1))), (aFn, .inl (cA, 24, .inl (u_129.2.2.2.2.1))), (aFd, .inl (cA, 24, .inl (u_129.2.2.2.2.2))), (aC, .inr (0, [.ref aG, .ref aR, .ref aCn, .ref aCc, .ref aCr, .ref aCs, .int vCF])), (aCn, .inl (cA, 5760, .inl (vCn))), (aG, .inr (2, [.ref aGh, .ref aGi, .ref aGc, .ref aGo, .ref aGr, .int vGF, .int vGS])), (aGi, .inl (cA, 72, .inl (vGi))), (aR, .inr (4, [.ref aRt, .int vRL])), (aRt, .inl (cA, 24, .inl (vRt)))] H := hP
    have hD : va_D A [(aF, .inr (1, [.ref aG, .ref aC, .ref aFs, .ref aFf, .ref aFt, .ref aFn, .ref aFd, .int u_129.1, .int vFB, .int vFE, .int vFN, .int vFL, .int vFX, .int vFY])), (aFs, .inl (cA, 24, .inl (u_129.2.1))), (aFf, .inl (cA, 24, .inl (u_129.2.2.1))), (aFt, .inl (cA, 24, .inl (u_129.2.2.2.1))), (aFn, .inl (cA, 24, .inl (u_129.2.2.2.2.1))), (aFd, .inl (cA, 24, .inl (u_129.2.2.2.2.2))), (aC, .inr (0, [.ref aG, .ref aR, .ref aCn, .ref aCc, .ref aCr, .ref aCs, .int vCF])), (aCn, .inl (cA, 5760, .inl (vCn))), (aG, .inr (2, [.ref aGh, .ref aGi, .ref aGc, .ref aGo, .ref aGr, .int vGF, .int vGS])), (aGi, .inl (cA, 72, .inl (vGi))), (aR, .inr (4, [.ref aRt, .int vRL])), (aRt, .inl (cA, 24, .inl (vRt)))] := hD
    have hres := hres.trans (bd_eq w_129)
    have ho := (bd_eq w_129).mp ho
    refine lv_aload_n hx hb qd_F_pileUpItems_132 rfl (lv_at hl 5 rfl) ?_
    refine lv_aload_n hx hb qd_F_pileUpItems_133 rfl (lv_at hl 5 rfl) ?_
    refine va_get (D := (dC, dI)) (ci := 1) (v := .ref aG) (C := qR_F) (T := qT_F) (N := 14) hx hb hg qi_F hown hK hP 0 rfl rfl 0 (by decide) (hg _ mw_91) (fun _ h9 => h9) rfl qd_F_pileUpItems_134 ?_
    refine lv_iload_n hx hb qd_F_pileUpItems_137 rfl (lv_at hl 6 rfl) ?_
    refine lv_iconst (v := 1) hx hb qd_F_pileUpItems_138 (by decide) ?_
    obtain ⟨g_139, ho⟩ := ho
    refine xc_V (As := [.int p0, .int 1]) (rest := [.ref aF]) ⟨hx, hb, hml, hown, hg⟩ (c_G_item l dC dI cA aG aGh aGi aGc aGo aGr vGF vGS vGi p0 1 g_139) (cwV 2 hg (q_gV mw_500 mw_301 mw_302 mw_2 mw_303) rfl rfl rfl qh_G_item ⟨Nat.le_of_ble_eq_true rfl, Nat.le_of_ble_eq_true rfl⟩) hN hK hP [8, 9] rfl 0 2 rfl rfl rfl hl.1 rfl (Nat.le_of_ble_eq_true rfl) qd_F_pileUpItems_139 ⟨Nat.zero_le _, Nat.zero_le _⟩ ?_
    refine lv_topi (fun r_139 w_139 => ?_)
    have hres := hres.trans (bd_eq w_139)
    have ho := (bd_eq w_139).mp ho
    refine lv_aload_n hx hb qd_F_pileUpItems_142 rfl (lv_at hl 5 rfl) ?_
    refine va_get (D := (dC, dI)) (ci := 1) (v := .int vFX) (C := qR_F) (T := qT_F) (N := 14) hx hb hg qi_F hown hK hP 0 rfl rfl 12 (by decide) (hg _ mw_103) (fun _ h9 => h9) rfl qd_F_pileUpItems_143 ?_
    refine lv_aload_n hx hb qd_F_pileUpItems_146 rfl (lv_at hl 5 rfl) ?_
    refine va_get (D := (dC, dI)) (ci := 1) (v := .int vFY) (C := qR_F) (T := qT_F) (N := 14) hx hb hg qi_F hown hK hP 0 rfl rfl 13 (by decide) (hg _ mw_104) (fun _ h9 => h9) rfl qd_F_pileUpItems_147 ?_
    refine lv_iload hx hb qd_F_pileUpItems_150 (lv_at hl 1 rfl) ?_
    refine lv_iload_n hx hb qd_F_pileUpItems_152 rfl (lv_at hl 7 rfl) ?_
    obtain ⟨g_153, ho⟩ := ho
    refine xm_Vv (As := [.int r_139, .int vFX, .int vFY, .int ((-1)), .int p1]) (rest := []) (w1 := fun (u_153 : Int32 × (Nat → Int32) × (Nat → Int32) × (Nat → Int32) × (Nat → Int32) × (Nat → Int32)) => [(aF, .inr (1, [.ref aG, .ref aC, .ref aFs, .ref aFf, .ref aFt, .ref aFn, .ref aFd, .int u_153.1, .int vFB, .int vFE, .int vFN, .int vFL, .int vFX, .int vFY])), (aFs, .inl (cA, 24, .inl (u_153.2.1))), (aFf, .inl (cA, 24, .inl (u_153.2.2.1))), (aFt, .inl (cA, 24, .inl (u_153.2.2.2.1))), (aFn, .inl (cA, 24, .inl (u_153.2.2.2.2.1))), (aFd, .inl (cA, 24, .inl (u_153.2.2.2.2.2)))]) (w2 := fun (u_153 : Int32 × (Nat → Int32) × (Nat → Int32) × (Nat → Int32) × (Nat → Int32) × (Nat → Int32)) => [(aF, .inr (1, [.ref aG, .ref aC, .ref aFs, .ref aFf, .ref aFt, .ref aFn, .ref aFd, .int u_153.1, .int vFB, .int vFE, .int vFN, .int vFL, .int vFX, .int vFY])), (aFs, .inl (cA, 24, .inl (u_153.2.1))), (aFf, .inl (cA, 24, .inl (u_153.2.2.1))), (aFt, .inl (cA, 24, .inl (u_153.2.2.2.1))), (aFn, .inl (cA, 24, .inl (u_153.2.2.2.2.1))), (aFd, .inl (cA, 24, .inl (u_153.2.2.2.2.2))), (aC, .inr (0, [.ref aG, .ref aR, .ref aCn, .ref aCc, .ref aCr, .ref aCs, .int vCF])), (aCn, .inl (cA, 5760, .inl (vCn))), (aG, .inr (2, [.ref aGh, .ref aGi, .ref aGc, .ref aGo, .ref aGr, .int vGF, .int vGS])), (aGi, .inl (cA, 72, .inl (vGi))), (aR, .inr (4, [.ref aRt, .int vRL])), (aRt, .inl (cA, 24, .inl (vRt)))]) ⟨hx, hb, hml, hown, hg⟩ (c_F_pileUp l dC dI cA aF aFs aFf aFt aFn aFd aC aG _ u_129.1 vFB vFE vFN vFL vFX vFY u_129.2.1 u_129.2.2.1 u_129.2.2.2.1 u_129.2.2.2.2.1 u_129.2.2.2.2.2 r_139 vFX vFY ((-1)) p1 g_153) (cwV 5 hg (q_gV mw_477 mw_478 mw_756 mw_6 mw_479) rfl rfl rfl qh_F_pileUp ⟨Nat.le_of_ble_eq_true rfl, Nat.le_of_ble_eq_true rfl⟩) hN hK hP hD hS hA [0, 1, 2, 3, 4, 5] [6, 7, 8, 9, 10, 11] rfl rfl (by decide) (by decide) (by decide) [6, 7, 8, 9, 10, 11, 0, 1, 2, 3, 4, 5] (fun _ => rfl) (by decide) 0 1 rfl rfl rfl hl.1 rfl (Nat.le_of_ble_eq_true rfl) qd_F_pileUpItems_153 ⟨Nat.zero_le _, Nat.zero_le _⟩ (fun u_153 H locs w_153 hP hD hS => ?_)
    have hP : va_P (dC, dI) vwCl [(aF, .inr (1, [.ref aG, .ref aC, .ref aFs, .ref aFf, .ref aFt, .ref aFn, .ref aFd, .int u_153.1, .int vFB, .int vFE, .int vFN, .int vFL, .int vFX, .int vFY])), (aFs, .inl (cA, 24, .inl (u_153.2.1))), (aFf, .inl (cA, 24, .inl (u_153.2.2.1))), (aFt, .inl (cA, 24, .inl (u_153.2.2.2.1))), (aFn, .inl (cA, 24, .inl (u_153.2.2.2.2.1))), (aFd, .inl (cA, 24, .inl (u_153.2.2.2.2.2))), (aC, .inr (0, [.ref aG, .ref aR, .ref aCn, .ref aCc, .ref aCr, .ref aCs, .int vCF])), (aCn, .inl (cA, 5760, .inl (vCn))), (aG, .inr (2, [.ref aGh, .ref aGi, .ref aGc, .ref aGo, .ref aGr, .int vGF, .int vGS])), (aGi, .inl (cA, 72, .inl (vGi))), (aR, .inr (4, [.ref aRt, .int vRL])), (aRt, .inl (cA, 24, .inl (vRt)))] H := hP
    have hD : va_D A [(aF, .inr (1, [.ref aG, .ref aC, .ref aFs, .ref aFf, .ref aFt, .ref aFn, .ref aFd, .int u_153.1, .int vFB, .int vFE, .int vFN, .int vFL, .int vFX, .int vFY])), (aFs, .inl (cA, 24, .inl (u_153.2.1))), (aFf, .inl (cA, 24, .inl (u_153.2.2.1))), (aFt, .inl (cA, 24, .inl (u_153.2.2.2.1))), (aFn, .inl (cA, 24, .inl (u_153.2.2.2.2.1))), (aFd, .inl (cA, 24, .inl (u_153.2.2.2.2.2))), (aC, .inr (0, [.ref aG, .ref aR, .ref aCn, .ref aCc, .ref aCr, .ref aCs, .int vCF])), (aCn, .inl (cA, 5760, .inl (vCn))), (aG, .inr (2, [.ref aGh, .ref aGi, .ref aGc, .ref aGo, .ref aGr, .int vGF, .int vGS])), (aGi, .inl (cA, 72, .inl (vGi))), (aR, .inr (4, [.ref aRt, .int vRL])), (aRt, .inl (cA, 24, .inl (vRt)))] := hD
    have hres := hres.trans (bd_eq w_153)
    have ho := (bd_eq w_153).mp ho
    refine lv_aload_n hx hb qd_F_pileUpItems_156 rfl (lv_at hl 5 rfl) ?_
    refine lv_aload_n hx hb qd_F_pileUpItems_157 rfl (lv_at hl 5 rfl) ?_
    refine va_get (D := (dC, dI)) (ci := 1) (v := .ref aG) (C := qR_F) (T := qT_F) (N := 14) hx hb hg qi_F hown hK hP 0 rfl rfl 0 (by decide) (hg _ mw_91) (fun _ h9 => h9) rfl qd_F_pileUpItems_158 ?_
    refine lv_iload_n hx hb qd_F_pileUpItems_161 rfl (lv_at hl 6 rfl) ?_
    refine lv_iconst (v := 0) hx hb qd_F_pileUpItems_162 (by decide) ?_
    obtain ⟨g_163, ho⟩ := ho
    refine xc_V (As := [.int p0, .int 0]) (rest := [.ref aF]) ⟨hx, hb, hml, hown, hg⟩ (c_G_item l dC dI cA aG aGh aGi aGc aGo aGr vGF vGS vGi p0 0 g_163) (cwV 2 hg (q_gV mw_500 mw_301 mw_302 mw_2 mw_303) rfl rfl rfl qh_G_item ⟨Nat.le_of_ble_eq_true rfl, Nat.le_of_ble_eq_true rfl⟩) hN hK hP [8, 9] rfl 0 2 rfl rfl rfl hl.1 rfl (Nat.le_of_ble_eq_true rfl) qd_F_pileUpItems_163 ⟨Nat.zero_le _, Nat.zero_le _⟩ ?_
    refine lv_topi (fun r_163 w_163 => ?_)
    have hres := hres.trans (bd_eq w_163)
    have ho := (bd_eq w_163).mp ho
    refine lv_aload_n hx hb qd_F_pileUpItems_166 rfl (lv_at hl 5 rfl) ?_
    refine va_get (D := (dC, dI)) (ci := 1) (v := .int vFB) (C := qR_F) (T := qT_F) (N := 14) hx hb hg qi_F hown hK hP 0 rfl rfl 8 (by decide) (hg _ mw_99) (fun _ h9 => h9) rfl qd_F_pileUpItems_167 ?_
    refine lv_aload_n hx hb qd_F_pileUpItems_170 rfl (lv_at hl 5 rfl) ?_
    refine va_get (D := (dC, dI)) (ci := 1) (v := .int vFX) (C := qR_F) (T := qT_F) (N := 14) hx hb hg qi_F hown hK hP 0 rfl rfl 12 (by decide) (hg _ mw_103) (fun _ h9 => h9) rfl qd_F_pileUpItems_171 ?_
    refine lv_iload hx hb qd_F_pileUpItems_174 (lv_at hl 2 rfl) ?_
    refine lv_iload_n hx hb qd_F_pileUpItems_176 rfl (lv_at hl 7 rfl) ?_
    obtain ⟨g_177, ho⟩ := ho
    refine xm_Vv (As := [.int r_163, .int vFB, .int vFX, .int ((-1)), .int p1]) (rest := []) (w1 := fun (u_177 : Int32 × (Nat → Int32) × (Nat → Int32) × (Nat → Int32) × (Nat → Int32) × (Nat → Int32)) => [(aF, .inr (1, [.ref aG, .ref aC, .ref aFs, .ref aFf, .ref aFt, .ref aFn, .ref aFd, .int u_177.1, .int vFB, .int vFE, .int vFN, .int vFL, .int vFX, .int vFY])), (aFs, .inl (cA, 24, .inl (u_177.2.1))), (aFf, .inl (cA, 24, .inl (u_177.2.2.1))), (aFt, .inl (cA, 24, .inl (u_177.2.2.2.1))), (aFn, .inl (cA, 24, .inl (u_177.2.2.2.2.1))), (aFd, .inl (cA, 24, .inl (u_177.2.2.2.2.2)))]) (w2 := fun (u_177 : Int32 × (Nat → Int32) × (Nat → Int32) × (Nat → Int32) × (Nat → Int32) × (Nat → Int32)) => [(aF, .inr (1, [.ref aG, .ref aC, .ref aFs, .ref aFf, .ref aFt, .ref aFn, .ref aFd, .int u_177.1, .int vFB, .int vFE, .int vFN, .int vFL, .int vFX, .int vFY])), (aFs, .inl (cA, 24, .inl (u_177.2.1))), (aFf, .inl (cA, 24, .inl (u_177.2.2.1))), (aFt, .inl (cA, 24, .inl (u_177.2.2.2.1))), (aFn, .inl (cA, 24, .inl (u_177.2.2.2.2.1))), (aFd, .inl (cA, 24, .inl (u_177.2.2.2.2.2))), (aC, .inr (0, [.ref aG, .ref aR, .ref aCn, .ref aCc, .ref aCr, .ref aCs, .int vCF])), (aCn, .inl (cA, 5760, .inl (vCn))), (aG, .inr (2, [.ref aGh, .ref aGi, .ref aGc, .ref aGo, .ref aGr, .int vGF, .int vGS])), (aGi, .inl (cA, 72, .inl (vGi))), (aR, .inr (4, [.ref aRt, .int vRL])), (aRt, .inl (cA, 24, .inl (vRt)))]) ⟨hx, hb, hml, hown, hg⟩ (c_F_pileUp l dC dI cA aF aFs aFf aFt aFn aFd aC aG _ u_153.1 vFB vFE vFN vFL vFX vFY u_153.2.1 u_153.2.2.1 u_153.2.2.2.1 u_153.2.2.2.2.1 u_153.2.2.2.2.2 r_163 vFB vFX ((-1)) p1 g_177) (cwV 5 hg (q_gV mw_477 mw_478 mw_756 mw_6 mw_479) rfl rfl rfl qh_F_pileUp ⟨Nat.le_of_ble_eq_true rfl, Nat.le_of_ble_eq_true rfl⟩) hN hK hP hD hS hA [0, 1, 2, 3, 4, 5] [6, 7, 8, 9, 10, 11] rfl rfl (by decide) (by decide) (by decide) [6, 7, 8, 9, 10, 11, 0, 1, 2, 3, 4, 5] (fun _ => rfl) (by decide) 0 1 rfl rfl rfl hl.1 rfl (Nat.le_of_ble_eq_true rfl) qd_F_pileUpItems_177 ⟨Nat.zero_le _, Nat.zero_le _⟩ (fun u_177 H locs w_177 hP hD hS => ?_)
    have hP : va_P (dC, dI) vwCl [(aF, .inr (1, [.ref aG, .ref aC, .ref aFs, .ref aFf, .ref aFt, .ref aFn, .ref aFd, .int u_177.1, .int vFB, .int vFE, .int vFN, .int vFL, .int vFX, .int vFY])), (aFs, .inl (cA, 24, .inl (u_177.2.1))), (aFf, .inl (cA, 24, .inl (u_177.2.2.1))), (aFt, .inl (cA, 24, .inl (u_177.2.2.2.1))), (aFn, .inl (cA, 24, .inl (u_177.2.2.2.2.1))), (aFd, .inl (cA, 24, .inl (u_177.2.2.2.2.2))), (aC, .inr (0, [.ref aG, .ref aR, .ref aCn, .ref aCc, .ref aCr, .ref aCs, .int vCF])), (aCn, .inl (cA, 5760, .inl (vCn))), (aG, .inr (2, [.ref aGh, .ref aGi, .ref aGc, .ref aGo, .ref aGr, .int vGF, .int vGS])), (aGi, .inl (cA, 72, .inl (vGi))), (aR, .inr (4, [.ref aRt, .int vRL])), (aRt, .inl (cA, 24, .inl (vRt)))] H := hP
    have hD : va_D A [(aF, .inr (1, [.ref aG, .ref aC, .ref aFs, .ref aFf, .ref aFt, .ref aFn, .ref aFd, .int u_177.1, .int vFB, .int vFE, .int vFN, .int vFL, .int vFX, .int vFY])), (aFs, .inl (cA, 24, .inl (u_177.2.1))), (aFf, .inl (cA, 24, .inl (u_177.2.2.1))), (aFt, .inl (cA, 24, .inl (u_177.2.2.2.1))), (aFn, .inl (cA, 24, .inl (u_177.2.2.2.2.1))), (aFd, .inl (cA, 24, .inl (u_177.2.2.2.2.2))), (aC, .inr (0, [.ref aG, .ref aR, .ref aCn, .ref aCc, .ref aCr, .ref aCs, .int vCF])), (aCn, .inl (cA, 5760, .inl (vCn))), (aG, .inr (2, [.ref aGh, .ref aGi, .ref aGc, .ref aGo, .ref aGr, .int vGF, .int vGS])), (aGi, .inl (cA, 72, .inl (vGi))), (aR, .inr (4, [.ref aRt, .int vRL])), (aRt, .inl (cA, 24, .inl (vRt)))] := hD
    have hres := hres.trans (bd_eq w_177)
    have ho := (bd_eq w_177).mp ho
    exact W.vret hx hb hr (fun t ht hW => ⟨⟨(u_177.1, u_177.2.1, u_177.2.2.1, u_177.2.2.2.1, u_177.2.2.2.2.1, u_177.2.2.2.2.2), rfl, hres.symm, ⟨by rw [ht]; exact hP, va_K.moved hW.alike hK, x_N hN hW⟩, hD⟩, hS.F ht⟩) hS.2.2 qd_F_pileUpItems_180
  have hres := hres.trans (if_neg c_69)
  have ho := (if_neg c_69).mp ho
  refine lv_iload hx hb qd_F_pileUpItems_72 (lv_at hl 3 rfl) ?_
  refine lv_if_le (tgt := 108) hx hb qd_F_pileUpItems_74 (by decide) (fun c_74 => ?_) (fun c_74 => ?_)
  · have hres := hres.trans (if_pos c_74)
    have ho := (if_pos c_74).mp ho
    refine lv_aload_n hx hb qd_F_pileUpItems_108 rfl (lv_at hl 5 rfl) ?_
    refine lv_aload_n hx hb qd_F_pileUpItems_109 rfl (lv_at hl 5 rfl) ?_
    refine va_get (D := (dC, dI)) (ci := 1) (v := .ref aG) (C := qR_F) (T := qT_F) (N := 14) hx hb hg qi_F hown hK hP 0 rfl rfl 0 (by decide) (hg _ mw_91) (fun _ h9 => h9) rfl qd_F_pileUpItems_110 ?_
    refine lv_iload_n hx hb qd_F_pileUpItems_113 rfl (lv_at hl 6 rfl) ?_
    refine lv_iconst (v := 2) hx hb qd_F_pileUpItems_114 (by decide) ?_
    obtain ⟨g_115, ho⟩ := ho
    refine xc_V (As := [.int p0, .int 2]) (rest := [.ref aF]) ⟨hx, hb, hml, hown, hg⟩ (c_G_item l dC dI cA aG aGh aGi aGc aGo aGr vGF vGS vGi p0 2 g_115) (cwV 2 hg (q_gV mw_500 mw_301 mw_302 mw_2 mw_303) rfl rfl rfl qh_G_item ⟨Nat.le_of_ble_eq_true rfl, Nat.le_of_ble_eq_true rfl⟩) hN hK hP [8, 9] rfl 0 2 rfl rfl rfl hl.1 rfl (Nat.le_of_ble_eq_true rfl) qd_F_pileUpItems_115 ⟨Nat.zero_le _, Nat.zero_le _⟩ ?_
    refine lv_topi (fun r_115 w_115 => ?_)
    have hres := hres.trans (bd_eq w_115)
    have ho := (bd_eq w_115).mp ho
    refine lv_aload_n hx hb qd_F_pileUpItems_118 rfl (lv_at hl 5 rfl) ?_
    refine va_get (D := (dC, dI)) (ci := 1) (v := .int vFY) (C := qR_F) (T := qT_F) (N := 14) hx hb hg qi_F hown hK hP 0 rfl rfl 13 (by decide) (hg _ mw_104) (fun _ h9 => h9) rfl qd_F_pileUpItems_119 ?_
    refine lv_aload_n hx hb qd_F_pileUpItems_122 rfl (lv_at hl 5 rfl) ?_
    refine va_get (D := (dC, dI)) (ci := 1) (v := .int vFE) (C := qR_F) (T := qT_F) (N := 14) hx hb hg qi_F hown hK hP 0 rfl rfl 9 (by decide) (hg _ mw_100) (fun _ h9 => h9) rfl qd_F_pileUpItems_123 ?_
    refine lv_iload hx hb qd_F_pileUpItems_126 (lv_at hl 0 rfl) ?_
    refine lv_iload_n hx hb qd_F_pileUpItems_128 rfl (lv_at hl 7 rfl) ?_
    obtain ⟨g_129, ho⟩ := ho
    refine xm_Vv (As := [.int r_115, .int vFY, .int vFE, .int ((-1)), .int p1]) (rest := []) (w1 := fun (u_129 : Int32 × (Nat → Int32) × (Nat → Int32) × (Nat → Int32) × (Nat → Int32) × (Nat → Int32)) => [(aF, .inr (1, [.ref aG, .ref aC, .ref aFs, .ref aFf, .ref aFt, .ref aFn, .ref aFd, .int u_129.1, .int vFB, .int vFE, .int vFN, .int vFL, .int vFX, .int vFY])), (aFs, .inl (cA, 24, .inl (u_129.2.1))), (aFf, .inl (cA, 24, .inl (u_129.2.2.1))), (aFt, .inl (cA, 24, .inl (u_129.2.2.2.1))), (aFn, .inl (cA, 24, .inl (u_129.2.2.2.2.1))), (aFd, .inl (cA, 24, .inl (u_129.2.2.2.2.2)))]) (w2 := fun (u_129 : Int32 × (Nat → Int32) × (Nat → Int32) × (Nat → Int32) × (Nat → Int32) × (Nat → Int32)) => [(aF, .inr (1, [.ref aG, .ref aC, .ref aFs, .ref aFf, .ref aFt, .ref aFn, .ref aFd, .int u_129.1, .int vFB, .int vFE, .int vFN, .int vFL, .int vFX, .int vFY])), (aFs, .inl (cA, 24, .inl (u_129.2.1))), (aFf, .inl (cA, 24, .inl (u_129.2.2.1))), (aFt, .inl (cA, 24, .inl (u_129.2.2.2.1))), (aFn, .inl (cA, 24, .inl (u_129.2.2.2.2.1))), (aFd, .inl (cA, 24, .inl (u_129.2.2.2.2.2))), (aC, .inr (0, [.ref aG, .ref aR, .ref aCn, .ref aCc, .ref aCr, .ref aCs, .int vCF])), (aCn, .inl (cA, 5760, .inl (vCn))), (aG, .inr (2, [.ref aGh, .ref aGi, .ref aGc, .ref aGo, .ref aGr, .int vGF, .int vGS])), (aGi, .inl (cA, 72, .inl (vGi))), (aR, .inr (4, [.ref aRt, .int vRL])), (aRt, .inl (cA, 24, .inl (vRt)))]) ⟨hx, hb, hml, hown, hg⟩ (c_F_pileUp l dC dI cA aF aFs aFf aFt aFn aFd aC aG _ vFW vFB vFE vFN vFL vFX vFY vFs vFf vFt vFn vFd r_115 vFY vFE ((-1)) p1 g_129) (cwV 5 hg (q_gV mw_477 mw_478 mw_756 mw_6 mw_479) rfl rfl rfl qh_F_pileUp ⟨Nat.le_of_ble_eq_true rfl, Nat.le_of_ble_eq_true rfl⟩) hN hK hP hD hS hA [0, 1, 2, 3, 4, 5] [6, 7, 8, 9, 10, 11] rfl rfl (by decide) (by decide) (by decide) [6, 7, 8, 9, 10, 11, 0, 1, 2, 3, 4, 5] (fun _ => rfl) (by decide) 0 1 rfl rfl rfl hl.1 rfl (Nat.le_of_ble_eq_true rfl) qd_F_pileUpItems_129 ⟨Nat.zero_le _, Nat.zero_le _⟩ (fun u_129 H locs w_129 hP hD hS => ?_)
    have hP : va_P (dC, dI) vwCl [(aF, .inr (1, [.ref aG, .ref aC, .ref aFs, .ref aFf, .ref aFt, .ref aFn, .ref aFd, .int u_129.1, .int vFB, .int vFE, .int vFN, .int vFL, .int vFX, .int vFY])), (aFs, .inl (cA, 24, .inl (u_129.2.1))), (aFf, .inl (cA, 24, .inl (u_129.2.2.1))), (aFt, .inl (cA, 24, .inl (u_129.2.2.2.1))), (aFn, .inl (cA, 24, .inl (u_129.2.2.2.2.1))), (aFd, .inl (cA, 24, .inl (u_129.2.2.2.2.2))), (aC, .inr (0, [.ref aG, .ref aR, .ref aCn, .ref aCc, .ref aCr, .ref aCs, .int vCF])), (aCn, .inl (cA, 5760, .inl (vCn))), (aG, .inr (2, [.ref aGh, .ref aGi, .ref aGc, .ref aGo, .ref aGr, .int vGF, .int vGS])), (aGi, .inl (cA, 72, .inl (vGi))), (aR, .inr (4, [.ref aRt, .int vRL])), (aRt, .inl (cA, 24, .inl (vRt)))] H := hP
    have hD : va_D A [(aF, .inr (1, [.ref aG, .ref aC, .ref aFs, .ref aFf, .ref aFt, .ref aFn, .ref aFd, .int u_129.1, .int vFB, .int vFE, .int vFN, .int vFL, .int vFX, .int vFY])), (aFs, .inl (cA, 24, .inl (u_129.2.1))), (aFf, .inl (cA, 24, .inl (u_129.2.2.1))), (aFt, .inl (cA, 24, .inl (u_129.2.2.2.1))), (aFn, .inl (cA, 24, .inl (u_129.2.2.2.2.1))), (aFd, .inl (cA, 24, .inl (u_129.2.2.2.2.2))), (aC, .inr (0, [.ref aG, .ref aR, .ref aCn, .ref aCc, .ref aCr, .ref aCs, .int vCF])), (aCn, .inl (cA, 5760, .inl (vCn))), (aG, .inr (2, [.ref aGh, .ref aGi, .ref aGc, .ref aGo, .ref aGr, .int vGF, .int vGS])), (aGi, .inl (cA, 72, .inl (vGi))), (aR, .inr (4, [.ref aRt, .int vRL])), (aRt, .inl (cA, 24, .inl (vRt)))] := hD
    have hres := hres.trans (bd_eq w_129)
    have ho := (bd_eq w_129).mp ho
    refine lv_aload_n hx hb qd_F_pileUpItems_132 rfl (lv_at hl 5 rfl) ?_
    refine lv_aload_n hx hb qd_F_pileUpItems_133 rfl (lv_at hl 5 rfl) ?_
    refine va_get (D := (dC, dI)) (ci := 1) (v := .ref aG) (C := qR_F) (T := qT_F) (N := 14) hx hb hg qi_F hown hK hP 0 rfl rfl 0 (by decide) (hg _ mw_91) (fun _ h9 => h9) rfl qd_F_pileUpItems_134 ?_
    refine lv_iload_n hx hb qd_F_pileUpItems_137 rfl (lv_at hl 6 rfl) ?_
    refine lv_iconst (v := 1) hx hb qd_F_pileUpItems_138 (by decide) ?_
    obtain ⟨g_139, ho⟩ := ho
    refine xc_V (As := [.int p0, .int 1]) (rest := [.ref aF]) ⟨hx, hb, hml, hown, hg⟩ (c_G_item l dC dI cA aG aGh aGi aGc aGo aGr vGF vGS vGi p0 1 g_139) (cwV 2 hg (q_gV mw_500 mw_301 mw_302 mw_2 mw_303) rfl rfl rfl qh_G_item ⟨Nat.le_of_ble_eq_true rfl, Nat.le_of_ble_eq_true rfl⟩) hN hK hP [8, 9] rfl 0 2 rfl rfl rfl hl.1 rfl (Nat.le_of_ble_eq_true rfl) qd_F_pileUpItems_139 ⟨Nat.zero_le _, Nat.zero_le _⟩ ?_
    refine lv_topi (fun r_139 w_139 => ?_)
    have hres := hres.trans (bd_eq w_139)
    have ho := (bd_eq w_139).mp ho
    refine lv_aload_n hx hb qd_F_pileUpItems_142 rfl (lv_at hl 5 rfl) ?_
    refine va_get (D := (dC, dI)) (ci := 1) (v := .int vFX) (C := qR_F) (T := qT_F) (N := 14) hx hb hg qi_F hown hK hP 0 rfl rfl 12 (by decide) (hg _ mw_103) (fun _ h9 => h9) rfl qd_F_pileUpItems_143 ?_
    refine lv_aload_n hx hb qd_F_pileUpItems_146 rfl (lv_at hl 5 rfl) ?_
    refine va_get (D := (dC, dI)) (ci := 1) (v := .int vFY) (C := qR_F) (T := qT_F) (N := 14) hx hb hg qi_F hown hK hP 0 rfl rfl 13 (by decide) (hg _ mw_104) (fun _ h9 => h9) rfl qd_F_pileUpItems_147 ?_
    refine lv_iload hx hb qd_F_pileUpItems_150 (lv_at hl 1 rfl) ?_
    refine lv_iload_n hx hb qd_F_pileUpItems_152 rfl (lv_at hl 7 rfl) ?_
    obtain ⟨g_153, ho⟩ := ho
    refine xm_Vv (As := [.int r_139, .int vFX, .int vFY, .int ((-1)), .int p1]) (rest := []) (w1 := fun (u_153 : Int32 × (Nat → Int32) × (Nat → Int32) × (Nat → Int32) × (Nat → Int32) × (Nat → Int32)) => [(aF, .inr (1, [.ref aG, .ref aC, .ref aFs, .ref aFf, .ref aFt, .ref aFn, .ref aFd, .int u_153.1, .int vFB, .int vFE, .int vFN, .int vFL, .int vFX, .int vFY])), (aFs, .inl (cA, 24, .inl (u_153.2.1))), (aFf, .inl (cA, 24, .inl (u_153.2.2.1))), (aFt, .inl (cA, 24, .inl (u_153.2.2.2.1))), (aFn, .inl (cA, 24, .inl (u_153.2.2.2.2.1))), (aFd, .inl (cA, 24, .inl (u_153.2.2.2.2.2)))]) (w2 := fun (u_153 : Int32 × (Nat → Int32) × (Nat → Int32) × (Nat → Int32) × (Nat → Int32) × (Nat → Int32)) => [(aF, .inr (1, [.ref aG, .ref aC, .ref aFs, .ref aFf, .ref aFt, .ref aFn, .ref aFd, .int u_153.1, .int vFB, .int vFE, .int vFN, .int vFL, .int vFX, .int vFY])), (aFs, .inl (cA, 24, .inl (u_153.2.1))), (aFf, .inl (cA, 24, .inl (u_153.2.2.1))), (aFt, .inl (cA, 24, .inl (u_153.2.2.2.1))), (aFn, .inl (cA, 24, .inl (u_153.2.2.2.2.1))), (aFd, .inl (cA, 24, .inl (u_153.2.2.2.2.2))), (aC, .inr (0, [.ref aG, .ref aR, .ref aCn, .ref aCc, .ref aCr, .ref aCs, .int vCF])), (aCn, .inl (cA, 5760, .inl (vCn))), (aG, .inr (2, [.ref aGh, .ref aGi, .ref aGc, .ref aGo, .ref aGr, .int vGF, .int vGS])), (aGi, .inl (cA, 72, .inl (vGi))), (aR, .inr (4, [.ref aRt, .int vRL])), (aRt, .inl (cA, 24, .inl (vRt)))]) ⟨hx, hb, hml, hown, hg⟩ (c_F_pileUp l dC dI cA aF aFs aFf aFt aFn aFd aC aG _ u_129.1 vFB vFE vFN vFL vFX vFY u_129.2.1 u_129.2.2.1 u_129.2.2.2.1 u_129.2.2.2.2.1 u_129.2.2.2.2.2 r_139 vFX vFY ((-1)) p1 g_153) (cwV 5 hg (q_gV mw_477 mw_478 mw_756 mw_6 mw_479) rfl rfl rfl qh_F_pileUp ⟨Nat.le_of_ble_eq_true rfl, Nat.le_of_ble_eq_true rfl⟩) hN hK hP hD hS hA [0, 1, 2, 3, 4, 5] [6, 7, 8, 9, 10, 11] rfl rfl (by decide) (by decide) (by decide) [6, 7, 8, 9, 10, 11, 0, 1, 2, 3, 4, 5] (fun _ => rfl) (by decide) 0 1 rfl rfl rfl hl.1 rfl (Nat.le_of_ble_eq_true rfl) qd_F_pileUpItems_153 ⟨Nat.zero_le _, Nat.zero_le _⟩ (fun u_153 H locs w_153 hP hD hS => ?_)
    have hP : va_P (dC, dI) vwCl [(aF, .inr (1, [.ref aG, .ref aC, .ref aFs, .ref aFf, .ref aFt, .ref aFn, .ref aFd, .int u_153.1, .int vFB, .int vFE, .int vFN, .int vFL, .int vFX, .int vFY])), (aFs, .inl (cA, 24, .inl (u_153.2.1))), (aFf, .inl (cA, 24, .inl (u_153.2.2.1))), (aFt, .inl (cA, 24, .inl (u_153.2.2.2.1))), (aFn, .inl (cA, 24, .inl (u_153.2.2.2.2.1))), (aFd, .inl (cA, 24, .inl (u_153.2.2.2.2.2))), (aC, .inr (0, [.ref aG, .ref aR, .ref aCn, .ref aCc, .ref aCr, .ref aCs, .int vCF])), (aCn, .inl (cA, 5760, .inl (vCn))), (aG, .inr (2, [.ref aGh, .ref aGi, .ref aGc, .ref aGo, .ref aGr, .int vGF, .int vGS])), (aGi, .inl (cA, 72, .inl (vGi))), (aR, .inr (4, [.ref aRt, .int vRL])), (aRt, .inl (cA, 24, .inl (vRt)))] H := hP
    have hD : va_D A [(aF, .inr (1, [.ref aG, .ref aC, .ref aFs, .ref aFf, .ref aFt, .ref aFn, .ref aFd, .int u_153.1, .int vFB, .int vFE, .int vFN, .int vFL, .int vFX, .int vFY])), (aFs, .inl (cA, 24, .inl (u_153.2.1))), (aFf, .inl (cA, 24, .inl (u_153.2.2.1))), (aFt, .inl (cA, 24, .inl (u_153.2.2.2.1))), (aFn, .inl (cA, 24, .inl (u_153.2.2.2.2.1))), (aFd, .inl (cA, 24, .inl (u_153.2.2.2.2.2))), (aC, .inr (0, [.ref aG, .ref aR, .ref aCn, .ref aCc, .ref aCr, .ref aCs, .int vCF])), (aCn, .inl (cA, 5760, .inl (vCn))), (aG, .inr (2, [.ref aGh, .ref aGi, .ref aGc, .ref aGo, .ref aGr, .int vGF, .int vGS])), (aGi, .inl (cA, 72, .inl (vGi))), (aR, .inr (4, [.ref aRt, .int vRL])), (aRt, .inl (cA, 24, .inl (vRt)))] := hD
    have hres := hres.trans (bd_eq w_153)
    have ho := (bd_eq w_153).mp ho
    refine lv_aload_n hx hb qd_F_pileUpItems_156 rfl (lv_at hl 5 rfl) ?_
    refine lv_aload_n hx hb qd_F_pileUpItems_157 rfl (lv_at hl 5 rfl) ?_
    refine va_get (D := (dC, dI)) (ci := 1) (v := .ref aG) (C := qR_F) (T := qT_F) (N := 14) hx hb hg qi_F hown hK hP 0 rfl rfl 0 (by decide) (hg _ mw_91) (fun _ h9 => h9) rfl qd_F_pileUpItems_158 ?_
    refine lv_iload_n hx hb qd_F_pileUpItems_161 rfl (lv_at hl 6 rfl) ?_
    refine lv_iconst (v := 0) hx hb qd_F_pileUpItems_162 (by decide) ?_
    obtain ⟨g_163, ho⟩ := ho
    refine xc_V (As := [.int p0, .int 0]) (rest := [.ref aF]) ⟨hx, hb, hml, hown, hg⟩ (c_G_item l dC dI cA aG aGh aGi aGc aGo aGr vGF vGS vGi p0 0 g_163) (cwV 2 hg (q_gV mw_500 mw_301 mw_302 mw_2 mw_303) rfl rfl rfl qh_G_item ⟨Nat.le_of_ble_eq_true rfl, Nat.le_of_ble_eq_true rfl⟩) hN hK hP [8, 9] rfl 0 2 rfl rfl rfl hl.1 rfl (Nat.le_of_ble_eq_true rfl) qd_F_pileUpItems_163 ⟨Nat.zero_le _, Nat.zero_le _⟩ ?_
    refine lv_topi (fun r_163 w_163 => ?_)
    have hres := hres.trans (bd_eq w_163)
    have ho := (bd_eq w_163).mp ho
    refine lv_aload_n hx hb qd_F_pileUpItems_166 rfl (lv_at hl 5 rfl) ?_
    refine va_get (D := (dC, dI)) (ci := 1) (v := .int vFB) (C := qR_F) (T := qT_F) (N := 14) hx hb hg qi_F hown hK hP 0 rfl rfl 8 (by decide) (hg _ mw_99) (fun _ h9 => h9) rfl qd_F_pileUpItems_167 ?_
    refine lv_aload_n hx hb qd_F_pileUpItems_170 rfl (lv_at hl 5 rfl) ?_
    refine va_get (D := (dC, dI)) (ci := 1) (v := .int vFX) (C := qR_F) (T := qT_F) (N := 14) hx hb hg qi_F hown hK hP 0 rfl rfl 12 (by decide) (hg _ mw_103) (fun _ h9 => h9) rfl qd_F_pileUpItems_171 ?_
    refine lv_iload hx hb qd_F_pileUpItems_174 (lv_at hl 2 rfl) ?_
    refine lv_iload_n hx hb qd_F_pileUpItems_176 rfl (lv_at hl 7 rfl) ?_
    obtain ⟨g_177, ho⟩ := ho
    refine xm_Vv (As := [.int r_163, .int vFB, .int vFX, .int ((-1)), .int p1]) (rest := []) (w1 := fun (u_177 : Int32 × (Nat → Int32) × (Nat → Int32) × (Nat → Int32) × (Nat → Int32) × (Nat → Int32)) => [(aF, .inr (1, [.ref aG, .ref aC, .ref aFs, .ref aFf, .ref aFt, .ref aFn, .ref aFd, .int u_177.1, .int vFB, .int vFE, .int vFN, .int vFL, .int vFX, .int vFY])), (aFs, .inl (cA, 24, .inl (u_177.2.1))), (aFf, .inl (cA, 24, .inl (u_177.2.2.1))), (aFt, .inl (cA, 24, .inl (u_177.2.2.2.1))), (aFn, .inl (cA, 24, .inl (u_177.2.2.2.2.1))), (aFd, .inl (cA, 24, .inl (u_177.2.2.2.2.2)))]) (w2 := fun (u_177 : Int32 × (Nat → Int32) × (Nat → Int32) × (Nat → Int32) × (Nat → Int32) × (Nat → Int32)) => [(aF, .inr (1, [.ref aG, .ref aC, .ref aFs, .ref aFf, .ref aFt, .ref aFn, .ref aFd, .int u_177.1, .int vFB, .int vFE, .int vFN, .int vFL, .int vFX, .int vFY])), (aFs, .inl (cA, 24, .inl (u_177.2.1))), (aFf, .inl (cA, 24, .inl (u_177.2.2.1))), (aFt, .inl (cA, 24, .inl (u_177.2.2.2.1))), (aFn, .inl (cA, 24, .inl (u_177.2.2.2.2.1))), (aFd, .inl (cA, 24, .inl (u_177.2.2.2.2.2))), (aC, .inr (0, [.ref aG, .ref aR, .ref aCn, .ref aCc, .ref aCr, .ref aCs, .int vCF])), (aCn, .inl (cA, 5760, .inl (vCn))), (aG, .inr (2, [.ref aGh, .ref aGi, .ref aGc, .ref aGo, .ref aGr, .int vGF, .int vGS])), (aGi, .inl (cA, 72, .inl (vGi))), (aR, .inr (4, [.ref aRt, .int vRL])), (aRt, .inl (cA, 24, .inl (vRt)))]) ⟨hx, hb, hml, hown, hg⟩ (c_F_pileUp l dC dI cA aF aFs aFf aFt aFn aFd aC aG _ u_153.1 vFB vFE vFN vFL vFX vFY u_153.2.1 u_153.2.2.1 u_153.2.2.2.1 u_153.2.2.2.2.1 u_153.2.2.2.2.2 r_163 vFB vFX ((-1)) p1 g_177) (cwV 5 hg (q_gV mw_477 mw_478 mw_756 mw_6 mw_479) rfl rfl rfl qh_F_pileUp ⟨Nat.le_of_ble_eq_true rfl, Nat.le_of_ble_eq_true rfl⟩) hN hK hP hD hS hA [0, 1, 2, 3, 4, 5] [6, 7, 8, 9, 10, 11] rfl rfl (by decide) (by decide) (by decide) [6, 7, 8, 9, 10, 11, 0, 1, 2, 3, 4, 5] (fun _ => rfl) (by decide) 0 1 rfl rfl rfl hl.1 rfl (Nat.le_of_ble_eq_true rfl) qd_F_pileUpItems_177 ⟨Nat.zero_le _, Nat.zero_le _⟩ (fun u_177 H locs w_177 hP hD hS => ?_)
    have hP : va_P (dC, dI) vwCl [(aF, .inr (1, [.ref aG, .ref aC, .ref aFs, .ref aFf, .ref aFt, .ref aFn, .ref aFd, .int u_177.1, .int vFB, .int vFE, .int vFN, .int vFL, .int vFX, .int vFY])), (aFs, .inl (cA, 24, .inl (u_177.2.1))), (aFf, .inl (cA, 24, .inl (u_177.2.2.1))), (aFt, .inl (cA, 24, .inl (u_177.2.2.2.1))), (aFn, .inl (cA, 24, .inl (u_177.2.2.2.2.1))), (aFd, .inl (cA, 24, .inl (u_177.2.2.2.2.2))), (aC, .inr (0, [.ref aG, .ref aR, .ref aCn, .ref aCc, .ref aCr, .ref aCs, .int vCF])), (aCn, .inl (cA, 5760, .inl (vCn))), (aG, .inr (2, [.ref aGh, .ref aGi, .ref aGc, .ref aGo, .ref aGr, .int vGF, .int vGS])), (aGi, .inl (cA, 72, .inl (vGi))), (aR, .inr (4, [.ref aRt, .int vRL])), (aRt, .inl (cA, 24, .inl (vRt)))] H := hP
    have hD : va_D A [(aF, .inr (1, [.ref aG, .ref aC, .ref aFs, .ref aFf, .ref aFt, .ref aFn, .ref aFd, .int u_177.1, .int vFB, .int vFE, .int vFN, .int vFL, .int vFX, .int vFY])), (aFs, .inl (cA, 24, .inl (u_177.2.1))), (aFf, .inl (cA, 24, .inl (u_177.2.2.1))), (aFt, .inl (cA, 24, .inl (u_177.2.2.2.1))), (aFn, .inl (cA, 24, .inl (u_177.2.2.2.2.1))), (aFd, .inl (cA, 24, .inl (u_177.2.2.2.2.2))), (aC, .inr (0, [.ref aG, .ref aR, .ref aCn, .ref aCc, .ref aCr, .ref aCs, .int vCF])), (aCn, .inl (cA, 5760, .inl (vCn))), (aG, .inr (2, [.ref aGh, .ref aGi, .ref aGc, .ref aGo, .ref aGr, .int vGF, .int vGS])), (aGi, .inl (cA, 72, .inl (vGi))), (aR, .inr (4, [.ref aRt, .int vRL])), (aRt, .inl (cA, 24, .inl (vRt)))] := hD
    have hres := hres.trans (bd_eq w_177)
    have ho := (bd_eq w_177).mp ho
    exact W.vret hx hb hr (fun t ht hW => ⟨⟨(u_177.1, u_177.2.1, u_177.2.2.1, u_177.2.2.2.1, u_177.2.2.2.2.1, u_177.2.2.2.2.2), rfl, hres.symm, ⟨by rw [ht]; exact hP, va_K.moved hW.alike hK, x_N hN hW⟩, hD⟩, hS.F ht⟩) hS.2.2 qd_F_pileUpItems_180
  have hres := hres.trans (if_neg c_74)
  have ho := (if_neg c_74).mp ho
  refine lv_aload_n hx hb qd_F_pileUpItems_77 rfl (lv_at hl 5 rfl) ?_
  refine va_get (D := (dC, dI)) (ci := 1) (v := .int vFN) (C := qR_F) (T := qT_F) (N := 14) hx hb hg qi_F hown hK hP 0 rfl rfl 10 (by decide) (hg _ mw_101) (fun _ h9 => h9) rfl qd_F_pileUpItems_78 ?_
  refine lv_iload hx hb qd_F_pileUpItems_81 (lv_at hl 3 rfl) ?_
  obtain ⟨g_83, ho⟩ := ho
  refine lv_irem hx hb qd_F_pileUpItems_83 g_83 ?_
  refine lv_istore (lv' := [(7, .int (vFN - vFN / r_46 * r_46)), (6, .int ((-1))), (5, .int ((-1))), (4, .int r_46), (3, .int r_21), (0, .ref aF), (1, .int p0), (2, .int p1)]) hx hb qd_F_pileUpItems_84 hl (by decide) rfl (fun ls hl => ?_)
  refine lv_aload_n hx hb qd_F_pileUpItems_86 rfl (lv_at hl 5 rfl) ?_
  refine va_get (D := (dC, dI)) (ci := 1) (v := .int vFN) (C := qR_F) (T := qT_F) (N := 14) hx hb hg qi_F hown hK hP 0 rfl rfl 10 (by decide) (hg _ mw_101) (fun _ h9 => h9) rfl qd_F_pileUpItems_87 ?_
  refine lv_iload hx hb qd_F_pileUpItems_90 (lv_at hl 3 rfl) ?_
  obtain ⟨g_92, ho⟩ := ho
  refine lv_idiv hx hb qd_F_pileUpItems_92 g_92 ?_
  refine lv_iload_n hx hb qd_F_pileUpItems_93 rfl (lv_at hl 4 rfl) ?_
  obtain ⟨g_94, ho⟩ := ho
  refine lv_irem hx hb qd_F_pileUpItems_94 g_94 ?_
  refine lv_istore (lv' := [(6, .int ((vFN / r_46) - (vFN / r_46) / r_21 * r_21)), (7, .int (vFN - vFN / r_46 * r_46)), (5, .int ((-1))), (4, .int r_46), (3, .int r_21), (0, .ref aF), (1, .int p0), (2, .int p1)]) hx hb qd_F_pileUpItems_95 hl (by decide) rfl (fun ls hl => ?_)
  refine lv_aload_n hx hb qd_F_pileUpItems_97 rfl (lv_at hl 5 rfl) ?_
  refine va_get (D := (dC, dI)) (ci := 1) (v := .int vFN) (C := qR_F) (T := qT_F) (N := 14) hx hb hg qi_F hown hK hP 0 rfl rfl 10 (by decide) (hg _ mw_101) (fun _ h9 => h9) rfl qd_F_pileUpItems_98 ?_
  refine lv_iload hx hb qd_F_pileUpItems_101 (lv_at hl 3 rfl) ?_
  obtain ⟨g_103, ho⟩ := ho
  refine lv_idiv hx hb qd_F_pileUpItems_103 g_103 ?_
  refine lv_iload_n hx hb qd_F_pileUpItems_104 rfl (lv_at hl 4 rfl) ?_
  obtain ⟨g_105, ho⟩ := ho
  refine lv_idiv hx hb qd_F_pileUpItems_105 g_105 ?_
  refine lv_istore (lv' := [(5, .int ((vFN / r_46) / r_21)), (6, .int ((vFN / r_46) - (vFN / r_46) / r_21 * r_21)), (7, .int (vFN - vFN / r_46 * r_46)), (4, .int r_46), (3, .int r_21), (0, .ref aF), (1, .int p0), (2, .int p1)]) hx hb qd_F_pileUpItems_106 hl (by decide) rfl (fun ls hl => ?_)
  refine lv_aload_n hx hb qd_F_pileUpItems_108 rfl (lv_at hl 5 rfl) ?_
  refine lv_aload_n hx hb qd_F_pileUpItems_109 rfl (lv_at hl 5 rfl) ?_
  refine va_get (D := (dC, dI)) (ci := 1) (v := .ref aG) (C := qR_F) (T := qT_F) (N := 14) hx hb hg qi_F hown hK hP 0 rfl rfl 0 (by decide) (hg _ mw_91) (fun _ h9 => h9) rfl qd_F_pileUpItems_110 ?_
  refine lv_iload_n hx hb qd_F_pileUpItems_113 rfl (lv_at hl 6 rfl) ?_
  refine lv_iconst (v := 2) hx hb qd_F_pileUpItems_114 (by decide) ?_
  obtain ⟨g_115, ho⟩ := ho
  refine xc_V (As := [.int p0, .int 2]) (rest := [.ref aF]) ⟨hx, hb, hml, hown, hg⟩ (c_G_item l dC dI cA aG aGh aGi aGc aGo aGr vGF vGS vGi p0 2 g_115) (cwV 2 hg (q_gV mw_500 mw_301 mw_302 mw_2 mw_303) rfl rfl rfl qh_G_item ⟨Nat.le_of_ble_eq_true rfl, Nat.le_of_ble_eq_true rfl⟩) hN hK hP [8, 9] rfl 0 2 rfl rfl rfl hl.1 rfl (Nat.le_of_ble_eq_true rfl) qd_F_pileUpItems_115 ⟨Nat.zero_le _, Nat.zero_le _⟩ ?_
  refine lv_topi (fun r_115 w_115 => ?_)
  have hres := hres.trans (bd_eq w_115)
  have ho := (bd_eq w_115).mp ho
  refine lv_aload_n hx hb qd_F_pileUpItems_118 rfl (lv_at hl 5 rfl) ?_
  refine va_get (D := (dC, dI)) (ci := 1) (v := .int vFY) (C := qR_F) (T := qT_F) (N := 14) hx hb hg qi_F hown hK hP 0 rfl rfl 13 (by decide) (hg _ mw_104) (fun _ h9 => h9) rfl qd_F_pileUpItems_119 ?_
  refine lv_aload_n hx hb qd_F_pileUpItems_122 rfl (lv_at hl 5 rfl) ?_
  refine va_get (D := (dC, dI)) (ci := 1) (v := .int vFE) (C := qR_F) (T := qT_F) (N := 14) hx hb hg qi_F hown hK hP 0 rfl rfl 9 (by decide) (hg _ mw_100) (fun _ h9 => h9) rfl qd_F_pileUpItems_123 ?_
  refine lv_iload hx hb qd_F_pileUpItems_126 (lv_at hl 2 rfl) ?_
  refine lv_iload_n hx hb qd_F_pileUpItems_128 rfl (lv_at hl 7 rfl) ?_
  obtain ⟨g_129, ho⟩ := ho
  refine xm_Vv (As := [.int r_115, .int vFY, .int vFE, .int (vFN - vFN / r_46 * r_46), .int p1]) (rest := []) (w1 := fun (u_129 : Int32 × (Nat → Int32) × (Nat → Int32) × (Nat → Int32) × (Nat → Int32) × (Nat → Int32)) => [(aF, .inr (1, [.ref aG, .ref aC, .ref aFs, .ref aFf, .ref aFt, .ref aFn, .ref aFd, .int u_129.1, .int vFB, .int vFE, .int vFN, .int vFL, .int vFX, .int vFY])), (aFs, .inl (cA, 24, .inl (u_129.2.1))), (aFf, .inl (cA, 24, .inl (u_129.2.2.1))), (aFt, .inl (cA, 24, .inl (u_129.2.2.2.1))), (aFn, .inl (cA, 24, .inl (u_129.2.2.2.2.1))), (aFd, .inl (cA, 24, .inl (u_129.2.2.2.2.2)))]) (w2 := fun (u_129 : Int32 × (Nat → Int32) × (Nat → Int32) × (Nat → Int32) × (Nat → Int32) × (Nat → Int32)) => [(aF, .inr (1, [.ref aG, .ref aC, .ref aFs, .ref aFf, .ref aFt, .ref aFn, .ref aFd, .int u_129.1, .int vFB, .int vFE, .int vFN, .int vFL, .int vFX, .int vFY])), (aFs, .inl (cA, 24, .inl (u_129.2.1))), (aFf, .inl (cA, 24, .inl (u_129.2.2.1))), (aFt, .inl (cA, 24, .inl (u_129.2.2.2.1))), (aFn, .inl (cA, 24, .inl (u_129.2.2.2.2.1))), (aFd, .inl (cA, 24, .inl (u_129.2.2.2.2.2))), (aC, .inr (0, [.ref aG, .ref aR, .ref aCn, .ref aCc, .ref aCr, .ref aCs, .int vCF])), (aCn, .inl (cA, 5760, .inl (vCn))), (aG, .inr (2, [.ref aGh, .ref aGi, .ref aGc, .ref aGo, .ref aGr, .int vGF, .int vGS])), (aGi, .inl (cA, 72, .inl (vGi))), (aR, .inr (4, [.ref aRt, .int vRL])), (aRt, .inl (cA, 24, .inl (vRt)))]) ⟨hx, hb, hml, hown, hg⟩ (c_F_pileUp l dC dI cA aF aFs aFf aFt aFn aFd aC aG _ vFW vFB vFE vFN vFL vFX vFY vFs vFf vFt vFn vFd r_115 vFY vFE (vFN - vFN / r_46 * r_46) p1 g_129) (cwV 5 hg (q_gV mw_477 mw_478 mw_756 mw_6 mw_479) rfl rfl rfl qh_F_pileUp ⟨Nat.le_of_ble_eq_true rfl, Nat.le_of_ble_eq_true rfl⟩) hN hK hP hD hS hA [0, 1, 2, 3, 4, 5] [6, 7, 8, 9, 10, 11] rfl rfl (by decide) (by decide) (by decide) [6, 7, 8, 9, 10, 11, 0, 1, 2, 3, 4, 5] (fun _ => rfl) (by decide) 0 1 rfl rfl rfl hl.1 rfl (Nat.le_of_ble_eq_true rfl) qd_F_pileUpItems_129 ⟨Nat.zero_le _, Nat.zero_le _⟩ (fun u_129 H locs w_129 hP hD hS => ?_)
  have hP : va_P (dC, dI) vwCl [(aF, .inr (1, [.ref aG, .ref aC, .ref aFs, .ref aFf, .ref aFt, .ref aFn, .ref aFd, .int u_129.1, .int vFB, .int vFE, .int vFN, .int vFL, .int vFX, .int vFY])), (aFs, .inl (cA, 24, .inl (u_129.2.1))), (aFf, .inl (cA, 24, .inl (u_129.2.2.1))), (aFt, .inl (cA, 24, .inl (u_129.2.2.2.1))), (aFn, .inl (cA, 24, .inl (u_129.2.2.2.2.1))), (aFd, .inl (cA, 24, .inl (u_129.2.2.2.2.2))), (aC, .inr (0, [.ref aG, .ref aR, .ref aCn, .ref aCc, .ref aCr, .ref aCs, .int vCF])), (aCn, .inl (cA, 5760, .inl (vCn))), (aG, .inr (2, [.ref aGh, .ref aGi, .ref aGc, .ref aGo, .ref aGr, .int vGF, .int vGS])), (aGi, .inl (cA, 72, .inl (vGi))), (aR, .inr (4, [.ref aRt, .int vRL])), (aRt, .inl (cA, 24, .inl (vRt)))] H := hP
  have hD : va_D A [(aF, .inr (1, [.ref aG, .ref aC, .ref aFs, .ref aFf, .ref aFt, .ref aFn, .ref aFd, .int u_129.1, .int vFB, .int vFE, .int vFN, .int vFL, .int vFX, .int vFY])), (aFs, .inl (cA, 24, .inl (u_129.2.1))), (aFf, .inl (cA, 24, .inl (u_129.2.2.1))), (aFt, .inl (cA, 24, .inl (u_129.2.2.2.1))), (aFn, .inl (cA, 24, .inl (u_129.2.2.2.2.1))), (aFd, .inl (cA, 24, .inl (u_129.2.2.2.2.2))), (aC, .inr (0, [.ref aG, .ref aR, .ref aCn, .ref aCc, .ref aCr, .ref aCs, .int vCF])), (aCn, .inl (cA, 5760, .inl (vCn))), (aG, .inr (2, [.ref aGh, .ref aGi, .ref aGc, .ref aGo, .ref aGr, .int vGF, .int vGS])), (aGi, .inl (cA, 72, .inl (vGi))), (aR, .inr (4, [.ref aRt, .int vRL])), (aRt, .inl (cA, 24, .inl (vRt)))] := hD
  have hres := hres.trans (bd_eq w_129)
  have ho := (bd_eq w_129).mp ho
  refine lv_aload_n hx hb qd_F_pileUpItems_132 rfl (lv_at hl 5 rfl) ?_
  refine lv_aload_n hx hb qd_F_pileUpItems_133 rfl (lv_at hl 5 rfl) ?_
  refine va_get (D := (dC, dI)) (ci := 1) (v := .ref aG) (C := qR_F) (T := qT_F) (N := 14) hx hb hg qi_F hown hK hP 0 rfl rfl 0 (by decide) (hg _ mw_91) (fun _ h9 => h9) rfl qd_F_pileUpItems_134 ?_
  refine lv_iload_n hx hb qd_F_pileUpItems_137 rfl (lv_at hl 6 rfl) ?_
  refine lv_iconst (v := 1) hx hb qd_F_pileUpItems_138 (by decide) ?_
  obtain ⟨g_139, ho⟩ := ho
  refine xc_V (As := [.int p0, .int 1]) (rest := [.ref aF]) ⟨hx, hb, hml, hown, hg⟩ (c_G_item l dC dI cA aG aGh aGi aGc aGo aGr vGF vGS vGi p0 1 g_139) (cwV 2 hg (q_gV mw_500 mw_301 mw_302 mw_2 mw_303) rfl rfl rfl qh_G_item ⟨Nat.le_of_ble_eq_true rfl, Nat.le_of_ble_eq_true rfl⟩) hN hK hP [8, 9] rfl 0 2 rfl rfl rfl hl.1 rfl (Nat.le_of_ble_eq_true rfl) qd_F_pileUpItems_139 ⟨Nat.zero_le _, Nat.zero_le _⟩ ?_
  refine lv_topi (fun r_139 w_139 => ?_)
  have hres := hres.trans (bd_eq w_139)
  have ho := (bd_eq w_139).mp ho
  refine lv_aload_n hx hb qd_F_pileUpItems_142 rfl (lv_at hl 5 rfl) ?_
  refine va_get (D := (dC, dI)) (ci := 1) (v := .int vFX) (C := qR_F) (T := qT_F) (N := 14) hx hb hg qi_F hown hK hP 0 rfl rfl 12 (by decide) (hg _ mw_103) (fun _ h9 => h9) rfl qd_F_pileUpItems_143 ?_
  refine lv_aload_n hx hb qd_F_pileUpItems_146 rfl (lv_at hl 5 rfl) ?_
  refine va_get (D := (dC, dI)) (ci := 1) (v := .int vFY) (C := qR_F) (T := qT_F) (N := 14) hx hb hg qi_F hown hK hP 0 rfl rfl 13 (by decide) (hg _ mw_104) (fun _ h9 => h9) rfl qd_F_pileUpItems_147 ?_
  refine lv_iload hx hb qd_F_pileUpItems_150 (lv_at hl 1 rfl) ?_
  refine lv_iload_n hx hb qd_F_pileUpItems_152 rfl (lv_at hl 7 rfl) ?_
  obtain ⟨g_153, ho⟩ := ho
  refine xm_Vv (As := [.int r_139, .int vFX, .int vFY, .int ((vFN / r_46) - (vFN / r_46) / r_21 * r_21), .int p1]) (rest := []) (w1 := fun (u_153 : Int32 × (Nat → Int32) × (Nat → Int32) × (Nat → Int32) × (Nat → Int32) × (Nat → Int32)) => [(aF, .inr (1, [.ref aG, .ref aC, .ref aFs, .ref aFf, .ref aFt, .ref aFn, .ref aFd, .int u_153.1, .int vFB, .int vFE, .int vFN, .int vFL, .int vFX, .int vFY])), (aFs, .inl (cA, 24, .inl (u_153.2.1))), (aFf, .inl (cA, 24, .inl (u_153.2.2.1))), (aFt, .inl (cA, 24, .inl (u_153.2.2.2.1))), (aFn, .inl (cA, 24, .inl (u_153.2.2.2.2.1))), (aFd, .inl (cA, 24, .inl (u_153.2.2.2.2.2)))]) (w2 := fun (u_153 : Int32 × (Nat → Int32) × (Nat → Int32) × (Nat → Int32) × (Nat → Int32) × (Nat → Int32)) => [(aF, .inr (1, [.ref aG, .ref aC, .ref aFs, .ref aFf, .ref aFt, .ref aFn, .ref aFd, .int u_153.1, .int vFB, .int vFE, .int vFN, .int vFL, .int vFX, .int vFY])), (aFs, .inl (cA, 24, .inl (u_153.2.1))), (aFf, .inl (cA, 24, .inl (u_153.2.2.1))), (aFt, .inl (cA, 24, .inl (u_153.2.2.2.1))), (aFn, .inl (cA, 24, .inl (u_153.2.2.2.2.1))), (aFd, .inl (cA, 24, .inl (u_153.2.2.2.2.2))), (aC, .inr (0, [.ref aG, .ref aR, .ref aCn, .ref aCc, .ref aCr, .ref aCs, .int vCF])), (aCn, .inl (cA, 5760, .inl (vCn))), (aG, .inr (2, [.ref aGh, .ref aGi, .ref aGc, .ref aGo, .ref aGr, .int vGF, .int vGS])), (aGi, .inl (cA, 72, .inl (vGi))), (aR, .inr (4, [.ref aRt, .int vRL])), (aRt, .inl (cA, 24, .inl (vRt)))]) ⟨hx, hb, hml, hown, hg⟩ (c_F_pileUp l dC dI cA aF aFs aFf aFt aFn aFd aC aG _ u_129.1 vFB vFE vFN vFL vFX vFY u_129.2.1 u_129.2.2.1 u_129.2.2.2.1 u_129.2.2.2.2.1 u_129.2.2.2.2.2 r_139 vFX vFY ((vFN / r_46) - (vFN / r_46) / r_21 * r_21) p1 g_153) (cwV 5 hg (q_gV mw_477 mw_478 mw_756 mw_6 mw_479) rfl rfl rfl qh_F_pileUp ⟨Nat.le_of_ble_eq_true rfl, Nat.le_of_ble_eq_true rfl⟩) hN hK hP hD hS hA [0, 1, 2, 3, 4, 5] [6, 7, 8, 9, 10, 11] rfl rfl (by decide) (by decide) (by decide) [6, 7, 8, 9, 10, 11, 0, 1, 2, 3, 4, 5] (fun _ => rfl) (by decide) 0 1 rfl rfl rfl hl.1 rfl (Nat.le_of_ble_eq_true rfl) qd_F_pileUpItems_153 ⟨Nat.zero_le _, Nat.zero_le _⟩ (fun u_153 H locs w_153 hP hD hS => ?_)
  have hP : va_P (dC, dI) vwCl [(aF, .inr (1, [.ref aG, .ref aC, .ref aFs, .ref aFf, .ref aFt, .ref aFn, .ref aFd, .int u_153.1, .int vFB, .int vFE, .int vFN, .int vFL, .int vFX, .int vFY])), (aFs, .inl (cA, 24, .inl (u_153.2.1))), (aFf, .inl (cA, 24, .inl (u_153.2.2.1))), (aFt, .inl (cA, 24, .inl (u_153.2.2.2.1))), (aFn, .inl (cA, 24, .inl (u_153.2.2.2.2.1))), (aFd, .inl (cA, 24, .inl (u_153.2.2.2.2.2))), (aC, .inr (0, [.ref aG, .ref aR, .ref aCn, .ref aCc, .ref aCr, .ref aCs, .int vCF])), (aCn, .inl (cA, 5760, .inl (vCn))), (aG, .inr (2, [.ref aGh, .ref aGi, .ref aGc, .ref aGo, .ref aGr, .int vGF, .int vGS])), (aGi, .inl (cA, 72, .inl (vGi))), (aR, .inr (4, [.ref aRt, .int vRL])), (aRt, .inl (cA, 24, .inl (vRt)))] H := hP
  have hD : va_D A [(aF, .inr (1, [.ref aG, .ref aC, .ref aFs, .ref aFf, .ref aFt, .ref aFn, .ref aFd, .int u_153.1, .int vFB, .int vFE, .int vFN, .int vFL, .int vFX, .int vFY])), (aFs, .inl (cA, 24, .inl (u_153.2.1))), (aFf, .inl (cA, 24, .inl (u_153.2.2.1))), (aFt, .inl (cA, 24, .inl (u_153.2.2.2.1))), (aFn, .inl (cA, 24, .inl (u_153.2.2.2.2.1))), (aFd, .inl (cA, 24, .inl (u_153.2.2.2.2.2))), (aC, .inr (0, [.ref aG, .ref aR, .ref aCn, .ref aCc, .ref aCr, .ref aCs, .int vCF])), (aCn, .inl (cA, 5760, .inl (vCn))), (aG, .inr (2, [.ref aGh, .ref aGi, .ref aGc, .ref aGo, .ref aGr, .int vGF, .int vGS])), (aGi, .inl (cA, 72, .inl (vGi))), (aR, .inr (4, [.ref aRt, .int vRL])), (aRt, .inl (cA, 24, .inl (vRt)))] := hD
  have hres := hres.trans (bd_eq w_153)
  have ho := (bd_eq w_153).mp ho
  refine lv_aload_n hx hb qd_F_pileUpItems_156 rfl (lv_at hl 5 rfl) ?_
  refine lv_aload_n hx hb qd_F_pileUpItems_157 rfl (lv_at hl 5 rfl) ?_
  refine va_get (D := (dC, dI)) (ci := 1) (v := .ref aG) (C := qR_F) (T := qT_F) (N := 14) hx hb hg qi_F hown hK hP 0 rfl rfl 0 (by decide) (hg _ mw_91) (fun _ h9 => h9) rfl qd_F_pileUpItems_158 ?_
  refine lv_iload_n hx hb qd_F_pileUpItems_161 rfl (lv_at hl 6 rfl) ?_
  refine lv_iconst (v := 0) hx hb qd_F_pileUpItems_162 (by decide) ?_
  obtain ⟨g_163, ho⟩ := ho
  refine xc_V (As := [.int p0, .int 0]) (rest := [.ref aF]) ⟨hx, hb, hml, hown, hg⟩ (c_G_item l dC dI cA aG aGh aGi aGc aGo aGr vGF vGS vGi p0 0 g_163) (cwV 2 hg (q_gV mw_500 mw_301 mw_302 mw_2 mw_303) rfl rfl rfl qh_G_item ⟨Nat.le_of_ble_eq_true rfl, Nat.le_of_ble_eq_true rfl⟩) hN hK hP [8, 9] rfl 0 2 rfl rfl rfl hl.1 rfl (Nat.le_of_ble_eq_true rfl) qd_F_pileUpItems_163 ⟨Nat.zero_le _, Nat.zero_le _⟩ ?_
  refine lv_topi (fun r_163 w_163 => ?_)
  have hres := hres.trans (bd_eq w_163)
  have ho := (bd_eq w_163).mp ho
  refine lv_aload_n hx hb qd_F_pileUpItems_166 rfl (lv_at hl 5 rfl) ?_
  refine va_get (D := (dC, dI)) (ci := 1) (v := .int vFB) (C := qR_F) (T := qT_F) (N := 14) hx hb hg qi_F hown hK hP 0 rfl rfl 8 (by decide) (hg _ mw_99) (fun _ h9 => h9) rfl qd_F_pileUpItems_167 ?_
  refine lv_aload_n hx hb qd_F_pileUpItems_170 rfl (lv_at hl 5 rfl) ?_
  refine va_get (D := (dC, dI)) (ci := 1) (v := .int vFX) (C := qR_F) (T := qT_F) (N := 14) hx hb hg qi_F hown hK hP 0 rfl rfl 12 (by decide) (hg _ mw_103) (fun _ h9 => h9) rfl qd_F_pileUpItems_171 ?_
  refine lv_iload hx hb qd_F_pileUpItems_174 (lv_at hl 0 rfl) ?_
  refine lv_iload_n hx hb qd_F_pileUpItems_176 rfl (lv_at hl 7 rfl) ?_
  obtain ⟨g_177, ho⟩ := ho
  refine xm_Vv (As := [.int r_163, .int vFB, .int vFX, .int ((vFN / r_46) / r_21), .int p1]) (rest := []) (w1 := fun (u_177 : Int32 × (Nat → Int32) × (Nat → Int32) × (Nat → Int32) × (Nat → Int32) × (Nat → Int32)) => [(aF, .inr (1, [.ref aG, .ref aC, .ref aFs, .ref aFf, .ref aFt, .ref aFn, .ref aFd, .int u_177.1, .int vFB, .int vFE, .int vFN, .int vFL, .int vFX, .int vFY])), (aFs, .inl (cA, 24, .inl (u_177.2.1))), (aFf, .inl (cA, 24, .inl (u_177.2.2.1))), (aFt, .inl (cA, 24, .inl (u_177.2.2.2.1))), (aFn, .inl (cA, 24, .inl (u_177.2.2.2.2.1))), (aFd, .inl (cA, 24, .inl (u_177.2.2.2.2.2)))]) (w2 := fun (u_177 : Int32 × (Nat → Int32) × (Nat → Int32) × (Nat → Int32) × (Nat → Int32) × (Nat → Int32)) => [(aF, .inr (1, [.ref aG, .ref aC, .ref aFs, .ref aFf, .ref aFt, .ref aFn, .ref aFd, .int u_177.1, .int vFB, .int vFE, .int vFN, .int vFL, .int vFX, .int vFY])), (aFs, .inl (cA, 24, .inl (u_177.2.1))), (aFf, .inl (cA, 24, .inl (u_177.2.2.1))), (aFt, .inl (cA, 24, .inl (u_177.2.2.2.1))), (aFn, .inl (cA, 24, .inl (u_177.2.2.2.2.1))), (aFd, .inl (cA, 24, .inl (u_177.2.2.2.2.2))), (aC, .inr (0, [.ref aG, .ref aR, .ref aCn, .ref aCc, .ref aCr, .ref aCs, .int vCF])), (aCn, .inl (cA, 5760, .inl (vCn))), (aG, .inr (2, [.ref aGh, .ref aGi, .ref aGc, .ref aGo, .ref aGr, .int vGF, .int vGS])), (aGi, .inl (cA, 72, .inl (vGi))), (aR, .inr (4, [.ref aRt, .int vRL])), (aRt, .inl (cA, 24, .inl (vRt)))]) ⟨hx, hb, hml, hown, hg⟩ (c_F_pileUp l dC dI cA aF aFs aFf aFt aFn aFd aC aG _ u_153.1 vFB vFE vFN vFL vFX vFY u_153.2.1 u_153.2.2.1 u_153.2.2.2.1 u_153.2.2.2.2.1 u_153.2.2.2.2.2 r_163 vFB vFX ((vFN / r_46) / r_21) p1 g_177) (cwV 5 hg (q_gV mw_477 mw_478 mw_756 mw_6 mw_479) rfl rfl rfl qh_F_pileUp ⟨Nat.le_of_ble_eq_true rfl, Nat.le_of_ble_eq_true rfl⟩) hN hK hP hD hS hA [0, 1, 2, 3, 4, 5] [6, 7, 8, 9, 10, 11] rfl rfl (by decide) (by decide) (by decide) [6, 7, 8, 9, 10, 11, 0, 1, 2, 3, 4, 5] (fun _ => rfl) (by decide) 0 1 rfl rfl rfl hl.1 rfl (Nat.le_of_ble_eq_true rfl) qd_F_pileUpItems_177 ⟨Nat.zero_le _, Nat.zero_le _⟩ (fun u_177 H locs w_177 hP hD hS => ?_)
  have hP : va_P (dC, dI) vwCl [(aF, .inr (1, [.ref aG, .ref aC, .ref aFs, .ref aFf, .ref aFt, .ref aFn, .ref aFd, .int u_177.1, .int vFB, .int vFE, .int vFN, .int vFL, .int vFX, .int vFY])), (aFs, .inl (cA, 24, .inl (u_177.2.1))), (aFf, .inl (cA, 24, .inl (u_177.2.2.1))), (aFt, .inl (cA, 24, .inl (u_177.2.2.2.1))), (aFn, .inl (cA, 24, .inl (u_177.2.2.2.2.1))), (aFd, .inl (cA, 24, .inl (u_177.2.2.2.2.2))), (aC, .inr (0, [.ref aG, .ref aR, .ref aCn, .ref aCc, .ref aCr, .ref aCs, .int vCF])), (aCn, .inl (cA, 5760, .inl (vCn))), (aG, .inr (2, [.ref aGh, .ref aGi, .ref aGc, .ref aGo, .ref aGr, .int vGF, .int vGS])), (aGi, .inl (cA, 72, .inl (vGi))), (aR, .inr (4, [.ref aRt, .int vRL])), (aRt, .inl (cA, 24, .inl (vRt)))] H := hP
  have hD : va_D A [(aF, .inr (1, [.ref aG, .ref aC, .ref aFs, .ref aFf, .ref aFt, .ref aFn, .ref aFd, .int u_177.1, .int vFB, .int vFE, .int vFN, .int vFL, .int vFX, .int vFY])), (aFs, .inl (cA, 24, .inl (u_177.2.1))), (aFf, .inl (cA, 24, .inl (u_177.2.2.1))), (aFt, .inl (cA, 24, .inl (u_177.2.2.2.1))), (aFn, .inl (cA, 24, .inl (u_177.2.2.2.2.1))), (aFd, .inl (cA, 24, .inl (u_177.2.2.2.2.2))), (aC, .inr (0, [.ref aG, .ref aR, .ref aCn, .ref aCc, .ref aCr, .ref aCs, .int vCF])), (aCn, .inl (cA, 5760, .inl (vCn))), (aG, .inr (2, [.ref aGh, .ref aGi, .ref aGc, .ref aGo, .ref aGr, .int vGF, .int vGS])), (aGi, .inl (cA, 72, .inl (vGi))), (aR, .inr (4, [.ref aRt, .int vRL])), (aRt, .inl (cA, 24, .inl (vRt)))] := hD
  have hres := hres.trans (bd_eq w_177)
  have ho := (bd_eq w_177).mp ho
  exact W.vret hx hb hr (fun t ht hW => ⟨⟨(u_177.1, u_177.2.1, u_177.2.2.1, u_177.2.2.2.1, u_177.2.2.2.2.1, u_177.2.2.2.2.2), rfl, hres.symm, ⟨by rw [ht]; exact hP, va_K.moved hW.alike hK, x_N hN hW⟩, hD⟩, hS.F ht⟩) hS.2.2 qd_F_pileUpItems_180
theorem qd_F_find_0 : decode qc_F_find 0 = .ok (.aload 5, 2) := by decide +kernel
theorem qd_F_find_2 : decode qc_F_find 2 = .ok (.invokevirtual 57, 3) := by decide +kernel
theorem qd_F_find_5 : decode qc_F_find 5 = .ok (.aload_n 0, 1) := by decide +kernel
theorem qd_F_find_6 : decode qc_F_find 6 = .ok (.iconst 0, 1) := by decide +kernel
theorem qd_F_find_7 : decode qc_F_find 7 = .ok (.putfield 27, 3) := by decide +kernel
theorem qd_F_find_10 : decode qc_F_find 10 = .ok (.aload_n 0, 1) := by decide +kernel
theorem qd_F_find_11 : decode qc_F_find 11 = .ok (.iload_n 1, 1) := by decide +kernel
theorem qd_F_find_12 : decode qc_F_find 12 = .ok (.iload_n 2, 1) := by decide +kernel
theorem qd_F_find_13 : decode qc_F_find 13 = .ok (.iload_n 3, 1) := by decide +kernel
theorem qd_F_find_14 : decode qc_F_find 14 = .ok (.iload 4, 2) := by decide +kernel
theorem qd_F_find_16 : decode qc_F_find 16 = .ok (.iconst 0, 1) := by decide +kernel
theorem qd_F_find_17 : decode qc_F_find 17 = .ok (.invokevirtual 62, 3) := by decide +kernel
theorem qd_F_find_20 : decode qc_F_find 20 = .ok (.iconst 0, 1) := by decide +kernel
theorem qd_F_find_21 : decode qc_F_find 21 = .ok (.istore 6, 2) := by decide +kernel
theorem qd_F_find_23 : decode qc_F_find 23 = .ok (.iload 6, 2) := by decide +kernel
theorem qd_F_find_25 : decode qc_F_find 25 = .ok (.sipush 470, 3) := by decide +kernel
theorem qd_F_find_28 : decode qc_F_find 28 = .ok (.if_icmp .ge 149, 3) := by decide +kernel
theorem qd_F_find_31 : decode qc_F_find 31 = .ok (.aload_n 0, 1) := by decide +kernel
theorem qd_F_find_32 : decode qc_F_find 32 = .ok (.getfield 27, 3) := by decide +kernel
theorem qd_F_find_35 : decode qc_F_find 35 = .ok (.ifCond .le 142, 3) := by decide +kernel
theorem qd_F_find_38 : decode qc_F_find 38 = .ok (.aload_n 0, 1) := by decide +kernel
theorem qd_F_find_39 : decode qc_F_find 39 = .ok (.getfield 27, 3) := by decide +kernel
theorem qd_F_find_42 : decode qc_F_find 42 = .ok (.bipush 24, 2) := by decide +kernel
theorem qd_F_find_44 : decode qc_F_find 44 = .ok (.invokestatic 66, 3) := by decide +kernel
theorem qd_F_find_47 : decode qc_F_find 47 = .ok (.iconst 1, 1) := by decide +kernel
theorem qd_F_find_48 : decode qc_F_find 48 = .ok (.isub, 1) := by decide +kernel
theorem qd_F_find_49 : decode qc_F_find 49 = .ok (.istore 7, 2) := by decide +kernel
theorem qd_F_find_51 : decode qc_F_find 51 = .ok (.aload_n 0, 1) := by decide +kernel
theorem qd_F_find_52 : decode qc_F_find 52 = .ok (.iload 7, 2) := by decide +kernel
theorem qd_F_find_54 : decode qc_F_find 54 = .ok (.putfield 27, 3) := by decide +kernel
theorem qd_F_find_57 : decode qc_F_find 57 = .ok (.aload_n 0, 1) := by decide +kernel
theorem qd_F_find_58 : decode qc_F_find 58 = .ok (.aload_n 0, 1) := by decide +kernel
theorem qd_F_find_59 : decode qc_F_find 59 = .ok (.getfield 15, 3) := by decide +kernel
theorem qd_F_find_62 : decode qc_F_find 62 = .ok (.iload 7, 2) := by decide +kernel
theorem qd_F_find_64 : decode qc_F_find 64 = .ok (.iaload, 1) := by decide +kernel
theorem qd_F_find_65 : decode qc_F_find 65 = .ok (.putfield 31, 3) := by decide +kernel
theorem qd_F_find_68 : decode qc_F_find 68 = .ok (.aload_n 0, 1) := by decide +kernel
theorem qd_F_find_69 : decode qc_F_find 69 = .ok (.aload_n 0, 1) := by decide +kernel
theorem qd_F_find_70 : decode qc_F_find 70 = .ok (.getfield 18, 3) := by decide +kernel
theorem qd_F_find_73 : decode qc_F_find 73 = .ok (.iload 7, 2) := by decide +kernel
theorem qd_F_find_75 : decode qc_F_find 75 = .ok (.iaload, 1) := by decide +kernel
theorem qd_F_find_76 : decode qc_F_find 76 = .ok (.putfield 34, 3) := by decide +kernel
theorem qd_F_find_79 : decode qc_F_find 79 = .ok (.aload_n 0, 1) := by decide +kernel
theorem qd_F_find_80 : decode qc_F_find 80 = .ok (.aload_n 0, 1) := by decide +kernel
theorem qd_F_find_81 : decode qc_F_find 81 = .ok (.getfield 21, 3) := by decide +kernel
theorem qd_F_find_84 : decode qc_F_find 84 = .ok (.iload 7, 2) := by decide +kernel
theorem qd_F_find_86 : decode qc_F_find 86 = .ok (.iaload, 1) := by decide +kernel
theorem qd_F_find_87 : decode qc_F_find 87 = .ok (.putfield 37, 3) := by decide +kernel
theorem qd_F_find_90 : decode qc_F_find 90 = .ok (.aload_n 0, 1) := by decide +kernel
theorem qd_F_find_91 : decode qc_F_find 91 = .ok (.aload_n 0, 1) := by decide +kernel
theorem qd_F_find_92 : decode qc_F_find 92 = .ok (.getfield 53, 3) := by decide +kernel
theorem qd_F_find_95 : decode qc_F_find 95 = .ok (.aload_n 0, 1) := by decide +kernel
theorem qd_F_find_96 : decode qc_F_find 96 = .ok (.getfield 9, 3) := by decide +kernel
theorem qd_F_find_99 : decode qc_F_find 99 = .ok (.iload 7, 2) := by decide +kernel
theorem qd_F_find_101 : decode qc_F_find 101 = .ok (.iaload, 1) := by decide +kernel
theorem qd_F_find_102 : decode qc_F_find 102 = .ok (.aload_n 0, 1) := by decide +kernel
theorem qd_F_find_103 : decode qc_F_find 103 = .ok (.getfield 31, 3) := by decide +kernel
theorem qd_F_find_106 : decode qc_F_find 106 = .ok (.aload_n 0, 1) := by decide +kernel
theorem qd_F_find_107 : decode qc_F_find 107 = .ok (.getfield 34, 3) := by decide +kernel
theorem qd_F_find_110 : decode qc_F_find 110 = .ok (.invokevirtual 72, 3) := by decide +kernel
theorem qd_F_find_113 : decode qc_F_find 113 = .ok (.putfield 40, 3) := by decide +kernel
theorem qd_F_find_116 : decode qc_F_find 116 = .ok (.aload_n 0, 1) := by decide +kernel
theorem qd_F_find_117 : decode qc_F_find 117 = .ok (.getfield 24, 3) := by decide +kernel
theorem qd_F_find_120 : decode qc_F_find 120 = .ok (.iload 7, 2) := by decide +kernel
theorem qd_F_find_122 : decode qc_F_find 122 = .ok (.iaload, 1) := by decide +kernel
theorem qd_F_find_123 : decode qc_F_find 123 = .ok (.istore 8, 2) := by decide +kernel
theorem qd_F_find_125 : decode qc_F_find 125 = .ok (.aload_n 0, 1) := by decide +kernel
theorem qd_F_find_126 : decode qc_F_find 126 = .ok (.aload_n 0, 1) := by decide +kernel
theorem qd_F_find_127 : decode qc_F_find 127 = .ok (.getfield 9, 3) := by decide +kernel
theorem qd_F_find_130 : decode qc_F_find 130 = .ok (.iload 7, 2) := by decide +kernel
theorem qd_F_find_132 : decode qc_F_find 132 = .ok (.iaload, 1) := by decide +kernel
theorem qd_F_find_133 : decode qc_F_find 133 = .ok (.invokevirtual 78, 3) := by decide +kernel
theorem qd_F_find_136 : decode qc_F_find 136 = .ok (.istore 9, 2) := by decide +kernel
theorem qd_F_find_138 : decode qc_F_find 138 = .ok (.iload 9, 2) := by decide +kernel
theorem qd_F_find_140 : decode qc_F_find 140 = .ok (.iconst (-1), 1) := by decide +kernel
theorem qd_F_find_141 : decode qc_F_find 141 = .ok (.if_icmp .eq 30, 3) := by decide +kernel
theorem qd_F_find_144 : decode qc_F_find 144 = .ok (.aload 5, 2) := by decide +kernel
theorem qd_F_find_146 : decode qc_F_find 146 = .ok (.iload 9, 2) := by decide +kernel
theorem qd_F_find_148 : decode qc_F_find 148 = .ok (.aload_n 0, 1) := by decide +kernel
theorem qd_F_find_149 : decode qc_F_find 149 = .ok (.getfield 31, 3) := by decide +kernel
theorem qd_F_find_152 : decode qc_F_find 152 = .ok (.aload_n 0, 1) := by decide +kernel
theorem qd_F_find_153 : decode qc_F_find 153 = .ok (.getfield 34, 3) := by decide +kernel
theorem qd_F_find_156 : decode qc_F_find 156 = .ok (.iload 8, 2) := by decide +kernel
theorem qd_F_find_158 : decode qc_F_find 158 = .ok (.invokevirtual 82, 3) := by decide +kernel
theorem qd_F_find_161 : decode qc_F_find 161 = .ok (.aload_n 0, 1) := by decide +kernel
theorem qd_F_find_162 : decode qc_F_find 162 = .ok (.iload 9, 2) := by decide +kernel
theorem qd_F_find_164 : decode qc_F_find 164 = .ok (.iload 8, 2) := by decide +kernel
theorem qd_F_find_166 : decode qc_F_find 166 = .ok (.iconst 1, 1) := by decide +kernel
theorem qd_F_find_167 : decode qc_F_find 167 = .ok (.iadd, 1) := by decide +kernel
theorem qd_F_find_168 : decode qc_F_find 168 = .ok (.invokevirtual 86, 3) := by decide +kernel
theorem qd_F_find_171 : decode qc_F_find 171 = .ok (.iinc 6 1, 3) := by decide +kernel
theorem qd_F_find_174 : decode qc_F_find 174 = .ok (.goto (-151), 3) := by decide +kernel
theorem qd_F_find_177 : decode qc_F_find 177 = .ok (.return_, 1) := by decide +kernel
set_option maxHeartbeats 4000000 in
set_option maxRecDepth 100000 in
theorem c_F_find (l : Launch) (dC : Nat → ClassId) (dI : Nat → Nat → Nat) (cA : ClassId) (N_ : Nat) (aF aFs aFf aFt aFn aFd aT aTf aC aCn aCc aCr aCs aG aGh aGi aGc aGo aGr aR aRt : Nat) (sz : Nat) (vFW : Int32) (vFB : Int32) (vFE : Int32) (vFN : Int32) (vFL : Int32) (vFX : Int32) (vFY : Int32) (vFs : (Nat → Int32)) (vFf : (Nat → Int32)) (vFt : (Nat → Int32)) (vFn : (Nat → Int32)) (vFd : (Nat → Int32)) (vTS : Int32) (vTf : (Nat → Int32)) (vCF : Int32) (vCn : (Nat → Int32)) (vCc : (Nat → Int32)) (vGF : Int32) (vGS : Int32) (vGh : (Nat → Int32)) (vGi : (Nat → Int32)) (vGc : (Nat → Int32)) (vRL : Int32) (vRt : (Nat → Int32)) (p0 : Int32) (p1 : Int32) (p2 : Int32) (p3 : Int32) (ho : o_F_find N_ vFW vFB vFE vFN vFL vFX vFY vFs vFf vFt vFn vFd vTS vTf vCn vCc vGS vGh vGi vGc vRL vRt p0 p1 p2 p3) : Met l qy_F_find qw_F_find ({ frames := 6, cells := 0, slots := 0, locals := 143 }) (va_Pc [.ref aF, .int p0, .int p1, .int p2, .int p3, .ref aT] (fun U => U.heap.size = sz ∧ xP (dC, dI) [(cA, .int)] [(aF, .inr (1, [.ref aG, .ref aC, .ref aFs, .ref aFf, .ref aFt, .ref aFn, .ref aFd, .int vFW, .int vFB, .int vFE, .int vFN, .int vFL, .int vFX, .int vFY])), (aFs, .inl (cA, 24, .inl (vFs))), (aFf, .inl (cA, 24, .inl (vFf))), (aFt, .inl (cA, 24, .inl (vFt))), (aFn, .inl (cA, 24, .inl (vFn))), (aFd, .inl (cA, 24, .inl (vFd))), (aT, .inr (5, [.ref aTf, .int vTS])), (aTf, .inl (cA, 1880, .inl (vTf))), (aC, .inr (0, [.ref aG, .ref aR, .ref aCn, .ref aCc, .ref aCr, .ref aCs, .int vCF])), (aCn, .inl (cA, 5760, .inl (vCn))), (aCc, .inl (cA, 5760, .inl (vCc))), (aG, .inr (2, [.ref aGh, .ref aGi, .ref aGc, .ref aGo, .ref aGr, .int vGF, .int vGS])), (aGh, .inl (cA, 24, .inl (vGh))), (aGi, .inl (cA, 72, .inl (vGi))), (aGc, .inl (cA, 24, .inl (vGc))), (aR, .inr (4, [.ref aRt, .int vRL])), (aRt, .inl (cA, 24, .inl (vRt)))] nestN U ∧ va_D (fun _ => True) [(aF, .inr (1, [.ref aG, .ref aC, .ref aFs, .ref aFf, .ref aFt, .ref aFn, .ref aFd, .int vFW, .int vFB, .int vFE, .int vFN, .int vFL, .int vFX, .int vFY])), (aFs, .inl (cA, 24, .inl (vFs))), (aFf, .inl (cA, 24, .inl (vFf))), (aFt, .inl (cA, 24, .inl (vFt))), (aFn, .inl (cA, 24, .inl (vFn))), (aFd, .inl (cA, 24, .inl (vFd))), (aT, .inr (5, [.ref aTf, .int vTS])), (aTf, .inl (cA, 1880, .inl (vTf))), (aC, .inr (0, [.ref aG, .ref aR, .ref aCn, .ref aCc, .ref aCr, .ref aCs, .int vCF])), (aCn, .inl (cA, 5760, .inl (vCn))), (aCc, .inl (cA, 5760, .inl (vCc))), (aG, .inr (2, [.ref aGh, .ref aGi, .ref aGc, .ref aGo, .ref aGr, .int vGF, .int vGS])), (aGh, .inl (cA, 24, .inl (vGh))), (aGi, .inl (cA, 72, .inl (vGi))), (aGc, .inl (cA, 24, .inl (vGc))), (aR, .inr (4, [.ref aRt, .int vRL])), (aRt, .inl (cA, 24, .inl (vRt)))])) (va_Qv (fun u => u = f_F_find N_ vFW vFB vFE vFN vFL vFX vFY vFs vFf vFt vFn vFd vTS vTf vCn vCc vGS vGh vGi vGc vRL vRt p0 p1 p2 p3) (fun (u : Int32 × Int32 × Int32 × Int32 × Int32 × Int32 × Int32 × (Nat → Int32) × (Nat → Int32) × (Nat → Int32) × (Nat → Int32) × (Nat → Int32) × Int32 × (Nat → Int32)) t => xP (dC, dI) [(cA, .int)] [(aF, .inr (1, [.ref aG, .ref aC, .ref aFs, .ref aFf, .ref aFt, .ref aFn, .ref aFd, .int u.1, .int u.2.1, .int u.2.2.1, .int u.2.2.2.1, .int u.2.2.2.2.1, .int u.2.2.2.2.2.1, .int u.2.2.2.2.2.2.1])), (aFs, .inl (cA, 24, .inl (u.2.2.2.2.2.2.2.1))), (aFf, .inl (cA, 24, .inl (u.2.2.2.2.2.2.2.2.1))), (aFt, .inl (cA, 24, .inl (u.2.2.2.2.2.2.2.2.2.1))), (aFn, .inl (cA, 24, .inl (u.2.2.2.2.2.2.2.2.2.2.1))), (aFd, .inl (cA, 24, .inl (u.2.2.2.2.2.2.2.2.2.2.2.1))), (aT, .inr (5, [.ref aTf, .int u.2.2.2.2.2.2.2.2.2.2.2.2.1])), (aTf, .inl (cA, 1880, .inl (u.2.2.2.2.2.2.2.2.2.2.2.2.2))), (aC, .inr (0, [.ref aG, .ref aR, .ref aCn, .ref aCc, .ref aCr, .ref aCs, .int vCF])), (aCn, .inl (cA, 5760, .inl (vCn))), (aCc, .inl (cA, 5760, .inl (vCc))), (aG, .inr (2, [.ref aGh, .ref aGi, .ref aGc, .ref aGo, .ref aGr, .int vGF, .int vGS])), (aGh, .inl (cA, 24, .inl (vGh))), (aGi, .inl (cA, 72, .inl (vGi))), (aGc, .inl (cA, 24, .inl (vGc))), (aR, .inr (4, [.ref aRt, .int vRL])), (aRt, .inl (cA, 24, .inl (vRt)))] nestN t ∧ va_D (va_A [(aF, .inr (1, [.ref aG, .ref aC, .ref aFs, .ref aFf, .ref aFt, .ref aFn, .ref aFd, .int vFW, .int vFB, .int vFE, .int vFN, .int vFL, .int vFX, .int vFY])), (aFs, .inl (cA, 24, .inl (vFs))), (aFf, .inl (cA, 24, .inl (vFf))), (aFt, .inl (cA, 24, .inl (vFt))), (aFn, .inl (cA, 24, .inl (vFn))), (aFd, .inl (cA, 24, .inl (vFd))), (aT, .inr (5, [.ref aTf, .int vTS])), (aTf, .inl (cA, 1880, .inl (vTf))), (aC, .inr (0, [.ref aG, .ref aR, .ref aCn, .ref aCc, .ref aCr, .ref aCs, .int vCF])), (aCn, .inl (cA, 5760, .inl (vCn))), (aCc, .inl (cA, 5760, .inl (vCc))), (aG, .inr (2, [.ref aGh, .ref aGi, .ref aGc, .ref aGo, .ref aGr, .int vGF, .int vGS])), (aGh, .inl (cA, 24, .inl (vGh))), (aGi, .inl (cA, 72, .inl (vGi))), (aGc, .inl (cA, 24, .inl (vGc))), (aR, .inr (4, [.ref aRt, .int vRL])), (aRt, .inl (cA, 24, .inl (vRt)))] sz) [(aF, .inr (1, [.ref aG, .ref aC, .ref aFs, .ref aFf, .ref aFt, .ref aFn, .ref aFd, .int u.1, .int u.2.1, .int u.2.2.1, .int u.2.2.2.1, .int u.2.2.2.2.1, .int u.2.2.2.2.2.1, .int u.2.2.2.2.2.2.1])), (aFs, .inl (cA, 24, .inl (u.2.2.2.2.2.2.2.1))), (aFf, .inl (cA, 24, .inl (u.2.2.2.2.2.2.2.2.1))), (aFt, .inl (cA, 24, .inl (u.2.2.2.2.2.2.2.2.2.1))), (aFn, .inl (cA, 24, .inl (u.2.2.2.2.2.2.2.2.2.2.1))), (aFd, .inl (cA, 24, .inl (u.2.2.2.2.2.2.2.2.2.2.2.1))), (aT, .inr (5, [.ref aTf, .int u.2.2.2.2.2.2.2.2.2.2.2.2.1])), (aTf, .inl (cA, 1880, .inl (u.2.2.2.2.2.2.2.2.2.2.2.2.2))), (aC, .inr (0, [.ref aG, .ref aR, .ref aCn, .ref aCc, .ref aCr, .ref aCs, .int vCF])), (aCn, .inl (cA, 5760, .inl (vCn))), (aCc, .inl (cA, 5760, .inl (vCc))), (aG, .inr (2, [.ref aGh, .ref aGi, .ref aGc, .ref aGo, .ref aGr, .int vGF, .int vGS])), (aGh, .inl (cA, 24, .inl (vGh))), (aGi, .inl (cA, 72, .inl (vGi))), (aGc, .inl (cA, 24, .inl (vGc))), (aR, .inr (4, [.ref aRt, .int vRL])), (aRt, .inl (cA, 24, .inl (vRt)))]) (va_A [(aF, .inr (1, [.ref aG, .ref aC, .ref aFs, .ref aFf, .ref aFt, .ref aFn, .ref aFd, .int vFW, .int vFB, .int vFE, .int vFN, .int vFL, .int vFX, .int vFY])), (aFs, .inl (cA, 24, .inl (vFs))), (aFf, .inl (cA, 24, .inl (vFf))), (aFt, .inl (cA, 24, .inl (vFt))), (aFn, .inl (cA, 24, .inl (vFn))), (aFd, .inl (cA, 24, .inl (vFd))), (aT, .inr (5, [.ref aTf, .int vTS])), (aTf, .inl (cA, 1880, .inl (vTf))), (aC, .inr (0, [.ref aG, .ref aR, .ref aCn, .ref aCc, .ref aCr, .ref aCs, .int vCF])), (aCn, .inl (cA, 5760, .inl (vCn))), (aCc, .inl (cA, 5760, .inl (vCc))), (aG, .inr (2, [.ref aGh, .ref aGi, .ref aGc, .ref aGo, .ref aGr, .int vGF, .int vGS])), (aGh, .inl (cA, 24, .inl (vGh))), (aGi, .inl (cA, 72, .inl (vGi))), (aGc, .inl (cA, 24, .inl (vGc))), (aR, .inr (4, [.ref aRt, .int vRL])), (aRt, .inl (cA, 24, .inl (vRt)))] sz)) 0 0 (va_A [(aF, .inr (1, [.ref aG, .ref aC, .ref aFs, .ref aFf, .ref aFt, .ref aFn, .ref aFd, .int vFW, .int vFB, .int vFE, .int vFN, .int vFL, .int vFX, .int vFY])), (aFs, .inl (cA, 24, .inl (vFs))), (aFf, .inl (cA, 24, .inl (vFf))), (aFt, .inl (cA, 24, .inl (vFt))), (aFn, .inl (cA, 24, .inl (vFn))), (aFd, .inl (cA, 24, .inl (vFd))), (aT, .inr (5, [.ref aTf, .int vTS])), (aTf, .inl (cA, 1880, .inl (vTf))), (aC, .inr (0, [.ref aG, .ref aR, .ref aCn, .ref aCc, .ref aCr, .ref aCs, .int vCF])), (aCn, .inl (cA, 5760, .inl (vCn))), (aCc, .inl (cA, 5760, .inl (vCc))), (aG, .inr (2, [.ref aGh, .ref aGi, .ref aGc, .ref aGo, .ref aGr, .int vGF, .int vGS])), (aGh, .inl (cA, 24, .inl (vGh))), (aGi, .inl (cA, 72, .inl (vGi))), (aGc, .inl (cA, 24, .inl (vGc))), (aR, .inr (4, [.ref aRt, .int vRL])), (aRt, .inl (cA, 24, .inl (vRt)))] sz) := by
  refine Met.ofW (cc := qc_F_find) (maxL := 10) (ret := (none)) (by decide) rfl ?_
  intro p e s m args below meth c s₁ B hml hv
  obtain ⟨rfl, hsz, ⟨hP, hK, hN⟩, hD0⟩ := hv
  have hx := B.exec
  have hb := B.bytes
  have hr := B.returns
  have hts := atoms_spec (ws := qw_F_find) B.pre
  have hg : ∀ w ∈ gG, w.before _ s = true := fun w h => hts w (List.mem_cons_of_mem _ h)
  have hown : s.vm.findClass qR_F = some m.cls := findClass_of_methodNamed B.named
  have hlocks := B.notSynchronized
  subst hsz
  have hD := hD0.self (sz := s.heap.size)
  generalize hAe : va_A [(aF, .inr (1, [.ref aG, .ref aC, .ref aFs, .ref aFf, .ref aFt, .ref aFn, .ref aFd, .int vFW, .int vFB, .int vFE, .int vFN, .int vFL, .int vFX, .int vFY])), (aFs, .inl (cA, 24, .inl (vFs))), (aFf, .inl (cA, 24, .inl (vFf))), (aFt, .inl (cA, 24, .inl (vFt))), (aFn, .inl (cA, 24, .inl (vFn))), (aFd, .inl (cA, 24, .inl (vFd))), (aT, .inr (5, [.ref aTf, .int vTS])), (aTf, .inl (cA, 1880, .inl (vTf))), (aC, .inr (0, [.ref aG, .ref aR, .ref aCn, .ref aCc, .ref aCr, .ref aCs, .int vCF])), (aCn, .inl (cA, 5760, .inl (vCn))), (aCc, .inl (cA, 5760, .inl (vCc))), (aG, .inr (2, [.ref aGh, .ref aGi, .ref aGc, .ref aGo, .ref aGr, .int vGF, .int vGS])), (aGh, .inl (cA, 24, .inl (vGh))), (aGi, .inl (cA, 72, .inl (vGi))), (aGc, .inl (cA, 24, .inl (vGc))), (aR, .inr (4, [.ref aRt, .int vRL])), (aRt, .inl (cA, 24, .inl (vRt)))] s.heap.size = A at hD ⊢
  have hA : ∀ q : Nat, s.heap.size ≤ q → A q := fun q h => by rw [← hAe]; exact Or.inr h
  have hS : va_S A s.heap s.heap [] := va_S.rf
  have hP : va_P (dC, dI) vwCl [(aF, .inr (1, [.ref aG, .ref aC, .ref aFs, .ref aFf, .ref aFt, .ref aFn, .ref aFd, .int vFW, .int vFB, .int vFE, .int vFN, .int vFL, .int vFX, .int vFY])), (aFs, .inl (cA, 24, .inl (vFs))), (aFf, .inl (cA, 24, .inl (vFf))), (aFt, .inl (cA, 24, .inl (vFt))), (aFn, .inl (cA, 24, .inl (vFn))), (aFd, .inl (cA, 24, .inl (vFd))), (aT, .inr (5, [.ref aTf, .int vTS])), (aTf, .inl (cA, 1880, .inl (vTf))), (aC, .inr (0, [.ref aG, .ref aR, .ref aCn, .ref aCc, .ref aCr, .ref aCs, .int vCF])), (aCn, .inl (cA, 5760, .inl (vCn))), (aCc, .inl (cA, 5760, .inl (vCc))), (aG, .inr (2, [.ref aGh, .ref aGi, .ref aGc, .ref aGo, .ref aGr, .int vGF, .int vGS])), (aGh, .inl (cA, 24, .inl (vGh))), (aGi, .inl (cA, 72, .inl (vGi))), (aGc, .inl (cA, 24, .inl (vGc))), (aR, .inr (4, [.ref aRt, .int vRL])), (aRt, .inl (cA, 24, .inl (vRt)))] s.heap := hP
  have hl := lv_entry ([.ref aF, .int p0, .int p1, .int p2, .int p3, .ref aT]) (n := 10) (Nat.le_of_ble_eq_true rfl)
  rw [lg_entry_eq]
  generalize (lg_sl ([.ref aF, .int p0, .int p1, .int p2, .int p3, .ref aT]) ++ List.replicate (10 - (lg_sl ([.ref aF, .int p0, .int p1, .int p2, .int p3, .ref aT])).length) Slot.unset).toArray = ls at hl ⊢
  have hl : lv_has ls 10 [(0, .ref aF), (1, .int p0), (2, .int p1), (3, .int p2), (4, .int p3), (5, .ref aT)] := hl
  generalize hF : f_F_find N_ vFW vFB vFE vFN vFL vFX vFY vFs vFf vFt vFn vFd vTS vTf vCn vCc vGS vGh vGi vGc vRL vRt p0 p1 p2 p3 = Fv
  have hres : Fv = f_F_find N_ vFW vFB vFE vFN vFL vFX vFY vFs vFf vFt vFn vFd vTS vTf vCn vCc vGS vGh vGi vGc vRL vRt p0 p1 p2 p3 := hF.symm
  unfold f_F_find at hres
  unfold o_F_find at ho
  generalize hQ : MQ _ _ _ _ _ _ _ = Qg
  refine lv_aload hx hb qd_F_find_0 (lv_at hl 5 rfl) ?_
  refine xm_Vv (As := []) (rest := []) (w1 := fun (u_2 : Int32) => [(aT, .inr (5, [.ref aTf, .int u_2]))]) (w2 := fun (u_2 : Int32) => [(aF, .inr (1, [.ref aG, .ref aC, .ref aFs, .ref aFf, .ref aFt, .ref aFn, .ref aFd, .int vFW, .int vFB, .int vFE, .int vFN, .int vFL, .int vFX, .int vFY])), (aFs, .inl (cA, 24, .inl (vFs))), (aFf, .inl (cA, 24, .inl (vFf))), (aFt, .inl (cA, 24, .inl (vFt))), (aFn, .inl (cA, 24, .inl (vFn))), (aFd, .inl (cA, 24, .inl (vFd))), (aT, .inr (5, [.ref aTf, .int u_2])), (aTf, .inl (cA, 1880, .inl (vTf))), (aC, .inr (0, [.ref aG, .ref aR, .ref aCn, .ref aCc, .ref aCr, .ref aCs, .int vCF])), (aCn, .inl (cA, 5760, .inl (vCn))), (aCc, .inl (cA, 5760, .inl (vCc))), (aG, .inr (2, [.ref aGh, .ref aGi, .ref aGc, .ref aGo, .ref aGr, .int vGF, .int vGS])), (aGh, .inl (cA, 24, .inl (vGh))), (aGi, .inl (cA, 72, .inl (vGi))), (aGc, .inl (cA, 24, .inl (vGc))), (aR, .inr (4, [.ref aRt, .int vRL])), (aRt, .inl (cA, 24, .inl (vRt)))]) ⟨hx, hb, hml, hown, hg⟩ (c_T_forget l dC dI cA aT aTf _ vTS) (cwV 0 hg (q_gV mw_476 mw_165 mw_166 mw_5 mw_167) rfl rfl rfl qh_T_forget ⟨Nat.le_of_ble_eq_true rfl, Nat.le_of_ble_eq_true rfl⟩) hN hK hP hD hS hA [6] [0, 1, 2, 3, 4, 5, 7, 8, 9, 10, 11, 12, 13, 14, 15, 16] rfl rfl (by decide) (by decide) (by decide) [0, 1, 2, 3, 4, 5, 16, 6, 7, 8, 9, 10, 11, 12, 13, 14, 15] (fun _ => rfl) (by decide) 0 5 rfl rfl rfl hl.1 rfl (Nat.le_of_ble_eq_true rfl) qd_F_find_2 ⟨Nat.zero_le _, Nat.zero_le _⟩ (fun u_2 H locs w_2 hP hD hS => ?_)
  have hP : va_P (dC, dI) vwCl [(aF, .inr (1, [.ref aG, .ref aC, .ref aFs, .ref aFf, .ref aFt, .ref aFn, .ref aFd, .int vFW, .int vFB, .int vFE, .int vFN, .int vFL, .int vFX, .int vFY])), (aFs, .inl (cA, 24, .inl (vFs))), (aFf, .inl (cA, 24, .inl (vFf))), (aFt, .inl (cA, 24, .inl (vFt))), (aFn, .inl (cA, 24, .inl (vFn))), (aFd, .inl (cA, 24, .inl (vFd))), (aT, .inr (5, [.ref aTf, .int u_2])), (aTf, .inl (cA, 1880, .inl (vTf))), (aC, .inr (0, [.ref aG, .ref aR, .ref aCn, .ref aCc, .ref aCr, .ref aCs, .int vCF])), (aCn, .inl (cA, 5760, .inl (vCn))), (aCc, .inl (cA, 5760, .inl (vCc))), (aG, .inr (2, [.ref aGh, .ref aGi, .ref aGc, .ref aGo, .ref aGr, .int vGF, .int vGS])), (aGh, .inl (cA, 24, .inl (vGh))), (aGi, .inl (cA, 72, .inl (vGi))), (aGc, .inl (cA, 24, .inl (vGc))), (aR, .inr (4, [.ref aRt, .int vRL])), (aRt, .inl (cA, 24, .inl (vRt)))] H := hP
  have hD : va_D A [(aF, .inr (1, [.ref aG, .ref aC, .ref aFs, .ref aFf, .ref aFt, .ref aFn, .ref aFd, .int vFW, .int vFB, .int vFE, .int vFN, .int vFL, .int vFX, .int vFY])), (aFs, .inl (cA, 24, .inl (vFs))), (aFf, .inl (cA, 24, .inl (vFf))), (aFt, .inl (cA, 24, .inl (vFt))), (aFn, .inl (cA, 24, .inl (vFn))), (aFd, .inl (cA, 24, .inl (vFd))), (aT, .inr (5, [.ref aTf, .int u_2])), (aTf, .inl (cA, 1880, .inl (vTf))), (aC, .inr (0, [.ref aG, .ref aR, .ref aCn, .ref aCc, .ref aCr, .ref aCs, .int vCF])), (aCn, .inl (cA, 5760, .inl (vCn))), (aCc, .inl (cA, 5760, .inl (vCc))), (aG, .inr (2, [.ref aGh, .ref aGi, .ref aGc, .ref aGo, .ref aGr, .int vGF, .int vGS])), (aGh, .inl (cA, 24, .inl (vGh))), (aGi, .inl (cA, 72, .inl (vGi))), (aGc, .inl (cA, 24, .inl (vGc))), (aR, .inr (4, [.ref aRt, .int vRL])), (aRt, .inl (cA, 24, .inl (vRt)))] := hD
  have hres := hres.trans (bd_eq w_2)
  have ho := (bd_eq w_2).mp ho
  refine lv_aload_n hx hb qd_F_find_5 rfl (lv_at hl 0 rfl) ?_
  refine lv_iconst (v := 0) hx hb qd_F_find_6 (by decide) ?_
  refine va_put (D := (dC, dI)) (ci := 1) (v := .int 0) (ty := .int) (C := qR_F) (T := qT_F) (N := 14) hx hb hg qi_F qt_F qk_F qn_F hown hK hP hD hS 0 rfl rfl 7 (by decide) (hg _ mw_98) (fun _ h9 => h9) rfl (by decide +kernel) rfl rfl (Nat.le_of_ble_eq_true rfl) qd_F_find_7 (fun H locs hP hD hS => ?_)
  have hP : va_P (dC, dI) vwCl [(aF, .inr (1, [.ref aG, .ref aC, .ref aFs, .ref aFf, .ref aFt, .ref aFn, .ref aFd, .int 0, .int vFB, .int vFE, .int vFN, .int vFL, .int vFX, .int vFY])), (aFs, .inl (cA, 24, .inl (vFs))), (aFf, .inl (cA, 24, .inl (vFf))), (aFt, .inl (cA, 24, .inl (vFt))), (aFn, .inl (cA, 24, .inl (vFn))), (aFd, .inl (cA, 24, .inl (vFd))), (aT, .inr (5, [.ref aTf, .int u_2])), (aTf, .inl (cA, 1880, .inl (vTf))), (aC, .inr (0, [.ref aG, .ref aR, .ref aCn, .ref aCc, .ref aCr, .ref aCs, .int vCF])), (aCn, .inl (cA, 5760, .inl (vCn))), (aCc, .inl (cA, 5760, .inl (vCc))), (aG, .inr (2, [.ref aGh, .ref aGi, .ref aGc, .ref aGo, .ref aGr, .int vGF, .int vGS])), (aGh, .inl (cA, 24, .inl (vGh))), (aGi, .inl (cA, 72, .inl (vGi))), (aGc, .inl (cA, 24, .inl (vGc))), (aR, .inr (4, [.ref aRt, .int vRL])), (aRt, .inl (cA, 24, .inl (vRt)))] H := hP
  have hD : va_D A [(aF, .inr (1, [.ref aG, .ref aC, .ref aFs, .ref aFf, .ref aFt, .ref aFn, .ref aFd, .int 0, .int vFB, .int vFE, .int vFN, .int vFL, .int vFX, .int vFY])), (aFs, .inl (cA, 24, .inl (vFs))), (aFf, .inl (cA, 24, .inl (vFf))), (aFt, .inl (cA, 24, .inl (vFt))), (aFn, .inl (cA, 24, .inl (vFn))), (aFd, .inl (cA, 24, .inl (vFd))), (aT, .inr (5, [.ref aTf, .int u_2])), (aTf, .inl (cA, 1880, .inl (vTf))), (aC, .inr (0, [.ref aG, .ref aR, .ref aCn, .ref aCc, .ref aCr, .ref aCs, .int vCF])), (aCn, .inl (cA, 5760, .inl (vCn))), (aCc, .inl (cA, 5760, .inl (vCc))), (aG, .inr (2, [.ref aGh, .ref aGi, .ref aGc, .ref aGo, .ref aGr, .int vGF, .int vGS])), (aGh, .inl (cA, 24, .inl (vGh))), (aGi, .inl (cA, 72, .inl (vGi))), (aGc, .inl (cA, 24, .inl (vGc))), (aR, .inr (4, [.ref aRt, .int vRL])), (aRt, .inl (cA, 24, .inl (vRt)))] := hD
  refine lv_aload_n hx hb qd_F_find_10 rfl (lv_at hl 0 rfl) ?_
  refine lv_iload_n hx hb qd_F_find_11 rfl (lv_at hl 1 rfl) ?_
  refine lv_iload_n hx hb qd_F_find_12 rfl (lv_at hl 2 rfl) ?_
  refine lv_iload_n hx hb qd_F_find_13 rfl (lv_at hl 3 rfl) ?_
  refine lv_iload hx hb qd_F_find_14 (lv_at hl 4 rfl) ?_
  refine lv_iconst (v := 0) hx hb qd_F_find_16 (by decide) ?_
  obtain ⟨g_17, ho⟩ := ho
  refine xm_Vv (As := [.int p0, .int p1, .int p2, .int p3, .int 0]) (rest := []) (w1 := fun (u_17 : Int32 × (Nat → Int32) × (Nat → Int32) × (Nat → Int32) × (Nat → Int32) × (Nat → Int32)) => [(aF, .inr (1, [.ref aG, .ref aC, .ref aFs, .ref aFf, .ref aFt, .ref aFn, .ref aFd, .int u_17.1, .int vFB, .int vFE, .int vFN, .int vFL, .int vFX, .int vFY])), (aFs, .inl (cA, 24, .inl (u_17.2.1))), (aFf, .inl (cA, 24, .inl (u_17.2.2.1))), (aFt, .inl (cA, 24, .inl (u_17.2.2.2.1))), (aFn, .inl (cA, 24, .inl (u_17.2.2.2.2.1))), (aFd, .inl (cA, 24, .inl (u_17.2.2.2.2.2)))]) (w2 := fun (u_17 : Int32 × (Nat → Int32) × (Nat → Int32) × (Nat → Int32) × (Nat → Int32) × (Nat → Int32)) => [(aF, .inr (1, [.ref aG, .ref aC, .ref aFs, .ref aFf, .ref aFt, .ref aFn, .ref aFd, .int u_17.1, .int vFB, .int vFE, .int vFN, .int vFL, .int vFX, .int vFY])), (aFs, .inl (cA, 24, .inl (u_17.2.1))), (aFf, .inl (cA, 24, .inl (u_17.2.2.1))), (aFt, .inl (cA, 24, .inl (u_17.2.2.2.1))), (aFn, .inl (cA, 24, .inl (u_17.2.2.2.2.1))), (aFd, .inl (cA, 24, .inl (u_17.2.2.2.2.2))), (aT, .inr (5, [.ref aTf, .int u_2])), (aTf, .inl (cA, 1880, .inl (vTf))), (aC, .inr (0, [.ref aG, .ref aR, .ref aCn, .ref aCc, .ref aCr, .ref aCs, .int vCF])), (aCn, .inl (cA, 5760, .inl (vCn))), (aCc, .inl (cA, 5760, .inl (vCc))), (aG, .inr (2, [.ref aGh, .ref aGi, .ref aGc, .ref aGo, .ref aGr, .int vGF, .int vGS])), (aGh, .inl (cA, 24, .inl (vGh))), (aGi, .inl (cA, 72, .inl (vGi))), (aGc, .inl (cA, 24, .inl (vGc))), (aR, .inr (4, [.ref aRt, .int vRL])), (aRt, .inl (cA, 24, .inl (vRt)))]) ⟨hx, hb, hml, hown, hg⟩ (c_F_pileUp l dC dI cA aF aFs aFf aFt aFn aFd aC aG _ 0 vFB vFE vFN vFL vFX vFY vFs vFf vFt vFn vFd p0 p1 p2 p3 0 g_17) (cwV 5 hg (q_gV mw_477 mw_478 mw_756 mw_6 mw_479) rfl rfl rfl qh_F_pileUp ⟨Nat.le_of_ble_eq_true rfl, Nat.le_of_ble_eq_true rfl⟩) hN hK hP hD hS hA [0, 1, 2, 3, 4, 5] [6, 7, 8, 9, 10, 11, 12, 13, 14, 15, 16] rfl rfl (by decide) (by decide) (by decide) [11, 12, 13, 14, 15, 16, 0, 1, 2, 3, 4, 5, 6, 7, 8, 9, 10] (fun _ => rfl) (by decide) 0 1 rfl rfl rfl hl.1 rfl (Nat.le_of_ble_eq_true rfl) qd_F_find_17 ⟨Nat.zero_le _, Nat.zero_le _⟩ (fun u_17 H locs w_17 hP hD hS => ?_)
  have hP : va_P (dC, dI) vwCl [(aF, .inr (1, [.ref aG, .ref aC, .ref aFs, .ref aFf, .ref aFt, .ref aFn, .ref aFd, .int u_17.1, .int vFB, .int vFE, .int vFN, .int vFL, .int vFX, .int vFY])), (aFs, .inl (cA, 24, .inl (u_17.2.1))), (aFf, .inl (cA, 24, .inl (u_17.2.2.1))), (aFt, .inl (cA, 24, .inl (u_17.2.2.2.1))), (aFn, .inl (cA, 24, .inl (u_17.2.2.2.2.1))), (aFd, .inl (cA, 24, .inl (u_17.2.2.2.2.2))), (aT, .inr (5, [.ref aTf, .int u_2])), (aTf, .inl (cA, 1880, .inl (vTf))), (aC, .inr (0, [.ref aG, .ref aR, .ref aCn, .ref aCc, .ref aCr, .ref aCs, .int vCF])), (aCn, .inl (cA, 5760, .inl (vCn))), (aCc, .inl (cA, 5760, .inl (vCc))), (aG, .inr (2, [.ref aGh, .ref aGi, .ref aGc, .ref aGo, .ref aGr, .int vGF, .int vGS])), (aGh, .inl (cA, 24, .inl (vGh))), (aGi, .inl (cA, 72, .inl (vGi))), (aGc, .inl (cA, 24, .inl (vGc))), (aR, .inr (4, [.ref aRt, .int vRL])), (aRt, .inl (cA, 24, .inl (vRt)))] H := hP
  have hD : va_D A [(aF, .inr (1, [.ref aG, .ref aC, .ref aFs, .ref aFf, .ref aFt, .ref aFn, .ref aFd, .int u_17.1, .int vFB, .int vFE, .int vFN, .int vFL, .int vFX, .int vFY])), (aFs, .inl (cA, 24, .inl (u_17.2.1))), (aFf, .inl (cA, 24, .inl (u_17.2.2.1))), (aFt, .inl (cA, 24, .inl (u_17.2.2.2.1))), (aFn, .inl (cA, 24, .inl (u_17.2.2.2.2.1))), (aFd, .inl (cA, 24, .inl (u_17.2.2.2.2.2))), (aT, .inr (5, [.ref aTf, .int u_2])), (aTf, .inl (cA, 1880, .inl (vTf))), (aC, .inr (0, [.ref aG, .ref aR, .ref aCn, .ref aCc, .ref aCr, .ref aCs, .int vCF])), (aCn, .inl (cA, 5760, .inl (vCn))), (aCc, .inl (cA, 5760, .inl (vCc))), (aG, .inr (2, [.ref aGh, .ref aGi, .ref aGc, .ref aGo, .ref aGr, .int vGF, .int vGS])), (aGh, .inl (cA, 24, .inl (vGh))), (aGi, .inl (cA, 72, .inl (vGi))), (aGc, .inl (cA, 24, .inl (vGc))), (aR, .inr (4, [.ref aRt, .int vRL])), (aRt, .inl (cA, 24, .inl (vRt)))] := hD
  have hres := hres.trans (bd_eq w_17)
  have ho := (bd_eq w_17).mp ho
  refine lv_iconst (v := 0) hx hb qd_F_find_20 (by decide) ?_
  refine lv_istore (lv' := [(6, .int 0), (0, .ref aF), (1, .int p0), (2, .int p1), (3, .int p2), (4, .int p3), (5, .ref aT)]) hx hb qd_F_find_21 hl (by decide) rfl (fun ls hl => ?_)
  have L_23 : ∀ (K_ : Int32 → Int32 → Int32 → Int32 → Int32 → Int32 → Int32 → Int32 → (Nat → Int32) → (Nat → Int32) → (Nat → Int32) → (Nat → Int32) → (Nat → Int32) → Int32 → (Nat → Int32) → Int32 × Int32 × Int32 × Int32 × Int32 × Int32 × Int32 × (Nat → Int32) × (Nat → Int32) × (Nat → Int32) × (Nat → Int32) × (Nat → Int32) × Int32 × (Nat → Int32)) (Ko_ : Int32 → Int32 → Int32 → Int32 → Int32 → Int32 → Int32 → Int32 → (Nat → Int32) → (Nat → Int32) → (Nat → Int32) → (Nat → Int32) → (Nat → Int32) → Int32 → (Nat → Int32) → Prop) (hk : ∀ (x6_23 : Int32) (vFW_23 : Int32) (vFB_23 : Int32) (vFE_23 : Int32) (vFN_23 : Int32) (vFL_23 : Int32) (vFX_23 : Int32) (vFY_23 : Int32) (vFs_23 : (Nat → Int32)) (vFf_23 : (Nat → Int32)) (vFt_23 : (Nat → Int32)) (vFn_23 : (Nat → Int32)) (vFd_23 : (Nat → Int32)) (vTS_23 : Int32) (vTf_23 : (Nat → Int32)) (H : Heap) (locs : List Loc) (ls : Array Slot), va_P (dC, dI) vwCl [(aF, .inr (1, [.ref aG, .ref aC, .ref aFs, .ref aFf, .ref aFt, .ref aFn, .ref aFd, .int vFW_23, .int vFB_23, .int vFE_23, .int vFN_23, .int vFL_23, .int vFX_23, .int vFY_23])), (aFs, .inl (cA, 24, .inl (vFs_23))), (aFf, .inl (cA, 24, .inl (vFf_23))), (aFt, .inl (cA, 24, .inl (vFt_23))), (aFn, .inl (cA, 24, .inl (vFn_23))), (aFd, .inl (cA, 24, .inl (vFd_23))), (aT, .inr (5, [.ref aTf, .int vTS_23])), (aTf, .inl (cA, 1880, .inl (vTf_23))), (aC, .inr (0, [.ref aG, .ref aR, .ref aCn, .ref aCc, .ref aCr, .ref aCs, .int vCF])), (aCn, .inl (cA, 5760, .inl (vCn))), (aCc, .inl (cA, 5760, .inl (vCc))), (aG, .inr (2, [.ref aGh, .ref aGi, .ref aGc, .ref aGo, .ref aGr, .int vGF, .int vGS])), (aGh, .inl (cA, 24, .inl (vGh))), (aGi, .inl (cA, 72, .inl (vGi))), (aGc, .inl (cA, 24, .inl (vGc))), (aR, .inr (4, [.ref aRt, .int vRL])), (aRt, .inl (cA, 24, .inl (vRt)))] H → va_D A [(aF, .inr (1, [.ref aG, .ref aC, .ref aFs, .ref aFf, .ref aFt, .ref aFn, .ref aFd, .int vFW_23, .int vFB_23, .int vFE_23, .int vFN_23, .int vFL_23, .int vFX_23, .int vFY_23])), (aFs, .inl (cA, 24, .inl (vFs_23))), (aFf, .inl (cA, 24, .inl (vFf_23))), (aFt, .inl (cA, 24, .inl (vFt_23))), (aFn, .inl (cA, 24, .inl (vFn_23))), (aFd, .inl (cA, 24, .inl (vFd_23))), (aT, .inr (5, [.ref aTf, .int vTS_23])), (aTf, .inl (cA, 1880, .inl (vTf_23))), (aC, .inr (0, [.ref aG, .ref aR, .ref aCn, .ref aCc, .ref aCr, .ref aCs, .int vCF])), (aCn, .inl (cA, 5760, .inl (vCn))), (aCc, .inl (cA, 5760, .inl (vCc))), (aG, .inr (2, [.ref aGh, .ref aGi, .ref aGc, .ref aGo, .ref aGr, .int vGF, .int vGS])), (aGh, .inl (cA, 24, .inl (vGh))), (aGi, .inl (cA, 72, .inl (vGi))), (aGc, .inl (cA, 24, .inl (vGc))), (aR, .inr (4, [.ref aRt, .int vRL])), (aRt, .inl (cA, 24, .inl (vRt)))] → va_S A s.heap H locs → lv_has ls 10 [(6, .int x6_23), (0, .ref aF), (1, .int p0), (2, .int p1), (3, .int p2), (4, .int p3), (5, .ref aT)] → Fv = K_ x6_23 vFW_23 vFB_23 vFE_23 vFN_23 vFL_23 vFX_23 vFY_23 vFs_23 vFf_23 vFt_23 vFn_23 vFd_23 vTS_23 vTf_23 → Ko_ x6_23 vFW_23 vFB_23 vFE_23 vFN_23 vFL_23 vFX_23 vFY_23 vFs_23 vFf_23 vFt_23 vFn_23 vFd_23 vTS_23 vTf_23 → W p l e ({ frames := 6, cells := 0, slots := 0, locals := 143 } : Room) s m (([.ref aF, .int p0, .int p1, .int p2, .int p3, .ref aT] : List Value).toArray) below meth c H locs 0 0 Qg (F0 m 177 ls [])) (n : Nat) (x6_23 : Int32) (vFW_23 : Int32) (vFB_23 : Int32) (vFE_23 : Int32) (vFN_23 : Int32) (vFL_23 : Int32) (vFX_23 : Int32) (vFY_23 : Int32) (vFs_23 : (Nat → Int32)) (vFf_23 : (Nat → Int32)) (vFt_23 : (Nat → Int32)) (vFn_23 : (Nat → Int32)) (vFd_23 : (Nat → Int32)) (vTS_23 : Int32) (vTf_23 : (Nat → Int32)) (H : Heap) (locs : List Loc) (ls : Array Slot), va_P (dC, dI) vwCl [(aF, .inr (1, [.ref aG, .ref aC, .ref aFs, .ref aFf, .ref aFt, .ref aFn, .ref aFd, .int vFW_23, .int vFB_23, .int vFE_23, .int vFN_23, .int vFL_23, .int vFX_23, .int vFY_23])), (aFs, .inl (cA, 24, .inl (vFs_23))), (aFf, .inl (cA, 24, .inl (vFf_23))), (aFt, .inl (cA, 24, .inl (vFt_23))), (aFn, .inl (cA, 24, .inl (vFn_23))), (aFd, .inl (cA, 24, .inl (vFd_23))), (aT, .inr (5, [.ref aTf, .int vTS_23])), (aTf, .inl (cA, 1880, .inl (vTf_23))), (aC, .inr (0, [.ref aG, .ref aR, .ref aCn, .ref aCc, .ref aCr, .ref aCs, .int vCF])), (aCn, .inl (cA, 5760, .inl (vCn))), (aCc, .inl (cA, 5760, .inl (vCc))), (aG, .inr (2, [.ref aGh, .ref aGi, .ref aGc, .ref aGo, .ref aGr, .int vGF, .int vGS])), (aGh, .inl (cA, 24, .inl (vGh))), (aGi, .inl (cA, 72, .inl (vGi))), (aGc, .inl (cA, 24, .inl (vGc))), (aR, .inr (4, [.ref aRt, .int vRL])), (aRt, .inl (cA, 24, .inl (vRt)))] H → va_D A [(aF, .inr (1, [.ref aG, .ref aC, .ref aFs, .ref aFf, .ref aFt, .ref aFn, .ref aFd, .int vFW_23, .int vFB_23, .int vFE_23, .int vFN_23, .int vFL_23, .int vFX_23, .int vFY_23])), (aFs, .inl (cA, 24, .inl (vFs_23))), (aFf, .inl (cA, 24, .inl (vFf_23))), (aFt, .inl (cA, 24, .inl (vFt_23))), (aFn, .inl (cA, 24, .inl (vFn_23))), (aFd, .inl (cA, 24, .inl (vFd_23))), (aT, .inr (5, [.ref aTf, .int vTS_23])), (aTf, .inl (cA, 1880, .inl (vTf_23))), (aC, .inr (0, [.ref aG, .ref aR, .ref aCn, .ref aCc, .ref aCr, .ref aCs, .int vCF])), (aCn, .inl (cA, 5760, .inl (vCn))), (aCc, .inl (cA, 5760, .inl (vCc))), (aG, .inr (2, [.ref aGh, .ref aGi, .ref aGc, .ref aGo, .ref aGr, .int vGF, .int vGS])), (aGh, .inl (cA, 24, .inl (vGh))), (aGi, .inl (cA, 72, .inl (vGi))), (aGc, .inl (cA, 24, .inl (vGc))), (aR, .inr (4, [.ref aRt, .int vRL])), (aRt, .inl (cA, 24, .inl (vRt)))] → va_S A s.heap H locs → lv_has ls 10 [(6, .int x6_23), (0, .ref aF), (1, .int p0), (2, .int p1), (3, .int p2), (4, .int p3), (5, .ref aT)] → Fv = l_F_find_23 N_ vCn vCc vGS vGh vGi vGc vRL vRt K_ n x6_23 vFW_23 vFB_23 vFE_23 vFN_23 vFL_23 vFX_23 vFY_23 vFs_23 vFf_23 vFt_23 vFn_23 vFd_23 vTS_23 vTf_23 → ol_F_find_23 N_ vCn vCc vGS vGh vGi vGc vRL vRt Ko_ n x6_23 vFW_23 vFB_23 vFE_23 vFN_23 vFL_23 vFX_23 vFY_23 vFs_23 vFf_23 vFt_23 vFn_23 vFd_23 vTS_23 vTf_23 → W p l e ({ frames := 6, cells := 0, slots := 0, locals := 143 } : Room) s m (([.ref aF, .int p0, .int p1, .int p2, .int p3, .ref aT] : List Value).toArray) below meth c H locs 0 0 Qg (F0 m 23 ls []) := by
    intro K_ Ko_ hk n
    induction n with
    | zero => intro x6_23 vFW_23 vFB_23 vFE_23 vFN_23 vFL_23 vFX_23 vFY_23 vFs_23 vFf_23 vFt_23 vFn_23 vFd_23 vTS_23 vTf_23 H locs ls hP hD hS hl hres ho; exact ho.elim
    | succ n ih =>
      intro x6_23 vFW_23 vFB_23 vFE_23 vFN_23 vFL_23 vFX_23 vFY_23 vFs_23 vFf_23 vFt_23 vFn_23 vFd_23 vTS_23 vTf_23 H locs ls hP hD hS hl hres ho
      rw [l_F_find_23, s_F_find_23] at hres
      rw [ol_F_find_23, os_F_find_23] at ho
      refine lv_iload hx hb qd_F_find_23 (lv_at hl 0 rfl) ?_
      refine lv_sipush (v := 470) hx hb qd_F_find_25 (by decide) ?_
      refine lv_icmp_ge (tgt := 177) hx hb qd_F_find_28 (by decide) (fun c_28 => ?_) (fun c_28 => ?_)
      · have hres := hres.trans (if_pos c_28)
        have ho := (if_pos c_28).mp ho
        exact hk x6_23 vFW_23 vFB_23 vFE_23 vFN_23 vFL_23 vFX_23 vFY_23 vFs_23 vFf_23 vFt_23 vFn_23 vFd_23 vTS_23 vTf_23 H locs ls hP hD hS (lv_sub hl [0, 1, 2, 3, 4, 5, 6] rfl) hres ho
      have hres := hres.trans (if_neg c_28)
      have ho := (if_neg c_28).mp ho
      refine lv_aload_n hx hb qd_F_find_31 rfl (lv_at hl 1 rfl) ?_
      refine va_get (D := (dC, dI)) (ci := 1) (v := .int vFW_23) (C := qR_F) (T := qT_F) (N := 14) hx hb hg qi_F hown hK hP 0 rfl rfl 7 (by decide) (hg _ mw_98) (fun _ h9 => h9) rfl qd_F_find_32 ?_
      refine lv_if_le (tgt := 177) hx hb qd_F_find_35 (by decide) (fun c_35 => ?_) (fun c_35 => ?_)
      · have hres := hres.trans (if_pos c_35)
        have ho := (if_pos c_35).mp ho
        exact hk x6_23 vFW_23 vFB_23 vFE_23 vFN_23 vFL_23 vFX_23 vFY_23 vFs_23 vFf_23 vFt_23 vFn_23 vFd_23 vTS_23 vTf_23 H locs ls hP hD hS (lv_sub hl [0, 1, 2, 3, 4, 5, 6] rfl) hres ho
      have hres := hres.trans (if_neg c_35)
      have ho := (if_neg c_35).mp ho
      refine lv_aload_n hx hb qd_F_find_38 rfl (lv_at hl 1 rfl) ?_
      refine va_get (D := (dC, dI)) (ci := 1) (v := .int vFW_23) (C := qR_F) (T := qT_F) (N := 14) hx hb hg qi_F hown hK hP 0 rfl rfl 7 (by decide) (hg _ mw_98) (fun _ h9 => h9) rfl qd_F_find_39 ?_
      refine lv_bipush (v := 24) hx hb qd_F_find_42 (by decide) ?_
      refine va_mmin hx hb (hml.trans hl.1.symm) hown (hg _ mw_480) (hg _ mw_162) (hg _ mw_9) (hg _ mw_163) (Nat.le_of_ble_eq_true rfl) (Nat.le_of_ble_eq_true rfl) (Nat.zero_le _) (Nat.zero_le _) qd_F_find_44 ?_
      refine lv_iconst (v := 1) hx hb qd_F_find_47 (by decide) ?_
      refine lv_isub hx hb qd_F_find_48 ?_
      refine lv_istore (lv' := [(7, .int ((if 24 < vFW_23 then 24 else vFW_23) - 1)), (6, .int x6_23), (0, .ref aF), (1, .int p0), (2, .int p1), (3, .int p2), (4, .int p3), (5, .ref aT)]) hx hb qd_F_find_49 hl (by decide) rfl (fun ls hl => ?_)
      refine lv_aload_n hx hb qd_F_find_51 rfl (lv_at hl 2 rfl) ?_
      refine lv_iload hx hb qd_F_find_52 (lv_at hl 0 rfl) ?_
      refine va_put (D := (dC, dI)) (ci := 1) (v := .int ((if 24 < vFW_23 then 24 else vFW_23) - 1)) (ty := .int) (C := qR_F) (T := qT_F) (N := 14) hx hb hg qi_F qt_F qk_F qn_F hown hK hP hD hS 0 rfl rfl 7 (by decide) (hg _ mw_98) (fun _ h9 => h9) rfl (by decide +kernel) rfl rfl (Nat.le_of_ble_eq_true rfl) qd_F_find_54 (fun H locs hP hD hS => ?_)
      have hP : va_P (dC, dI) vwCl [(aF, .inr (1, [.ref aG, .ref aC, .ref aFs, .ref aFf, .ref aFt, .ref aFn, .ref aFd, .int ((if 24 < vFW_23 then 24 else vFW_23) - 1), .int vFB_23, .int vFE_23, .int vFN_23, .int vFL_23, .int vFX_23, .int vFY_23])), (aFs, .inl (cA, 24, .inl (vFs_23))), (aFf, .inl (cA, 24, .inl (vFf_23))), (aFt, .inl (cA, 24, .inl (vFt_23))), (aFn, .inl (cA, 24, .inl (vFn_23))), (aFd, .inl (cA, 24, .inl (vFd_23))), (aT, .inr (5, [.ref aTf, .int vTS_23])), (aTf, .inl (cA, 1880, .inl (vTf_23))), (aC, .inr (0, [.ref aG, .ref aR, .ref aCn, .ref aCc, .ref aCr, .ref aCs, .int vCF])), (aCn, .inl (cA, 5760, .inl (vCn))), (aCc, .inl (cA, 5760, .inl (vCc))), (aG, .inr (2, [.ref aGh, .ref aGi, .ref aGc, .ref aGo, .ref aGr, .int vGF, .int vGS])), (aGh, .inl (cA, 24, .inl (vGh))), (aGi, .inl (cA, 72, .inl (vGi))), (aGc, .inl (cA, 24, .inl (vGc))), (aR, .inr (4, [.ref aRt, .int vRL])), (aRt, .inl (cA, 24, .inl (vRt)))] H := hP
      have hD : va_D A [(aF, .inr (1, [.ref aG, .ref aC, .ref aFs, .ref aFf, .ref aFt, .ref aFn, .ref aFd, .int ((if 24 < vFW_23 then 24 else vFW_23) - 1), .int vFB_23, .int vFE_23, .int vFN_23, .int vFL_23, .int vFX_23, .int vFY_23])), (aFs, .inl (cA, 24, .inl (vFs_23))), (aFf, .inl (cA, 24, .inl (vFf_23))), (aFt, .inl (cA, 24, .inl (vFt_23))), (aFn, .inl (cA, 24, .inl (vFn_23))), (aFd, .inl (cA, 24, .inl (vFd_23))), (aT, .inr (5, [.ref aTf, .int vTS_23])), (aTf, .inl (cA, 1880, .inl (vTf_23))), (aC, .inr (0, [.ref aG, .ref aR, .ref aCn, .ref aCc, .ref aCr, .ref aCs, .int vCF])), (aCn, .inl (cA, 5760, .inl (vCn))), (aCc, .inl (cA, 5760, .inl (vCc))), (aG, .inr (2, [.ref aGh, .ref aGi, .ref aGc, .ref aGo, .ref aGr, .int vGF, .int vGS])), (aGh, .inl (cA, 24, .inl (vGh))), (aGi, .inl (cA, 72, .inl (vGi))), (aGc, .inl (cA, 24, .inl (vGc))), (aR, .inr (4, [.ref aRt, .int vRL])), (aRt, .inl (cA, 24, .inl (vRt)))] := hD
      refine lv_aload_n hx hb qd_F_find_57 rfl (lv_at hl 2 rfl) ?_
      refine lv_aload_n hx hb qd_F_find_58 rfl (lv_at hl 2 rfl) ?_
      refine va_get (D := (dC, dI)) (ci := 1) (v := .ref aFf) (C := qR_F) (T := qT_F) (N := 14) hx hb hg qi_F hown hK hP 0 rfl rfl 3 (by decide) (hg _ mw_94) (fun _ h9 => h9) rfl qd_F_find_59 ?_
      refine lv_iload hx hb qd_F_find_62 (lv_at hl 0 rfl) ?_
      obtain ⟨g_64, ho⟩ := ho
      refine va_iald hx hb hK hP 2 0 rfl rfl g_64 qd_F_find_64 ?_
      refine va_put (D := (dC, dI)) (ci := 1) (v := .int (vFf_23 ((if 24 < vFW_23 then 24 else vFW_23) - 1).toNatClampNeg)) (ty := .int) (C := qR_F) (T := qT_F) (N := 14) hx hb hg qi_F qt_F qk_F qn_F hown hK hP hD hS 0 rfl rfl 8 (by decide) (hg _ mw_99) (fun _ h9 => h9) rfl (by decide +kernel) rfl rfl (Nat.le_of_ble_eq_true rfl) qd_F_find_65 (fun H locs hP hD hS => ?_)
      have hP : va_P (dC, dI) vwCl [(aF, .inr (1, [.ref aG, .ref aC, .ref aFs, .ref aFf, .ref aFt, .ref aFn, .ref aFd, .int ((if 24 < vFW_23 then 24 else vFW_23) - 1), .int (vFf_23 ((if 24 < vFW_23 then 24 else vFW_23) - 1).toNatClampNeg), .int vFE_23, .int vFN_23, .int vFL_23, .int vFX_23, .int vFY_23])), (aFs, .inl (cA, 24, .inl (vFs_23))), (aFf, .inl (cA, 24, .inl (vFf_23))), (aFt, .inl (cA, 24, .inl (vFt_23))), (aFn, .inl (cA, 24, .inl (vFn_23))), (aFd, .inl (cA, 24, .inl (vFd_23))), (aT, .inr (5, [.ref aTf, .int vTS_23])), (aTf, .inl (cA, 1880, .inl (vTf_23))), (aC, .inr (0, [.ref aG, .ref aR, .ref aCn, .ref aCc, .ref aCr, .ref aCs, .int vCF])), (aCn, .inl (cA, 5760, .inl (vCn))), (aCc, .inl (cA, 5760, .inl (vCc))), (aG, .inr (2, [.ref aGh, .ref aGi, .ref aGc, .ref aGo, .ref aGr, .int vGF, .int vGS])), (aGh, .inl (cA, 24, .inl (vGh))), (aGi, .inl (cA, 72, .inl (vGi))), (aGc, .inl (cA, 24, .inl (vGc))), (aR, .inr (4, [.ref aRt, .int vRL])), (aRt, .inl (cA, 24, .inl (vRt)))] H := hP
      have hD : va_D A [(aF, .inr (1, [.ref aG, .ref aC, .ref aFs, .ref aFf, .ref aFt, .ref aFn, .ref aFd, .int ((if 24 < vFW_23 then 24 else vFW_23) - 1), .int (vFf_23 ((if 24 < vFW_23 then 24 else vFW_23) - 1).toNatClampNeg), .int vFE_23, .int vFN_23, .int vFL_23, .int vFX_23, .int vFY_23])), (aFs, .inl (cA, 24, .inl (vFs_23))), (aFf, .inl (cA, 24, .inl (vFf_23))), (aFt, .inl (cA, 24, .inl (vFt_23))), (aFn, .inl (cA, 24, .inl (vFn_23))), (aFd, .inl (cA, 24, .inl (vFd_23))), (aT, .inr (5, [.ref aTf, .int vTS_23])), (aTf, .inl (cA, 1880, .inl (vTf_23))), (aC, .inr (0, [.ref aG, .ref aR, .ref aCn, .ref aCc, .ref aCr, .ref aCs, .int vCF])), (aCn, .inl (cA, 5760, .inl (vCn))), (aCc, .inl (cA, 5760, .inl (vCc))), (aG, .inr (2, [.ref aGh, .ref aGi, .ref aGc, .ref aGo, .ref aGr, .int vGF, .int vGS])), (aGh, .inl (cA, 24, .inl (vGh))), (aGi, .inl (cA, 72, .inl (vGi))), (aGc, .inl (cA, 24, .inl (vGc))), (aR, .inr (4, [.ref aRt, .int vRL])), (aRt, .inl (cA, 24, .inl (vRt)))] := hD
      refine lv_aload_n hx hb qd_F_find_68 rfl (lv_at hl 2 rfl) ?_
      refine lv_aload_n hx hb qd_F_find_69 rfl (lv_at hl 2 rfl) ?_
      refine va_get (D := (dC, dI)) (ci := 1) (v := .ref aFt) (C := qR_F) (T := qT_F) (N := 14) hx hb hg qi_F hown hK hP 0 rfl rfl 4 (by decide) (hg _ mw_95) (fun _ h9 => h9) rfl qd_F_find_70 ?_
      refine lv_iload hx hb qd_F_find_73 (lv_at hl 0 rfl) ?_
      obtain ⟨g_75, ho⟩ := ho
      refine va_iald hx hb hK hP 3 0 rfl rfl g_75 qd_F_find_75 ?_
      refine va_put (D := (dC, dI)) (ci := 1) (v := .int (vFt_23 ((if 24 < vFW_23 then 24 else vFW_23) - 1).toNatClampNeg)) (ty := .int) (C := qR_F) (T := qT_F) (N := 14) hx hb hg qi_F qt_F qk_F qn_F hown hK hP hD hS 0 rfl rfl 9 (by decide) (hg _ mw_100) (fun _ h9 => h9) rfl (by decide +kernel) rfl rfl (Nat.le_of_ble_eq_true rfl) qd_F_find_76 (fun H locs hP hD hS => ?_)
      have hP : va_P (dC, dI) vwCl [(aF, .inr (1, [.ref aG, .ref aC, .ref aFs, .ref aFf, .ref aFt, .ref aFn, .ref aFd, .int ((if 24 < vFW_23 then 24 else vFW_23) - 1), .int (vFf_23 ((if 24 < vFW_23 then 24 else vFW_23) - 1).toNatClampNeg), .int (vFt_23 ((if 24 < vFW_23 then 24 else vFW_23) - 1).toNatClampNeg), .int vFN_23, .int vFL_23, .int vFX_23, .int vFY_23])), (aFs, .inl (cA, 24, .inl (vFs_23))), (aFf, .inl (cA, 24, .inl (vFf_23))), (aFt, .inl (cA, 24, .inl (vFt_23))), (aFn, .inl (cA, 24, .inl (vFn_23))), (aFd, .inl (cA, 24, .inl (vFd_23))), (aT, .inr (5, [.ref aTf, .int vTS_23])), (aTf, .inl (cA, 1880, .inl (vTf_23))), (aC, .inr (0, [.ref aG, .ref aR, .ref aCn, .ref aCc, .ref aCr, .ref aCs, .int vCF])), (aCn, .inl (cA, 5760, .inl (vCn))), (aCc, .inl (cA, 5760, .inl (vCc))), (aG, .inr (2, [.ref aGh, .ref aGi, .ref aGc, .ref aGo, .ref aGr, .int vGF, .int vGS])), (aGh, .inl (cA, 24, .inl (vGh))), (aGi, .inl (cA, 72, .inl (vGi))), (aGc, .inl (cA, 24, .inl (vGc))), (aR, .inr (4, [.ref aRt, .int vRL])), (aRt, .inl (cA, 24, .inl (vRt)))] H := hP
      have hD : va_D A [(aF, .inr (1, [.ref aG, .ref aC, .ref aFs, .ref aFf, .ref aFt, .ref aFn, .ref aFd, .int ((if 24 < vFW_23 then 24 else vFW_23) - 1), .int (vFf_23 ((if 24 < vFW_23 then 24 else vFW_23) - 1).toNatClampNeg), .int (vFt_23 ((if 24 < vFW_23 then 24 else vFW_23) - 1).toNatClampNeg), .int vFN_23, .int vFL_23, .int vFX_23, .int vFY_23])), (aFs, .inl (cA, 24, .inl (vFs_23))), (aFf, .inl (cA, 24, .inl (vFf_23))), (aFt, .inl (cA, 24, .inl (vFt_23))), (aFn, .inl (cA, 24, .inl (vFn_23))), (aFd, .inl (cA, 24, .inl (vFd_23))), (aT, .inr (5, [.ref aTf, .int vTS_23])), (aTf, .inl (cA, 1880, .inl (vTf_23))), (aC, .inr (0, [.ref aG, .ref aR, .ref aCn, .ref aCc, .ref aCr, .ref aCs, .int vCF])), (aCn, .inl (cA, 5760, .inl (vCn))), (aCc, .inl (cA, 5760, .inl (vCc))), (aG, .inr (2, [.ref aGh, .ref aGi, .ref aGc, .ref aGo, .ref aGr, .int vGF, .int vGS])), (aGh, .inl (cA, 24, .inl (vGh))), (aGi, .inl (cA, 72, .inl (vGi))), (aGc, .inl (cA, 24, .inl (vGc))), (aR, .inr (4, [.ref aRt, .int vRL])), (aRt, .inl (cA, 24, .inl (vRt)))] := hD
      refine lv_aload_n hx hb qd_F_find_79 rfl (lv_at hl 2 rfl) ?_
      refine lv_aload_n hx hb qd_F_find_80 rfl (lv_at hl 2 rfl) ?_
      refine va_get (D := (dC, dI)) (ci := 1) (v := .ref aFn) (C := qR_F) (T := qT_F) (N := 14) hx hb hg qi_F hown hK hP 0 rfl rfl 5 (by decide) (hg _ mw_96) (fun _ h9 => h9) rfl qd_F_find_81 ?_
      refine lv_iload hx hb qd_F_find_84 (lv_at hl 0 rfl) ?_
      obtain ⟨g_86, ho⟩ := ho
      refine va_iald hx hb hK hP 4 0 rfl rfl g_86 qd_F_find_86 ?_
      refine va_put (D := (dC, dI)) (ci := 1) (v := .int (vFn_23 ((if 24 < vFW_23 then 24 else vFW_23) - 1).toNatClampNeg)) (ty := .int) (C := qR_F) (T := qT_F) (N := 14) hx hb hg qi_F qt_F qk_F qn_F hown hK hP hD hS 0 rfl rfl 10 (by decide) (hg _ mw_101) (fun _ h9 => h9) rfl (by decide +kernel) rfl rfl (Nat.le_of_ble_eq_true rfl) qd_F_find_87 (fun H locs hP hD hS => ?_)
      have hP : va_P (dC, dI) vwCl [(aF, .inr (1, [.ref aG, .ref aC, .ref aFs, .ref aFf, .ref aFt, .ref aFn, .ref aFd, .int ((if 24 < vFW_23 then 24 else vFW_23) - 1), .int (vFf_23 ((if 24 < vFW_23 then 24 else vFW_23) - 1).toNatClampNeg), .int (vFt_23 ((if 24 < vFW_23 then 24 else vFW_23) - 1).toNatClampNeg), .int (vFn_23 ((if 24 < vFW_23 then 24 else vFW_23) - 1).toNatClampNeg), .int vFL_23, .int vFX_23, .int vFY_23])), (aFs, .inl (cA, 24, .inl (vFs_23))), (aFf, .inl (cA, 24, .inl (vFf_23))), (aFt, .inl (cA, 24, .inl (vFt_23))), (aFn, .inl (cA, 24, .inl (vFn_23))), (aFd, .inl (cA, 24, .inl (vFd_23))), (aT, .inr (5, [.ref aTf, .int vTS_23])), (aTf, .inl (cA, 1880, .inl (vTf_23))), (aC, .inr (0, [.ref aG, .ref aR, .ref aCn, .ref aCc, .ref aCr, .ref aCs, .int vCF])), (aCn, .inl (cA, 5760, .inl (vCn))), (aCc, .inl (cA, 5760, .inl (vCc))), (aG, .inr (2, [.ref aGh, .ref aGi, .ref aGc, .ref aGo, .ref aGr, .int vGF, .int vGS])), (aGh, .inl (cA, 24, .inl (vGh))), (aGi, .inl (cA, 72, .inl (vGi))), (aGc, .inl (cA, 24, .inl (vGc))), (aR, .inr (4, [.ref aRt, .int vRL])), (aRt, .inl (cA, 24, .inl (vRt)))] H := hP
      have hD : va_D A [(aF, .inr (1, [.ref aG, .ref aC, .ref aFs, .ref aFf, .ref aFt, .ref aFn, .ref aFd, .int ((if 24 < vFW_23 then 24 else vFW_23) - 1), .int (vFf_23 ((if 24 < vFW_23 then 24 else vFW_23) - 1).toNatClampNeg), .int (vFt_23 ((if 24 < vFW_23 then 24 else vFW_23) - 1).toNatClampNeg), .int (vFn_23 ((if 24 < vFW_23 then 24 else vFW_23) - 1).toNatClampNeg), .int vFL_23, .int vFX_23, .int vFY_23])), (aFs, .inl (cA, 24, .inl (vFs_23))), (aFf, .inl (cA, 24, .inl (vFf_23))), (aFt, .inl (cA, 24, .inl (vFt_23))), (aFn, .inl (cA, 24, .inl (vFn_23))), (aFd, .inl (cA, 24, .inl (vFd_23))), (aT, .inr (5, [.ref aTf, .int vTS_23])), (aTf, .inl (cA, 1880, .inl (vTf_23))), (aC, .inr (0, [.ref aG, .ref aR, .ref aCn, .ref aCc, .ref aCr, .ref aCs, .int vCF])), (aCn, .inl (cA, 5760, .inl (vCn))), (aCc, .inl (cA, 5760, .inl (vCc))), (aG, .inr (2, [.ref aGh, .ref aGi, .ref aGc, .ref aGo, .ref aGr, .int vGF, .int vGS])), (aGh, .inl (cA, 24, .inl (vGh))), (aGi, .inl (cA, 72, .inl (vGi))), (aGc, .inl (cA, 24, .inl (vGc))), (aR, .inr (4, [.ref aRt, .int vRL])), (aRt, .inl (cA, 24, .inl (vRt)))] := hD
      refine lv_aload_n hx hb qd_F_find_90 rfl (lv_at hl 2 rfl) ?_
      refine lv_aload_n hx hb qd_F_find_91 rfl (lv_at hl 2 rfl) ?_
      refine va_get (D := (dC, dI)) (ci := 1) (v := .ref aC) (C := qR_F) (T := qT_F) (N := 14) hx hb hg qi_F hown hK hP 0 rfl rfl 1 (by decide) (hg _ mw_92) (fun _ h9 => h9) rfl qd_F_find_92 ?_
      refine lv_aload_n hx hb qd_F_find_95 rfl (lv_at hl 2 rfl) ?_
      refine va_get (D := (dC, dI)) (ci := 1) (v := .ref aFs) (C := qR_F) (T := qT_F) (N := 14) hx hb hg qi_F hown hK hP 0 rfl rfl 2 (by decide) (hg _ mw_93) (fun _ h9 => h9) rfl qd_F_find_96 ?_
      refine lv_iload hx hb qd_F_find_99 (lv_at hl 0 rfl) ?_
      obtain ⟨g_101, ho⟩ := ho
      refine va_iald hx hb hK hP 1 0 rfl rfl g_101 qd_F_find_101 ?_
      refine lv_aload_n hx hb qd_F_find_102 rfl (lv_at hl 2 rfl) ?_
      refine va_get (D := (dC, dI)) (ci := 1) (v := .int (vFf_23 ((if 24 < vFW_23 then 24 else vFW_23) - 1).toNatClampNeg)) (C := qR_F) (T := qT_F) (N := 14) hx hb hg qi_F hown hK hP 0 rfl rfl 8 (by decide) (hg _ mw_99) (fun _ h9 => h9) rfl qd_F_find_103 ?_
      refine lv_aload_n hx hb qd_F_find_106 rfl (lv_at hl 2 rfl) ?_
      refine va_get (D := (dC, dI)) (ci := 1) (v := .int (vFt_23 ((if 24 < vFW_23 then 24 else vFW_23) - 1).toNatClampNeg)) (C := qR_F) (T := qT_F) (N := 14) hx hb hg qi_F hown hK hP 0 rfl rfl 9 (by decide) (hg _ mw_100) (fun _ h9 => h9) rfl qd_F_find_107 ?_
      obtain ⟨g_110, ho⟩ := ho
      refine xc_V (As := [.int (vFs_23 ((if 24 < vFW_23 then 24 else vFW_23) - 1).toNatClampNeg), .int (vFf_23 ((if 24 < vFW_23 then 24 else vFW_23) - 1).toNatClampNeg), .int (vFt_23 ((if 24 < vFW_23 then 24 else vFW_23) - 1).toNatClampNeg)]) (rest := [.ref aF]) ⟨hx, hb, hml, hown, hg⟩ (c_C_leastCost l dC dI cA aC aCn aCc aCr aCs aG aR vCF vCc (vFs_23 ((if 24 < vFW_23 then 24 else vFW_23) - 1).toNatClampNeg) (vFf_23 ((if 24 < vFW_23 then 24 else vFW_23) - 1).toNatClampNeg) (vFt_23 ((if 24 < vFW_23 then 24 else vFW_23) - 1).toNatClampNeg) g_110) (cwV 3 hg (q_gV mw_481 mw_396 mw_397 mw_4 mw_398) rfl rfl rfl qh_C_leastCost ⟨Nat.le_of_ble_eq_true rfl, Nat.le_of_ble_eq_true rfl⟩) hN hK hP [8, 10] rfl 0 0 rfl rfl rfl hl.1 rfl (Nat.le_of_ble_eq_true rfl) qd_F_find_110 ⟨Nat.zero_le _, Nat.zero_le _⟩ ?_
      refine lv_topi (fun r_110 w_110 => ?_)
      have hres := hres.trans (bd_eq w_110)
      have ho := (bd_eq w_110).mp ho
      refine va_put (D := (dC, dI)) (ci := 1) (v := .int r_110) (ty := .int) (C := qR_F) (T := qT_F) (N := 14) hx hb hg qi_F qt_F qk_F qn_F hown hK hP hD hS 0 rfl rfl 11 (by decide) (hg _ mw_102) (fun _ h9 => h9) rfl (by decide +kernel) rfl rfl (Nat.le_of_ble_eq_true rfl) qd_F_find_113 (fun H locs hP hD hS => ?_)
      have hP : va_P (dC, dI) vwCl [(aF, .inr (1, [.ref aG, .ref aC, .ref aFs, .ref aFf, .ref aFt, .ref aFn, .ref aFd, .int ((if 24 < vFW_23 then 24 else vFW_23) - 1), .int (vFf_23 ((if 24 < vFW_23 then 24 else vFW_23) - 1).toNatClampNeg), .int (vFt_23 ((if 24 < vFW_23 then 24 else vFW_23) - 1).toNatClampNeg), .int (vFn_23 ((if 24 < vFW_23 then 24 else vFW_23) - 1).toNatClampNeg), .int r_110, .int vFX_23, .int vFY_23])), (aFs, .inl (cA, 24, .inl (vFs_23))), (aFf, .inl (cA, 24, .inl (vFf_23))), (aFt, .inl (cA, 24, .inl (vFt_23))), (aFn, .inl (cA, 24, .inl (vFn_23))), (aFd, .inl (cA, 24, .inl (vFd_23))), (aT, .inr (5, [.ref aTf, .int vTS_23])), (aTf, .inl (cA, 1880, .inl (vTf_23))), (aC, .inr (0, [.ref aG, .ref aR, .ref aCn, .ref aCc, .ref aCr, .ref aCs, .int vCF])), (aCn, .inl (cA, 5760, .inl (vCn))), (aCc, .inl (cA, 5760, .inl (vCc))), (aG, .inr (2, [.ref aGh, .ref aGi, .ref aGc, .ref aGo, .ref aGr, .int vGF, .int vGS])), (aGh, .inl (cA, 24, .inl (vGh))), (aGi, .inl (cA, 72, .inl (vGi))), (aGc, .inl (cA, 24, .inl (vGc))), (aR, .inr (4, [.ref aRt, .int vRL])), (aRt, .inl (cA, 24, .inl (vRt)))] H := hP
      have hD : va_D A [(aF, .inr (1, [.ref aG, .ref aC, .ref aFs, .ref aFf, .ref aFt, .ref aFn, .ref aFd, .int ((if 24 < vFW_23 then 24 else vFW_23) - 1), .int (vFf_23 ((if 24 < vFW_23 then 24 else vFW_23) - 1).toNatClampNeg), .int (vFt_23 ((if 24 < vFW_23 then 24 else vFW_23) - 1).toNatClampNeg), .int (vFn_23 ((if 24 < vFW_23 then 24 else vFW_23) - 1).toNatClampNeg), .int r_110, .int vFX_23, .int vFY_23])), (aFs, .inl (cA, 24, .inl (vFs_23))), (aFf, .inl (cA, 24, .inl (vFf_23))), (aFt, .inl (cA, 24, .inl (vFt_23))), (aFn, .inl (cA, 24, .inl (vFn_23))), (aFd, .inl (cA, 24, .inl (vFd_23))), (aT, .inr (5, [.ref aTf, .int vTS_23])), (aTf, .inl (cA, 1880, .inl (vTf_23))), (aC, .inr (0, [.ref aG, .ref aR, .ref aCn, .ref aCc, .ref aCr, .ref aCs, .int vCF])), (aCn, .inl (cA, 5760, .inl (vCn))), (aCc, .inl (cA, 5760, .inl (vCc))), (aG, .inr (2, [.ref aGh, .ref aGi, .ref aGc, .ref aGo, .ref aGr, .int vGF, .int vGS])), (aGh, .inl (cA, 24, .inl (vGh))), (aGi, .inl (cA, 72, .inl (vGi))), (aGc, .inl (cA, 24, .inl (vGc))), (aR, .inr (4, [.ref aRt, .int vRL])), (aRt, .inl (cA, 24, .inl (vRt)))] := hD
      refine lv_aload_n hx hb qd_F_find_116 rfl (lv_at hl 2 rfl) ?_
      refine va_get (D := (dC, dI)) (ci := 1) (v := .ref aFd) (C := qR_F) (T := qT_F) (N := 14) hx hb hg qi_F hown hK hP 0 rfl rfl 6 (by decide) (hg _ mw_97) (fun _ h9 => h9) rfl qd_F_find_117 ?_
      refine lv_iload hx hb qd_F_find_120 (lv_at hl 0 rfl) ?_
      obtain ⟨g_122, ho⟩ := ho
      refine va_iald hx hb hK hP 5 0 rfl rfl g_122 qd_F_find_122 ?_
      refine lv_istore (lv' := [(8, .int (vFd_23 ((if 24 < vFW_23 then 24 else vFW_23) - 1).toNatClampNeg)), (7, .int ((if 24 < vFW_23 then 24 else vFW_23) - 1)), (6, .int x6_23), (0, .ref aF), (1, .int p0), (2, .int p1), (3, .int p2), (4, .int p3), (5, .ref aT)]) hx hb qd_F_find_123 hl (by decide) rfl (fun ls hl => ?_)
      refine lv_aload_n hx hb qd_F_find_125 rfl (lv_at hl 3 rfl) ?_
      refine lv_aload_n hx hb qd_F_find_126 rfl (lv_at hl 3 rfl) ?_
      refine va_get (D := (dC, dI)) (ci := 1) (v := .ref aFs) (C := qR_F) (T := qT_F) (N := 14) hx hb hg qi_F hown hK hP 0 rfl rfl 2 (by decide) (hg _ mw_93) (fun _ h9 => h9) rfl qd_F_find_127 ?_
      refine lv_iload hx hb qd_F_find_130 (lv_at hl 1 rfl) ?_
      obtain ⟨g_132, ho⟩ := ho
      refine va_iald hx hb hK hP 1 0 rfl rfl g_132 qd_F_find_132 ?_
      obtain ⟨g_133, ho⟩ := ho
      refine xm_Vi (As := [.int (vFs_23 ((if 24 < vFW_23 then 24 else vFW_23) - 1).toNatClampNeg)]) (rest := []) (w1 := fun (u_133 : Int32 × Int32 × Int32 × Int32) => [(aF, .inr (1, [.ref aG, .ref aC, .ref aFs, .ref aFf, .ref aFt, .ref aFn, .ref aFd, .int ((if 24 < vFW_23 then 24 else vFW_23) - 1), .int (vFf_23 ((if 24 < vFW_23 then 24 else vFW_23) - 1).toNatClampNeg), .int (vFt_23 ((if 24 < vFW_23 then 24 else vFW_23) - 1).toNatClampNeg), .int u_133.2.1, .int r_110, .int u_133.2.2.1, .int u_133.2.2.2])), (aC, .inr (0, [.ref aG, .ref aR, .ref aCn, .ref aCc, .ref aCr, .ref aCs, .int vCF])), (aCn, .inl (cA, 5760, .inl (vCn))), (aCc, .inl (cA, 5760, .inl (vCc))), (aG, .inr (2, [.ref aGh, .ref aGi, .ref aGc, .ref aGo, .ref aGr, .int vGF, .int vGS])), (aGh, .inl (cA, 24, .inl (vGh))), (aGi, .inl (cA, 72, .inl (vGi))), (aGc, .inl (cA, 24, .inl (vGc))), (aR, .inr (4, [.ref aRt, .int vRL])), (aRt, .inl (cA, 24, .inl (vRt)))]) (w2 := fun (u_133 : Int32 × Int32 × Int32 × Int32) => [(aF, .inr (1, [.ref aG, .ref aC, .ref aFs, .ref aFf, .ref aFt, .ref aFn, .ref aFd, .int ((if 24 < vFW_23 then 24 else vFW_23) - 1), .int (vFf_23 ((if 24 < vFW_23 then 24 else vFW_23) - 1).toNatClampNeg), .int (vFt_23 ((if 24 < vFW_23 then 24 else vFW_23) - 1).toNatClampNeg), .int u_133.2.1, .int r_110, .int u_133.2.2.1, .int u_133.2.2.2])), (aFs, .inl (cA, 24, .inl (vFs_23))), (aFf, .inl (cA, 24, .inl (vFf_23))), (aFt, .inl (cA, 24, .inl (vFt_23))), (aFn, .inl (cA, 24, .inl (vFn_23))), (aFd, .inl (cA, 24, .inl (vFd_23))), (aT, .inr (5, [.ref aTf, .int vTS_23])), (aTf, .inl (cA, 1880, .inl (vTf_23))), (aC, .inr (0, [.ref aG, .ref aR, .ref aCn, .ref aCc, .ref aCr, .ref aCs, .int vCF])), (aCn, .inl (cA, 5760, .inl (vCn))), (aCc, .inl (cA, 5760, .inl (vCc))), (aG, .inr (2, [.ref aGh, .ref aGi, .ref aGc, .ref aGo, .ref aGr, .int vGF, .int vGS])), (aGh, .inl (cA, 24, .inl (vGh))), (aGi, .inl (cA, 72, .inl (vGi))), (aGc, .inl (cA, 24, .inl (vGc))), (aR, .inr (4, [.ref aRt, .int vRL])), (aRt, .inl (cA, 24, .inl (vRt)))]) ⟨hx, hb, hml, hown, hg⟩ (c_F_findProduction l dC dI cA N_ aF aFs aFf aFt aFn aFd aC aCn aCc aCr aCs aG aGh aGi aGc aGo aGr aR aRt _ ((if 24 < vFW_23 then 24 else vFW_23) - 1) (vFf_23 ((if 24 < vFW_23 then 24 else vFW_23) - 1).toNatClampNeg) (vFt_23 ((if 24 < vFW_23 then 24 else vFW_23) - 1).toNatClampNeg) (vFn_23 ((if 24 < vFW_23 then 24 else vFW_23) - 1).toNatClampNeg) r_110 vFX_23 vFY_23 vCF vCn vCc vGF vGS vGh vGi vGc vRL vRt (vFs_23 ((if 24 < vFW_23 then 24 else vFW_23) - 1).toNatClampNeg) g_133) (cwV 1 hg (q_gV mw_482 mw_483 mw_757 mw_6 mw_484) rfl rfl rfl qh_F_findProduction ⟨Nat.le_of_ble_eq_true rfl, Nat.le_of_ble_eq_true rfl⟩) hN hK hP hD hS hA [0, 8, 9, 10, 11, 12, 13, 14, 15, 16] [1, 2, 3, 4, 5, 6, 7] rfl rfl (by decide) (by decide) (by decide) [7, 0, 1, 2, 3, 4, 5, 6, 8, 9, 10, 11, 12, 13, 14, 15, 16] (fun _ => rfl) (by decide) 0 1 rfl rfl rfl hl.1 rfl (Nat.le_of_ble_eq_true rfl) qd_F_find_133 ⟨Nat.zero_le _, Nat.zero_le _⟩ (fun u_133 H locs w_133 hP hD hS => ?_)
      have hP : va_P (dC, dI) vwCl [(aF, .inr (1, [.ref aG, .ref aC, .ref aFs, .ref aFf, .ref aFt, .ref aFn, .ref aFd, .int ((if 24 < vFW_23 then 24 else vFW_23) - 1), .int (vFf_23 ((if 24 < vFW_23 then 24 else vFW_23) - 1).toNatClampNeg), .int (vFt_23 ((if 24 < vFW_23 then 24 else vFW_23) - 1).toNatClampNeg), .int u_133.2.1, .int r_110, .int u_133.2.2.1, .int u_133.2.2.2])), (aFs, .inl (cA, 24, .inl (vFs_23))), (aFf, .inl (cA, 24, .inl (vFf_23))), (aFt, .inl (cA, 24, .inl (vFt_23))), (aFn, .inl (cA, 24, .inl (vFn_23))), (aFd, .inl (cA, 24, .inl (vFd_23))), (aT, .inr (5, [.ref aTf, .int vTS_23])), (aTf, .inl (cA, 1880, .inl (vTf_23))), (aC, .inr (0, [.ref aG, .ref aR, .ref aCn, .ref aCc, .ref aCr, .ref aCs, .int vCF])), (aCn, .inl (cA, 5760, .inl (vCn))), (aCc, .inl (cA, 5760, .inl (vCc))), (aG, .inr (2, [.ref aGh, .ref aGi, .ref aGc, .ref aGo, .ref aGr, .int vGF, .int vGS])), (aGh, .inl (cA, 24, .inl (vGh))), (aGi, .inl (cA, 72, .inl (vGi))), (aGc, .inl (cA, 24, .inl (vGc))), (aR, .inr (4, [.ref aRt, .int vRL])), (aRt, .inl (cA, 24, .inl (vRt)))] H := hP
      have hD : va_D A [(aF, .inr (1, [.ref aG, .ref aC, .ref aFs, .ref aFf, .ref aFt, .ref aFn, .ref aFd, .int ((if 24 < vFW_23 then 24 else vFW_23) - 1), .int (vFf_23 ((if 24 < vFW_23 then 24 else vFW_23) - 1).toNatClampNeg), .int (vFt_23 ((if 24 < vFW_23 then 24 else vFW_23) - 1).toNatClampNeg), .int u_133.2.1, .int r_110, .int u_133.2.2.1, .int u_133.2.2.2])), (aFs, .inl (cA, 24, .inl (vFs_23))), (aFf, .inl (cA, 24, .inl (vFf_23))), (aFt, .inl (cA, 24, .inl (vFt_23))), (aFn, .inl (cA, 24, .inl (vFn_23))), (aFd, .inl (cA, 24, .inl (vFd_23))), (aT, .inr (5, [.ref aTf, .int vTS_23])), (aTf, .inl (cA, 1880, .inl (vTf_23))), (aC, .inr (0, [.ref aG, .ref aR, .ref aCn, .ref aCc, .ref aCr, .ref aCs, .int vCF])), (aCn, .inl (cA, 5760, .inl (vCn))), (aCc, .inl (cA, 5760, .inl (vCc))), (aG, .inr (2, [.ref aGh, .ref aGi, .ref aGc, .ref aGo, .ref aGr, .int vGF, .int vGS])), (aGh, .inl (cA, 24, .inl (vGh))), (aGi, .inl (cA, 72, .inl (vGi))), (aGc, .inl (cA, 24, .inl (vGc))), (aR, .inr (4, [.ref aRt, .int vRL])), (aRt, .inl (cA, 24, .inl (vRt)))] := hD
      have hres := hres.trans (bd_eq w_133)
      have ho := (bd_eq w_133).mp ho
      refine lv_istore (lv' := [(9, .int u_133.1), (8, .int (vFd_23 ((if 24 < vFW_23 then 24 else vFW_23) - 1).toNatClampNeg)), (7, .int ((if 24 < vFW_23 then 24 else vFW_23) - 1)), (6, .int x6_23), (0, .ref aF), (1, .int p0), (2, .int p1), (3, .int p2), (4, .int p3), (5, .ref aT)]) hx hb qd_F_find_136 hl (by decide) rfl (fun ls hl => ?_)
      refine lv_iload hx hb qd_F_find_138 (lv_at hl 0 rfl) ?_
      refine lv_iconst (v := (-1)) hx hb qd_F_find_140 (by decide) ?_
      refine lv_icmp_eq (tgt := 171) hx hb qd_F_find_141 (by decide) (fun c_141 => ?_) (fun c_141 => ?_)
      · have hres := hres.trans (if_pos c_141)
        have ho := (if_pos c_141).mp ho
        refine lv_iinc (v := x6_23 + 1) (lv' := [(6, .int (x6_23 + 1)), (9, .int u_133.1), (8, .int (vFd_23 ((if 24 < vFW_23 then 24 else vFW_23) - 1).toNatClampNeg)), (7, .int ((if 24 < vFW_23 then 24 else vFW_23) - 1)), (0, .ref aF), (1, .int p0), (2, .int p1), (3, .int p2), (4, .int p3), (5, .ref aT)]) hx hb qd_F_find_171 hl (k := 3) rfl (congrArg (fun z => _ + z) (by decide)) (by decide) rfl (fun ls hl => ?_)
        refine lv_goto (tgt := 23) hx hb qd_F_find_174 (by decide) ?_
        exact ih (x6_23 + 1) ((if 24 < vFW_23 then 24 else vFW_23) - 1) (vFf_23 ((if 24 < vFW_23 then 24 else vFW_23) - 1).toNatClampNeg) (vFt_23 ((if 24 < vFW_23 then 24 else vFW_23) - 1).toNatClampNeg) u_133.2.1 r_110 u_133.2.2.1 u_133.2.2.2 vFs_23 vFf_23 vFt_23 vFn_23 vFd_23 vTS_23 vTf_23 H locs ls hP hD hS (lv_sub hl [0, 4, 5, 6, 7, 8, 9] rfl) hres ho
      have hres := hres.trans (if_neg c_141)
      have ho := (if_neg c_141).mp ho
      refine lv_aload hx hb qd_F_find_144 (lv_at hl 9 rfl) ?_
      refine lv_iload hx hb qd_F_find_146 (lv_at hl 0 rfl) ?_
      refine lv_aload_n hx hb qd_F_find_148 rfl (lv_at hl 4 rfl) ?_
      refine va_get (D := (dC, dI)) (ci := 1) (v := .int (vFf_23 ((if 24 < vFW_23 then 24 else vFW_23) - 1).toNatClampNeg)) (C := qR_F) (T := qT_F) (N := 14) hx hb hg qi_F hown hK hP 0 rfl rfl 8 (by decide) (hg _ mw_99) (fun _ h9 => h9) rfl qd_F_find_149 ?_
      refine lv_aload_n hx hb qd_F_find_152 rfl (lv_at hl 4 rfl) ?_
      refine va_get (D := (dC, dI)) (ci := 1) (v := .int (vFt_23 ((if 24 < vFW_23 then 24 else vFW_23) - 1).toNatClampNeg)) (C := qR_F) (T := qT_F) (N := 14) hx hb hg qi_F hown hK hP 0 rfl rfl 9 (by decide) (hg _ mw_100) (fun _ h9 => h9) rfl qd_F_find_153 ?_
      refine lv_iload hx hb qd_F_find_156 (lv_at hl 1 rfl) ?_
      obtain ⟨g_158, ho⟩ := ho
      refine xm_Vv (As := [.int u_133.1, .int (vFf_23 ((if 24 < vFW_23 then 24 else vFW_23) - 1).toNatClampNeg), .int (vFt_23 ((if 24 < vFW_23 then 24 else vFW_23) - 1).toNatClampNeg), .int (vFd_23 ((if 24 < vFW_23 then 24 else vFW_23) - 1).toNatClampNeg)]) (rest := []) (w1 := fun (u_158 : Int32 × (Nat → Int32)) => [(aT, .inr (5, [.ref aTf, .int u_158.1])), (aTf, .inl (cA, 1880, .inl (u_158.2)))]) (w2 := fun (u_158 : Int32 × (Nat → Int32)) => [(aF, .inr (1, [.ref aG, .ref aC, .ref aFs, .ref aFf, .ref aFt, .ref aFn, .ref aFd, .int ((if 24 < vFW_23 then 24 else vFW_23) - 1), .int (vFf_23 ((if 24 < vFW_23 then 24 else vFW_23) - 1).toNatClampNeg), .int (vFt_23 ((if 24 < vFW_23 then 24 else vFW_23) - 1).toNatClampNeg), .int u_133.2.1, .int r_110, .int u_133.2.2.1, .int u_133.2.2.2])), (aFs, .inl (cA, 24, .inl (vFs_23))), (aFf, .inl (cA, 24, .inl (vFf_23))), (aFt, .inl (cA, 24, .inl (vFt_23))), (aFn, .inl (cA, 24, .inl (vFn_23))), (aFd, .inl (cA, 24, .inl (vFd_23))), (aT, .inr (5, [.ref aTf, .int u_158.1])), (aTf, .inl (cA, 1880, .inl (u_158.2))), (aC, .inr (0, [.ref aG, .ref aR, .ref aCn, .ref aCc, .ref aCr, .ref aCs, .int vCF])), (aCn, .inl (cA, 5760, .inl (vCn))), (aCc, .inl (cA, 5760, .inl (vCc))), (aG, .inr (2, [.ref aGh, .ref aGi, .ref aGc, .ref aGo, .ref aGr, .int vGF, .int vGS])), (aGh, .inl (cA, 24, .inl (vGh))), (aGi, .inl (cA, 72, .inl (vGi))), (aGc, .inl (cA, 24, .inl (vGc))), (aR, .inr (4, [.ref aRt, .int vRL])), (aRt, .inl (cA, 24, .inl (vRt)))]) ⟨hx, hb, hml, hown, hg⟩ (c_T_grow l dC dI cA aT aTf _ vTS_23 vTf_23 u_133.1 (vFf_23 ((if 24 < vFW_23 then 24 else vFW_23) - 1).toNatClampNeg) (vFt_23 ((if 24 < vFW_23 then 24 else vFW_23) - 1).toNatClampNeg) (vFd_23 ((if 24 < vFW_23 then 24 else vFW_23) - 1).toNatClampNeg) g_158) (cwV 4 hg (q_gV mw_506 mw_507 mw_508 mw_5 mw_509) rfl rfl rfl qh_T_grow ⟨Nat.le_of_ble_eq_true rfl, Nat.le_of_ble_eq_true rfl⟩) hN hK hP hD hS hA [6, 7] [0, 1, 2, 3, 4, 5, 8, 9, 10, 11, 12, 13, 14, 15, 16] rfl rfl (by decide) (by decide) (by decide) [0, 1, 2, 3, 4, 5, 15, 16, 6, 7, 8, 9, 10, 11, 12, 13, 14] (fun _ => rfl) (by decide) 0 5 rfl rfl rfl hl.1 rfl (Nat.le_of_ble_eq_true rfl) qd_F_find_158 ⟨Nat.zero_le _, Nat.zero_le _⟩ (fun u_158 H locs w_158 hP hD hS => ?_)
      have hP : va_P (dC, dI) vwCl [(aF, .inr (1, [.ref aG, .ref aC, .ref aFs, .ref aFf, .ref aFt, .ref aFn, .ref aFd, .int ((if 24 < vFW_23 then 24 else vFW_23) - 1), .int (vFf_23 ((if 24 < vFW_23 then 24 else vFW_23) - 1).toNatClampNeg), .int (vFt_23 ((if 24 < vFW_23 then 24 else vFW_23) - 1).toNatClampNeg), .int u_133.2.1, .int r_110, .int u_133.2.2.1, .int u_133.2.2.2])), (aFs, .inl (cA, 24, .inl (vFs_23))), (aFf, .inl (cA, 24, .inl (vFf_23))), (aFt, .inl (cA, 24, .inl (vFt_23))), (aFn, .inl (cA, 24, .inl (vFn_23))), (aFd, .inl (cA, 24, .inl (vFd_23))), (aT, .inr (5, [.ref aTf, .int u_158.1])), (aTf, .inl (cA, 1880, .inl (u_158.2))), (aC, .inr (0, [.ref aG, .ref aR, .ref aCn, .ref aCc, .ref aCr, .ref aCs, .int vCF])), (aCn, .inl (cA, 5760, .inl (vCn))), (aCc, .inl (cA, 5760, .inl (vCc))), (aG, .inr (2, [.ref aGh, .ref aGi, .ref aGc, .ref aGo, .ref aGr, .int vGF, .int vGS])), (aGh, .inl (cA, 24, .inl (vGh))), (aGi, .inl (cA, 72, .inl (vGi))), (aGc, .inl (cA, 24, .inl (vGc))), (aR, .inr (4, [.ref aRt, .int vRL])), (aRt, .inl (cA, 24, .inl (vRt)))] H := hP
      have hD : va_D A [(aF, .inr (1, [.ref aG, .ref aC, .ref aFs, .ref aFf, .ref aFt, .ref aFn, .ref aFd, .int ((if 24 < vFW_23 then 24 else vFW_23) - 1), .int (vFf_23 ((if 24 < vFW_23 then 24 else vFW_23) - 1).toNatClampNeg), .int (vFt_23 ((if 24 < vFW_23 then 24 else vFW_23) - 1).toNatClampNeg), .int u_133.2.1, .int r_110, .int u_133.2.2.1, .int u_133.2.2.2])), (aFs, .inl (cA, 24, .inl (vFs_23))), (aFf, .inl (cA, 24, .inl (vFf_23))), (aFt, .inl (cA, 24, .inl (vFt_23))), (aFn, .inl (cA, 24, .inl (vFn_23))), (aFd, .inl (cA, 24, .inl (vFd_23))), (aT, .inr (5, [.ref aTf, .int u_158.1])), (aTf, .inl (cA, 1880, .inl (u_158.2))), (aC, .inr (0, [.ref aG, .ref aR, .ref aCn, .ref aCc, .ref aCr, .ref aCs, .int vCF])), (aCn, .inl (cA, 5760, .inl (vCn))), (aCc, .inl (cA, 5760, .inl (vCc))), (aG, .inr (2, [.ref aGh, .ref aGi, .ref aGc, .ref aGo, .ref aGr, .int vGF, .int vGS])), (aGh, .inl (cA, 24, .inl (vGh))), (aGi, .inl (cA, 72, .inl (vGi))), (aGc, .inl (cA, 24, .inl (vGc))), (aR, .inr (4, [.ref aRt, .int vRL])), (aRt, .inl (cA, 24, .inl (vRt)))] := hD
      have hres := hres.trans (bd_eq w_158)
      have ho := (bd_eq w_158).mp ho
      refine lv_aload_n hx hb qd_F_find_161 rfl (lv_at hl 4 rfl) ?_
      refine lv_iload hx hb qd_F_find_162 (lv_at hl 0 rfl) ?_
      refine lv_iload hx hb qd_F_find_164 (lv_at hl 1 rfl) ?_
      refine lv_iconst (v := 1) hx hb qd_F_find_166 (by decide) ?_
      refine lv_iadd hx hb qd_F_find_167 ?_
      obtain ⟨g_168, ho⟩ := ho
      refine xm_Vv (As := [.int u_133.1, .int ((vFd_23 ((if 24 < vFW_23 then 24 else vFW_23) - 1).toNatClampNeg) + 1)]) (rest := []) (w1 := fun (u_168 : Int32 × (Nat → Int32) × (Nat → Int32) × (Nat → Int32) × (Nat → Int32) × (Nat → Int32)) => [(aF, .inr (1, [.ref aG, .ref aC, .ref aFs, .ref aFf, .ref aFt, .ref aFn, .ref aFd, .int u_168.1, .int (vFf_23 ((if 24 < vFW_23 then 24 else vFW_23) - 1).toNatClampNeg), .int (vFt_23 ((if 24 < vFW_23 then 24 else vFW_23) - 1).toNatClampNeg), .int u_133.2.1, .int r_110, .int u_133.2.2.1, .int u_133.2.2.2])), (aFs, .inl (cA, 24, .inl (u_168.2.1))), (aFf, .inl (cA, 24, .inl (u_168.2.2.1))), (aFt, .inl (cA, 24, .inl (u_168.2.2.2.1))), (aFn, .inl (cA, 24, .inl (u_168.2.2.2.2.1))), (aFd, .inl (cA, 24, .inl (u_168.2.2.2.2.2))), (aC, .inr (0, [.ref aG, .ref aR, .ref aCn, .ref aCc, .ref aCr, .ref aCs, .int vCF])), (aCn, .inl (cA, 5760, .inl (vCn))), (aG, .inr (2, [.ref aGh, .ref aGi, .ref aGc, .ref aGo, .ref aGr, .int vGF, .int vGS])), (aGi, .inl (cA, 72, .inl (vGi))), (aR, .inr (4, [.ref aRt, .int vRL])), (aRt, .inl (cA, 24, .inl (vRt)))]) (w2 := fun (u_168 : Int32 × (Nat → Int32) × (Nat → Int32) × (Nat → Int32) × (Nat → Int32) × (Nat → Int32)) => [(aF, .inr (1, [.ref aG, .ref aC, .ref aFs, .ref aFf, .ref aFt, .ref aFn, .ref aFd, .int u_168.1, .int (vFf_23 ((if 24 < vFW_23 then 24 else vFW_23) - 1).toNatClampNeg), .int (vFt_23 ((if 24 < vFW_23 then 24 else vFW_23) - 1).toNatClampNeg), .int u_133.2.1, .int r_110, .int u_133.2.2.1, .int u_133.2.2.2])), (aFs, .inl (cA, 24, .inl (u_168.2.1))), (aFf, .inl (cA, 24, .inl (u_168.2.2.1))), (aFt, .inl (cA, 24, .inl (u_168.2.2.2.1))), (aFn, .inl (cA, 24, .inl (u_168.2.2.2.2.1))), (aFd, .inl (cA, 24, .inl (u_168.2.2.2.2.2))), (aT, .inr (5, [.ref aTf, .int u_158.1])), (aTf, .inl (cA, 1880, .inl (u_158.2))), (aC, .inr (0, [.ref aG, .ref aR, .ref aCn, .ref aCc, .ref aCr, .ref aCs, .int vCF])), (aCn, .inl (cA, 5760, .inl (vCn))), (aCc, .inl (cA, 5760, .inl (vCc))), (aG, .inr (2, [.ref aGh, .ref aGi, .ref aGc, .ref aGo, .ref aGr, .int vGF, .int vGS])), (aGh, .inl (cA, 24, .inl (vGh))), (aGi, .inl (cA, 72, .inl (vGi))), (aGc, .inl (cA, 24, .inl (vGc))), (aR, .inr (4, [.ref aRt, .int vRL])), (aRt, .inl (cA, 24, .inl (vRt)))]) ⟨hx, hb, hml, hown, hg⟩ (c_F_pileUpItems l dC dI cA aF aFs aFf aFt aFn aFd aC aCn aCc aCr aCs aG aGh aGi aGc aGo aGr aR aRt _ ((if 24 < vFW_23 then 24 else vFW_23) - 1) (vFf_23 ((if 24 < vFW_23 then 24 else vFW_23) - 1).toNatClampNeg) (vFt_23 ((if 24 < vFW_23 then 24 else vFW_23) - 1).toNatClampNeg) u_133.2.1 r_110 u_133.2.2.1 u_133.2.2.2 vFs_23 vFf_23 vFt_23 vFn_23 vFd_23 vCF vCn vGF vGS vGi vRL vRt u_133.1 ((vFd_23 ((if 24 < vFW_23 then 24 else vFW_23) - 1).toNatClampNeg) + 1) g_168) (cwV 2 hg (q_gV mw_510 mw_511 mw_762 mw_6 mw_512) rfl rfl rfl qh_F_pileUpItems ⟨Nat.le_of_ble_eq_true rfl, Nat.le_of_ble_eq_true rfl⟩) hN hK hP hD hS hA [0, 1, 2, 3, 4, 5, 8, 9, 11, 13, 15, 16] [6, 7, 10, 12, 14] rfl rfl (by decide) (by decide) (by decide) [5, 6, 7, 8, 9, 10, 0, 1, 11, 12, 2, 13, 3, 14, 4, 15, 16] (fun _ => rfl) (by decide) 0 1 rfl rfl rfl hl.1 rfl (Nat.le_of_ble_eq_true rfl) qd_F_find_168 ⟨Nat.zero_le _, Nat.zero_le _⟩ (fun u_168 H locs w_168 hP hD hS => ?_)
      have hP : va_P (dC, dI) vwCl [(aF, .inr (1, [.ref aG, .ref aC, .ref aFs, .ref aFf, .ref aFt, .ref aFn, .ref aFd, .int u_168.1, .int (vFf_23 ((if 24 < vFW_23 then 24 else vFW_23) - 1).toNatClampNeg), .int (vFt_23 ((if 24 < vFW_23 then 24 else vFW_23) - 1).toNatClampNeg), .int u_133.2.1, .int r_110, .int u_133.2.2.1, .int u_133.2.2.2])), (aFs, .inl (cA, 24, .inl (u_168.2.1))), (aFf, .inl (cA, 24, .inl (u_168.2.2.1))), (aFt, .inl (cA, 24, .inl (u_168.2.2.2.1))), (aFn, .inl (cA, 24, .inl (u_168.2.2.2.2.1))), (aFd, .inl (cA, 24, .inl (u_168.2.2.2.2.2))), (aT, .inr (5, [.ref aTf, .int u_158.1])), (aTf, .inl (cA, 1880, .inl (u_158.2))), (aC, .inr (0, [.ref aG, .ref aR, .ref aCn, .ref aCc, .ref aCr, .ref aCs, .int vCF])), (aCn, .inl (cA, 5760, .inl (vCn))), (aCc, .inl (cA, 5760, .inl (vCc))), (aG, .inr (2, [.ref aGh, .ref aGi, .ref aGc, .ref aGo, .ref aGr, .int vGF, .int vGS])), (aGh, .inl (cA, 24, .inl (vGh))), (aGi, .inl (cA, 72, .inl (vGi))), (aGc, .inl (cA, 24, .inl (vGc))), (aR, .inr (4, [.ref aRt, .int vRL])), (aRt, .inl (cA, 24, .inl (vRt)))] H := hP
      have hD : va_D A [(aF, .inr (1, [.ref aG, .ref aC, .ref aFs, .ref aFf, .ref aFt, .ref aFn, .ref aFd, .int u_168.1, .int (vFf_23 ((if 24 < vFW_23 then 24 else vFW_23) - 1).toNatClampNeg), .int (vFt_23 ((if 24 < vFW_23 then 24 else vFW_23) - 1).toNatClampNeg), .int u_133.2.1, .int r_110, .int u_133.2.2.1, .int u_133.2.2.2])), (aFs, .inl (cA, 24, .inl (u_168.2.1))), (aFf, .inl (cA, 24, .inl (u_168.2.2.1))), (aFt, .inl (cA, 24, .inl (u_168.2.2.2.1))), (aFn, .inl (cA, 24, .inl (u_168.2.2.2.2.1))), (aFd, .inl (cA, 24, .inl (u_168.2.2.2.2.2))), (aT, .inr (5, [.ref aTf, .int u_158.1])), (aTf, .inl (cA, 1880, .inl (u_158.2))), (aC, .inr (0, [.ref aG, .ref aR, .ref aCn, .ref aCc, .ref aCr, .ref aCs, .int vCF])), (aCn, .inl (cA, 5760, .inl (vCn))), (aCc, .inl (cA, 5760, .inl (vCc))), (aG, .inr (2, [.ref aGh, .ref aGi, .ref aGc, .ref aGo, .ref aGr, .int vGF, .int vGS])), (aGh, .inl (cA, 24, .inl (vGh))), (aGi, .inl (cA, 72, .inl (vGi))), (aGc, .inl (cA, 24, .inl (vGc))), (aR, .inr (4, [.ref aRt, .int vRL])), (aRt, .inl (cA, 24, .inl (vRt)))] := hD
      have hres := hres.trans (bd_eq w_168)
      have ho := (bd_eq w_168).mp ho
      refine lv_iinc (v := x6_23 + 1) (lv' := [(6, .int (x6_23 + 1)), (9, .int u_133.1), (8, .int (vFd_23 ((if 24 < vFW_23 then 24 else vFW_23) - 1).toNatClampNeg)), (7, .int ((if 24 < vFW_23 then 24 else vFW_23) - 1)), (0, .ref aF), (1, .int p0), (2, .int p1), (3, .int p2), (4, .int p3), (5, .ref aT)]) hx hb qd_F_find_171 hl (k := 3) rfl (congrArg (fun z => _ + z) (by decide)) (by decide) rfl (fun ls hl => ?_)
      refine lv_goto (tgt := 23) hx hb qd_F_find_174 (by decide) ?_
      exact ih (x6_23 + 1) u_168.1 (vFf_23 ((if 24 < vFW_23 then 24 else vFW_23) - 1).toNatClampNeg) (vFt_23 ((if 24 < vFW_23 then 24 else vFW_23) - 1).toNatClampNeg) u_133.2.1 r_110 u_133.2.2.1 u_133.2.2.2 u_168.2.1 u_168.2.2.1 u_168.2.2.2.1 u_168.2.2.2.2.1 u_168.2.2.2.2.2 u_158.1 u_158.2 H locs ls hP hD hS (lv_sub hl [0, 4, 5, 6, 7, 8, 9] rfl) hres ho
  refine L_23 _ _ (fun x6_23 vFW_23 vFB_23 vFE_23 vFN_23 vFL_23 vFX_23 vFY_23 vFs_23 vFf_23 vFt_23 vFn_23 vFd_23 vTS_23 vTf_23 H locs ls hP hD hS hl hres ho => ?_) _ _ _ _ _ _ _ _ _ _ _ _ _ _ _ _ _ _ ls hP hD hS hl hres ho
  subst hQ
  exact W.vret hx hb hr (fun t ht hW => ⟨⟨(vFW_23, vFB_23, vFE_23, vFN_23, vFL_23, vFX_23, vFY_23, vFs_23, vFf_23, vFt_23, vFn_23, vFd_23, vTS_23, vTf_23), rfl, hres.symm, ⟨by rw [ht]; exact hP, va_K.moved hW.alike hK, x_N hN hW⟩, hD⟩, hS.F ht⟩) hS.2.2 qd_F_find_177
