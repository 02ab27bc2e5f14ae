theorem qd_M_count_0 : decode qc_M_count 0 = .ok (.aload_n 0, 1) := by decide +kernel
theorem qd_M_count_1 : decode qc_M_count 1 = .ok (.aload_n 0, 1) := by decide +kernel
theorem qd_M_count_2 : decode qc_M_count 2 = .ok (.iload_n 1, 1) := by decide +kernel
theorem qd_M_count_3 : decode qc_M_count 3 = .ok (.iload_n 2, 1) := by decide +kernel
theorem qd_M_count_4 : decode qc_M_count 4 = .ok (.iload_n 3, 1) := by decide +kernel
theorem qd_M_count_5 : decode qc_M_count 5 = .ok (.invokevirtual 134, 3) := by decide +kernel
theorem qd_M_count_8 : decode qc_M_count 8 = .ok (.ifCond .ne 7, 3) := by decide +kernel
theorem qd_M_count_11 : decode qc_M_count 11 = .ok (.iconst 1, 1) := by decide +kernel
theorem qd_M_count_12 : decode qc_M_count 12 = .ok (.goto 4, 3) := by decide +kernel
theorem qd_M_count_15 : decode qc_M_count 15 = .ok (.iconst 0, 1) := by decide +kernel
theorem qd_M_count_16 : decode qc_M_count 16 = .ok (.iconst 0, 1) := by decide +kernel
theorem qd_M_count_17 : decode qc_M_count 17 = .ok (.iconst 0, 1) := by decide +kernel
theorem qd_M_count_18 : decode qc_M_count 18 = .ok (.invokevirtual 76, 3) := by decide +kernel
theorem qd_M_count_21 : decode qc_M_count 21 = .ok (.ifCond .eq 5, 3) := by decide +kernel
theorem qd_M_count_24 : decode qc_M_count 24 = .ok (.iconst 0, 1) := by decide +kernel
theorem qd_M_count_25 : decode qc_M_count 25 = .ok (.ireturn, 1) := by decide +kernel
theorem qd_M_count_26 : decode qc_M_count 26 = .ok (.aload_n 0, 1) := by decide +kernel
theorem qd_M_count_27 : decode qc_M_count 27 = .ok (.invokevirtual 137, 3) := by decide +kernel
theorem qd_M_count_30 : decode qc_M_count 30 = .ok (.aload_n 0, 1) := by decide +kernel
theorem qd_M_count_31 : decode qc_M_count 31 = .ok (.getfield 22, 3) := by decide +kernel
theorem qd_M_count_34 : decode qc_M_count 34 = .ok (.iload_n 1, 1) := by decide +kernel
theorem qd_M_count_35 : decode qc_M_count 35 = .ok (.iload_n 2, 1) := by decide +kernel
theorem qd_M_count_36 : decode qc_M_count 36 = .ok (.iload_n 3, 1) := by decide +kernel
theorem qd_M_count_37 : decode qc_M_count 37 = .ok (.invokestatic 80, 3) := by decide +kernel
theorem qd_M_count_40 : decode qc_M_count 40 = .ok (.iaload, 1) := by decide +kernel
theorem qd_M_count_41 : decode qc_M_count 41 = .ok (.ireturn, 1) := by decide +kernel
set_option maxHeartbeats 4000000 in
set_option maxRecDepth 100000 in
theorem c_M_count (l : Launch) (dC : Nat → ClassId) (dI : Nat → Nat → Nat) (cA cZ : ClassId) (N_ : Nat) (aM aMh aMi aMc aMt aMn aMl aMs aMd aMe aMo aMw aMu : Nat) (sz : Nat) (vMT : Int32) (vMP : Int32) (vMK : Int32) (vMB : Int32) (vMD : Int32) (vME : Int32) (vMO : Int32) (vMF : Int32) (vMS : Int32) (vMX : Int32) (vMW : Int32) (vMh : (Nat → Int32)) (vMi : (Nat → Int32)) (vMc : (Nat → Int32)) (vMt : (Nat → Int32)) (vMn : (Nat → Int32)) (vMl : (Nat → Int32)) (p0 : Int32) (p1 : Int32) (p2 : Int32) (ho : o_M_count N_ vMT vMP vMK vMB vMF vMS vMh vMi vMc vMt vMn vMl p0 p1 p2) : Met l qy_M_count qw_M_count ({ frames := 5, cells := 0, slots := 0, locals := 123 }) (va_Pc [.ref aM, .int p0, .int p1, .int p2] (fun U => U.heap.size = sz ∧ xP (dC, dI) [(cA, .int), (cZ, .boolean)] [(aM, .inr (7, [.int vMT, .int vMP, .ref aMh, .ref aMi, .ref aMc, .int vMK, .ref aMt, .int vMB, .ref aMn, .ref aMl, .ref aMs, .int vMD, .ref aMd, .int vME, .ref aMe, .int vMO, .ref aMo, .int vMF, .int vMS, .ref aMw, .ref aMu, .int vMX, .int vMW])), (aMh, .inl (cA, 24, .inl (vMh))), (aMi, .inl (cA, 72, .inl (vMi))), (aMc, .inl (cA, 24, .inl (vMc))), (aMt, .inl (cA, 24, .inl (vMt))), (aMn, .inl (cA, 6250, .inl (vMn))), (aMl, .inl (cA, 6250, .inl (vMl)))] nestN U ∧ va_D (fun _ => True) [(aM, .inr (7, [.int vMT, .int vMP, .ref aMh, .ref aMi, .ref aMc, .int vMK, .ref aMt, .int vMB, .ref aMn, .ref aMl, .ref aMs, .int vMD, .ref aMd, .int vME, .ref aMe, .int vMO, .ref aMo, .int vMF, .int vMS, .ref aMw, .ref aMu, .int vMX, .int vMW])), (aMh, .inl (cA, 24, .inl (vMh))), (aMi, .inl (cA, 72, .inl (vMi))), (aMc, .inl (cA, 24, .inl (vMc))), (aMt, .inl (cA, 24, .inl (vMt))), (aMn, .inl (cA, 6250, .inl (vMn))), (aMl, .inl (cA, 6250, .inl (vMl)))])) (va_Qi (fun r (u : Int32 × Int32 × Int32 × Int32 × Int32 × (Nat → Int32) × (Nat → Int32)) => u = f_M_count N_ vMT vMP vMK vMB vMF vMS vMh vMi vMc vMt vMn vMl p0 p1 p2 ∧ r = u.1) (fun (u : Int32 × Int32 × Int32 × Int32 × Int32 × (Nat → Int32) × (Nat → Int32)) t => xP (dC, dI) [(cA, .int), (cZ, .boolean)] [(aM, .inr (7, [.int u.2.1, .int vMP, .ref aMh, .ref aMi, .ref aMc, .int vMK, .ref aMt, .int u.2.2.1, .ref aMn, .ref aMl, .ref aMs, .int vMD, .ref aMd, .int vME, .ref aMe, .int vMO, .ref aMo, .int u.2.2.2.1, .int u.2.2.2.2.1, .ref aMw, .ref aMu, .int vMX, .int vMW])), (aMh, .inl (cA, 24, .inl (vMh))), (aMi, .inl (cA, 72, .inl (vMi))), (aMc, .inl (cA, 24, .inl (vMc))), (aMt, .inl (cA, 24, .inl (vMt))), (aMn, .inl (cA, 6250, .inl (u.2.2.2.2.2.1))), (aMl, .inl (cA, 6250, .inl (u.2.2.2.2.2.2)))] nestN t ∧ va_D (va_A [(aM, .inr (7, [.int vMT, .int vMP, .ref aMh, .ref aMi, .ref aMc, .int vMK, .ref aMt, .int vMB, .ref aMn, .ref aMl, .ref aMs, .int vMD, .ref aMd, .int vME, .ref aMe, .int vMO, .ref aMo, .int vMF, .int vMS, .ref aMw, .ref aMu, .int vMX, .int vMW])), (aMh, .inl (cA, 24, .inl (vMh))), (aMi, .inl (cA, 72, .inl (vMi))), (aMc, .inl (cA, 24, .inl (vMc))), (aMt, .inl (cA, 24, .inl (vMt))), (aMn, .inl (cA, 6250, .inl (vMn))), (aMl, .inl (cA, 6250, .inl (vMl)))] sz) [(aM, .inr (7, [.int u.2.1, .int vMP, .ref aMh, .ref aMi, .ref aMc, .int vMK, .ref aMt, .int u.2.2.1, .ref aMn, .ref aMl, .ref aMs, .int vMD, .ref aMd, .int vME, .ref aMe, .int vMO, .ref aMo, .int u.2.2.2.1, .int u.2.2.2.2.1, .ref aMw, .ref aMu, .int vMX, .int vMW])), (aMh, .inl (cA, 24, .inl (vMh))), (aMi, .inl (cA, 72, .inl (vMi))), (aMc, .inl (cA, 24, .inl (vMc))), (aMt, .inl (cA, 24, .inl (vMt))), (aMn, .inl (cA, 6250, .inl (u.2.2.2.2.2.1))), (aMl, .inl (cA, 6250, .inl (u.2.2.2.2.2.2)))]) (va_A [(aM, .inr (7, [.int vMT, .int vMP, .ref aMh, .ref aMi, .ref aMc, .int vMK, .ref aMt, .int vMB, .ref aMn, .ref aMl, .ref aMs, .int vMD, .ref aMd, .int vME, .ref aMe, .int vMO, .ref aMo, .int vMF, .int vMS, .ref aMw, .ref aMu, .int vMX, .int vMW])), (aMh, .inl (cA, 24, .inl (vMh))), (aMi, .inl (cA, 72, .inl (vMi))), (aMc, .inl (cA, 24, .inl (vMc))), (aMt, .inl (cA, 24, .inl (vMt))), (aMn, .inl (cA, 6250, .inl (vMn))), (aMl, .inl (cA, 6250, .inl (vMl)))] sz)) 0 0 (va_A [(aM, .inr (7, [.int vMT, .int vMP, .ref aMh, .ref aMi, .ref aMc, .int vMK, .ref aMt, .int vMB, .ref aMn, .ref aMl, .ref aMs, .int vMD, .ref aMd, .int vME, .ref aMe, .int vMO, .ref aMo, .int vMF, .int vMS, .ref aMw, .ref aMu, .int vMX, .int vMW])), (aMh, .inl (cA, 24, .inl (vMh))), (aMi, .inl (cA, 72, .inl (vMi))), (aMc, .inl (cA, 24, .inl (vMc))), (aMt, .inl (cA, 24, .inl (vMt))), (aMn, .inl (cA, 6250, .inl (vMn))), (aMl, .inl (cA, 6250, .inl (vMl)))] sz) := by
  refine Met.ofW (cc := qc_M_count) (maxL := 4) (ret := (some .int)) (by decide) rfl ?_
  intro p e s m args below meth c s₁ B hml hv
  obtain ⟨rfl, hsz, ⟨hP, hK, hN⟩, hD0⟩ := hv
  have hx := B.exec
  have hb := B.bytes
  have hr := B.returns
  have hts := atoms_spec (ws := qw_M_count) B.pre
  have hg : ∀ w ∈ gG, w.before _ s = true := fun w h => hts w (List.mem_cons_of_mem _ h)
  have hown : s.vm.findClass qR_M = some m.cls := findClass_of_methodNamed B.named
  have hlocks := B.notSynchronized
  subst hsz
  have hD := hD0.self (sz := s.heap.size)
  generalize hAe : va_A [(aM, .inr (7, [.int vMT, .int vMP, .ref aMh, .ref aMi, .ref aMc, .int vMK, .ref aMt, .int vMB, .ref aMn, .ref aMl, .ref aMs, .int vMD, .ref aMd, .int vME, .ref aMe, .int vMO, .ref aMo, .int vMF, .int vMS, .ref aMw, .ref aMu, .int vMX, .int vMW])), (aMh, .inl (cA, 24, .inl (vMh))), (aMi, .inl (cA, 72, .inl (vMi))), (aMc, .inl (cA, 24, .inl (vMc))), (aMt, .inl (cA, 24, .inl (vMt))), (aMn, .inl (cA, 6250, .inl (vMn))), (aMl, .inl (cA, 6250, .inl (vMl)))] s.heap.size = A at hD ⊢
  have hA : ∀ q : Nat, s.heap.size ≤ q → A q := fun q h => by rw [← hAe]; exact Or.inr h
  have hS : va_S A s.heap s.heap [] := va_S.rf
  have hP : va_P (dC, dI) vwCl [(aM, .inr (7, [.int vMT, .int vMP, .ref aMh, .ref aMi, .ref aMc, .int vMK, .ref aMt, .int vMB, .ref aMn, .ref aMl, .ref aMs, .int vMD, .ref aMd, .int vME, .ref aMe, .int vMO, .ref aMo, .int vMF, .int vMS, .ref aMw, .ref aMu, .int vMX, .int vMW])), (aMh, .inl (cA, 24, .inl (vMh))), (aMi, .inl (cA, 72, .inl (vMi))), (aMc, .inl (cA, 24, .inl (vMc))), (aMt, .inl (cA, 24, .inl (vMt))), (aMn, .inl (cA, 6250, .inl (vMn))), (aMl, .inl (cA, 6250, .inl (vMl)))] s.heap := hP
  have hl := lv_entry ([.ref aM, .int p0, .int p1, .int p2]) (n := 4) (Nat.le_of_ble_eq_true rfl)
  rw [lg_entry_eq]
  generalize (lg_sl ([.ref aM, .int p0, .int p1, .int p2]) ++ List.replicate (4 - (lg_sl ([.ref aM, .int p0, .int p1, .int p2])).length) Slot.unset).toArray = ls at hl ⊢
  have hl : lv_has ls 4 [(0, .ref aM), (1, .int p0), (2, .int p1), (3, .int p2)] := hl
  generalize hF : f_M_count N_ vMT vMP vMK vMB vMF vMS vMh vMi vMc vMt vMn vMl p0 p1 p2 = Fv
  have hres : Fv = f_M_count N_ vMT vMP vMK vMB vMF vMS vMh vMi vMc vMt vMn vMl p0 p1 p2 := hF.symm
  unfold f_M_count at hres
  unfold o_M_count at ho
  refine lv_aload_n hx hb qd_M_count_0 rfl (lv_at hl 0 rfl) ?_
  refine lv_aload_n hx hb qd_M_count_1 rfl (lv_at hl 0 rfl) ?_
  refine lv_iload_n hx hb qd_M_count_2 rfl (lv_at hl 1 rfl) ?_
  refine lv_iload_n hx hb qd_M_count_3 rfl (lv_at hl 2 rfl) ?_
  refine lv_iload_n hx hb qd_M_count_4 rfl (lv_at hl 3 rfl) ?_
  refine xc_V (As := [.int p0, .int p1, .int p2]) (rest := [.ref aM]) ⟨hx, hb, hml, hown, hg⟩ (c_M_isPart l dC dI cA cZ aM aMh aMi aMc aMt aMn aMl aMs aMd aMe aMo aMw aMu vMT vMP vMK vMB vMD vME vMO vMF vMS vMX vMW p0 p1 p2) (cwV 3 hg (q_gV mw_657 mw_658 mw_772 mw_8 mw_659) rfl rfl rfl qh_M_isPart ⟨Nat.le_of_ble_eq_true rfl, Nat.le_of_ble_eq_true rfl⟩) hN hK hP [0] rfl 0 7 rfl rfl rfl hl.1 rfl (Nat.le_of_ble_eq_true rfl) qd_M_count_5 ⟨Nat.zero_le _, Nat.zero_le _⟩ ?_
  refine lv_topi (fun r_5 w_5 => ?_)
  have hres := hres.trans (bd_eq w_5)
  have ho := (bd_eq w_5).mp ho
  refine lv_if_ne (tgt := 15) hx hb qd_M_count_8 (by decide) (fun c_8 => ?_) (fun c_8 => ?_)
  · have hres := hres.trans (if_neg c_8)
    have ho := (if_neg c_8).mp ho
    refine lv_iconst (v := 0) hx hb qd_M_count_15 (by decide) ?_
    refine lv_iconst (v := 0) hx hb qd_M_count_16 (by decide) ?_
    refine lv_iconst (v := 0) hx hb qd_M_count_17 (by decide) ?_
    refine xm_Vi (As := [.int 0, .int 0, .int 0]) (rest := []) (w1 := fun (u_18 : Int32 × Int32) => [(aM, .inr (7, [.int u_18.2, .int vMP, .ref aMh, .ref aMi, .ref aMc, .int vMK, .ref aMt, .int vMB, .ref aMn, .ref aMl, .ref aMs, .int vMD, .ref aMd, .int vME, .ref aMe, .int vMO, .ref aMo, .int vMF, .int vMS, .ref aMw, .ref aMu, .int vMX, .int vMW]))]) (w2 := fun (u_18 : Int32 × Int32) => [(aM, .inr (7, [.int u_18.2, .int vMP, .ref aMh, .ref aMi, .ref aMc, .int vMK, .ref aMt, .int vMB, .ref aMn, .ref aMl, .ref aMs, .int vMD, .ref aMd, .int vME, .ref aMe, .int vMO, .ref aMo, .int vMF, .int vMS, .ref aMw, .ref aMu, .int vMX, .int vMW])), (aMh, .inl (cA, 24, .inl (vMh))), (aMi, .inl (cA, 72, .inl (vMi))), (aMc, .inl (cA, 24, .inl (vMc))), (aMt, .inl (cA, 24, .inl (vMt))), (aMn, .inl (cA, 6250, .inl (vMn))), (aMl, .inl (cA, 6250, .inl (vMl)))]) ⟨hx, hb, hml, hown, hg⟩ (c_M_refuse l dC dI cA cZ aM aMh aMi aMc aMt aMn aMl aMs aMd aMe aMo aMw aMu _ vMT vMP vMK vMB vMD vME vMO vMF vMS vMX vMW 0 0 0) (cwV 3 hg (q_gV mw_642 mw_643 mw_771 mw_8 mw_644) rfl rfl rfl qh_M_refuse ⟨Nat.le_of_ble_eq_true rfl, Nat.le_of_ble_eq_true rfl⟩) hN hK hP hD hS hA [0] [1, 2, 3, 4, 5, 6] rfl rfl (by decide) (by decide) (by decide) [6, 0, 1, 2, 3, 4, 5] (fun _ => rfl) (by decide) 0 7 rfl rfl rfl hl.1 rfl (Nat.le_of_ble_eq_true rfl) qd_M_count_18 ⟨Nat.zero_le _, Nat.zero_le _⟩ (fun u_18 H locs w_18 hP hD hS => ?_)
    have hP : va_P (dC, dI) vwCl [(aM, .inr (7, [.int u_18.2, .int vMP, .ref aMh, .ref aMi, .ref aMc, .int vMK, .ref aMt, .int vMB, .ref aMn, .ref aMl, .ref aMs, .int vMD, .ref aMd, .int vME, .ref aMe, .int vMO, .ref aMo, .int vMF, .int vMS, .ref aMw, .ref aMu, .int vMX, .int vMW])), (aMh, .inl (cA, 24, .inl (vMh))), (aMi, .inl (cA, 72, .inl (vMi))), (aMc, .inl (cA, 24, .inl (vMc))), (aMt, .inl (cA, 24, .inl (vMt))), (aMn, .inl (cA, 6250, .inl (vMn))), (aMl, .inl (cA, 6250, .inl (vMl)))] H := hP
    have hD : va_D A [(aM, .inr (7, [.int u_18.2, .int vMP, .ref aMh, .ref aMi, .ref aMc, .int vMK, .ref aMt, .int vMB, .ref aMn, .ref aMl, .ref aMs, .int vMD, .ref aMd, .int vME, .ref aMe, .int vMO, .ref aMo, .int vMF, .int vMS, .ref aMw, .ref aMu, .int vMX, .int vMW])), (aMh, .inl (cA, 24, .inl (vMh))), (aMi, .inl (cA, 72, .inl (vMi))), (aMc, .inl (cA, 24, .inl (vMc))), (aMt, .inl (cA, 24, .inl (vMt))), (aMn, .inl (cA, 6250, .inl (vMn))), (aMl, .inl (cA, 6250, .inl (vMl)))] := hD
    have hres := hres.trans (bd_eq w_18)
    have ho := (bd_eq w_18).mp ho
    refine lv_if_eq (tgt := 26) hx hb qd_M_count_21 (by decide) (fun c_21 => ?_) (fun c_21 => ?_)
    · have hres := hres.trans (if_pos c_21)
      have ho := (if_pos c_21).mp ho
      refine lv_aload_n hx hb qd_M_count_26 rfl (lv_at hl 0 rfl) ?_
      obtain ⟨g_27, ho⟩ := ho
      refine xm_Vv (As := []) (rest := []) (w1 := fun (u_27 : Int32 × Int32 × Int32 × (Nat → Int32) × (Nat → Int32)) => [(aM, .inr (7, [.int u_18.2, .int vMP, .ref aMh, .ref aMi, .ref aMc, .int vMK, .ref aMt, .int u_27.1, .ref aMn, .ref aMl, .ref aMs, .int vMD, .ref aMd, .int vME, .ref aMe, .int vMO, .ref aMo, .int u_27.2.1, .int u_27.2.2.1, .ref aMw, .ref aMu, .int vMX, .int vMW])), (aMh, .inl (cA, 24, .inl (vMh))), (aMi, .inl (cA, 72, .inl (vMi))), (aMc, .inl (cA, 24, .inl (vMc))), (aMt, .inl (cA, 24, .inl (vMt))), (aMn, .inl (cA, 6250, .inl (u_27.2.2.2.1))), (aMl, .inl (cA, 6250, .inl (u_27.2.2.2.2)))]) (w2 := fun (u_27 : Int32 × Int32 × Int32 × (Nat → Int32) × (Nat → Int32)) => [(aM, .inr (7, [.int u_18.2, .int vMP, .ref aMh, .ref aMi, .ref aMc, .int vMK, .ref aMt, .int u_27.1, .ref aMn, .ref aMl, .ref aMs, .int vMD, .ref aMd, .int vME, .ref aMe, .int vMO, .ref aMo, .int u_27.2.1, .int u_27.2.2.1, .ref aMw, .ref aMu, .int vMX, .int vMW])), (aMh, .inl (cA, 24, .inl (vMh))), (aMi, .inl (cA, 72, .inl (vMi))), (aMc, .inl (cA, 24, .inl (vMc))), (aMt, .inl (cA, 24, .inl (vMt))), (aMn, .inl (cA, 6250, .inl (u_27.2.2.2.1))), (aMl, .inl (cA, 6250, .inl (u_27.2.2.2.2)))]) ⟨hx, hb, hml, hown, hg⟩ (c_M_know l dC dI cA cZ N_ aM aMh aMi aMc aMt aMn aMl aMs aMd aMe aMo aMw aMu _ u_18.2 vMP vMK vMB vMD vME vMO vMF vMS vMX vMW vMh vMi vMc vMt vMn vMl g_27) (cwV 0 hg (q_gV mw_660 mw_661 mw_773 mw_8 mw_662) rfl rfl rfl qh_M_know ⟨Nat.le_of_ble_eq_true rfl, Nat.le_of_ble_eq_true rfl⟩) hN hK hP hD hS hA [0, 1, 2, 3, 4, 5, 6] [] rfl rfl (by decide) (by decide) (by decide) [0, 1, 2, 3, 4, 5, 6] (fun _ => rfl) (by decide) 0 7 rfl rfl rfl hl.1 rfl (Nat.le_of_ble_eq_true rfl) qd_M_count_27 ⟨Nat.zero_le _, Nat.zero_le _⟩ (fun u_27 H locs w_27 hP hD hS => ?_)
      have hP : va_P (dC, dI) vwCl [(aM, .inr (7, [.int u_18.2, .int vMP, .ref aMh, .ref aMi, .ref aMc, .int vMK, .ref aMt, .int u_27.1, .ref aMn, .ref aMl, .ref aMs, .int vMD, .ref aMd, .int vME, .ref aMe, .int vMO, .ref aMo, .int u_27.2.1, .int u_27.2.2.1, .ref aMw, .ref aMu, .int vMX, .int vMW])), (aMh, .inl (cA, 24, .inl (vMh))), (aMi, .inl (cA, 72, .inl (vMi))), (aMc, .inl (cA, 24, .inl (vMc))), (aMt, .inl (cA, 24, .inl (vMt))), (aMn, .inl (cA, 6250, .inl (u_27.2.2.2.1))), (aMl, .inl (cA, 6250, .inl (u_27.2.2.2.2)))] H := hP
      have hD : va_D A [(aM, .inr (7, [.int u_18.2, .int vMP, .ref aMh, .ref aMi, .ref aMc, .int vMK, .ref aMt, .int u_27.1, .ref aMn, .ref aMl, .ref aMs, .int vMD, .ref aMd, .int vME, .ref aMe, .int vMO, .ref aMo, .int u_27.2.1, .int u_27.2.2.1, .ref aMw, .ref aMu, .int vMX, .int vMW])), (aMh, .inl (cA, 24, .inl (vMh))), (aMi, .inl (cA, 72, .inl (vMi))), (aMc, .inl (cA, 24, .inl (vMc))), (aMt, .inl (cA, 24, .inl (vMt))), (aMn, .inl (cA, 6250, .inl (u_27.2.2.2.1))), (aMl, .inl (cA, 6250, .inl (u_27.2.2.2.2)))] := hD
      have hres := hres.trans (bd_eq w_27)
      have ho := (bd_eq w_27).mp ho
      refine lv_aload_n hx hb qd_M_count_30 rfl (lv_at hl 0 rfl) ?_
      refine va_get (D := (dC, dI)) (ci := 7) (v := .ref aMn) (C := qR_M) (T := qT_M) (N := 23) hx hb hg qi_M hown hK hP 0 rfl rfl 8 (by decide) (hg _ mw_582) (fun _ h9 => h9) rfl qd_M_count_31 ?_
      refine lv_iload_n hx hb qd_M_count_34 rfl (lv_at hl 1 rfl) ?_
      refine lv_iload_n hx hb qd_M_count_35 rfl (lv_at hl 2 rfl) ?_
      refine lv_iload_n hx hb qd_M_count_36 rfl (lv_at hl 3 rfl) ?_
      refine xc_S (As := [.int p0, .int p1, .int p2]) (rest := [.ref aMn]) ⟨hx, hb, hml, hown, hg⟩ (c_M_at l dC dI cA cZ p0 p1 p2) (va_cwS 3 hg (q_gS mw_663 mw_664 mw_8 mw_665) rfl rfl rfl qh_M_at.2 ⟨Nat.le_of_ble_eq_true rfl, Nat.le_of_ble_eq_true rfl⟩) hN hK hP [] rfl rfl hl.1 rfl (Nat.le_of_ble_eq_true rfl) qd_M_count_37 ⟨Nat.zero_le _, Nat.zero_le _⟩ ?_
      refine lv_topi (fun r_37 w_37 => ?_)
      have hres := hres.trans (bd_eq w_37)
      have ho := (bd_eq w_37).mp ho
      obtain ⟨g_40, ho⟩ := ho
      refine va_iald hx hb hK hP 5 0 rfl rfl g_40 qd_M_count_40 ?_
      exact W.iret (v := u_27.2.2.2.1 r_37.toNatClampNeg) hx hb hr (fun t ht hW => ⟨⟨_, (u_27.2.2.2.1 r_37.toNatClampNeg, u_18.2, u_27.1, u_27.2.1, u_27.2.2.1, u_27.2.2.2.1, u_27.2.2.2.2), rfl, ⟨hres.symm, rfl⟩, ⟨by rw [ht]; exact hP, va_K.moved hW.alike hK, x_N hN hW⟩, hD⟩, hS.F ht⟩) hS.2.2 qd_M_count_41
    have hres := hres.trans (if_neg c_21)
    have ho := (if_neg c_21).mp ho
    refine lv_iconst (v := 0) hx hb qd_M_count_24 (by decide) ?_
    exact W.iret (v := 0) hx hb hr (fun t ht hW => ⟨⟨_, (0, u_18.2, vMB, vMF, vMS, vMn, vMl), rfl, ⟨hres.symm, rfl⟩, ⟨by rw [ht]; exact hP, va_K.moved hW.alike hK, x_N hN hW⟩, hD⟩, hS.F ht⟩) hS.2.2 qd_M_count_25
  have hres := hres.trans (if_pos c_8)
  have ho := (if_pos c_8).mp ho
  refine lv_iconst (v := 1) hx hb qd_M_count_11 (by decide) ?_
  refine lv_goto (tgt := 16) hx hb qd_M_count_12 (by decide) ?_
  refine lv_iconst (v := 0) hx hb qd_M_count_16 (by decide) ?_
  refine lv_iconst (v := 0) hx hb qd_M_count_17 (by decide) ?_
  refine xm_Vi (As := [.int 1, .int 0, .int 0]) (rest := []) (w1 := fun (u_18 : Int32 × Int32) => [(aM, .inr (7, [.int u_18.2, .int vMP, .ref aMh, .ref aMi, .ref aMc, .int vMK, .ref aMt, .int vMB, .ref aMn, .ref aMl, .ref aMs, .int vMD, .ref aMd, .int vME, .ref aMe, .int vMO, .ref aMo, .int vMF, .int vMS, .ref aMw, .ref aMu, .int vMX, .int vMW]))]) (w2 := fun (u_18 : Int32 × Int32) => [(aM, .inr (7, [.int u_18.2, .int vMP, .ref aMh, .ref aMi, .ref aMc, .int vMK, .ref aMt, .int vMB, .ref aMn, .ref aMl, .ref aMs, .int vMD, .ref aMd, .int vME, .ref aMe, .int vMO, .ref aMo, .int vMF, .int vMS, .ref aMw, .ref aMu, .int vMX, .int vMW])), (aMh, .inl (cA, 24, .inl (vMh))), (aMi, .inl (cA, 72, .inl (vMi))), (aMc, .inl (cA, 24, .inl (vMc))), (aMt, .inl (cA, 24, .inl (vMt))), (aMn, .inl (cA, 6250, .inl (vMn))), (aMl, .inl (cA, 6250, .inl (vMl)))]) ⟨hx, hb, hml, hown, hg⟩ (c_M_refuse l dC dI cA cZ aM aMh aMi aMc aMt aMn aMl aMs aMd aMe aMo aMw aMu _ vMT vMP vMK vMB vMD vME vMO vMF vMS vMX vMW 1 0 0) (cwV 3 hg (q_gV mw_642 mw_643 mw_771 mw_8 mw_644) rfl rfl rfl qh_M_refuse ⟨Nat.le_of_ble_eq_true rfl, Nat.le_of_ble_eq_true rfl⟩) hN hK hP hD hS hA [0] [1, 2, 3, 4, 5, 6] rfl rfl (by decide) (by decide) (by decide) [6, 0, 1, 2, 3, 4, 5] (fun _ => rfl) (by decide) 0 7 rfl rfl rfl hl.1 rfl (Nat.le_of_ble_eq_true rfl) qd_M_count_18 ⟨Nat.zero_le _, Nat.zero_le _⟩ (fun u_18 H locs w_18 hP hD hS => ?_)
  have hP : va_P (dC, dI) vwCl [(aM, .inr (7, [.int u_18.2, .int vMP, .ref aMh, .ref aMi, .ref aMc, .int vMK, .ref aMt, .int vMB, .ref aMn, .ref aMl, .ref aMs, .int vMD, .ref aMd, .int vME, .ref aMe, .int vMO, .ref aMo, .int vMF, .int vMS, .ref aMw, .ref aMu, .int vMX, .int vMW])), (aMh, .inl (cA, 24, .inl (vMh))), (aMi, .inl (cA, 72, .inl (vMi))), (aMc, .inl (cA, 24, .inl (vMc))), (aMt, .inl (cA, 24, .inl (vMt))), (aMn, .inl (cA, 6250, .inl (vMn))), (aMl, .inl (cA, 6250, .inl (vMl)))] H := hP
  have hD : va_D A [(aM, .inr (7, [.int u_18.2, .int vMP, .ref aMh, .ref aMi, .ref aMc, .int vMK, .ref aMt, .int vMB, .ref aMn, .ref aMl, .ref aMs, .int vMD, .ref aMd, .int vME, .ref aMe, .int vMO, .ref aMo, .int vMF, .int vMS, .ref aMw, .ref aMu, .int vMX, .int vMW])), (aMh, .inl (cA, 24, .inl (vMh))), (aMi, .inl (cA, 72, .inl (vMi))), (aMc, .inl (cA, 24, .inl (vMc))), (aMt, .inl (cA, 24, .inl (vMt))), (aMn, .inl (cA, 6250, .inl (vMn))), (aMl, .inl (cA, 6250, .inl (vMl)))] := hD
  have hres := hres.trans (bd_eq w_18)
  have ho := (bd_eq w_18).mp ho
  refine lv_if_eq (tgt := 26) hx hb qd_M_count_21 (by decide) (fun c_21 => ?_) (fun c_21 => ?_)
  · have hres := hres.trans (if_pos c_21)
    have ho := (if_pos c_21).mp ho
    refine lv_aload_n hx hb qd_M_count_26 rfl (lv_at hl 0 rfl) ?_
    obtain ⟨g_27, ho⟩ := ho
    refine xm_Vv (As := []) (rest := []) (w1 := fun (u_27 : Int32 × Int32 × Int32 × (Nat → Int32) × (Nat → Int32)) => [(aM, .inr (7, [.int u_18.2, .int vMP, .ref aMh, .ref aMi, .ref aMc, .int vMK, .ref aMt, .int u_27.1, .ref aMn, .ref aMl, .ref aMs, .int vMD, .ref aMd, .int vME, .ref aMe, .int vMO, .ref aMo, .int u_27.2.1, .int u_27.2.2.1, .ref aMw, .ref aMu, .int vMX, .int vMW])), (aMh, .inl (cA, 24, .inl (vMh))), (aMi, .inl (cA, 72, .inl (vMi))), (aMc, .inl (cA, 24, .inl (vMc))), (aMt, .inl (cA, 24, .inl (vMt))), (aMn, .inl (cA, 6250, .inl (u_27.2.2.2.1))), (aMl, .inl (cA, 6250, .inl (u_27.2.2.2.2)))]) (w2 := fun (u_27 : Int32 × Int32 × Int32 × (Nat → Int32) × (Nat → Int32)) => [(aM, .inr (7, [.int u_18.2, .int vMP, .ref aMh, .ref aMi, .ref aMc, .int vMK, .ref aMt, .int u_27.1, .ref aMn, .ref aMl, .ref aMs, .int vMD, .ref aMd, .int vME, .ref aMe, .int vMO, .ref aMo, .int u_27.2.1, .int u_27.2.2.1, .ref aMw, .ref aMu, .int vMX, .int vMW])), (aMh, .inl (cA, 24, .inl (vMh))), (aMi, .inl (cA, 72, .inl (vMi))), (aMc, .inl (cA, 24, .inl (vMc))), (aMt, .inl (cA, 24, .inl (vMt))), (aMn, .inl (cA, 6250, .inl (u_27.2.2.2.1))), (aMl, .inl (cA, 6250, .inl (u_27.2.2.2.2)))]) ⟨hx, hb, hml, hown, hg⟩ (c_M_know l dC dI cA cZ N_ aM aMh aMi aMc aMt aMn aMl aMs aMd aMe aMo aMw aMu _ u_18.2 vMP vMK vMB vMD vME vMO vMF vMS vMX vMW vMh vMi vMc vMt vMn vMl g_27) (cwV 0 hg (q_gV mw_660 mw_661 mw_773 mw_8 mw_662) rfl rfl rfl qh_M_know ⟨Nat.le_of_ble_eq_true rfl, Nat.le_of_ble_eq_true rfl⟩) hN hK hP hD hS hA [0, 1, 2, 3, 4, 5, 6] [] rfl rfl (by decide) (by decide) (by decide) [0, 1, 2, 3, 4, 5, 6] (fun _ => rfl) (by decide) 0 7 rfl rfl rfl hl.1 rfl (Nat.le_of_ble_eq_true rfl) qd_M_count_27 ⟨Nat.zero_le _, Nat.zero_le _⟩ (fun u_27 H locs w_27 hP hD hS => ?_)
    have hP : va_P (dC, dI) vwCl [(aM, .inr (7, [.int u_18.2, .int vMP, .ref aMh, .ref aMi, .ref aMc, .int vMK, .ref aMt, .int u_27.1, .ref aMn, .ref aMl, .ref aMs, .int vMD, .ref aMd, .int vME, .ref aMe, .int vMO, .ref aMo, .int u_27.2.1, .int u_27.2.2.1, .ref aMw, .ref aMu, .int vMX, .int vMW])), (aMh, .inl (cA, 24, .inl (vMh))), (aMi, .inl (cA, 72, .inl (vMi))), (aMc, .inl (cA, 24, .inl (vMc))), (aMt, .inl (cA, 24, .inl (vMt))), (aMn, .inl (cA, 6250, .inl (u_27.2.2.2.1))), (aMl, .inl (cA, 6250, .inl (u_27.2.2.2.2)))] H := hP
    have hD : va_D A [(aM, .inr (7, [.int u_18.2, .int vMP, .ref aMh, .ref aMi, .ref aMc, .int vMK, .ref aMt, .int u_27.1, .ref aMn, .ref aMl, .ref aMs, .int vMD, .ref aMd, .int vME, .ref aMe, .int vMO, .ref aMo, .int u_27.2.1, .int u_27.2.2.1, .ref aMw, .ref aMu, .int vMX, .int vMW])), (aMh, .inl (cA, 24, .inl (vMh))), (aMi, .inl (cA, 72, .inl (vMi))), (aMc, .inl (cA, 24, .inl (vMc))), (aMt, .inl (cA, 24, .inl (vMt))), (aMn, .inl (cA, 6250, .inl (u_27.2.2.2.1))), (aMl, .inl (cA, 6250, .inl (u_27.2.2.2.2)))] := hD
    have hres := hres.trans (bd_eq w_27)
    have ho := (bd_eq w_27).mp ho
    refine lv_aload_n hx hb qd_M_count_30 rfl (lv_at hl 0 rfl) ?_
    refine va_get (D := (dC, dI)) (ci := 7) (v := .ref aMn) (C := qR_M) (T := qT_M) (N := 23) hx hb hg qi_M hown hK hP 0 rfl rfl 8 (by decide) (hg _ mw_582) (fun _ h9 => h9) rfl qd_M_count_31 ?_
    refine lv_iload_n hx hb qd_M_count_34 rfl (lv_at hl 1 rfl) ?_
    refine lv_iload_n hx hb qd_M_count_35 rfl (lv_at hl 2 rfl) ?_
    refine lv_iload_n hx hb qd_M_count_36 rfl (lv_at hl 3 rfl) ?_
    refine xc_S (As := [.int p0, .int p1, .int p2]) (rest := [.ref aMn]) ⟨hx, hb, hml, hown, hg⟩ (c_M_at l dC dI cA cZ p0 p1 p2) (va_cwS 3 hg (q_gS mw_663 mw_664 mw_8 mw_665) rfl rfl rfl qh_M_at.2 ⟨Nat.le_of_ble_eq_true rfl, Nat.le_of_ble_eq_true rfl⟩) hN hK hP [] rfl rfl hl.1 rfl (Nat.le_of_ble_eq_true rfl) qd_M_count_37 ⟨Nat.zero_le _, Nat.zero_le _⟩ ?_
    refine lv_topi (fun r_37 w_37 => ?_)
    have hres := hres.trans (bd_eq w_37)
    have ho := (bd_eq w_37).mp ho
    obtain ⟨g_40, ho⟩ := ho
    refine va_iald hx hb hK hP 5 0 rfl rfl g_40 qd_M_count_40 ?_
    exact W.iret (v := u_27.2.2.2.1 r_37.toNatClampNeg) hx hb hr (fun t ht hW => ⟨⟨_, (u_27.2.2.2.1 r_37.toNatClampNeg, u_18.2, u_27.1, u_27.2.1, u_27.2.2.1, u_27.2.2.2.1, u_27.2.2.2.2), rfl, ⟨hres.symm, rfl⟩, ⟨by rw [ht]; exact hP, va_K.moved hW.alike hK, x_N hN hW⟩, hD⟩, hS.F ht⟩) hS.2.2 qd_M_count_41
  have hres := hres.trans (if_neg c_21)
  have ho := (if_neg c_21).mp ho
  refine lv_iconst (v := 0) hx hb qd_M_count_24 (by decide) ?_
  exact W.iret (v := 0) hx hb hr (fun t ht hW => ⟨⟨_, (0, u_18.2, vMB, vMF, vMS, vMn, vMl), rfl, ⟨hres.symm, rfl⟩, ⟨by rw [ht]; exact hP, va_K.moved hW.alike hK, x_N hN hW⟩, hD⟩, hS.F ht⟩) hS.2.2 qd_M_count_25
theorem qd_M_cost_0 : decode qc_M_cost 0 = .ok (.aload_n 0, 1) := by decide +kernel
theorem qd_M_cost_1 : decode qc_M_cost 1 = .ok (.aload_n 0, 1) := by decide +kernel
theorem qd_M_cost_2 : decode qc_M_cost 2 = .ok (.iload_n 1, 1) := by decide +kernel
theorem qd_M_cost_3 : decode qc_M_cost 3 = .ok (.iload_n 2, 1) := by decide +kernel
theorem qd_M_cost_4 : decode qc_M_cost 4 = .ok (.iload_n 3, 1) := by decide +kernel
theorem qd_M_cost_5 : decode qc_M_cost 5 = .ok (.invokevirtual 134, 3) := by decide +kernel
theorem qd_M_cost_8 : decode qc_M_cost 8 = .ok (.ifCond .ne 7, 3) := by decide +kernel
theorem qd_M_cost_11 : decode qc_M_cost 11 = .ok (.iconst 1, 1) := by decide +kernel
theorem qd_M_cost_12 : decode qc_M_cost 12 = .ok (.goto 4, 3) := by decide +kernel
theorem qd_M_cost_15 : decode qc_M_cost 15 = .ok (.iconst 0, 1) := by decide +kernel
theorem qd_M_cost_16 : decode qc_M_cost 16 = .ok (.iconst 0, 1) := by decide +kernel
theorem qd_M_cost_17 : decode qc_M_cost 17 = .ok (.iconst 0, 1) := by decide +kernel
theorem qd_M_cost_18 : decode qc_M_cost 18 = .ok (.invokevirtual 76, 3) := by decide +kernel
theorem qd_M_cost_21 : decode qc_M_cost 21 = .ok (.ifCond .eq 5, 3) := by decide +kernel
theorem qd_M_cost_24 : decode qc_M_cost 24 = .ok (.iconst 0, 1) := by decide +kernel
theorem qd_M_cost_25 : decode qc_M_cost 25 = .ok (.ireturn, 1) := by decide +kernel
theorem qd_M_cost_26 : decode qc_M_cost 26 = .ok (.aload_n 0, 1) := by decide +kernel
theorem qd_M_cost_27 : decode qc_M_cost 27 = .ok (.invokevirtual 137, 3) := by decide +kernel
theorem qd_M_cost_30 : decode qc_M_cost 30 = .ok (.aload_n 0, 1) := by decide +kernel
theorem qd_M_cost_31 : decode qc_M_cost 31 = .ok (.getfield 25, 3) := by decide +kernel
theorem qd_M_cost_34 : decode qc_M_cost 34 = .ok (.iload_n 1, 1) := by decide +kernel
theorem qd_M_cost_35 : decode qc_M_cost 35 = .ok (.iload_n 2, 1) := by decide +kernel
theorem qd_M_cost_36 : decode qc_M_cost 36 = .ok (.iload_n 3, 1) := by decide +kernel
theorem qd_M_cost_37 : decode qc_M_cost 37 = .ok (.invokestatic 80, 3) := by decide +kernel
theorem qd_M_cost_40 : decode qc_M_cost 40 = .ok (.iaload, 1) := by decide +kernel
theorem qd_M_cost_41 : decode qc_M_cost 41 = .ok (.ldc 84, 2) := by decide +kernel
theorem qd_M_cost_43 : decode qc_M_cost 43 = .ok (.if_icmp .ne 7, 3) := by decide +kernel
theorem qd_M_cost_46 : decode qc_M_cost 46 = .ok (.iconst (-1), 1) := by decide +kernel
theorem qd_M_cost_47 : decode qc_M_cost 47 = .ok (.goto 14, 3) := by decide +kernel
theorem qd_M_cost_50 : decode qc_M_cost 50 = .ok (.aload_n 0, 1) := by decide +kernel
theorem qd_M_cost_51 : decode qc_M_cost 51 = .ok (.getfield 25, 3) := by decide +kernel
theorem qd_M_cost_54 : decode qc_M_cost 54 = .ok (.iload_n 1, 1) := by decide +kernel
theorem qd_M_cost_55 : decode qc_M_cost 55 = .ok (.iload_n 2, 1) := by decide +kernel
theorem qd_M_cost_56 : decode qc_M_cost 56 = .ok (.iload_n 3, 1) := by decide +kernel
theorem qd_M_cost_57 : decode qc_M_cost 57 = .ok (.invokestatic 80, 3) := by decide +kernel
theorem qd_M_cost_60 : decode qc_M_cost 60 = .ok (.iaload, 1) := by decide +kernel
theorem qd_M_cost_61 : decode qc_M_cost 61 = .ok (.ireturn, 1) := by decide +kernel
set_option maxHeartbeats 4000000 in
set_option maxRecDepth 100000 in
theorem c_M_cost (l : Launch) (dC : Nat → ClassId) (dI : Nat → Nat → Nat) (cA cZ : ClassId) (N_ : Nat) (aM aMh aMi aMc aMt aMn aMl aMs aMd aMe aMo aMw aMu : Nat) (sz : Nat) (vMT : Int32) (vMP : Int32) (vMK : Int32) (vMB : Int32) (vMD : Int32) (vME : Int32) (vMO : Int32) (vMF : Int32) (vMS : Int32) (vMX : Int32) (vMW : Int32) (vMh : (Nat → Int32)) (vMi : (Nat → Int32)) (vMc : (Nat → Int32)) (vMt : (Nat → Int32)) (vMn : (Nat → Int32)) (vMl : (Nat → Int32)) (p0 : Int32) (p1 : Int32) (p2 : Int32) (ho : o_M_cost N_ vMT vMP vMK vMB vMF vMS vMh vMi vMc vMt vMn vMl p0 p1 p2) : Met l qy_M_cost qw_M_cost ({ frames := 5, cells := 0, slots := 0, locals := 123 }) (va_Pc [.ref aM, .int p0, .int p1, .int p2] (fun U => U.heap.size = sz ∧ xP (dC, dI) [(cA, .int), (cZ, .boolean)] [(aM, .inr (7, [.int vMT, .int vMP, .ref aMh, .ref aMi, .ref aMc, .int vMK, .ref aMt, .int vMB, .ref aMn, .ref aMl, .ref aMs, .int vMD, .ref aMd, .int vME, .ref aMe, .int vMO, .ref aMo, .int vMF, .int vMS, .ref aMw, .ref aMu, .int vMX, .int vMW])), (aMh, .inl (cA, 24, .inl (vMh))), (aMi, .inl (cA, 72, .inl (vMi))), (aMc, .inl (cA, 24, .inl (vMc))), (aMt, .inl (cA, 24, .inl (vMt))), (aMn, .inl (cA, 6250, .inl (vMn))), (aMl, .inl (cA, 6250, .inl (vMl)))] nestN U ∧ va_D (fun _ => True) [(aM, .inr (7, [.int vMT, .int vMP, .ref aMh, .ref aMi, .ref aMc, .int vMK, .ref aMt, .int vMB, .ref aMn, .ref aMl, .ref aMs, .int vMD, .ref aMd, .int vME, .ref aMe, .int vMO, .ref aMo, .int vMF, .int vMS, .ref aMw, .ref aMu, .int vMX, .int vMW])), (aMh, .inl (cA, 24, .inl (vMh))), (aMi, .inl (cA, 72, .inl (vMi))), (aMc, .inl (cA, 24, .inl (vMc))), (aMt, .inl (cA, 24, .inl (vMt))), (aMn, .inl (cA, 6250, .inl (vMn))), (aMl, .inl (cA, 6250, .inl (vMl)))])) (va_Qi (fun r (u : Int32 × Int32 × Int32 × Int32 × Int32 × (Nat → Int32) × (Nat → Int32)) => u = f_M_cost N_ vMT vMP vMK vMB vMF vMS vMh vMi vMc vMt vMn vMl p0 p1 p2 ∧ r = u.1) (fun (u : Int32 × Int32 × Int32 × Int32 × Int32 × (Nat → Int32) × (Nat → Int32)) t => xP (dC, dI) [(cA, .int), (cZ, .boolean)] [(aM, .inr (7, [.int u.2.1, .int vMP, .ref aMh, .ref aMi, .ref aMc, .int vMK, .ref aMt, .int u.2.2.1, .ref aMn, .ref aMl, .ref aMs, .int vMD, .ref aMd, .int vME, .ref aMe, .int vMO, .ref aMo, .int u.2.2.2.1, .int u.2.2.2.2.1, .ref aMw, .ref aMu, .int vMX, .int vMW])), (aMh, .inl (cA, 24, .inl (vMh))), (aMi, .inl (cA, 72, .inl (vMi))), (aMc, .inl (cA, 24, .inl (vMc))), (aMt, .inl (cA, 24, .inl (vMt))), (aMn, .inl (cA, 6250, .inl (u.2.2.2.2.2.1))), (aMl, .inl (cA, 6250, .inl (u.2.2.2.2.2.2)))] nestN t ∧ va_D (va_A [(aM, .inr (7, [.int vMT, .int vMP, .ref aMh, .ref aMi, .ref aMc, .int vMK, .ref aMt, .int vMB, .ref aMn, .ref aMl, .ref aMs, .int vMD, .ref aMd, .int vME, .ref aMe, .int vMO, .ref aMo, .int vMF, .int vMS, .ref aMw, .ref aMu, .int vMX, .int vMW])), (aMh, .inl (cA, 24, .inl (vMh))), (aMi, .inl (cA, 72, .inl (vMi))), (aMc, .inl (cA, 24, .inl (vMc))), (aMt, .inl (cA, 24, .inl (vMt))), (aMn, .inl (cA, 6250, .inl (vMn))), (aMl, .inl (cA, 6250, .inl (vMl)))] sz) [(aM, .inr (7, [.int u.2.1, .int vMP, .ref aMh, .ref aMi, .ref aMc, .int vMK, .ref aMt, .int u.2.2.1, .ref aMn, .ref aMl, .ref aMs, .int vMD, .ref aMd, .int vME, .ref aMe, .int vMO, .ref aMo, .int u.2.2.2.1, .int u.2.2.2.2.1, .ref aMw, .ref aMu, .int vMX, .int vMW])), (aMh, .inl (cA, 24, .inl (vMh))), (aMi, .inl (cA, 72, .inl (vMi))), (aMc, .inl (cA, 24, .inl (vMc))), (aMt, .inl (cA, 24, .inl (vMt))), (aMn, .inl (cA, 6250, .inl (u.2.2.2.2.2.1))), (aMl, .inl (cA, 6250, .inl (u.2.2.2.2.2.2)))]) (va_A [(aM, .inr (7, [.int vMT, .int vMP, .ref aMh, .ref aMi, .ref aMc, .int vMK, .ref aMt, .int vMB, .ref aMn, .ref aMl, .ref aMs, .int vMD, .ref aMd, .int vME, .ref aMe, .int vMO, .ref aMo, .int vMF, .int vMS, .ref aMw, .ref aMu, .int vMX, .int vMW])), (aMh, .inl (cA, 24, .inl (vMh))), (aMi, .inl (cA, 72, .inl (vMi))), (aMc, .inl (cA, 24, .inl (vMc))), (aMt, .inl (cA, 24, .inl (vMt))), (aMn, .inl (cA, 6250, .inl (vMn))), (aMl, .inl (cA, 6250, .inl (vMl)))] sz)) 0 0 (va_A [(aM, .inr (7, [.int vMT, .int vMP, .ref aMh, .ref aMi, .ref aMc, .int vMK, .ref aMt, .int vMB, .ref aMn, .ref aMl, .ref aMs, .int vMD, .ref aMd, .int vME, .ref aMe, .int vMO, .ref aMo, .int vMF, .int vMS, .ref aMw, .ref aMu, .int vMX, .int vMW])), (aMh, .inl (cA, 24, .inl (vMh))), (aMi, .inl (cA, 72, .inl (vMi))), (aMc, .inl (cA, 24, .inl (vMc))), (aMt, .inl (cA, 24, .inl (vMt))), (aMn, .inl (cA, 6250, .inl (vMn))), (aMl, .inl (cA, 6250, .inl (vMl)))] sz) := by
  refine Met.ofW (cc := qc_M_cost) (maxL := 4) (ret := (some .int)) (by decide) rfl ?_
  intro p e s m args below meth c s₁ B hml hv
  obtain ⟨rfl, hsz, ⟨hP, hK, hN⟩, hD0⟩ := hv
  have hx := B.exec
  have hb := B.bytes
  have hr := B.returns
  have hts := atoms_spec (ws := qw_M_cost) B.pre
  have hg : ∀ w ∈ gG, w.before _ s = true := fun w h => hts w (List.mem_cons_of_mem _ h)
  have hown : s.vm.findClass qR_M = some m.cls := findClass_of_methodNamed B.named
  have hlocks := B.notSynchronized
  subst hsz
  have hD := hD0.self (sz := s.heap.size)
  generalize hAe : va_A [(aM, .inr (7, [.int vMT, .int vMP, .ref aMh, .ref aMi, .ref aMc, .int vMK, .ref aMt, .int vMB, .ref aMn, .ref aMl, .ref aMs, .int vMD, .ref aMd, .int vME, .ref aMe, .int vMO, .ref aMo, .int vMF, .int vMS, .ref aMw, .ref aMu, .int vMX, .int vMW])), (aMh, .inl (cA, 24, .inl (vMh))), (aMi, .inl (cA, 72, .inl (vMi))), (aMc, .inl (cA, 24, .inl (vMc))), (aMt, .inl (cA, 24, .inl (vMt))), (aMn, .inl (cA, 6250, .inl (vMn))), (aMl, .inl (cA, 6250, .inl (vMl)))] s.heap.size = A at hD ⊢
  have hA : ∀ q : Nat, s.heap.size ≤ q → A q := fun q h => by rw [← hAe]; exact Or.inr h
  have hS : va_S A s.heap s.heap [] := va_S.rf
  have hP : va_P (dC, dI) vwCl [(aM, .inr (7, [.int vMT, .int vMP, .ref aMh, .ref aMi, .ref aMc, .int vMK, .ref aMt, .int vMB, .ref aMn, .ref aMl, .ref aMs, .int vMD, .ref aMd, .int vME, .ref aMe, .int vMO, .ref aMo, .int vMF, .int vMS, .ref aMw, .ref aMu, .int vMX, .int vMW])), (aMh, .inl (cA, 24, .inl (vMh))), (aMi, .inl (cA, 72, .inl (vMi))), (aMc, .inl (cA, 24, .inl (vMc))), (aMt, .inl (cA, 24, .inl (vMt))), (aMn, .inl (cA, 6250, .inl (vMn))), (aMl, .inl (cA, 6250, .inl (vMl)))] s.heap := hP
  have hl := lv_entry ([.ref aM, .int p0, .int p1, .int p2]) (n := 4) (Nat.le_of_ble_eq_true rfl)
  rw [lg_entry_eq]
  generalize (lg_sl ([.ref aM, .int p0, .int p1, .int p2]) ++ List.replicate (4 - (lg_sl ([.ref aM, .int p0, .int p1, .int p2])).length) Slot.unset).toArray = ls at hl ⊢
  have hl : lv_has ls 4 [(0, .ref aM), (1, .int p0), (2, .int p1), (3, .int p2)] := hl
  generalize hF : f_M_cost N_ vMT vMP vMK vMB vMF vMS vMh vMi vMc vMt vMn vMl p0 p1 p2 = Fv
  have hres : Fv = f_M_cost N_ vMT vMP vMK vMB vMF vMS vMh vMi vMc vMt vMn vMl p0 p1 p2 := hF.symm
  unfold f_M_cost at hres
  unfold o_M_cost at ho
  refine lv_aload_n hx hb qd_M_cost_0 rfl (lv_at hl 0 rfl) ?_
  refine lv_aload_n hx hb qd_M_cost_1 rfl (lv_at hl 0 rfl) ?_
  refine lv_iload_n hx hb qd_M_cost_2 rfl (lv_at hl 1 rfl) ?_
  refine lv_iload_n hx hb qd_M_cost_3 rfl (lv_at hl 2 rfl) ?_
  refine lv_iload_n hx hb qd_M_cost_4 rfl (lv_at hl 3 rfl) ?_
  refine xc_V (As := [.int p0, .int p1, .int p2]) (rest := [.ref aM]) ⟨hx, hb, hml, hown, hg⟩ (c_M_isPart l dC dI cA cZ aM aMh aMi aMc aMt aMn aMl aMs aMd aMe aMo aMw aMu vMT vMP vMK vMB vMD vME vMO vMF vMS vMX vMW p0 p1 p2) (cwV 3 hg (q_gV mw_657 mw_658 mw_772 mw_8 mw_659) rfl rfl rfl qh_M_isPart ⟨Nat.le_of_ble_eq_true rfl, Nat.le_of_ble_eq_true rfl⟩) hN hK hP [0] rfl 0 7 rfl rfl rfl hl.1 rfl (Nat.le_of_ble_eq_true rfl) qd_M_cost_5 ⟨Nat.zero_le _, Nat.zero_le _⟩ ?_
  refine lv_topi (fun r_5 w_5 => ?_)
  have hres := hres.trans (bd_eq w_5)
  have ho := (bd_eq w_5).mp ho
  refine lv_if_ne (tgt := 15) hx hb qd_M_cost_8 (by decide) (fun c_8 => ?_) (fun c_8 => ?_)
  · have hres := hres.trans (if_neg c_8)
    have ho := (if_neg c_8).mp ho
    refine lv_iconst (v := 0) hx hb qd_M_cost_15 (by decide) ?_
    refine lv_iconst (v := 0) hx hb qd_M_cost_16 (by decide) ?_
    refine lv_iconst (v := 0) hx hb qd_M_cost_17 (by decide) ?_
    refine xm_Vi (As := [.int 0, .int 0, .int 0]) (rest := []) (w1 := fun (u_18 : Int32 × Int32) => [(aM, .inr (7, [.int u_18.2, .int vMP, .ref aMh, .ref aMi, .ref aMc, .int vMK, .ref aMt, .int vMB, .ref aMn, .ref aMl, .ref aMs, .int vMD, .ref aMd, .int vME, .ref aMe, .int vMO, .ref aMo, .int vMF, .int vMS, .ref aMw, .ref aMu, .int vMX, .int vMW]))]) (w2 := fun (u_18 : Int32 × Int32) => [(aM, .inr (7, [.int u_18.2, .int vMP, .ref aMh, .ref aMi, .ref aMc, .int vMK, .ref aMt, .int vMB, .ref aMn, .ref aMl, .ref aMs, .int vMD, .ref aMd, .int vME, .ref aMe, .int vMO, .ref aMo, .int vMF, .int vMS, .ref aMw, .ref aMu, .int vMX, .int vMW])), (aMh, .inl (cA, 24, .inl (vMh))), (aMi, .inl (cA, 72, .inl (vMi))), (aMc, .inl (cA, 24, .inl (vMc))), (aMt, .inl (cA, 24, .inl (vMt))), (aMn, .inl (cA, 6250, .inl (vMn))), (aMl, .inl (cA, 6250, .inl (vMl)))]) ⟨hx, hb, hml, hown, hg⟩ (c_M_refuse l dC dI cA cZ aM aMh aMi aMc aMt aMn aMl aMs aMd aMe aMo aMw aMu _ vMT vMP vMK vMB vMD vME vMO vMF vMS vMX vMW 0 0 0) (cwV 3 hg (q_gV mw_642 mw_643 mw_771 mw_8 mw_644) rfl rfl rfl qh_M_refuse ⟨Nat.le_of_ble_eq_true rfl, Nat.le_of_ble_eq_true rfl⟩) hN hK hP hD hS hA [0] [1, 2, 3, 4, 5, 6] rfl rfl (by decide) (by decide) (by decide) [6, 0, 1, 2, 3, 4, 5] (fun _ => rfl) (by decide) 0 7 rfl rfl rfl hl.1 rfl (Nat.le_of_ble_eq_true rfl) qd_M_cost_18 ⟨Nat.zero_le _, Nat.zero_le _⟩ (fun u_18 H locs w_18 hP hD hS => ?_)
    have hP : va_P (dC, dI) vwCl [(aM, .inr (7, [.int u_18.2, .int vMP, .ref aMh, .ref aMi, .ref aMc, .int vMK, .ref aMt, .int vMB, .ref aMn, .ref aMl, .ref aMs, .int vMD, .ref aMd, .int vME, .ref aMe, .int vMO, .ref aMo, .int vMF, .int vMS, .ref aMw, .ref aMu, .int vMX, .int vMW])), (aMh, .inl (cA, 24, .inl (vMh))), (aMi, .inl (cA, 72, .inl (vMi))), (aMc, .inl (cA, 24, .inl (vMc))), (aMt, .inl (cA, 24, .inl (vMt))), (aMn, .inl (cA, 6250, .inl (vMn))), (aMl, .inl (cA, 6250, .inl (vMl)))] H := hP
    have hD : va_D A [(aM, .inr (7, [.int u_18.2, .int vMP, .ref aMh, .ref aMi, .ref aMc, .int vMK, .ref aMt, .int vMB, .ref aMn, .ref aMl, .ref aMs, .int vMD, .ref aMd, .int vME, .ref aMe, .int vMO, .ref aMo, .int vMF, .int vMS, .ref aMw, .ref aMu, .int vMX, .int vMW])), (aMh, .inl (cA, 24, .inl (vMh))), (aMi, .inl (cA, 72, .inl (vMi))), (aMc, .inl (cA, 24, .inl (vMc))), (aMt, .inl (cA, 24, .inl (vMt))), (aMn, .inl (cA, 6250, .inl (vMn))), (aMl, .inl (cA, 6250, .inl (vMl)))] := hD
    have hres := hres.trans (bd_eq w_18)
    have ho := (bd_eq w_18).mp ho
    refine lv_if_eq (tgt := 26) hx hb qd_M_cost_21 (by decide) (fun c_21 => ?_) (fun c_21 => ?_)
    · have hres := hres.trans (if_pos c_21)
      have ho := (if_pos c_21).mp ho
      refine lv_aload_n hx hb qd_M_cost_26 rfl (lv_at hl 0 rfl) ?_
      obtain ⟨g_27, ho⟩ := ho
      refine xm_Vv (As := []) (rest := []) (w1 := fun (u_27 : Int32 × Int32 × Int32 × (Nat → Int32) × (Nat → Int32)) => [(aM, .inr (7, [.int u_18.2, .int vMP, .ref aMh, .ref aMi, .ref aMc, .int vMK, .ref aMt, .int u_27.1, .ref aMn, .ref aMl, .ref aMs, .int vMD, .ref aMd, .int vME, .ref aMe, .int vMO, .ref aMo, .int u_27.2.1, .int u_27.2.2.1, .ref aMw, .ref aMu, .int vMX, .int vMW])), (aMh, .inl (cA, 24, .inl (vMh))), (aMi, .inl (cA, 72, .inl (vMi))), (aMc, .inl (cA, 24, .inl (vMc))), (aMt, .inl (cA, 24, .inl (vMt))), (aMn, .inl (cA, 6250, .inl (u_27.2.2.2.1))), (aMl, .inl (cA, 6250, .inl (u_27.2.2.2.2)))]) (w2 := fun (u_27 : Int32 × Int32 × Int32 × (Nat → Int32) × (Nat → Int32)) => [(aM, .inr (7, [.int u_18.2, .int vMP, .ref aMh, .ref aMi, .ref aMc, .int vMK, .ref aMt, .int u_27.1, .ref aMn, .ref aMl, .ref aMs, .int vMD, .ref aMd, .int vME, .ref aMe, .int vMO, .ref aMo, .int u_27.2.1, .int u_27.2.2.1, .ref aMw, .ref aMu, .int vMX, .int vMW])), (aMh, .inl (cA, 24, .inl (vMh))), (aMi, .inl (cA, 72, .inl (vMi))), (aMc, .inl (cA, 24, .inl (vMc))), (aMt, .inl (cA, 24, .inl (vMt))), (aMn, .inl (cA, 6250, .inl (u_27.2.2.2.1))), (aMl, .inl (cA, 6250, .inl (u_27.2.2.2.2)))]) ⟨hx, hb, hml, hown, hg⟩ (c_M_know l dC dI cA cZ N_ aM aMh aMi aMc aMt aMn aMl aMs aMd aMe aMo aMw aMu _ u_18.2 vMP vMK vMB vMD vME vMO vMF vMS vMX vMW vMh vMi vMc vMt vMn vMl g_27) (cwV 0 hg (q_gV mw_660 mw_661 mw_773 mw_8 mw_662) rfl rfl rfl qh_M_know ⟨Nat.le_of_ble_eq_true rfl, Nat.le_of_ble_eq_true rfl⟩) hN hK hP hD hS hA [0, 1, 2, 3, 4, 5, 6] [] rfl rfl (by decide) (by decide) (by decide) [0, 1, 2, 3, 4, 5, 6] (fun _ => rfl) (by decide) 0 7 rfl rfl rfl hl.1 rfl (Nat.le_of_ble_eq_true rfl) qd_M_cost_27 ⟨Nat.zero_le _, Nat.zero_le _⟩ (fun u_27 H locs w_27 hP hD hS => ?_)
      have hP : va_P (dC, dI) vwCl [(aM, .inr (7, [.int u_18.2, .int vMP, .ref aMh, .ref aMi, .ref aMc, .int vMK, .ref aMt, .int u_27.1, .ref aMn, .ref aMl, .ref aMs, .int vMD, .ref aMd, .int vME, .ref aMe, .int vMO, .ref aMo, .int u_27.2.1, .int u_27.2.2.1, .ref aMw, .ref aMu, .int vMX, .int vMW])), (aMh, .inl (cA, 24, .inl (vMh))), (aMi, .inl (cA, 72, .inl (vMi))), (aMc, .inl (cA, 24, .inl (vMc))), (aMt, .inl (cA, 24, .inl (vMt))), (aMn, .inl (cA, 6250, .inl (u_27.2.2.2.1))), (aMl, .inl (cA, 6250, .inl (u_27.2.2.2.2)))] H := hP
      have hD : va_D A [(aM, .inr (7, [.int u_18.2, .int vMP, .ref aMh, .ref aMi, .ref aMc, .int vMK, .ref aMt, .int u_27.1, .ref aMn, .ref aMl, .ref aMs, .int vMD, .ref aMd, .int vME, .ref aMe, .int vMO, .ref aMo, .int u_27.2.1, .int u_27.2.2.1, .ref aMw, .ref aMu, .int vMX, .int vMW])), (aMh, .inl (cA, 24, .inl (vMh))), (aMi, .inl (cA, 72, .inl (vMi))), (aMc, .inl (cA, 24, .inl (vMc))), (aMt, .inl (cA, 24, .inl (vMt))), (aMn, .inl (cA, 6250, .inl (u_27.2.2.2.1))), (aMl, .inl (cA, 6250, .inl (u_27.2.2.2.2)))] := hD
      have hres := hres.trans (bd_eq w_27)
      have ho := (bd_eq w_27).mp ho
      refine lv_aload_n hx hb qd_M_cost_30 rfl (lv_at hl 0 rfl) ?_
      refine va_get (D := (dC, dI)) (ci := 7) (v := .ref aMl) (C := qR_M) (T := qT_M) (N := 23) hx hb hg qi_M hown hK hP 0 rfl rfl 9 (by decide) (hg _ mw_583) (fun _ h9 => h9) rfl qd_M_cost_31 ?_
      refine lv_iload_n hx hb qd_M_cost_34 rfl (lv_at hl 1 rfl) ?_
      refine lv_iload_n hx hb qd_M_cost_35 rfl (lv_at hl 2 rfl) ?_
      refine lv_iload_n hx hb qd_M_cost_36 rfl (lv_at hl 3 rfl) ?_
      refine xc_S (As := [.int p0, .int p1, .int p2]) (rest := [.ref aMl]) ⟨hx, hb, hml, hown, hg⟩ (c_M_at l dC dI cA cZ p0 p1 p2) (va_cwS 3 hg (q_gS mw_663 mw_664 mw_8 mw_665) rfl rfl rfl qh_M_at.2 ⟨Nat.le_of_ble_eq_true rfl, Nat.le_of_ble_eq_true rfl⟩) hN hK hP [] rfl rfl hl.1 rfl (Nat.le_of_ble_eq_true rfl) qd_M_cost_37 ⟨Nat.zero_le _, Nat.zero_le _⟩ ?_
      refine lv_topi (fun r_37 w_37 => ?_)
      have hres := hres.trans (bd_eq w_37)
      have ho := (bd_eq w_37).mp ho
      obtain ⟨g_40, ho⟩ := ho
      refine va_iald hx hb hK hP 6 0 rfl rfl g_40 qd_M_cost_40 ?_
      refine lv_ldc (v := 2000000000) hx hb hown (hg _ mw_666) qd_M_cost_41 ?_
      refine lv_icmp_ne (tgt := 50) hx hb qd_M_cost_43 (by decide) (fun c_43 => ?_) (fun c_43 => ?_)
      · have hres := hres.trans (if_neg c_43)
        have ho := (if_neg c_43).mp ho
        refine lv_aload_n hx hb qd_M_cost_50 rfl (lv_at hl 0 rfl) ?_
        refine va_get (D := (dC, dI)) (ci := 7) (v := .ref aMl) (C := qR_M) (T := qT_M) (N := 23) hx hb hg qi_M hown hK hP 0 rfl rfl 9 (by decide) (hg _ mw_583) (fun _ h9 => h9) rfl qd_M_cost_51 ?_
        refine lv_iload_n hx hb qd_M_cost_54 rfl (lv_at hl 1 rfl) ?_
        refine lv_iload_n hx hb qd_M_cost_55 rfl (lv_at hl 2 rfl) ?_
        refine lv_iload_n hx hb qd_M_cost_56 rfl (lv_at hl 3 rfl) ?_
        refine xc_S (As := [.int p0, .int p1, .int p2]) (rest := [.ref aMl]) ⟨hx, hb, hml, hown, hg⟩ (c_M_at l dC dI cA cZ p0 p1 p2) (va_cwS 3 hg (q_gS mw_663 mw_664 mw_8 mw_665) rfl rfl rfl qh_M_at.2 ⟨Nat.le_of_ble_eq_true rfl, Nat.le_of_ble_eq_true rfl⟩) hN hK hP [] rfl rfl hl.1 rfl (Nat.le_of_ble_eq_true rfl) qd_M_cost_57 ⟨Nat.zero_le _, Nat.zero_le _⟩ ?_
        refine lv_topi (fun r_57 w_57 => ?_)
        have hres := hres.trans (bd_eq w_57)
        have ho := (bd_eq w_57).mp ho
        obtain ⟨g_60, ho⟩ := ho
        refine va_iald hx hb hK hP 6 0 rfl rfl g_60 qd_M_cost_60 ?_
        exact W.iret (v := u_27.2.2.2.2 r_57.toNatClampNeg) hx hb hr (fun t ht hW => ⟨⟨_, (u_27.2.2.2.2 r_57.toNatClampNeg, u_18.2, u_27.1, u_27.2.1, u_27.2.2.1, u_27.2.2.2.1, u_27.2.2.2.2), rfl, ⟨hres.symm, rfl⟩, ⟨by rw [ht]; exact hP, va_K.moved hW.alike hK, x_N hN hW⟩, hD⟩, hS.F ht⟩) hS.2.2 qd_M_cost_61
      have hres := hres.trans (if_pos c_43)
      have ho := (if_pos c_43).mp ho
      refine lv_iconst (v := (-1)) hx hb qd_M_cost_46 (by decide) ?_
      refine lv_goto (tgt := 61) hx hb qd_M_cost_47 (by decide) ?_
      exact W.iret (v := (-1)) hx hb hr (fun t ht hW => ⟨⟨_, ((-1), u_18.2, u_27.1, u_27.2.1, u_27.2.2.1, u_27.2.2.2.1, u_27.2.2.2.2), rfl, ⟨hres.symm, rfl⟩, ⟨by rw [ht]; exact hP, va_K.moved hW.alike hK, x_N hN hW⟩, hD⟩, hS.F ht⟩) hS.2.2 qd_M_cost_61
    have hres := hres.trans (if_neg c_21)
    have ho := (if_neg c_21).mp ho
    refine lv_iconst (v := 0) hx hb qd_M_cost_24 (by decide) ?_
    exact W.iret (v := 0) hx hb hr (fun t ht hW => ⟨⟨_, (0, u_18.2, vMB, vMF, vMS, vMn, vMl), rfl, ⟨hres.symm, rfl⟩, ⟨by rw [ht]; exact hP, va_K.moved hW.alike hK, x_N hN hW⟩, hD⟩, hS.F ht⟩) hS.2.2 qd_M_cost_25
  have hres := hres.trans (if_pos c_8)
  have ho := (if_pos c_8).mp ho
  refine lv_iconst (v := 1) hx hb qd_M_cost_11 (by decide) ?_
  refine lv_goto (tgt := 16) hx hb qd_M_cost_12 (by decide) ?_
  refine lv_iconst (v := 0) hx hb qd_M_cost_16 (by decide) ?_
  refine lv_iconst (v := 0) hx hb qd_M_cost_17 (by decide) ?_
  refine xm_Vi (As := [.int 1, .int 0, .int 0]) (rest := []) (w1 := fun (u_18 : Int32 × Int32) => [(aM, .inr (7, [.int u_18.2, .int vMP, .ref aMh, .ref aMi, .ref aMc, .int vMK, .ref aMt, .int vMB, .ref aMn, .ref aMl, .ref aMs, .int vMD, .ref aMd, .int vME, .ref aMe, .int vMO, .ref aMo, .int vMF, .int vMS, .ref aMw, .ref aMu, .int vMX, .int vMW]))]) (w2 := fun (u_18 : Int32 × Int32) => [(aM, .inr (7, [.int u_18.2, .int vMP, .ref aMh, .ref aMi, .ref aMc, .int vMK, .ref aMt, .int vMB, .ref aMn, .ref aMl, .ref aMs, .int vMD, .ref aMd, .int vME, .ref aMe, .int vMO, .ref aMo, .int vMF, .int vMS, .ref aMw, .ref aMu, .int vMX, .int vMW])), (aMh, .inl (cA, 24, .inl (vMh))), (aMi, .inl (cA, 72, .inl (vMi))), (aMc, .inl (cA, 24, .inl (vMc))), (aMt, .inl (cA, 24, .inl (vMt))), (aMn, .inl (cA, 6250, .inl (vMn))), (aMl, .inl (cA, 6250, .inl (vMl)))]) ⟨hx, hb, hml, hown, hg⟩ (c_M_refuse l dC dI cA cZ aM aMh aMi aMc aMt aMn aMl aMs aMd aMe aMo aMw aMu _ vMT vMP vMK vMB vMD vME vMO vMF vMS vMX vMW 1 0 0) (cwV 3 hg (q_gV mw_642 mw_643 mw_771 mw_8 mw_644) rfl rfl rfl qh_M_refuse ⟨Nat.le_of_ble_eq_true rfl, Nat.le_of_ble_eq_true rfl⟩) hN hK hP hD hS hA [0] [1, 2, 3, 4, 5, 6] rfl rfl (by decide) (by decide) (by decide) [6, 0, 1, 2, 3, 4, 5] (fun _ => rfl) (by decide) 0 7 rfl rfl rfl hl.1 rfl (Nat.le_of_ble_eq_true rfl) qd_M_cost_18 ⟨Nat.zero_le _, Nat.zero_le _⟩ (fun u_18 H locs w_18 hP hD hS => ?_)
  have hP : va_P (dC, dI) vwCl [(aM, .inr (7, [.int u_18.2, .int vMP, .ref aMh, .ref aMi, .ref aMc, .int vMK, .ref aMt, .int vMB, .ref aMn, .ref aMl, .ref aMs, .int vMD, .ref aMd, .int vME, .ref aMe, .int vMO, .ref aMo, .int vMF, .int vMS, .ref aMw, .ref aMu, .int vMX, .int vMW])), (aMh, .inl (cA, 24, .inl (vMh))), (aMi, .inl (cA, 72, .inl (vMi))), (aMc, .inl (cA, 24, .inl (vMc))), (aMt, .inl (cA, 24, .inl (vMt))), (aMn, .inl (cA, 6250, .inl (vMn))), (aMl, .inl (cA, 6250, .inl (vMl)))] H := hP
  have hD : va_D A [(aM, .inr (7, [.int u_18.2, .int vMP, .ref aMh, .ref aMi, .ref aMc, .int vMK, .ref aMt, .int vMB, .ref aMn, .ref aMl, .ref aMs, .int vMD, .ref aMd, .int vME, .ref aMe, .int vMO, .ref aMo, .int vMF, .int vMS, .ref aMw, .ref aMu, .int vMX, .int vMW])), (aMh, .inl (cA, 24, .inl (vMh))), (aMi, .inl (cA, 72, .inl (vMi))), (aMc, .inl (cA, 24, .inl (vMc))), (aMt, .inl (cA, 24, .inl (vMt))), (aMn, .inl (cA, 6250, .inl (vMn))), (aMl, .inl (cA, 6250, .inl (vMl)))] := hD
  have hres := hres.trans (bd_eq w_18)
  have ho := (bd_eq w_18).mp ho
  refine lv_if_eq (tgt := 26) hx hb qd_M_cost_21 (by decide) (fun c_21 => ?_) (fun c_21 => ?_)
  · have hres := hres.trans (if_pos c_21)
    have ho := (if_pos c_21).mp ho
    refine lv_aload_n hx hb qd_M_cost_26 rfl (lv_at hl 0 rfl) ?_
    obtain ⟨g_27, ho⟩ := ho
    refine xm_Vv (As := []) (rest := []) (w1 := fun (u_27 : Int32 × Int32 × Int32 × (Nat → Int32) × (Nat → Int32)) => [(aM, .inr (7, [.int u_18.2, .int vMP, .ref aMh, .ref aMi, .ref aMc, .int vMK, .ref aMt, .int u_27.1, .ref aMn, .ref aMl, .ref aMs, .int vMD, .ref aMd, .int vME, .ref aMe, .int vMO, .ref aMo, .int u_27.2.1, .int u_27.2.2.1, .ref aMw, .ref aMu, .int vMX, .int vMW])), (aMh, .inl (cA, 24, .inl (vMh))), (aMi, .inl (cA, 72, .inl (vMi))), (aMc, .inl (cA, 24, .inl (vMc))), (aMt, .inl (cA, 24, .inl (vMt))), (aMn, .inl (cA, 6250, .inl (u_27.2.2.2.1))), (aMl, .inl (cA, 6250, .inl (u_27.2.2.2.2)))]) (w2 := fun (u_27 : Int32 × Int32 × Int32 × (Nat → Int32) × (Nat → Int32)) => [(aM, .inr (7, [.int u_18.2, .int vMP, .ref aMh, .ref aMi, .ref aMc, .int vMK, .ref aMt, .int u_27.1, .ref aMn, .ref aMl, .ref aMs, .int vMD, .ref aMd, .int vME, .ref aMe, .int vMO, .ref aMo, .int u_27.2.1, .int u_27.2.2.1, .ref aMw, .ref aMu, .int vMX, .int vMW])), (aMh, .inl (cA, 24, .inl (vMh))), (aMi, .inl (cA, 72, .inl (vMi))), (aMc, .inl (cA, 24, .inl (vMc))), (aMt, .inl (cA, 24, .inl (vMt))), (aMn, .inl (cA, 6250, .inl (u_27.2.2.2.1))), (aMl, .inl (cA, 6250, .inl (u_27.2.2.2.2)))]) ⟨hx, hb, hml, hown, hg⟩ (c_M_know l dC dI cA cZ N_ aM aMh aMi aMc aMt aMn aMl aMs aMd aMe aMo aMw aMu _ u_18.2 vMP vMK vMB vMD vME vMO vMF vMS vMX vMW vMh vMi vMc vMt vMn vMl g_27) (cwV 0 hg (q_gV mw_660 mw_661 mw_773 mw_8 mw_662) rfl rfl rfl qh_M_know ⟨Nat.le_of_ble_eq_true rfl, Nat.le_of_ble_eq_true rfl⟩) hN hK hP hD hS hA [0, 1, 2, 3, 4, 5, 6] [] rfl rfl (by decide) (by decide) (by decide) [0, 1, 2, 3, 4, 5, 6] (fun _ => rfl) (by decide) 0 7 rfl rfl rfl hl.1 rfl (Nat.le_of_ble_eq_true rfl) qd_M_cost_27 ⟨Nat.zero_le _, Nat.zero_le _⟩ (fun u_27 H locs w_27 hP hD hS => ?_)
    have hP : va_P (dC, dI) vwCl [(aM, .inr (7, [.int u_18.2, .int vMP, .ref aMh, .ref aMi, .ref aMc, .int vMK, .ref aMt, .int u_27.1, .ref aMn, .ref aMl, .ref aMs, .int vMD, .ref aMd, .int vME, .ref aMe, .int vMO, .ref aMo, .int u_27.2.1, .int u_27.2.2.1, .ref aMw, .ref aMu, .int vMX, .int vMW])), (aMh, .inl (cA, 24, .inl (vMh))), (aMi, .inl (cA, 72, .inl (vMi))), (aMc, .inl (cA, 24, .inl (vMc))), (aMt, .inl (cA, 24, .inl (vMt))), (aMn, .inl (cA, 6250, .inl (u_27.2.2.2.1))), (aMl, .inl (cA, 6250, .inl (u_27.2.2.2.2)))] H := hP
    have hD : va_D A [(aM, .inr (7, [.int u_18.2, .int vMP, .ref aMh, .ref aMi, .ref aMc, .int vMK, .ref aMt, .int u_27.1, .ref aMn, .ref aMl, .ref aMs, .int vMD, .ref aMd, .int vME, .ref aMe, .int vMO, .ref aMo, .int u_27.2.1, .int u_27.2.2.1, .ref aMw, .ref aMu, .int vMX, .int vMW])), (aMh, .inl (cA, 24, .inl (vMh))), (aMi, .inl (cA, 72, .inl (vMi))), (aMc, .inl (cA, 24, .inl (vMc))), (aMt, .inl (cA, 24, .inl (vMt))), (aMn, .inl (cA, 6250, .inl (u_27.2.2.2.1))), (aMl, .inl (cA, 6250, .inl (u_27.2.2.2.2)))] := hD
    have hres := hres.trans (bd_eq w_27)
    have ho := (bd_eq w_27).mp ho
    refine lv_aload_n hx hb qd_M_cost_30 rfl (lv_at hl 0 rfl) ?_
    refine va_get (D := (dC, dI)) (ci := 7) (v := .ref aMl) (C := qR_M) (T := qT_M) (N := 23) hx hb hg qi_M hown hK hP 0 rfl rfl 9 (by decide) (hg _ mw_583) (fun _ h9 => h9) rfl qd_M_cost_31 ?_
    refine lv_iload_n hx hb qd_M_cost_34 rfl (lv_at hl 1 rfl) ?_
    refine lv_iload_n hx hb qd_M_cost_35 rfl (lv_at hl 2 rfl) ?_
    refine lv_iload_n hx hb qd_M_cost_36 rfl (lv_at hl 3 rfl) ?_
    refine xc_S (As := [.int p0, .int p1, .int p2]) (rest := [.ref aMl]) ⟨hx, hb, hml, hown, hg⟩ (c_M_at l dC dI cA cZ p0 p1 p2) (va_cwS 3 hg (q_gS mw_663 mw_664 mw_8 mw_665) rfl rfl rfl qh_M_at.2 ⟨Nat.le_of_ble_eq_true rfl, Nat.le_of_ble_eq_true rfl⟩) hN hK hP [] rfl rfl hl.1 rfl (Nat.le_of_ble_eq_true rfl) qd_M_cost_37 ⟨Nat.zero_le _, Nat.zero_le _⟩ ?_
    refine lv_topi (fun r_37 w_37 => ?_)
    have hres := hres.trans (bd_eq w_37)
    have ho := (bd_eq w_37).mp ho
    obtain ⟨g_40, ho⟩ := ho
    refine va_iald hx hb hK hP 6 0 rfl rfl g_40 qd_M_cost_40 ?_
    refine lv_ldc (v := 2000000000) hx hb hown (hg _ mw_666) qd_M_cost_41 ?_
    refine lv_icmp_ne (tgt := 50) hx hb qd_M_cost_43 (by decide) (fun c_43 => ?_) (fun c_43 => ?_)
    · have hres := hres.trans (if_neg c_43)
      have ho := (if_neg c_43).mp ho
      refine lv_aload_n hx hb qd_M_cost_50 rfl (lv_at hl 0 rfl) ?_
      refine va_get (D := (dC, dI)) (ci := 7) (v := .ref aMl) (C := qR_M) (T := qT_M) (N := 23) hx hb hg qi_M hown hK hP 0 rfl rfl 9 (by decide) (hg _ mw_583) (fun _ h9 => h9) rfl qd_M_cost_51 ?_
      refine lv_iload_n hx hb qd_M_cost_54 rfl (lv_at hl 1 rfl) ?_
      refine lv_iload_n hx hb qd_M_cost_55 rfl (lv_at hl 2 rfl) ?_
      refine lv_iload_n hx hb qd_M_cost_56 rfl (lv_at hl 3 rfl) ?_
      refine xc_S (As := [.int p0, .int p1, .int p2]) (rest := [.ref aMl]) ⟨hx, hb, hml, hown, hg⟩ (c_M_at l dC dI cA cZ p0 p1 p2) (va_cwS 3 hg (q_gS mw_663 mw_664 mw_8 mw_665) rfl rfl rfl qh_M_at.2 ⟨Nat.le_of_ble_eq_true rfl, Nat.le_of_ble_eq_true rfl⟩) hN hK hP [] rfl rfl hl.1 rfl (Nat.le_of_ble_eq_true rfl) qd_M_cost_57 ⟨Nat.zero_le _, Nat.zero_le _⟩ ?_
      refine lv_topi (fun r_57 w_57 => ?_)
      have hres := hres.trans (bd_eq w_57)
      have ho := (bd_eq w_57).mp ho
      obtain ⟨g_60, ho⟩ := ho
      refine va_iald hx hb hK hP 6 0 rfl rfl g_60 qd_M_cost_60 ?_
      exact W.iret (v := u_27.2.2.2.2 r_57.toNatClampNeg) hx hb hr (fun t ht hW => ⟨⟨_, (u_27.2.2.2.2 r_57.toNatClampNeg, u_18.2, u_27.1, u_27.2.1, u_27.2.2.1, u_27.2.2.2.1, u_27.2.2.2.2), rfl, ⟨hres.symm, rfl⟩, ⟨by rw [ht]; exact hP, va_K.moved hW.alike hK, x_N hN hW⟩, hD⟩, hS.F ht⟩) hS.2.2 qd_M_cost_61
    have hres := hres.trans (if_pos c_43)
    have ho := (if_pos c_43).mp ho
    refine lv_iconst (v := (-1)) hx hb qd_M_cost_46 (by decide) ?_
    refine lv_goto (tgt := 61) hx hb qd_M_cost_47 (by decide) ?_
    exact W.iret (v := (-1)) hx hb hr (fun t ht hW => ⟨⟨_, ((-1), u_18.2, u_27.1, u_27.2.1, u_27.2.2.1, u_27.2.2.2.1, u_27.2.2.2.2), rfl, ⟨hres.symm, rfl⟩, ⟨by rw [ht]; exact hP, va_K.moved hW.alike hK, x_N hN hW⟩, hD⟩, hS.F ht⟩) hS.2.2 qd_M_cost_61
  have hres := hres.trans (if_neg c_21)
  have ho := (if_neg c_21).mp ho
  refine lv_iconst (v := 0) hx hb qd_M_cost_24 (by decide) ?_
  exact W.iret (v := 0) hx hb hr (fun t ht hW => ⟨⟨_, (0, u_18.2, vMB, vMF, vMS, vMn, vMl), rfl, ⟨hres.symm, rfl⟩, ⟨by rw [ht]; exact hP, va_K.moved hW.alike hK, x_N hN hW⟩, hD⟩, hS.F ht⟩) hS.2.2 qd_M_cost_25
