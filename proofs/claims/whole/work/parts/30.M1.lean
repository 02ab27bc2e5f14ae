theorem qd_M_thrown_0 : decode qc_M_thrown 0 = .ok (.aload_n 0, 1) := by decide +kernel
theorem qd_M_thrown_1 : decode qc_M_thrown 1 = .ok (.getfield 47, 3) := by decide +kernel
theorem qd_M_thrown_4 : decode qc_M_thrown 4 = .ok (.ireturn, 1) := by decide +kernel
set_option maxHeartbeats 4000000 in
set_option maxRecDepth 100000 in
theorem c_M_thrown (l : Launch) (dC : Nat → ClassId) (dI : Nat → Nat → Nat) (cA cZ : ClassId) (aM aMh aMi aMc aMt aMn aMl aMs aMd aMe aMo aMw aMu : Nat) (vMT : Int32) (vMP : Int32) (vMK : Int32) (vMB : Int32) (vMD : Int32) (vME : Int32) (vMO : Int32) (vMF : Int32) (vMS : Int32) (vMX : Int32) (vMW : Int32) : Met l qy_M_thrown qw_M_thrown ({ frames := 0, cells := 0, slots := 0, locals := 0 }) (va_Pc [.ref aM] (xP (dC, dI) [(cA, .int), (cZ, .boolean)] [(aM, .inr (7, [.int vMT, .int vMP, .ref aMh, .ref aMi, .ref aMc, .int vMK, .ref aMt, .int vMB, .ref aMn, .ref aMl, .ref aMs, .int vMD, .ref aMd, .int vME, .ref aMe, .int vMO, .ref aMo, .int vMF, .int vMS, .ref aMw, .ref aMu, .int vMX, .int vMW]))] nestN)) (vp_Si (fun r => r = f_M_thrown vMT)) 0 0 (fun _ => False) := by
  refine Met.ofW (cc := qc_M_thrown) (maxL := 1) (ret := (some .int)) (by decide) rfl ?_
  intro p e s m args below meth c s₁ B hml hv
  obtain ⟨rfl, hP, hK, hN⟩ := hv
  have hx := B.exec
  have hb := B.bytes
  have hr := B.returns
  have hts := atoms_spec (ws := qw_M_thrown) B.pre
  have hg : ∀ w ∈ gG, w.before _ s = true := fun w h => hts w (List.mem_cons_of_mem _ h)
  have hown : s.vm.findClass qR_M = some m.cls := findClass_of_methodNamed B.named
  have hlocks := B.notSynchronized
  have hP : va_P (dC, dI) vwCl [(aM, .inr (7, [.int vMT, .int vMP, .ref aMh, .ref aMi, .ref aMc, .int vMK, .ref aMt, .int vMB, .ref aMn, .ref aMl, .ref aMs, .int vMD, .ref aMd, .int vME, .ref aMe, .int vMO, .ref aMo, .int vMF, .int vMS, .ref aMw, .ref aMu, .int vMX, .int vMW]))] s.heap := hP
  have hl := lv_entry ([.ref aM]) (n := 1) (Nat.le_of_ble_eq_true rfl)
  rw [lg_entry_eq]
  generalize (lg_sl ([.ref aM]) ++ List.replicate (1 - (lg_sl ([.ref aM])).length) Slot.unset).toArray = ls at hl ⊢
  have hl : lv_has ls 1 [(0, .ref aM)] := hl
  generalize hF : f_M_thrown vMT = Fv
  have hres : Fv = f_M_thrown vMT := hF.symm
  unfold f_M_thrown at hres
  refine lv_aload_n hx hb qd_M_thrown_0 rfl (lv_at hl 0 rfl) ?_
  refine va_get (D := (dC, dI)) (ci := 7) (v := .int vMT) (C := qR_M) (T := qT_M) (N := 23) hx hb hg qi_M hown hK hP 0 rfl rfl 0 (by decide) (hg _ mw_574) (fun _ h9 => h9) rfl qd_M_thrown_1 ?_
  exact W.iret (v := vMT) hx hb hr (fun t ht hW => ⟨_, rfl, hres.symm, ht⟩) (fun _ h => nomatch h) qd_M_thrown_4
theorem qd_M_refuse_0 : decode qc_M_refuse 0 = .ok (.aload_n 0, 1) := by decide +kernel
theorem qd_M_refuse_1 : decode qc_M_refuse 1 = .ok (.iload_n 1, 1) := by decide +kernel
theorem qd_M_refuse_2 : decode qc_M_refuse 2 = .ok (.ifCond .eq 7, 3) := by decide +kernel
theorem qd_M_refuse_5 : decode qc_M_refuse 5 = .ok (.iconst 1, 1) := by decide +kernel
theorem qd_M_refuse_6 : decode qc_M_refuse 6 = .ok (.goto 20, 3) := by decide +kernel
theorem qd_M_refuse_9 : decode qc_M_refuse 9 = .ok (.iload_n 2, 1) := by decide +kernel
theorem qd_M_refuse_10 : decode qc_M_refuse 10 = .ok (.ifCond .eq 7, 3) := by decide +kernel
theorem qd_M_refuse_13 : decode qc_M_refuse 13 = .ok (.iconst 2, 1) := by decide +kernel
theorem qd_M_refuse_14 : decode qc_M_refuse 14 = .ok (.goto 12, 3) := by decide +kernel
theorem qd_M_refuse_17 : decode qc_M_refuse 17 = .ok (.iload_n 3, 1) := by decide +kernel
theorem qd_M_refuse_18 : decode qc_M_refuse 18 = .ok (.ifCond .eq 7, 3) := by decide +kernel
theorem qd_M_refuse_21 : decode qc_M_refuse 21 = .ok (.iconst 3, 1) := by decide +kernel
theorem qd_M_refuse_22 : decode qc_M_refuse 22 = .ok (.goto 4, 3) := by decide +kernel
theorem qd_M_refuse_25 : decode qc_M_refuse 25 = .ok (.iconst 0, 1) := by decide +kernel
theorem qd_M_refuse_26 : decode qc_M_refuse 26 = .ok (.putfield 47, 3) := by decide +kernel
theorem qd_M_refuse_29 : decode qc_M_refuse 29 = .ok (.aload_n 0, 1) := by decide +kernel
theorem qd_M_refuse_30 : decode qc_M_refuse 30 = .ok (.getfield 47, 3) := by decide +kernel
theorem qd_M_refuse_33 : decode qc_M_refuse 33 = .ok (.ifCond .le 7, 3) := by decide +kernel
theorem qd_M_refuse_36 : decode qc_M_refuse 36 = .ok (.iconst 1, 1) := by decide +kernel
theorem qd_M_refuse_37 : decode qc_M_refuse 37 = .ok (.goto 4, 3) := by decide +kernel
theorem qd_M_refuse_40 : decode qc_M_refuse 40 = .ok (.iconst 0, 1) := by decide +kernel
theorem qd_M_refuse_41 : decode qc_M_refuse 41 = .ok (.ireturn, 1) := by decide +kernel
set_option maxHeartbeats 4000000 in
set_option maxRecDepth 100000 in
theorem c_M_refuse (l : Launch) (dC : Nat → ClassId) (dI : Nat → Nat → Nat) (cA cZ : ClassId) (aM aMh aMi aMc aMt aMn aMl aMs aMd aMe aMo aMw aMu : Nat) (sz : Nat) (vMT : Int32) (vMP : Int32) (vMK : Int32) (vMB : Int32) (vMD : Int32) (vME : Int32) (vMO : Int32) (vMF : Int32) (vMS : Int32) (vMX : Int32) (vMW : Int32) (p0 : Int32) (p1 : Int32) (p2 : Int32) : Met l qy_M_refuse qw_M_refuse ({ frames := 0, cells := 0, slots := 0, locals := 0 }) (va_Pc [.ref aM, .int p0, .int p1, .int p2] (fun U => U.heap.size = sz ∧ xP (dC, dI) [(cA, .int), (cZ, .boolean)] [(aM, .inr (7, [.int vMT, .int vMP, .ref aMh, .ref aMi, .ref aMc, .int vMK, .ref aMt, .int vMB, .ref aMn, .ref aMl, .ref aMs, .int vMD, .ref aMd, .int vME, .ref aMe, .int vMO, .ref aMo, .int vMF, .int vMS, .ref aMw, .ref aMu, .int vMX, .int vMW]))] nestN U ∧ va_D (fun _ => True) [(aM, .inr (7, [.int vMT, .int vMP, .ref aMh, .ref aMi, .ref aMc, .int vMK, .ref aMt, .int vMB, .ref aMn, .ref aMl, .ref aMs, .int vMD, .ref aMd, .int vME, .ref aMe, .int vMO, .ref aMo, .int vMF, .int vMS, .ref aMw, .ref aMu, .int vMX, .int vMW]))])) (va_Qi (fun r (u : Int32 × Int32) => u = f_M_refuse vMT p0 p1 p2 ∧ r = u.1) (fun (u : Int32 × Int32) t => xP (dC, dI) [(cA, .int), (cZ, .boolean)] [(aM, .inr (7, [.int u.2, .int vMP, .ref aMh, .ref aMi, .ref aMc, .int vMK, .ref aMt, .int vMB, .ref aMn, .ref aMl, .ref aMs, .int vMD, .ref aMd, .int vME, .ref aMe, .int vMO, .ref aMo, .int vMF, .int vMS, .ref aMw, .ref aMu, .int vMX, .int vMW]))] nestN t ∧ va_D (va_A [(aM, .inr (7, [.int vMT, .int vMP, .ref aMh, .ref aMi, .ref aMc, .int vMK, .ref aMt, .int vMB, .ref aMn, .ref aMl, .ref aMs, .int vMD, .ref aMd, .int vME, .ref aMe, .int vMO, .ref aMo, .int vMF, .int vMS, .ref aMw, .ref aMu, .int vMX, .int vMW]))] sz) [(aM, .inr (7, [.int u.2, .int vMP, .ref aMh, .ref aMi, .ref aMc, .int vMK, .ref aMt, .int vMB, .ref aMn, .ref aMl, .ref aMs, .int vMD, .ref aMd, .int vME, .ref aMe, .int vMO, .ref aMo, .int vMF, .int vMS, .ref aMw, .ref aMu, .int vMX, .int vMW]))]) (va_A [(aM, .inr (7, [.int vMT, .int vMP, .ref aMh, .ref aMi, .ref aMc, .int vMK, .ref aMt, .int vMB, .ref aMn, .ref aMl, .ref aMs, .int vMD, .ref aMd, .int vME, .ref aMe, .int vMO, .ref aMo, .int vMF, .int vMS, .ref aMw, .ref aMu, .int vMX, .int vMW]))] sz)) 0 0 (va_A [(aM, .inr (7, [.int vMT, .int vMP, .ref aMh, .ref aMi, .ref aMc, .int vMK, .ref aMt, .int vMB, .ref aMn, .ref aMl, .ref aMs, .int vMD, .ref aMd, .int vME, .ref aMe, .int vMO, .ref aMo, .int vMF, .int vMS, .ref aMw, .ref aMu, .int vMX, .int vMW]))] sz) := by
  refine Met.ofW (cc := qc_M_refuse) (maxL := 4) (ret := (some .boolean)) (by decide) rfl ?_
  intro p e s m args below meth c s₁ B hml hv
  obtain ⟨rfl, hsz, ⟨hP, hK, hN⟩, hD0⟩ := hv
  have hx := B.exec
  have hb := B.bytes
  have hr := B.returns
  have hts := atoms_spec (ws := qw_M_refuse) B.pre
  have hg : ∀ w ∈ gG, w.before _ s = true := fun w h => hts w (List.mem_cons_of_mem _ h)
  have hown : s.vm.findClass qR_M = some m.cls := findClass_of_methodNamed B.named
  have hlocks := B.notSynchronized
  subst hsz
  have hD := hD0.self (sz := s.heap.size)
  generalize hAe : va_A [(aM, .inr (7, [.int vMT, .int vMP, .ref aMh, .ref aMi, .ref aMc, .int vMK, .ref aMt, .int vMB, .ref aMn, .ref aMl, .ref aMs, .int vMD, .ref aMd, .int vME, .ref aMe, .int vMO, .ref aMo, .int vMF, .int vMS, .ref aMw, .ref aMu, .int vMX, .int vMW]))] s.heap.size = A at hD ⊢
  have hA : ∀ q : Nat, s.heap.size ≤ q → A q := fun q h => by rw [← hAe]; exact Or.inr h
  have hS : va_S A s.heap s.heap [] := va_S.rf
  have hP : va_P (dC, dI) vwCl [(aM, .inr (7, [.int vMT, .int vMP, .ref aMh, .ref aMi, .ref aMc, .int vMK, .ref aMt, .int vMB, .ref aMn, .ref aMl, .ref aMs, .int vMD, .ref aMd, .int vME, .ref aMe, .int vMO, .ref aMo, .int vMF, .int vMS, .ref aMw, .ref aMu, .int vMX, .int vMW]))] s.heap := hP
  have hl := lv_entry ([.ref aM, .int p0, .int p1, .int p2]) (n := 4) (Nat.le_of_ble_eq_true rfl)
  rw [lg_entry_eq]
  generalize (lg_sl ([.ref aM, .int p0, .int p1, .int p2]) ++ List.replicate (4 - (lg_sl ([.ref aM, .int p0, .int p1, .int p2])).length) Slot.unset).toArray = ls at hl ⊢
  have hl : lv_has ls 4 [(0, .ref aM), (1, .int p0), (2, .int p1), (3, .int p2)] := hl
  generalize hF : f_M_refuse vMT p0 p1 p2 = Fv
  have hres : Fv = f_M_refuse vMT p0 p1 p2 := hF.symm
  unfold f_M_refuse at hres
  refine lv_aload_n hx hb qd_M_refuse_0 rfl (lv_at hl 0 rfl) ?_
  refine lv_iload_n hx hb qd_M_refuse_1 rfl (lv_at hl 1 rfl) ?_
  refine lv_if_eq (tgt := 9) hx hb qd_M_refuse_2 (by decide) (fun c_2 => ?_) (fun c_2 => ?_)
  · have hres := hres.trans (if_pos c_2)
    refine lv_iload_n hx hb qd_M_refuse_9 rfl (lv_at hl 2 rfl) ?_
    refine lv_if_eq (tgt := 17) hx hb qd_M_refuse_10 (by decide) (fun c_10 => ?_) (fun c_10 => ?_)
    · have hres := hres.trans (if_pos c_10)
      refine lv_iload_n hx hb qd_M_refuse_17 rfl (lv_at hl 3 rfl) ?_
      refine lv_if_eq (tgt := 25) hx hb qd_M_refuse_18 (by decide) (fun c_18 => ?_) (fun c_18 => ?_)
      · have hres := hres.trans (if_pos c_18)
        refine lv_iconst (v := 0) hx hb qd_M_refuse_25 (by decide) ?_
        refine va_put (D := (dC, dI)) (ci := 7) (v := .int 0) (ty := .int) (C := qR_M) (T := qT_M) (N := 23) hx hb hg qi_M qt_M qk_M qn_M hown hK hP hD hS 0 rfl rfl 0 (by decide) (hg _ mw_574) (fun _ h9 => h9) rfl (by decide +kernel) rfl rfl (Nat.le_of_ble_eq_true rfl) qd_M_refuse_26 (fun H locs hP hD hS => ?_)
        have hP : va_P (dC, dI) vwCl [(aM, .inr (7, [.int 0, .int vMP, .ref aMh, .ref aMi, .ref aMc, .int vMK, .ref aMt, .int vMB, .ref aMn, .ref aMl, .ref aMs, .int vMD, .ref aMd, .int vME, .ref aMe, .int vMO, .ref aMo, .int vMF, .int vMS, .ref aMw, .ref aMu, .int vMX, .int vMW]))] H := hP
        have hD : va_D A [(aM, .inr (7, [.int 0, .int vMP, .ref aMh, .ref aMi, .ref aMc, .int vMK, .ref aMt, .int vMB, .ref aMn, .ref aMl, .ref aMs, .int vMD, .ref aMd, .int vME, .ref aMe, .int vMO, .ref aMo, .int vMF, .int vMS, .ref aMw, .ref aMu, .int vMX, .int vMW]))] := hD
        refine lv_aload_n hx hb qd_M_refuse_29 rfl (lv_at hl 0 rfl) ?_
        refine va_get (D := (dC, dI)) (ci := 7) (v := .int 0) (C := qR_M) (T := qT_M) (N := 23) hx hb hg qi_M hown hK hP 0 rfl rfl 0 (by decide) (hg _ mw_574) (fun _ h9 => h9) rfl qd_M_refuse_30 ?_
        refine lv_if_le (tgt := 40) hx hb qd_M_refuse_33 (by decide) (fun c_33 => ?_) (fun c_33 => ?_)
        rotate_left
        · exact absurd (by decide) c_33
        refine lv_iconst (v := 0) hx hb qd_M_refuse_40 (by decide) ?_
        exact W.zret (v := 0) (ty := .boolean) hx hb hr (by decide) (fun t ht hW => ⟨⟨_, (0, 0), rfl, ⟨hres.symm, rfl⟩, ⟨by rw [ht]; exact hP, va_K.moved hW.alike hK, x_N hN hW⟩, hD⟩, hS.F ht⟩) hS.2.2 qd_M_refuse_41
      have hres := hres.trans (if_neg c_18)
      refine lv_iconst (v := 3) hx hb qd_M_refuse_21 (by decide) ?_
      refine lv_goto (tgt := 26) hx hb qd_M_refuse_22 (by decide) ?_
      refine va_put (D := (dC, dI)) (ci := 7) (v := .int 3) (ty := .int) (C := qR_M) (T := qT_M) (N := 23) hx hb hg qi_M qt_M qk_M qn_M hown hK hP hD hS 0 rfl rfl 0 (by decide) (hg _ mw_574) (fun _ h9 => h9) rfl (by decide +kernel) rfl rfl (Nat.le_of_ble_eq_true rfl) qd_M_refuse_26 (fun H locs hP hD hS => ?_)
      have hP : va_P (dC, dI) vwCl [(aM, .inr (7, [.int 3, .int vMP, .ref aMh, .ref aMi, .ref aMc, .int vMK, .ref aMt, .int vMB, .ref aMn, .ref aMl, .ref aMs, .int vMD, .ref aMd, .int vME, .ref aMe, .int vMO, .ref aMo, .int vMF, .int vMS, .ref aMw, .ref aMu, .int vMX, .int vMW]))] H := hP
      have hD : va_D A [(aM, .inr (7, [.int 3, .int vMP, .ref aMh, .ref aMi, .ref aMc, .int vMK, .ref aMt, .int vMB, .ref aMn, .ref aMl, .ref aMs, .int vMD, .ref aMd, .int vME, .ref aMe, .int vMO, .ref aMo, .int vMF, .int vMS, .ref aMw, .ref aMu, .int vMX, .int vMW]))] := hD
      refine lv_aload_n hx hb qd_M_refuse_29 rfl (lv_at hl 0 rfl) ?_
      refine va_get (D := (dC, dI)) (ci := 7) (v := .int 3) (C := qR_M) (T := qT_M) (N := 23) hx hb hg qi_M hown hK hP 0 rfl rfl 0 (by decide) (hg _ mw_574) (fun _ h9 => h9) rfl qd_M_refuse_30 ?_
      refine lv_if_le (tgt := 40) hx hb qd_M_refuse_33 (by decide) (fun c_33 => ?_) (fun c_33 => ?_)
      · exact absurd c_33 (by decide)
      refine lv_iconst (v := 1) hx hb qd_M_refuse_36 (by decide) ?_
      refine lv_goto (tgt := 41) hx hb qd_M_refuse_37 (by decide) ?_
      exact W.zret (v := 1) (ty := .boolean) hx hb hr (by decide) (fun t ht hW => ⟨⟨_, (1, 3), rfl, ⟨hres.symm, rfl⟩, ⟨by rw [ht]; exact hP, va_K.moved hW.alike hK, x_N hN hW⟩, hD⟩, hS.F ht⟩) hS.2.2 qd_M_refuse_41
    have hres := hres.trans (if_neg c_10)
    refine lv_iconst (v := 2) hx hb qd_M_refuse_13 (by decide) ?_
    refine lv_goto (tgt := 26) hx hb qd_M_refuse_14 (by decide) ?_
    refine va_put (D := (dC, dI)) (ci := 7) (v := .int 2) (ty := .int) (C := qR_M) (T := qT_M) (N := 23) hx hb hg qi_M qt_M qk_M qn_M hown hK hP hD hS 0 rfl rfl 0 (by decide) (hg _ mw_574) (fun _ h9 => h9) rfl (by decide +kernel) rfl rfl (Nat.le_of_ble_eq_true rfl) qd_M_refuse_26 (fun H locs hP hD hS => ?_)
    have hP : va_P (dC, dI) vwCl [(aM, .inr (7, [.int 2, .int vMP, .ref aMh, .ref aMi, .ref aMc, .int vMK, .ref aMt, .int vMB, .ref aMn, .ref aMl, .ref aMs, .int vMD, .ref aMd, .int vME, .ref aMe, .int vMO, .ref aMo, .int vMF, .int vMS, .ref aMw, .ref aMu, .int vMX, .int vMW]))] H := hP
    have hD : va_D A [(aM, .inr (7, [.int 2, .int vMP, .ref aMh, .ref aMi, .ref aMc, .int vMK, .ref aMt, .int vMB, .ref aMn, .ref aMl, .ref aMs, .int vMD, .ref aMd, .int vME, .ref aMe, .int vMO, .ref aMo, .int vMF, .int vMS, .ref aMw, .ref aMu, .int vMX, .int vMW]))] := hD
    refine lv_aload_n hx hb qd_M_refuse_29 rfl (lv_at hl 0 rfl) ?_
    refine va_get (D := (dC, dI)) (ci := 7) (v := .int 2) (C := qR_M) (T := qT_M) (N := 23) hx hb hg qi_M hown hK hP 0 rfl rfl 0 (by decide) (hg _ mw_574) (fun _ h9 => h9) rfl qd_M_refuse_30 ?_
    refine lv_if_le (tgt := 40) hx hb qd_M_refuse_33 (by decide) (fun c_33 => ?_) (fun c_33 => ?_)
    · exact absurd c_33 (by decide)
    refine lv_iconst (v := 1) hx hb qd_M_refuse_36 (by decide) ?_
    refine lv_goto (tgt := 41) hx hb qd_M_refuse_37 (by decide) ?_
    exact W.zret (v := 1) (ty := .boolean) hx hb hr (by decide) (fun t ht hW => ⟨⟨_, (1, 2), rfl, ⟨hres.symm, rfl⟩, ⟨by rw [ht]; exact hP, va_K.moved hW.alike hK, x_N hN hW⟩, hD⟩, hS.F ht⟩) hS.2.2 qd_M_refuse_41
  have hres := hres.trans (if_neg c_2)
  refine lv_iconst (v := 1) hx hb qd_M_refuse_5 (by decide) ?_
  refine lv_goto (tgt := 26) hx hb qd_M_refuse_6 (by decide) ?_
  refine va_put (D := (dC, dI)) (ci := 7) (v := .int 1) (ty := .int) (C := qR_M) (T := qT_M) (N := 23) hx hb hg qi_M qt_M qk_M qn_M hown hK hP hD hS 0 rfl rfl 0 (by decide) (hg _ mw_574) (fun _ h9 => h9) rfl (by decide +kernel) rfl rfl (Nat.le_of_ble_eq_true rfl) qd_M_refuse_26 (fun H locs hP hD hS => ?_)
  have hP : va_P (dC, dI) vwCl [(aM, .inr (7, [.int 1, .int vMP, .ref aMh, .ref aMi, .ref aMc, .int vMK, .ref aMt, .int vMB, .ref aMn, .ref aMl, .ref aMs, .int vMD, .ref aMd, .int vME, .ref aMe, .int vMO, .ref aMo, .int vMF, .int vMS, .ref aMw, .ref aMu, .int vMX, .int vMW]))] H := hP
  have hD : va_D A [(aM, .inr (7, [.int 1, .int vMP, .ref aMh, .ref aMi, .ref aMc, .int vMK, .ref aMt, .int vMB, .ref aMn, .ref aMl, .ref aMs, .int vMD, .ref aMd, .int vME, .ref aMe, .int vMO, .ref aMo, .int vMF, .int vMS, .ref aMw, .ref aMu, .int vMX, .int vMW]))] := hD
  refine lv_aload_n hx hb qd_M_refuse_29 rfl (lv_at hl 0 rfl) ?_
  refine va_get (D := (dC, dI)) (ci := 7) (v := .int 1) (C := qR_M) (T := qT_M) (N := 23) hx hb hg qi_M hown hK hP 0 rfl rfl 0 (by decide) (hg _ mw_574) (fun _ h9 => h9) rfl qd_M_refuse_30 ?_
  refine lv_if_le (tgt := 40) hx hb qd_M_refuse_33 (by decide) (fun c_33 => ?_) (fun c_33 => ?_)
  · exact absurd c_33 (by decide)
  refine lv_iconst (v := 1) hx hb qd_M_refuse_36 (by decide) ?_
  refine lv_goto (tgt := 41) hx hb qd_M_refuse_37 (by decide) ?_
  exact W.zret (v := 1) (ty := .boolean) hx hb hr (by decide) (fun t ht hW => ⟨⟨_, (1, 1), rfl, ⟨hres.symm, rfl⟩, ⟨by rw [ht]; exact hP, va_K.moved hW.alike hK, x_N hN hW⟩, hD⟩, hS.F ht⟩) hS.2.2 qd_M_refuse_41
theorem qd_M_in_0 : decode qc_M_in 0 = .ok (.iload_n 0, 1) := by decide +kernel
theorem qd_M_in_1 : decode qc_M_in 1 = .ok (.iload_n 1, 1) := by decide +kernel
theorem qd_M_in_2 : decode qc_M_in 2 = .ok (.if_icmp .lt 12, 3) := by decide +kernel
theorem qd_M_in_5 : decode qc_M_in 5 = .ok (.iload_n 0, 1) := by decide +kernel
theorem qd_M_in_6 : decode qc_M_in 6 = .ok (.iload_n 2, 1) := by decide +kernel
theorem qd_M_in_7 : decode qc_M_in 7 = .ok (.if_icmp .gt 7, 3) := by decide +kernel
theorem qd_M_in_10 : decode qc_M_in 10 = .ok (.iconst 1, 1) := by decide +kernel
theorem qd_M_in_11 : decode qc_M_in 11 = .ok (.goto 4, 3) := by decide +kernel
theorem qd_M_in_14 : decode qc_M_in 14 = .ok (.iconst 0, 1) := by decide +kernel
theorem qd_M_in_15 : decode qc_M_in 15 = .ok (.ireturn, 1) := by decide +kernel
set_option maxHeartbeats 4000000 in
set_option maxRecDepth 100000 in
theorem c_M_in (l : Launch) (dC : Nat → ClassId) (dI : Nat → Nat → Nat) (cA cZ : ClassId) (p0 : Int32) (p1 : Int32) (p2 : Int32) : Met l qy_M_in qw_M_in ({ frames := 0, cells := 0, slots := 0, locals := 0 }) (va_Pc [.int p0, .int p1, .int p2] (xP (dC, dI) [(cA, .int), (cZ, .boolean)] [] nestN)) (vp_Si (fun r => r = f_M_in p0 p1 p2)) 0 0 (fun _ => False) := by
  refine Met.ofW (cc := qc_M_in) (maxL := 3) (ret := (some .boolean)) (by decide) rfl ?_
  intro p e s m args below meth c s₁ B hml hv
  obtain ⟨rfl, hP, hK, hN⟩ := hv
  have hx := B.exec
  have hb := B.bytes
  have hr := B.returns
  have hts := atoms_spec (ws := qw_M_in) B.pre
  have hg : ∀ w ∈ gG, w.before _ s = true := fun w h => hts w (List.mem_cons_of_mem _ h)
  have hown : s.vm.findClass qR_M = some m.cls := findClass_of_methodNamed B.named
  have hlocks := B.notSynchronized
  have hP : va_P (dC, dI) vwCl [] s.heap := hP
  have hl := lv_entry ([.int p0, .int p1, .int p2]) (n := 3) (Nat.le_of_ble_eq_true rfl)
  rw [lg_entry_eq]
  generalize (lg_sl ([.int p0, .int p1, .int p2]) ++ List.replicate (3 - (lg_sl ([.int p0, .int p1, .int p2])).length) Slot.unset).toArray = ls at hl ⊢
  have hl : lv_has ls 3 [(0, .int p0), (1, .int p1), (2, .int p2)] := hl
  generalize hF : f_M_in p0 p1 p2 = Fv
  have hres : Fv = f_M_in p0 p1 p2 := hF.symm
  unfold f_M_in at hres
  refine lv_iload_n hx hb qd_M_in_0 rfl (lv_at hl 0 rfl) ?_
  refine lv_iload_n hx hb qd_M_in_1 rfl (lv_at hl 1 rfl) ?_
  refine lv_icmp_lt (tgt := 14) hx hb qd_M_in_2 (by decide) (fun c_2 => ?_) (fun c_2 => ?_)
  · have hres := hres.trans (if_pos c_2)
    refine lv_iconst (v := 0) hx hb qd_M_in_14 (by decide) ?_
    exact W.zret (v := 0) (ty := .boolean) hx hb hr (by decide) (fun t ht hW => ⟨_, rfl, hres.symm, ht⟩) (fun _ h => nomatch h) qd_M_in_15
  have hres := hres.trans (if_neg c_2)
  refine lv_iload_n hx hb qd_M_in_5 rfl (lv_at hl 0 rfl) ?_
  refine lv_iload_n hx hb qd_M_in_6 rfl (lv_at hl 2 rfl) ?_
  refine lv_icmp_gt (tgt := 14) hx hb qd_M_in_7 (by decide) (fun c_7 => ?_) (fun c_7 => ?_)
  · have hres := hres.trans (if_pos c_7)
    refine lv_iconst (v := 0) hx hb qd_M_in_14 (by decide) ?_
    exact W.zret (v := 0) (ty := .boolean) hx hb hr (by decide) (fun t ht hW => ⟨_, rfl, hres.symm, ht⟩) (fun _ h => nomatch h) qd_M_in_15
  have hres := hres.trans (if_neg c_7)
  refine lv_iconst (v := 1) hx hb qd_M_in_10 (by decide) ?_
  refine lv_goto (tgt := 15) hx hb qd_M_in_11 (by decide) ?_
  exact W.zret (v := 1) (ty := .boolean) hx hb hr (by decide) (fun t ht hW => ⟨_, rfl, hres.symm, ht⟩) (fun _ h => nomatch h) qd_M_in_15
theorem qd_M_clear_0 : decode qc_M_clear 0 = .ok (.aload_n 0, 1) := by decide +kernel
theorem qd_M_clear_1 : decode qc_M_clear 1 = .ok (.iconst 0, 1) := by decide +kernel
theorem qd_M_clear_2 : decode qc_M_clear 2 = .ok (.putfield 47, 3) := by decide +kernel
theorem qd_M_clear_5 : decode qc_M_clear 5 = .ok (.aload_n 0, 1) := by decide +kernel
theorem qd_M_clear_6 : decode qc_M_clear 6 = .ok (.iconst 0, 1) := by decide +kernel
theorem qd_M_clear_7 : decode qc_M_clear 7 = .ok (.putfield 51, 3) := by decide +kernel
theorem qd_M_clear_10 : decode qc_M_clear 10 = .ok (.aload_n 0, 1) := by decide +kernel
theorem qd_M_clear_11 : decode qc_M_clear 11 = .ok (.iconst 0, 1) := by decide +kernel
theorem qd_M_clear_12 : decode qc_M_clear 12 = .ok (.putfield 54, 3) := by decide +kernel
theorem qd_M_clear_15 : decode qc_M_clear 15 = .ok (.aload_n 0, 1) := by decide +kernel
theorem qd_M_clear_16 : decode qc_M_clear 16 = .ok (.iconst 0, 1) := by decide +kernel
theorem qd_M_clear_17 : decode qc_M_clear 17 = .ok (.putfield 57, 3) := by decide +kernel
theorem qd_M_clear_20 : decode qc_M_clear 20 = .ok (.aload_n 0, 1) := by decide +kernel
theorem qd_M_clear_21 : decode qc_M_clear 21 = .ok (.iconst 0, 1) := by decide +kernel
theorem qd_M_clear_22 : decode qc_M_clear 22 = .ok (.putfield 60, 3) := by decide +kernel
theorem qd_M_clear_25 : decode qc_M_clear 25 = .ok (.return_, 1) := by decide +kernel
set_option maxHeartbeats 4000000 in
set_option maxRecDepth 100000 in
theorem c_M_clear (l : Launch) (dC : Nat → ClassId) (dI : Nat → Nat → Nat) (cA cZ : ClassId) (aM aMh aMi aMc aMt aMn aMl aMs aMd aMe aMo aMw aMu : Nat) (sz : Nat) (vMT : Int32) (vMP : Int32) (vMK : Int32) (vMB : Int32) (vMD : Int32) (vME : Int32) (vMO : Int32) (vMF : Int32) (vMS : Int32) (vMX : Int32) (vMW : Int32) : Met l qy_M_clear qw_M_clear ({ frames := 0, cells := 0, slots := 0, locals := 0 }) (va_Pc [.ref aM] (fun U => U.heap.size = sz ∧ xP (dC, dI) [(cA, .int), (cZ, .boolean)] [(aM, .inr (7, [.int vMT, .int vMP, .ref aMh, .ref aMi, .ref aMc, .int vMK, .ref aMt, .int vMB, .ref aMn, .ref aMl, .ref aMs, .int vMD, .ref aMd, .int vME, .ref aMe, .int vMO, .ref aMo, .int vMF, .int vMS, .ref aMw, .ref aMu, .int vMX, .int vMW]))] nestN U ∧ va_D (fun _ => True) [(aM, .inr (7, [.int vMT, .int vMP, .ref aMh, .ref aMi, .ref aMc, .int vMK, .ref aMt, .int vMB, .ref aMn, .ref aMl, .ref aMs, .int vMD, .ref aMd, .int vME, .ref aMe, .int vMO, .ref aMo, .int vMF, .int vMS, .ref aMw, .ref aMu, .int vMX, .int vMW]))])) (va_Qv (fun u => u = f_M_clear vMT vMP vMK vMB vMD) (fun (u : Int32 × Int32 × Int32 × Int32 × Int32) t => xP (dC, dI) [(cA, .int), (cZ, .boolean)] [(aM, .inr (7, [.int u.1, .int u.2.1, .ref aMh, .ref aMi, .ref aMc, .int u.2.2.1, .ref aMt, .int u.2.2.2.1, .ref aMn, .ref aMl, .ref aMs, .int u.2.2.2.2, .ref aMd, .int vME, .ref aMe, .int vMO, .ref aMo, .int vMF, .int vMS, .ref aMw, .ref aMu, .int vMX, .int vMW]))] nestN t ∧ va_D (va_A [(aM, .inr (7, [.int vMT, .int vMP, .ref aMh, .ref aMi, .ref aMc, .int vMK, .ref aMt, .int vMB, .ref aMn, .ref aMl, .ref aMs, .int vMD, .ref aMd, .int vME, .ref aMe, .int vMO, .ref aMo, .int vMF, .int vMS, .ref aMw, .ref aMu, .int vMX, .int vMW]))] sz) [(aM, .inr (7, [.int u.1, .int u.2.1, .ref aMh, .ref aMi, .ref aMc, .int u.2.2.1, .ref aMt, .int u.2.2.2.1, .ref aMn, .ref aMl, .ref aMs, .int u.2.2.2.2, .ref aMd, .int vME, .ref aMe, .int vMO, .ref aMo, .int vMF, .int vMS, .ref aMw, .ref aMu, .int vMX, .int vMW]))]) (va_A [(aM, .inr (7, [.int vMT, .int vMP, .ref aMh, .ref aMi, .ref aMc, .int vMK, .ref aMt, .int vMB, .ref aMn, .ref aMl, .ref aMs, .int vMD, .ref aMd, .int vME, .ref aMe, .int vMO, .ref aMo, .int vMF, .int vMS, .ref aMw, .ref aMu, .int vMX, .int vMW]))] sz)) 0 0 (va_A [(aM, .inr (7, [.int vMT, .int vMP, .ref aMh, .ref aMi, .ref aMc, .int vMK, .ref aMt, .int vMB, .ref aMn, .ref aMl, .ref aMs, .int vMD, .ref aMd, .int vME, .ref aMe, .int vMO, .ref aMo, .int vMF, .int vMS, .ref aMw, .ref aMu, .int vMX, .int vMW]))] sz) := by
  refine Met.ofW (cc := qc_M_clear) (maxL := 1) (ret := (none)) (by decide) rfl ?_
  intro p e s m args below meth c s₁ B hml hv
  obtain ⟨rfl, hsz, ⟨hP, hK, hN⟩, hD0⟩ := hv
  have hx := B.exec
  have hb := B.bytes
  have hr := B.returns
  have hts := atoms_spec (ws := qw_M_clear) B.pre
  have hg : ∀ w ∈ gG, w.before _ s = true := fun w h => hts w (List.mem_cons_of_mem _ h)
  have hown : s.vm.findClass qR_M = some m.cls := findClass_of_methodNamed B.named
  have hlocks := B.notSynchronized
  subst hsz
  have hD := hD0.self (sz := s.heap.size)
  generalize hAe : va_A [(aM, .inr (7, [.int vMT, .int vMP, .ref aMh, .ref aMi, .ref aMc, .int vMK, .ref aMt, .int vMB, .ref aMn, .ref aMl, .ref aMs, .int vMD, .ref aMd, .int vME, .ref aMe, .int vMO, .ref aMo, .int vMF, .int vMS, .ref aMw, .ref aMu, .int vMX, .int vMW]))] s.heap.size = A at hD ⊢
  have hA : ∀ q : Nat, s.heap.size ≤ q → A q := fun q h => by rw [← hAe]; exact Or.inr h
  have hS : va_S A s.heap s.heap [] := va_S.rf
  have hP : va_P (dC, dI) vwCl [(aM, .inr (7, [.int vMT, .int vMP, .ref aMh, .ref aMi, .ref aMc, .int vMK, .ref aMt, .int vMB, .ref aMn, .ref aMl, .ref aMs, .int vMD, .ref aMd, .int vME, .ref aMe, .int vMO, .ref aMo, .int vMF, .int vMS, .ref aMw, .ref aMu, .int vMX, .int vMW]))] s.heap := hP
  have hl := lv_entry ([.ref aM]) (n := 1) (Nat.le_of_ble_eq_true rfl)
  rw [lg_entry_eq]
  generalize (lg_sl ([.ref aM]) ++ List.replicate (1 - (lg_sl ([.ref aM])).length) Slot.unset).toArray = ls at hl ⊢
  have hl : lv_has ls 1 [(0, .ref aM)] := hl
  generalize hF : f_M_clear vMT vMP vMK vMB vMD = Fv
  have hres : Fv = f_M_clear vMT vMP vMK vMB vMD := hF.symm
  unfold f_M_clear at hres
  refine lv_aload_n hx hb qd_M_clear_0 rfl (lv_at hl 0 rfl) ?_
  refine lv_iconst (v := 0) hx hb qd_M_clear_1 (by decide) ?_
  refine va_put (D := (dC, dI)) (ci := 7) (v := .int 0) (ty := .int) (C := qR_M) (T := qT_M) (N := 23) hx hb hg qi_M qt_M qk_M qn_M hown hK hP hD hS 0 rfl rfl 0 (by decide) (hg _ mw_574) (fun _ h9 => h9) rfl (by decide +kernel) rfl rfl (Nat.le_of_ble_eq_true rfl) qd_M_clear_2 (fun H locs hP hD hS => ?_)
  have hP : va_P (dC, dI) vwCl [(aM, .inr (7, [.int 0, .int vMP, .ref aMh, .ref aMi, .ref aMc, .int vMK, .ref aMt, .int vMB, .ref aMn, .ref aMl, .ref aMs, .int vMD, .ref aMd, .int vME, .ref aMe, .int vMO, .ref aMo, .int vMF, .int vMS, .ref aMw, .ref aMu, .int vMX, .int vMW]))] H := hP
  have hD : va_D A [(aM, .inr (7, [.int 0, .int vMP, .ref aMh, .ref aMi, .ref aMc, .int vMK, .ref aMt, .int vMB, .ref aMn, .ref aMl, .ref aMs, .int vMD, .ref aMd, .int vME, .ref aMe, .int vMO, .ref aMo, .int vMF, .int vMS, .ref aMw, .ref aMu, .int vMX, .int vMW]))] := hD
  refine lv_aload_n hx hb qd_M_clear_5 rfl (lv_at hl 0 rfl) ?_
  refine lv_iconst (v := 0) hx hb qd_M_clear_6 (by decide) ?_
  refine va_put (D := (dC, dI)) (ci := 7) (v := .int 0) (ty := .int) (C := qR_M) (T := qT_M) (N := 23) hx hb hg qi_M qt_M qk_M qn_M hown hK hP hD hS 0 rfl rfl 1 (by decide) (hg _ mw_575) (fun _ h9 => h9) rfl (by decide +kernel) rfl rfl (Nat.le_of_ble_eq_true rfl) qd_M_clear_7 (fun H locs hP hD hS => ?_)
  have hP : va_P (dC, dI) vwCl [(aM, .inr (7, [.int 0, .int 0, .ref aMh, .ref aMi, .ref aMc, .int vMK, .ref aMt, .int vMB, .ref aMn, .ref aMl, .ref aMs, .int vMD, .ref aMd, .int vME, .ref aMe, .int vMO, .ref aMo, .int vMF, .int vMS, .ref aMw, .ref aMu, .int vMX, .int vMW]))] H := hP
  have hD : va_D A [(aM, .inr (7, [.int 0, .int 0, .ref aMh, .ref aMi, .ref aMc, .int vMK, .ref aMt, .int vMB, .ref aMn, .ref aMl, .ref aMs, .int vMD, .ref aMd, .int vME, .ref aMe, .int vMO, .ref aMo, .int vMF, .int vMS, .ref aMw, .ref aMu, .int vMX, .int vMW]))] := hD
  refine lv_aload_n hx hb qd_M_clear_10 rfl (lv_at hl 0 rfl) ?_
  refine lv_iconst (v := 0) hx hb qd_M_clear_11 (by decide) ?_
  refine va_put (D := (dC, dI)) (ci := 7) (v := .int 0) (ty := .int) (C := qR_M) (T := qT_M) (N := 23) hx hb hg qi_M qt_M qk_M qn_M hown hK hP hD hS 0 rfl rfl 5 (by decide) (hg _ mw_579) (fun _ h9 => h9) rfl (by decide +kernel) rfl rfl (Nat.le_of_ble_eq_true rfl) qd_M_clear_12 (fun H locs hP hD hS => ?_)
  have hP : va_P (dC, dI) vwCl [(aM, .inr (7, [.int 0, .int 0, .ref aMh, .ref aMi, .ref aMc, .int 0, .ref aMt, .int vMB, .ref aMn, .ref aMl, .ref aMs, .int vMD, .ref aMd, .int vME, .ref aMe, .int vMO, .ref aMo, .int vMF, .int vMS, .ref aMw, .ref aMu, .int vMX, .int vMW]))] H := hP
  have hD : va_D A [(aM, .inr (7, [.int 0, .int 0, .ref aMh, .ref aMi, .ref aMc, .int 0, .ref aMt, .int vMB, .ref aMn, .ref aMl, .ref aMs, .int vMD, .ref aMd, .int vME, .ref aMe, .int vMO, .ref aMo, .int vMF, .int vMS, .ref aMw, .ref aMu, .int vMX, .int vMW]))] := hD
  refine lv_aload_n hx hb qd_M_clear_15 rfl (lv_at hl 0 rfl) ?_
  refine lv_iconst (v := 0) hx hb qd_M_clear_16 (by decide) ?_
  refine va_put (D := (dC, dI)) (ci := 7) (v := .int 0) (ty := .int) (C := qR_M) (T := qT_M) (N := 23) hx hb hg qi_M qt_M qk_M qn_M hown hK hP hD hS 0 rfl rfl 11 (by decide) (hg _ mw_585) (fun _ h9 => h9) rfl (by decide +kernel) rfl rfl (Nat.le_of_ble_eq_true rfl) qd_M_clear_17 (fun H locs hP hD hS => ?_)
  have hP : va_P (dC, dI) vwCl [(aM, .inr (7, [.int 0, .int 0, .ref aMh, .ref aMi, .ref aMc, .int 0, .ref aMt, .int vMB, .ref aMn, .ref aMl, .ref aMs, .int 0, .ref aMd, .int vME, .ref aMe, .int vMO, .ref aMo, .int vMF, .int vMS, .ref aMw, .ref aMu, .int vMX, .int vMW]))] H := hP
  have hD : va_D A [(aM, .inr (7, [.int 0, .int 0, .ref aMh, .ref aMi, .ref aMc, .int 0, .ref aMt, .int vMB, .ref aMn, .ref aMl, .ref aMs, .int 0, .ref aMd, .int vME, .ref aMe, .int vMO, .ref aMo, .int vMF, .int vMS, .ref aMw, .ref aMu, .int vMX, .int vMW]))] := hD
  refine lv_aload_n hx hb qd_M_clear_20 rfl (lv_at hl 0 rfl) ?_
  refine lv_iconst (v := 0) hx hb qd_M_clear_21 (by decide) ?_
  refine va_put (D := (dC, dI)) (ci := 7) (v := .int 0) (ty := .boolean) (C := qR_M) (T := qT_M) (N := 23) hx hb hg qi_M qt_M qk_M qn_M hown hK hP hD hS 0 rfl rfl 7 (by decide) (hg _ mw_581) (fun _ h9 => h9) rfl (by decide +kernel) rfl rfl (Nat.le_of_ble_eq_true rfl) qd_M_clear_22 (fun H locs hP hD hS => ?_)
  have hP : va_P (dC, dI) vwCl [(aM, .inr (7, [.int 0, .int 0, .ref aMh, .ref aMi, .ref aMc, .int 0, .ref aMt, .int 0, .ref aMn, .ref aMl, .ref aMs, .int 0, .ref aMd, .int vME, .ref aMe, .int vMO, .ref aMo, .int vMF, .int vMS, .ref aMw, .ref aMu, .int vMX, .int vMW]))] H := hP
  have hD : va_D A [(aM, .inr (7, [.int 0, .int 0, .ref aMh, .ref aMi, .ref aMc, .int 0, .ref aMt, .int 0, .ref aMn, .ref aMl, .ref aMs, .int 0, .ref aMd, .int vME, .ref aMe, .int vMO, .ref aMo, .int vMF, .int vMS, .ref aMw, .ref aMu, .int vMX, .int vMW]))] := hD
  exact W.vret hx hb hr (fun t ht hW => ⟨⟨(0, 0, 0, 0, 0), rfl, hres.symm, ⟨by rw [ht]; exact hP, va_K.moved hW.alike hK, x_N hN hW⟩, hD⟩, hS.F ht⟩) hS.2.2 qd_M_clear_25
theorem qd_M_isItem_0 : decode qc_M_isItem 0 = .ok (.iload_n 0, 1) := by decide +kernel
theorem qd_M_isItem_1 : decode qc_M_isItem 1 = .ok (.iconst 0, 1) := by decide +kernel
theorem qd_M_isItem_2 : decode qc_M_isItem 2 = .ok (.bipush 19, 2) := by decide +kernel
theorem qd_M_isItem_4 : decode qc_M_isItem 4 = .ok (.invokestatic 64, 3) := by decide +kernel
theorem qd_M_isItem_7 : decode qc_M_isItem 7 = .ok (.ireturn, 1) := by decide +kernel
set_option maxHeartbeats 4000000 in
set_option maxRecDepth 100000 in
theorem c_M_isItem (l : Launch) (dC : Nat → ClassId) (dI : Nat → Nat → Nat) (cA cZ : ClassId) (p0 : Int32) (ho : o_M_isItem p0) : Met l qy_M_isItem qw_M_isItem ({ frames := 1, cells := 0, slots := 0, locals := 22 }) (va_Pc [.int p0] (xP (dC, dI) [(cA, .int), (cZ, .boolean)] [] nestN)) (vp_Si (fun r => r = f_M_isItem p0)) 0 0 (fun _ => False) := by
  refine Met.ofW (cc := qc_M_isItem) (maxL := 1) (ret := (some .boolean)) (by decide) rfl ?_
  intro p e s m args below meth c s₁ B hml hv
  obtain ⟨rfl, hP, hK, hN⟩ := hv
  have hx := B.exec
  have hb := B.bytes
  have hr := B.returns
  have hts := atoms_spec (ws := qw_M_isItem) B.pre
  have hg : ∀ w ∈ gG, w.before _ s = true := fun w h => hts w (List.mem_cons_of_mem _ h)
  have hown : s.vm.findClass qR_M = some m.cls := findClass_of_methodNamed B.named
  have hlocks := B.notSynchronized
  have hP : va_P (dC, dI) vwCl [] s.heap := hP
  have hl := lv_entry ([.int p0]) (n := 1) (Nat.le_of_ble_eq_true rfl)
  rw [lg_entry_eq]
  generalize (lg_sl ([.int p0]) ++ List.replicate (1 - (lg_sl ([.int p0])).length) Slot.unset).toArray = ls at hl ⊢
  have hl : lv_has ls 1 [(0, .int p0)] := hl
  generalize hF : f_M_isItem p0 = Fv
  have hres : Fv = f_M_isItem p0 := hF.symm
  unfold f_M_isItem at hres
  unfold o_M_isItem at ho
  refine lv_iload_n hx hb qd_M_isItem_0 rfl (lv_at hl 0 rfl) ?_
  refine lv_iconst (v := 0) hx hb qd_M_isItem_1 (by decide) ?_
  refine lv_bipush (v := 19) hx hb qd_M_isItem_2 (by decide) ?_
  refine xc_S (As := [.int p0, .int 0, .int 19]) (rest := []) ⟨hx, hb, hml, hown, hg⟩ (c_M_in l dC dI cA cZ p0 0 19) (va_cwS 3 hg (q_gS mw_633 mw_634 mw_8 mw_635) rfl rfl rfl qh_M_in.2 ⟨Nat.le_of_ble_eq_true rfl, Nat.le_of_ble_eq_true rfl⟩) hN hK hP [] rfl rfl hl.1 rfl (Nat.le_of_ble_eq_true rfl) qd_M_isItem_4 ⟨Nat.zero_le _, Nat.zero_le _⟩ ?_
  refine lv_topi (fun r_4 w_4 => ?_)
  have hres := hres.trans (bd_eq w_4)
  have ho := (bd_eq w_4).mp ho
  exact W.zret (v := r_4) (ty := .boolean) hx hb hr (x_nz ho.1) (fun t ht hW => ⟨_, rfl, hres.symm, ht⟩) (fun _ h => nomatch h) qd_M_isItem_7
theorem qd_M_put_0 : decode qc_M_put 0 = .ok (.iload_n 1, 1) := by decide +kernel
theorem qd_M_put_1 : decode qc_M_put 1 = .ok (.iconst 0, 1) := by decide +kernel
theorem qd_M_put_2 : decode qc_M_put 2 = .ok (.bipush 9, 2) := by decide +kernel
theorem qd_M_put_4 : decode qc_M_put 4 = .ok (.invokestatic 64, 3) := by decide +kernel
theorem qd_M_put_7 : decode qc_M_put 7 = .ok (.istore_n 2, 1) := by decide +kernel
theorem qd_M_put_8 : decode qc_M_put 8 = .ok (.aload_n 0, 1) := by decide +kernel
theorem qd_M_put_9 : decode qc_M_put 9 = .ok (.iload_n 2, 1) := by decide +kernel
theorem qd_M_put_10 : decode qc_M_put 10 = .ok (.ifCond .ne 7, 3) := by decide +kernel
theorem qd_M_put_13 : decode qc_M_put 13 = .ok (.iconst 1, 1) := by decide +kernel
theorem qd_M_put_14 : decode qc_M_put 14 = .ok (.goto 4, 3) := by decide +kernel
theorem qd_M_put_17 : decode qc_M_put 17 = .ok (.iconst 0, 1) := by decide +kernel
theorem qd_M_put_18 : decode qc_M_put 18 = .ok (.iload_n 2, 1) := by decide +kernel
theorem qd_M_put_19 : decode qc_M_put 19 = .ok (.ifCond .eq 16, 3) := by decide +kernel
theorem qd_M_put_22 : decode qc_M_put 22 = .ok (.aload_n 0, 1) := by decide +kernel
theorem qd_M_put_23 : decode qc_M_put 23 = .ok (.getfield 54, 3) := by decide +kernel
theorem qd_M_put_26 : decode qc_M_put 26 = .ok (.bipush 24, 2) := by decide +kernel
theorem qd_M_put_28 : decode qc_M_put 28 = .ok (.if_icmp .ne 7, 3) := by decide +kernel
theorem qd_M_put_31 : decode qc_M_put 31 = .ok (.iconst 1, 1) := by decide +kernel
theorem qd_M_put_32 : decode qc_M_put 32 = .ok (.goto 4, 3) := by decide +kernel
theorem qd_M_put_35 : decode qc_M_put 35 = .ok (.iconst 0, 1) := by decide +kernel
theorem qd_M_put_36 : decode qc_M_put 36 = .ok (.iconst 0, 1) := by decide +kernel
theorem qd_M_put_37 : decode qc_M_put 37 = .ok (.invokevirtual 76, 3) := by decide +kernel
theorem qd_M_put_40 : decode qc_M_put 40 = .ok (.ifCond .eq 5, 3) := by decide +kernel
theorem qd_M_put_43 : decode qc_M_put 43 = .ok (.iconst 0, 1) := by decide +kernel
theorem qd_M_put_44 : decode qc_M_put 44 = .ok (.ireturn, 1) := by decide +kernel
theorem qd_M_put_45 : decode qc_M_put 45 = .ok (.aload_n 0, 1) := by decide +kernel
theorem qd_M_put_46 : decode qc_M_put 46 = .ok (.getfield 19, 3) := by decide +kernel
theorem qd_M_put_49 : decode qc_M_put 49 = .ok (.aload_n 0, 1) := by decide +kernel
theorem qd_M_put_50 : decode qc_M_put 50 = .ok (.getfield 54, 3) := by decide +kernel
theorem qd_M_put_53 : decode qc_M_put 53 = .ok (.iload_n 1, 1) := by decide +kernel
theorem qd_M_put_54 : decode qc_M_put 54 = .ok (.iastore, 1) := by decide +kernel
theorem qd_M_put_55 : decode qc_M_put 55 = .ok (.aload_n 0, 1) := by decide +kernel
theorem qd_M_put_56 : decode qc_M_put 56 = .ok (.dup, 1) := by decide +kernel
theorem qd_M_put_57 : decode qc_M_put 57 = .ok (.getfield 54, 3) := by decide +kernel
theorem qd_M_put_60 : decode qc_M_put 60 = .ok (.iconst 1, 1) := by decide +kernel
theorem qd_M_put_61 : decode qc_M_put 61 = .ok (.iadd, 1) := by decide +kernel
theorem qd_M_put_62 : decode qc_M_put 62 = .ok (.putfield 54, 3) := by decide +kernel
theorem qd_M_put_65 : decode qc_M_put 65 = .ok (.aload_n 0, 1) := by decide +kernel
theorem qd_M_put_66 : decode qc_M_put 66 = .ok (.iconst 0, 1) := by decide +kernel
theorem qd_M_put_67 : decode qc_M_put 67 = .ok (.putfield 60, 3) := by decide +kernel
theorem qd_M_put_70 : decode qc_M_put 70 = .ok (.aload_n 0, 1) := by decide +kernel
theorem qd_M_put_71 : decode qc_M_put 71 = .ok (.getfield 54, 3) := by decide +kernel
theorem qd_M_put_74 : decode qc_M_put 74 = .ok (.ireturn, 1) := by decide +kernel
set_option maxHeartbeats 4000000 in
set_option maxRecDepth 100000 in
theorem c_M_put (l : Launch) (dC : Nat → ClassId) (dI : Nat → Nat → Nat) (cA cZ : ClassId) (aM aMh aMi aMc aMt aMn aMl aMs aMd aMe aMo aMw aMu : Nat) (sz : Nat) (vMT : Int32) (vMP : Int32) (vMK : Int32) (vMB : Int32) (vMD : Int32) (vME : Int32) (vMO : Int32) (vMF : Int32) (vMS : Int32) (vMX : Int32) (vMW : Int32) (vMt : (Nat → Int32)) (p0 : Int32) (ho : o_M_put vMT vMK vMB vMt p0) : Met l qy_M_put qw_M_put ({ frames := 1, cells := 0, slots := 0, locals := 23 }) (va_Pc [.ref aM, .int p0] (fun U => U.heap.size = sz ∧ xP (dC, dI) [(cA, .int), (cZ, .boolean)] [(aM, .inr (7, [.int vMT, .int vMP, .ref aMh, .ref aMi, .ref aMc, .int vMK, .ref aMt, .int vMB, .ref aMn, .ref aMl, .ref aMs, .int vMD, .ref aMd, .int vME, .ref aMe, .int vMO, .ref aMo, .int vMF, .int vMS, .ref aMw, .ref aMu, .int vMX, .int vMW])), (aMt, .inl (cA, 24, .inl (vMt)))] nestN U ∧ va_D (fun _ => True) [(aM, .inr (7, [.int vMT, .int vMP, .ref aMh, .ref aMi, .ref aMc, .int vMK, .ref aMt, .int vMB, .ref aMn, .ref aMl, .ref aMs, .int vMD, .ref aMd, .int vME, .ref aMe, .int vMO, .ref aMo, .int vMF, .int vMS, .ref aMw, .ref aMu, .int vMX, .int vMW])), (aMt, .inl (cA, 24, .inl (vMt)))])) (va_Qi (fun r (u : Int32 × Int32 × Int32 × Int32 × (Nat → Int32)) => u = f_M_put vMT vMK vMB vMt p0 ∧ r = u.1) (fun (u : Int32 × Int32 × Int32 × Int32 × (Nat → Int32)) t => xP (dC, dI) [(cA, .int), (cZ, .boolean)] [(aM, .inr (7, [.int u.2.1, .int vMP, .ref aMh, .ref aMi, .ref aMc, .int u.2.2.1, .ref aMt, .int u.2.2.2.1, .ref aMn, .ref aMl, .ref aMs, .int vMD, .ref aMd, .int vME, .ref aMe, .int vMO, .ref aMo, .int vMF, .int vMS, .ref aMw, .ref aMu, .int vMX, .int vMW])), (aMt, .inl (cA, 24, .inl (u.2.2.2.2)))] nestN t ∧ va_D (va_A [(aM, .inr (7, [.int vMT, .int vMP, .ref aMh, .ref aMi, .ref aMc, .int vMK, .ref aMt, .int vMB, .ref aMn, .ref aMl, .ref aMs, .int vMD, .ref aMd, .int vME, .ref aMe, .int vMO, .ref aMo, .int vMF, .int vMS, .ref aMw, .ref aMu, .int vMX, .int vMW])), (aMt, .inl (cA, 24, .inl (vMt)))] sz) [(aM, .inr (7, [.int u.2.1, .int vMP, .ref aMh, .ref aMi, .ref aMc, .int u.2.2.1, .ref aMt, .int u.2.2.2.1, .ref aMn, .ref aMl, .ref aMs, .int vMD, .ref aMd, .int vME, .ref aMe, .int vMO, .ref aMo, .int vMF, .int vMS, .ref aMw, .ref aMu, .int vMX, .int vMW])), (aMt, .inl (cA, 24, .inl (u.2.2.2.2)))]) (va_A [(aM, .inr (7, [.int vMT, .int vMP, .ref aMh, .ref aMi, .ref aMc, .int vMK, .ref aMt, .int vMB, .ref aMn, .ref aMl, .ref aMs, .int vMD, .ref aMd, .int vME, .ref aMe, .int vMO, .ref aMo, .int vMF, .int vMS, .ref aMw, .ref aMu, .int vMX, .int vMW])), (aMt, .inl (cA, 24, .inl (vMt)))] sz)) 0 0 (va_A [(aM, .inr (7, [.int vMT, .int vMP, .ref aMh, .ref aMi, .ref aMc, .int vMK, .ref aMt, .int vMB, .ref aMn, .ref aMl, .ref aMs, .int vMD, .ref aMd, .int vME, .ref aMe, .int vMO, .ref aMo, .int vMF, .int vMS, .ref aMw, .ref aMu, .int vMX, .int vMW])), (aMt, .inl (cA, 24, .inl (vMt)))] sz) := by
  refine Met.ofW (cc := qc_M_put) (maxL := 3) (ret := (some .int)) (by decide) rfl ?_
  intro p e s m args below meth c s₁ B hml hv
  obtain ⟨rfl, hsz, ⟨hP, hK, hN⟩, hD0⟩ := hv
  have hx := B.exec
  have hb := B.bytes
  have hr := B.returns
  have hts := atoms_spec (ws := qw_M_put) B.pre
  have hg : ∀ w ∈ gG, w.before _ s = true := fun w h => hts w (List.mem_cons_of_mem _ h)
  have hown : s.vm.findClass qR_M = some m.cls := findClass_of_methodNamed B.named
  have hlocks := B.notSynchronized
  subst hsz
  have hD := hD0.self (sz := s.heap.size)
  generalize hAe : va_A [(aM, .inr (7, [.int vMT, .int vMP, .ref aMh, .ref aMi, .ref aMc, .int vMK, .ref aMt, .int vMB, .ref aMn, .ref aMl, .ref aMs, .int vMD, .ref aMd, .int vME, .ref aMe, .int vMO, .ref aMo, .int vMF, .int vMS, .ref aMw, .ref aMu, .int vMX, .int vMW])), (aMt, .inl (cA, 24, .inl (vMt)))] s.heap.size = A at hD ⊢
  have hA : ∀ q : Nat, s.heap.size ≤ q → A q := fun q h => by rw [← hAe]; exact Or.inr h
  have hS : va_S A s.heap s.heap [] := va_S.rf
  have hP : va_P (dC, dI) vwCl [(aM, .inr (7, [.int vMT, .int vMP, .ref aMh, .ref aMi, .ref aMc, .int vMK, .ref aMt, .int vMB, .ref aMn, .ref aMl, .ref aMs, .int vMD, .ref aMd, .int vME, .ref aMe, .int vMO, .ref aMo, .int vMF, .int vMS, .ref aMw, .ref aMu, .int vMX, .int vMW])), (aMt, .inl (cA, 24, .inl (vMt)))] s.heap := hP
  have hl := lv_entry ([.ref aM, .int p0]) (n := 3) (Nat.le_of_ble_eq_true rfl)
  rw [lg_entry_eq]
  generalize (lg_sl ([.ref aM, .int p0]) ++ List.replicate (3 - (lg_sl ([.ref aM, .int p0])).length) Slot.unset).toArray = ls at hl ⊢
  have hl : lv_has ls 3 [(0, .ref aM), (1, .int p0)] := hl
  generalize hF : f_M_put vMT vMK vMB vMt p0 = Fv
  have hres : Fv = f_M_put vMT vMK vMB vMt p0 := hF.symm
  unfold f_M_put at hres
  unfold o_M_put at ho
  refine lv_iload_n hx hb qd_M_put_0 rfl (lv_at hl 1 rfl) ?_
  refine lv_iconst (v := 0) hx hb qd_M_put_1 (by decide) ?_
  refine lv_bipush (v := 9) hx hb qd_M_put_2 (by decide) ?_
  refine xc_S (As := [.int p0, .int 0, .int 9]) (rest := []) ⟨hx, hb, hml, hown, hg⟩ (c_M_in l dC dI cA cZ p0 0 9) (va_cwS 3 hg (q_gS mw_633 mw_634 mw_8 mw_635) rfl rfl rfl qh_M_in.2 ⟨Nat.le_of_ble_eq_true rfl, Nat.le_of_ble_eq_true rfl⟩) hN hK hP [] rfl rfl hl.1 rfl (Nat.le_of_ble_eq_true rfl) qd_M_put_4 ⟨Nat.zero_le _, Nat.zero_le _⟩ ?_
  refine lv_topi (fun r_4 w_4 => ?_)
  have hres := hres.trans (bd_eq w_4)
  have ho := (bd_eq w_4).mp ho
  refine lv_istore_n (lv' := [(2, .int r_4), (0, .ref aM), (1, .int p0)]) hx hb qd_M_put_7 rfl hl (by decide) rfl (fun ls hl => ?_)
  refine lv_aload_n hx hb qd_M_put_8 rfl (lv_at hl 1 rfl) ?_
  refine lv_iload_n hx hb qd_M_put_9 rfl (lv_at hl 0 rfl) ?_
  refine lv_if_ne (tgt := 17) hx hb qd_M_put_10 (by decide) (fun c_10 => ?_) (fun c_10 => ?_)
  · have hres := hres.trans (if_neg c_10)
    have ho := (if_neg c_10).mp ho
    refine lv_iconst (v := 0) hx hb qd_M_put_17 (by decide) ?_
    refine lv_iload_n hx hb qd_M_put_18 rfl (lv_at hl 0 rfl) ?_
    refine lv_if_eq (tgt := 35) hx hb qd_M_put_19 (by decide) (fun c_19 => ?_) (fun c_19 => ?_)
    · exact absurd c_19 c_10
    refine lv_aload_n hx hb qd_M_put_22 rfl (lv_at hl 1 rfl) ?_
    refine va_get (D := (dC, dI)) (ci := 7) (v := .int vMK) (C := qR_M) (T := qT_M) (N := 23) hx hb hg qi_M hown hK hP 0 rfl rfl 5 (by decide) (hg _ mw_579) (fun _ h9 => h9) rfl qd_M_put_23 ?_
    refine lv_bipush (v := 24) hx hb qd_M_put_26 (by decide) ?_
    refine lv_icmp_ne (tgt := 35) hx hb qd_M_put_28 (by decide) (fun c_28 => ?_) (fun c_28 => ?_)
    · have hres := hres.trans (if_neg c_28)
      have ho := (if_neg c_28).mp ho
      refine lv_iconst (v := 0) hx hb qd_M_put_35 (by decide) ?_
      refine lv_iconst (v := 0) hx hb qd_M_put_36 (by decide) ?_
      refine xm_Vi (As := [.int 0, .int 0, .int 0]) (rest := []) (w1 := fun (u_37 : Int32 × Int32) => [(aM, .inr (7, [.int u_37.2, .int vMP, .ref aMh, .ref aMi, .ref aMc, .int vMK, .ref aMt, .int vMB, .ref aMn, .ref aMl, .ref aMs, .int vMD, .ref aMd, .int vME, .ref aMe, .int vMO, .ref aMo, .int vMF, .int vMS, .ref aMw, .ref aMu, .int vMX, .int vMW]))]) (w2 := fun (u_37 : Int32 × Int32) => [(aM, .inr (7, [.int u_37.2, .int vMP, .ref aMh, .ref aMi, .ref aMc, .int vMK, .ref aMt, .int vMB, .ref aMn, .ref aMl, .ref aMs, .int vMD, .ref aMd, .int vME, .ref aMe, .int vMO, .ref aMo, .int vMF, .int vMS, .ref aMw, .ref aMu, .int vMX, .int vMW])), (aMt, .inl (cA, 24, .inl (vMt)))]) ⟨hx, hb, hml, hown, hg⟩ (c_M_refuse l dC dI cA cZ aM aMh aMi aMc aMt aMn aMl aMs aMd aMe aMo aMw aMu _ vMT vMP vMK vMB vMD vME vMO vMF vMS vMX vMW 0 0 0) (cwV 3 hg (q_gV mw_642 mw_643 mw_771 mw_8 mw_644) rfl rfl rfl qh_M_refuse ⟨Nat.le_of_ble_eq_true rfl, Nat.le_of_ble_eq_true rfl⟩) hN hK hP hD hS hA [0] [1] rfl rfl (by decide) (by decide) (by decide) [1, 0] (fun _ => rfl) (by decide) 0 7 rfl rfl rfl hl.1 rfl (Nat.le_of_ble_eq_true rfl) qd_M_put_37 ⟨Nat.zero_le _, Nat.zero_le _⟩ (fun u_37 H locs w_37 hP hD hS => ?_)
      have hP : va_P (dC, dI) vwCl [(aM, .inr (7, [.int u_37.2, .int vMP, .ref aMh, .ref aMi, .ref aMc, .int vMK, .ref aMt, .int vMB, .ref aMn, .ref aMl, .ref aMs, .int vMD, .ref aMd, .int vME, .ref aMe, .int vMO, .ref aMo, .int vMF, .int vMS, .ref aMw, .ref aMu, .int vMX, .int vMW])), (aMt, .inl (cA, 24, .inl (vMt)))] H := hP
      have hD : va_D A [(aM, .inr (7, [.int u_37.2, .int vMP, .ref aMh, .ref aMi, .ref aMc, .int vMK, .ref aMt, .int vMB, .ref aMn, .ref aMl, .ref aMs, .int vMD, .ref aMd, .int vME, .ref aMe, .int vMO, .ref aMo, .int vMF, .int vMS, .ref aMw, .ref aMu, .int vMX, .int vMW])), (aMt, .inl (cA, 24, .inl (vMt)))] := hD
      have hres := hres.trans (bd_eq w_37)
      have ho := (bd_eq w_37).mp ho
      refine lv_if_eq (tgt := 45) hx hb qd_M_put_40 (by decide) (fun c_40 => ?_) (fun c_40 => ?_)
      · have hres := hres.trans (if_pos c_40)
        have ho := (if_pos c_40).mp ho
        refine lv_aload_n hx hb qd_M_put_45 rfl (lv_at hl 1 rfl) ?_
        refine va_get (D := (dC, dI)) (ci := 7) (v := .ref aMt) (C := qR_M) (T := qT_M) (N := 23) hx hb hg qi_M hown hK hP 0 rfl rfl 6 (by decide) (hg _ mw_580) (fun _ h9 => h9) rfl qd_M_put_46 ?_
        refine lv_aload_n hx hb qd_M_put_49 rfl (lv_at hl 1 rfl) ?_
        refine va_get (D := (dC, dI)) (ci := 7) (v := .int vMK) (C := qR_M) (T := qT_M) (N := 23) hx hb hg qi_M hown hK hP 0 rfl rfl 5 (by decide) (hg _ mw_579) (fun _ h9 => h9) rfl qd_M_put_50 ?_
        refine lv_iload_n hx hb qd_M_put_53 rfl (lv_at hl 2 rfl) ?_
        obtain ⟨g_54, ho⟩ := ho
        refine va_iast hx hb hK hP hD hS 1 0 rfl rfl g_54 qd_M_put_54 (fun H locs hP hD hS => ?_)
        have hP : va_P (dC, dI) vwCl [(aM, .inr (7, [.int u_37.2, .int vMP, .ref aMh, .ref aMi, .ref aMc, .int vMK, .ref aMt, .int vMB, .ref aMn, .ref aMl, .ref aMs, .int vMD, .ref aMd, .int vME, .ref aMe, .int vMO, .ref aMo, .int vMF, .int vMS, .ref aMw, .ref aMu, .int vMX, .int vMW])), (aMt, .inl (cA, 24, .inl (upd vMt vMK.toNatClampNeg p0)))] H := hP
        have hD : va_D A [(aM, .inr (7, [.int u_37.2, .int vMP, .ref aMh, .ref aMi, .ref aMc, .int vMK, .ref aMt, .int vMB, .ref aMn, .ref aMl, .ref aMs, .int vMD, .ref aMd, .int vME, .ref aMe, .int vMO, .ref aMo, .int vMF, .int vMS, .ref aMw, .ref aMu, .int vMX, .int vMW])), (aMt, .inl (cA, 24, .inl (upd vMt vMK.toNatClampNeg p0)))] := hD
        refine lv_aload_n hx hb qd_M_put_55 rfl (lv_at hl 1 rfl) ?_
        refine lv_dup hx hb qd_M_put_56 rfl ?_
        refine va_get (D := (dC, dI)) (ci := 7) (v := .int vMK) (C := qR_M) (T := qT_M) (N := 23) hx hb hg qi_M hown hK hP 0 rfl rfl 5 (by decide) (hg _ mw_579) (fun _ h9 => h9) rfl qd_M_put_57 ?_
        refine lv_iconst (v := 1) hx hb qd_M_put_60 (by decide) ?_
        refine lv_iadd hx hb qd_M_put_61 ?_
        refine va_put (D := (dC, dI)) (ci := 7) (v := .int (vMK + 1)) (ty := .int) (C := qR_M) (T := qT_M) (N := 23) hx hb hg qi_M qt_M qk_M qn_M hown hK hP hD hS 0 rfl rfl 5 (by decide) (hg _ mw_579) (fun _ h9 => h9) rfl (by decide +kernel) rfl rfl (Nat.le_of_ble_eq_true rfl) qd_M_put_62 (fun H locs hP hD hS => ?_)
        have hP : va_P (dC, dI) vwCl [(aM, .inr (7, [.int u_37.2, .int vMP, .ref aMh, .ref aMi, .ref aMc, .int (vMK + 1), .ref aMt, .int vMB, .ref aMn, .ref aMl, .ref aMs, .int vMD, .ref aMd, .int vME, .ref aMe, .int vMO, .ref aMo, .int vMF, .int vMS, .ref aMw, .ref aMu, .int vMX, .int vMW])), (aMt, .inl (cA, 24, .inl (upd vMt vMK.toNatClampNeg p0)))] H := hP
        have hD : va_D A [(aM, .inr (7, [.int u_37.2, .int vMP, .ref aMh, .ref aMi, .ref aMc, .int (vMK + 1), .ref aMt, .int vMB, .ref aMn, .ref aMl, .ref aMs, .int vMD, .ref aMd, .int vME, .ref aMe, .int vMO, .ref aMo, .int vMF, .int vMS, .ref aMw, .ref aMu, .int vMX, .int vMW])), (aMt, .inl (cA, 24, .inl (upd vMt vMK.toNatClampNeg p0)))] := hD
        refine lv_aload_n hx hb qd_M_put_65 rfl (lv_at hl 1 rfl) ?_
        refine lv_iconst (v := 0) hx hb qd_M_put_66 (by decide) ?_
        refine va_put (D := (dC, dI)) (ci := 7) (v := .int 0) (ty := .boolean) (C := qR_M) (T := qT_M) (N := 23) hx hb hg qi_M qt_M qk_M qn_M hown hK hP hD hS 0 rfl rfl 7 (by decide) (hg _ mw_581) (fun _ h9 => h9) rfl (by decide +kernel) rfl rfl (Nat.le_of_ble_eq_true rfl) qd_M_put_67 (fun H locs hP hD hS => ?_)
        have hP : va_P (dC, dI) vwCl [(aM, .inr (7, [.int u_37.2, .int vMP, .ref aMh, .ref aMi, .ref aMc, .int (vMK + 1), .ref aMt, .int 0, .ref aMn, .ref aMl, .ref aMs, .int vMD, .ref aMd, .int vME, .ref aMe, .int vMO, .ref aMo, .int vMF, .int vMS, .ref aMw, .ref aMu, .int vMX, .int vMW])), (aMt, .inl (cA, 24, .inl (upd vMt vMK.toNatClampNeg p0)))] H := hP
        have hD : va_D A [(aM, .inr (7, [.int u_37.2, .int vMP, .ref aMh, .ref aMi, .ref aMc, .int (vMK + 1), .ref aMt, .int 0, .ref aMn, .ref aMl, .ref aMs, .int vMD, .ref aMd, .int vME, .ref aMe, .int vMO, .ref aMo, .int vMF, .int vMS, .ref aMw, .ref aMu, .int vMX, .int vMW])), (aMt, .inl (cA, 24, .inl (upd vMt vMK.toNatClampNeg p0)))] := hD
        refine lv_aload_n hx hb qd_M_put_70 rfl (lv_at hl 1 rfl) ?_
        refine va_get (D := (dC, dI)) (ci := 7) (v := .int (vMK + 1)) (C := qR_M) (T := qT_M) (N := 23) hx hb hg qi_M hown hK hP 0 rfl rfl 5 (by decide) (hg _ mw_579) (fun _ h9 => h9) rfl qd_M_put_71 ?_
        exact W.iret (v := vMK + 1) hx hb hr (fun t ht hW => ⟨⟨_, (vMK + 1, u_37.2, vMK + 1, 0, upd vMt vMK.toNatClampNeg p0), rfl, ⟨hres.symm, rfl⟩, ⟨by rw [ht]; exact hP, va_K.moved hW.alike hK, x_N hN hW⟩, hD⟩, hS.F ht⟩) hS.2.2 qd_M_put_74
      have hres := hres.trans (if_neg c_40)
      have ho := (if_neg c_40).mp ho
      refine lv_iconst (v := 0) hx hb qd_M_put_43 (by decide) ?_
      exact W.iret (v := 0) hx hb hr (fun t ht hW => ⟨⟨_, (0, u_37.2, vMK, vMB, vMt), rfl, ⟨hres.symm, rfl⟩, ⟨by rw [ht]; exact hP, va_K.moved hW.alike hK, x_N hN hW⟩, hD⟩, hS.F ht⟩) hS.2.2 qd_M_put_44
    have hres := hres.trans (if_pos c_28)
    have ho := (if_pos c_28).mp ho
    refine lv_iconst (v := 1) hx hb qd_M_put_31 (by decide) ?_
    refine lv_goto (tgt := 36) hx hb qd_M_put_32 (by decide) ?_
    refine lv_iconst (v := 0) hx hb qd_M_put_36 (by decide) ?_
    refine xm_Vi (As := [.int 0, .int 1, .int 0]) (rest := []) (w1 := fun (u_37 : Int32 × Int32) => [(aM, .inr (7, [.int u_37.2, .int vMP, .ref aMh, .ref aMi, .ref aMc, .int vMK, .ref aMt, .int vMB, .ref aMn, .ref aMl, .ref aMs, .int vMD, .ref aMd, .int vME, .ref aMe, .int vMO, .ref aMo, .int vMF, .int vMS, .ref aMw, .ref aMu, .int vMX, .int vMW]))]) (w2 := fun (u_37 : Int32 × Int32) => [(aM, .inr (7, [.int u_37.2, .int vMP, .ref aMh, .ref aMi, .ref aMc, .int vMK, .ref aMt, .int vMB, .ref aMn, .ref aMl, .ref aMs, .int vMD, .ref aMd, .int vME, .ref aMe, .int vMO, .ref aMo, .int vMF, .int vMS, .ref aMw, .ref aMu, .int vMX, .int vMW])), (aMt, .inl (cA, 24, .inl (vMt)))]) ⟨hx, hb, hml, hown, hg⟩ (c_M_refuse l dC dI cA cZ aM aMh aMi aMc aMt aMn aMl aMs aMd aMe aMo aMw aMu _ vMT vMP vMK vMB vMD vME vMO vMF vMS vMX vMW 0 1 0) (cwV 3 hg (q_gV mw_642 mw_643 mw_771 mw_8 mw_644) rfl rfl rfl qh_M_refuse ⟨Nat.le_of_ble_eq_true rfl, Nat.le_of_ble_eq_true rfl⟩) hN hK hP hD hS hA [0] [1] rfl rfl (by decide) (by decide) (by decide) [1, 0] (fun _ => rfl) (by decide) 0 7 rfl rfl rfl hl.1 rfl (Nat.le_of_ble_eq_true rfl) qd_M_put_37 ⟨Nat.zero_le _, Nat.zero_le _⟩ (fun u_37 H locs w_37 hP hD hS => ?_)
    have hP : va_P (dC, dI) vwCl [(aM, .inr (7, [.int u_37.2, .int vMP, .ref aMh, .ref aMi, .ref aMc, .int vMK, .ref aMt, .int vMB, .ref aMn, .ref aMl, .ref aMs, .int vMD, .ref aMd, .int vME, .ref aMe, .int vMO, .ref aMo, .int vMF, .int vMS, .ref aMw, .ref aMu, .int vMX, .int vMW])), (aMt, .inl (cA, 24, .inl (vMt)))] H := hP
    have hD : va_D A [(aM, .inr (7, [.int u_37.2, .int vMP, .ref aMh, .ref aMi, .ref aMc, .int vMK, .ref aMt, .int vMB, .ref aMn, .ref aMl, .ref aMs, .int vMD, .ref aMd, .int vME, .ref aMe, .int vMO, .ref aMo, .int vMF, .int vMS, .ref aMw, .ref aMu, .int vMX, .int vMW])), (aMt, .inl (cA, 24, .inl (vMt)))] := hD
    have hres := hres.trans (bd_eq w_37)
    have ho := (bd_eq w_37).mp ho
    refine lv_if_eq (tgt := 45) hx hb qd_M_put_40 (by decide) (fun c_40 => ?_) (fun c_40 => ?_)
    · have hres := hres.trans (if_pos c_40)
      have ho := (if_pos c_40).mp ho
      refine lv_aload_n hx hb qd_M_put_45 rfl (lv_at hl 1 rfl) ?_
      refine va_get (D := (dC, dI)) (ci := 7) (v := .ref aMt) (C := qR_M) (T := qT_M) (N := 23) hx hb hg qi_M hown hK hP 0 rfl rfl 6 (by decide) (hg _ mw_580) (fun _ h9 => h9) rfl qd_M_put_46 ?_
      refine lv_aload_n hx hb qd_M_put_49 rfl (lv_at hl 1 rfl) ?_
      refine va_get (D := (dC, dI)) (ci := 7) (v := .int vMK) (C := qR_M) (T := qT_M) (N := 23) hx hb hg qi_M hown hK hP 0 rfl rfl 5 (by decide) (hg _ mw_579) (fun _ h9 => h9) rfl qd_M_put_50 ?_
      refine lv_iload_n hx hb qd_M_put_53 rfl (lv_at hl 2 rfl) ?_
      obtain ⟨g_54, ho⟩ := ho
      refine va_iast hx hb hK hP hD hS 1 0 rfl rfl g_54 qd_M_put_54 (fun H locs hP hD hS => ?_)
      have hP : va_P (dC, dI) vwCl [(aM, .inr (7, [.int u_37.2, .int vMP, .ref aMh, .ref aMi, .ref aMc, .int vMK, .ref aMt, .int vMB, .ref aMn, .ref aMl, .ref aMs, .int vMD, .ref aMd, .int vME, .ref aMe, .int vMO, .ref aMo, .int vMF, .int vMS, .ref aMw, .ref aMu, .int vMX, .int vMW])), (aMt, .inl (cA, 24, .inl (upd vMt vMK.toNatClampNeg p0)))] H := hP
      have hD : va_D A [(aM, .inr (7, [.int u_37.2, .int vMP, .ref aMh, .ref aMi, .ref aMc, .int vMK, .ref aMt, .int vMB, .ref aMn, .ref aMl, .ref aMs, .int vMD, .ref aMd, .int vME, .ref aMe, .int vMO, .ref aMo, .int vMF, .int vMS, .ref aMw, .ref aMu, .int vMX, .int vMW])), (aMt, .inl (cA, 24, .inl (upd vMt vMK.toNatClampNeg p0)))] := hD
      refine lv_aload_n hx hb qd_M_put_55 rfl (lv_at hl 1 rfl) ?_
      refine lv_dup hx hb qd_M_put_56 rfl ?_
      refine va_get (D := (dC, dI)) (ci := 7) (v := .int vMK) (C := qR_M) (T := qT_M) (N := 23) hx hb hg qi_M hown hK hP 0 rfl rfl 5 (by decide) (hg _ mw_579) (fun _ h9 => h9) rfl qd_M_put_57 ?_
      refine lv_iconst (v := 1) hx hb qd_M_put_60 (by decide) ?_
      refine lv_iadd hx hb qd_M_put_61 ?_
      refine va_put (D := (dC, dI)) (ci := 7) (v := .int (vMK + 1)) (ty := .int) (C := qR_M) (T := qT_M) (N := 23) hx hb hg qi_M qt_M qk_M qn_M hown hK hP hD hS 0 rfl rfl 5 (by decide) (hg _ mw_579) (fun _ h9 => h9) rfl (by decide +kernel) rfl rfl (Nat.le_of_ble_eq_true rfl) qd_M_put_62 (fun H locs hP hD hS => ?_)
      have hP : va_P (dC, dI) vwCl [(aM, .inr (7, [.int u_37.2, .int vMP, .ref aMh, .ref aMi, .ref aMc, .int (vMK + 1), .ref aMt, .int vMB, .ref aMn, .ref aMl, .ref aMs, .int vMD, .ref aMd, .int vME, .ref aMe, .int vMO, .ref aMo, .int vMF, .int vMS, .ref aMw, .ref aMu, .int vMX, .int vMW])), (aMt, .inl (cA, 24, .inl (upd vMt vMK.toNatClampNeg p0)))] H := hP
      have hD : va_D A [(aM, .inr (7, [.int u_37.2, .int vMP, .ref aMh, .ref aMi, .ref aMc, .int (vMK + 1), .ref aMt, .int vMB, .ref aMn, .ref aMl, .ref aMs, .int vMD, .ref aMd, .int vME, .ref aMe, .int vMO, .ref aMo, .int vMF, .int vMS, .ref aMw, .ref aMu, .int vMX, .int vMW])), (aMt, .inl (cA, 24, .inl (upd vMt vMK.toNatClampNeg p0)))] := hD
      refine lv_aload_n hx hb qd_M_put_65 rfl (lv_at hl 1 rfl) ?_
      refine lv_iconst (v := 0) hx hb qd_M_put_66 (by decide) ?_
      refine va_put (D := (dC, dI)) (ci := 7) (v := .int 0) (ty := .boolean) (C := qR_M) (T := qT_M) (N := 23) hx hb hg qi_M qt_M qk_M qn_M hown hK hP hD hS 0 rfl rfl 7 (by decide) (hg _ mw_581) (fun _ h9 => h9) rfl (by decide +kernel) rfl rfl (Nat.le_of_ble_eq_true rfl) qd_M_put_67 (fun H locs hP hD hS => ?_)
      have hP : va_P (dC, dI) vwCl [(aM, .inr (7, [.int u_37.2, .int vMP, .ref aMh, .ref aMi, .ref aMc, .int (vMK + 1), .ref aMt, .int 0, .ref aMn, .ref aMl, .ref aMs, .int vMD, .ref aMd, .int vME, .ref aMe, .int vMO, .ref aMo, .int vMF, .int vMS, .ref aMw, .ref aMu, .int vMX, .int vMW])), (aMt, .inl (cA, 24, .inl (upd vMt vMK.toNatClampNeg p0)))] H := hP
      have hD : va_D A [(aM, .inr (7, [.int u_37.2, .int vMP, .ref aMh, .ref aMi, .ref aMc, .int (vMK + 1), .ref aMt, .int 0, .ref aMn, .ref aMl, .ref aMs, .int vMD, .ref aMd, .int vME, .ref aMe, .int vMO, .ref aMo, .int vMF, .int vMS, .ref aMw, .ref aMu, .int vMX, .int vMW])), (aMt, .inl (cA, 24, .inl (upd vMt vMK.toNatClampNeg p0)))] := hD
      refine lv_aload_n hx hb qd_M_put_70 rfl (lv_at hl 1 rfl) ?_
      refine va_get (D := (dC, dI)) (ci := 7) (v := .int (vMK + 1)) (C := qR_M) (T := qT_M) (N := 23) hx hb hg qi_M hown hK hP 0 rfl rfl 5 (by decide) (hg _ mw_579) (fun _ h9 => h9) rfl qd_M_put_71 ?_
      exact W.iret (v := vMK + 1) hx hb hr (fun t ht hW => ⟨⟨_, (vMK + 1, u_37.2, vMK + 1, 0, upd vMt vMK.toNatClampNeg p0), rfl, ⟨hres.symm, rfl⟩, ⟨by rw [ht]; exact hP, va_K.moved hW.alike hK, x_N hN hW⟩, hD⟩, hS.F ht⟩) hS.2.2 qd_M_put_74
    have hres := hres.trans (if_neg c_40)
    have ho := (if_neg c_40).mp ho
    refine lv_iconst (v := 0) hx hb qd_M_put_43 (by decide) ?_
    exact W.iret (v := 0) hx hb hr (fun t ht hW => ⟨⟨_, (0, u_37.2, vMK, vMB, vMt), rfl, ⟨hres.symm, rfl⟩, ⟨by rw [ht]; exact hP, va_K.moved hW.alike hK, x_N hN hW⟩, hD⟩, hS.F ht⟩) hS.2.2 qd_M_put_44
  have hres := hres.trans (if_pos c_10)
  have ho := (if_pos c_10).mp ho
  refine lv_iconst (v := 1) hx hb qd_M_put_13 (by decide) ?_
  refine lv_goto (tgt := 18) hx hb qd_M_put_14 (by decide) ?_
  refine lv_iload_n hx hb qd_M_put_18 rfl (lv_at hl 0 rfl) ?_
  refine lv_if_eq (tgt := 35) hx hb qd_M_put_19 (by decide) (fun c_19 => ?_) (fun c_19 => ?_)
  rotate_left
  · exact absurd c_10 c_19
  refine lv_iconst (v := 0) hx hb qd_M_put_35 (by decide) ?_
  refine lv_iconst (v := 0) hx hb qd_M_put_36 (by decide) ?_
  refine xm_Vi (As := [.int 1, .int 0, .int 0]) (rest := []) (w1 := fun (u_37 : Int32 × Int32) => [(aM, .inr (7, [.int u_37.2, .int vMP, .ref aMh, .ref aMi, .ref aMc, .int vMK, .ref aMt, .int vMB, .ref aMn, .ref aMl, .ref aMs, .int vMD, .ref aMd, .int vME, .ref aMe, .int vMO, .ref aMo, .int vMF, .int vMS, .ref aMw, .ref aMu, .int vMX, .int vMW]))]) (w2 := fun (u_37 : Int32 × Int32) => [(aM, .inr (7, [.int u_37.2, .int vMP, .ref aMh, .ref aMi, .ref aMc, .int vMK, .ref aMt, .int vMB, .ref aMn, .ref aMl, .ref aMs, .int vMD, .ref aMd, .int vME, .ref aMe, .int vMO, .ref aMo, .int vMF, .int vMS, .ref aMw, .ref aMu, .int vMX, .int vMW])), (aMt, .inl (cA, 24, .inl (vMt)))]) ⟨hx, hb, hml, hown, hg⟩ (c_M_refuse l dC dI cA cZ aM aMh aMi aMc aMt aMn aMl aMs aMd aMe aMo aMw aMu _ vMT vMP vMK vMB vMD vME vMO vMF vMS vMX vMW 1 0 0) (cwV 3 hg (q_gV mw_642 mw_643 mw_771 mw_8 mw_644) rfl rfl rfl qh_M_refuse ⟨Nat.le_of_ble_eq_true rfl, Nat.le_of_ble_eq_true rfl⟩) hN hK hP hD hS hA [0] [1] rfl rfl (by decide) (by decide) (by decide) [1, 0] (fun _ => rfl) (by decide) 0 7 rfl rfl rfl hl.1 rfl (Nat.le_of_ble_eq_true rfl) qd_M_put_37 ⟨Nat.zero_le _, Nat.zero_le _⟩ (fun u_37 H locs w_37 hP hD hS => ?_)
  have hP : va_P (dC, dI) vwCl [(aM, .inr (7, [.int u_37.2, .int vMP, .ref aMh, .ref aMi, .ref aMc, .int vMK, .ref aMt, .int vMB, .ref aMn, .ref aMl, .ref aMs, .int vMD, .ref aMd, .int vME, .ref aMe, .int vMO, .ref aMo, .int vMF, .int vMS, .ref aMw, .ref aMu, .int vMX, .int vMW])), (aMt, .inl (cA, 24, .inl (vMt)))] H := hP
  have hD : va_D A [(aM, .inr (7, [.int u_37.2, .int vMP, .ref aMh, .ref aMi, .ref aMc, .int vMK, .ref aMt, .int vMB, .ref aMn, .ref aMl, .ref aMs, .int vMD, .ref aMd, .int vME, .ref aMe, .int vMO, .ref aMo, .int vMF, .int vMS, .ref aMw, .ref aMu, .int vMX, .int vMW])), (aMt, .inl (cA, 24, .inl (vMt)))] := hD
  have hres := hres.trans (bd_eq w_37)
  have ho := (bd_eq w_37).mp ho
  refine lv_if_eq (tgt := 45) hx hb qd_M_put_40 (by decide) (fun c_40 => ?_) (fun c_40 => ?_)
  · have hres := hres.trans (if_pos c_40)
    have ho := (if_pos c_40).mp ho
    refine lv_aload_n hx hb qd_M_put_45 rfl (lv_at hl 1 rfl) ?_
    refine va_get (D := (dC, dI)) (ci := 7) (v := .ref aMt) (C := qR_M) (T := qT_M) (N := 23) hx hb hg qi_M hown hK hP 0 rfl rfl 6 (by decide) (hg _ mw_580) (fun _ h9 => h9) rfl qd_M_put_46 ?_
    refine lv_aload_n hx hb qd_M_put_49 rfl (lv_at hl 1 rfl) ?_
    refine va_get (D := (dC, dI)) (ci := 7) (v := .int vMK) (C := qR_M) (T := qT_M) (N := 23) hx hb hg qi_M hown hK hP 0 rfl rfl 5 (by decide) (hg _ mw_579) (fun _ h9 => h9) rfl qd_M_put_50 ?_
    refine lv_iload_n hx hb qd_M_put_53 rfl (lv_at hl 2 rfl) ?_
    obtain ⟨g_54, ho⟩ := ho
    refine va_iast hx hb hK hP hD hS 1 0 rfl rfl g_54 qd_M_put_54 (fun H locs hP hD hS => ?_)
    have hP : va_P (dC, dI) vwCl [(aM, .inr (7, [.int u_37.2, .int vMP, .ref aMh, .ref aMi, .ref aMc, .int vMK, .ref aMt, .int vMB, .ref aMn, .ref aMl, .ref aMs, .int vMD, .ref aMd, .int vME, .ref aMe, .int vMO, .ref aMo, .int vMF, .int vMS, .ref aMw, .ref aMu, .int vMX, .int vMW])), (aMt, .inl (cA, 24, .inl (upd vMt vMK.toNatClampNeg p0)))] H := hP
    have hD : va_D A [(aM, .inr (7, [.int u_37.2, .int vMP, .ref aMh, .ref aMi, .ref aMc, .int vMK, .ref aMt, .int vMB, .ref aMn, .ref aMl, .ref aMs, .int vMD, .ref aMd, .int vME, .ref aMe, .int vMO, .ref aMo, .int vMF, .int vMS, .ref aMw, .ref aMu, .int vMX, .int vMW])), (aMt, .inl (cA, 24, .inl (upd vMt vMK.toNatClampNeg p0)))] := hD
    refine lv_aload_n hx hb qd_M_put_55 rfl (lv_at hl 1 rfl) ?_
    refine lv_dup hx hb qd_M_put_56 rfl ?_
    refine va_get (D := (dC, dI)) (ci := 7) (v := .int vMK) (C := qR_M) (T := qT_M) (N := 23) hx hb hg qi_M hown hK hP 0 rfl rfl 5 (by decide) (hg _ mw_579) (fun _ h9 => h9) rfl qd_M_put_57 ?_
    refine lv_iconst (v := 1) hx hb qd_M_put_60 (by decide) ?_
    refine lv_iadd hx hb qd_M_put_61 ?_
    refine va_put (D := (dC, dI)) (ci := 7) (v := .int (vMK + 1)) (ty := .int) (C := qR_M) (T := qT_M) (N := 23) hx hb hg qi_M qt_M qk_M qn_M hown hK hP hD hS 0 rfl rfl 5 (by decide) (hg _ mw_579) (fun _ h9 => h9) rfl (by decide +kernel) rfl rfl (Nat.le_of_ble_eq_true rfl) qd_M_put_62 (fun H locs hP hD hS => ?_)
    have hP : va_P (dC, dI) vwCl [(aM, .inr (7, [.int u_37.2, .int vMP, .ref aMh, .ref aMi, .ref aMc, .int (vMK + 1), .ref aMt, .int vMB, .ref aMn, .ref aMl, .ref aMs, .int vMD, .ref aMd, .int vME, .ref aMe, .int vMO, .ref aMo, .int vMF, .int vMS, .ref aMw, .ref aMu, .int vMX, .int vMW])), (aMt, .inl (cA, 24, .inl (upd vMt vMK.toNatClampNeg p0)))] H := hP
    have hD : va_D A [(aM, .inr (7, [.int u_37.2, .int vMP, .ref aMh, .ref aMi, .ref aMc, .int (vMK + 1), .ref aMt, .int vMB, .ref aMn, .ref aMl, .ref aMs, .int vMD, .ref aMd, .int vME, .ref aMe, .int vMO, .ref aMo, .int vMF, .int vMS, .ref aMw, .ref aMu, .int vMX, .int vMW])), (aMt, .inl (cA, 24, .inl (upd vMt vMK.toNatClampNeg p0)))] := hD
    refine lv_aload_n hx hb qd_M_put_65 rfl (lv_at hl 1 rfl) ?_
    refine lv_iconst (v := 0) hx hb qd_M_put_66 (by decide) ?_
    refine va_put (D := (dC, dI)) (ci := 7) (v := .int 0) (ty := .boolean) (C := qR_M) (T := qT_M) (N := 23) hx hb hg qi_M qt_M qk_M qn_M hown hK hP hD hS 0 rfl rfl 7 (by decide) (hg _ mw_581) (fun _ h9 => h9) rfl (by decide +kernel) rfl rfl (Nat.le_of_ble_eq_true rfl) qd_M_put_67 (fun H locs hP hD hS => ?_)
    have hP : va_P (dC, dI) vwCl [(aM, .inr (7, [.int u_37.2, .int vMP, .ref aMh, .ref aMi, .ref aMc, .int (vMK + 1), .ref aMt, .int 0, .ref aMn, .ref aMl, .ref aMs, .int vMD, .ref aMd, .int vME, .ref aMe, .int vMO, .ref aMo, .int vMF, .int vMS, .ref aMw, .ref aMu, .int vMX, .int vMW])), (aMt, .inl (cA, 24, .inl (upd vMt vMK.toNatClampNeg p0)))] H := hP
    have hD : va_D A [(aM, .inr (7, [.int u_37.2, .int vMP, .ref aMh, .ref aMi, .ref aMc, .int (vMK + 1), .ref aMt, .int 0, .ref aMn, .ref aMl, .ref aMs, .int vMD, .ref aMd, .int vME, .ref aMe, .int vMO, .ref aMo, .int vMF, .int vMS, .ref aMw, .ref aMu, .int vMX, .int vMW])), (aMt, .inl (cA, 24, .inl (upd vMt vMK.toNatClampNeg p0)))] := hD
    refine lv_aload_n hx hb qd_M_put_70 rfl (lv_at hl 1 rfl) ?_
    refine va_get (D := (dC, dI)) (ci := 7) (v := .int (vMK + 1)) (C := qR_M) (T := qT_M) (N := 23) hx hb hg qi_M hown hK hP 0 rfl rfl 5 (by decide) (hg _ mw_579) (fun _ h9 => h9) rfl qd_M_put_71 ?_
    exact W.iret (v := vMK + 1) hx hb hr (fun t ht hW => ⟨⟨_, (vMK + 1, u_37.2, vMK + 1, 0, upd vMt vMK.toNatClampNeg p0), rfl, ⟨hres.symm, rfl⟩, ⟨by rw [ht]; exact hP, va_K.moved hW.alike hK, x_N hN hW⟩, hD⟩, hS.F ht⟩) hS.2.2 qd_M_put_74
  have hres := hres.trans (if_neg c_40)
  have ho := (if_neg c_40).mp ho
  refine lv_iconst (v := 0) hx hb qd_M_put_43 (by decide) ?_
  exact W.iret (v := 0) hx hb hr (fun t ht hW => ⟨⟨_, (0, u_37.2, vMK, vMB, vMt), rfl, ⟨hres.symm, rfl⟩, ⟨by rw [ht]; exact hP, va_K.moved hW.alike hK, x_N hN hW⟩, hD⟩, hS.F ht⟩) hS.2.2 qd_M_put_44
theorem qd_M_cut_0 : decode qc_M_cut 0 = .ok (.aload_n 0, 1) := by decide +kernel
theorem qd_M_cut_1 : decode qc_M_cut 1 = .ok (.iload_n 1, 1) := by decide +kernel
theorem qd_M_cut_2 : decode qc_M_cut 2 = .ok (.iconst 0, 1) := by decide +kernel
theorem qd_M_cut_3 : decode qc_M_cut 3 = .ok (.aload_n 0, 1) := by decide +kernel
theorem qd_M_cut_4 : decode qc_M_cut 4 = .ok (.getfield 54, 3) := by decide +kernel
theorem qd_M_cut_7 : decode qc_M_cut 7 = .ok (.invokestatic 64, 3) := by decide +kernel
theorem qd_M_cut_10 : decode qc_M_cut 10 = .ok (.ifCond .ne 7, 3) := by decide +kernel
theorem qd_M_cut_13 : decode qc_M_cut 13 = .ok (.iconst 1, 1) := by decide +kernel
theorem qd_M_cut_14 : decode qc_M_cut 14 = .ok (.goto 4, 3) := by decide +kernel
theorem qd_M_cut_17 : decode qc_M_cut 17 = .ok (.iconst 0, 1) := by decide +kernel
theorem qd_M_cut_18 : decode qc_M_cut 18 = .ok (.iconst 0, 1) := by decide +kernel
theorem qd_M_cut_19 : decode qc_M_cut 19 = .ok (.iconst 0, 1) := by decide +kernel
theorem qd_M_cut_20 : decode qc_M_cut 20 = .ok (.invokevirtual 76, 3) := by decide +kernel
theorem qd_M_cut_23 : decode qc_M_cut 23 = .ok (.ifCond .ne 13, 3) := by decide +kernel
theorem qd_M_cut_26 : decode qc_M_cut 26 = .ok (.aload_n 0, 1) := by decide +kernel
theorem qd_M_cut_27 : decode qc_M_cut 27 = .ok (.iload_n 1, 1) := by decide +kernel
theorem qd_M_cut_28 : decode qc_M_cut 28 = .ok (.putfield 54, 3) := by decide +kernel
theorem qd_M_cut_31 : decode qc_M_cut 31 = .ok (.aload_n 0, 1) := by decide +kernel
theorem qd_M_cut_32 : decode qc_M_cut 32 = .ok (.iconst 0, 1) := by decide +kernel
theorem qd_M_cut_33 : decode qc_M_cut 33 = .ok (.putfield 60, 3) := by decide +kernel
theorem qd_M_cut_36 : decode qc_M_cut 36 = .ok (.return_, 1) := by decide +kernel
set_option maxHeartbeats 4000000 in
set_option maxRecDepth 100000 in
theorem c_M_cut (l : Launch) (dC : Nat → ClassId) (dI : Nat → Nat → Nat) (cA cZ : ClassId) (aM aMh aMi aMc aMt aMn aMl aMs aMd aMe aMo aMw aMu : Nat) (sz : Nat) (vMT : Int32) (vMP : Int32) (vMK : Int32) (vMB : Int32) (vMD : Int32) (vME : Int32) (vMO : Int32) (vMF : Int32) (vMS : Int32) (vMX : Int32) (vMW : Int32) (p0 : Int32) : Met l qy_M_cut qw_M_cut ({ frames := 1, cells := 0, slots := 0, locals := 23 }) (va_Pc [.ref aM, .int p0] (fun U => U.heap.size = sz ∧ xP (dC, dI) [(cA, .int), (cZ, .boolean)] [(aM, .inr (7, [.int vMT, .int vMP, .ref aMh, .ref aMi, .ref aMc, .int vMK, .ref aMt, .int vMB, .ref aMn, .ref aMl, .ref aMs, .int vMD, .ref aMd, .int vME, .ref aMe, .int vMO, .ref aMo, .int vMF, .int vMS, .ref aMw, .ref aMu, .int vMX, .int vMW]))] nestN U ∧ va_D (fun _ => True) [(aM, .inr (7, [.int vMT, .int vMP, .ref aMh, .ref aMi, .ref aMc, .int vMK, .ref aMt, .int vMB, .ref aMn, .ref aMl, .ref aMs, .int vMD, .ref aMd, .int vME, .ref aMe, .int vMO, .ref aMo, .int vMF, .int vMS, .ref aMw, .ref aMu, .int vMX, .int vMW]))])) (va_Qv (fun u => u = f_M_cut vMT vMK vMB p0) (fun (u : Int32 × Int32 × Int32) t => xP (dC, dI) [(cA, .int), (cZ, .boolean)] [(aM, .inr (7, [.int u.1, .int vMP, .ref aMh, .ref aMi, .ref aMc, .int u.2.1, .ref aMt, .int u.2.2, .ref aMn, .ref aMl, .ref aMs, .int vMD, .ref aMd, .int vME, .ref aMe, .int vMO, .ref aMo, .int vMF, .int vMS, .ref aMw, .ref aMu, .int vMX, .int vMW]))] nestN t ∧ va_D (va_A [(aM, .inr (7, [.int vMT, .int vMP, .ref aMh, .ref aMi, .ref aMc, .int vMK, .ref aMt, .int vMB, .ref aMn, .ref aMl, .ref aMs, .int vMD, .ref aMd, .int vME, .ref aMe, .int vMO, .ref aMo, .int vMF, .int vMS, .ref aMw, .ref aMu, .int vMX, .int vMW]))] sz) [(aM, .inr (7, [.int u.1, .int vMP, .ref aMh, .ref aMi, .ref aMc, .int u.2.1, .ref aMt, .int u.2.2, .ref aMn, .ref aMl, .ref aMs, .int vMD, .ref aMd, .int vME, .ref aMe, .int vMO, .ref aMo, .int vMF, .int vMS, .ref aMw, .ref aMu, .int vMX, .int vMW]))]) (va_A [(aM, .inr (7, [.int vMT, .int vMP, .ref aMh, .ref aMi, .ref aMc, .int vMK, .ref aMt, .int vMB, .ref aMn, .ref aMl, .ref aMs, .int vMD, .ref aMd, .int vME, .ref aMe, .int vMO, .ref aMo, .int vMF, .int vMS, .ref aMw, .ref aMu, .int vMX, .int vMW]))] sz)) 0 0 (va_A [(aM, .inr (7, [.int vMT, .int vMP, .ref aMh, .ref aMi, .ref aMc, .int vMK, .ref aMt, .int vMB, .ref aMn, .ref aMl, .ref aMs, .int vMD, .ref aMd, .int vME, .ref aMe, .int vMO, .ref aMo, .int vMF, .int vMS, .ref aMw, .ref aMu, .int vMX, .int vMW]))] sz) := by
  refine Met.ofW (cc := qc_M_cut) (maxL := 2) (ret := (none)) (by decide) rfl ?_
  intro p e s m args below meth c s₁ B hml hv
  obtain ⟨rfl, hsz, ⟨hP, hK, hN⟩, hD0⟩ := hv
  have hx := B.exec
  have hb := B.bytes
  have hr := B.returns
  have hts := atoms_spec (ws := qw_M_cut) B.pre
  have hg : ∀ w ∈ gG, w.before _ s = true := fun w h => hts w (List.mem_cons_of_mem _ h)
  have hown : s.vm.findClass qR_M = some m.cls := findClass_of_methodNamed B.named
  have hlocks := B.notSynchronized
  subst hsz
  have hD := hD0.self (sz := s.heap.size)
  generalize hAe : va_A [(aM, .inr (7, [.int vMT, .int vMP, .ref aMh, .ref aMi, .ref aMc, .int vMK, .ref aMt, .int vMB, .ref aMn, .ref aMl, .ref aMs, .int vMD, .ref aMd, .int vME, .ref aMe, .int vMO, .ref aMo, .int vMF, .int vMS, .ref aMw, .ref aMu, .int vMX, .int vMW]))] s.heap.size = A at hD ⊢
  have hA : ∀ q : Nat, s.heap.size ≤ q → A q := fun q h => by rw [← hAe]; exact Or.inr h
  have hS : va_S A s.heap s.heap [] := va_S.rf
  have hP : va_P (dC, dI) vwCl [(aM, .inr (7, [.int vMT, .int vMP, .ref aMh, .ref aMi, .ref aMc, .int vMK, .ref aMt, .int vMB, .ref aMn, .ref aMl, .ref aMs, .int vMD, .ref aMd, .int vME, .ref aMe, .int vMO, .ref aMo, .int vMF, .int vMS, .ref aMw, .ref aMu, .int vMX, .int vMW]))] s.heap := hP
  have hl := lv_entry ([.ref aM, .int p0]) (n := 2) (Nat.le_of_ble_eq_true rfl)
  rw [lg_entry_eq]
  generalize (lg_sl ([.ref aM, .int p0]) ++ List.replicate (2 - (lg_sl ([.ref aM, .int p0])).length) Slot.unset).toArray = ls at hl ⊢
  have hl : lv_has ls 2 [(0, .ref aM), (1, .int p0)] := hl
  generalize hF : f_M_cut vMT vMK vMB p0 = Fv
  have hres : Fv = f_M_cut vMT vMK vMB p0 := hF.symm
  unfold f_M_cut at hres
  refine lv_aload_n hx hb qd_M_cut_0 rfl (lv_at hl 0 rfl) ?_
  refine lv_iload_n hx hb qd_M_cut_1 rfl (lv_at hl 1 rfl) ?_
  refine lv_iconst (v := 0) hx hb qd_M_cut_2 (by decide) ?_
  refine lv_aload_n hx hb qd_M_cut_3 rfl (lv_at hl 0 rfl) ?_
  refine va_get (D := (dC, dI)) (ci := 7) (v := .int vMK) (C := qR_M) (T := qT_M) (N := 23) hx hb hg qi_M hown hK hP 0 rfl rfl 5 (by decide) (hg _ mw_579) (fun _ h9 => h9) rfl qd_M_cut_4 ?_
  refine xc_S (As := [.int p0, .int 0, .int vMK]) (rest := [.ref aM]) ⟨hx, hb, hml, hown, hg⟩ (c_M_in l dC dI cA cZ p0 0 vMK) (va_cwS 3 hg (q_gS mw_633 mw_634 mw_8 mw_635) rfl rfl rfl qh_M_in.2 ⟨Nat.le_of_ble_eq_true rfl, Nat.le_of_ble_eq_true rfl⟩) hN hK hP [] rfl rfl hl.1 rfl (Nat.le_of_ble_eq_true rfl) qd_M_cut_7 ⟨Nat.zero_le _, Nat.zero_le _⟩ ?_
  refine lv_topi (fun r_7 w_7 => ?_)
  have hres := hres.trans (bd_eq w_7)
  refine lv_if_ne (tgt := 17) hx hb qd_M_cut_10 (by decide) (fun c_10 => ?_) (fun c_10 => ?_)
  · have hres := hres.trans (if_neg c_10)
    refine lv_iconst (v := 0) hx hb qd_M_cut_17 (by decide) ?_
    refine lv_iconst (v := 0) hx hb qd_M_cut_18 (by decide) ?_
    refine lv_iconst (v := 0) hx hb qd_M_cut_19 (by decide) ?_
    refine xm_Vi (As := [.int 0, .int 0, .int 0]) (rest := []) (w1 := fun (u_20 : Int32 × Int32) => [(aM, .inr (7, [.int u_20.2, .int vMP, .ref aMh, .ref aMi, .ref aMc, .int vMK, .ref aMt, .int vMB, .ref aMn, .ref aMl, .ref aMs, .int vMD, .ref aMd, .int vME, .ref aMe, .int vMO, .ref aMo, .int vMF, .int vMS, .ref aMw, .ref aMu, .int vMX, .int vMW]))]) (w2 := fun (u_20 : Int32 × Int32) => [(aM, .inr (7, [.int u_20.2, .int vMP, .ref aMh, .ref aMi, .ref aMc, .int vMK, .ref aMt, .int vMB, .ref aMn, .ref aMl, .ref aMs, .int vMD, .ref aMd, .int vME, .ref aMe, .int vMO, .ref aMo, .int vMF, .int vMS, .ref aMw, .ref aMu, .int vMX, .int vMW]))]) ⟨hx, hb, hml, hown, hg⟩ (c_M_refuse l dC dI cA cZ aM aMh aMi aMc aMt aMn aMl aMs aMd aMe aMo aMw aMu _ vMT vMP vMK vMB vMD vME vMO vMF vMS vMX vMW 0 0 0) (cwV 3 hg (q_gV mw_642 mw_643 mw_771 mw_8 mw_644) rfl rfl rfl qh_M_refuse ⟨Nat.le_of_ble_eq_true rfl, Nat.le_of_ble_eq_true rfl⟩) hN hK hP hD hS hA [0] [] rfl rfl (by decide) (by decide) (by decide) [0] (fun _ => rfl) (by decide) 0 7 rfl rfl rfl hl.1 rfl (Nat.le_of_ble_eq_true rfl) qd_M_cut_20 ⟨Nat.zero_le _, Nat.zero_le _⟩ (fun u_20 H locs w_20 hP hD hS => ?_)
    have hP : va_P (dC, dI) vwCl [(aM, .inr (7, [.int u_20.2, .int vMP, .ref aMh, .ref aMi, .ref aMc, .int vMK, .ref aMt, .int vMB, .ref aMn, .ref aMl, .ref aMs, .int vMD, .ref aMd, .int vME, .ref aMe, .int vMO, .ref aMo, .int vMF, .int vMS, .ref aMw, .ref aMu, .int vMX, .int vMW]))] H := hP
    have hD : va_D A [(aM, .inr (7, [.int u_20.2, .int vMP, .ref aMh, .ref aMi, .ref aMc, .int vMK, .ref aMt, .int vMB, .ref aMn, .ref aMl, .ref aMs, .int vMD, .ref aMd, .int vME, .ref aMe, .int vMO, .ref aMo, .int vMF, .int vMS, .ref aMw, .ref aMu, .int vMX, .int vMW]))] := hD
    have hres := hres.trans (bd_eq w_20)
    refine lv_if_ne (tgt := 36) hx hb qd_M_cut_23 (by decide) (fun c_23 => ?_) (fun c_23 => ?_)
    · have hres := hres.trans (if_neg c_23)
      exact W.vret hx hb hr (fun t ht hW => ⟨⟨(u_20.2, vMK, vMB), rfl, hres.symm, ⟨by rw [ht]; exact hP, va_K.moved hW.alike hK, x_N hN hW⟩, hD⟩, hS.F ht⟩) hS.2.2 qd_M_cut_36
    have hres := hres.trans (if_pos c_23)
    refine lv_aload_n hx hb qd_M_cut_26 rfl (lv_at hl 0 rfl) ?_
    refine lv_iload_n hx hb qd_M_cut_27 rfl (lv_at hl 1 rfl) ?_
    refine va_put (D := (dC, dI)) (ci := 7) (v := .int p0) (ty := .int) (C := qR_M) (T := qT_M) (N := 23) hx hb hg qi_M qt_M qk_M qn_M hown hK hP hD hS 0 rfl rfl 5 (by decide) (hg _ mw_579) (fun _ h9 => h9) rfl (by decide +kernel) rfl rfl (Nat.le_of_ble_eq_true rfl) qd_M_cut_28 (fun H locs hP hD hS => ?_)
    have hP : va_P (dC, dI) vwCl [(aM, .inr (7, [.int u_20.2, .int vMP, .ref aMh, .ref aMi, .ref aMc, .int p0, .ref aMt, .int vMB, .ref aMn, .ref aMl, .ref aMs, .int vMD, .ref aMd, .int vME, .ref aMe, .int vMO, .ref aMo, .int vMF, .int vMS, .ref aMw, .ref aMu, .int vMX, .int vMW]))] H := hP
    have hD : va_D A [(aM, .inr (7, [.int u_20.2, .int vMP, .ref aMh, .ref aMi, .ref aMc, .int p0, .ref aMt, .int vMB, .ref aMn, .ref aMl, .ref aMs, .int vMD, .ref aMd, .int vME, .ref aMe, .int vMO, .ref aMo, .int vMF, .int vMS, .ref aMw, .ref aMu, .int vMX, .int vMW]))] := hD
    refine lv_aload_n hx hb qd_M_cut_31 rfl (lv_at hl 0 rfl) ?_
    refine lv_iconst (v := 0) hx hb qd_M_cut_32 (by decide) ?_
    refine va_put (D := (dC, dI)) (ci := 7) (v := .int 0) (ty := .boolean) (C := qR_M) (T := qT_M) (N := 23) hx hb hg qi_M qt_M qk_M qn_M hown hK hP hD hS 0 rfl rfl 7 (by decide) (hg _ mw_581) (fun _ h9 => h9) rfl (by decide +kernel) rfl rfl (Nat.le_of_ble_eq_true rfl) qd_M_cut_33 (fun H locs hP hD hS => ?_)
    have hP : va_P (dC, dI) vwCl [(aM, .inr (7, [.int u_20.2, .int vMP, .ref aMh, .ref aMi, .ref aMc, .int p0, .ref aMt, .int 0, .ref aMn, .ref aMl, .ref aMs, .int vMD, .ref aMd, .int vME, .ref aMe, .int vMO, .ref aMo, .int vMF, .int vMS, .ref aMw, .ref aMu, .int vMX, .int vMW]))] H := hP
    have hD : va_D A [(aM, .inr (7, [.int u_20.2, .int vMP, .ref aMh, .ref aMi, .ref aMc, .int p0, .ref aMt, .int 0, .ref aMn, .ref aMl, .ref aMs, .int vMD, .ref aMd, .int vME, .ref aMe, .int vMO, .ref aMo, .int vMF, .int vMS, .ref aMw, .ref aMu, .int vMX, .int vMW]))] := hD
    exact W.vret hx hb hr (fun t ht hW => ⟨⟨(u_20.2, p0, 0), rfl, hres.symm, ⟨by rw [ht]; exact hP, va_K.moved hW.alike hK, x_N hN hW⟩, hD⟩, hS.F ht⟩) hS.2.2 qd_M_cut_36
  have hres := hres.trans (if_pos c_10)
  refine lv_iconst (v := 1) hx hb qd_M_cut_13 (by decide) ?_
  refine lv_goto (tgt := 18) hx hb qd_M_cut_14 (by decide) ?_
  refine lv_iconst (v := 0) hx hb qd_M_cut_18 (by decide) ?_
  refine lv_iconst (v := 0) hx hb qd_M_cut_19 (by decide) ?_
  refine xm_Vi (As := [.int 1, .int 0, .int 0]) (rest := []) (w1 := fun (u_20 : Int32 × Int32) => [(aM, .inr (7, [.int u_20.2, .int vMP, .ref aMh, .ref aMi, .ref aMc, .int vMK, .ref aMt, .int vMB, .ref aMn, .ref aMl, .ref aMs, .int vMD, .ref aMd, .int vME, .ref aMe, .int vMO, .ref aMo, .int vMF, .int vMS, .ref aMw, .ref aMu, .int vMX, .int vMW]))]) (w2 := fun (u_20 : Int32 × Int32) => [(aM, .inr (7, [.int u_20.2, .int vMP, .ref aMh, .ref aMi, .ref aMc, .int vMK, .ref aMt, .int vMB, .ref aMn, .ref aMl, .ref aMs, .int vMD, .ref aMd, .int vME, .ref aMe, .int vMO, .ref aMo, .int vMF, .int vMS, .ref aMw, .ref aMu, .int vMX, .int vMW]))]) ⟨hx, hb, hml, hown, hg⟩ (c_M_refuse l dC dI cA cZ aM aMh aMi aMc aMt aMn aMl aMs aMd aMe aMo aMw aMu _ vMT vMP vMK vMB vMD vME vMO vMF vMS vMX vMW 1 0 0) (cwV 3 hg (q_gV mw_642 mw_643 mw_771 mw_8 mw_644) rfl rfl rfl qh_M_refuse ⟨Nat.le_of_ble_eq_true rfl, Nat.le_of_ble_eq_true rfl⟩) hN hK hP hD hS hA [0] [] rfl rfl (by decide) (by decide) (by decide) [0] (fun _ => rfl) (by decide) 0 7 rfl rfl rfl hl.1 rfl (Nat.le_of_ble_eq_true rfl) qd_M_cut_20 ⟨Nat.zero_le _, Nat.zero_le _⟩ (fun u_20 H locs w_20 hP hD hS => ?_)
  have hP : va_P (dC, dI) vwCl [(aM, .inr (7, [.int u_20.2, .int vMP, .ref aMh, .ref aMi, .ref aMc, .int vMK, .ref aMt, .int vMB, .ref aMn, .ref aMl, .ref aMs, .int vMD, .ref aMd, .int vME, .ref aMe, .int vMO, .ref aMo, .int vMF, .int vMS, .ref aMw, .ref aMu, .int vMX, .int vMW]))] H := hP
  have hD : va_D A [(aM, .inr (7, [.int u_20.2, .int vMP, .ref aMh, .ref aMi, .ref aMc, .int vMK, .ref aMt, .int vMB, .ref aMn, .ref aMl, .ref aMs, .int vMD, .ref aMd, .int vME, .ref aMe, .int vMO, .ref aMo, .int vMF, .int vMS, .ref aMw, .ref aMu, .int vMX, .int vMW]))] := hD
  have hres := hres.trans (bd_eq w_20)
  refine lv_if_ne (tgt := 36) hx hb qd_M_cut_23 (by decide) (fun c_23 => ?_) (fun c_23 => ?_)
  · have hres := hres.trans (if_neg c_23)
    exact W.vret hx hb hr (fun t ht hW => ⟨⟨(u_20.2, vMK, vMB), rfl, hres.symm, ⟨by rw [ht]; exact hP, va_K.moved hW.alike hK, x_N hN hW⟩, hD⟩, hS.F ht⟩) hS.2.2 qd_M_cut_36
  have hres := hres.trans (if_pos c_23)
  refine lv_aload_n hx hb qd_M_cut_26 rfl (lv_at hl 0 rfl) ?_
  refine lv_iload_n hx hb qd_M_cut_27 rfl (lv_at hl 1 rfl) ?_
  refine va_put (D := (dC, dI)) (ci := 7) (v := .int p0) (ty := .int) (C := qR_M) (T := qT_M) (N := 23) hx hb hg qi_M qt_M qk_M qn_M hown hK hP hD hS 0 rfl rfl 5 (by decide) (hg _ mw_579) (fun _ h9 => h9) rfl (by decide +kernel) rfl rfl (Nat.le_of_ble_eq_true rfl) qd_M_cut_28 (fun H locs hP hD hS => ?_)
  have hP : va_P (dC, dI) vwCl [(aM, .inr (7, [.int u_20.2, .int vMP, .ref aMh, .ref aMi, .ref aMc, .int p0, .ref aMt, .int vMB, .ref aMn, .ref aMl, .ref aMs, .int vMD, .ref aMd, .int vME, .ref aMe, .int vMO, .ref aMo, .int vMF, .int vMS, .ref aMw, .ref aMu, .int vMX, .int vMW]))] H := hP
  have hD : va_D A [(aM, .inr (7, [.int u_20.2, .int vMP, .ref aMh, .ref aMi, .ref aMc, .int p0, .ref aMt, .int vMB, .ref aMn, .ref aMl, .ref aMs, .int vMD, .ref aMd, .int vME, .ref aMe, .int vMO, .ref aMo, .int vMF, .int vMS, .ref aMw, .ref aMu, .int vMX, .int vMW]))] := hD
  refine lv_aload_n hx hb qd_M_cut_31 rfl (lv_at hl 0 rfl) ?_
  refine lv_iconst (v := 0) hx hb qd_M_cut_32 (by decide) ?_
  refine va_put (D := (dC, dI)) (ci := 7) (v := .int 0) (ty := .boolean) (C := qR_M) (T := qT_M) (N := 23) hx hb hg qi_M qt_M qk_M qn_M hown hK hP hD hS 0 rfl rfl 7 (by decide) (hg _ mw_581) (fun _ h9 => h9) rfl (by decide +kernel) rfl rfl (Nat.le_of_ble_eq_true rfl) qd_M_cut_33 (fun H locs hP hD hS => ?_)
  have hP : va_P (dC, dI) vwCl [(aM, .inr (7, [.int u_20.2, .int vMP, .ref aMh, .ref aMi, .ref aMc, .int p0, .ref aMt, .int 0, .ref aMn, .ref aMl, .ref aMs, .int vMD, .ref aMd, .int vME, .ref aMe, .int vMO, .ref aMo, .int vMF, .int vMS, .ref aMw, .ref aMu, .int vMX, .int vMW]))] H := hP
  have hD : va_D A [(aM, .inr (7, [.int u_20.2, .int vMP, .ref aMh, .ref aMi, .ref aMc, .int p0, .ref aMt, .int 0, .ref aMn, .ref aMl, .ref aMs, .int vMD, .ref aMd, .int vME, .ref aMe, .int vMO, .ref aMo, .int vMF, .int vMS, .ref aMw, .ref aMu, .int vMX, .int vMW]))] := hD
  exact W.vret hx hb hr (fun t ht hW => ⟨⟨(u_20.2, p0, 0), rfl, hres.symm, ⟨by rw [ht]; exact hP, va_K.moved hW.alike hK, x_N hN hW⟩, hD⟩, hS.F ht⟩) hS.2.2 qd_M_cut_36
theorem qd_M_at_0 : decode qc_M_at 0 = .ok (.sipush 625, 3) := by decide +kernel
theorem qd_M_at_3 : decode qc_M_at 3 = .ok (.iload_n 0, 1) := by decide +kernel
theorem qd_M_at_4 : decode qc_M_at 4 = .ok (.imul, 1) := by decide +kernel
theorem qd_M_at_5 : decode qc_M_at 5 = .ok (.bipush 25, 2) := by decide +kernel
theorem qd_M_at_7 : decode qc_M_at 7 = .ok (.iload_n 1, 1) := by decide +kernel
theorem qd_M_at_8 : decode qc_M_at 8 = .ok (.imul, 1) := by decide +kernel
theorem qd_M_at_9 : decode qc_M_at 9 = .ok (.iadd, 1) := by decide +kernel
theorem qd_M_at_10 : decode qc_M_at 10 = .ok (.iload_n 2, 1) := by decide +kernel
theorem qd_M_at_11 : decode qc_M_at 11 = .ok (.iadd, 1) := by decide +kernel
theorem qd_M_at_12 : decode qc_M_at 12 = .ok (.ireturn, 1) := by decide +kernel
set_option maxHeartbeats 4000000 in
set_option maxRecDepth 100000 in
theorem c_M_at (l : Launch) (dC : Nat → ClassId) (dI : Nat → Nat → Nat) (cA cZ : ClassId) (p0 : Int32) (p1 : Int32) (p2 : Int32) : Met l qy_M_at qw_M_at ({ frames := 0, cells := 0, slots := 0, locals := 0 }) (va_Pc [.int p0, .int p1, .int p2] (xP (dC, dI) [(cA, .int), (cZ, .boolean)] [] nestN)) (vp_Si (fun r => r = f_M_at p0 p1 p2)) 0 0 (fun _ => False) := by
  refine Met.ofW (cc := qc_M_at) (maxL := 3) (ret := (some .int)) (by decide) rfl ?_
  intro p e s m args below meth c s₁ B hml hv
  obtain ⟨rfl, hP, hK, hN⟩ := hv
  have hx := B.exec
  have hb := B.bytes
  have hr := B.returns
  have hts := atoms_spec (ws := qw_M_at) B.pre
  have hg : ∀ w ∈ gG, w.before _ s = true := fun w h => hts w (List.mem_cons_of_mem _ h)
  have hown : s.vm.findClass qR_M = some m.cls := findClass_of_methodNamed B.named
  have hlocks := B.notSynchronized
  have hP : va_P (dC, dI) vwCl [] s.heap := hP
  have hl := lv_entry ([.int p0, .int p1, .int p2]) (n := 3) (Nat.le_of_ble_eq_true rfl)
  rw [lg_entry_eq]
  generalize (lg_sl ([.int p0, .int p1, .int p2]) ++ List.replicate (3 - (lg_sl ([.int p0, .int p1, .int p2])).length) Slot.unset).toArray = ls at hl ⊢
  have hl : lv_has ls 3 [(0, .int p0), (1, .int p1), (2, .int p2)] := hl
  generalize hF : f_M_at p0 p1 p2 = Fv
  have hres : Fv = f_M_at p0 p1 p2 := hF.symm
  unfold f_M_at at hres
  refine lv_sipush (v := 625) hx hb qd_M_at_0 (by decide) ?_
  refine lv_iload_n hx hb qd_M_at_3 rfl (lv_at hl 0 rfl) ?_
  refine lv_imul hx hb qd_M_at_4 ?_
  refine lv_bipush (v := 25) hx hb qd_M_at_5 (by decide) ?_
  refine lv_iload_n hx hb qd_M_at_7 rfl (lv_at hl 1 rfl) ?_
  refine lv_imul hx hb qd_M_at_8 ?_
  refine lv_iadd hx hb qd_M_at_9 ?_
  refine lv_iload_n hx hb qd_M_at_10 rfl (lv_at hl 2 rfl) ?_
  refine lv_iadd hx hb qd_M_at_11 ?_
  exact W.iret (v := ((625 * p0) + (25 * p1)) + p2) hx hb hr (fun t ht hW => ⟨_, rfl, hres.symm, ht⟩) (fun _ h => nomatch h) qd_M_at_12
theorem qd_M_many_0 : decode qc_M_many 0 = .ok (.iload_n 1, 1) := by decide +kernel
theorem qd_M_many_1 : decode qc_M_many 1 = .ok (.bipush 10, 2) := by decide +kernel
theorem qd_M_many_3 : decode qc_M_many 3 = .ok (.if_icmp .lt 29, 3) := by decide +kernel
theorem qd_M_many_6 : decode qc_M_many 6 = .ok (.iload_n 3, 1) := by decide +kernel
theorem qd_M_many_7 : decode qc_M_many 7 = .ok (.iload_n 2, 1) := by decide +kernel
theorem qd_M_many_8 : decode qc_M_many 8 = .ok (.iconst 1, 1) := by decide +kernel
theorem qd_M_many_9 : decode qc_M_many 9 = .ok (.iadd, 1) := by decide +kernel
theorem qd_M_many_10 : decode qc_M_many 10 = .ok (.if_icmp .ne 20, 3) := by decide +kernel
theorem qd_M_many_13 : decode qc_M_many 13 = .ok (.aload_n 0, 1) := by decide +kernel
theorem qd_M_many_14 : decode qc_M_many 14 = .ok (.getfield 19, 3) := by decide +kernel
theorem qd_M_many_17 : decode qc_M_many 17 = .ok (.iload_n 2, 1) := by decide +kernel
theorem qd_M_many_18 : decode qc_M_many 18 = .ok (.iaload, 1) := by decide +kernel
theorem qd_M_many_19 : decode qc_M_many 19 = .ok (.iload_n 1, 1) := by decide +kernel
theorem qd_M_many_20 : decode qc_M_many 20 = .ok (.bipush 10, 2) := by decide +kernel
theorem qd_M_many_22 : decode qc_M_many 22 = .ok (.isub, 1) := by decide +kernel
theorem qd_M_many_23 : decode qc_M_many 23 = .ok (.if_icmp .ne 7, 3) := by decide +kernel
theorem qd_M_many_26 : decode qc_M_many 26 = .ok (.iconst 1, 1) := by decide +kernel
theorem qd_M_many_27 : decode qc_M_many 27 = .ok (.goto 4, 3) := by decide +kernel
theorem qd_M_many_30 : decode qc_M_many 30 = .ok (.iconst 0, 1) := by decide +kernel
theorem qd_M_many_31 : decode qc_M_many 31 = .ok (.ireturn, 1) := by decide +kernel
theorem qd_M_many_32 : decode qc_M_many 32 = .ok (.aload_n 0, 1) := by decide +kernel
theorem qd_M_many_33 : decode qc_M_many 33 = .ok (.getfield 22, 3) := by decide +kernel
theorem qd_M_many_36 : decode qc_M_many 36 = .ok (.iload_n 1, 1) := by decide +kernel
theorem qd_M_many_37 : decode qc_M_many 37 = .ok (.iload_n 2, 1) := by decide +kernel
theorem qd_M_many_38 : decode qc_M_many 38 = .ok (.iload_n 3, 1) := by decide +kernel
theorem qd_M_many_39 : decode qc_M_many 39 = .ok (.invokestatic 80, 3) := by decide +kernel
theorem qd_M_many_42 : decode qc_M_many 42 = .ok (.iaload, 1) := by decide +kernel
theorem qd_M_many_43 : decode qc_M_many 43 = .ok (.ireturn, 1) := by decide +kernel
set_option maxHeartbeats 4000000 in
set_option maxRecDepth 100000 in
theorem c_M_many (l : Launch) (dC : Nat → ClassId) (dI : Nat → Nat → Nat) (cA cZ : ClassId) (aM aMh aMi aMc aMt aMn aMl aMs aMd aMe aMo aMw aMu : Nat) (vMT : Int32) (vMP : Int32) (vMK : Int32) (vMB : Int32) (vMD : Int32) (vME : Int32) (vMO : Int32) (vMF : Int32) (vMS : Int32) (vMX : Int32) (vMW : Int32) (vMt : (Nat → Int32)) (vMn : (Nat → Int32)) (p0 : Int32) (p1 : Int32) (p2 : Int32) (ho : o_M_many vMt vMn p0 p1 p2) : Met l qy_M_many qw_M_many ({ frames := 1, cells := 0, slots := 0, locals := 22 }) (va_Pc [.ref aM, .int p0, .int p1, .int p2] (xP (dC, dI) [(cA, .int), (cZ, .boolean)] [(aM, .inr (7, [.int vMT, .int vMP, .ref aMh, .ref aMi, .ref aMc, .int vMK, .ref aMt, .int vMB, .ref aMn, .ref aMl, .ref aMs, .int vMD, .ref aMd, .int vME, .ref aMe, .int vMO, .ref aMo, .int vMF, .int vMS, .ref aMw, .ref aMu, .int vMX, .int vMW])), (aMt, .inl (cA, 24, .inl (vMt))), (aMn, .inl (cA, 6250, .inl (vMn)))] nestN)) (vp_Si (fun r => r = f_M_many vMt vMn p0 p1 p2)) 0 0 (fun _ => False) := by
  refine Met.ofW (cc := qc_M_many) (maxL := 4) (ret := (some .int)) (by decide) rfl ?_
  intro p e s m args below meth c s₁ B hml hv
  obtain ⟨rfl, hP, hK, hN⟩ := hv
  have hx := B.exec
  have hb := B.bytes
  have hr := B.returns
  have hts := atoms_spec (ws := qw_M_many) B.pre
  have hg : ∀ w ∈ gG, w.before _ s = true := fun w h => hts w (List.mem_cons_of_mem _ h)
  have hown : s.vm.findClass qR_M = some m.cls := findClass_of_methodNamed B.named
  have hlocks := B.notSynchronized
  have hP : va_P (dC, dI) vwCl [(aM, .inr (7, [.int vMT, .int vMP, .ref aMh, .ref aMi, .ref aMc, .int vMK, .ref aMt, .int vMB, .ref aMn, .ref aMl, .ref aMs, .int vMD, .ref aMd, .int vME, .ref aMe, .int vMO, .ref aMo, .int vMF, .int vMS, .ref aMw, .ref aMu, .int vMX, .int vMW])), (aMt, .inl (cA, 24, .inl (vMt))), (aMn, .inl (cA, 6250, .inl (vMn)))] s.heap := hP
  have hl := lv_entry ([.ref aM, .int p0, .int p1, .int p2]) (n := 4) (Nat.le_of_ble_eq_true rfl)
  rw [lg_entry_eq]
  generalize (lg_sl ([.ref aM, .int p0, .int p1, .int p2]) ++ List.replicate (4 - (lg_sl ([.ref aM, .int p0, .int p1, .int p2])).length) Slot.unset).toArray = ls at hl ⊢
  have hl : lv_has ls 4 [(0, .ref aM), (1, .int p0), (2, .int p1), (3, .int p2)] := hl
  generalize hF : f_M_many vMt vMn p0 p1 p2 = Fv
  have hres : Fv = f_M_many vMt vMn p0 p1 p2 := hF.symm
  unfold f_M_many at hres
  unfold o_M_many at ho
  refine lv_iload_n hx hb qd_M_many_0 rfl (lv_at hl 1 rfl) ?_
  refine lv_bipush (v := 10) hx hb qd_M_many_1 (by decide) ?_
  refine lv_icmp_lt (tgt := 32) hx hb qd_M_many_3 (by decide) (fun c_3 => ?_) (fun c_3 => ?_)
  · have hres := hres.trans (if_pos c_3)
    have ho := (if_pos c_3).mp ho
    refine lv_aload_n hx hb qd_M_many_32 rfl (lv_at hl 0 rfl) ?_
    refine va_get (D := (dC, dI)) (ci := 7) (v := .ref aMn) (C := qR_M) (T := qT_M) (N := 23) hx hb hg qi_M hown hK hP 0 rfl rfl 8 (by decide) (hg _ mw_582) (fun _ h9 => h9) rfl qd_M_many_33 ?_
    refine lv_iload_n hx hb qd_M_many_36 rfl (lv_at hl 1 rfl) ?_
    refine lv_iload_n hx hb qd_M_many_37 rfl (lv_at hl 2 rfl) ?_
    refine lv_iload_n hx hb qd_M_many_38 rfl (lv_at hl 3 rfl) ?_
    refine xc_S (As := [.int p0, .int p1, .int p2]) (rest := [.ref aMn]) ⟨hx, hb, hml, hown, hg⟩ (c_M_at l dC dI cA cZ p0 p1 p2) (va_cwS 3 hg (q_gS mw_663 mw_664 mw_8 mw_665) rfl rfl rfl qh_M_at.2 ⟨Nat.le_of_ble_eq_true rfl, Nat.le_of_ble_eq_true rfl⟩) hN hK hP [] rfl rfl hl.1 rfl (Nat.le_of_ble_eq_true rfl) qd_M_many_39 ⟨Nat.zero_le _, Nat.zero_le _⟩ ?_
    refine lv_topi (fun r_39 w_39 => ?_)
    have hres := hres.trans (bd_eq w_39)
    have ho := (bd_eq w_39).mp ho
    obtain ⟨g_42, ho⟩ := ho
    refine va_iald hx hb hK hP 2 0 rfl rfl g_42 qd_M_many_42 ?_
    exact W.iret (v := vMn r_39.toNatClampNeg) hx hb hr (fun t ht hW => ⟨_, rfl, hres.symm, ht⟩) (fun _ h => nomatch h) qd_M_many_43
  have hres := hres.trans (if_neg c_3)
  have ho := (if_neg c_3).mp ho
  refine lv_iload_n hx hb qd_M_many_6 rfl (lv_at hl 3 rfl) ?_
  refine lv_iload_n hx hb qd_M_many_7 rfl (lv_at hl 2 rfl) ?_
  refine lv_iconst (v := 1) hx hb qd_M_many_8 (by decide) ?_
  refine lv_iadd hx hb qd_M_many_9 ?_
  refine lv_icmp_ne (tgt := 30) hx hb qd_M_many_10 (by decide) (fun c_10 => ?_) (fun c_10 => ?_)
  · have hres := hres.trans (if_neg c_10)
    have ho := (if_neg c_10).mp ho
    refine lv_iconst (v := 0) hx hb qd_M_many_30 (by decide) ?_
    exact W.iret (v := 0) hx hb hr (fun t ht hW => ⟨_, rfl, hres.symm, ht⟩) (fun _ h => nomatch h) qd_M_many_31
  have hres := hres.trans (if_pos c_10)
  have ho := (if_pos c_10).mp ho
  refine lv_aload_n hx hb qd_M_many_13 rfl (lv_at hl 0 rfl) ?_
  refine va_get (D := (dC, dI)) (ci := 7) (v := .ref aMt) (C := qR_M) (T := qT_M) (N := 23) hx hb hg qi_M hown hK hP 0 rfl rfl 6 (by decide) (hg _ mw_580) (fun _ h9 => h9) rfl qd_M_many_14 ?_
  refine lv_iload_n hx hb qd_M_many_17 rfl (lv_at hl 2 rfl) ?_
  obtain ⟨g_18, ho⟩ := ho
  refine va_iald hx hb hK hP 1 0 rfl rfl g_18 qd_M_many_18 ?_
  refine lv_iload_n hx hb qd_M_many_19 rfl (lv_at hl 1 rfl) ?_
  refine lv_bipush (v := 10) hx hb qd_M_many_20 (by decide) ?_
  refine lv_isub hx hb qd_M_many_22 ?_
  refine lv_icmp_ne (tgt := 30) hx hb qd_M_many_23 (by decide) (fun c_23 => ?_) (fun c_23 => ?_)
  · have hres := hres.trans (if_neg c_23)
    have ho := (if_neg c_23).mp ho
    refine lv_iconst (v := 0) hx hb qd_M_many_30 (by decide) ?_
    exact W.iret (v := 0) hx hb hr (fun t ht hW => ⟨_, rfl, hres.symm, ht⟩) (fun _ h => nomatch h) qd_M_many_31
  have hres := hres.trans (if_pos c_23)
  have ho := (if_pos c_23).mp ho
  refine lv_iconst (v := 1) hx hb qd_M_many_26 (by decide) ?_
  refine lv_goto (tgt := 31) hx hb qd_M_many_27 (by decide) ?_
  exact W.iret (v := 1) hx hb hr (fun t ht hW => ⟨_, rfl, hres.symm, ht⟩) (fun _ h => nomatch h) qd_M_many_31
theorem qd_M_cheapest_0 : decode qc_M_cheapest 0 = .ok (.iload_n 1, 1) := by decide +kernel
theorem qd_M_cheapest_1 : decode qc_M_cheapest 1 = .ok (.bipush 10, 2) := by decide +kernel
theorem qd_M_cheapest_3 : decode qc_M_cheapest 3 = .ok (.if_icmp .lt 30, 3) := by decide +kernel
theorem qd_M_cheapest_6 : decode qc_M_cheapest 6 = .ok (.iload_n 3, 1) := by decide +kernel
theorem qd_M_cheapest_7 : decode qc_M_cheapest 7 = .ok (.iload_n 2, 1) := by decide +kernel
theorem qd_M_cheapest_8 : decode qc_M_cheapest 8 = .ok (.iconst 1, 1) := by decide +kernel
theorem qd_M_cheapest_9 : decode qc_M_cheapest 9 = .ok (.iadd, 1) := by decide +kernel
theorem qd_M_cheapest_10 : decode qc_M_cheapest 10 = .ok (.if_icmp .ne 20, 3) := by decide +kernel
theorem qd_M_cheapest_13 : decode qc_M_cheapest 13 = .ok (.aload_n 0, 1) := by decide +kernel
theorem qd_M_cheapest_14 : decode qc_M_cheapest 14 = .ok (.getfield 19, 3) := by decide +kernel
theorem qd_M_cheapest_17 : decode qc_M_cheapest 17 = .ok (.iload_n 2, 1) := by decide +kernel
theorem qd_M_cheapest_18 : decode qc_M_cheapest 18 = .ok (.iaload, 1) := by decide +kernel
theorem qd_M_cheapest_19 : decode qc_M_cheapest 19 = .ok (.iload_n 1, 1) := by decide +kernel
theorem qd_M_cheapest_20 : decode qc_M_cheapest 20 = .ok (.bipush 10, 2) := by decide +kernel
theorem qd_M_cheapest_22 : decode qc_M_cheapest 22 = .ok (.isub, 1) := by decide +kernel
theorem qd_M_cheapest_23 : decode qc_M_cheapest 23 = .ok (.if_icmp .ne 7, 3) := by decide +kernel
theorem qd_M_cheapest_26 : decode qc_M_cheapest 26 = .ok (.iconst 0, 1) := by decide +kernel
theorem qd_M_cheapest_27 : decode qc_M_cheapest 27 = .ok (.goto 5, 3) := by decide +kernel
theorem qd_M_cheapest_30 : decode qc_M_cheapest 30 = .ok (.ldc 84, 2) := by decide +kernel
theorem qd_M_cheapest_32 : decode qc_M_cheapest 32 = .ok (.ireturn, 1) := by decide +kernel
theorem qd_M_cheapest_33 : decode qc_M_cheapest 33 = .ok (.aload_n 0, 1) := by decide +kernel
theorem qd_M_cheapest_34 : decode qc_M_cheapest 34 = .ok (.getfield 25, 3) := by decide +kernel
theorem qd_M_cheapest_37 : decode qc_M_cheapest 37 = .ok (.iload_n 1, 1) := by decide +kernel
theorem qd_M_cheapest_38 : decode qc_M_cheapest 38 = .ok (.iload_n 2, 1) := by decide +kernel
theorem qd_M_cheapest_39 : decode qc_M_cheapest 39 = .ok (.iload_n 3, 1) := by decide +kernel
theorem qd_M_cheapest_40 : decode qc_M_cheapest 40 = .ok (.invokestatic 80, 3) := by decide +kernel
theorem qd_M_cheapest_43 : decode qc_M_cheapest 43 = .ok (.iaload, 1) := by decide +kernel
theorem qd_M_cheapest_44 : decode qc_M_cheapest 44 = .ok (.ireturn, 1) := by decide +kernel
set_option maxHeartbeats 4000000 in
set_option maxRecDepth 100000 in
theorem c_M_cheapest (l : Launch) (dC : Nat → ClassId) (dI : Nat → Nat → Nat) (cA cZ : ClassId) (aM aMh aMi aMc aMt aMn aMl aMs aMd aMe aMo aMw aMu : Nat) (vMT : Int32) (vMP : Int32) (vMK : Int32) (vMB : Int32) (vMD : Int32) (vME : Int32) (vMO : Int32) (vMF : Int32) (vMS : Int32) (vMX : Int32) (vMW : Int32) (vMt : (Nat → Int32)) (vMl : (Nat → Int32)) (p0 : Int32) (p1 : Int32) (p2 : Int32) (ho : o_M_cheapest vMt vMl p0 p1 p2) : Met l qy_M_cheapest qw_M_cheapest ({ frames := 1, cells := 0, slots := 0, locals := 22 }) (va_Pc [.ref aM, .int p0, .int p1, .int p2] (xP (dC, dI) [(cA, .int), (cZ, .boolean)] [(aM, .inr (7, [.int vMT, .int vMP, .ref aMh, .ref aMi, .ref aMc, .int vMK, .ref aMt, .int vMB, .ref aMn, .ref aMl, .ref aMs, .int vMD, .ref aMd, .int vME, .ref aMe, .int vMO, .ref aMo, .int vMF, .int vMS, .ref aMw, .ref aMu, .int vMX, .int vMW])), (aMt, .inl (cA, 24, .inl (vMt))), (aMl, .inl (cA, 6250, .inl (vMl)))] nestN)) (vp_Si (fun r => r = f_M_cheapest vMt vMl p0 p1 p2)) 0 0 (fun _ => False) := by
  refine Met.ofW (cc := qc_M_cheapest) (maxL := 4) (ret := (some .int)) (by decide) rfl ?_
  intro p e s m args below meth c s₁ B hml hv
  obtain ⟨rfl, hP, hK, hN⟩ := hv
  have hx := B.exec
  have hb := B.bytes
  have hr := B.returns
  have hts := atoms_spec (ws := qw_M_cheapest) B.pre
  have hg : ∀ w ∈ gG, w.before _ s = true := fun w h => hts w (List.mem_cons_of_mem _ h)
  have hown : s.vm.findClass qR_M = some m.cls := findClass_of_methodNamed B.named
  have hlocks := B.notSynchronized
  have hP : va_P (dC, dI) vwCl [(aM, .inr (7, [.int vMT, .int vMP, .ref aMh, .ref aMi, .ref aMc, .int vMK, .ref aMt, .int vMB, .ref aMn, .ref aMl, .ref aMs, .int vMD, .ref aMd, .int vME, .ref aMe, .int vMO, .ref aMo, .int vMF, .int vMS, .ref aMw, .ref aMu, .int vMX, .int vMW])), (aMt, .inl (cA, 24, .inl (vMt))), (aMl, .inl (cA, 6250, .inl (vMl)))] s.heap := hP
  have hl := lv_entry ([.ref aM, .int p0, .int p1, .int p2]) (n := 4) (Nat.le_of_ble_eq_true rfl)
  rw [lg_entry_eq]
  generalize (lg_sl ([.ref aM, .int p0, .int p1, .int p2]) ++ List.replicate (4 - (lg_sl ([.ref aM, .int p0, .int p1, .int p2])).length) Slot.unset).toArray = ls at hl ⊢
  have hl : lv_has ls 4 [(0, .ref aM), (1, .int p0), (2, .int p1), (3, .int p2)] := hl
  generalize hF : f_M_cheapest vMt vMl p0 p1 p2 = Fv
  have hres : Fv = f_M_cheapest vMt vMl p0 p1 p2 := hF.symm
  unfold f_M_cheapest at hres
  unfold o_M_cheapest at ho
  refine lv_iload_n hx hb qd_M_cheapest_0 rfl (lv_at hl 1 rfl) ?_
  refine lv_bipush (v := 10) hx hb qd_M_cheapest_1 (by decide) ?_
  refine lv_icmp_lt (tgt := 33) hx hb qd_M_cheapest_3 (by decide) (fun c_3 => ?_) (fun c_3 => ?_)
  · have hres := hres.trans (if_pos c_3)
    have ho := (if_pos c_3).mp ho
    refine lv_aload_n hx hb qd_M_cheapest_33 rfl (lv_at hl 0 rfl) ?_
    refine va_get (D := (dC, dI)) (ci := 7) (v := .ref aMl) (C := qR_M) (T := qT_M) (N := 23) hx hb hg qi_M hown hK hP 0 rfl rfl 9 (by decide) (hg _ mw_583) (fun _ h9 => h9) rfl qd_M_cheapest_34 ?_
    refine lv_iload_n hx hb qd_M_cheapest_37 rfl (lv_at hl 1 rfl) ?_
    refine lv_iload_n hx hb qd_M_cheapest_38 rfl (lv_at hl 2 rfl) ?_
    refine lv_iload_n hx hb qd_M_cheapest_39 rfl (lv_at hl 3 rfl) ?_
    refine xc_S (As := [.int p0, .int p1, .int p2]) (rest := [.ref aMl]) ⟨hx, hb, hml, hown, hg⟩ (c_M_at l dC dI cA cZ p0 p1 p2) (va_cwS 3 hg (q_gS mw_663 mw_664 mw_8 mw_665) rfl rfl rfl qh_M_at.2 ⟨Nat.le_of_ble_eq_true rfl, Nat.le_of_ble_eq_true rfl⟩) hN hK hP [] rfl rfl hl.1 rfl (Nat.le_of_ble_eq_true rfl) qd_M_cheapest_40 ⟨Nat.zero_le _, Nat.zero_le _⟩ ?_
    refine lv_topi (fun r_40 w_40 => ?_)
    have hres := hres.trans (bd_eq w_40)
    have ho := (bd_eq w_40).mp ho
    obtain ⟨g_43, ho⟩ := ho
    refine va_iald hx hb hK hP 2 0 rfl rfl g_43 qd_M_cheapest_43 ?_
    exact W.iret (v := vMl r_40.toNatClampNeg) hx hb hr (fun t ht hW => ⟨_, rfl, hres.symm, ht⟩) (fun _ h => nomatch h) qd_M_cheapest_44
  have hres := hres.trans (if_neg c_3)
  have ho := (if_neg c_3).mp ho
  refine lv_iload_n hx hb qd_M_cheapest_6 rfl (lv_at hl 3 rfl) ?_
  refine lv_iload_n hx hb qd_M_cheapest_7 rfl (lv_at hl 2 rfl) ?_
  refine lv_iconst (v := 1) hx hb qd_M_cheapest_8 (by decide) ?_
  refine lv_iadd hx hb qd_M_cheapest_9 ?_
  refine lv_icmp_ne (tgt := 30) hx hb qd_M_cheapest_10 (by decide) (fun c_10 => ?_) (fun c_10 => ?_)
  · have hres := hres.trans (if_neg c_10)
    have ho := (if_neg c_10).mp ho
    refine lv_ldc (v := 2000000000) hx hb hown (hg _ mw_666) qd_M_cheapest_30 ?_
    exact W.iret (v := 2000000000) hx hb hr (fun t ht hW => ⟨_, rfl, hres.symm, ht⟩) (fun _ h => nomatch h) qd_M_cheapest_32
  have hres := hres.trans (if_pos c_10)
  have ho := (if_pos c_10).mp ho
  refine lv_aload_n hx hb qd_M_cheapest_13 rfl (lv_at hl 0 rfl) ?_
  refine va_get (D := (dC, dI)) (ci := 7) (v := .ref aMt) (C := qR_M) (T := qT_M) (N := 23) hx hb hg qi_M hown hK hP 0 rfl rfl 6 (by decide) (hg _ mw_580) (fun _ h9 => h9) rfl qd_M_cheapest_14 ?_
  refine lv_iload_n hx hb qd_M_cheapest_17 rfl (lv_at hl 2 rfl) ?_
  obtain ⟨g_18, ho⟩ := ho
  refine va_iald hx hb hK hP 1 0 rfl rfl g_18 qd_M_cheapest_18 ?_
  refine lv_iload_n hx hb qd_M_cheapest_19 rfl (lv_at hl 1 rfl) ?_
  refine lv_bipush (v := 10) hx hb qd_M_cheapest_20 (by decide) ?_
  refine lv_isub hx hb qd_M_cheapest_22 ?_
  refine lv_icmp_ne (tgt := 30) hx hb qd_M_cheapest_23 (by decide) (fun c_23 => ?_) (fun c_23 => ?_)
  · have hres := hres.trans (if_neg c_23)
    have ho := (if_neg c_23).mp ho
    refine lv_ldc (v := 2000000000) hx hb hown (hg _ mw_666) qd_M_cheapest_30 ?_
    exact W.iret (v := 2000000000) hx hb hr (fun t ht hW => ⟨_, rfl, hres.symm, ht⟩) (fun _ h => nomatch h) qd_M_cheapest_32
  have hres := hres.trans (if_pos c_23)
  have ho := (if_pos c_23).mp ho
  refine lv_iconst (v := 0) hx hb qd_M_cheapest_26 (by decide) ?_
  refine lv_goto (tgt := 32) hx hb qd_M_cheapest_27 (by decide) ?_
  exact W.iret (v := 0) hx hb hr (fun t ht hW => ⟨_, rfl, hres.symm, ht⟩) (fun _ h => nomatch h) qd_M_cheapest_32
theorem qd_M_times_0 : decode qc_M_times 0 = .ok (.iload_n 0, 1) := by decide +kernel
theorem qd_M_times_1 : decode qc_M_times 1 = .ok (.i2l, 1) := by decide +kernel
theorem qd_M_times_2 : decode qc_M_times 2 = .ok (.iload_n 1, 1) := by decide +kernel
theorem qd_M_times_3 : decode qc_M_times 3 = .ok (.i2l, 1) := by decide +kernel
theorem qd_M_times_4 : decode qc_M_times 4 = .ok (.lmul, 1) := by decide +kernel
theorem qd_M_times_5 : decode qc_M_times 5 = .ok (.lstore_n 2, 1) := by decide +kernel
theorem qd_M_times_6 : decode qc_M_times 6 = .ok (.lload_n 2, 1) := by decide +kernel
theorem qd_M_times_7 : decode qc_M_times 7 = .ok (.ldc2_w 85, 3) := by decide +kernel
theorem qd_M_times_10 : decode qc_M_times 10 = .ok (.lcmp, 1) := by decide +kernel
theorem qd_M_times_11 : decode qc_M_times 11 = .ok (.ifCond .le 8, 3) := by decide +kernel
theorem qd_M_times_14 : decode qc_M_times 14 = .ok (.ldc 87, 2) := by decide +kernel
theorem qd_M_times_16 : decode qc_M_times 16 = .ok (.goto 5, 3) := by decide +kernel
theorem qd_M_times_19 : decode qc_M_times 19 = .ok (.lload_n 2, 1) := by decide +kernel
theorem qd_M_times_20 : decode qc_M_times 20 = .ok (.l2i, 1) := by decide +kernel
theorem qd_M_times_21 : decode qc_M_times 21 = .ok (.ireturn, 1) := by decide +kernel
set_option maxHeartbeats 4000000 in
set_option maxRecDepth 100000 in
theorem c_M_times (l : Launch) (dC : Nat → ClassId) (dI : Nat → Nat → Nat) (cA cZ : ClassId) (p0 : Int32) (p1 : Int32) : Met l qy_M_times qw_M_times ({ frames := 0, cells := 0, slots := 0, locals := 0 }) (va_Pc [.int p0, .int p1] (xP (dC, dI) [(cA, .int), (cZ, .boolean)] [] nestN)) (vp_Si (fun r => r = f_M_times p0 p1)) 0 0 (fun _ => False) := by
  refine Met.ofW (cc := qc_M_times) (maxL := 4) (ret := (some .int)) (by decide) rfl ?_
  intro p e s m args below meth c s₁ B hml hv
  obtain ⟨rfl, hP, hK, hN⟩ := hv
  have hx := B.exec
  have hb := B.bytes
  have hr := B.returns
  have hts := atoms_spec (ws := qw_M_times) B.pre
  have hg : ∀ w ∈ gG, w.before _ s = true := fun w h => hts w (List.mem_cons_of_mem _ h)
  have hown : s.vm.findClass qR_M = some m.cls := findClass_of_methodNamed B.named
  have hlocks := B.notSynchronized
  have hP : va_P (dC, dI) vwCl [] s.heap := hP
  have hl := lv_entry ([.int p0, .int p1]) (n := 4) (Nat.le_of_ble_eq_true rfl)
  rw [lg_entry_eq]
  generalize (lg_sl ([.int p0, .int p1]) ++ List.replicate (4 - (lg_sl ([.int p0, .int p1])).length) Slot.unset).toArray = ls at hl ⊢
  have hl : lv_has ls 4 [(0, .int p0), (1, .int p1)] := hl
  generalize hF : f_M_times p0 p1 = Fv
  have hres : Fv = f_M_times p0 p1 := hF.symm
  unfold f_M_times at hres
  refine lv_iload_n hx hb qd_M_times_0 rfl (lv_at hl 0 rfl) ?_
  refine lv_i2l hx hb qd_M_times_1 rfl ?_
  refine lv_iload_n hx hb qd_M_times_2 rfl (lv_at hl 1 rfl) ?_
  refine lv_i2l hx hb qd_M_times_3 rfl ?_
  refine lv_lmul hx hb qd_M_times_4 ?_
  refine lv_lstore_n (lv' := [(2, .long (p0.toInt64 * p1.toInt64)), (0, .int p0), (1, .int p1)]) hx hb qd_M_times_5 rfl hl (by decide) rfl (fun ls hl => ?_)
  refine lv_lload_n hx hb qd_M_times_6 rfl (lv_at hl 0 rfl) ?_
  refine lv_ldc2 (v := 1000000000) hx hb hown (hg _ mw_688) qd_M_times_7 ?_
  refine W.lcmp hx hb qd_M_times_10 ?_
  refine lv_topi (fun r_10 w_10 => ?_)
  have hres := hres.trans (bd_eq w_10)
  refine lv_if_le (tgt := 19) hx hb qd_M_times_11 (by decide) (fun c_11 => ?_) (fun c_11 => ?_)
  · have hres := hres.trans (if_pos c_11)
    refine lv_lload_n hx hb qd_M_times_19 rfl (lv_at hl 0 rfl) ?_
    refine lv_l2i hx hb qd_M_times_20 rfl ?_
    exact W.iret (v := (p0.toInt64 * p1.toInt64).toInt32) hx hb hr (fun t ht hW => ⟨_, rfl, hres.symm, ht⟩) (fun _ h => nomatch h) qd_M_times_21
  have hres := hres.trans (if_neg c_11)
  refine lv_ldc (v := 1000000000) hx hb hown (hg _ mw_689) qd_M_times_14 ?_
  refine lv_goto (tgt := 21) hx hb qd_M_times_16 (by decide) ?_
  exact W.iret (v := 1000000000) hx hb hr (fun t ht hW => ⟨_, rfl, hres.symm, ht⟩) (fun _ h => nomatch h) qd_M_times_21
theorem qd_M_plus_0 : decode qc_M_plus 0 = .ok (.iload_n 0, 1) := by decide +kernel
theorem qd_M_plus_1 : decode qc_M_plus 1 = .ok (.ldc 87, 2) := by decide +kernel
theorem qd_M_plus_3 : decode qc_M_plus 3 = .ok (.iload_n 1, 1) := by decide +kernel
theorem qd_M_plus_4 : decode qc_M_plus 4 = .ok (.isub, 1) := by decide +kernel
theorem qd_M_plus_5 : decode qc_M_plus 5 = .ok (.if_icmp .le 8, 3) := by decide +kernel
theorem qd_M_plus_8 : decode qc_M_plus 8 = .ok (.ldc 87, 2) := by decide +kernel
theorem qd_M_plus_10 : decode qc_M_plus 10 = .ok (.goto 6, 3) := by decide +kernel
theorem qd_M_plus_13 : decode qc_M_plus 13 = .ok (.iload_n 0, 1) := by decide +kernel
theorem qd_M_plus_14 : decode qc_M_plus 14 = .ok (.iload_n 1, 1) := by decide +kernel
theorem qd_M_plus_15 : decode qc_M_plus 15 = .ok (.iadd, 1) := by decide +kernel
theorem qd_M_plus_16 : decode qc_M_plus 16 = .ok (.ireturn, 1) := by decide +kernel
set_option maxHeartbeats 4000000 in
set_option maxRecDepth 100000 in
theorem c_M_plus (l : Launch) (dC : Nat → ClassId) (dI : Nat → Nat → Nat) (cA cZ : ClassId) (p0 : Int32) (p1 : Int32) : Met l qy_M_plus qw_M_plus ({ frames := 0, cells := 0, slots := 0, locals := 0 }) (va_Pc [.int p0, .int p1] (xP (dC, dI) [(cA, .int), (cZ, .boolean)] [] nestN)) (vp_Si (fun r => r = f_M_plus p0 p1)) 0 0 (fun _ => False) := by
  refine Met.ofW (cc := qc_M_plus) (maxL := 2) (ret := (some .int)) (by decide) rfl ?_
  intro p e s m args below meth c s₁ B hml hv
  obtain ⟨rfl, hP, hK, hN⟩ := hv
  have hx := B.exec
  have hb := B.bytes
  have hr := B.returns
  have hts := atoms_spec (ws := qw_M_plus) B.pre
  have hg : ∀ w ∈ gG, w.before _ s = true := fun w h => hts w (List.mem_cons_of_mem _ h)
  have hown : s.vm.findClass qR_M = some m.cls := findClass_of_methodNamed B.named
  have hlocks := B.notSynchronized
  have hP : va_P (dC, dI) vwCl [] s.heap := hP
  have hl := lv_entry ([.int p0, .int p1]) (n := 2) (Nat.le_of_ble_eq_true rfl)
  rw [lg_entry_eq]
  generalize (lg_sl ([.int p0, .int p1]) ++ List.replicate (2 - (lg_sl ([.int p0, .int p1])).length) Slot.unset).toArray = ls at hl ⊢
  have hl : lv_has ls 2 [(0, .int p0), (1, .int p1)] := hl
  generalize hF : f_M_plus p0 p1 = Fv
  have hres : Fv = f_M_plus p0 p1 := hF.symm
  unfold f_M_plus at hres
  refine lv_iload_n hx hb qd_M_plus_0 rfl (lv_at hl 0 rfl) ?_
  refine lv_ldc (v := 1000000000) hx hb hown (hg _ mw_689) qd_M_plus_1 ?_
  refine lv_iload_n hx hb qd_M_plus_3 rfl (lv_at hl 1 rfl) ?_
  refine lv_isub hx hb qd_M_plus_4 ?_
  refine lv_icmp_le (tgt := 13) hx hb qd_M_plus_5 (by decide) (fun c_5 => ?_) (fun c_5 => ?_)
  · have hres := hres.trans (if_pos c_5)
    refine lv_iload_n hx hb qd_M_plus_13 rfl (lv_at hl 0 rfl) ?_
    refine lv_iload_n hx hb qd_M_plus_14 rfl (lv_at hl 1 rfl) ?_
    refine lv_iadd hx hb qd_M_plus_15 ?_
    exact W.iret (v := p0 + p1) hx hb hr (fun t ht hW => ⟨_, rfl, hres.symm, ht⟩) (fun _ h => nomatch h) qd_M_plus_16
  have hres := hres.trans (if_neg c_5)
  refine lv_ldc (v := 1000000000) hx hb hown (hg _ mw_689) qd_M_plus_8 ?_
  refine lv_goto (tgt := 16) hx hb qd_M_plus_10 (by decide) ?_
  exact W.iret (v := 1000000000) hx hb hr (fun t ht hW => ⟨_, rfl, hres.symm, ht⟩) (fun _ h => nomatch h) qd_M_plus_16
theorem qd_M_sum_0 : decode qc_M_sum 0 = .ok (.iload_n 0, 1) := by decide +kernel
theorem qd_M_sum_1 : decode qc_M_sum 1 = .ok (.ldc 84, 2) := by decide +kernel
theorem qd_M_sum_3 : decode qc_M_sum 3 = .ok (.if_icmp .eq 9, 3) := by decide +kernel
theorem qd_M_sum_6 : decode qc_M_sum 6 = .ok (.iload_n 1, 1) := by decide +kernel
theorem qd_M_sum_7 : decode qc_M_sum 7 = .ok (.ldc 84, 2) := by decide +kernel
theorem qd_M_sum_9 : decode qc_M_sum 9 = .ok (.if_icmp .ne 8, 3) := by decide +kernel
theorem qd_M_sum_12 : decode qc_M_sum 12 = .ok (.ldc 84, 2) := by decide +kernel
theorem qd_M_sum_14 : decode qc_M_sum 14 = .ok (.goto 6, 3) := by decide +kernel
theorem qd_M_sum_17 : decode qc_M_sum 17 = .ok (.iload_n 0, 1) := by decide +kernel
theorem qd_M_sum_18 : decode qc_M_sum 18 = .ok (.iload_n 1, 1) := by decide +kernel
theorem qd_M_sum_19 : decode qc_M_sum 19 = .ok (.iadd, 1) := by decide +kernel
theorem qd_M_sum_20 : decode qc_M_sum 20 = .ok (.ireturn, 1) := by decide +kernel
set_option maxHeartbeats 4000000 in
set_option maxRecDepth 100000 in
theorem c_M_sum (l : Launch) (dC : Nat → ClassId) (dI : Nat → Nat → Nat) (cA cZ : ClassId) (p0 : Int32) (p1 : Int32) : Met l qy_M_sum qw_M_sum ({ frames := 0, cells := 0, slots := 0, locals := 0 }) (va_Pc [.int p0, .int p1] (xP (dC, dI) [(cA, .int), (cZ, .boolean)] [] nestN)) (vp_Si (fun r => r = f_M_sum p0 p1)) 0 0 (fun _ => False) := by
  refine Met.ofW (cc := qc_M_sum) (maxL := 2) (ret := (some .int)) (by decide) rfl ?_
  intro p e s m args below meth c s₁ B hml hv
  obtain ⟨rfl, hP, hK, hN⟩ := hv
  have hx := B.exec
  have hb := B.bytes
  have hr := B.returns
  have hts := atoms_spec (ws := qw_M_sum) B.pre
  have hg : ∀ w ∈ gG, w.before _ s = true := fun w h => hts w (List.mem_cons_of_mem _ h)
  have hown : s.vm.findClass qR_M = some m.cls := findClass_of_methodNamed B.named
  have hlocks := B.notSynchronized
  have hP : va_P (dC, dI) vwCl [] s.heap := hP
  have hl := lv_entry ([.int p0, .int p1]) (n := 2) (Nat.le_of_ble_eq_true rfl)
  rw [lg_entry_eq]
  generalize (lg_sl ([.int p0, .int p1]) ++ List.replicate (2 - (lg_sl ([.int p0, .int p1])).length) Slot.unset).toArray = ls at hl ⊢
  have hl : lv_has ls 2 [(0, .int p0), (1, .int p1)] := hl
  generalize hF : f_M_sum p0 p1 = Fv
  have hres : Fv = f_M_sum p0 p1 := hF.symm
  unfold f_M_sum at hres
  refine lv_iload_n hx hb qd_M_sum_0 rfl (lv_at hl 0 rfl) ?_
  refine lv_ldc (v := 2000000000) hx hb hown (hg _ mw_666) qd_M_sum_1 ?_
  refine lv_icmp_eq (tgt := 12) hx hb qd_M_sum_3 (by decide) (fun c_3 => ?_) (fun c_3 => ?_)
  · have hres := hres.trans (if_pos c_3)
    refine lv_ldc (v := 2000000000) hx hb hown (hg _ mw_666) qd_M_sum_12 ?_
    refine lv_goto (tgt := 20) hx hb qd_M_sum_14 (by decide) ?_
    exact W.iret (v := 2000000000) hx hb hr (fun t ht hW => ⟨_, rfl, hres.symm, ht⟩) (fun _ h => nomatch h) qd_M_sum_20
  have hres := hres.trans (if_neg c_3)
  refine lv_iload_n hx hb qd_M_sum_6 rfl (lv_at hl 1 rfl) ?_
  refine lv_ldc (v := 2000000000) hx hb hown (hg _ mw_666) qd_M_sum_7 ?_
  refine lv_icmp_ne (tgt := 17) hx hb qd_M_sum_9 (by decide) (fun c_9 => ?_) (fun c_9 => ?_)
  · have hres := hres.trans (if_neg c_9)
    refine lv_iload_n hx hb qd_M_sum_17 rfl (lv_at hl 0 rfl) ?_
    refine lv_iload_n hx hb qd_M_sum_18 rfl (lv_at hl 1 rfl) ?_
    refine lv_iadd hx hb qd_M_sum_19 ?_
    exact W.iret (v := p0 + p1) hx hb hr (fun t ht hW => ⟨_, rfl, hres.symm, ht⟩) (fun _ h => nomatch h) qd_M_sum_20
  have hres := hres.trans (if_pos c_9)
  refine lv_ldc (v := 2000000000) hx hb hown (hg _ mw_666) qd_M_sum_12 ?_
  refine lv_goto (tgt := 20) hx hb qd_M_sum_14 (by decide) ?_
  exact W.iret (v := 2000000000) hx hb hr (fun t ht hW => ⟨_, rfl, hres.symm, ht⟩) (fun _ h => nomatch h) qd_M_sum_20
theorem qd_M_length_0 : decode qc_M_length 0 = .ok (.aload_n 0, 1) := by decide +kernel
theorem qd_M_length_1 : decode qc_M_length 1 = .ok (.getfield 13, 3) := by decide +kernel
theorem qd_M_length_4 : decode qc_M_length 4 = .ok (.iconst 3, 1) := by decide +kernel
theorem qd_M_length_5 : decode qc_M_length 5 = .ok (.iload_n 1, 1) := by decide +kernel
theorem qd_M_length_6 : decode qc_M_length 6 = .ok (.imul, 1) := by decide +kernel
theorem qd_M_length_7 : decode qc_M_length 7 = .ok (.iconst 1, 1) := by decide +kernel
theorem qd_M_length_8 : decode qc_M_length 8 = .ok (.iadd, 1) := by decide +kernel
theorem qd_M_length_9 : decode qc_M_length 9 = .ok (.iaload, 1) := by decide +kernel
theorem qd_M_length_10 : decode qc_M_length 10 = .ok (.iconst (-1), 1) := by decide +kernel
theorem qd_M_length_11 : decode qc_M_length 11 = .ok (.if_icmp .ne 7, 3) := by decide +kernel
theorem qd_M_length_14 : decode qc_M_length 14 = .ok (.iconst 1, 1) := by decide +kernel
theorem qd_M_length_15 : decode qc_M_length 15 = .ok (.goto 22, 3) := by decide +kernel
theorem qd_M_length_18 : decode qc_M_length 18 = .ok (.aload_n 0, 1) := by decide +kernel
theorem qd_M_length_19 : decode qc_M_length 19 = .ok (.getfield 13, 3) := by decide +kernel
theorem qd_M_length_22 : decode qc_M_length 22 = .ok (.iconst 3, 1) := by decide +kernel
theorem qd_M_length_23 : decode qc_M_length 23 = .ok (.iload_n 1, 1) := by decide +kernel
theorem qd_M_length_24 : decode qc_M_length 24 = .ok (.imul, 1) := by decide +kernel
theorem qd_M_length_25 : decode qc_M_length 25 = .ok (.iconst 2, 1) := by decide +kernel
theorem qd_M_length_26 : decode qc_M_length 26 = .ok (.iadd, 1) := by decide +kernel
theorem qd_M_length_27 : decode qc_M_length 27 = .ok (.iaload, 1) := by decide +kernel
theorem qd_M_length_28 : decode qc_M_length 28 = .ok (.iconst (-1), 1) := by decide +kernel
theorem qd_M_length_29 : decode qc_M_length 29 = .ok (.if_icmp .ne 7, 3) := by decide +kernel
theorem qd_M_length_32 : decode qc_M_length 32 = .ok (.iconst 2, 1) := by decide +kernel
theorem qd_M_length_33 : decode qc_M_length 33 = .ok (.goto 4, 3) := by decide +kernel
theorem qd_M_length_36 : decode qc_M_length 36 = .ok (.iconst 3, 1) := by decide +kernel
theorem qd_M_length_37 : decode qc_M_length 37 = .ok (.ireturn, 1) := by decide +kernel
set_option maxHeartbeats 4000000 in
set_option maxRecDepth 100000 in
theorem c_M_length (l : Launch) (dC : Nat → ClassId) (dI : Nat → Nat → Nat) (cA cZ : ClassId) (aM aMh aMi aMc aMt aMn aMl aMs aMd aMe aMo aMw aMu : Nat) (vMT : Int32) (vMP : Int32) (vMK : Int32) (vMB : Int32) (vMD : Int32) (vME : Int32) (vMO : Int32) (vMF : Int32) (vMS : Int32) (vMX : Int32) (vMW : Int32) (vMi : (Nat → Int32)) (p0 : Int32) (ho : o_M_length vMi p0) : Met l qy_M_length qw_M_length ({ frames := 0, cells := 0, slots := 0, locals := 0 }) (va_Pc [.ref aM, .int p0] (xP (dC, dI) [(cA, .int), (cZ, .boolean)] [(aM, .inr (7, [.int vMT, .int vMP, .ref aMh, .ref aMi, .ref aMc, .int vMK, .ref aMt, .int vMB, .ref aMn, .ref aMl, .ref aMs, .int vMD, .ref aMd, .int vME, .ref aMe, .int vMO, .ref aMo, .int vMF, .int vMS, .ref aMw, .ref aMu, .int vMX, .int vMW])), (aMi, .inl (cA, 72, .inl (vMi)))] nestN)) (vp_Si (fun r => r = f_M_length vMi p0)) 0 0 (fun _ => False) := by
  refine Met.ofW (cc := qc_M_length) (maxL := 2) (ret := (some .int)) (by decide) rfl ?_
  intro p e s m args below meth c s₁ B hml hv
  obtain ⟨rfl, hP, hK, hN⟩ := hv
  have hx := B.exec
  have hb := B.bytes
  have hr := B.returns
  have hts := atoms_spec (ws := qw_M_length) B.pre
  have hg : ∀ w ∈ gG, w.before _ s = true := fun w h => hts w (List.mem_cons_of_mem _ h)
  have hown : s.vm.findClass qR_M = some m.cls := findClass_of_methodNamed B.named
  have hlocks := B.notSynchronized
  have hP : va_P (dC, dI) vwCl [(aM, .inr (7, [.int vMT, .int vMP, .ref aMh, .ref aMi, .ref aMc, .int vMK, .ref aMt, .int vMB, .ref aMn, .ref aMl, .ref aMs, .int vMD, .ref aMd, .int vME, .ref aMe, .int vMO, .ref aMo, .int vMF, .int vMS, .ref aMw, .ref aMu, .int vMX, .int vMW])), (aMi, .inl (cA, 72, .inl (vMi)))] s.heap := hP
  have hl := lv_entry ([.ref aM, .int p0]) (n := 2) (Nat.le_of_ble_eq_true rfl)
  rw [lg_entry_eq]
  generalize (lg_sl ([.ref aM, .int p0]) ++ List.replicate (2 - (lg_sl ([.ref aM, .int p0])).length) Slot.unset).toArray = ls at hl ⊢
  have hl : lv_has ls 2 [(0, .ref aM), (1, .int p0)] := hl
  generalize hF : f_M_length vMi p0 = Fv
  have hres : Fv = f_M_length vMi p0 := hF.symm
  unfold f_M_length at hres
  unfold o_M_length at ho
  refine lv_aload_n hx hb qd_M_length_0 rfl (lv_at hl 0 rfl) ?_
  refine va_get (D := (dC, dI)) (ci := 7) (v := .ref aMi) (C := qR_M) (T := qT_M) (N := 23) hx hb hg qi_M hown hK hP 0 rfl rfl 3 (by decide) (hg _ mw_577) (fun _ h9 => h9) rfl qd_M_length_1 ?_
  refine lv_iconst (v := 3) hx hb qd_M_length_4 (by decide) ?_
  refine lv_iload_n hx hb qd_M_length_5 rfl (lv_at hl 1 rfl) ?_
  refine lv_imul hx hb qd_M_length_6 ?_
  refine lv_iconst (v := 1) hx hb qd_M_length_7 (by decide) ?_
  refine lv_iadd hx hb qd_M_length_8 ?_
  obtain ⟨g_9, ho⟩ := ho
  refine va_iald hx hb hK hP 1 0 rfl rfl g_9 qd_M_length_9 ?_
  refine lv_iconst (v := (-1)) hx hb qd_M_length_10 (by decide) ?_
  refine lv_icmp_ne (tgt := 18) hx hb qd_M_length_11 (by decide) (fun c_11 => ?_) (fun c_11 => ?_)
  · have hres := hres.trans (if_neg c_11)
    have ho := (if_neg c_11).mp ho
    refine lv_aload_n hx hb qd_M_length_18 rfl (lv_at hl 0 rfl) ?_
    refine va_get (D := (dC, dI)) (ci := 7) (v := .ref aMi) (C := qR_M) (T := qT_M) (N := 23) hx hb hg qi_M hown hK hP 0 rfl rfl 3 (by decide) (hg _ mw_577) (fun _ h9 => h9) rfl qd_M_length_19 ?_
    refine lv_iconst (v := 3) hx hb qd_M_length_22 (by decide) ?_
    refine lv_iload_n hx hb qd_M_length_23 rfl (lv_at hl 1 rfl) ?_
    refine lv_imul hx hb qd_M_length_24 ?_
    refine lv_iconst (v := 2) hx hb qd_M_length_25 (by decide) ?_
    refine lv_iadd hx hb qd_M_length_26 ?_
    obtain ⟨g_27, ho⟩ := ho
    refine va_iald hx hb hK hP 1 0 rfl rfl g_27 qd_M_length_27 ?_
    refine lv_iconst (v := (-1)) hx hb qd_M_length_28 (by decide) ?_
    refine lv_icmp_ne (tgt := 36) hx hb qd_M_length_29 (by decide) (fun c_29 => ?_) (fun c_29 => ?_)
    · have hres := hres.trans (if_neg c_29)
      have ho := (if_neg c_29).mp ho
      refine lv_iconst (v := 3) hx hb qd_M_length_36 (by decide) ?_
      exact W.iret (v := 3) hx hb hr (fun t ht hW => ⟨_, rfl, hres.symm, ht⟩) (fun _ h => nomatch h) qd_M_length_37
    have hres := hres.trans (if_pos c_29)
    have ho := (if_pos c_29).mp ho
    refine lv_iconst (v := 2) hx hb qd_M_length_32 (by decide) ?_
    refine lv_goto (tgt := 37) hx hb qd_M_length_33 (by decide) ?_
    exact W.iret (v := 2) hx hb hr (fun t ht hW => ⟨_, rfl, hres.symm, ht⟩) (fun _ h => nomatch h) qd_M_length_37
  have hres := hres.trans (if_pos c_11)
  have ho := (if_pos c_11).mp ho
  refine lv_iconst (v := 1) hx hb qd_M_length_14 (by decide) ?_
  refine lv_goto (tgt := 37) hx hb qd_M_length_15 (by decide) ?_
  exact W.iret (v := 1) hx hb hr (fun t ht hW => ⟨_, rfl, hres.symm, ht⟩) (fun _ h => nomatch h) qd_M_length_37
theorem qd_M_ways_0 : decode qc_M_ways 0 = .ok (.aload_n 0, 1) := by decide +kernel
theorem qd_M_ways_1 : decode qc_M_ways 1 = .ok (.aload_n 0, 1) := by decide +kernel
theorem qd_M_ways_2 : decode qc_M_ways 2 = .ok (.getfield 13, 3) := by decide +kernel
theorem qd_M_ways_5 : decode qc_M_ways 5 = .ok (.iconst 3, 1) := by decide +kernel
theorem qd_M_ways_6 : decode qc_M_ways 6 = .ok (.iload_n 1, 1) := by decide +kernel
theorem qd_M_ways_7 : decode qc_M_ways 7 = .ok (.imul, 1) := by decide +kernel
theorem qd_M_ways_8 : decode qc_M_ways 8 = .ok (.iaload, 1) := by decide +kernel
theorem qd_M_ways_9 : decode qc_M_ways 9 = .ok (.iload_n 2, 1) := by decide +kernel
theorem qd_M_ways_10 : decode qc_M_ways 10 = .ok (.iload_n 3, 1) := by decide +kernel
theorem qd_M_ways_11 : decode qc_M_ways 11 = .ok (.invokevirtual 88, 3) := by decide +kernel
theorem qd_M_ways_14 : decode qc_M_ways 14 = .ok (.istore 6, 2) := by decide +kernel
theorem qd_M_ways_16 : decode qc_M_ways 16 = .ok (.aload_n 0, 1) := by decide +kernel
theorem qd_M_ways_17 : decode qc_M_ways 17 = .ok (.iload_n 1, 1) := by decide +kernel
theorem qd_M_ways_18 : decode qc_M_ways 18 = .ok (.invokevirtual 91, 3) := by decide +kernel
theorem qd_M_ways_21 : decode qc_M_ways 21 = .ok (.iconst 1, 1) := by decide +kernel
theorem qd_M_ways_22 : decode qc_M_ways 22 = .ok (.if_icmp .le 33, 3) := by decide +kernel
theorem qd_M_ways_25 : decode qc_M_ways 25 = .ok (.iload 6, 2) := by decide +kernel
theorem qd_M_ways_27 : decode qc_M_ways 27 = .ok (.ifCond .le 28, 3) := by decide +kernel
theorem qd_M_ways_30 : decode qc_M_ways 30 = .ok (.iload 6, 2) := by decide +kernel
theorem qd_M_ways_32 : decode qc_M_ways 32 = .ok (.aload_n 0, 1) := by decide +kernel
theorem qd_M_ways_33 : decode qc_M_ways 33 = .ok (.aload_n 0, 1) := by decide +kernel
theorem qd_M_ways_34 : decode qc_M_ways 34 = .ok (.getfield 13, 3) := by decide +kernel
theorem qd_M_ways_37 : decode qc_M_ways 37 = .ok (.iconst 3, 1) := by decide +kernel
theorem qd_M_ways_38 : decode qc_M_ways 38 = .ok (.iload_n 1, 1) := by decide +kernel
theorem qd_M_ways_39 : decode qc_M_ways 39 = .ok (.imul, 1) := by decide +kernel
theorem qd_M_ways_40 : decode qc_M_ways 40 = .ok (.iconst 1, 1) := by decide +kernel
theorem qd_M_ways_41 : decode qc_M_ways 41 = .ok (.iadd, 1) := by decide +kernel
theorem qd_M_ways_42 : decode qc_M_ways 42 = .ok (.iaload, 1) := by decide +kernel
theorem qd_M_ways_43 : decode qc_M_ways 43 = .ok (.iload_n 3, 1) := by decide +kernel
theorem qd_M_ways_44 : decode qc_M_ways 44 = .ok (.iload 4, 2) := by decide +kernel
theorem qd_M_ways_46 : decode qc_M_ways 46 = .ok (.invokevirtual 88, 3) := by decide +kernel
theorem qd_M_ways_49 : decode qc_M_ways 49 = .ok (.invokestatic 95, 3) := by decide +kernel
theorem qd_M_ways_52 : decode qc_M_ways 52 = .ok (.goto 5, 3) := by decide +kernel
theorem qd_M_ways_55 : decode qc_M_ways 55 = .ok (.iload 6, 2) := by decide +kernel
theorem qd_M_ways_57 : decode qc_M_ways 57 = .ok (.istore 6, 2) := by decide +kernel
theorem qd_M_ways_59 : decode qc_M_ways 59 = .ok (.aload_n 0, 1) := by decide +kernel
theorem qd_M_ways_60 : decode qc_M_ways 60 = .ok (.iload_n 1, 1) := by decide +kernel
theorem qd_M_ways_61 : decode qc_M_ways 61 = .ok (.invokevirtual 91, 3) := by decide +kernel
theorem qd_M_ways_64 : decode qc_M_ways 64 = .ok (.iconst 2, 1) := by decide +kernel
theorem qd_M_ways_65 : decode qc_M_ways 65 = .ok (.if_icmp .le 34, 3) := by decide +kernel
theorem qd_M_ways_68 : decode qc_M_ways 68 = .ok (.iload 6, 2) := by decide +kernel
theorem qd_M_ways_70 : decode qc_M_ways 70 = .ok (.ifCond .le 29, 3) := by decide +kernel
theorem qd_M_ways_73 : decode qc_M_ways 73 = .ok (.iload 6, 2) := by decide +kernel
theorem qd_M_ways_75 : decode qc_M_ways 75 = .ok (.aload_n 0, 1) := by decide +kernel
theorem qd_M_ways_76 : decode qc_M_ways 76 = .ok (.aload_n 0, 1) := by decide +kernel
theorem qd_M_ways_77 : decode qc_M_ways 77 = .ok (.getfield 13, 3) := by decide +kernel
theorem qd_M_ways_80 : decode qc_M_ways 80 = .ok (.iconst 3, 1) := by decide +kernel
theorem qd_M_ways_81 : decode qc_M_ways 81 = .ok (.iload_n 1, 1) := by decide +kernel
theorem qd_M_ways_82 : decode qc_M_ways 82 = .ok (.imul, 1) := by decide +kernel
theorem qd_M_ways_83 : decode qc_M_ways 83 = .ok (.iconst 2, 1) := by decide +kernel
theorem qd_M_ways_84 : decode qc_M_ways 84 = .ok (.iadd, 1) := by decide +kernel
theorem qd_M_ways_85 : decode qc_M_ways 85 = .ok (.iaload, 1) := by decide +kernel
theorem qd_M_ways_86 : decode qc_M_ways 86 = .ok (.iload 4, 2) := by decide +kernel
theorem qd_M_ways_88 : decode qc_M_ways 88 = .ok (.iload 5, 2) := by decide +kernel
theorem qd_M_ways_90 : decode qc_M_ways 90 = .ok (.invokevirtual 88, 3) := by decide +kernel
theorem qd_M_ways_93 : decode qc_M_ways 93 = .ok (.invokestatic 95, 3) := by decide +kernel
theorem qd_M_ways_96 : decode qc_M_ways 96 = .ok (.goto 5, 3) := by decide +kernel
theorem qd_M_ways_99 : decode qc_M_ways 99 = .ok (.iload 6, 2) := by decide +kernel
theorem qd_M_ways_101 : decode qc_M_ways 101 = .ok (.ireturn, 1) := by decide +kernel
set_option maxHeartbeats 4000000 in
set_option maxRecDepth 100000 in
theorem c_M_ways (l : Launch) (dC : Nat → ClassId) (dI : Nat → Nat → Nat) (cA cZ : ClassId) (aM aMh aMi aMc aMt aMn aMl aMs aMd aMe aMo aMw aMu : Nat) (vMT : Int32) (vMP : Int32) (vMK : Int32) (vMB : Int32) (vMD : Int32) (vME : Int32) (vMO : Int32) (vMF : Int32) (vMS : Int32) (vMX : Int32) (vMW : Int32) (vMi : (Nat → Int32)) (vMt : (Nat → Int32)) (vMn : (Nat → Int32)) (p0 : Int32) (p1 : Int32) (p2 : Int32) (p3 : Int32) (p4 : Int32) (ho : o_M_ways vMi vMt vMn p0 p1 p2 p3 p4) : Met l qy_M_ways qw_M_ways ({ frames := 2, cells := 0, slots := 0, locals := 45 }) (va_Pc [.ref aM, .int p0, .int p1, .int p2, .int p3, .int p4] (xP (dC, dI) [(cA, .int), (cZ, .boolean)] [(aM, .inr (7, [.int vMT, .int vMP, .ref aMh, .ref aMi, .ref aMc, .int vMK, .ref aMt, .int vMB, .ref aMn, .ref aMl, .ref aMs, .int vMD, .ref aMd, .int vME, .ref aMe, .int vMO, .ref aMo, .int vMF, .int vMS, .ref aMw, .ref aMu, .int vMX, .int vMW])), (aMi, .inl (cA, 72, .inl (vMi))), (aMt, .inl (cA, 24, .inl (vMt))), (aMn, .inl (cA, 6250, .inl (vMn)))] nestN)) (vp_Si (fun r => r = f_M_ways vMi vMt vMn p0 p1 p2 p3 p4)) 0 0 (fun _ => False) := by
  refine Met.ofW (cc := qc_M_ways) (maxL := 7) (ret := (some .int)) (by decide) rfl ?_
  intro p e s m args below meth c s₁ B hml hv
  obtain ⟨rfl, hP, hK, hN⟩ := hv
  have hx := B.exec
  have hb := B.bytes
  have hr := B.returns
  have hts := atoms_spec (ws := qw_M_ways) B.pre
  have hg : ∀ w ∈ gG, w.before _ s = true := fun w h => hts w (List.mem_cons_of_mem _ h)
  have hown : s.vm.findClass qR_M = some m.cls := findClass_of_methodNamed B.named
  have hlocks := B.notSynchronized
  have hP : va_P (dC, dI) vwCl [(aM, .inr (7, [.int vMT, .int vMP, .ref aMh, .ref aMi, .ref aMc, .int vMK, .ref aMt, .int vMB, .ref aMn, .ref aMl, .ref aMs, .int vMD, .ref aMd, .int vME, .ref aMe, .int vMO, .ref aMo, .int vMF, .int vMS, .ref aMw, .ref aMu, .int vMX, .int vMW])), (aMi, .inl (cA, 72, .inl (vMi))), (aMt, .inl (cA, 24, .inl (vMt))), (aMn, .inl (cA, 6250, .inl (vMn)))] s.heap := hP
  have hl := lv_entry ([.ref aM, .int p0, .int p1, .int p2, .int p3, .int p4]) (n := 7) (Nat.le_of_ble_eq_true rfl)
  rw [lg_entry_eq]
  generalize (lg_sl ([.ref aM, .int p0, .int p1, .int p2, .int p3, .int p4]) ++ List.replicate (7 - (lg_sl ([.ref aM, .int p0, .int p1, .int p2, .int p3, .int p4])).length) Slot.unset).toArray = ls at hl ⊢
  have hl : lv_has ls 7 [(0, .ref aM), (1, .int p0), (2, .int p1), (3, .int p2), (4, .int p3), (5, .int p4)] := hl
  generalize hF : f_M_ways vMi vMt vMn p0 p1 p2 p3 p4 = Fv
  have hres : Fv = f_M_ways vMi vMt vMn p0 p1 p2 p3 p4 := hF.symm
  unfold f_M_ways at hres
  unfold o_M_ways at ho
  refine lv_aload_n hx hb qd_M_ways_0 rfl (lv_at hl 0 rfl) ?_
  refine lv_aload_n hx hb qd_M_ways_1 rfl (lv_at hl 0 rfl) ?_
  refine va_get (D := (dC, dI)) (ci := 7) (v := .ref aMi) (C := qR_M) (T := qT_M) (N := 23) hx hb hg qi_M hown hK hP 0 rfl rfl 3 (by decide) (hg _ mw_577) (fun _ h9 => h9) rfl qd_M_ways_2 ?_
  refine lv_iconst (v := 3) hx hb qd_M_ways_5 (by decide) ?_
  refine lv_iload_n hx hb qd_M_ways_6 rfl (lv_at hl 1 rfl) ?_
  refine lv_imul hx hb qd_M_ways_7 ?_
  obtain ⟨g_8, ho⟩ := ho
  refine va_iald hx hb hK hP 1 0 rfl rfl g_8 qd_M_ways_8 ?_
  refine lv_iload_n hx hb qd_M_ways_9 rfl (lv_at hl 2 rfl) ?_
  refine lv_iload_n hx hb qd_M_ways_10 rfl (lv_at hl 3 rfl) ?_
  obtain ⟨g_11, ho⟩ := ho
  refine xc_V (As := [.int (vMi (3 * p0).toNatClampNeg), .int p1, .int p2]) (rest := []) ⟨hx, hb, hml, hown, hg⟩ (c_M_many l dC dI cA cZ aM aMh aMi aMc aMt aMn aMl aMs aMd aMe aMo aMw aMu vMT vMP vMK vMB vMD vME vMO vMF vMS vMX vMW vMt vMn (vMi (3 * p0).toNatClampNeg) p1 p2 g_11) (cwV 3 hg (q_gV mw_682 mw_683 mw_779 mw_8 mw_684) rfl rfl rfl qh_M_many ⟨Nat.le_of_ble_eq_true rfl, Nat.le_of_ble_eq_true rfl⟩) hN hK hP [0, 2, 3] rfl 0 7 rfl rfl rfl hl.1 rfl (Nat.le_of_ble_eq_true rfl) qd_M_ways_11 ⟨Nat.zero_le _, Nat.zero_le _⟩ ?_
  refine lv_topi (fun r_11 w_11 => ?_)
  have hres := hres.trans (bd_eq w_11)
  have ho := (bd_eq w_11).mp ho
  refine lv_istore (lv' := [(6, .int r_11), (0, .ref aM), (1, .int p0), (2, .int p1), (3, .int p2), (4, .int p3), (5, .int p4)]) hx hb qd_M_ways_14 hl (by decide) rfl (fun ls hl => ?_)
  refine lv_aload_n hx hb qd_M_ways_16 rfl (lv_at hl 1 rfl) ?_
  refine lv_iload_n hx hb qd_M_ways_17 rfl (lv_at hl 2 rfl) ?_
  obtain ⟨g_18, ho⟩ := ho
  refine xc_V (As := [.int p0]) (rest := []) ⟨hx, hb, hml, hown, hg⟩ (c_M_length l dC dI cA cZ aM aMh aMi aMc aMt aMn aMl aMs aMd aMe aMo aMw aMu vMT vMP vMK vMB vMD vME vMO vMF vMS vMX vMW vMi p0 g_18) (cwV 1 hg (q_gV mw_673 mw_674 mw_776 mw_8 mw_675) rfl rfl rfl qh_M_length ⟨Nat.le_of_ble_eq_true rfl, Nat.le_of_ble_eq_true rfl⟩) hN hK hP [0, 1] rfl 0 7 rfl rfl rfl hl.1 rfl (Nat.le_of_ble_eq_true rfl) qd_M_ways_18 ⟨Nat.zero_le _, Nat.zero_le _⟩ ?_
  refine lv_topi (fun r_18 w_18 => ?_)
  have hres := hres.trans (bd_eq w_18)
  have ho := (bd_eq w_18).mp ho
  refine lv_iconst (v := 1) hx hb qd_M_ways_21 (by decide) ?_
  refine lv_icmp_le (tgt := 55) hx hb qd_M_ways_22 (by decide) (fun c_22 => ?_) (fun c_22 => ?_)
  · have hres := hres.trans (if_pos c_22)
    have ho := (if_pos c_22).mp ho
    refine lv_iload hx hb qd_M_ways_55 (lv_at hl 0 rfl) ?_
    refine lv_istore (lv' := [(6, .int r_11), (0, .ref aM), (1, .int p0), (2, .int p1), (3, .int p2), (4, .int p3), (5, .int p4)]) hx hb qd_M_ways_57 hl (by decide) rfl (fun ls hl => ?_)
    refine lv_aload_n hx hb qd_M_ways_59 rfl (lv_at hl 1 rfl) ?_
    refine lv_iload_n hx hb qd_M_ways_60 rfl (lv_at hl 2 rfl) ?_
    obtain ⟨g_61, ho⟩ := ho
    refine xc_V (As := [.int p0]) (rest := []) ⟨hx, hb, hml, hown, hg⟩ (c_M_length l dC dI cA cZ aM aMh aMi aMc aMt aMn aMl aMs aMd aMe aMo aMw aMu vMT vMP vMK vMB vMD vME vMO vMF vMS vMX vMW vMi p0 g_61) (cwV 1 hg (q_gV mw_673 mw_674 mw_776 mw_8 mw_675) rfl rfl rfl qh_M_length ⟨Nat.le_of_ble_eq_true rfl, Nat.le_of_ble_eq_true rfl⟩) hN hK hP [0, 1] rfl 0 7 rfl rfl rfl hl.1 rfl (Nat.le_of_ble_eq_true rfl) qd_M_ways_61 ⟨Nat.zero_le _, Nat.zero_le _⟩ ?_
    refine lv_topi (fun r_61 w_61 => ?_)
    have hres := hres.trans (bd_eq w_61)
    have ho := (bd_eq w_61).mp ho
    refine lv_iconst (v := 2) hx hb qd_M_ways_64 (by decide) ?_
    refine lv_icmp_le (tgt := 99) hx hb qd_M_ways_65 (by decide) (fun c_65 => ?_) (fun c_65 => ?_)
    · have hres := hres.trans (if_pos c_65)
      have ho := (if_pos c_65).mp ho
      refine lv_iload hx hb qd_M_ways_99 (lv_at hl 0 rfl) ?_
      exact W.iret (v := r_11) hx hb hr (fun t ht hW => ⟨_, rfl, hres.symm, ht⟩) (fun _ h => nomatch h) qd_M_ways_101
    have hres := hres.trans (if_neg c_65)
    have ho := (if_neg c_65).mp ho
    refine lv_iload hx hb qd_M_ways_68 (lv_at hl 0 rfl) ?_
    refine lv_if_le (tgt := 99) hx hb qd_M_ways_70 (by decide) (fun c_70 => ?_) (fun c_70 => ?_)
    · have hres := hres.trans (if_pos c_70)
      have ho := (if_pos c_70).mp ho
      refine lv_iload hx hb qd_M_ways_99 (lv_at hl 0 rfl) ?_
      exact W.iret (v := r_11) hx hb hr (fun t ht hW => ⟨_, rfl, hres.symm, ht⟩) (fun _ h => nomatch h) qd_M_ways_101
    have hres := hres.trans (if_neg c_70)
    have ho := (if_neg c_70).mp ho
    refine lv_iload hx hb qd_M_ways_73 (lv_at hl 0 rfl) ?_
    refine lv_aload_n hx hb qd_M_ways_75 rfl (lv_at hl 1 rfl) ?_
    refine lv_aload_n hx hb qd_M_ways_76 rfl (lv_at hl 1 rfl) ?_
    refine va_get (D := (dC, dI)) (ci := 7) (v := .ref aMi) (C := qR_M) (T := qT_M) (N := 23) hx hb hg qi_M hown hK hP 0 rfl rfl 3 (by decide) (hg _ mw_577) (fun _ h9 => h9) rfl qd_M_ways_77 ?_
    refine lv_iconst (v := 3) hx hb qd_M_ways_80 (by decide) ?_
    refine lv_iload_n hx hb qd_M_ways_81 rfl (lv_at hl 2 rfl) ?_
    refine lv_imul hx hb qd_M_ways_82 ?_
    refine lv_iconst (v := 2) hx hb qd_M_ways_83 (by decide) ?_
    refine lv_iadd hx hb qd_M_ways_84 ?_
    obtain ⟨g_85, ho⟩ := ho
    refine va_iald hx hb hK hP 1 0 rfl rfl g_85 qd_M_ways_85 ?_
    refine lv_iload hx hb qd_M_ways_86 (lv_at hl 5 rfl) ?_
    refine lv_iload hx hb qd_M_ways_88 (lv_at hl 6 rfl) ?_
    obtain ⟨g_90, ho⟩ := ho
    refine xc_V (As := [.int (vMi ((3 * p0) + 2).toNatClampNeg), .int p3, .int p4]) (rest := [.int r_11]) ⟨hx, hb, hml, hown, hg⟩ (c_M_many l dC dI cA cZ aM aMh aMi aMc aMt aMn aMl aMs aMd aMe aMo aMw aMu vMT vMP vMK vMB vMD vME vMO vMF vMS vMX vMW vMt vMn (vMi ((3 * p0) + 2).toNatClampNeg) p3 p4 g_90) (cwV 3 hg (q_gV mw_682 mw_683 mw_779 mw_8 mw_684) rfl rfl rfl qh_M_many ⟨Nat.le_of_ble_eq_true rfl, Nat.le_of_ble_eq_true rfl⟩) hN hK hP [0, 2, 3] rfl 0 7 rfl rfl rfl hl.1 rfl (Nat.le_of_ble_eq_true rfl) qd_M_ways_90 ⟨Nat.zero_le _, Nat.zero_le _⟩ ?_
    refine lv_topi (fun r_90 w_90 => ?_)
    have hres := hres.trans (bd_eq w_90)
    have ho := (bd_eq w_90).mp ho
    refine xc_S (As := [.int r_11, .int r_90]) (rest := []) ⟨hx, hb, hml, hown, hg⟩ (c_M_times l dC dI cA cZ r_11 r_90) (va_cwS 2 hg (q_gS mw_685 mw_686 mw_8 mw_687) rfl rfl rfl qh_M_times.2 ⟨Nat.le_of_ble_eq_true rfl, Nat.le_of_ble_eq_true rfl⟩) hN hK hP [] rfl rfl hl.1 rfl (Nat.le_of_ble_eq_true rfl) qd_M_ways_93 ⟨Nat.zero_le _, Nat.zero_le _⟩ ?_
    refine lv_topi (fun r_93 w_93 => ?_)
    have hres := hres.trans (bd_eq w_93)
    have ho := (bd_eq w_93).mp ho
    refine lv_goto (tgt := 101) hx hb qd_M_ways_96 (by decide) ?_
    exact W.iret (v := r_93) hx hb hr (fun t ht hW => ⟨_, rfl, hres.symm, ht⟩) (fun _ h => nomatch h) qd_M_ways_101
  have hres := hres.trans (if_neg c_22)
  have ho := (if_neg c_22).mp ho
  refine lv_iload hx hb qd_M_ways_25 (lv_at hl 0 rfl) ?_
  refine lv_if_le (tgt := 55) hx hb qd_M_ways_27 (by decide) (fun c_27 => ?_) (fun c_27 => ?_)
  · have hres := hres.trans (if_pos c_27)
    have ho := (if_pos c_27).mp ho
    refine lv_iload hx hb qd_M_ways_55 (lv_at hl 0 rfl) ?_
    refine lv_istore (lv' := [(6, .int r_11), (0, .ref aM), (1, .int p0), (2, .int p1), (3, .int p2), (4, .int p3), (5, .int p4)]) hx hb qd_M_ways_57 hl (by decide) rfl (fun ls hl => ?_)
    refine lv_aload_n hx hb qd_M_ways_59 rfl (lv_at hl 1 rfl) ?_
    refine lv_iload_n hx hb qd_M_ways_60 rfl (lv_at hl 2 rfl) ?_
    obtain ⟨g_61, ho⟩ := ho
    refine xc_V (As := [.int p0]) (rest := []) ⟨hx, hb, hml, hown, hg⟩ (c_M_length l dC dI cA cZ aM aMh aMi aMc aMt aMn aMl aMs aMd aMe aMo aMw aMu vMT vMP vMK vMB vMD vME vMO vMF vMS vMX vMW vMi p0 g_61) (cwV 1 hg (q_gV mw_673 mw_674 mw_776 mw_8 mw_675) rfl rfl rfl qh_M_length ⟨Nat.le_of_ble_eq_true rfl, Nat.le_of_ble_eq_true rfl⟩) hN hK hP [0, 1] rfl 0 7 rfl rfl rfl hl.1 rfl (Nat.le_of_ble_eq_true rfl) qd_M_ways_61 ⟨Nat.zero_le _, Nat.zero_le _⟩ ?_
    refine lv_topi (fun r_61 w_61 => ?_)
    have hres := hres.trans (bd_eq w_61)
    have ho := (bd_eq w_61).mp ho
    refine lv_iconst (v := 2) hx hb qd_M_ways_64 (by decide) ?_
    refine lv_icmp_le (tgt := 99) hx hb qd_M_ways_65 (by decide) (fun c_65 => ?_) (fun c_65 => ?_)
    · have hres := hres.trans (if_pos c_65)
      have ho := (if_pos c_65).mp ho
      refine lv_iload hx hb qd_M_ways_99 (lv_at hl 0 rfl) ?_
      exact W.iret (v := r_11) hx hb hr (fun t ht hW => ⟨_, rfl, hres.symm, ht⟩) (fun _ h => nomatch h) qd_M_ways_101
    have hres := hres.trans (if_neg c_65)
    have ho := (if_neg c_65).mp ho
    refine lv_iload hx hb qd_M_ways_68 (lv_at hl 0 rfl) ?_
    refine lv_if_le (tgt := 99) hx hb qd_M_ways_70 (by decide) (fun c_70 => ?_) (fun c_70 => ?_)
    rotate_left
    · exact absurd c_27 c_70
    refine lv_iload hx hb qd_M_ways_99 (lv_at hl 0 rfl) ?_
    exact W.iret (v := r_11) hx hb hr (fun t ht hW => ⟨_, rfl, hres.symm, ht⟩) (fun _ h => nomatch h) qd_M_ways_101
  have hres := hres.trans (if_neg c_27)
  have ho := (if_neg c_27).mp ho
  refine lv_iload hx hb qd_M_ways_30 (lv_at hl 0 rfl) ?_
  refine lv_aload_n hx hb qd_M_ways_32 rfl (lv_at hl 1 rfl) ?_
  refine lv_aload_n hx hb qd_M_ways_33 rfl (lv_at hl 1 rfl) ?_
  refine va_get (D := (dC, dI)) (ci := 7) (v := .ref aMi) (C := qR_M) (T := qT_M) (N := 23) hx hb hg qi_M hown hK hP 0 rfl rfl 3 (by decide) (hg _ mw_577) (fun _ h9 => h9) rfl qd_M_ways_34 ?_
  refine lv_iconst (v := 3) hx hb qd_M_ways_37 (by decide) ?_
  refine lv_iload_n hx hb qd_M_ways_38 rfl (lv_at hl 2 rfl) ?_
  refine lv_imul hx hb qd_M_ways_39 ?_
  refine lv_iconst (v := 1) hx hb qd_M_ways_40 (by decide) ?_
  refine lv_iadd hx hb qd_M_ways_41 ?_
  obtain ⟨g_42, ho⟩ := ho
  refine va_iald hx hb hK hP 1 0 rfl rfl g_42 qd_M_ways_42 ?_
  refine lv_iload_n hx hb qd_M_ways_43 rfl (lv_at hl 4 rfl) ?_
  refine lv_iload hx hb qd_M_ways_44 (lv_at hl 5 rfl) ?_
  obtain ⟨g_46, ho⟩ := ho
  refine xc_V (As := [.int (vMi ((3 * p0) + 1).toNatClampNeg), .int p2, .int p3]) (rest := [.int r_11]) ⟨hx, hb, hml, hown, hg⟩ (c_M_many l dC dI cA cZ aM aMh aMi aMc aMt aMn aMl aMs aMd aMe aMo aMw aMu vMT vMP vMK vMB vMD vME vMO vMF vMS vMX vMW vMt vMn (vMi ((3 * p0) + 1).toNatClampNeg) p2 p3 g_46) (cwV 3 hg (q_gV mw_682 mw_683 mw_779 mw_8 mw_684) rfl rfl rfl qh_M_many ⟨Nat.le_of_ble_eq_true rfl, Nat.le_of_ble_eq_true rfl⟩) hN hK hP [0, 2, 3] rfl 0 7 rfl rfl rfl hl.1 rfl (Nat.le_of_ble_eq_true rfl) qd_M_ways_46 ⟨Nat.zero_le _, Nat.zero_le _⟩ ?_
  refine lv_topi (fun r_46 w_46 => ?_)
  have hres := hres.trans (bd_eq w_46)
  have ho := (bd_eq w_46).mp ho
  refine xc_S (As := [.int r_11, .int r_46]) (rest := []) ⟨hx, hb, hml, hown, hg⟩ (c_M_times l dC dI cA cZ r_11 r_46) (va_cwS 2 hg (q_gS mw_685 mw_686 mw_8 mw_687) rfl rfl rfl qh_M_times.2 ⟨Nat.le_of_ble_eq_true rfl, Nat.le_of_ble_eq_true rfl⟩) hN hK hP [] rfl rfl hl.1 rfl (Nat.le_of_ble_eq_true rfl) qd_M_ways_49 ⟨Nat.zero_le _, Nat.zero_le _⟩ ?_
  refine lv_topi (fun r_49 w_49 => ?_)
  have hres := hres.trans (bd_eq w_49)
  have ho := (bd_eq w_49).mp ho
  refine lv_goto (tgt := 57) hx hb qd_M_ways_52 (by decide) ?_
  refine lv_istore (lv' := [(6, .int r_49), (0, .ref aM), (1, .int p0), (2, .int p1), (3, .int p2), (4, .int p3), (5, .int p4)]) hx hb qd_M_ways_57 hl (by decide) rfl (fun ls hl => ?_)
  refine lv_aload_n hx hb qd_M_ways_59 rfl (lv_at hl 1 rfl) ?_
  refine lv_iload_n hx hb qd_M_ways_60 rfl (lv_at hl 2 rfl) ?_
  obtain ⟨g_61, ho⟩ := ho
  refine xc_V (As := [.int p0]) (rest := []) ⟨hx, hb, hml, hown, hg⟩ (c_M_length l dC dI cA cZ aM aMh aMi aMc aMt aMn aMl aMs aMd aMe aMo aMw aMu vMT vMP vMK vMB vMD vME vMO vMF vMS vMX vMW vMi p0 g_61) (cwV 1 hg (q_gV mw_673 mw_674 mw_776 mw_8 mw_675) rfl rfl rfl qh_M_length ⟨Nat.le_of_ble_eq_true rfl, Nat.le_of_ble_eq_true rfl⟩) hN hK hP [0, 1] rfl 0 7 rfl rfl rfl hl.1 rfl (Nat.le_of_ble_eq_true rfl) qd_M_ways_61 ⟨Nat.zero_le _, Nat.zero_le _⟩ ?_
  refine lv_topi (fun r_61 w_61 => ?_)
  have hres := hres.trans (bd_eq w_61)
  have ho := (bd_eq w_61).mp ho
  refine lv_iconst (v := 2) hx hb qd_M_ways_64 (by decide) ?_
  refine lv_icmp_le (tgt := 99) hx hb qd_M_ways_65 (by decide) (fun c_65 => ?_) (fun c_65 => ?_)
  · have hres := hres.trans (if_pos c_65)
    have ho := (if_pos c_65).mp ho
    refine lv_iload hx hb qd_M_ways_99 (lv_at hl 0 rfl) ?_
    exact W.iret (v := r_49) hx hb hr (fun t ht hW => ⟨_, rfl, hres.symm, ht⟩) (fun _ h => nomatch h) qd_M_ways_101
  have hres := hres.trans (if_neg c_65)
  have ho := (if_neg c_65).mp ho
  refine lv_iload hx hb qd_M_ways_68 (lv_at hl 0 rfl) ?_
  refine lv_if_le (tgt := 99) hx hb qd_M_ways_70 (by decide) (fun c_70 => ?_) (fun c_70 => ?_)
  · have hres := hres.trans (if_pos c_70)
    have ho := (if_pos c_70).mp ho
    refine lv_iload hx hb qd_M_ways_99 (lv_at hl 0 rfl) ?_
    exact W.iret (v := r_49) hx hb hr (fun t ht hW => ⟨_, rfl, hres.symm, ht⟩) (fun _ h => nomatch h) qd_M_ways_101
  have hres := hres.trans (if_neg c_70)
  have ho := (if_neg c_70).mp ho
  refine lv_iload hx hb qd_M_ways_73 (lv_at hl 0 rfl) ?_
  refine lv_aload_n hx hb qd_M_ways_75 rfl (lv_at hl 1 rfl) ?_
  refine lv_aload_n hx hb qd_M_ways_76 rfl (lv_at hl 1 rfl) ?_
  refine va_get (D := (dC, dI)) (ci := 7) (v := .ref aMi) (C := qR_M) (T := qT_M) (N := 23) hx hb hg qi_M hown hK hP 0 rfl rfl 3 (by decide) (hg _ mw_577) (fun _ h9 => h9) rfl qd_M_ways_77 ?_
  refine lv_iconst (v := 3) hx hb qd_M_ways_80 (by decide) ?_
  refine lv_iload_n hx hb qd_M_ways_81 rfl (lv_at hl 2 rfl) ?_
  refine lv_imul hx hb qd_M_ways_82 ?_
  refine lv_iconst (v := 2) hx hb qd_M_ways_83 (by decide) ?_
  refine lv_iadd hx hb qd_M_ways_84 ?_
  obtain ⟨g_85, ho⟩ := ho
  refine va_iald hx hb hK hP 1 0 rfl rfl g_85 qd_M_ways_85 ?_
  refine lv_iload hx hb qd_M_ways_86 (lv_at hl 5 rfl) ?_
  refine lv_iload hx hb qd_M_ways_88 (lv_at hl 6 rfl) ?_
  obtain ⟨g_90, ho⟩ := ho
  refine xc_V (As := [.int (vMi ((3 * p0) + 2).toNatClampNeg), .int p3, .int p4]) (rest := [.int r_49]) ⟨hx, hb, hml, hown, hg⟩ (c_M_many l dC dI cA cZ aM aMh aMi aMc aMt aMn aMl aMs aMd aMe aMo aMw aMu vMT vMP vMK vMB vMD vME vMO vMF vMS vMX vMW vMt vMn (vMi ((3 * p0) + 2).toNatClampNeg) p3 p4 g_90) (cwV 3 hg (q_gV mw_682 mw_683 mw_779 mw_8 mw_684) rfl rfl rfl qh_M_many ⟨Nat.le_of_ble_eq_true rfl, Nat.le_of_ble_eq_true rfl⟩) hN hK hP [0, 2, 3] rfl 0 7 rfl rfl rfl hl.1 rfl (Nat.le_of_ble_eq_true rfl) qd_M_ways_90 ⟨Nat.zero_le _, Nat.zero_le _⟩ ?_
  refine lv_topi (fun r_90 w_90 => ?_)
  have hres := hres.trans (bd_eq w_90)
  have ho := (bd_eq w_90).mp ho
  refine xc_S (As := [.int r_49, .int r_90]) (rest := []) ⟨hx, hb, hml, hown, hg⟩ (c_M_times l dC dI cA cZ r_49 r_90) (va_cwS 2 hg (q_gS mw_685 mw_686 mw_8 mw_687) rfl rfl rfl qh_M_times.2 ⟨Nat.le_of_ble_eq_true rfl, Nat.le_of_ble_eq_true rfl⟩) hN hK hP [] rfl rfl hl.1 rfl (Nat.le_of_ble_eq_true rfl) qd_M_ways_93 ⟨Nat.zero_le _, Nat.zero_le _⟩ ?_
  refine lv_topi (fun r_93 w_93 => ?_)
  have hres := hres.trans (bd_eq w_93)
  have ho := (bd_eq w_93).mp ho
  refine lv_goto (tgt := 101) hx hb qd_M_ways_96 (by decide) ?_
  exact W.iret (v := r_93) hx hb hr (fun t ht hW => ⟨_, rfl, hres.symm, ht⟩) (fun _ h => nomatch h) qd_M_ways_101
theorem qd_M_price_0 : decode qc_M_price 0 = .ok (.aload_n 0, 1) := by decide +kernel
theorem qd_M_price_1 : decode qc_M_price 1 = .ok (.getfield 16, 3) := by decide +kernel
theorem qd_M_price_4 : decode qc_M_price 4 = .ok (.iload_n 1, 1) := by decide +kernel
theorem qd_M_price_5 : decode qc_M_price 5 = .ok (.iaload, 1) := by decide +kernel
theorem qd_M_price_6 : decode qc_M_price 6 = .ok (.aload_n 0, 1) := by decide +kernel
theorem qd_M_price_7 : decode qc_M_price 7 = .ok (.aload_n 0, 1) := by decide +kernel
theorem qd_M_price_8 : decode qc_M_price 8 = .ok (.getfield 13, 3) := by decide +kernel
theorem qd_M_price_11 : decode qc_M_price 11 = .ok (.iconst 3, 1) := by decide +kernel
theorem qd_M_price_12 : decode qc_M_price 12 = .ok (.iload_n 1, 1) := by decide +kernel
theorem qd_M_price_13 : decode qc_M_price 13 = .ok (.imul, 1) := by decide +kernel
theorem qd_M_price_14 : decode qc_M_price 14 = .ok (.iaload, 1) := by decide +kernel
theorem qd_M_price_15 : decode qc_M_price 15 = .ok (.iload_n 2, 1) := by decide +kernel
theorem qd_M_price_16 : decode qc_M_price 16 = .ok (.iload_n 3, 1) := by decide +kernel
theorem qd_M_price_17 : decode qc_M_price 17 = .ok (.invokevirtual 99, 3) := by decide +kernel
theorem qd_M_price_20 : decode qc_M_price 20 = .ok (.invokestatic 102, 3) := by decide +kernel
theorem qd_M_price_23 : decode qc_M_price 23 = .ok (.istore 6, 2) := by decide +kernel
theorem qd_M_price_25 : decode qc_M_price 25 = .ok (.aload_n 0, 1) := by decide +kernel
theorem qd_M_price_26 : decode qc_M_price 26 = .ok (.iload_n 1, 1) := by decide +kernel
theorem qd_M_price_27 : decode qc_M_price 27 = .ok (.invokevirtual 91, 3) := by decide +kernel
theorem qd_M_price_30 : decode qc_M_price 30 = .ok (.iconst 1, 1) := by decide +kernel
theorem qd_M_price_31 : decode qc_M_price 31 = .ok (.if_icmp .le 28, 3) := by decide +kernel
theorem qd_M_price_34 : decode qc_M_price 34 = .ok (.iload 6, 2) := by decide +kernel
theorem qd_M_price_36 : decode qc_M_price 36 = .ok (.aload_n 0, 1) := by decide +kernel
theorem qd_M_price_37 : decode qc_M_price 37 = .ok (.aload_n 0, 1) := by decide +kernel
theorem qd_M_price_38 : decode qc_M_price 38 = .ok (.getfield 13, 3) := by decide +kernel
theorem qd_M_price_41 : decode qc_M_price 41 = .ok (.iconst 3, 1) := by decide +kernel
theorem qd_M_price_42 : decode qc_M_price 42 = .ok (.iload_n 1, 1) := by decide +kernel
theorem qd_M_price_43 : decode qc_M_price 43 = .ok (.imul, 1) := by decide +kernel
theorem qd_M_price_44 : decode qc_M_price 44 = .ok (.iconst 1, 1) := by decide +kernel
theorem qd_M_price_45 : decode qc_M_price 45 = .ok (.iadd, 1) := by decide +kernel
theorem qd_M_price_46 : decode qc_M_price 46 = .ok (.iaload, 1) := by decide +kernel
theorem qd_M_price_47 : decode qc_M_price 47 = .ok (.iload_n 3, 1) := by decide +kernel
theorem qd_M_price_48 : decode qc_M_price 48 = .ok (.iload 4, 2) := by decide +kernel
theorem qd_M_price_50 : decode qc_M_price 50 = .ok (.invokevirtual 99, 3) := by decide +kernel
theorem qd_M_price_53 : decode qc_M_price 53 = .ok (.invokestatic 102, 3) := by decide +kernel
theorem qd_M_price_56 : decode qc_M_price 56 = .ok (.goto 5, 3) := by decide +kernel
theorem qd_M_price_59 : decode qc_M_price 59 = .ok (.iload 6, 2) := by decide +kernel
theorem qd_M_price_61 : decode qc_M_price 61 = .ok (.istore 6, 2) := by decide +kernel
theorem qd_M_price_63 : decode qc_M_price 63 = .ok (.aload_n 0, 1) := by decide +kernel
theorem qd_M_price_64 : decode qc_M_price 64 = .ok (.iload_n 1, 1) := by decide +kernel
theorem qd_M_price_65 : decode qc_M_price 65 = .ok (.invokevirtual 91, 3) := by decide +kernel
theorem qd_M_price_68 : decode qc_M_price 68 = .ok (.iconst 2, 1) := by decide +kernel
theorem qd_M_price_69 : decode qc_M_price 69 = .ok (.if_icmp .le 29, 3) := by decide +kernel
theorem qd_M_price_72 : decode qc_M_price 72 = .ok (.iload 6, 2) := by decide +kernel
theorem qd_M_price_74 : decode qc_M_price 74 = .ok (.aload_n 0, 1) := by decide +kernel
theorem qd_M_price_75 : decode qc_M_price 75 = .ok (.aload_n 0, 1) := by decide +kernel
theorem qd_M_price_76 : decode qc_M_price 76 = .ok (.getfield 13, 3) := by decide +kernel
theorem qd_M_price_79 : decode qc_M_price 79 = .ok (.iconst 3, 1) := by decide +kernel
theorem qd_M_price_80 : decode qc_M_price 80 = .ok (.iload_n 1, 1) := by decide +kernel
theorem qd_M_price_81 : decode qc_M_price 81 = .ok (.imul, 1) := by decide +kernel
theorem qd_M_price_82 : decode qc_M_price 82 = .ok (.iconst 2, 1) := by decide +kernel
theorem qd_M_price_83 : decode qc_M_price 83 = .ok (.iadd, 1) := by decide +kernel
theorem qd_M_price_84 : decode qc_M_price 84 = .ok (.iaload, 1) := by decide +kernel
theorem qd_M_price_85 : decode qc_M_price 85 = .ok (.iload 4, 2) := by decide +kernel
theorem qd_M_price_87 : decode qc_M_price 87 = .ok (.iload 5, 2) := by decide +kernel
theorem qd_M_price_89 : decode qc_M_price 89 = .ok (.invokevirtual 99, 3) := by decide +kernel
theorem qd_M_price_92 : decode qc_M_price 92 = .ok (.invokestatic 102, 3) := by decide +kernel
theorem qd_M_price_95 : decode qc_M_price 95 = .ok (.goto 5, 3) := by decide +kernel
theorem qd_M_price_98 : decode qc_M_price 98 = .ok (.iload 6, 2) := by decide +kernel
theorem qd_M_price_100 : decode qc_M_price 100 = .ok (.ireturn, 1) := by decide +kernel
set_option maxHeartbeats 4000000 in
set_option maxRecDepth 100000 in
theorem c_M_price (l : Launch) (dC : Nat → ClassId) (dI : Nat → Nat → Nat) (cA cZ : ClassId) (aM aMh aMi aMc aMt aMn aMl aMs aMd aMe aMo aMw aMu : Nat) (vMT : Int32) (vMP : Int32) (vMK : Int32) (vMB : Int32) (vMD : Int32) (vME : Int32) (vMO : Int32) (vMF : Int32) (vMS : Int32) (vMX : Int32) (vMW : Int32) (vMi : (Nat → Int32)) (vMc : (Nat → Int32)) (vMt : (Nat → Int32)) (vMl : (Nat → Int32)) (p0 : Int32) (p1 : Int32) (p2 : Int32) (p3 : Int32) (p4 : Int32) (ho : o_M_price vMi vMc vMt vMl p0 p1 p2 p3 p4) : Met l qy_M_price qw_M_price ({ frames := 2, cells := 0, slots := 0, locals := 45 }) (va_Pc [.ref aM, .int p0, .int p1, .int p2, .int p3, .int p4] (xP (dC, dI) [(cA, .int), (cZ, .boolean)] [(aM, .inr (7, [.int vMT, .int vMP, .ref aMh, .ref aMi, .ref aMc, .int vMK, .ref aMt, .int vMB, .ref aMn, .ref aMl, .ref aMs, .int vMD, .ref aMd, .int vME, .ref aMe, .int vMO, .ref aMo, .int vMF, .int vMS, .ref aMw, .ref aMu, .int vMX, .int vMW])), (aMi, .inl (cA, 72, .inl (vMi))), (aMc, .inl (cA, 24, .inl (vMc))), (aMt, .inl (cA, 24, .inl (vMt))), (aMl, .inl (cA, 6250, .inl (vMl)))] nestN)) (vp_Si (fun r => r = f_M_price vMi vMc vMt vMl p0 p1 p2 p3 p4)) 0 0 (fun _ => False) := by
  refine Met.ofW (cc := qc_M_price) (maxL := 7) (ret := (some .int)) (by decide) rfl ?_
  intro p e s m args below meth c s₁ B hml hv
  obtain ⟨rfl, hP, hK, hN⟩ := hv
  have hx := B.exec
  have hb := B.bytes
  have hr := B.returns
  have hts := atoms_spec (ws := qw_M_price) B.pre
  have hg : ∀ w ∈ gG, w.before _ s = true := fun w h => hts w (List.mem_cons_of_mem _ h)
  have hown : s.vm.findClass qR_M = some m.cls := findClass_of_methodNamed B.named
  have hlocks := B.notSynchronized
  have hP : va_P (dC, dI) vwCl [(aM, .inr (7, [.int vMT, .int vMP, .ref aMh, .ref aMi, .ref aMc, .int vMK, .ref aMt, .int vMB, .ref aMn, .ref aMl, .ref aMs, .int vMD, .ref aMd, .int vME, .ref aMe, .int vMO, .ref aMo, .int vMF, .int vMS, .ref aMw, .ref aMu, .int vMX, .int vMW])), (aMi, .inl (cA, 72, .inl (vMi))), (aMc, .inl (cA, 24, .inl (vMc))), (aMt, .inl (cA, 24, .inl (vMt))), (aMl, .inl (cA, 6250, .inl (vMl)))] s.heap := hP
  have hl := lv_entry ([.ref aM, .int p0, .int p1, .int p2, .int p3, .int p4]) (n := 7) (Nat.le_of_ble_eq_true rfl)
  rw [lg_entry_eq]
  generalize (lg_sl ([.ref aM, .int p0, .int p1, .int p2, .int p3, .int p4]) ++ List.replicate (7 - (lg_sl ([.ref aM, .int p0, .int p1, .int p2, .int p3, .int p4])).length) Slot.unset).toArray = ls at hl ⊢
  have hl : lv_has ls 7 [(0, .ref aM), (1, .int p0), (2, .int p1), (3, .int p2), (4, .int p3), (5, .int p4)] := hl
  generalize hF : f_M_price vMi vMc vMt vMl p0 p1 p2 p3 p4 = Fv
  have hres : Fv = f_M_price vMi vMc vMt vMl p0 p1 p2 p3 p4 := hF.symm
  unfold f_M_price at hres
  unfold o_M_price at ho
  refine lv_aload_n hx hb qd_M_price_0 rfl (lv_at hl 0 rfl) ?_
  refine va_get (D := (dC, dI)) (ci := 7) (v := .ref aMc) (C := qR_M) (T := qT_M) (N := 23) hx hb hg qi_M hown hK hP 0 rfl rfl 4 (by decide) (hg _ mw_578) (fun _ h9 => h9) rfl qd_M_price_1 ?_
  refine lv_iload_n hx hb qd_M_price_4 rfl (lv_at hl 1 rfl) ?_
  obtain ⟨g_5, ho⟩ := ho
  refine va_iald hx hb hK hP 2 0 rfl rfl g_5 qd_M_price_5 ?_
  refine lv_aload_n hx hb qd_M_price_6 rfl (lv_at hl 0 rfl) ?_
  refine lv_aload_n hx hb qd_M_price_7 rfl (lv_at hl 0 rfl) ?_
  refine va_get (D := (dC, dI)) (ci := 7) (v := .ref aMi) (C := qR_M) (T := qT_M) (N := 23) hx hb hg qi_M hown hK hP 0 rfl rfl 3 (by decide) (hg _ mw_577) (fun _ h9 => h9) rfl qd_M_price_8 ?_
  refine lv_iconst (v := 3) hx hb qd_M_price_11 (by decide) ?_
  refine lv_iload_n hx hb qd_M_price_12 rfl (lv_at hl 1 rfl) ?_
  refine lv_imul hx hb qd_M_price_13 ?_
  obtain ⟨g_14, ho⟩ := ho
  refine va_iald hx hb hK hP 1 0 rfl rfl g_14 qd_M_price_14 ?_
  refine lv_iload_n hx hb qd_M_price_15 rfl (lv_at hl 2 rfl) ?_
  refine lv_iload_n hx hb qd_M_price_16 rfl (lv_at hl 3 rfl) ?_
  obtain ⟨g_17, ho⟩ := ho
  refine xc_V (As := [.int (vMi (3 * p0).toNatClampNeg), .int p1, .int p2]) (rest := [.int (vMc p0.toNatClampNeg)]) ⟨hx, hb, hml, hown, hg⟩ (c_M_cheapest l dC dI cA cZ aM aMh aMi aMc aMt aMn aMl aMs aMd aMe aMo aMw aMu vMT vMP vMK vMB vMD vME vMO vMF vMS vMX vMW vMt vMl (vMi (3 * p0).toNatClampNeg) p1 p2 g_17) (cwV 3 hg (q_gV mw_696 mw_697 mw_781 mw_8 mw_698) rfl rfl rfl qh_M_cheapest ⟨Nat.le_of_ble_eq_true rfl, Nat.le_of_ble_eq_true rfl⟩) hN hK hP [0, 3, 4] rfl 0 7 rfl rfl rfl hl.1 rfl (Nat.le_of_ble_eq_true rfl) qd_M_price_17 ⟨Nat.zero_le _, Nat.zero_le _⟩ ?_
  refine lv_topi (fun r_17 w_17 => ?_)
  have hres := hres.trans (bd_eq w_17)
  have ho := (bd_eq w_17).mp ho
  refine xc_S (As := [.int (vMc p0.toNatClampNeg), .int r_17]) (rest := []) ⟨hx, hb, hml, hown, hg⟩ (c_M_sum l dC dI cA cZ (vMc p0.toNatClampNeg) r_17) (va_cwS 2 hg (q_gS mw_699 mw_700 mw_8 mw_701) rfl rfl rfl qh_M_sum.2 ⟨Nat.le_of_ble_eq_true rfl, Nat.le_of_ble_eq_true rfl⟩) hN hK hP [] rfl rfl hl.1 rfl (Nat.le_of_ble_eq_true rfl) qd_M_price_20 ⟨Nat.zero_le _, Nat.zero_le _⟩ ?_
  refine lv_topi (fun r_20 w_20 => ?_)
  have hres := hres.trans (bd_eq w_20)
  have ho := (bd_eq w_20).mp ho
  refine lv_istore (lv' := [(6, .int r_20), (0, .ref aM), (1, .int p0), (2, .int p1), (3, .int p2), (4, .int p3), (5, .int p4)]) hx hb qd_M_price_23 hl (by decide) rfl (fun ls hl => ?_)
  refine lv_aload_n hx hb qd_M_price_25 rfl (lv_at hl 1 rfl) ?_
  refine lv_iload_n hx hb qd_M_price_26 rfl (lv_at hl 2 rfl) ?_
  obtain ⟨g_27, ho⟩ := ho
  refine xc_V (As := [.int p0]) (rest := []) ⟨hx, hb, hml, hown, hg⟩ (c_M_length l dC dI cA cZ aM aMh aMi aMc aMt aMn aMl aMs aMd aMe aMo aMw aMu vMT vMP vMK vMB vMD vME vMO vMF vMS vMX vMW vMi p0 g_27) (cwV 1 hg (q_gV mw_673 mw_674 mw_776 mw_8 mw_675) rfl rfl rfl qh_M_length ⟨Nat.le_of_ble_eq_true rfl, Nat.le_of_ble_eq_true rfl⟩) hN hK hP [0, 1] rfl 0 7 rfl rfl rfl hl.1 rfl (Nat.le_of_ble_eq_true rfl) qd_M_price_27 ⟨Nat.zero_le _, Nat.zero_le _⟩ ?_
  refine lv_topi (fun r_27 w_27 => ?_)
  have hres := hres.trans (bd_eq w_27)
  have ho := (bd_eq w_27).mp ho
  refine lv_iconst (v := 1) hx hb qd_M_price_30 (by decide) ?_
  refine lv_icmp_le (tgt := 59) hx hb qd_M_price_31 (by decide) (fun c_31 => ?_) (fun c_31 => ?_)
  · have hres := hres.trans (if_pos c_31)
    have ho := (if_pos c_31).mp ho
    refine lv_iload hx hb qd_M_price_59 (lv_at hl 0 rfl) ?_
    refine lv_istore (lv' := [(6, .int r_20), (0, .ref aM), (1, .int p0), (2, .int p1), (3, .int p2), (4, .int p3), (5, .int p4)]) hx hb qd_M_price_61 hl (by decide) rfl (fun ls hl => ?_)
    refine lv_aload_n hx hb qd_M_price_63 rfl (lv_at hl 1 rfl) ?_
    refine lv_iload_n hx hb qd_M_price_64 rfl (lv_at hl 2 rfl) ?_
    obtain ⟨g_65, ho⟩ := ho
    refine xc_V (As := [.int p0]) (rest := []) ⟨hx, hb, hml, hown, hg⟩ (c_M_length l dC dI cA cZ aM aMh aMi aMc aMt aMn aMl aMs aMd aMe aMo aMw aMu vMT vMP vMK vMB vMD vME vMO vMF vMS vMX vMW vMi p0 g_65) (cwV 1 hg (q_gV mw_673 mw_674 mw_776 mw_8 mw_675) rfl rfl rfl qh_M_length ⟨Nat.le_of_ble_eq_true rfl, Nat.le_of_ble_eq_true rfl⟩) hN hK hP [0, 1] rfl 0 7 rfl rfl rfl hl.1 rfl (Nat.le_of_ble_eq_true rfl) qd_M_price_65 ⟨Nat.zero_le _, Nat.zero_le _⟩ ?_
    refine lv_topi (fun r_65 w_65 => ?_)
    have hres := hres.trans (bd_eq w_65)
    have ho := (bd_eq w_65).mp ho
    refine lv_iconst (v := 2) hx hb qd_M_price_68 (by decide) ?_
    refine lv_icmp_le (tgt := 98) hx hb qd_M_price_69 (by decide) (fun c_69 => ?_) (fun c_69 => ?_)
    · have hres := hres.trans (if_pos c_69)
      have ho := (if_pos c_69).mp ho
      refine lv_iload hx hb qd_M_price_98 (lv_at hl 0 rfl) ?_
      exact W.iret (v := r_20) hx hb hr (fun t ht hW => ⟨_, rfl, hres.symm, ht⟩) (fun _ h => nomatch h) qd_M_price_100
    have hres := hres.trans (if_neg c_69)
    have ho := (if_neg c_69).mp ho
    refine lv_iload hx hb qd_M_price_72 (lv_at hl 0 rfl) ?_
    refine lv_aload_n hx hb qd_M_price_74 rfl (lv_at hl 1 rfl) ?_
    refine lv_aload_n hx hb qd_M_price_75 rfl (lv_at hl 1 rfl) ?_
    refine va_get (D := (dC, dI)) (ci := 7) (v := .ref aMi) (C := qR_M) (T := qT_M) (N := 23) hx hb hg qi_M hown hK hP 0 rfl rfl 3 (by decide) (hg _ mw_577) (fun _ h9 => h9) rfl qd_M_price_76 ?_
    refine lv_iconst (v := 3) hx hb qd_M_price_79 (by decide) ?_
    refine lv_iload_n hx hb qd_M_price_80 rfl (lv_at hl 2 rfl) ?_
    refine lv_imul hx hb qd_M_price_81 ?_
    refine lv_iconst (v := 2) hx hb qd_M_price_82 (by decide) ?_
    refine lv_iadd hx hb qd_M_price_83 ?_
    obtain ⟨g_84, ho⟩ := ho
    refine va_iald hx hb hK hP 1 0 rfl rfl g_84 qd_M_price_84 ?_
    refine lv_iload hx hb qd_M_price_85 (lv_at hl 5 rfl) ?_
    refine lv_iload hx hb qd_M_price_87 (lv_at hl 6 rfl) ?_
    obtain ⟨g_89, ho⟩ := ho
    refine xc_V (As := [.int (vMi ((3 * p0) + 2).toNatClampNeg), .int p3, .int p4]) (rest := [.int r_20]) ⟨hx, hb, hml, hown, hg⟩ (c_M_cheapest l dC dI cA cZ aM aMh aMi aMc aMt aMn aMl aMs aMd aMe aMo aMw aMu vMT vMP vMK vMB vMD vME vMO vMF vMS vMX vMW vMt vMl (vMi ((3 * p0) + 2).toNatClampNeg) p3 p4 g_89) (cwV 3 hg (q_gV mw_696 mw_697 mw_781 mw_8 mw_698) rfl rfl rfl qh_M_cheapest ⟨Nat.le_of_ble_eq_true rfl, Nat.le_of_ble_eq_true rfl⟩) hN hK hP [0, 3, 4] rfl 0 7 rfl rfl rfl hl.1 rfl (Nat.le_of_ble_eq_true rfl) qd_M_price_89 ⟨Nat.zero_le _, Nat.zero_le _⟩ ?_
    refine lv_topi (fun r_89 w_89 => ?_)
    have hres := hres.trans (bd_eq w_89)
    have ho := (bd_eq w_89).mp ho
    refine xc_S (As := [.int r_20, .int r_89]) (rest := []) ⟨hx, hb, hml, hown, hg⟩ (c_M_sum l dC dI cA cZ r_20 r_89) (va_cwS 2 hg (q_gS mw_699 mw_700 mw_8 mw_701) rfl rfl rfl qh_M_sum.2 ⟨Nat.le_of_ble_eq_true rfl, Nat.le_of_ble_eq_true rfl⟩) hN hK hP [] rfl rfl hl.1 rfl (Nat.le_of_ble_eq_true rfl) qd_M_price_92 ⟨Nat.zero_le _, Nat.zero_le _⟩ ?_
    refine lv_topi (fun r_92 w_92 => ?_)
    have hres := hres.trans (bd_eq w_92)
    have ho := (bd_eq w_92).mp ho
    refine lv_goto (tgt := 100) hx hb qd_M_price_95 (by decide) ?_
    exact W.iret (v := r_92) hx hb hr (fun t ht hW => ⟨_, rfl, hres.symm, ht⟩) (fun _ h => nomatch h) qd_M_price_100
  have hres := hres.trans (if_neg c_31)
  have ho := (if_neg c_31).mp ho
  refine lv_iload hx hb qd_M_price_34 (lv_at hl 0 rfl) ?_
  refine lv_aload_n hx hb qd_M_price_36 rfl (lv_at hl 1 rfl) ?_
  refine lv_aload_n hx hb qd_M_price_37 rfl (lv_at hl 1 rfl) ?_
  refine va_get (D := (dC, dI)) (ci := 7) (v := .ref aMi) (C := qR_M) (T := qT_M) (N := 23) hx hb hg qi_M hown hK hP 0 rfl rfl 3 (by decide) (hg _ mw_577) (fun _ h9 => h9) rfl qd_M_price_38 ?_
  refine lv_iconst (v := 3) hx hb qd_M_price_41 (by decide) ?_
  refine lv_iload_n hx hb qd_M_price_42 rfl (lv_at hl 2 rfl) ?_
  refine lv_imul hx hb qd_M_price_43 ?_
  refine lv_iconst (v := 1) hx hb qd_M_price_44 (by decide) ?_
  refine lv_iadd hx hb qd_M_price_45 ?_
  obtain ⟨g_46, ho⟩ := ho
  refine va_iald hx hb hK hP 1 0 rfl rfl g_46 qd_M_price_46 ?_
  refine lv_iload_n hx hb qd_M_price_47 rfl (lv_at hl 4 rfl) ?_
  refine lv_iload hx hb qd_M_price_48 (lv_at hl 5 rfl) ?_
  obtain ⟨g_50, ho⟩ := ho
  refine xc_V (As := [.int (vMi ((3 * p0) + 1).toNatClampNeg), .int p2, .int p3]) (rest := [.int r_20]) ⟨hx, hb, hml, hown, hg⟩ (c_M_cheapest l dC dI cA cZ aM aMh aMi aMc aMt aMn aMl aMs aMd aMe aMo aMw aMu vMT vMP vMK vMB vMD vME vMO vMF vMS vMX vMW vMt vMl (vMi ((3 * p0) + 1).toNatClampNeg) p2 p3 g_50) (cwV 3 hg (q_gV mw_696 mw_697 mw_781 mw_8 mw_698) rfl rfl rfl qh_M_cheapest ⟨Nat.le_of_ble_eq_true rfl, Nat.le_of_ble_eq_true rfl⟩) hN hK hP [0, 3, 4] rfl 0 7 rfl rfl rfl hl.1 rfl (Nat.le_of_ble_eq_true rfl) qd_M_price_50 ⟨Nat.zero_le _, Nat.zero_le _⟩ ?_
  refine lv_topi (fun r_50 w_50 => ?_)
  have hres := hres.trans (bd_eq w_50)
  have ho := (bd_eq w_50).mp ho
  refine xc_S (As := [.int r_20, .int r_50]) (rest := []) ⟨hx, hb, hml, hown, hg⟩ (c_M_sum l dC dI cA cZ r_20 r_50) (va_cwS 2 hg (q_gS mw_699 mw_700 mw_8 mw_701) rfl rfl rfl qh_M_sum.2 ⟨Nat.le_of_ble_eq_true rfl, Nat.le_of_ble_eq_true rfl⟩) hN hK hP [] rfl rfl hl.1 rfl (Nat.le_of_ble_eq_true rfl) qd_M_price_53 ⟨Nat.zero_le _, Nat.zero_le _⟩ ?_
  refine lv_topi (fun r_53 w_53 => ?_)
  have hres := hres.trans (bd_eq w_53)
  have ho := (bd_eq w_53).mp ho
  refine lv_goto (tgt := 61) hx hb qd_M_price_56 (by decide) ?_
  refine lv_istore (lv' := [(6, .int r_53), (0, .ref aM), (1, .int p0), (2, .int p1), (3, .int p2), (4, .int p3), (5, .int p4)]) hx hb qd_M_price_61 hl (by decide) rfl (fun ls hl => ?_)
  refine lv_aload_n hx hb qd_M_price_63 rfl (lv_at hl 1 rfl) ?_
  refine lv_iload_n hx hb qd_M_price_64 rfl (lv_at hl 2 rfl) ?_
  obtain ⟨g_65, ho⟩ := ho
  refine xc_V (As := [.int p0]) (rest := []) ⟨hx, hb, hml, hown, hg⟩ (c_M_length l dC dI cA cZ aM aMh aMi aMc aMt aMn aMl aMs aMd aMe aMo aMw aMu vMT vMP vMK vMB vMD vME vMO vMF vMS vMX vMW vMi p0 g_65) (cwV 1 hg (q_gV mw_673 mw_674 mw_776 mw_8 mw_675) rfl rfl rfl qh_M_length ⟨Nat.le_of_ble_eq_true rfl, Nat.le_of_ble_eq_true rfl⟩) hN hK hP [0, 1] rfl 0 7 rfl rfl rfl hl.1 rfl (Nat.le_of_ble_eq_true rfl) qd_M_price_65 ⟨Nat.zero_le _, Nat.zero_le _⟩ ?_
  refine lv_topi (fun r_65 w_65 => ?_)
  have hres := hres.trans (bd_eq w_65)
  have ho := (bd_eq w_65).mp ho
  refine lv_iconst (v := 2) hx hb qd_M_price_68 (by decide) ?_
  refine lv_icmp_le (tgt := 98) hx hb qd_M_price_69 (by decide) (fun c_69 => ?_) (fun c_69 => ?_)
  · have hres := hres.trans (if_pos c_69)
    have ho := (if_pos c_69).mp ho
    refine lv_iload hx hb qd_M_price_98 (lv_at hl 0 rfl) ?_
    exact W.iret (v := r_53) hx hb hr (fun t ht hW => ⟨_, rfl, hres.symm, ht⟩) (fun _ h => nomatch h) qd_M_price_100
  have hres := hres.trans (if_neg c_69)
  have ho := (if_neg c_69).mp ho
  refine lv_iload hx hb qd_M_price_72 (lv_at hl 0 rfl) ?_
  refine lv_aload_n hx hb qd_M_price_74 rfl (lv_at hl 1 rfl) ?_
  refine lv_aload_n hx hb qd_M_price_75 rfl (lv_at hl 1 rfl) ?_
  refine va_get (D := (dC, dI)) (ci := 7) (v := .ref aMi) (C := qR_M) (T := qT_M) (N := 23) hx hb hg qi_M hown hK hP 0 rfl rfl 3 (by decide) (hg _ mw_577) (fun _ h9 => h9) rfl qd_M_price_76 ?_
  refine lv_iconst (v := 3) hx hb qd_M_price_79 (by decide) ?_
  refine lv_iload_n hx hb qd_M_price_80 rfl (lv_at hl 2 rfl) ?_
  refine lv_imul hx hb qd_M_price_81 ?_
  refine lv_iconst (v := 2) hx hb qd_M_price_82 (by decide) ?_
  refine lv_iadd hx hb qd_M_price_83 ?_
  obtain ⟨g_84, ho⟩ := ho
  refine va_iald hx hb hK hP 1 0 rfl rfl g_84 qd_M_price_84 ?_
  refine lv_iload hx hb qd_M_price_85 (lv_at hl 5 rfl) ?_
  refine lv_iload hx hb qd_M_price_87 (lv_at hl 6 rfl) ?_
  obtain ⟨g_89, ho⟩ := ho
  refine xc_V (As := [.int (vMi ((3 * p0) + 2).toNatClampNeg), .int p3, .int p4]) (rest := [.int r_53]) ⟨hx, hb, hml, hown, hg⟩ (c_M_cheapest l dC dI cA cZ aM aMh aMi aMc aMt aMn aMl aMs aMd aMe aMo aMw aMu vMT vMP vMK vMB vMD vME vMO vMF vMS vMX vMW vMt vMl (vMi ((3 * p0) + 2).toNatClampNeg) p3 p4 g_89) (cwV 3 hg (q_gV mw_696 mw_697 mw_781 mw_8 mw_698) rfl rfl rfl qh_M_cheapest ⟨Nat.le_of_ble_eq_true rfl, Nat.le_of_ble_eq_true rfl⟩) hN hK hP [0, 3, 4] rfl 0 7 rfl rfl rfl hl.1 rfl (Nat.le_of_ble_eq_true rfl) qd_M_price_89 ⟨Nat.zero_le _, Nat.zero_le _⟩ ?_
  refine lv_topi (fun r_89 w_89 => ?_)
  have hres := hres.trans (bd_eq w_89)
  have ho := (bd_eq w_89).mp ho
  refine xc_S (As := [.int r_53, .int r_89]) (rest := []) ⟨hx, hb, hml, hown, hg⟩ (c_M_sum l dC dI cA cZ r_53 r_89) (va_cwS 2 hg (q_gS mw_699 mw_700 mw_8 mw_701) rfl rfl rfl qh_M_sum.2 ⟨Nat.le_of_ble_eq_true rfl, Nat.le_of_ble_eq_true rfl⟩) hN hK hP [] rfl rfl hl.1 rfl (Nat.le_of_ble_eq_true rfl) qd_M_price_92 ⟨Nat.zero_le _, Nat.zero_le _⟩ ?_
  refine lv_topi (fun r_92 w_92 => ?_)
  have hres := hres.trans (bd_eq w_92)
  have ho := (bd_eq w_92).mp ho
  refine lv_goto (tgt := 100) hx hb qd_M_price_95 (by decide) ?_
  exact W.iret (v := r_92) hx hb hr (fun t ht hW => ⟨_, rfl, hres.symm, ht⟩) (fun _ h => nomatch h) qd_M_price_100
theorem qd_M_begin_0 : decode qc_M_begin 0 = .ok (.aload_n 0, 1) := by decide +kernel
theorem qd_M_begin_1 : decode qc_M_begin 1 = .ok (.iload_n 1, 1) := by decide +kernel
theorem qd_M_begin_2 : decode qc_M_begin 2 = .ok (.invokevirtual 91, 3) := by decide +kernel
theorem qd_M_begin_5 : decode qc_M_begin 5 = .ok (.istore 4, 2) := by decide +kernel
theorem qd_M_begin_7 : decode qc_M_begin 7 = .ok (.aload_n 0, 1) := by decide +kernel
theorem qd_M_begin_8 : decode qc_M_begin 8 = .ok (.iload 4, 2) := by decide +kernel
theorem qd_M_begin_10 : decode qc_M_begin 10 = .ok (.iconst 1, 1) := by decide +kernel
theorem qd_M_begin_11 : decode qc_M_begin 11 = .ok (.if_icmp .ne 7, 3) := by decide +kernel
theorem qd_M_begin_14 : decode qc_M_begin 14 = .ok (.iload_n 3, 1) := by decide +kernel
theorem qd_M_begin_15 : decode qc_M_begin 15 = .ok (.goto 6, 3) := by decide +kernel
theorem qd_M_begin_18 : decode qc_M_begin 18 = .ok (.iload_n 2, 1) := by decide +kernel
theorem qd_M_begin_19 : decode qc_M_begin 19 = .ok (.iconst 1, 1) := by decide +kernel
theorem qd_M_begin_20 : decode qc_M_begin 20 = .ok (.iadd, 1) := by decide +kernel
theorem qd_M_begin_21 : decode qc_M_begin 21 = .ok (.putfield 105, 3) := by decide +kernel
theorem qd_M_begin_24 : decode qc_M_begin 24 = .ok (.aload_n 0, 1) := by decide +kernel
theorem qd_M_begin_25 : decode qc_M_begin 25 = .ok (.iload 4, 2) := by decide +kernel
theorem qd_M_begin_27 : decode qc_M_begin 27 = .ok (.iconst 3, 1) := by decide +kernel
theorem qd_M_begin_28 : decode qc_M_begin 28 = .ok (.if_icmp .ge 7, 3) := by decide +kernel
theorem qd_M_begin_31 : decode qc_M_begin 31 = .ok (.iload_n 3, 1) := by decide +kernel
theorem qd_M_begin_32 : decode qc_M_begin 32 = .ok (.goto 6, 3) := by decide +kernel
theorem qd_M_begin_35 : decode qc_M_begin 35 = .ok (.iload_n 2, 1) := by decide +kernel
theorem qd_M_begin_36 : decode qc_M_begin 36 = .ok (.iconst 2, 1) := by decide +kernel
theorem qd_M_begin_37 : decode qc_M_begin 37 = .ok (.iadd, 1) := by decide +kernel
theorem qd_M_begin_38 : decode qc_M_begin 38 = .ok (.putfield 108, 3) := by decide +kernel
theorem qd_M_begin_41 : decode qc_M_begin 41 = .ok (.return_, 1) := by decide +kernel
set_option maxHeartbeats 4000000 in
set_option maxRecDepth 100000 in
theorem c_M_begin (l : Launch) (dC : Nat → ClassId) (dI : Nat → Nat → Nat) (cA cZ : ClassId) (aM aMh aMi aMc aMt aMn aMl aMs aMd aMe aMo aMw aMu : Nat) (sz : Nat) (vMT : Int32) (vMP : Int32) (vMK : Int32) (vMB : Int32) (vMD : Int32) (vME : Int32) (vMO : Int32) (vMF : Int32) (vMS : Int32) (vMX : Int32) (vMW : Int32) (vMi : (Nat → Int32)) (p0 : Int32) (p1 : Int32) (p2 : Int32) (ho : o_M_begin vMF vMS vMi p0 p1 p2) : Met l qy_M_begin qw_M_begin ({ frames := 1, cells := 0, slots := 0, locals := 21 }) (va_Pc [.ref aM, .int p0, .int p1, .int p2] (fun U => U.heap.size = sz ∧ xP (dC, dI) [(cA, .int), (cZ, .boolean)] [(aM, .inr (7, [.int vMT, .int vMP, .ref aMh, .ref aMi, .ref aMc, .int vMK, .ref aMt, .int vMB, .ref aMn, .ref aMl, .ref aMs, .int vMD, .ref aMd, .int vME, .ref aMe, .int vMO, .ref aMo, .int vMF, .int vMS, .ref aMw, .ref aMu, .int vMX, .int vMW])), (aMi, .inl (cA, 72, .inl (vMi)))] nestN U ∧ va_D (fun _ => True) [(aM, .inr (7, [.int vMT, .int vMP, .ref aMh, .ref aMi, .ref aMc, .int vMK, .ref aMt, .int vMB, .ref aMn, .ref aMl, .ref aMs, .int vMD, .ref aMd, .int vME, .ref aMe, .int vMO, .ref aMo, .int vMF, .int vMS, .ref aMw, .ref aMu, .int vMX, .int vMW])), (aMi, .inl (cA, 72, .inl (vMi)))])) (va_Qv (fun u => u = f_M_begin vMF vMS vMi p0 p1 p2) (fun (u : Int32 × Int32) t => xP (dC, dI) [(cA, .int), (cZ, .boolean)] [(aM, .inr (7, [.int vMT, .int vMP, .ref aMh, .ref aMi, .ref aMc, .int vMK, .ref aMt, .int vMB, .ref aMn, .ref aMl, .ref aMs, .int vMD, .ref aMd, .int vME, .ref aMe, .int vMO, .ref aMo, .int u.1, .int u.2, .ref aMw, .ref aMu, .int vMX, .int vMW])), (aMi, .inl (cA, 72, .inl (vMi)))] nestN t ∧ va_D (va_A [(aM, .inr (7, [.int vMT, .int vMP, .ref aMh, .ref aMi, .ref aMc, .int vMK, .ref aMt, .int vMB, .ref aMn, .ref aMl, .ref aMs, .int vMD, .ref aMd, .int vME, .ref aMe, .int vMO, .ref aMo, .int vMF, .int vMS, .ref aMw, .ref aMu, .int vMX, .int vMW])), (aMi, .inl (cA, 72, .inl (vMi)))] sz) [(aM, .inr (7, [.int vMT, .int vMP, .ref aMh, .ref aMi, .ref aMc, .int vMK, .ref aMt, .int vMB, .ref aMn, .ref aMl, .ref aMs, .int vMD, .ref aMd, .int vME, .ref aMe, .int vMO, .ref aMo, .int u.1, .int u.2, .ref aMw, .ref aMu, .int vMX, .int vMW])), (aMi, .inl (cA, 72, .inl (vMi)))]) (va_A [(aM, .inr (7, [.int vMT, .int vMP, .ref aMh, .ref aMi, .ref aMc, .int vMK, .ref aMt, .int vMB, .ref aMn, .ref aMl, .ref aMs, .int vMD, .ref aMd, .int vME, .ref aMe, .int vMO, .ref aMo, .int vMF, .int vMS, .ref aMw, .ref aMu, .int vMX, .int vMW])), (aMi, .inl (cA, 72, .inl (vMi)))] sz)) 0 0 (va_A [(aM, .inr (7, [.int vMT, .int vMP, .ref aMh, .ref aMi, .ref aMc, .int vMK, .ref aMt, .int vMB, .ref aMn, .ref aMl, .ref aMs, .int vMD, .ref aMd, .int vME, .ref aMe, .int vMO, .ref aMo, .int vMF, .int vMS, .ref aMw, .ref aMu, .int vMX, .int vMW])), (aMi, .inl (cA, 72, .inl (vMi)))] sz) := by
  refine Met.ofW (cc := qc_M_begin) (maxL := 5) (ret := (none)) (by decide) rfl ?_
  intro p e s m args below meth c s₁ B hml hv
  obtain ⟨rfl, hsz, ⟨hP, hK, hN⟩, hD0⟩ := hv
  have hx := B.exec
  have hb := B.bytes
  have hr := B.returns
  have hts := atoms_spec (ws := qw_M_begin) B.pre
  have hg : ∀ w ∈ gG, w.before _ s = true := fun w h => hts w (List.mem_cons_of_mem _ h)
  have hown : s.vm.findClass qR_M = some m.cls := findClass_of_methodNamed B.named
  have hlocks := B.notSynchronized
  subst hsz
  have hD := hD0.self (sz := s.heap.size)
  generalize hAe : va_A [(aM, .inr (7, [.int vMT, .int vMP, .ref aMh, .ref aMi, .ref aMc, .int vMK, .ref aMt, .int vMB, .ref aMn, .ref aMl, .ref aMs, .int vMD, .ref aMd, .int vME, .ref aMe, .int vMO, .ref aMo, .int vMF, .int vMS, .ref aMw, .ref aMu, .int vMX, .int vMW])), (aMi, .inl (cA, 72, .inl (vMi)))] s.heap.size = A at hD ⊢
  have hA : ∀ q : Nat, s.heap.size ≤ q → A q := fun q h => by rw [← hAe]; exact Or.inr h
  have hS : va_S A s.heap s.heap [] := va_S.rf
  have hP : va_P (dC, dI) vwCl [(aM, .inr (7, [.int vMT, .int vMP, .ref aMh, .ref aMi, .ref aMc, .int vMK, .ref aMt, .int vMB, .ref aMn, .ref aMl, .ref aMs, .int vMD, .ref aMd, .int vME, .ref aMe, .int vMO, .ref aMo, .int vMF, .int vMS, .ref aMw, .ref aMu, .int vMX, .int vMW])), (aMi, .inl (cA, 72, .inl (vMi)))] s.heap := hP
  have hl := lv_entry ([.ref aM, .int p0, .int p1, .int p2]) (n := 5) (Nat.le_of_ble_eq_true rfl)
  rw [lg_entry_eq]
  generalize (lg_sl ([.ref aM, .int p0, .int p1, .int p2]) ++ List.replicate (5 - (lg_sl ([.ref aM, .int p0, .int p1, .int p2])).length) Slot.unset).toArray = ls at hl ⊢
  have hl : lv_has ls 5 [(0, .ref aM), (1, .int p0), (2, .int p1), (3, .int p2)] := hl
  generalize hF : f_M_begin vMF vMS vMi p0 p1 p2 = Fv
  have hres : Fv = f_M_begin vMF vMS vMi p0 p1 p2 := hF.symm
  unfold f_M_begin at hres
  unfold o_M_begin at ho
  refine lv_aload_n hx hb qd_M_begin_0 rfl (lv_at hl 0 rfl) ?_
  refine lv_iload_n hx hb qd_M_begin_1 rfl (lv_at hl 1 rfl) ?_
  obtain ⟨g_2, ho⟩ := ho
  refine xc_V (As := [.int p0]) (rest := []) ⟨hx, hb, hml, hown, hg⟩ (c_M_length l dC dI cA cZ aM aMh aMi aMc aMt aMn aMl aMs aMd aMe aMo aMw aMu vMT vMP vMK vMB vMD vME vMO vMF vMS vMX vMW vMi p0 g_2) (cwV 1 hg (q_gV mw_673 mw_674 mw_776 mw_8 mw_675) rfl rfl rfl qh_M_length ⟨Nat.le_of_ble_eq_true rfl, Nat.le_of_ble_eq_true rfl⟩) hN hK hP [0, 1] rfl 0 7 rfl rfl rfl hl.1 rfl (Nat.le_of_ble_eq_true rfl) qd_M_begin_2 ⟨Nat.zero_le _, Nat.zero_le _⟩ ?_
  refine lv_topi (fun r_2 w_2 => ?_)
  have hres := hres.trans (bd_eq w_2)
  have ho := (bd_eq w_2).mp ho
  refine lv_istore (lv' := [(4, .int r_2), (0, .ref aM), (1, .int p0), (2, .int p1), (3, .int p2)]) hx hb qd_M_begin_5 hl (by decide) rfl (fun ls hl => ?_)
  refine lv_aload_n hx hb qd_M_begin_7 rfl (lv_at hl 1 rfl) ?_
  refine lv_iload hx hb qd_M_begin_8 (lv_at hl 0 rfl) ?_
  refine lv_iconst (v := 1) hx hb qd_M_begin_10 (by decide) ?_
  refine lv_icmp_ne (tgt := 18) hx hb qd_M_begin_11 (by decide) (fun c_11 => ?_) (fun c_11 => ?_)
  · have hres := hres.trans (if_neg c_11)
    have ho := (if_neg c_11).mp ho
    refine lv_iload_n hx hb qd_M_begin_18 rfl (lv_at hl 3 rfl) ?_
    refine lv_iconst (v := 1) hx hb qd_M_begin_19 (by decide) ?_
    refine lv_iadd hx hb qd_M_begin_20 ?_
    refine va_put (D := (dC, dI)) (ci := 7) (v := .int (p1 + 1)) (ty := .int) (C := qR_M) (T := qT_M) (N := 23) hx hb hg qi_M qt_M qk_M qn_M hown hK hP hD hS 0 rfl rfl 17 (by decide) (hg _ mw_591) (fun _ h9 => h9) rfl (by decide +kernel) rfl rfl (Nat.le_of_ble_eq_true rfl) qd_M_begin_21 (fun H locs hP hD hS => ?_)
    have hP : va_P (dC, dI) vwCl [(aM, .inr (7, [.int vMT, .int vMP, .ref aMh, .ref aMi, .ref aMc, .int vMK, .ref aMt, .int vMB, .ref aMn, .ref aMl, .ref aMs, .int vMD, .ref aMd, .int vME, .ref aMe, .int vMO, .ref aMo, .int (p1 + 1), .int vMS, .ref aMw, .ref aMu, .int vMX, .int vMW])), (aMi, .inl (cA, 72, .inl (vMi)))] H := hP
    have hD : va_D A [(aM, .inr (7, [.int vMT, .int vMP, .ref aMh, .ref aMi, .ref aMc, .int vMK, .ref aMt, .int vMB, .ref aMn, .ref aMl, .ref aMs, .int vMD, .ref aMd, .int vME, .ref aMe, .int vMO, .ref aMo, .int (p1 + 1), .int vMS, .ref aMw, .ref aMu, .int vMX, .int vMW])), (aMi, .inl (cA, 72, .inl (vMi)))] := hD
    refine lv_aload_n hx hb qd_M_begin_24 rfl (lv_at hl 1 rfl) ?_
    refine lv_iload hx hb qd_M_begin_25 (lv_at hl 0 rfl) ?_
    refine lv_iconst (v := 3) hx hb qd_M_begin_27 (by decide) ?_
    refine lv_icmp_ge (tgt := 35) hx hb qd_M_begin_28 (by decide) (fun c_28 => ?_) (fun c_28 => ?_)
    · have hres := hres.trans (if_pos c_28)
      have ho := (if_pos c_28).mp ho
      refine lv_iload_n hx hb qd_M_begin_35 rfl (lv_at hl 3 rfl) ?_
      refine lv_iconst (v := 2) hx hb qd_M_begin_36 (by decide) ?_
      refine lv_iadd hx hb qd_M_begin_37 ?_
      refine va_put (D := (dC, dI)) (ci := 7) (v := .int (p1 + 2)) (ty := .int) (C := qR_M) (T := qT_M) (N := 23) hx hb hg qi_M qt_M qk_M qn_M hown hK hP hD hS 0 rfl rfl 18 (by decide) (hg _ mw_592) (fun _ h9 => h9) rfl (by decide +kernel) rfl rfl (Nat.le_of_ble_eq_true rfl) qd_M_begin_38 (fun H locs hP hD hS => ?_)
      have hP : va_P (dC, dI) vwCl [(aM, .inr (7, [.int vMT, .int vMP, .ref aMh, .ref aMi, .ref aMc, .int vMK, .ref aMt, .int vMB, .ref aMn, .ref aMl, .ref aMs, .int vMD, .ref aMd, .int vME, .ref aMe, .int vMO, .ref aMo, .int (p1 + 1), .int (p1 + 2), .ref aMw, .ref aMu, .int vMX, .int vMW])), (aMi, .inl (cA, 72, .inl (vMi)))] H := hP
      have hD : va_D A [(aM, .inr (7, [.int vMT, .int vMP, .ref aMh, .ref aMi, .ref aMc, .int vMK, .ref aMt, .int vMB, .ref aMn, .ref aMl, .ref aMs, .int vMD, .ref aMd, .int vME, .ref aMe, .int vMO, .ref aMo, .int (p1 + 1), .int (p1 + 2), .ref aMw, .ref aMu, .int vMX, .int vMW])), (aMi, .inl (cA, 72, .inl (vMi)))] := hD
      exact W.vret hx hb hr (fun t ht hW => ⟨⟨(p1 + 1, p1 + 2), rfl, hres.symm, ⟨by rw [ht]; exact hP, va_K.moved hW.alike hK, x_N hN hW⟩, hD⟩, hS.F ht⟩) hS.2.2 qd_M_begin_41
    have hres := hres.trans (if_neg c_28)
    have ho := (if_neg c_28).mp ho
    refine lv_iload_n hx hb qd_M_begin_31 rfl (lv_at hl 4 rfl) ?_
    refine lv_goto (tgt := 38) hx hb qd_M_begin_32 (by decide) ?_
    refine va_put (D := (dC, dI)) (ci := 7) (v := .int p2) (ty := .int) (C := qR_M) (T := qT_M) (N := 23) hx hb hg qi_M qt_M qk_M qn_M hown hK hP hD hS 0 rfl rfl 18 (by decide) (hg _ mw_592) (fun _ h9 => h9) rfl (by decide +kernel) rfl rfl (Nat.le_of_ble_eq_true rfl) qd_M_begin_38 (fun H locs hP hD hS => ?_)
    have hP : va_P (dC, dI) vwCl [(aM, .inr (7, [.int vMT, .int vMP, .ref aMh, .ref aMi, .ref aMc, .int vMK, .ref aMt, .int vMB, .ref aMn, .ref aMl, .ref aMs, .int vMD, .ref aMd, .int vME, .ref aMe, .int vMO, .ref aMo, .int (p1 + 1), .int p2, .ref aMw, .ref aMu, .int vMX, .int vMW])), (aMi, .inl (cA, 72, .inl (vMi)))] H := hP
    have hD : va_D A [(aM, .inr (7, [.int vMT, .int vMP, .ref aMh, .ref aMi, .ref aMc, .int vMK, .ref aMt, .int vMB, .ref aMn, .ref aMl, .ref aMs, .int vMD, .ref aMd, .int vME, .ref aMe, .int vMO, .ref aMo, .int (p1 + 1), .int p2, .ref aMw, .ref aMu, .int vMX, .int vMW])), (aMi, .inl (cA, 72, .inl (vMi)))] := hD
    exact W.vret hx hb hr (fun t ht hW => ⟨⟨(p1 + 1, p2), rfl, hres.symm, ⟨by rw [ht]; exact hP, va_K.moved hW.alike hK, x_N hN hW⟩, hD⟩, hS.F ht⟩) hS.2.2 qd_M_begin_41
  have hres := hres.trans (if_pos c_11)
  have ho := (if_pos c_11).mp ho
  refine lv_iload_n hx hb qd_M_begin_14 rfl (lv_at hl 4 rfl) ?_
  refine lv_goto (tgt := 21) hx hb qd_M_begin_15 (by decide) ?_
  refine va_put (D := (dC, dI)) (ci := 7) (v := .int p2) (ty := .int) (C := qR_M) (T := qT_M) (N := 23) hx hb hg qi_M qt_M qk_M qn_M hown hK hP hD hS 0 rfl rfl 17 (by decide) (hg _ mw_591) (fun _ h9 => h9) rfl (by decide +kernel) rfl rfl (Nat.le_of_ble_eq_true rfl) qd_M_begin_21 (fun H locs hP hD hS => ?_)
  have hP : va_P (dC, dI) vwCl [(aM, .inr (7, [.int vMT, .int vMP, .ref aMh, .ref aMi, .ref aMc, .int vMK, .ref aMt, .int vMB, .ref aMn, .ref aMl, .ref aMs, .int vMD, .ref aMd, .int vME, .ref aMe, .int vMO, .ref aMo, .int p2, .int vMS, .ref aMw, .ref aMu, .int vMX, .int vMW])), (aMi, .inl (cA, 72, .inl (vMi)))] H := hP
  have hD : va_D A [(aM, .inr (7, [.int vMT, .int vMP, .ref aMh, .ref aMi, .ref aMc, .int vMK, .ref aMt, .int vMB, .ref aMn, .ref aMl, .ref aMs, .int vMD, .ref aMd, .int vME, .ref aMe, .int vMO, .ref aMo, .int p2, .int vMS, .ref aMw, .ref aMu, .int vMX, .int vMW])), (aMi, .inl (cA, 72, .inl (vMi)))] := hD
  refine lv_aload_n hx hb qd_M_begin_24 rfl (lv_at hl 1 rfl) ?_
  refine lv_iload hx hb qd_M_begin_25 (lv_at hl 0 rfl) ?_
  refine lv_iconst (v := 3) hx hb qd_M_begin_27 (by decide) ?_
  refine lv_icmp_ge (tgt := 35) hx hb qd_M_begin_28 (by decide) (fun c_28 => ?_) (fun c_28 => ?_)
  · have hres := hres.trans (if_pos c_28)
    have ho := (if_pos c_28).mp ho
    refine lv_iload_n hx hb qd_M_begin_35 rfl (lv_at hl 3 rfl) ?_
    refine lv_iconst (v := 2) hx hb qd_M_begin_36 (by decide) ?_
    refine lv_iadd hx hb qd_M_begin_37 ?_
    refine va_put (D := (dC, dI)) (ci := 7) (v := .int (p1 + 2)) (ty := .int) (C := qR_M) (T := qT_M) (N := 23) hx hb hg qi_M qt_M qk_M qn_M hown hK hP hD hS 0 rfl rfl 18 (by decide) (hg _ mw_592) (fun _ h9 => h9) rfl (by decide +kernel) rfl rfl (Nat.le_of_ble_eq_true rfl) qd_M_begin_38 (fun H locs hP hD hS => ?_)
    have hP : va_P (dC, dI) vwCl [(aM, .inr (7, [.int vMT, .int vMP, .ref aMh, .ref aMi, .ref aMc, .int vMK, .ref aMt, .int vMB, .ref aMn, .ref aMl, .ref aMs, .int vMD, .ref aMd, .int vME, .ref aMe, .int vMO, .ref aMo, .int p2, .int (p1 + 2), .ref aMw, .ref aMu, .int vMX, .int vMW])), (aMi, .inl (cA, 72, .inl (vMi)))] H := hP
    have hD : va_D A [(aM, .inr (7, [.int vMT, .int vMP, .ref aMh, .ref aMi, .ref aMc, .int vMK, .ref aMt, .int vMB, .ref aMn, .ref aMl, .ref aMs, .int vMD, .ref aMd, .int vME, .ref aMe, .int vMO, .ref aMo, .int p2, .int (p1 + 2), .ref aMw, .ref aMu, .int vMX, .int vMW])), (aMi, .inl (cA, 72, .inl (vMi)))] := hD
    exact W.vret hx hb hr (fun t ht hW => ⟨⟨(p2, p1 + 2), rfl, hres.symm, ⟨by rw [ht]; exact hP, va_K.moved hW.alike hK, x_N hN hW⟩, hD⟩, hS.F ht⟩) hS.2.2 qd_M_begin_41
  have hres := hres.trans (if_neg c_28)
  have ho := (if_neg c_28).mp ho
  refine lv_iload_n hx hb qd_M_begin_31 rfl (lv_at hl 4 rfl) ?_
  refine lv_goto (tgt := 38) hx hb qd_M_begin_32 (by decide) ?_
  refine va_put (D := (dC, dI)) (ci := 7) (v := .int p2) (ty := .int) (C := qR_M) (T := qT_M) (N := 23) hx hb hg qi_M qt_M qk_M qn_M hown hK hP hD hS 0 rfl rfl 18 (by decide) (hg _ mw_592) (fun _ h9 => h9) rfl (by decide +kernel) rfl rfl (Nat.le_of_ble_eq_true rfl) qd_M_begin_38 (fun H locs hP hD hS => ?_)
  have hP : va_P (dC, dI) vwCl [(aM, .inr (7, [.int vMT, .int vMP, .ref aMh, .ref aMi, .ref aMc, .int vMK, .ref aMt, .int vMB, .ref aMn, .ref aMl, .ref aMs, .int vMD, .ref aMd, .int vME, .ref aMe, .int vMO, .ref aMo, .int p2, .int p2, .ref aMw, .ref aMu, .int vMX, .int vMW])), (aMi, .inl (cA, 72, .inl (vMi)))] H := hP
  have hD : va_D A [(aM, .inr (7, [.int vMT, .int vMP, .ref aMh, .ref aMi, .ref aMc, .int vMK, .ref aMt, .int vMB, .ref aMn, .ref aMl, .ref aMs, .int vMD, .ref aMd, .int vME, .ref aMe, .int vMO, .ref aMo, .int p2, .int p2, .ref aMw, .ref aMu, .int vMX, .int vMW])), (aMi, .inl (cA, 72, .inl (vMi)))] := hD
  exact W.vret hx hb hr (fun t ht hW => ⟨⟨(p2, p2), rfl, hres.symm, ⟨by rw [ht]; exact hP, va_K.moved hW.alike hK, x_N hN hW⟩, hD⟩, hS.F ht⟩) hS.2.2 qd_M_begin_41
theorem qd_M_isParted_0 : decode qc_M_isParted 0 = .ok (.aload_n 0, 1) := by decide +kernel
theorem qd_M_isParted_1 : decode qc_M_isParted 1 = .ok (.iload_n 1, 1) := by decide +kernel
theorem qd_M_isParted_2 : decode qc_M_isParted 2 = .ok (.invokevirtual 91, 3) := by decide +kernel
theorem qd_M_isParted_5 : decode qc_M_isParted 5 = .ok (.istore 4, 2) := by decide +kernel
theorem qd_M_isParted_7 : decode qc_M_isParted 7 = .ok (.iload 4, 2) := by decide +kernel
theorem qd_M_isParted_9 : decode qc_M_isParted 9 = .ok (.iconst 1, 1) := by decide +kernel
theorem qd_M_isParted_10 : decode qc_M_isParted 10 = .ok (.if_icmp .eq 39, 3) := by decide +kernel
theorem qd_M_isParted_13 : decode qc_M_isParted 13 = .ok (.iload 4, 2) := by decide +kernel
theorem qd_M_isParted_15 : decode qc_M_isParted 15 = .ok (.iconst 2, 1) := by decide +kernel
theorem qd_M_isParted_16 : decode qc_M_isParted 16 = .ok (.if_icmp .ne 14, 3) := by decide +kernel
theorem qd_M_isParted_19 : decode qc_M_isParted 19 = .ok (.aload_n 0, 1) := by decide +kernel
theorem qd_M_isParted_20 : decode qc_M_isParted 20 = .ok (.getfield 105, 3) := by decide +kernel
theorem qd_M_isParted_23 : decode qc_M_isParted 23 = .ok (.iload_n 3, 1) := by decide +kernel
theorem qd_M_isParted_24 : decode qc_M_isParted 24 = .ok (.if_icmp .ge 29, 3) := by decide +kernel
theorem qd_M_isParted_27 : decode qc_M_isParted 27 = .ok (.goto 22, 3) := by decide +kernel
theorem qd_M_isParted_30 : decode qc_M_isParted 30 = .ok (.aload_n 0, 1) := by decide +kernel
theorem qd_M_isParted_31 : decode qc_M_isParted 31 = .ok (.getfield 105, 3) := by decide +kernel
theorem qd_M_isParted_34 : decode qc_M_isParted 34 = .ok (.aload_n 0, 1) := by decide +kernel
theorem qd_M_isParted_35 : decode qc_M_isParted 35 = .ok (.getfield 108, 3) := by decide +kernel
theorem qd_M_isParted_38 : decode qc_M_isParted 38 = .ok (.if_icmp .ge 15, 3) := by decide +kernel
theorem qd_M_isParted_41 : decode qc_M_isParted 41 = .ok (.aload_n 0, 1) := by decide +kernel
theorem qd_M_isParted_42 : decode qc_M_isParted 42 = .ok (.getfield 108, 3) := by decide +kernel
theorem qd_M_isParted_45 : decode qc_M_isParted 45 = .ok (.iload_n 3, 1) := by decide +kernel
theorem qd_M_isParted_46 : decode qc_M_isParted 46 = .ok (.if_icmp .ge 7, 3) := by decide +kernel
theorem qd_M_isParted_49 : decode qc_M_isParted 49 = .ok (.iconst 1, 1) := by decide +kernel
theorem qd_M_isParted_50 : decode qc_M_isParted 50 = .ok (.goto 4, 3) := by decide +kernel
theorem qd_M_isParted_53 : decode qc_M_isParted 53 = .ok (.iconst 0, 1) := by decide +kernel
theorem qd_M_isParted_54 : decode qc_M_isParted 54 = .ok (.ireturn, 1) := by decide +kernel
set_option maxHeartbeats 4000000 in
set_option maxRecDepth 100000 in
theorem c_M_isParted (l : Launch) (dC : Nat → ClassId) (dI : Nat → Nat → Nat) (cA cZ : ClassId) (aM aMh aMi aMc aMt aMn aMl aMs aMd aMe aMo aMw aMu : Nat) (vMT : Int32) (vMP : Int32) (vMK : Int32) (vMB : Int32) (vMD : Int32) (vME : Int32) (vMO : Int32) (vMF : Int32) (vMS : Int32) (vMX : Int32) (vMW : Int32) (vMi : (Nat → Int32)) (p0 : Int32) (p1 : Int32) (p2 : Int32) (ho : o_M_isParted vMF vMS vMi p0 p1 p2) : Met l qy_M_isParted qw_M_isParted ({ frames := 1, cells := 0, slots := 0, locals := 21 }) (va_Pc [.ref aM, .int p0, .int p1, .int p2] (xP (dC, dI) [(cA, .int), (cZ, .boolean)] [(aM, .inr (7, [.int vMT, .int vMP, .ref aMh, .ref aMi, .ref aMc, .int vMK, .ref aMt, .int vMB, .ref aMn, .ref aMl, .ref aMs, .int vMD, .ref aMd, .int vME, .ref aMe, .int vMO, .ref aMo, .int vMF, .int vMS, .ref aMw, .ref aMu, .int vMX, .int vMW])), (aMi, .inl (cA, 72, .inl (vMi)))] nestN)) (vp_Si (fun r => r = f_M_isParted vMF vMS vMi p0 p1 p2)) 0 0 (fun _ => False) := by
  refine Met.ofW (cc := qc_M_isParted) (maxL := 5) (ret := (some .boolean)) (by decide) rfl ?_
  intro p e s m args below meth c s₁ B hml hv
  obtain ⟨rfl, hP, hK, hN⟩ := hv
  have hx := B.exec
  have hb := B.bytes
  have hr := B.returns
  have hts := atoms_spec (ws := qw_M_isParted) B.pre
  have hg : ∀ w ∈ gG, w.before _ s = true := fun w h => hts w (List.mem_cons_of_mem _ h)
  have hown : s.vm.findClass qR_M = some m.cls := findClass_of_methodNamed B.named
  have hlocks := B.notSynchronized
  have hP : va_P (dC, dI) vwCl [(aM, .inr (7, [.int vMT, .int vMP, .ref aMh, .ref aMi, .ref aMc, .int vMK, .ref aMt, .int vMB, .ref aMn, .ref aMl, .ref aMs, .int vMD, .ref aMd, .int vME, .ref aMe, .int vMO, .ref aMo, .int vMF, .int vMS, .ref aMw, .ref aMu, .int vMX, .int vMW])), (aMi, .inl (cA, 72, .inl (vMi)))] s.heap := hP
  have hl := lv_entry ([.ref aM, .int p0, .int p1, .int p2]) (n := 5) (Nat.le_of_ble_eq_true rfl)
  rw [lg_entry_eq]
  generalize (lg_sl ([.ref aM, .int p0, .int p1, .int p2]) ++ List.replicate (5 - (lg_sl ([.ref aM, .int p0, .int p1, .int p2])).length) Slot.unset).toArray = ls at hl ⊢
  have hl : lv_has ls 5 [(0, .ref aM), (1, .int p0), (2, .int p1), (3, .int p2)] := hl
  generalize hF : f_M_isParted vMF vMS vMi p0 p1 p2 = Fv
  have hres : Fv = f_M_isParted vMF vMS vMi p0 p1 p2 := hF.symm
  unfold f_M_isParted at hres
  unfold o_M_isParted at ho
  refine lv_aload_n hx hb qd_M_isParted_0 rfl (lv_at hl 0 rfl) ?_
  refine lv_iload_n hx hb qd_M_isParted_1 rfl (lv_at hl 1 rfl) ?_
  obtain ⟨g_2, ho⟩ := ho
  refine xc_V (As := [.int p0]) (rest := []) ⟨hx, hb, hml, hown, hg⟩ (c_M_length l dC dI cA cZ aM aMh aMi aMc aMt aMn aMl aMs aMd aMe aMo aMw aMu vMT vMP vMK vMB vMD vME vMO vMF vMS vMX vMW vMi p0 g_2) (cwV 1 hg (q_gV mw_673 mw_674 mw_776 mw_8 mw_675) rfl rfl rfl qh_M_length ⟨Nat.le_of_ble_eq_true rfl, Nat.le_of_ble_eq_true rfl⟩) hN hK hP [0, 1] rfl 0 7 rfl rfl rfl hl.1 rfl (Nat.le_of_ble_eq_true rfl) qd_M_isParted_2 ⟨Nat.zero_le _, Nat.zero_le _⟩ ?_
  refine lv_topi (fun r_2 w_2 => ?_)
  have hres := hres.trans (bd_eq w_2)
  have ho := (bd_eq w_2).mp ho
  refine lv_istore (lv' := [(4, .int r_2), (0, .ref aM), (1, .int p0), (2, .int p1), (3, .int p2)]) hx hb qd_M_isParted_5 hl (by decide) rfl (fun ls hl => ?_)
  refine lv_iload hx hb qd_M_isParted_7 (lv_at hl 0 rfl) ?_
  refine lv_iconst (v := 1) hx hb qd_M_isParted_9 (by decide) ?_
  refine lv_icmp_eq (tgt := 49) hx hb qd_M_isParted_10 (by decide) (fun c_10 => ?_) (fun c_10 => ?_)
  · have hres := hres.trans (if_pos c_10)
    have ho := (if_pos c_10).mp ho
    refine lv_iconst (v := 1) hx hb qd_M_isParted_49 (by decide) ?_
    refine lv_goto (tgt := 54) hx hb qd_M_isParted_50 (by decide) ?_
    exact W.zret (v := 1) (ty := .boolean) hx hb hr (by decide) (fun t ht hW => ⟨_, rfl, hres.symm, ht⟩) (fun _ h => nomatch h) qd_M_isParted_54
  have hres := hres.trans (if_neg c_10)
  have ho := (if_neg c_10).mp ho
  refine lv_iload hx hb qd_M_isParted_13 (lv_at hl 0 rfl) ?_
  refine lv_iconst (v := 2) hx hb qd_M_isParted_15 (by decide) ?_
  refine lv_icmp_ne (tgt := 30) hx hb qd_M_isParted_16 (by decide) (fun c_16 => ?_) (fun c_16 => ?_)
  · have hres := hres.trans (if_neg c_16)
    have ho := (if_neg c_16).mp ho
    refine lv_aload_n hx hb qd_M_isParted_30 rfl (lv_at hl 1 rfl) ?_
    refine va_get (D := (dC, dI)) (ci := 7) (v := .int vMF) (C := qR_M) (T := qT_M) (N := 23) hx hb hg qi_M hown hK hP 0 rfl rfl 17 (by decide) (hg _ mw_591) (fun _ h9 => h9) rfl qd_M_isParted_31 ?_
    refine lv_aload_n hx hb qd_M_isParted_34 rfl (lv_at hl 1 rfl) ?_
    refine va_get (D := (dC, dI)) (ci := 7) (v := .int vMS) (C := qR_M) (T := qT_M) (N := 23) hx hb hg qi_M hown hK hP 0 rfl rfl 18 (by decide) (hg _ mw_592) (fun _ h9 => h9) rfl qd_M_isParted_35 ?_
    refine lv_icmp_ge (tgt := 53) hx hb qd_M_isParted_38 (by decide) (fun c_38 => ?_) (fun c_38 => ?_)
    · have hres := hres.trans (if_pos c_38)
      have ho := (if_pos c_38).mp ho
      refine lv_iconst (v := 0) hx hb qd_M_isParted_53 (by decide) ?_
      exact W.zret (v := 0) (ty := .boolean) hx hb hr (by decide) (fun t ht hW => ⟨_, rfl, hres.symm, ht⟩) (fun _ h => nomatch h) qd_M_isParted_54
    have hres := hres.trans (if_neg c_38)
    have ho := (if_neg c_38).mp ho
    refine lv_aload_n hx hb qd_M_isParted_41 rfl (lv_at hl 1 rfl) ?_
    refine va_get (D := (dC, dI)) (ci := 7) (v := .int vMS) (C := qR_M) (T := qT_M) (N := 23) hx hb hg qi_M hown hK hP 0 rfl rfl 18 (by decide) (hg _ mw_592) (fun _ h9 => h9) rfl qd_M_isParted_42 ?_
    refine lv_iload_n hx hb qd_M_isParted_45 rfl (lv_at hl 4 rfl) ?_
    refine lv_icmp_ge (tgt := 53) hx hb qd_M_isParted_46 (by decide) (fun c_46 => ?_) (fun c_46 => ?_)
    · have hres := hres.trans (if_pos c_46)
      have ho := (if_pos c_46).mp ho
      refine lv_iconst (v := 0) hx hb qd_M_isParted_53 (by decide) ?_
      exact W.zret (v := 0) (ty := .boolean) hx hb hr (by decide) (fun t ht hW => ⟨_, rfl, hres.symm, ht⟩) (fun _ h => nomatch h) qd_M_isParted_54
    have hres := hres.trans (if_neg c_46)
    have ho := (if_neg c_46).mp ho
    refine lv_iconst (v := 1) hx hb qd_M_isParted_49 (by decide) ?_
    refine lv_goto (tgt := 54) hx hb qd_M_isParted_50 (by decide) ?_
    exact W.zret (v := 1) (ty := .boolean) hx hb hr (by decide) (fun t ht hW => ⟨_, rfl, hres.symm, ht⟩) (fun _ h => nomatch h) qd_M_isParted_54
  have hres := hres.trans (if_pos c_16)
  have ho := (if_pos c_16).mp ho
  refine lv_aload_n hx hb qd_M_isParted_19 rfl (lv_at hl 1 rfl) ?_
  refine va_get (D := (dC, dI)) (ci := 7) (v := .int vMF) (C := qR_M) (T := qT_M) (N := 23) hx hb hg qi_M hown hK hP 0 rfl rfl 17 (by decide) (hg _ mw_591) (fun _ h9 => h9) rfl qd_M_isParted_20 ?_
  refine lv_iload_n hx hb qd_M_isParted_23 rfl (lv_at hl 4 rfl) ?_
  refine lv_icmp_ge (tgt := 53) hx hb qd_M_isParted_24 (by decide) (fun c_24 => ?_) (fun c_24 => ?_)
  · have hres := hres.trans (if_pos c_24)
    have ho := (if_pos c_24).mp ho
    refine lv_iconst (v := 0) hx hb qd_M_isParted_53 (by decide) ?_
    exact W.zret (v := 0) (ty := .boolean) hx hb hr (by decide) (fun t ht hW => ⟨_, rfl, hres.symm, ht⟩) (fun _ h => nomatch h) qd_M_isParted_54
  have hres := hres.trans (if_neg c_24)
  have ho := (if_neg c_24).mp ho
  refine lv_goto (tgt := 49) hx hb qd_M_isParted_27 (by decide) ?_
  refine lv_iconst (v := 1) hx hb qd_M_isParted_49 (by decide) ?_
  refine lv_goto (tgt := 54) hx hb qd_M_isParted_50 (by decide) ?_
  exact W.zret (v := 1) (ty := .boolean) hx hb hr (by decide) (fun t ht hW => ⟨_, rfl, hres.symm, ht⟩) (fun _ h => nomatch h) qd_M_isParted_54
theorem qd_M_goOn_0 : decode qc_M_goOn 0 = .ok (.aload_n 0, 1) := by decide +kernel
theorem qd_M_goOn_1 : decode qc_M_goOn 1 = .ok (.iload_n 1, 1) := by decide +kernel
theorem qd_M_goOn_2 : decode qc_M_goOn 2 = .ok (.invokevirtual 91, 3) := by decide +kernel
theorem qd_M_goOn_5 : decode qc_M_goOn 5 = .ok (.istore 4, 2) := by decide +kernel
theorem qd_M_goOn_7 : decode qc_M_goOn 7 = .ok (.iload 4, 2) := by decide +kernel
theorem qd_M_goOn_9 : decode qc_M_goOn 9 = .ok (.iconst 3, 1) := by decide +kernel
theorem qd_M_goOn_10 : decode qc_M_goOn 10 = .ok (.if_icmp .ne 26, 3) := by decide +kernel
theorem qd_M_goOn_13 : decode qc_M_goOn 13 = .ok (.aload_n 0, 1) := by decide +kernel
theorem qd_M_goOn_14 : decode qc_M_goOn 14 = .ok (.getfield 108, 3) := by decide +kernel
theorem qd_M_goOn_17 : decode qc_M_goOn 17 = .ok (.iconst 1, 1) := by decide +kernel
theorem qd_M_goOn_18 : decode qc_M_goOn 18 = .ok (.iadd, 1) := by decide +kernel
theorem qd_M_goOn_19 : decode qc_M_goOn 19 = .ok (.iload_n 3, 1) := by decide +kernel
theorem qd_M_goOn_20 : decode qc_M_goOn 20 = .ok (.if_icmp .ge 16, 3) := by decide +kernel
theorem qd_M_goOn_23 : decode qc_M_goOn 23 = .ok (.aload_n 0, 1) := by decide +kernel
theorem qd_M_goOn_24 : decode qc_M_goOn 24 = .ok (.dup, 1) := by decide +kernel
theorem qd_M_goOn_25 : decode qc_M_goOn 25 = .ok (.getfield 108, 3) := by decide +kernel
theorem qd_M_goOn_28 : decode qc_M_goOn 28 = .ok (.iconst 1, 1) := by decide +kernel
theorem qd_M_goOn_29 : decode qc_M_goOn 29 = .ok (.iadd, 1) := by decide +kernel
theorem qd_M_goOn_30 : decode qc_M_goOn 30 = .ok (.putfield 108, 3) := by decide +kernel
theorem qd_M_goOn_33 : decode qc_M_goOn 33 = .ok (.goto 33, 3) := by decide +kernel
theorem qd_M_goOn_36 : decode qc_M_goOn 36 = .ok (.aload_n 0, 1) := by decide +kernel
theorem qd_M_goOn_37 : decode qc_M_goOn 37 = .ok (.dup, 1) := by decide +kernel
theorem qd_M_goOn_38 : decode qc_M_goOn 38 = .ok (.getfield 105, 3) := by decide +kernel
theorem qd_M_goOn_41 : decode qc_M_goOn 41 = .ok (.iconst 1, 1) := by decide +kernel
theorem qd_M_goOn_42 : decode qc_M_goOn 42 = .ok (.iadd, 1) := by decide +kernel
theorem qd_M_goOn_43 : decode qc_M_goOn 43 = .ok (.putfield 105, 3) := by decide +kernel
theorem qd_M_goOn_46 : decode qc_M_goOn 46 = .ok (.aload_n 0, 1) := by decide +kernel
theorem qd_M_goOn_47 : decode qc_M_goOn 47 = .ok (.iload 4, 2) := by decide +kernel
theorem qd_M_goOn_49 : decode qc_M_goOn 49 = .ok (.iconst 3, 1) := by decide +kernel
theorem qd_M_goOn_50 : decode qc_M_goOn 50 = .ok (.if_icmp .ge 7, 3) := by decide +kernel
theorem qd_M_goOn_53 : decode qc_M_goOn 53 = .ok (.iload_n 3, 1) := by decide +kernel
theorem qd_M_goOn_54 : decode qc_M_goOn 54 = .ok (.goto 9, 3) := by decide +kernel
theorem qd_M_goOn_57 : decode qc_M_goOn 57 = .ok (.aload_n 0, 1) := by decide +kernel
theorem qd_M_goOn_58 : decode qc_M_goOn 58 = .ok (.getfield 105, 3) := by decide +kernel
theorem qd_M_goOn_61 : decode qc_M_goOn 61 = .ok (.iconst 1, 1) := by decide +kernel
theorem qd_M_goOn_62 : decode qc_M_goOn 62 = .ok (.iadd, 1) := by decide +kernel
theorem qd_M_goOn_63 : decode qc_M_goOn 63 = .ok (.putfield 108, 3) := by decide +kernel
theorem qd_M_goOn_66 : decode qc_M_goOn 66 = .ok (.return_, 1) := by decide +kernel
set_option maxHeartbeats 4000000 in
set_option maxRecDepth 100000 in
theorem c_M_goOn (l : Launch) (dC : Nat → ClassId) (dI : Nat → Nat → Nat) (cA cZ : ClassId) (aM aMh aMi aMc aMt aMn aMl aMs aMd aMe aMo aMw aMu : Nat) (sz : Nat) (vMT : Int32) (vMP : Int32) (vMK : Int32) (vMB : Int32) (vMD : Int32) (vME : Int32) (vMO : Int32) (vMF : Int32) (vMS : Int32) (vMX : Int32) (vMW : Int32) (vMi : (Nat → Int32)) (p0 : Int32) (p1 : Int32) (p2 : Int32) (ho : o_M_goOn vMF vMS vMi p0 p1 p2) : Met l qy_M_goOn qw_M_goOn ({ frames := 1, cells := 0, slots := 0, locals := 21 }) (va_Pc [.ref aM, .int p0, .int p1, .int p2] (fun U => U.heap.size = sz ∧ xP (dC, dI) [(cA, .int), (cZ, .boolean)] [(aM, .inr (7, [.int vMT, .int vMP, .ref aMh, .ref aMi, .ref aMc, .int vMK, .ref aMt, .int vMB, .ref aMn, .ref aMl, .ref aMs, .int vMD, .ref aMd, .int vME, .ref aMe, .int vMO, .ref aMo, .int vMF, .int vMS, .ref aMw, .ref aMu, .int vMX, .int vMW])), (aMi, .inl (cA, 72, .inl (vMi)))] nestN U ∧ va_D (fun _ => True) [(aM, .inr (7, [.int vMT, .int vMP, .ref aMh, .ref aMi, .ref aMc, .int vMK, .ref aMt, .int vMB, .ref aMn, .ref aMl, .ref aMs, .int vMD, .ref aMd, .int vME, .ref aMe, .int vMO, .ref aMo, .int vMF, .int vMS, .ref aMw, .ref aMu, .int vMX, .int vMW])), (aMi, .inl (cA, 72, .inl (vMi)))])) (va_Qv (fun u => u = f_M_goOn vMF vMS vMi p0 p1 p2) (fun (u : Int32 × Int32) t => xP (dC, dI) [(cA, .int), (cZ, .boolean)] [(aM, .inr (7, [.int vMT, .int vMP, .ref aMh, .ref aMi, .ref aMc, .int vMK, .ref aMt, .int vMB, .ref aMn, .ref aMl, .ref aMs, .int vMD, .ref aMd, .int vME, .ref aMe, .int vMO, .ref aMo, .int u.1, .int u.2, .ref aMw, .ref aMu, .int vMX, .int vMW])), (aMi, .inl (cA, 72, .inl (vMi)))] nestN t ∧ va_D (va_A [(aM, .inr (7, [.int vMT, .int vMP, .ref aMh, .ref aMi, .ref aMc, .int vMK, .ref aMt, .int vMB, .ref aMn, .ref aMl, .ref aMs, .int vMD, .ref aMd, .int vME, .ref aMe, .int vMO, .ref aMo, .int vMF, .int vMS, .ref aMw, .ref aMu, .int vMX, .int vMW])), (aMi, .inl (cA, 72, .inl (vMi)))] sz) [(aM, .inr (7, [.int vMT, .int vMP, .ref aMh, .ref aMi, .ref aMc, .int vMK, .ref aMt, .int vMB, .ref aMn, .ref aMl, .ref aMs, .int vMD, .ref aMd, .int vME, .ref aMe, .int vMO, .ref aMo, .int u.1, .int u.2, .ref aMw, .ref aMu, .int vMX, .int vMW])), (aMi, .inl (cA, 72, .inl (vMi)))]) (va_A [(aM, .inr (7, [.int vMT, .int vMP, .ref aMh, .ref aMi, .ref aMc, .int vMK, .ref aMt, .int vMB, .ref aMn, .ref aMl, .ref aMs, .int vMD, .ref aMd, .int vME, .ref aMe, .int vMO, .ref aMo, .int vMF, .int vMS, .ref aMw, .ref aMu, .int vMX, .int vMW])), (aMi, .inl (cA, 72, .inl (vMi)))] sz)) 0 0 (va_A [(aM, .inr (7, [.int vMT, .int vMP, .ref aMh, .ref aMi, .ref aMc, .int vMK, .ref aMt, .int vMB, .ref aMn, .ref aMl, .ref aMs, .int vMD, .ref aMd, .int vME, .ref aMe, .int vMO, .ref aMo, .int vMF, .int vMS, .ref aMw, .ref aMu, .int vMX, .int vMW])), (aMi, .inl (cA, 72, .inl (vMi)))] sz) := by
  refine Met.ofW (cc := qc_M_goOn) (maxL := 5) (ret := (none)) (by decide) rfl ?_
  intro p e s m args below meth c s₁ B hml hv
  obtain ⟨rfl, hsz, ⟨hP, hK, hN⟩, hD0⟩ := hv
  have hx := B.exec
  have hb := B.bytes
  have hr := B.returns
  have hts := atoms_spec (ws := qw_M_goOn) B.pre
  have hg : ∀ w ∈ gG, w.before _ s = true := fun w h => hts w (List.mem_cons_of_mem _ h)
  have hown : s.vm.findClass qR_M = some m.cls := findClass_of_methodNamed B.named
  have hlocks := B.notSynchronized
  subst hsz
  have hD := hD0.self (sz := s.heap.size)
  generalize hAe : va_A [(aM, .inr (7, [.int vMT, .int vMP, .ref aMh, .ref aMi, .ref aMc, .int vMK, .ref aMt, .int vMB, .ref aMn, .ref aMl, .ref aMs, .int vMD, .ref aMd, .int vME, .ref aMe, .int vMO, .ref aMo, .int vMF, .int vMS, .ref aMw, .ref aMu, .int vMX, .int vMW])), (aMi, .inl (cA, 72, .inl (vMi)))] s.heap.size = A at hD ⊢
  have hA : ∀ q : Nat, s.heap.size ≤ q → A q := fun q h => by rw [← hAe]; exact Or.inr h
  have hS : va_S A s.heap s.heap [] := va_S.rf
  have hP : va_P (dC, dI) vwCl [(aM, .inr (7, [.int vMT, .int vMP, .ref aMh, .ref aMi, .ref aMc, .int vMK, .ref aMt, .int vMB, .ref aMn, .ref aMl, .ref aMs, .int vMD, .ref aMd, .int vME, .ref aMe, .int vMO, .ref aMo, .int vMF, .int vMS, .ref aMw, .ref aMu, .int vMX, .int vMW])), (aMi, .inl (cA, 72, .inl (vMi)))] s.heap := hP
  have hl := lv_entry ([.ref aM, .int p0, .int p1, .int p2]) (n := 5) (Nat.le_of_ble_eq_true rfl)
  rw [lg_entry_eq]
  generalize (lg_sl ([.ref aM, .int p0, .int p1, .int p2]) ++ List.replicate (5 - (lg_sl ([.ref aM, .int p0, .int p1, .int p2])).length) Slot.unset).toArray = ls at hl ⊢
  have hl : lv_has ls 5 [(0, .ref aM), (1, .int p0), (2, .int p1), (3, .int p2)] := hl
  generalize hF : f_M_goOn vMF vMS vMi p0 p1 p2 = Fv
  have hres : Fv = f_M_goOn vMF vMS vMi p0 p1 p2 := hF.symm
  unfold f_M_goOn at hres
  unfold o_M_goOn at ho
  refine lv_aload_n hx hb qd_M_goOn_0 rfl (lv_at hl 0 rfl) ?_
  refine lv_iload_n hx hb qd_M_goOn_1 rfl (lv_at hl 1 rfl) ?_
  obtain ⟨g_2, ho⟩ := ho
  refine xc_V (As := [.int p0]) (rest := []) ⟨hx, hb, hml, hown, hg⟩ (c_M_length l dC dI cA cZ aM aMh aMi aMc aMt aMn aMl aMs aMd aMe aMo aMw aMu vMT vMP vMK vMB vMD vME vMO vMF vMS vMX vMW vMi p0 g_2) (cwV 1 hg (q_gV mw_673 mw_674 mw_776 mw_8 mw_675) rfl rfl rfl qh_M_length ⟨Nat.le_of_ble_eq_true rfl, Nat.le_of_ble_eq_true rfl⟩) hN hK hP [0, 1] rfl 0 7 rfl rfl rfl hl.1 rfl (Nat.le_of_ble_eq_true rfl) qd_M_goOn_2 ⟨Nat.zero_le _, Nat.zero_le _⟩ ?_
  refine lv_topi (fun r_2 w_2 => ?_)
  have hres := hres.trans (bd_eq w_2)
  have ho := (bd_eq w_2).mp ho
  refine lv_istore (lv' := [(4, .int r_2), (0, .ref aM), (1, .int p0), (2, .int p1), (3, .int p2)]) hx hb qd_M_goOn_5 hl (by decide) rfl (fun ls hl => ?_)
  refine lv_iload hx hb qd_M_goOn_7 (lv_at hl 0 rfl) ?_
  refine lv_iconst (v := 3) hx hb qd_M_goOn_9 (by decide) ?_
  refine lv_icmp_ne (tgt := 36) hx hb qd_M_goOn_10 (by decide) (fun c_10 => ?_) (fun c_10 => ?_)
  · have hres := hres.trans (if_neg c_10)
    have ho := (if_neg c_10).mp ho
    refine lv_aload_n hx hb qd_M_goOn_36 rfl (lv_at hl 1 rfl) ?_
    refine lv_dup hx hb qd_M_goOn_37 rfl ?_
    refine va_get (D := (dC, dI)) (ci := 7) (v := .int vMF) (C := qR_M) (T := qT_M) (N := 23) hx hb hg qi_M hown hK hP 0 rfl rfl 17 (by decide) (hg _ mw_591) (fun _ h9 => h9) rfl qd_M_goOn_38 ?_
    refine lv_iconst (v := 1) hx hb qd_M_goOn_41 (by decide) ?_
    refine lv_iadd hx hb qd_M_goOn_42 ?_
    refine va_put (D := (dC, dI)) (ci := 7) (v := .int (vMF + 1)) (ty := .int) (C := qR_M) (T := qT_M) (N := 23) hx hb hg qi_M qt_M qk_M qn_M hown hK hP hD hS 0 rfl rfl 17 (by decide) (hg _ mw_591) (fun _ h9 => h9) rfl (by decide +kernel) rfl rfl (Nat.le_of_ble_eq_true rfl) qd_M_goOn_43 (fun H locs hP hD hS => ?_)
    have hP : va_P (dC, dI) vwCl [(aM, .inr (7, [.int vMT, .int vMP, .ref aMh, .ref aMi, .ref aMc, .int vMK, .ref aMt, .int vMB, .ref aMn, .ref aMl, .ref aMs, .int vMD, .ref aMd, .int vME, .ref aMe, .int vMO, .ref aMo, .int (vMF + 1), .int vMS, .ref aMw, .ref aMu, .int vMX, .int vMW])), (aMi, .inl (cA, 72, .inl (vMi)))] H := hP
    have hD : va_D A [(aM, .inr (7, [.int vMT, .int vMP, .ref aMh, .ref aMi, .ref aMc, .int vMK, .ref aMt, .int vMB, .ref aMn, .ref aMl, .ref aMs, .int vMD, .ref aMd, .int vME, .ref aMe, .int vMO, .ref aMo, .int (vMF + 1), .int vMS, .ref aMw, .ref aMu, .int vMX, .int vMW])), (aMi, .inl (cA, 72, .inl (vMi)))] := hD
    refine lv_aload_n hx hb qd_M_goOn_46 rfl (lv_at hl 1 rfl) ?_
    refine lv_iload hx hb qd_M_goOn_47 (lv_at hl 0 rfl) ?_
    refine lv_iconst (v := 3) hx hb qd_M_goOn_49 (by decide) ?_
    refine lv_icmp_ge (tgt := 57) hx hb qd_M_goOn_50 (by decide) (fun c_50 => ?_) (fun c_50 => ?_)
    · have hres := hres.trans (if_pos c_50)
      have ho := (if_pos c_50).mp ho
      refine lv_aload_n hx hb qd_M_goOn_57 rfl (lv_at hl 1 rfl) ?_
      refine va_get (D := (dC, dI)) (ci := 7) (v := .int (vMF + 1)) (C := qR_M) (T := qT_M) (N := 23) hx hb hg qi_M hown hK hP 0 rfl rfl 17 (by decide) (hg _ mw_591) (fun _ h9 => h9) rfl qd_M_goOn_58 ?_
      refine lv_iconst (v := 1) hx hb qd_M_goOn_61 (by decide) ?_
      refine lv_iadd hx hb qd_M_goOn_62 ?_
      refine va_put (D := (dC, dI)) (ci := 7) (v := .int ((vMF + 1) + 1)) (ty := .int) (C := qR_M) (T := qT_M) (N := 23) hx hb hg qi_M qt_M qk_M qn_M hown hK hP hD hS 0 rfl rfl 18 (by decide) (hg _ mw_592) (fun _ h9 => h9) rfl (by decide +kernel) rfl rfl (Nat.le_of_ble_eq_true rfl) qd_M_goOn_63 (fun H locs hP hD hS => ?_)
      have hP : va_P (dC, dI) vwCl [(aM, .inr (7, [.int vMT, .int vMP, .ref aMh, .ref aMi, .ref aMc, .int vMK, .ref aMt, .int vMB, .ref aMn, .ref aMl, .ref aMs, .int vMD, .ref aMd, .int vME, .ref aMe, .int vMO, .ref aMo, .int (vMF + 1), .int ((vMF + 1) + 1), .ref aMw, .ref aMu, .int vMX, .int vMW])), (aMi, .inl (cA, 72, .inl (vMi)))] H := hP
      have hD : va_D A [(aM, .inr (7, [.int vMT, .int vMP, .ref aMh, .ref aMi, .ref aMc, .int vMK, .ref aMt, .int vMB, .ref aMn, .ref aMl, .ref aMs, .int vMD, .ref aMd, .int vME, .ref aMe, .int vMO, .ref aMo, .int (vMF + 1), .int ((vMF + 1) + 1), .ref aMw, .ref aMu, .int vMX, .int vMW])), (aMi, .inl (cA, 72, .inl (vMi)))] := hD
      exact W.vret hx hb hr (fun t ht hW => ⟨⟨(vMF + 1, (vMF + 1) + 1), rfl, hres.symm, ⟨by rw [ht]; exact hP, va_K.moved hW.alike hK, x_N hN hW⟩, hD⟩, hS.F ht⟩) hS.2.2 qd_M_goOn_66
    have hres := hres.trans (if_neg c_50)
    have ho := (if_neg c_50).mp ho
    refine lv_iload_n hx hb qd_M_goOn_53 rfl (lv_at hl 4 rfl) ?_
    refine lv_goto (tgt := 63) hx hb qd_M_goOn_54 (by decide) ?_
    refine va_put (D := (dC, dI)) (ci := 7) (v := .int p2) (ty := .int) (C := qR_M) (T := qT_M) (N := 23) hx hb hg qi_M qt_M qk_M qn_M hown hK hP hD hS 0 rfl rfl 18 (by decide) (hg _ mw_592) (fun _ h9 => h9) rfl (by decide +kernel) rfl rfl (Nat.le_of_ble_eq_true rfl) qd_M_goOn_63 (fun H locs hP hD hS => ?_)
    have hP : va_P (dC, dI) vwCl [(aM, .inr (7, [.int vMT, .int vMP, .ref aMh, .ref aMi, .ref aMc, .int vMK, .ref aMt, .int vMB, .ref aMn, .ref aMl, .ref aMs, .int vMD, .ref aMd, .int vME, .ref aMe, .int vMO, .ref aMo, .int (vMF + 1), .int p2, .ref aMw, .ref aMu, .int vMX, .int vMW])), (aMi, .inl (cA, 72, .inl (vMi)))] H := hP
    have hD : va_D A [(aM, .inr (7, [.int vMT, .int vMP, .ref aMh, .ref aMi, .ref aMc, .int vMK, .ref aMt, .int vMB, .ref aMn, .ref aMl, .ref aMs, .int vMD, .ref aMd, .int vME, .ref aMe, .int vMO, .ref aMo, .int (vMF + 1), .int p2, .ref aMw, .ref aMu, .int vMX, .int vMW])), (aMi, .inl (cA, 72, .inl (vMi)))] := hD
    exact W.vret hx hb hr (fun t ht hW => ⟨⟨(vMF + 1, p2), rfl, hres.symm, ⟨by rw [ht]; exact hP, va_K.moved hW.alike hK, x_N hN hW⟩, hD⟩, hS.F ht⟩) hS.2.2 qd_M_goOn_66
  have hres := hres.trans (if_pos c_10)
  have ho := (if_pos c_10).mp ho
  refine lv_aload_n hx hb qd_M_goOn_13 rfl (lv_at hl 1 rfl) ?_
  refine va_get (D := (dC, dI)) (ci := 7) (v := .int vMS) (C := qR_M) (T := qT_M) (N := 23) hx hb hg qi_M hown hK hP 0 rfl rfl 18 (by decide) (hg _ mw_592) (fun _ h9 => h9) rfl qd_M_goOn_14 ?_
  refine lv_iconst (v := 1) hx hb qd_M_goOn_17 (by decide) ?_
  refine lv_iadd hx hb qd_M_goOn_18 ?_
  refine lv_iload_n hx hb qd_M_goOn_19 rfl (lv_at hl 4 rfl) ?_
  refine lv_icmp_ge (tgt := 36) hx hb qd_M_goOn_20 (by decide) (fun c_20 => ?_) (fun c_20 => ?_)
  · have hres := hres.trans (if_pos c_20)
    have ho := (if_pos c_20).mp ho
    refine lv_aload_n hx hb qd_M_goOn_36 rfl (lv_at hl 1 rfl) ?_
    refine lv_dup hx hb qd_M_goOn_37 rfl ?_
    refine va_get (D := (dC, dI)) (ci := 7) (v := .int vMF) (C := qR_M) (T := qT_M) (N := 23) hx hb hg qi_M hown hK hP 0 rfl rfl 17 (by decide) (hg _ mw_591) (fun _ h9 => h9) rfl qd_M_goOn_38 ?_
    refine lv_iconst (v := 1) hx hb qd_M_goOn_41 (by decide) ?_
    refine lv_iadd hx hb qd_M_goOn_42 ?_
    refine va_put (D := (dC, dI)) (ci := 7) (v := .int (vMF + 1)) (ty := .int) (C := qR_M) (T := qT_M) (N := 23) hx hb hg qi_M qt_M qk_M qn_M hown hK hP hD hS 0 rfl rfl 17 (by decide) (hg _ mw_591) (fun _ h9 => h9) rfl (by decide +kernel) rfl rfl (Nat.le_of_ble_eq_true rfl) qd_M_goOn_43 (fun H locs hP hD hS => ?_)
    have hP : va_P (dC, dI) vwCl [(aM, .inr (7, [.int vMT, .int vMP, .ref aMh, .ref aMi, .ref aMc, .int vMK, .ref aMt, .int vMB, .ref aMn, .ref aMl, .ref aMs, .int vMD, .ref aMd, .int vME, .ref aMe, .int vMO, .ref aMo, .int (vMF + 1), .int vMS, .ref aMw, .ref aMu, .int vMX, .int vMW])), (aMi, .inl (cA, 72, .inl (vMi)))] H := hP
    have hD : va_D A [(aM, .inr (7, [.int vMT, .int vMP, .ref aMh, .ref aMi, .ref aMc, .int vMK, .ref aMt, .int vMB, .ref aMn, .ref aMl, .ref aMs, .int vMD, .ref aMd, .int vME, .ref aMe, .int vMO, .ref aMo, .int (vMF + 1), .int vMS, .ref aMw, .ref aMu, .int vMX, .int vMW])), (aMi, .inl (cA, 72, .inl (vMi)))] := hD
    refine lv_aload_n hx hb qd_M_goOn_46 rfl (lv_at hl 1 rfl) ?_
    refine lv_iload hx hb qd_M_goOn_47 (lv_at hl 0 rfl) ?_
    refine lv_iconst (v := 3) hx hb qd_M_goOn_49 (by decide) ?_
    refine lv_icmp_ge (tgt := 57) hx hb qd_M_goOn_50 (by decide) (fun c_50 => ?_) (fun c_50 => ?_)
    · have hres := hres.trans (if_pos c_50)
      have ho := (if_pos c_50).mp ho
      refine lv_aload_n hx hb qd_M_goOn_57 rfl (lv_at hl 1 rfl) ?_
      refine va_get (D := (dC, dI)) (ci := 7) (v := .int (vMF + 1)) (C := qR_M) (T := qT_M) (N := 23) hx hb hg qi_M hown hK hP 0 rfl rfl 17 (by decide) (hg _ mw_591) (fun _ h9 => h9) rfl qd_M_goOn_58 ?_
      refine lv_iconst (v := 1) hx hb qd_M_goOn_61 (by decide) ?_
      refine lv_iadd hx hb qd_M_goOn_62 ?_
      refine va_put (D := (dC, dI)) (ci := 7) (v := .int ((vMF + 1) + 1)) (ty := .int) (C := qR_M) (T := qT_M) (N := 23) hx hb hg qi_M qt_M qk_M qn_M hown hK hP hD hS 0 rfl rfl 18 (by decide) (hg _ mw_592) (fun _ h9 => h9) rfl (by decide +kernel) rfl rfl (Nat.le_of_ble_eq_true rfl) qd_M_goOn_63 (fun H locs hP hD hS => ?_)
      have hP : va_P (dC, dI) vwCl [(aM, .inr (7, [.int vMT, .int vMP, .ref aMh, .ref aMi, .ref aMc, .int vMK, .ref aMt, .int vMB, .ref aMn, .ref aMl, .ref aMs, .int vMD, .ref aMd, .int vME, .ref aMe, .int vMO, .ref aMo, .int (vMF + 1), .int ((vMF + 1) + 1), .ref aMw, .ref aMu, .int vMX, .int vMW])), (aMi, .inl (cA, 72, .inl (vMi)))] H := hP
      have hD : va_D A [(aM, .inr (7, [.int vMT, .int vMP, .ref aMh, .ref aMi, .ref aMc, .int vMK, .ref aMt, .int vMB, .ref aMn, .ref aMl, .ref aMs, .int vMD, .ref aMd, .int vME, .ref aMe, .int vMO, .ref aMo, .int (vMF + 1), .int ((vMF + 1) + 1), .ref aMw, .ref aMu, .int vMX, .int vMW])), (aMi, .inl (cA, 72, .inl (vMi)))] := hD
      exact W.vret hx hb hr (fun t ht hW => ⟨⟨(vMF + 1, (vMF + 1) + 1), rfl, hres.symm, ⟨by rw [ht]; exact hP, va_K.moved hW.alike hK, x_N hN hW⟩, hD⟩, hS.F ht⟩) hS.2.2 qd_M_goOn_66
    have hres := hres.trans (if_neg c_50)
    have ho := (if_neg c_50).mp ho
    refine lv_iload_n hx hb qd_M_goOn_53 rfl (lv_at hl 4 rfl) ?_
    refine lv_goto (tgt := 63) hx hb qd_M_goOn_54 (by decide) ?_
    refine va_put (D := (dC, dI)) (ci := 7) (v := .int p2) (ty := .int) (C := qR_M) (T := qT_M) (N := 23) hx hb hg qi_M qt_M qk_M qn_M hown hK hP hD hS 0 rfl rfl 18 (by decide) (hg _ mw_592) (fun _ h9 => h9) rfl (by decide +kernel) rfl rfl (Nat.le_of_ble_eq_true rfl) qd_M_goOn_63 (fun H locs hP hD hS => ?_)
    have hP : va_P (dC, dI) vwCl [(aM, .inr (7, [.int vMT, .int vMP, .ref aMh, .ref aMi, .ref aMc, .int vMK, .ref aMt, .int vMB, .ref aMn, .ref aMl, .ref aMs, .int vMD, .ref aMd, .int vME, .ref aMe, .int vMO, .ref aMo, .int (vMF + 1), .int p2, .ref aMw, .ref aMu, .int vMX, .int vMW])), (aMi, .inl (cA, 72, .inl (vMi)))] H := hP
    have hD : va_D A [(aM, .inr (7, [.int vMT, .int vMP, .ref aMh, .ref aMi, .ref aMc, .int vMK, .ref aMt, .int vMB, .ref aMn, .ref aMl, .ref aMs, .int vMD, .ref aMd, .int vME, .ref aMe, .int vMO, .ref aMo, .int (vMF + 1), .int p2, .ref aMw, .ref aMu, .int vMX, .int vMW])), (aMi, .inl (cA, 72, .inl (vMi)))] := hD
    exact W.vret hx hb hr (fun t ht hW => ⟨⟨(vMF + 1, p2), rfl, hres.symm, ⟨by rw [ht]; exact hP, va_K.moved hW.alike hK, x_N hN hW⟩, hD⟩, hS.F ht⟩) hS.2.2 qd_M_goOn_66
  have hres := hres.trans (if_neg c_20)
  have ho := (if_neg c_20).mp ho
  refine lv_aload_n hx hb qd_M_goOn_23 rfl (lv_at hl 1 rfl) ?_
  refine lv_dup hx hb qd_M_goOn_24 rfl ?_
  refine va_get (D := (dC, dI)) (ci := 7) (v := .int vMS) (C := qR_M) (T := qT_M) (N := 23) hx hb hg qi_M hown hK hP 0 rfl rfl 18 (by decide) (hg _ mw_592) (fun _ h9 => h9) rfl qd_M_goOn_25 ?_
  refine lv_iconst (v := 1) hx hb qd_M_goOn_28 (by decide) ?_
  refine lv_iadd hx hb qd_M_goOn_29 ?_
  refine va_put (D := (dC, dI)) (ci := 7) (v := .int (vMS + 1)) (ty := .int) (C := qR_M) (T := qT_M) (N := 23) hx hb hg qi_M qt_M qk_M qn_M hown hK hP hD hS 0 rfl rfl 18 (by decide) (hg _ mw_592) (fun _ h9 => h9) rfl (by decide +kernel) rfl rfl (Nat.le_of_ble_eq_true rfl) qd_M_goOn_30 (fun H locs hP hD hS => ?_)
  have hP : va_P (dC, dI) vwCl [(aM, .inr (7, [.int vMT, .int vMP, .ref aMh, .ref aMi, .ref aMc, .int vMK, .ref aMt, .int vMB, .ref aMn, .ref aMl, .ref aMs, .int vMD, .ref aMd, .int vME, .ref aMe, .int vMO, .ref aMo, .int vMF, .int (vMS + 1), .ref aMw, .ref aMu, .int vMX, .int vMW])), (aMi, .inl (cA, 72, .inl (vMi)))] H := hP
  have hD : va_D A [(aM, .inr (7, [.int vMT, .int vMP, .ref aMh, .ref aMi, .ref aMc, .int vMK, .ref aMt, .int vMB, .ref aMn, .ref aMl, .ref aMs, .int vMD, .ref aMd, .int vME, .ref aMe, .int vMO, .ref aMo, .int vMF, .int (vMS + 1), .ref aMw, .ref aMu, .int vMX, .int vMW])), (aMi, .inl (cA, 72, .inl (vMi)))] := hD
  refine lv_goto (tgt := 66) hx hb qd_M_goOn_33 (by decide) ?_
  exact W.vret hx hb hr (fun t ht hW => ⟨⟨(vMF, vMS + 1), rfl, hres.symm, ⟨by rw [ht]; exact hP, va_K.moved hW.alike hK, x_N hN hW⟩, hD⟩, hS.F ht⟩) hS.2.2 qd_M_goOn_66
theorem qd_M_isPart_0 : decode qc_M_isPart 0 = .ok (.iload_n 1, 1) := by decide +kernel
theorem qd_M_isPart_1 : decode qc_M_isPart 1 = .ok (.iconst 0, 1) := by decide +kernel
theorem qd_M_isPart_2 : decode qc_M_isPart 2 = .ok (.bipush 9, 2) := by decide +kernel
theorem qd_M_isPart_4 : decode qc_M_isPart 4 = .ok (.invokestatic 64, 3) := by decide +kernel
theorem qd_M_isPart_7 : decode qc_M_isPart 7 = .ok (.ifCond .eq 24, 3) := by decide +kernel
theorem qd_M_isPart_10 : decode qc_M_isPart 10 = .ok (.iload_n 2, 1) := by decide +kernel
theorem qd_M_isPart_11 : decode qc_M_isPart 11 = .ok (.ifCond .lt 20, 3) := by decide +kernel
theorem qd_M_isPart_14 : decode qc_M_isPart 14 = .ok (.iload_n 3, 1) := by decide +kernel
theorem qd_M_isPart_15 : decode qc_M_isPart 15 = .ok (.aload_n 0, 1) := by decide +kernel
theorem qd_M_isPart_16 : decode qc_M_isPart 16 = .ok (.getfield 54, 3) := by decide +kernel
theorem qd_M_isPart_19 : decode qc_M_isPart 19 = .ok (.if_icmp .gt 12, 3) := by decide +kernel
theorem qd_M_isPart_22 : decode qc_M_isPart 22 = .ok (.iload_n 2, 1) := by decide +kernel
theorem qd_M_isPart_23 : decode qc_M_isPart 23 = .ok (.iload_n 3, 1) := by decide +kernel
theorem qd_M_isPart_24 : decode qc_M_isPart 24 = .ok (.if_icmp .ge 7, 3) := by decide +kernel
theorem qd_M_isPart_27 : decode qc_M_isPart 27 = .ok (.iconst 1, 1) := by decide +kernel
theorem qd_M_isPart_28 : decode qc_M_isPart 28 = .ok (.goto 4, 3) := by decide +kernel
theorem qd_M_isPart_31 : decode qc_M_isPart 31 = .ok (.iconst 0, 1) := by decide +kernel
theorem qd_M_isPart_32 : decode qc_M_isPart 32 = .ok (.ireturn, 1) := by decide +kernel
set_option maxHeartbeats 4000000 in
set_option maxRecDepth 100000 in
theorem c_M_isPart (l : Launch) (dC : Nat → ClassId) (dI : Nat → Nat → Nat) (cA cZ : ClassId) (aM aMh aMi aMc aMt aMn aMl aMs aMd aMe aMo aMw aMu : Nat) (vMT : Int32) (vMP : Int32) (vMK : Int32) (vMB : Int32) (vMD : Int32) (vME : Int32) (vMO : Int32) (vMF : Int32) (vMS : Int32) (vMX : Int32) (vMW : Int32) (p0 : Int32) (p1 : Int32) (p2 : Int32) : Met l qy_M_isPart qw_M_isPart ({ frames := 1, cells := 0, slots := 0, locals := 22 }) (va_Pc [.ref aM, .int p0, .int p1, .int p2] (xP (dC, dI) [(cA, .int), (cZ, .boolean)] [(aM, .inr (7, [.int vMT, .int vMP, .ref aMh, .ref aMi, .ref aMc, .int vMK, .ref aMt, .int vMB, .ref aMn, .ref aMl, .ref aMs, .int vMD, .ref aMd, .int vME, .ref aMe, .int vMO, .ref aMo, .int vMF, .int vMS, .ref aMw, .ref aMu, .int vMX, .int vMW]))] nestN)) (vp_Si (fun r => r = f_M_isPart vMK p0 p1 p2)) 0 0 (fun _ => False) := by
  refine Met.ofW (cc := qc_M_isPart) (maxL := 4) (ret := (some .boolean)) (by decide) rfl ?_
  intro p e s m args below meth c s₁ B hml hv
  obtain ⟨rfl, hP, hK, hN⟩ := hv
  have hx := B.exec
  have hb := B.bytes
  have hr := B.returns
  have hts := atoms_spec (ws := qw_M_isPart) B.pre
  have hg : ∀ w ∈ gG, w.before _ s = true := fun w h => hts w (List.mem_cons_of_mem _ h)
  have hown : s.vm.findClass qR_M = some m.cls := findClass_of_methodNamed B.named
  have hlocks := B.notSynchronized
  have hP : va_P (dC, dI) vwCl [(aM, .inr (7, [.int vMT, .int vMP, .ref aMh, .ref aMi, .ref aMc, .int vMK, .ref aMt, .int vMB, .ref aMn, .ref aMl, .ref aMs, .int vMD, .ref aMd, .int vME, .ref aMe, .int vMO, .ref aMo, .int vMF, .int vMS, .ref aMw, .ref aMu, .int vMX, .int vMW]))] s.heap := hP
  have hl := lv_entry ([.ref aM, .int p0, .int p1, .int p2]) (n := 4) (Nat.le_of_ble_eq_true rfl)
  rw [lg_entry_eq]
  generalize (lg_sl ([.ref aM, .int p0, .int p1, .int p2]) ++ List.replicate (4 - (lg_sl ([.ref aM, .int p0, .int p1, .int p2])).length) Slot.unset).toArray = ls at hl ⊢
  have hl : lv_has ls 4 [(0, .ref aM), (1, .int p0), (2, .int p1), (3, .int p2)] := hl
  generalize hF : f_M_isPart vMK p0 p1 p2 = Fv
  have hres : Fv = f_M_isPart vMK p0 p1 p2 := hF.symm
  unfold f_M_isPart at hres
  refine lv_iload_n hx hb qd_M_isPart_0 rfl (lv_at hl 1 rfl) ?_
  refine lv_iconst (v := 0) hx hb qd_M_isPart_1 (by decide) ?_
  refine lv_bipush (v := 9) hx hb qd_M_isPart_2 (by decide) ?_
  refine xc_S (As := [.int p0, .int 0, .int 9]) (rest := []) ⟨hx, hb, hml, hown, hg⟩ (c_M_in l dC dI cA cZ p0 0 9) (va_cwS 3 hg (q_gS mw_633 mw_634 mw_8 mw_635) rfl rfl rfl qh_M_in.2 ⟨Nat.le_of_ble_eq_true rfl, Nat.le_of_ble_eq_true rfl⟩) hN hK hP [] rfl rfl hl.1 rfl (Nat.le_of_ble_eq_true rfl) qd_M_isPart_4 ⟨Nat.zero_le _, Nat.zero_le _⟩ ?_
  refine lv_topi (fun r_4 w_4 => ?_)
  have hres := hres.trans (bd_eq w_4)
  refine lv_if_eq (tgt := 31) hx hb qd_M_isPart_7 (by decide) (fun c_7 => ?_) (fun c_7 => ?_)
  · have hres := hres.trans (if_pos c_7)
    refine lv_iconst (v := 0) hx hb qd_M_isPart_31 (by decide) ?_
    exact W.zret (v := 0) (ty := .boolean) hx hb hr (by decide) (fun t ht hW => ⟨_, rfl, hres.symm, ht⟩) (fun _ h => nomatch h) qd_M_isPart_32
  have hres := hres.trans (if_neg c_7)
  refine lv_iload_n hx hb qd_M_isPart_10 rfl (lv_at hl 2 rfl) ?_
  refine lv_if_lt (tgt := 31) hx hb qd_M_isPart_11 (by decide) (fun c_11 => ?_) (fun c_11 => ?_)
  · have hres := hres.trans (if_pos c_11)
    refine lv_iconst (v := 0) hx hb qd_M_isPart_31 (by decide) ?_
    exact W.zret (v := 0) (ty := .boolean) hx hb hr (by decide) (fun t ht hW => ⟨_, rfl, hres.symm, ht⟩) (fun _ h => nomatch h) qd_M_isPart_32
  have hres := hres.trans (if_neg c_11)
  refine lv_iload_n hx hb qd_M_isPart_14 rfl (lv_at hl 3 rfl) ?_
  refine lv_aload_n hx hb qd_M_isPart_15 rfl (lv_at hl 0 rfl) ?_
  refine va_get (D := (dC, dI)) (ci := 7) (v := .int vMK) (C := qR_M) (T := qT_M) (N := 23) hx hb hg qi_M hown hK hP 0 rfl rfl 5 (by decide) (hg _ mw_579) (fun _ h9 => h9) rfl qd_M_isPart_16 ?_
  refine lv_icmp_gt (tgt := 31) hx hb qd_M_isPart_19 (by decide) (fun c_19 => ?_) (fun c_19 => ?_)
  · have hres := hres.trans (if_pos c_19)
    refine lv_iconst (v := 0) hx hb qd_M_isPart_31 (by decide) ?_
    exact W.zret (v := 0) (ty := .boolean) hx hb hr (by decide) (fun t ht hW => ⟨_, rfl, hres.symm, ht⟩) (fun _ h => nomatch h) qd_M_isPart_32
  have hres := hres.trans (if_neg c_19)
  refine lv_iload_n hx hb qd_M_isPart_22 rfl (lv_at hl 2 rfl) ?_
  refine lv_iload_n hx hb qd_M_isPart_23 rfl (lv_at hl 3 rfl) ?_
  refine lv_icmp_ge (tgt := 31) hx hb qd_M_isPart_24 (by decide) (fun c_24 => ?_) (fun c_24 => ?_)
  · have hres := hres.trans (if_pos c_24)
    refine lv_iconst (v := 0) hx hb qd_M_isPart_31 (by decide) ?_
    exact W.zret (v := 0) (ty := .boolean) hx hb hr (by decide) (fun t ht hW => ⟨_, rfl, hres.symm, ht⟩) (fun _ h => nomatch h) qd_M_isPart_32
  have hres := hres.trans (if_neg c_24)
  refine lv_iconst (v := 1) hx hb qd_M_isPart_27 (by decide) ?_
  refine lv_goto (tgt := 32) hx hb qd_M_isPart_28 (by decide) ?_
  exact W.zret (v := 1) (ty := .boolean) hx hb hr (by decide) (fun t ht hW => ⟨_, rfl, hres.symm, ht⟩) (fun _ h => nomatch h) qd_M_isPart_32
theorem qd_M_asks_0 : decode qc_M_asks 0 = .ok (.aload_n 0, 1) := by decide +kernel
theorem qd_M_asks_1 : decode qc_M_asks 1 = .ok (.getfield 38, 3) := by decide +kernel
theorem qd_M_asks_4 : decode qc_M_asks 4 = .ok (.iconst 5, 1) := by decide +kernel
theorem qd_M_asks_5 : decode qc_M_asks 5 = .ok (.aload_n 0, 1) := by decide +kernel
theorem qd_M_asks_6 : decode qc_M_asks 6 = .ok (.getfield 140, 3) := by decide +kernel
theorem qd_M_asks_9 : decode qc_M_asks 9 = .ok (.imul, 1) := by decide +kernel
theorem qd_M_asks_10 : decode qc_M_asks 10 = .ok (.iload_n 1, 1) := by decide +kernel
theorem qd_M_asks_11 : decode qc_M_asks 11 = .ok (.iastore, 1) := by decide +kernel
theorem qd_M_asks_12 : decode qc_M_asks 12 = .ok (.aload_n 0, 1) := by decide +kernel
theorem qd_M_asks_13 : decode qc_M_asks 13 = .ok (.getfield 38, 3) := by decide +kernel
theorem qd_M_asks_16 : decode qc_M_asks 16 = .ok (.iconst 5, 1) := by decide +kernel
theorem qd_M_asks_17 : decode qc_M_asks 17 = .ok (.aload_n 0, 1) := by decide +kernel
theorem qd_M_asks_18 : decode qc_M_asks 18 = .ok (.getfield 140, 3) := by decide +kernel
theorem qd_M_asks_21 : decode qc_M_asks 21 = .ok (.imul, 1) := by decide +kernel
theorem qd_M_asks_22 : decode qc_M_asks 22 = .ok (.iconst 1, 1) := by decide +kernel
theorem qd_M_asks_23 : decode qc_M_asks 23 = .ok (.iadd, 1) := by decide +kernel
theorem qd_M_asks_24 : decode qc_M_asks 24 = .ok (.iload_n 2, 1) := by decide +kernel
theorem qd_M_asks_25 : decode qc_M_asks 25 = .ok (.iastore, 1) := by decide +kernel
theorem qd_M_asks_26 : decode qc_M_asks 26 = .ok (.aload_n 0, 1) := by decide +kernel
theorem qd_M_asks_27 : decode qc_M_asks 27 = .ok (.getfield 38, 3) := by decide +kernel
theorem qd_M_asks_30 : decode qc_M_asks 30 = .ok (.iconst 5, 1) := by decide +kernel
theorem qd_M_asks_31 : decode qc_M_asks 31 = .ok (.aload_n 0, 1) := by decide +kernel
theorem qd_M_asks_32 : decode qc_M_asks 32 = .ok (.getfield 140, 3) := by decide +kernel
theorem qd_M_asks_35 : decode qc_M_asks 35 = .ok (.imul, 1) := by decide +kernel
theorem qd_M_asks_36 : decode qc_M_asks 36 = .ok (.iconst 2, 1) := by decide +kernel
theorem qd_M_asks_37 : decode qc_M_asks 37 = .ok (.iadd, 1) := by decide +kernel
theorem qd_M_asks_38 : decode qc_M_asks 38 = .ok (.iload_n 3, 1) := by decide +kernel
theorem qd_M_asks_39 : decode qc_M_asks 39 = .ok (.iastore, 1) := by decide +kernel
theorem qd_M_asks_40 : decode qc_M_asks 40 = .ok (.aload_n 0, 1) := by decide +kernel
theorem qd_M_asks_41 : decode qc_M_asks 41 = .ok (.getfield 38, 3) := by decide +kernel
theorem qd_M_asks_44 : decode qc_M_asks 44 = .ok (.iconst 5, 1) := by decide +kernel
theorem qd_M_asks_45 : decode qc_M_asks 45 = .ok (.aload_n 0, 1) := by decide +kernel
theorem qd_M_asks_46 : decode qc_M_asks 46 = .ok (.getfield 140, 3) := by decide +kernel
theorem qd_M_asks_49 : decode qc_M_asks 49 = .ok (.imul, 1) := by decide +kernel
theorem qd_M_asks_50 : decode qc_M_asks 50 = .ok (.iconst 3, 1) := by decide +kernel
theorem qd_M_asks_51 : decode qc_M_asks 51 = .ok (.iadd, 1) := by decide +kernel
theorem qd_M_asks_52 : decode qc_M_asks 52 = .ok (.iload 4, 2) := by decide +kernel
theorem qd_M_asks_54 : decode qc_M_asks 54 = .ok (.iastore, 1) := by decide +kernel
theorem qd_M_asks_55 : decode qc_M_asks 55 = .ok (.aload_n 0, 1) := by decide +kernel
theorem qd_M_asks_56 : decode qc_M_asks 56 = .ok (.getfield 38, 3) := by decide +kernel
theorem qd_M_asks_59 : decode qc_M_asks 59 = .ok (.iconst 5, 1) := by decide +kernel
theorem qd_M_asks_60 : decode qc_M_asks 60 = .ok (.aload_n 0, 1) := by decide +kernel
theorem qd_M_asks_61 : decode qc_M_asks 61 = .ok (.getfield 140, 3) := by decide +kernel
theorem qd_M_asks_64 : decode qc_M_asks 64 = .ok (.imul, 1) := by decide +kernel
theorem qd_M_asks_65 : decode qc_M_asks 65 = .ok (.iconst 4, 1) := by decide +kernel
theorem qd_M_asks_66 : decode qc_M_asks 66 = .ok (.iadd, 1) := by decide +kernel
theorem qd_M_asks_67 : decode qc_M_asks 67 = .ok (.iload 5, 2) := by decide +kernel
theorem qd_M_asks_69 : decode qc_M_asks 69 = .ok (.iastore, 1) := by decide +kernel
theorem qd_M_asks_70 : decode qc_M_asks 70 = .ok (.aload_n 0, 1) := by decide +kernel
theorem qd_M_asks_71 : decode qc_M_asks 71 = .ok (.dup, 1) := by decide +kernel
theorem qd_M_asks_72 : decode qc_M_asks 72 = .ok (.getfield 140, 3) := by decide +kernel
theorem qd_M_asks_75 : decode qc_M_asks 75 = .ok (.iconst 1, 1) := by decide +kernel
theorem qd_M_asks_76 : decode qc_M_asks 76 = .ok (.iadd, 1) := by decide +kernel
theorem qd_M_asks_77 : decode qc_M_asks 77 = .ok (.putfield 140, 3) := by decide +kernel
theorem qd_M_asks_80 : decode qc_M_asks 80 = .ok (.return_, 1) := by decide +kernel
set_option maxHeartbeats 4000000 in
set_option maxRecDepth 100000 in
theorem c_M_asks (l : Launch) (dC : Nat → ClassId) (dI : Nat → Nat → Nat) (cA cZ : ClassId) (aM aMh aMi aMc aMt aMn aMl aMs aMd aMe aMo aMw aMu : Nat) (sz : Nat) (vMT : Int32) (vMP : Int32) (vMK : Int32) (vMB : Int32) (vMD : Int32) (vME : Int32) (vMO : Int32) (vMF : Int32) (vMS : Int32) (vMX : Int32) (vMW : Int32) (vMo : (Nat → Int32)) (p0 : Int32) (p1 : Int32) (p2 : Int32) (p3 : Int32) (p4 : Int32) (ho : o_M_asks vMO vMo p0 p1 p2 p3 p4) : Met l qy_M_asks qw_M_asks ({ frames := 0, cells := 0, slots := 0, locals := 0 }) (va_Pc [.ref aM, .int p0, .int p1, .int p2, .int p3, .int p4] (fun U => U.heap.size = sz ∧ xP (dC, dI) [(cA, .int), (cZ, .boolean)] [(aM, .inr (7, [.int vMT, .int vMP, .ref aMh, .ref aMi, .ref aMc, .int vMK, .ref aMt, .int vMB, .ref aMn, .ref aMl, .ref aMs, .int vMD, .ref aMd, .int vME, .ref aMe, .int vMO, .ref aMo, .int vMF, .int vMS, .ref aMw, .ref aMu, .int vMX, .int vMW])), (aMo, .inl (cA, 10000, .inl (vMo)))] nestN U ∧ va_D (fun _ => True) [(aM, .inr (7, [.int vMT, .int vMP, .ref aMh, .ref aMi, .ref aMc, .int vMK, .ref aMt, .int vMB, .ref aMn, .ref aMl, .ref aMs, .int vMD, .ref aMd, .int vME, .ref aMe, .int vMO, .ref aMo, .int vMF, .int vMS, .ref aMw, .ref aMu, .int vMX, .int vMW])), (aMo, .inl (cA, 10000, .inl (vMo)))])) (va_Qv (fun u => u = f_M_asks vMO vMo p0 p1 p2 p3 p4) (fun (u : Int32 × (Nat → Int32)) t => xP (dC, dI) [(cA, .int), (cZ, .boolean)] [(aM, .inr (7, [.int vMT, .int vMP, .ref aMh, .ref aMi, .ref aMc, .int vMK, .ref aMt, .int vMB, .ref aMn, .ref aMl, .ref aMs, .int vMD, .ref aMd, .int vME, .ref aMe, .int u.1, .ref aMo, .int vMF, .int vMS, .ref aMw, .ref aMu, .int vMX, .int vMW])), (aMo, .inl (cA, 10000, .inl (u.2)))] nestN t ∧ va_D (va_A [(aM, .inr (7, [.int vMT, .int vMP, .ref aMh, .ref aMi, .ref aMc, .int vMK, .ref aMt, .int vMB, .ref aMn, .ref aMl, .ref aMs, .int vMD, .ref aMd, .int vME, .ref aMe, .int vMO, .ref aMo, .int vMF, .int vMS, .ref aMw, .ref aMu, .int vMX, .int vMW])), (aMo, .inl (cA, 10000, .inl (vMo)))] sz) [(aM, .inr (7, [.int vMT, .int vMP, .ref aMh, .ref aMi, .ref aMc, .int vMK, .ref aMt, .int vMB, .ref aMn, .ref aMl, .ref aMs, .int vMD, .ref aMd, .int vME, .ref aMe, .int u.1, .ref aMo, .int vMF, .int vMS, .ref aMw, .ref aMu, .int vMX, .int vMW])), (aMo, .inl (cA, 10000, .inl (u.2)))]) (va_A [(aM, .inr (7, [.int vMT, .int vMP, .ref aMh, .ref aMi, .ref aMc, .int vMK, .ref aMt, .int vMB, .ref aMn, .ref aMl, .ref aMs, .int vMD, .ref aMd, .int vME, .ref aMe, .int vMO, .ref aMo, .int vMF, .int vMS, .ref aMw, .ref aMu, .int vMX, .int vMW])), (aMo, .inl (cA, 10000, .inl (vMo)))] sz)) 0 0 (va_A [(aM, .inr (7, [.int vMT, .int vMP, .ref aMh, .ref aMi, .ref aMc, .int vMK, .ref aMt, .int vMB, .ref aMn, .ref aMl, .ref aMs, .int vMD, .ref aMd, .int vME, .ref aMe, .int vMO, .ref aMo, .int vMF, .int vMS, .ref aMw, .ref aMu, .int vMX, .int vMW])), (aMo, .inl (cA, 10000, .inl (vMo)))] sz) := by
  refine Met.ofW (cc := qc_M_asks) (maxL := 6) (ret := (none)) (by decide) rfl ?_
  intro p e s m args below meth c s₁ B hml hv
  obtain ⟨rfl, hsz, ⟨hP, hK, hN⟩, hD0⟩ := hv
  have hx := B.exec
  have hb := B.bytes
  have hr := B.returns
  have hts := atoms_spec (ws := qw_M_asks) B.pre
  have hg : ∀ w ∈ gG, w.before _ s = true := fun w h => hts w (List.mem_cons_of_mem _ h)
  have hown : s.vm.findClass qR_M = some m.cls := findClass_of_methodNamed B.named
  have hlocks := B.notSynchronized
  subst hsz
  have hD := hD0.self (sz := s.heap.size)
  generalize hAe : va_A [(aM, .inr (7, [.int vMT, .int vMP, .ref aMh, .ref aMi, .ref aMc, .int vMK, .ref aMt, .int vMB, .ref aMn, .ref aMl, .ref aMs, .int vMD, .ref aMd, .int vME, .ref aMe, .int vMO, .ref aMo, .int vMF, .int vMS, .ref aMw, .ref aMu, .int vMX, .int vMW])), (aMo, .inl (cA, 10000, .inl (vMo)))] s.heap.size = A at hD ⊢
  have hA : ∀ q : Nat, s.heap.size ≤ q → A q := fun q h => by rw [← hAe]; exact Or.inr h
  have hS : va_S A s.heap s.heap [] := va_S.rf
  have hP : va_P (dC, dI) vwCl [(aM, .inr (7, [.int vMT, .int vMP, .ref aMh, .ref aMi, .ref aMc, .int vMK, .ref aMt, .int vMB, .ref aMn, .ref aMl, .ref aMs, .int vMD, .ref aMd, .int vME, .ref aMe, .int vMO, .ref aMo, .int vMF, .int vMS, .ref aMw, .ref aMu, .int vMX, .int vMW])), (aMo, .inl (cA, 10000, .inl (vMo)))] s.heap := hP
  have hl := lv_entry ([.ref aM, .int p0, .int p1, .int p2, .int p3, .int p4]) (n := 6) (Nat.le_of_ble_eq_true rfl)
  rw [lg_entry_eq]
  generalize (lg_sl ([.ref aM, .int p0, .int p1, .int p2, .int p3, .int p4]) ++ List.replicate (6 - (lg_sl ([.ref aM, .int p0, .int p1, .int p2, .int p3, .int p4])).length) Slot.unset).toArray = ls at hl ⊢
  have hl : lv_has ls 6 [(0, .ref aM), (1, .int p0), (2, .int p1), (3, .int p2), (4, .int p3), (5, .int p4)] := hl
  generalize hF : f_M_asks vMO vMo p0 p1 p2 p3 p4 = Fv
  have hres : Fv = f_M_asks vMO vMo p0 p1 p2 p3 p4 := hF.symm
  unfold f_M_asks at hres
  unfold o_M_asks at ho
  refine lv_aload_n hx hb qd_M_asks_0 rfl (lv_at hl 0 rfl) ?_
  refine va_get (D := (dC, dI)) (ci := 7) (v := .ref aMo) (C := qR_M) (T := qT_M) (N := 23) hx hb hg qi_M hown hK hP 0 rfl rfl 16 (by decide) (hg _ mw_590) (fun _ h9 => h9) rfl qd_M_asks_1 ?_
  refine lv_iconst (v := 5) hx hb qd_M_asks_4 (by decide) ?_
  refine lv_aload_n hx hb qd_M_asks_5 rfl (lv_at hl 0 rfl) ?_
  refine va_get (D := (dC, dI)) (ci := 7) (v := .int vMO) (C := qR_M) (T := qT_M) (N := 23) hx hb hg qi_M hown hK hP 0 rfl rfl 15 (by decide) (hg _ mw_589) (fun _ h9 => h9) rfl qd_M_asks_6 ?_
  refine lv_imul hx hb qd_M_asks_9 ?_
  refine lv_iload_n hx hb qd_M_asks_10 rfl (lv_at hl 1 rfl) ?_
  obtain ⟨g_11, ho⟩ := ho
  refine va_iast hx hb hK hP hD hS 1 0 rfl rfl g_11 qd_M_asks_11 (fun H locs hP hD hS => ?_)
  have hP : va_P (dC, dI) vwCl [(aM, .inr (7, [.int vMT, .int vMP, .ref aMh, .ref aMi, .ref aMc, .int vMK, .ref aMt, .int vMB, .ref aMn, .ref aMl, .ref aMs, .int vMD, .ref aMd, .int vME, .ref aMe, .int vMO, .ref aMo, .int vMF, .int vMS, .ref aMw, .ref aMu, .int vMX, .int vMW])), (aMo, .inl (cA, 10000, .inl (upd vMo (5 * vMO).toNatClampNeg p0)))] H := hP
  have hD : va_D A [(aM, .inr (7, [.int vMT, .int vMP, .ref aMh, .ref aMi, .ref aMc, .int vMK, .ref aMt, .int vMB, .ref aMn, .ref aMl, .ref aMs, .int vMD, .ref aMd, .int vME, .ref aMe, .int vMO, .ref aMo, .int vMF, .int vMS, .ref aMw, .ref aMu, .int vMX, .int vMW])), (aMo, .inl (cA, 10000, .inl (upd vMo (5 * vMO).toNatClampNeg p0)))] := hD
  refine lv_aload_n hx hb qd_M_asks_12 rfl (lv_at hl 0 rfl) ?_
  refine va_get (D := (dC, dI)) (ci := 7) (v := .ref aMo) (C := qR_M) (T := qT_M) (N := 23) hx hb hg qi_M hown hK hP 0 rfl rfl 16 (by decide) (hg _ mw_590) (fun _ h9 => h9) rfl qd_M_asks_13 ?_
  refine lv_iconst (v := 5) hx hb qd_M_asks_16 (by decide) ?_
  refine lv_aload_n hx hb qd_M_asks_17 rfl (lv_at hl 0 rfl) ?_
  refine va_get (D := (dC, dI)) (ci := 7) (v := .int vMO) (C := qR_M) (T := qT_M) (N := 23) hx hb hg qi_M hown hK hP 0 rfl rfl 15 (by decide) (hg _ mw_589) (fun _ h9 => h9) rfl qd_M_asks_18 ?_
  refine lv_imul hx hb qd_M_asks_21 ?_
  refine lv_iconst (v := 1) hx hb qd_M_asks_22 (by decide) ?_
  refine lv_iadd hx hb qd_M_asks_23 ?_
  refine lv_iload_n hx hb qd_M_asks_24 rfl (lv_at hl 2 rfl) ?_
  obtain ⟨g_25, ho⟩ := ho
  refine va_iast hx hb hK hP hD hS 1 0 rfl rfl g_25 qd_M_asks_25 (fun H locs hP hD hS => ?_)
  have hP : va_P (dC, dI) vwCl [(aM, .inr (7, [.int vMT, .int vMP, .ref aMh, .ref aMi, .ref aMc, .int vMK, .ref aMt, .int vMB, .ref aMn, .ref aMl, .ref aMs, .int vMD, .ref aMd, .int vME, .ref aMe, .int vMO, .ref aMo, .int vMF, .int vMS, .ref aMw, .ref aMu, .int vMX, .int vMW])), (aMo, .inl (cA, 10000, .inl (upd (upd vMo (5 * vMO).toNatClampNeg p0) ((5 * vMO) + 1).toNatClampNeg p1)))] H := hP
  have hD : va_D A [(aM, .inr (7, [.int vMT, .int vMP, .ref aMh, .ref aMi, .ref aMc, .int vMK, .ref aMt, .int vMB, .ref aMn, .ref aMl, .ref aMs, .int vMD, .ref aMd, .int vME, .ref aMe, .int vMO, .ref aMo, .int vMF, .int vMS, .ref aMw, .ref aMu, .int vMX, .int vMW])), (aMo, .inl (cA, 10000, .inl (upd (upd vMo (5 * vMO).toNatClampNeg p0) ((5 * vMO) + 1).toNatClampNeg p1)))] := hD
  refine lv_aload_n hx hb qd_M_asks_26 rfl (lv_at hl 0 rfl) ?_
  refine va_get (D := (dC, dI)) (ci := 7) (v := .ref aMo) (C := qR_M) (T := qT_M) (N := 23) hx hb hg qi_M hown hK hP 0 rfl rfl 16 (by decide) (hg _ mw_590) (fun _ h9 => h9) rfl qd_M_asks_27 ?_
  refine lv_iconst (v := 5) hx hb qd_M_asks_30 (by decide) ?_
  refine lv_aload_n hx hb qd_M_asks_31 rfl (lv_at hl 0 rfl) ?_
  refine va_get (D := (dC, dI)) (ci := 7) (v := .int vMO) (C := qR_M) (T := qT_M) (N := 23) hx hb hg qi_M hown hK hP 0 rfl rfl 15 (by decide) (hg _ mw_589) (fun _ h9 => h9) rfl qd_M_asks_32 ?_
  refine lv_imul hx hb qd_M_asks_35 ?_
  refine lv_iconst (v := 2) hx hb qd_M_asks_36 (by decide) ?_
  refine lv_iadd hx hb qd_M_asks_37 ?_
  refine lv_iload_n hx hb qd_M_asks_38 rfl (lv_at hl 3 rfl) ?_
  obtain ⟨g_39, ho⟩ := ho
  refine va_iast hx hb hK hP hD hS 1 0 rfl rfl g_39 qd_M_asks_39 (fun H locs hP hD hS => ?_)
  have hP : va_P (dC, dI) vwCl [(aM, .inr (7, [.int vMT, .int vMP, .ref aMh, .ref aMi, .ref aMc, .int vMK, .ref aMt, .int vMB, .ref aMn, .ref aMl, .ref aMs, .int vMD, .ref aMd, .int vME, .ref aMe, .int vMO, .ref aMo, .int vMF, .int vMS, .ref aMw, .ref aMu, .int vMX, .int vMW])), (aMo, .inl (cA, 10000, .inl (upd (upd (upd vMo (5 * vMO).toNatClampNeg p0) ((5 * vMO) + 1).toNatClampNeg p1) ((5 * vMO) + 2).toNatClampNeg p2)))] H := hP
  have hD : va_D A [(aM, .inr (7, [.int vMT, .int vMP, .ref aMh, .ref aMi, .ref aMc, .int vMK, .ref aMt, .int vMB, .ref aMn, .ref aMl, .ref aMs, .int vMD, .ref aMd, .int vME, .ref aMe, .int vMO, .ref aMo, .int vMF, .int vMS, .ref aMw, .ref aMu, .int vMX, .int vMW])), (aMo, .inl (cA, 10000, .inl (upd (upd (upd vMo (5 * vMO).toNatClampNeg p0) ((5 * vMO) + 1).toNatClampNeg p1) ((5 * vMO) + 2).toNatClampNeg p2)))] := hD
  refine lv_aload_n hx hb qd_M_asks_40 rfl (lv_at hl 0 rfl) ?_
  refine va_get (D := (dC, dI)) (ci := 7) (v := .ref aMo) (C := qR_M) (T := qT_M) (N := 23) hx hb hg qi_M hown hK hP 0 rfl rfl 16 (by decide) (hg _ mw_590) (fun _ h9 => h9) rfl qd_M_asks_41 ?_
  refine lv_iconst (v := 5) hx hb qd_M_asks_44 (by decide) ?_
  refine lv_aload_n hx hb qd_M_asks_45 rfl (lv_at hl 0 rfl) ?_
  refine va_get (D := (dC, dI)) (ci := 7) (v := .int vMO) (C := qR_M) (T := qT_M) (N := 23) hx hb hg qi_M hown hK hP 0 rfl rfl 15 (by decide) (hg _ mw_589) (fun _ h9 => h9) rfl qd_M_asks_46 ?_
  refine lv_imul hx hb qd_M_asks_49 ?_
  refine lv_iconst (v := 3) hx hb qd_M_asks_50 (by decide) ?_
  refine lv_iadd hx hb qd_M_asks_51 ?_
  refine lv_iload hx hb qd_M_asks_52 (lv_at hl 4 rfl) ?_
  obtain ⟨g_54, ho⟩ := ho
  refine va_iast hx hb hK hP hD hS 1 0 rfl rfl g_54 qd_M_asks_54 (fun H locs hP hD hS => ?_)
  have hP : va_P (dC, dI) vwCl [(aM, .inr (7, [.int vMT, .int vMP, .ref aMh, .ref aMi, .ref aMc, .int vMK, .ref aMt, .int vMB, .ref aMn, .ref aMl, .ref aMs, .int vMD, .ref aMd, .int vME, .ref aMe, .int vMO, .ref aMo, .int vMF, .int vMS, .ref aMw, .ref aMu, .int vMX, .int vMW])), (aMo, .inl (cA, 10000, .inl (upd (upd (upd (upd vMo (5 * vMO).toNatClampNeg p0) ((5 * vMO) + 1).toNatClampNeg p1) ((5 * vMO) + 2).toNatClampNeg p2) ((5 * vMO) + 3).toNatClampNeg p3)))] H := hP
  have hD : va_D A [(aM, .inr (7, [.int vMT, .int vMP, .ref aMh, .ref aMi, .ref aMc, .int vMK, .ref aMt, .int vMB, .ref aMn, .ref aMl, .ref aMs, .int vMD, .ref aMd, .int vME, .ref aMe, .int vMO, .ref aMo, .int vMF, .int vMS, .ref aMw, .ref aMu, .int vMX, .int vMW])), (aMo, .inl (cA, 10000, .inl (upd (upd (upd (upd vMo (5 * vMO).toNatClampNeg p0) ((5 * vMO) + 1).toNatClampNeg p1) ((5 * vMO) + 2).toNatClampNeg p2) ((5 * vMO) + 3).toNatClampNeg p3)))] := hD
  refine lv_aload_n hx hb qd_M_asks_55 rfl (lv_at hl 0 rfl) ?_
  refine va_get (D := (dC, dI)) (ci := 7) (v := .ref aMo) (C := qR_M) (T := qT_M) (N := 23) hx hb hg qi_M hown hK hP 0 rfl rfl 16 (by decide) (hg _ mw_590) (fun _ h9 => h9) rfl qd_M_asks_56 ?_
  refine lv_iconst (v := 5) hx hb qd_M_asks_59 (by decide) ?_
  refine lv_aload_n hx hb qd_M_asks_60 rfl (lv_at hl 0 rfl) ?_
  refine va_get (D := (dC, dI)) (ci := 7) (v := .int vMO) (C := qR_M) (T := qT_M) (N := 23) hx hb hg qi_M hown hK hP 0 rfl rfl 15 (by decide) (hg _ mw_589) (fun _ h9 => h9) rfl qd_M_asks_61 ?_
  refine lv_imul hx hb qd_M_asks_64 ?_
  refine lv_iconst (v := 4) hx hb qd_M_asks_65 (by decide) ?_
  refine lv_iadd hx hb qd_M_asks_66 ?_
  refine lv_iload hx hb qd_M_asks_67 (lv_at hl 5 rfl) ?_
  obtain ⟨g_69, ho⟩ := ho
  refine va_iast hx hb hK hP hD hS 1 0 rfl rfl g_69 qd_M_asks_69 (fun H locs hP hD hS => ?_)
  have hP : va_P (dC, dI) vwCl [(aM, .inr (7, [.int vMT, .int vMP, .ref aMh, .ref aMi, .ref aMc, .int vMK, .ref aMt, .int vMB, .ref aMn, .ref aMl, .ref aMs, .int vMD, .ref aMd, .int vME, .ref aMe, .int vMO, .ref aMo, .int vMF, .int vMS, .ref aMw, .ref aMu, .int vMX, .int vMW])), (aMo, .inl (cA, 10000, .inl (upd (upd (upd (upd (upd vMo (5 * vMO).toNatClampNeg p0) ((5 * vMO) + 1).toNatClampNeg p1) ((5 * vMO) + 2).toNatClampNeg p2) ((5 * vMO) + 3).toNatClampNeg p3) ((5 * vMO) + 4).toNatClampNeg p4)))] H := hP
  have hD : va_D A [(aM, .inr (7, [.int vMT, .int vMP, .ref aMh, .ref aMi, .ref aMc, .int vMK, .ref aMt, .int vMB, .ref aMn, .ref aMl, .ref aMs, .int vMD, .ref aMd, .int vME, .ref aMe, .int vMO, .ref aMo, .int vMF, .int vMS, .ref aMw, .ref aMu, .int vMX, .int vMW])), (aMo, .inl (cA, 10000, .inl (upd (upd (upd (upd (upd vMo (5 * vMO).toNatClampNeg p0) ((5 * vMO) + 1).toNatClampNeg p1) ((5 * vMO) + 2).toNatClampNeg p2) ((5 * vMO) + 3).toNatClampNeg p3) ((5 * vMO) + 4).toNatClampNeg p4)))] := hD
  refine lv_aload_n hx hb qd_M_asks_70 rfl (lv_at hl 0 rfl) ?_
  refine lv_dup hx hb qd_M_asks_71 rfl ?_
  refine va_get (D := (dC, dI)) (ci := 7) (v := .int vMO) (C := qR_M) (T := qT_M) (N := 23) hx hb hg qi_M hown hK hP 0 rfl rfl 15 (by decide) (hg _ mw_589) (fun _ h9 => h9) rfl qd_M_asks_72 ?_
  refine lv_iconst (v := 1) hx hb qd_M_asks_75 (by decide) ?_
  refine lv_iadd hx hb qd_M_asks_76 ?_
  refine va_put (D := (dC, dI)) (ci := 7) (v := .int (vMO + 1)) (ty := .int) (C := qR_M) (T := qT_M) (N := 23) hx hb hg qi_M qt_M qk_M qn_M hown hK hP hD hS 0 rfl rfl 15 (by decide) (hg _ mw_589) (fun _ h9 => h9) rfl (by decide +kernel) rfl rfl (Nat.le_of_ble_eq_true rfl) qd_M_asks_77 (fun H locs hP hD hS => ?_)
  have hP : va_P (dC, dI) vwCl [(aM, .inr (7, [.int vMT, .int vMP, .ref aMh, .ref aMi, .ref aMc, .int vMK, .ref aMt, .int vMB, .ref aMn, .ref aMl, .ref aMs, .int vMD, .ref aMd, .int vME, .ref aMe, .int (vMO + 1), .ref aMo, .int vMF, .int vMS, .ref aMw, .ref aMu, .int vMX, .int vMW])), (aMo, .inl (cA, 10000, .inl (upd (upd (upd (upd (upd vMo (5 * vMO).toNatClampNeg p0) ((5 * vMO) + 1).toNatClampNeg p1) ((5 * vMO) + 2).toNatClampNeg p2) ((5 * vMO) + 3).toNatClampNeg p3) ((5 * vMO) + 4).toNatClampNeg p4)))] H := hP
  have hD : va_D A [(aM, .inr (7, [.int vMT, .int vMP, .ref aMh, .ref aMi, .ref aMc, .int vMK, .ref aMt, .int vMB, .ref aMn, .ref aMl, .ref aMs, .int vMD, .ref aMd, .int vME, .ref aMe, .int (vMO + 1), .ref aMo, .int vMF, .int vMS, .ref aMw, .ref aMu, .int vMX, .int vMW])), (aMo, .inl (cA, 10000, .inl (upd (upd (upd (upd (upd vMo (5 * vMO).toNatClampNeg p0) ((5 * vMO) + 1).toNatClampNeg p1) ((5 * vMO) + 2).toNatClampNeg p2) ((5 * vMO) + 3).toNatClampNeg p3) ((5 * vMO) + 4).toNatClampNeg p4)))] := hD
  exact W.vret hx hb hr (fun t ht hW => ⟨⟨(vMO + 1, upd (upd (upd (upd (upd vMo (5 * vMO).toNatClampNeg p0) ((5 * vMO) + 1).toNatClampNeg p1) ((5 * vMO) + 2).toNatClampNeg p2) ((5 * vMO) + 3).toNatClampNeg p3) ((5 * vMO) + 4).toNatClampNeg p4), rfl, hres.symm, ⟨by rw [ht]; exact hP, va_K.moved hW.alike hK, x_N hN hW⟩, hD⟩, hS.F ht⟩) hS.2.2 qd_M_asks_80
theorem qd_M_asksItem_0 : decode qc_M_asksItem 0 = .ok (.iload_n 1, 1) := by decide +kernel
theorem qd_M_asksItem_1 : decode qc_M_asksItem 1 = .ok (.bipush 10, 2) := by decide +kernel
theorem qd_M_asksItem_3 : decode qc_M_asksItem 3 = .ok (.if_icmp .ge 14, 3) := by decide +kernel
theorem qd_M_asksItem_6 : decode qc_M_asksItem 6 = .ok (.aload_n 0, 1) := by decide +kernel
theorem qd_M_asksItem_7 : decode qc_M_asksItem 7 = .ok (.iload_n 1, 1) := by decide +kernel
theorem qd_M_asksItem_8 : decode qc_M_asksItem 8 = .ok (.iload_n 2, 1) := by decide +kernel
theorem qd_M_asksItem_9 : decode qc_M_asksItem 9 = .ok (.iload_n 3, 1) := by decide +kernel
theorem qd_M_asksItem_10 : decode qc_M_asksItem 10 = .ok (.iload 4, 2) := by decide +kernel
theorem qd_M_asksItem_12 : decode qc_M_asksItem 12 = .ok (.iload 5, 2) := by decide +kernel
theorem qd_M_asksItem_14 : decode qc_M_asksItem 14 = .ok (.invokevirtual 143, 3) := by decide +kernel
theorem qd_M_asksItem_17 : decode qc_M_asksItem 17 = .ok (.return_, 1) := by decide +kernel
set_option maxHeartbeats 4000000 in
set_option maxRecDepth 100000 in
theorem c_M_asksItem (l : Launch) (dC : Nat → ClassId) (dI : Nat → Nat → Nat) (cA cZ : ClassId) (aM aMh aMi aMc aMt aMn aMl aMs aMd aMe aMo aMw aMu : Nat) (sz : Nat) (vMT : Int32) (vMP : Int32) (vMK : Int32) (vMB : Int32) (vMD : Int32) (vME : Int32) (vMO : Int32) (vMF : Int32) (vMS : Int32) (vMX : Int32) (vMW : Int32) (vMo : (Nat → Int32)) (p0 : Int32) (p1 : Int32) (p2 : Int32) (p3 : Int32) (p4 : Int32) (ho : o_M_asksItem vMO vMo p0 p1 p2 p3 p4) : Met l qy_M_asksItem qw_M_asksItem ({ frames := 1, cells := 0, slots := 0, locals := 25 }) (va_Pc [.ref aM, .int p0, .int p1, .int p2, .int p3, .int p4] (fun U => U.heap.size = sz ∧ xP (dC, dI) [(cA, .int), (cZ, .boolean)] [(aM, .inr (7, [.int vMT, .int vMP, .ref aMh, .ref aMi, .ref aMc, .int vMK, .ref aMt, .int vMB, .ref aMn, .ref aMl, .ref aMs, .int vMD, .ref aMd, .int vME, .ref aMe, .int vMO, .ref aMo, .int vMF, .int vMS, .ref aMw, .ref aMu, .int vMX, .int vMW])), (aMo, .inl (cA, 10000, .inl (vMo)))] nestN U ∧ va_D (fun _ => True) [(aM, .inr (7, [.int vMT, .int vMP, .ref aMh, .ref aMi, .ref aMc, .int vMK, .ref aMt, .int vMB, .ref aMn, .ref aMl, .ref aMs, .int vMD, .ref aMd, .int vME, .ref aMe, .int vMO, .ref aMo, .int vMF, .int vMS, .ref aMw, .ref aMu, .int vMX, .int vMW])), (aMo, .inl (cA, 10000, .inl (vMo)))])) (va_Qv (fun u => u = f_M_asksItem vMO vMo p0 p1 p2 p3 p4) (fun (u : Int32 × (Nat → Int32)) t => xP (dC, dI) [(cA, .int), (cZ, .boolean)] [(aM, .inr (7, [.int vMT, .int vMP, .ref aMh, .ref aMi, .ref aMc, .int vMK, .ref aMt, .int vMB, .ref aMn, .ref aMl, .ref aMs, .int vMD, .ref aMd, .int vME, .ref aMe, .int u.1, .ref aMo, .int vMF, .int vMS, .ref aMw, .ref aMu, .int vMX, .int vMW])), (aMo, .inl (cA, 10000, .inl (u.2)))] nestN t ∧ va_D (va_A [(aM, .inr (7, [.int vMT, .int vMP, .ref aMh, .ref aMi, .ref aMc, .int vMK, .ref aMt, .int vMB, .ref aMn, .ref aMl, .ref aMs, .int vMD, .ref aMd, .int vME, .ref aMe, .int vMO, .ref aMo, .int vMF, .int vMS, .ref aMw, .ref aMu, .int vMX, .int vMW])), (aMo, .inl (cA, 10000, .inl (vMo)))] sz) [(aM, .inr (7, [.int vMT, .int vMP, .ref aMh, .ref aMi, .ref aMc, .int vMK, .ref aMt, .int vMB, .ref aMn, .ref aMl, .ref aMs, .int vMD, .ref aMd, .int vME, .ref aMe, .int u.1, .ref aMo, .int vMF, .int vMS, .ref aMw, .ref aMu, .int vMX, .int vMW])), (aMo, .inl (cA, 10000, .inl (u.2)))]) (va_A [(aM, .inr (7, [.int vMT, .int vMP, .ref aMh, .ref aMi, .ref aMc, .int vMK, .ref aMt, .int vMB, .ref aMn, .ref aMl, .ref aMs, .int vMD, .ref aMd, .int vME, .ref aMe, .int vMO, .ref aMo, .int vMF, .int vMS, .ref aMw, .ref aMu, .int vMX, .int vMW])), (aMo, .inl (cA, 10000, .inl (vMo)))] sz)) 0 0 (va_A [(aM, .inr (7, [.int vMT, .int vMP, .ref aMh, .ref aMi, .ref aMc, .int vMK, .ref aMt, .int vMB, .ref aMn, .ref aMl, .ref aMs, .int vMD, .ref aMd, .int vME, .ref aMe, .int vMO, .ref aMo, .int vMF, .int vMS, .ref aMw, .ref aMu, .int vMX, .int vMW])), (aMo, .inl (cA, 10000, .inl (vMo)))] sz) := by
  refine Met.ofW (cc := qc_M_asksItem) (maxL := 6) (ret := (none)) (by decide) rfl ?_
  intro p e s m args below meth c s₁ B hml hv
  obtain ⟨rfl, hsz, ⟨hP, hK, hN⟩, hD0⟩ := hv
  have hx := B.exec
  have hb := B.bytes
  have hr := B.returns
  have hts := atoms_spec (ws := qw_M_asksItem) B.pre
  have hg : ∀ w ∈ gG, w.before _ s = true := fun w h => hts w (List.mem_cons_of_mem _ h)
  have hown : s.vm.findClass qR_M = some m.cls := findClass_of_methodNamed B.named
  have hlocks := B.notSynchronized
  subst hsz
  have hD := hD0.self (sz := s.heap.size)
  generalize hAe : va_A [(aM, .inr (7, [.int vMT, .int vMP, .ref aMh, .ref aMi, .ref aMc, .int vMK, .ref aMt, .int vMB, .ref aMn, .ref aMl, .ref aMs, .int vMD, .ref aMd, .int vME, .ref aMe, .int vMO, .ref aMo, .int vMF, .int vMS, .ref aMw, .ref aMu, .int vMX, .int vMW])), (aMo, .inl (cA, 10000, .inl (vMo)))] s.heap.size = A at hD ⊢
  have hA : ∀ q : Nat, s.heap.size ≤ q → A q := fun q h => by rw [← hAe]; exact Or.inr h
  have hS : va_S A s.heap s.heap [] := va_S.rf
  have hP : va_P (dC, dI) vwCl [(aM, .inr (7, [.int vMT, .int vMP, .ref aMh, .ref aMi, .ref aMc, .int vMK, .ref aMt, .int vMB, .ref aMn, .ref aMl, .ref aMs, .int vMD, .ref aMd, .int vME, .ref aMe, .int vMO, .ref aMo, .int vMF, .int vMS, .ref aMw, .ref aMu, .int vMX, .int vMW])), (aMo, .inl (cA, 10000, .inl (vMo)))] s.heap := hP
  have hl := lv_entry ([.ref aM, .int p0, .int p1, .int p2, .int p3, .int p4]) (n := 6) (Nat.le_of_ble_eq_true rfl)
  rw [lg_entry_eq]
  generalize (lg_sl ([.ref aM, .int p0, .int p1, .int p2, .int p3, .int p4]) ++ List.replicate (6 - (lg_sl ([.ref aM, .int p0, .int p1, .int p2, .int p3, .int p4])).length) Slot.unset).toArray = ls at hl ⊢
  have hl : lv_has ls 6 [(0, .ref aM), (1, .int p0), (2, .int p1), (3, .int p2), (4, .int p3), (5, .int p4)] := hl
  generalize hF : f_M_asksItem vMO vMo p0 p1 p2 p3 p4 = Fv
  have hres : Fv = f_M_asksItem vMO vMo p0 p1 p2 p3 p4 := hF.symm
  unfold f_M_asksItem at hres
  unfold o_M_asksItem at ho
  refine lv_iload_n hx hb qd_M_asksItem_0 rfl (lv_at hl 1 rfl) ?_
  refine lv_bipush (v := 10) hx hb qd_M_asksItem_1 (by decide) ?_
  refine lv_icmp_ge (tgt := 17) hx hb qd_M_asksItem_3 (by decide) (fun c_3 => ?_) (fun c_3 => ?_)
  · have hres := hres.trans (if_pos c_3)
    have ho := (if_pos c_3).mp ho
    exact W.vret hx hb hr (fun t ht hW => ⟨⟨(vMO, vMo), rfl, hres.symm, ⟨by rw [ht]; exact hP, va_K.moved hW.alike hK, x_N hN hW⟩, hD⟩, hS.F ht⟩) hS.2.2 qd_M_asksItem_17
  have hres := hres.trans (if_neg c_3)
  have ho := (if_neg c_3).mp ho
  refine lv_aload_n hx hb qd_M_asksItem_6 rfl (lv_at hl 0 rfl) ?_
  refine lv_iload_n hx hb qd_M_asksItem_7 rfl (lv_at hl 1 rfl) ?_
  refine lv_iload_n hx hb qd_M_asksItem_8 rfl (lv_at hl 2 rfl) ?_
  refine lv_iload_n hx hb qd_M_asksItem_9 rfl (lv_at hl 3 rfl) ?_
  refine lv_iload hx hb qd_M_asksItem_10 (lv_at hl 4 rfl) ?_
  refine lv_iload hx hb qd_M_asksItem_12 (lv_at hl 5 rfl) ?_
  obtain ⟨g_14, ho⟩ := ho
  refine xm_Vv (As := [.int p0, .int p1, .int p2, .int p3, .int p4]) (rest := []) (w1 := fun (u_14 : Int32 × (Nat → Int32)) => [(aM, .inr (7, [.int vMT, .int vMP, .ref aMh, .ref aMi, .ref aMc, .int vMK, .ref aMt, .int vMB, .ref aMn, .ref aMl, .ref aMs, .int vMD, .ref aMd, .int vME, .ref aMe, .int u_14.1, .ref aMo, .int vMF, .int vMS, .ref aMw, .ref aMu, .int vMX, .int vMW])), (aMo, .inl (cA, 10000, .inl (u_14.2)))]) (w2 := fun (u_14 : Int32 × (Nat → Int32)) => [(aM, .inr (7, [.int vMT, .int vMP, .ref aMh, .ref aMi, .ref aMc, .int vMK, .ref aMt, .int vMB, .ref aMn, .ref aMl, .ref aMs, .int vMD, .ref aMd, .int vME, .ref aMe, .int u_14.1, .ref aMo, .int vMF, .int vMS, .ref aMw, .ref aMu, .int vMX, .int vMW])), (aMo, .inl (cA, 10000, .inl (u_14.2)))]) ⟨hx, hb, hml, hown, hg⟩ (c_M_asks l dC dI cA cZ aM aMh aMi aMc aMt aMn aMl aMs aMd aMe aMo aMw aMu _ vMT vMP vMK vMB vMD vME vMO vMF vMS vMX vMW vMo p0 p1 p2 p3 p4 g_14) (cwV 5 hg (q_gV mw_714 mw_715 mw_783 mw_8 mw_716) rfl rfl rfl qh_M_asks ⟨Nat.le_of_ble_eq_true rfl, Nat.le_of_ble_eq_true rfl⟩) hN hK hP hD hS hA [0, 1] [] rfl rfl (by decide) (by decide) (by decide) [0, 1] (fun _ => rfl) (by decide) 0 7 rfl rfl rfl hl.1 rfl (Nat.le_of_ble_eq_true rfl) qd_M_asksItem_14 ⟨Nat.zero_le _, Nat.zero_le _⟩ (fun u_14 H locs w_14 hP hD hS => ?_)
  have hP : va_P (dC, dI) vwCl [(aM, .inr (7, [.int vMT, .int vMP, .ref aMh, .ref aMi, .ref aMc, .int vMK, .ref aMt, .int vMB, .ref aMn, .ref aMl, .ref aMs, .int vMD, .ref aMd, .int vME, .ref aMe, .int u_14.1, .ref aMo, .int vMF, .int vMS, .ref aMw, .ref aMu, .int vMX, .int vMW])), (aMo, .inl (cA, 10000, .inl (u_14.2)))] H := hP
  have hD : va_D A [(aM, .inr (7, [.int vMT, .int vMP, .ref aMh, .ref aMi, .ref aMc, .int vMK, .ref aMt, .int vMB, .ref aMn, .ref aMl, .ref aMs, .int vMD, .ref aMd, .int vME, .ref aMe, .int u_14.1, .ref aMo, .int vMF, .int vMS, .ref aMw, .ref aMu, .int vMX, .int vMW])), (aMo, .inl (cA, 10000, .inl (u_14.2)))] := hD
  have hres := hres.trans (bd_eq w_14)
  have ho := (bd_eq w_14).mp ho
  exact W.vret hx hb hr (fun t ht hW => ⟨⟨(u_14.1, u_14.2), rfl, hres.symm, ⟨by rw [ht]; exact hP, va_K.moved hW.alike hK, x_N hN hW⟩, hD⟩, hS.F ht⟩) hS.2.2 qd_M_asksItem_17
theorem qd_M_node_0 : decode qc_M_node 0 = .ok (.iload_n 1, 1) := by decide +kernel
theorem qd_M_node_1 : decode qc_M_node 1 = .ok (.iconst 0, 1) := by decide +kernel
theorem qd_M_node_2 : decode qc_M_node 2 = .ok (.aload_n 0, 1) := by decide +kernel
theorem qd_M_node_3 : decode qc_M_node 3 = .ok (.getfield 57, 3) := by decide +kernel
theorem qd_M_node_6 : decode qc_M_node 6 = .ok (.iconst 1, 1) := by decide +kernel
theorem qd_M_node_7 : decode qc_M_node 7 = .ok (.isub, 1) := by decide +kernel
theorem qd_M_node_8 : decode qc_M_node 8 = .ok (.invokestatic 64, 3) := by decide +kernel
theorem qd_M_node_11 : decode qc_M_node 11 = .ok (.istore_n 3, 1) := by decide +kernel
theorem qd_M_node_12 : decode qc_M_node 12 = .ok (.aload_n 0, 1) := by decide +kernel
theorem qd_M_node_13 : decode qc_M_node 13 = .ok (.iload_n 3, 1) := by decide +kernel
theorem qd_M_node_14 : decode qc_M_node 14 = .ok (.ifCond .ne 7, 3) := by decide +kernel
theorem qd_M_node_17 : decode qc_M_node 17 = .ok (.iconst 1, 1) := by decide +kernel
theorem qd_M_node_18 : decode qc_M_node 18 = .ok (.goto 4, 3) := by decide +kernel
theorem qd_M_node_21 : decode qc_M_node 21 = .ok (.iconst 0, 1) := by decide +kernel
theorem qd_M_node_22 : decode qc_M_node 22 = .ok (.iload_n 3, 1) := by decide +kernel
theorem qd_M_node_23 : decode qc_M_node 23 = .ok (.ifCond .eq 16, 3) := by decide +kernel
theorem qd_M_node_26 : decode qc_M_node 26 = .ok (.iload_n 2, 1) := by decide +kernel
theorem qd_M_node_27 : decode qc_M_node 27 = .ok (.iconst 0, 1) := by decide +kernel
theorem qd_M_node_28 : decode qc_M_node 28 = .ok (.iconst 3, 1) := by decide +kernel
theorem qd_M_node_29 : decode qc_M_node 29 = .ok (.invokestatic 64, 3) := by decide +kernel
theorem qd_M_node_32 : decode qc_M_node 32 = .ok (.ifCond .ne 7, 3) := by decide +kernel
theorem qd_M_node_35 : decode qc_M_node 35 = .ok (.iconst 1, 1) := by decide +kernel
theorem qd_M_node_36 : decode qc_M_node 36 = .ok (.goto 4, 3) := by decide +kernel
theorem qd_M_node_39 : decode qc_M_node 39 = .ok (.iconst 0, 1) := by decide +kernel
theorem qd_M_node_40 : decode qc_M_node 40 = .ok (.iconst 0, 1) := by decide +kernel
theorem qd_M_node_41 : decode qc_M_node 41 = .ok (.invokevirtual 76, 3) := by decide +kernel
theorem qd_M_node_44 : decode qc_M_node 44 = .ok (.ifCond .eq 5, 3) := by decide +kernel
theorem qd_M_node_47 : decode qc_M_node 47 = .ok (.iconst 0, 1) := by decide +kernel
theorem qd_M_node_48 : decode qc_M_node 48 = .ok (.ireturn, 1) := by decide +kernel
theorem qd_M_node_49 : decode qc_M_node 49 = .ok (.aload_n 0, 1) := by decide +kernel
theorem qd_M_node_50 : decode qc_M_node 50 = .ok (.getfield 32, 3) := by decide +kernel
theorem qd_M_node_53 : decode qc_M_node 53 = .ok (.iconst 4, 1) := by decide +kernel
theorem qd_M_node_54 : decode qc_M_node 54 = .ok (.iload_n 1, 1) := by decide +kernel
theorem qd_M_node_55 : decode qc_M_node 55 = .ok (.imul, 1) := by decide +kernel
theorem qd_M_node_56 : decode qc_M_node 56 = .ok (.iload_n 2, 1) := by decide +kernel
theorem qd_M_node_57 : decode qc_M_node 57 = .ok (.iadd, 1) := by decide +kernel
theorem qd_M_node_58 : decode qc_M_node 58 = .ok (.iaload, 1) := by decide +kernel
theorem qd_M_node_59 : decode qc_M_node 59 = .ok (.ireturn, 1) := by decide +kernel
set_option maxHeartbeats 4000000 in
set_option maxRecDepth 100000 in
theorem c_M_node (l : Launch) (dC : Nat → ClassId) (dI : Nat → Nat → Nat) (cA cZ : ClassId) (aM aMh aMi aMc aMt aMn aMl aMs aMd aMe aMo aMw aMu : Nat) (sz : Nat) (vMT : Int32) (vMP : Int32) (vMK : Int32) (vMB : Int32) (vMD : Int32) (vME : Int32) (vMO : Int32) (vMF : Int32) (vMS : Int32) (vMX : Int32) (vMW : Int32) (vMd : (Nat → Int32)) (p0 : Int32) (p1 : Int32) (ho : o_M_node vMT vMD vMd p0 p1) : Met l qy_M_node qw_M_node ({ frames := 1, cells := 0, slots := 0, locals := 23 }) (va_Pc [.ref aM, .int p0, .int p1] (fun U => U.heap.size = sz ∧ xP (dC, dI) [(cA, .int), (cZ, .boolean)] [(aM, .inr (7, [.int vMT, .int vMP, .ref aMh, .ref aMi, .ref aMc, .int vMK, .ref aMt, .int vMB, .ref aMn, .ref aMl, .ref aMs, .int vMD, .ref aMd, .int vME, .ref aMe, .int vMO, .ref aMo, .int vMF, .int vMS, .ref aMw, .ref aMu, .int vMX, .int vMW])), (aMd, .inl (cA, 4000, .inl (vMd)))] nestN U ∧ va_D (fun _ => True) [(aM, .inr (7, [.int vMT, .int vMP, .ref aMh, .ref aMi, .ref aMc, .int vMK, .ref aMt, .int vMB, .ref aMn, .ref aMl, .ref aMs, .int vMD, .ref aMd, .int vME, .ref aMe, .int vMO, .ref aMo, .int vMF, .int vMS, .ref aMw, .ref aMu, .int vMX, .int vMW])), (aMd, .inl (cA, 4000, .inl (vMd)))])) (va_Qi (fun r (u : Int32 × Int32) => u = f_M_node vMT vMD vMd p0 p1 ∧ r = u.1) (fun (u : Int32 × Int32) t => xP (dC, dI) [(cA, .int), (cZ, .boolean)] [(aM, .inr (7, [.int u.2, .int vMP, .ref aMh, .ref aMi, .ref aMc, .int vMK, .ref aMt, .int vMB, .ref aMn, .ref aMl, .ref aMs, .int vMD, .ref aMd, .int vME, .ref aMe, .int vMO, .ref aMo, .int vMF, .int vMS, .ref aMw, .ref aMu, .int vMX, .int vMW])), (aMd, .inl (cA, 4000, .inl (vMd)))] nestN t ∧ va_D (va_A [(aM, .inr (7, [.int vMT, .int vMP, .ref aMh, .ref aMi, .ref aMc, .int vMK, .ref aMt, .int vMB, .ref aMn, .ref aMl, .ref aMs, .int vMD, .ref aMd, .int vME, .ref aMe, .int vMO, .ref aMo, .int vMF, .int vMS, .ref aMw, .ref aMu, .int vMX, .int vMW])), (aMd, .inl (cA, 4000, .inl (vMd)))] sz) [(aM, .inr (7, [.int u.2, .int vMP, .ref aMh, .ref aMi, .ref aMc, .int vMK, .ref aMt, .int vMB, .ref aMn, .ref aMl, .ref aMs, .int vMD, .ref aMd, .int vME, .ref aMe, .int vMO, .ref aMo, .int vMF, .int vMS, .ref aMw, .ref aMu, .int vMX, .int vMW])), (aMd, .inl (cA, 4000, .inl (vMd)))]) (va_A [(aM, .inr (7, [.int vMT, .int vMP, .ref aMh, .ref aMi, .ref aMc, .int vMK, .ref aMt, .int vMB, .ref aMn, .ref aMl, .ref aMs, .int vMD, .ref aMd, .int vME, .ref aMe, .int vMO, .ref aMo, .int vMF, .int vMS, .ref aMw, .ref aMu, .int vMX, .int vMW])), (aMd, .inl (cA, 4000, .inl (vMd)))] sz)) 0 0 (va_A [(aM, .inr (7, [.int vMT, .int vMP, .ref aMh, .ref aMi, .ref aMc, .int vMK, .ref aMt, .int vMB, .ref aMn, .ref aMl, .ref aMs, .int vMD, .ref aMd, .int vME, .ref aMe, .int vMO, .ref aMo, .int vMF, .int vMS, .ref aMw, .ref aMu, .int vMX, .int vMW])), (aMd, .inl (cA, 4000, .inl (vMd)))] sz) := by
  refine Met.ofW (cc := qc_M_node) (maxL := 4) (ret := (some .int)) (by decide) rfl ?_
  intro p e s m args below meth c s₁ B hml hv
  obtain ⟨rfl, hsz, ⟨hP, hK, hN⟩, hD0⟩ := hv
  have hx := B.exec
  have hb := B.bytes
  have hr := B.returns
  have hts := atoms_spec (ws := qw_M_node) B.pre
  have hg : ∀ w ∈ gG, w.before _ s = true := fun w h => hts w (List.mem_cons_of_mem _ h)
  have hown : s.vm.findClass qR_M = some m.cls := findClass_of_methodNamed B.named
  have hlocks := B.notSynchronized
  subst hsz
  have hD := hD0.self (sz := s.heap.size)
  generalize hAe : va_A [(aM, .inr (7, [.int vMT, .int vMP, .ref aMh, .ref aMi, .ref aMc, .int vMK, .ref aMt, .int vMB, .ref aMn, .ref aMl, .ref aMs, .int vMD, .ref aMd, .int vME, .ref aMe, .int vMO, .ref aMo, .int vMF, .int vMS, .ref aMw, .ref aMu, .int vMX, .int vMW])), (aMd, .inl (cA, 4000, .inl (vMd)))] s.heap.size = A at hD ⊢
  have hA : ∀ q : Nat, s.heap.size ≤ q → A q := fun q h => by rw [← hAe]; exact Or.inr h
  have hS : va_S A s.heap s.heap [] := va_S.rf
  have hP : va_P (dC, dI) vwCl [(aM, .inr (7, [.int vMT, .int vMP, .ref aMh, .ref aMi, .ref aMc, .int vMK, .ref aMt, .int vMB, .ref aMn, .ref aMl, .ref aMs, .int vMD, .ref aMd, .int vME, .ref aMe, .int vMO, .ref aMo, .int vMF, .int vMS, .ref aMw, .ref aMu, .int vMX, .int vMW])), (aMd, .inl (cA, 4000, .inl (vMd)))] s.heap := hP
  have hl := lv_entry ([.ref aM, .int p0, .int p1]) (n := 4) (Nat.le_of_ble_eq_true rfl)
  rw [lg_entry_eq]
  generalize (lg_sl ([.ref aM, .int p0, .int p1]) ++ List.replicate (4 - (lg_sl ([.ref aM, .int p0, .int p1])).length) Slot.unset).toArray = ls at hl ⊢
  have hl : lv_has ls 4 [(0, .ref aM), (1, .int p0), (2, .int p1)] := hl
  generalize hF : f_M_node vMT vMD vMd p0 p1 = Fv
  have hres : Fv = f_M_node vMT vMD vMd p0 p1 := hF.symm
  unfold f_M_node at hres
  unfold o_M_node at ho
  refine lv_iload_n hx hb qd_M_node_0 rfl (lv_at hl 1 rfl) ?_
  refine lv_iconst (v := 0) hx hb qd_M_node_1 (by decide) ?_
  refine lv_aload_n hx hb qd_M_node_2 rfl (lv_at hl 0 rfl) ?_
  refine va_get (D := (dC, dI)) (ci := 7) (v := .int vMD) (C := qR_M) (T := qT_M) (N := 23) hx hb hg qi_M hown hK hP 0 rfl rfl 11 (by decide) (hg _ mw_585) (fun _ h9 => h9) rfl qd_M_node_3 ?_
  refine lv_iconst (v := 1) hx hb qd_M_node_6 (by decide) ?_
  refine lv_isub hx hb qd_M_node_7 ?_
  refine xc_S (As := [.int p0, .int 0, .int (vMD - 1)]) (rest := []) ⟨hx, hb, hml, hown, hg⟩ (c_M_in l dC dI cA cZ p0 0 (vMD - 1)) (va_cwS 3 hg (q_gS mw_633 mw_634 mw_8 mw_635) rfl rfl rfl qh_M_in.2 ⟨Nat.le_of_ble_eq_true rfl, Nat.le_of_ble_eq_true rfl⟩) hN hK hP [] rfl rfl hl.1 rfl (Nat.le_of_ble_eq_true rfl) qd_M_node_8 ⟨Nat.zero_le _, Nat.zero_le _⟩ ?_
  refine lv_topi (fun r_8 w_8 => ?_)
  have hres := hres.trans (bd_eq w_8)
  have ho := (bd_eq w_8).mp ho
  refine lv_istore_n (lv' := [(3, .int r_8), (0, .ref aM), (1, .int p0), (2, .int p1)]) hx hb qd_M_node_11 rfl hl (by decide) rfl (fun ls hl => ?_)
  refine lv_aload_n hx hb qd_M_node_12 rfl (lv_at hl 1 rfl) ?_
  refine lv_iload_n hx hb qd_M_node_13 rfl (lv_at hl 0 rfl) ?_
  refine lv_if_ne (tgt := 21) hx hb qd_M_node_14 (by decide) (fun c_14 => ?_) (fun c_14 => ?_)
  · have hres := hres.trans (if_neg c_14)
    have ho := (if_neg c_14).mp ho
    refine lv_iconst (v := 0) hx hb qd_M_node_21 (by decide) ?_
    refine lv_iload_n hx hb qd_M_node_22 rfl (lv_at hl 0 rfl) ?_
    refine lv_if_eq (tgt := 39) hx hb qd_M_node_23 (by decide) (fun c_23 => ?_) (fun c_23 => ?_)
    · exact absurd c_23 c_14
    refine lv_iload_n hx hb qd_M_node_26 rfl (lv_at hl 3 rfl) ?_
    refine lv_iconst (v := 0) hx hb qd_M_node_27 (by decide) ?_
    refine lv_iconst (v := 3) hx hb qd_M_node_28 (by decide) ?_
    refine xc_S (As := [.int p1, .int 0, .int 3]) (rest := [.int 0, .ref aM]) ⟨hx, hb, hml, hown, hg⟩ (c_M_in l dC dI cA cZ p1 0 3) (va_cwS 3 hg (q_gS mw_633 mw_634 mw_8 mw_635) rfl rfl rfl qh_M_in.2 ⟨Nat.le_of_ble_eq_true rfl, Nat.le_of_ble_eq_true rfl⟩) hN hK hP [] rfl rfl hl.1 rfl (Nat.le_of_ble_eq_true rfl) qd_M_node_29 ⟨Nat.zero_le _, Nat.zero_le _⟩ ?_
    refine lv_topi (fun r_29 w_29 => ?_)
    have hres := hres.trans (bd_eq w_29)
    have ho := (bd_eq w_29).mp ho
    refine lv_if_ne (tgt := 39) hx hb qd_M_node_32 (by decide) (fun c_32 => ?_) (fun c_32 => ?_)
    · have hres := hres.trans (if_neg c_32)
      have ho := (if_neg c_32).mp ho
      refine lv_iconst (v := 0) hx hb qd_M_node_39 (by decide) ?_
      refine lv_iconst (v := 0) hx hb qd_M_node_40 (by decide) ?_
      refine xm_Vi (As := [.int 0, .int 0, .int 0]) (rest := []) (w1 := fun (u_41 : Int32 × Int32) => [(aM, .inr (7, [.int u_41.2, .int vMP, .ref aMh, .ref aMi, .ref aMc, .int vMK, .ref aMt, .int vMB, .ref aMn, .ref aMl, .ref aMs, .int vMD, .ref aMd, .int vME, .ref aMe, .int vMO, .ref aMo, .int vMF, .int vMS, .ref aMw, .ref aMu, .int vMX, .int vMW]))]) (w2 := fun (u_41 : Int32 × Int32) => [(aM, .inr (7, [.int u_41.2, .int vMP, .ref aMh, .ref aMi, .ref aMc, .int vMK, .ref aMt, .int vMB, .ref aMn, .ref aMl, .ref aMs, .int vMD, .ref aMd, .int vME, .ref aMe, .int vMO, .ref aMo, .int vMF, .int vMS, .ref aMw, .ref aMu, .int vMX, .int vMW])), (aMd, .inl (cA, 4000, .inl (vMd)))]) ⟨hx, hb, hml, hown, hg⟩ (c_M_refuse l dC dI cA cZ aM aMh aMi aMc aMt aMn aMl aMs aMd aMe aMo aMw aMu _ vMT vMP vMK vMB vMD vME vMO vMF vMS vMX vMW 0 0 0) (cwV 3 hg (q_gV mw_642 mw_643 mw_771 mw_8 mw_644) rfl rfl rfl qh_M_refuse ⟨Nat.le_of_ble_eq_true rfl, Nat.le_of_ble_eq_true rfl⟩) hN hK hP hD hS hA [0] [1] rfl rfl (by decide) (by decide) (by decide) [1, 0] (fun _ => rfl) (by decide) 0 7 rfl rfl rfl hl.1 rfl (Nat.le_of_ble_eq_true rfl) qd_M_node_41 ⟨Nat.zero_le _, Nat.zero_le _⟩ (fun u_41 H locs w_41 hP hD hS => ?_)
      have hP : va_P (dC, dI) vwCl [(aM, .inr (7, [.int u_41.2, .int vMP, .ref aMh, .ref aMi, .ref aMc, .int vMK, .ref aMt, .int vMB, .ref aMn, .ref aMl, .ref aMs, .int vMD, .ref aMd, .int vME, .ref aMe, .int vMO, .ref aMo, .int vMF, .int vMS, .ref aMw, .ref aMu, .int vMX, .int vMW])), (aMd, .inl (cA, 4000, .inl (vMd)))] H := hP
      have hD : va_D A [(aM, .inr (7, [.int u_41.2, .int vMP, .ref aMh, .ref aMi, .ref aMc, .int vMK, .ref aMt, .int vMB, .ref aMn, .ref aMl, .ref aMs, .int vMD, .ref aMd, .int vME, .ref aMe, .int vMO, .ref aMo, .int vMF, .int vMS, .ref aMw, .ref aMu, .int vMX, .int vMW])), (aMd, .inl (cA, 4000, .inl (vMd)))] := hD
      have hres := hres.trans (bd_eq w_41)
      have ho := (bd_eq w_41).mp ho
      refine lv_if_eq (tgt := 49) hx hb qd_M_node_44 (by decide) (fun c_44 => ?_) (fun c_44 => ?_)
      · have hres := hres.trans (if_pos c_44)
        have ho := (if_pos c_44).mp ho
        refine lv_aload_n hx hb qd_M_node_49 rfl (lv_at hl 1 rfl) ?_
        refine va_get (D := (dC, dI)) (ci := 7) (v := .ref aMd) (C := qR_M) (T := qT_M) (N := 23) hx hb hg qi_M hown hK hP 0 rfl rfl 12 (by decide) (hg _ mw_586) (fun _ h9 => h9) rfl qd_M_node_50 ?_
        refine lv_iconst (v := 4) hx hb qd_M_node_53 (by decide) ?_
        refine lv_iload_n hx hb qd_M_node_54 rfl (lv_at hl 2 rfl) ?_
        refine lv_imul hx hb qd_M_node_55 ?_
        refine lv_iload_n hx hb qd_M_node_56 rfl (lv_at hl 3 rfl) ?_
        refine lv_iadd hx hb qd_M_node_57 ?_
        obtain ⟨g_58, ho⟩ := ho
        refine va_iald hx hb hK hP 1 0 rfl rfl g_58 qd_M_node_58 ?_
        exact W.iret (v := vMd ((4 * p0) + p1).toNatClampNeg) hx hb hr (fun t ht hW => ⟨⟨_, (vMd ((4 * p0) + p1).toNatClampNeg, u_41.2), rfl, ⟨hres.symm, rfl⟩, ⟨by rw [ht]; exact hP, va_K.moved hW.alike hK, x_N hN hW⟩, hD⟩, hS.F ht⟩) hS.2.2 qd_M_node_59
      have hres := hres.trans (if_neg c_44)
      have ho := (if_neg c_44).mp ho
      refine lv_iconst (v := 0) hx hb qd_M_node_47 (by decide) ?_
      exact W.iret (v := 0) hx hb hr (fun t ht hW => ⟨⟨_, (0, u_41.2), rfl, ⟨hres.symm, rfl⟩, ⟨by rw [ht]; exact hP, va_K.moved hW.alike hK, x_N hN hW⟩, hD⟩, hS.F ht⟩) hS.2.2 qd_M_node_48
    have hres := hres.trans (if_pos c_32)
    have ho := (if_pos c_32).mp ho
    refine lv_iconst (v := 1) hx hb qd_M_node_35 (by decide) ?_
    refine lv_goto (tgt := 40) hx hb qd_M_node_36 (by decide) ?_
    refine lv_iconst (v := 0) hx hb qd_M_node_40 (by decide) ?_
    refine xm_Vi (As := [.int 0, .int 1, .int 0]) (rest := []) (w1 := fun (u_41 : Int32 × Int32) => [(aM, .inr (7, [.int u_41.2, .int vMP, .ref aMh, .ref aMi, .ref aMc, .int vMK, .ref aMt, .int vMB, .ref aMn, .ref aMl, .ref aMs, .int vMD, .ref aMd, .int vME, .ref aMe, .int vMO, .ref aMo, .int vMF, .int vMS, .ref aMw, .ref aMu, .int vMX, .int vMW]))]) (w2 := fun (u_41 : Int32 × Int32) => [(aM, .inr (7, [.int u_41.2, .int vMP, .ref aMh, .ref aMi, .ref aMc, .int vMK, .ref aMt, .int vMB, .ref aMn, .ref aMl, .ref aMs, .int vMD, .ref aMd, .int vME, .ref aMe, .int vMO, .ref aMo, .int vMF, .int vMS, .ref aMw, .ref aMu, .int vMX, .int vMW])), (aMd, .inl (cA, 4000, .inl (vMd)))]) ⟨hx, hb, hml, hown, hg⟩ (c_M_refuse l dC dI cA cZ aM aMh aMi aMc aMt aMn aMl aMs aMd aMe aMo aMw aMu _ vMT vMP vMK vMB vMD vME vMO vMF vMS vMX vMW 0 1 0) (cwV 3 hg (q_gV mw_642 mw_643 mw_771 mw_8 mw_644) rfl rfl rfl qh_M_refuse ⟨Nat.le_of_ble_eq_true rfl, Nat.le_of_ble_eq_true rfl⟩) hN hK hP hD hS hA [0] [1] rfl rfl (by decide) (by decide) (by decide) [1, 0] (fun _ => rfl) (by decide) 0 7 rfl rfl rfl hl.1 rfl (Nat.le_of_ble_eq_true rfl) qd_M_node_41 ⟨Nat.zero_le _, Nat.zero_le _⟩ (fun u_41 H locs w_41 hP hD hS => ?_)
    have hP : va_P (dC, dI) vwCl [(aM, .inr (7, [.int u_41.2, .int vMP, .ref aMh, .ref aMi, .ref aMc, .int vMK, .ref aMt, .int vMB, .ref aMn, .ref aMl, .ref aMs, .int vMD, .ref aMd, .int vME, .ref aMe, .int vMO, .ref aMo, .int vMF, .int vMS, .ref aMw, .ref aMu, .int vMX, .int vMW])), (aMd, .inl (cA, 4000, .inl (vMd)))] H := hP
    have hD : va_D A [(aM, .inr (7, [.int u_41.2, .int vMP, .ref aMh, .ref aMi, .ref aMc, .int vMK, .ref aMt, .int vMB, .ref aMn, .ref aMl, .ref aMs, .int vMD, .ref aMd, .int vME, .ref aMe, .int vMO, .ref aMo, .int vMF, .int vMS, .ref aMw, .ref aMu, .int vMX, .int vMW])), (aMd, .inl (cA, 4000, .inl (vMd)))] := hD
    have hres := hres.trans (bd_eq w_41)
    have ho := (bd_eq w_41).mp ho
    refine lv_if_eq (tgt := 49) hx hb qd_M_node_44 (by decide) (fun c_44 => ?_) (fun c_44 => ?_)
    · have hres := hres.trans (if_pos c_44)
      have ho := (if_pos c_44).mp ho
      refine lv_aload_n hx hb qd_M_node_49 rfl (lv_at hl 1 rfl) ?_
      refine va_get (D := (dC, dI)) (ci := 7) (v := .ref aMd) (C := qR_M) (T := qT_M) (N := 23) hx hb hg qi_M hown hK hP 0 rfl rfl 12 (by decide) (hg _ mw_586) (fun _ h9 => h9) rfl qd_M_node_50 ?_
      refine lv_iconst (v := 4) hx hb qd_M_node_53 (by decide) ?_
      refine lv_iload_n hx hb qd_M_node_54 rfl (lv_at hl 2 rfl) ?_
      refine lv_imul hx hb qd_M_node_55 ?_
      refine lv_iload_n hx hb qd_M_node_56 rfl (lv_at hl 3 rfl) ?_
      refine lv_iadd hx hb qd_M_node_57 ?_
      obtain ⟨g_58, ho⟩ := ho
      refine va_iald hx hb hK hP 1 0 rfl rfl g_58 qd_M_node_58 ?_
      exact W.iret (v := vMd ((4 * p0) + p1).toNatClampNeg) hx hb hr (fun t ht hW => ⟨⟨_, (vMd ((4 * p0) + p1).toNatClampNeg, u_41.2), rfl, ⟨hres.symm, rfl⟩, ⟨by rw [ht]; exact hP, va_K.moved hW.alike hK, x_N hN hW⟩, hD⟩, hS.F ht⟩) hS.2.2 qd_M_node_59
    have hres := hres.trans (if_neg c_44)
    have ho := (if_neg c_44).mp ho
    refine lv_iconst (v := 0) hx hb qd_M_node_47 (by decide) ?_
    exact W.iret (v := 0) hx hb hr (fun t ht hW => ⟨⟨_, (0, u_41.2), rfl, ⟨hres.symm, rfl⟩, ⟨by rw [ht]; exact hP, va_K.moved hW.alike hK, x_N hN hW⟩, hD⟩, hS.F ht⟩) hS.2.2 qd_M_node_48
  have hres := hres.trans (if_pos c_14)
  have ho := (if_pos c_14).mp ho
  refine lv_iconst (v := 1) hx hb qd_M_node_17 (by decide) ?_
  refine lv_goto (tgt := 22) hx hb qd_M_node_18 (by decide) ?_
  refine lv_iload_n hx hb qd_M_node_22 rfl (lv_at hl 0 rfl) ?_
  refine lv_if_eq (tgt := 39) hx hb qd_M_node_23 (by decide) (fun c_23 => ?_) (fun c_23 => ?_)
  rotate_left
  · exact absurd c_14 c_23
  refine lv_iconst (v := 0) hx hb qd_M_node_39 (by decide) ?_
  refine lv_iconst (v := 0) hx hb qd_M_node_40 (by decide) ?_
  refine xm_Vi (As := [.int 1, .int 0, .int 0]) (rest := []) (w1 := fun (u_41 : Int32 × Int32) => [(aM, .inr (7, [.int u_41.2, .int vMP, .ref aMh, .ref aMi, .ref aMc, .int vMK, .ref aMt, .int vMB, .ref aMn, .ref aMl, .ref aMs, .int vMD, .ref aMd, .int vME, .ref aMe, .int vMO, .ref aMo, .int vMF, .int vMS, .ref aMw, .ref aMu, .int vMX, .int vMW]))]) (w2 := fun (u_41 : Int32 × Int32) => [(aM, .inr (7, [.int u_41.2, .int vMP, .ref aMh, .ref aMi, .ref aMc, .int vMK, .ref aMt, .int vMB, .ref aMn, .ref aMl, .ref aMs, .int vMD, .ref aMd, .int vME, .ref aMe, .int vMO, .ref aMo, .int vMF, .int vMS, .ref aMw, .ref aMu, .int vMX, .int vMW])), (aMd, .inl (cA, 4000, .inl (vMd)))]) ⟨hx, hb, hml, hown, hg⟩ (c_M_refuse l dC dI cA cZ aM aMh aMi aMc aMt aMn aMl aMs aMd aMe aMo aMw aMu _ vMT vMP vMK vMB vMD vME vMO vMF vMS vMX vMW 1 0 0) (cwV 3 hg (q_gV mw_642 mw_643 mw_771 mw_8 mw_644) rfl rfl rfl qh_M_refuse ⟨Nat.le_of_ble_eq_true rfl, Nat.le_of_ble_eq_true rfl⟩) hN hK hP hD hS hA [0] [1] rfl rfl (by decide) (by decide) (by decide) [1, 0] (fun _ => rfl) (by decide) 0 7 rfl rfl rfl hl.1 rfl (Nat.le_of_ble_eq_true rfl) qd_M_node_41 ⟨Nat.zero_le _, Nat.zero_le _⟩ (fun u_41 H locs w_41 hP hD hS => ?_)
  have hP : va_P (dC, dI) vwCl [(aM, .inr (7, [.int u_41.2, .int vMP, .ref aMh, .ref aMi, .ref aMc, .int vMK, .ref aMt, .int vMB, .ref aMn, .ref aMl, .ref aMs, .int vMD, .ref aMd, .int vME, .ref aMe, .int vMO, .ref aMo, .int vMF, .int vMS, .ref aMw, .ref aMu, .int vMX, .int vMW])), (aMd, .inl (cA, 4000, .inl (vMd)))] H := hP
  have hD : va_D A [(aM, .inr (7, [.int u_41.2, .int vMP, .ref aMh, .ref aMi, .ref aMc, .int vMK, .ref aMt, .int vMB, .ref aMn, .ref aMl, .ref aMs, .int vMD, .ref aMd, .int vME, .ref aMe, .int vMO, .ref aMo, .int vMF, .int vMS, .ref aMw, .ref aMu, .int vMX, .int vMW])), (aMd, .inl (cA, 4000, .inl (vMd)))] := hD
  have hres := hres.trans (bd_eq w_41)
  have ho := (bd_eq w_41).mp ho
  refine lv_if_eq (tgt := 49) hx hb qd_M_node_44 (by decide) (fun c_44 => ?_) (fun c_44 => ?_)
  · have hres := hres.trans (if_pos c_44)
    have ho := (if_pos c_44).mp ho
    refine lv_aload_n hx hb qd_M_node_49 rfl (lv_at hl 1 rfl) ?_
    refine va_get (D := (dC, dI)) (ci := 7) (v := .ref aMd) (C := qR_M) (T := qT_M) (N := 23) hx hb hg qi_M hown hK hP 0 rfl rfl 12 (by decide) (hg _ mw_586) (fun _ h9 => h9) rfl qd_M_node_50 ?_
    refine lv_iconst (v := 4) hx hb qd_M_node_53 (by decide) ?_
    refine lv_iload_n hx hb qd_M_node_54 rfl (lv_at hl 2 rfl) ?_
    refine lv_imul hx hb qd_M_node_55 ?_
    refine lv_iload_n hx hb qd_M_node_56 rfl (lv_at hl 3 rfl) ?_
    refine lv_iadd hx hb qd_M_node_57 ?_
    obtain ⟨g_58, ho⟩ := ho
    refine va_iald hx hb hK hP 1 0 rfl rfl g_58 qd_M_node_58 ?_
    exact W.iret (v := vMd ((4 * p0) + p1).toNatClampNeg) hx hb hr (fun t ht hW => ⟨⟨_, (vMd ((4 * p0) + p1).toNatClampNeg, u_41.2), rfl, ⟨hres.symm, rfl⟩, ⟨by rw [ht]; exact hP, va_K.moved hW.alike hK, x_N hN hW⟩, hD⟩, hS.F ht⟩) hS.2.2 qd_M_node_59
  have hres := hres.trans (if_neg c_44)
  have ho := (if_neg c_44).mp ho
  refine lv_iconst (v := 0) hx hb qd_M_node_47 (by decide) ?_
  exact W.iret (v := 0) hx hb hr (fun t ht hW => ⟨⟨_, (0, u_41.2), rfl, ⟨hres.symm, rfl⟩, ⟨by rw [ht]; exact hP, va_K.moved hW.alike hK, x_N hN hW⟩, hD⟩, hS.F ht⟩) hS.2.2 qd_M_node_48
theorem qd_M_isUseful_0 : decode qc_M_isUseful 0 = .ok (.iload_n 1, 1) := by decide +kernel
theorem qd_M_isUseful_1 : decode qc_M_isUseful 1 = .ok (.iconst (-1), 1) := by decide +kernel
theorem qd_M_isUseful_2 : decode qc_M_isUseful 2 = .ok (.if_icmp .eq 18, 3) := by decide +kernel
theorem qd_M_isUseful_5 : decode qc_M_isUseful 5 = .ok (.iload_n 1, 1) := by decide +kernel
theorem qd_M_isUseful_6 : decode qc_M_isUseful 6 = .ok (.bipush 10, 2) := by decide +kernel
theorem qd_M_isUseful_8 : decode qc_M_isUseful 8 = .ok (.if_icmp .ge 12, 3) := by decide +kernel
theorem qd_M_isUseful_11 : decode qc_M_isUseful 11 = .ok (.aload_n 0, 1) := by decide +kernel
theorem qd_M_isUseful_12 : decode qc_M_isUseful 12 = .ok (.getfield 44, 3) := by decide +kernel
theorem qd_M_isUseful_15 : decode qc_M_isUseful 15 = .ok (.iload_n 1, 1) := by decide +kernel
theorem qd_M_isUseful_16 : decode qc_M_isUseful 16 = .ok (.baload, 1) := by decide +kernel
theorem qd_M_isUseful_17 : decode qc_M_isUseful 17 = .ok (.ifCond .eq 7, 3) := by decide +kernel
theorem qd_M_isUseful_20 : decode qc_M_isUseful 20 = .ok (.iconst 1, 1) := by decide +kernel
theorem qd_M_isUseful_21 : decode qc_M_isUseful 21 = .ok (.goto 4, 3) := by decide +kernel
theorem qd_M_isUseful_24 : decode qc_M_isUseful 24 = .ok (.iconst 0, 1) := by decide +kernel
theorem qd_M_isUseful_25 : decode qc_M_isUseful 25 = .ok (.ireturn, 1) := by decide +kernel
set_option maxHeartbeats 4000000 in
set_option maxRecDepth 100000 in
theorem c_M_isUseful (l : Launch) (dC : Nat → ClassId) (dI : Nat → Nat → Nat) (cA cZ : ClassId) (aM aMh aMi aMc aMt aMn aMl aMs aMd aMe aMo aMw aMu : Nat) (vMT : Int32) (vMP : Int32) (vMK : Int32) (vMB : Int32) (vMD : Int32) (vME : Int32) (vMO : Int32) (vMF : Int32) (vMS : Int32) (vMX : Int32) (vMW : Int32) (vMu : (Nat → Int32)) (p0 : Int32) (ho : o_M_isUseful vMu p0) : Met l qy_M_isUseful qw_M_isUseful ({ frames := 0, cells := 0, slots := 0, locals := 0 }) (va_Pc [.ref aM, .int p0] (xP (dC, dI) [(cA, .int), (cZ, .boolean)] [(aM, .inr (7, [.int vMT, .int vMP, .ref aMh, .ref aMi, .ref aMc, .int vMK, .ref aMt, .int vMB, .ref aMn, .ref aMl, .ref aMs, .int vMD, .ref aMd, .int vME, .ref aMe, .int vMO, .ref aMo, .int vMF, .int vMS, .ref aMw, .ref aMu, .int vMX, .int vMW])), (aMu, .inl (cZ, 10, .inl (vMu)))] nestN)) (vp_Si (fun r => r = f_M_isUseful vMu p0)) 0 0 (fun _ => False) := by
  refine Met.ofW (cc := qc_M_isUseful) (maxL := 2) (ret := (some .boolean)) (by decide) rfl ?_
  intro p e s m args below meth c s₁ B hml hv
  obtain ⟨rfl, hP, hK, hN⟩ := hv
  have hx := B.exec
  have hb := B.bytes
  have hr := B.returns
  have hts := atoms_spec (ws := qw_M_isUseful) B.pre
  have hg : ∀ w ∈ gG, w.before _ s = true := fun w h => hts w (List.mem_cons_of_mem _ h)
  have hown : s.vm.findClass qR_M = some m.cls := findClass_of_methodNamed B.named
  have hlocks := B.notSynchronized
  have hP : va_P (dC, dI) vwCl [(aM, .inr (7, [.int vMT, .int vMP, .ref aMh, .ref aMi, .ref aMc, .int vMK, .ref aMt, .int vMB, .ref aMn, .ref aMl, .ref aMs, .int vMD, .ref aMd, .int vME, .ref aMe, .int vMO, .ref aMo, .int vMF, .int vMS, .ref aMw, .ref aMu, .int vMX, .int vMW])), (aMu, .inl (cZ, 10, .inl (vMu)))] s.heap := hP
  have hl := lv_entry ([.ref aM, .int p0]) (n := 2) (Nat.le_of_ble_eq_true rfl)
  rw [lg_entry_eq]
  generalize (lg_sl ([.ref aM, .int p0]) ++ List.replicate (2 - (lg_sl ([.ref aM, .int p0])).length) Slot.unset).toArray = ls at hl ⊢
  have hl : lv_has ls 2 [(0, .ref aM), (1, .int p0)] := hl
  generalize hF : f_M_isUseful vMu p0 = Fv
  have hres : Fv = f_M_isUseful vMu p0 := hF.symm
  unfold f_M_isUseful at hres
  unfold o_M_isUseful at ho
  refine lv_iload_n hx hb qd_M_isUseful_0 rfl (lv_at hl 1 rfl) ?_
  refine lv_iconst (v := (-1)) hx hb qd_M_isUseful_1 (by decide) ?_
  refine lv_icmp_eq (tgt := 20) hx hb qd_M_isUseful_2 (by decide) (fun c_2 => ?_) (fun c_2 => ?_)
  · have hres := hres.trans (if_pos c_2)
    have ho := (if_pos c_2).mp ho
    refine lv_iconst (v := 1) hx hb qd_M_isUseful_20 (by decide) ?_
    refine lv_goto (tgt := 25) hx hb qd_M_isUseful_21 (by decide) ?_
    exact W.zret (v := 1) (ty := .boolean) hx hb hr (by decide) (fun t ht hW => ⟨_, rfl, hres.symm, ht⟩) (fun _ h => nomatch h) qd_M_isUseful_25
  have hres := hres.trans (if_neg c_2)
  have ho := (if_neg c_2).mp ho
  refine lv_iload_n hx hb qd_M_isUseful_5 rfl (lv_at hl 1 rfl) ?_
  refine lv_bipush (v := 10) hx hb qd_M_isUseful_6 (by decide) ?_
  refine lv_icmp_ge (tgt := 20) hx hb qd_M_isUseful_8 (by decide) (fun c_8 => ?_) (fun c_8 => ?_)
  · have hres := hres.trans (if_pos c_8)
    have ho := (if_pos c_8).mp ho
    refine lv_iconst (v := 1) hx hb qd_M_isUseful_20 (by decide) ?_
    refine lv_goto (tgt := 25) hx hb qd_M_isUseful_21 (by decide) ?_
    exact W.zret (v := 1) (ty := .boolean) hx hb hr (by decide) (fun t ht hW => ⟨_, rfl, hres.symm, ht⟩) (fun _ h => nomatch h) qd_M_isUseful_25
  have hres := hres.trans (if_neg c_8)
  have ho := (if_neg c_8).mp ho
  refine lv_aload_n hx hb qd_M_isUseful_11 rfl (lv_at hl 0 rfl) ?_
  refine va_get (D := (dC, dI)) (ci := 7) (v := .ref aMu) (C := qR_M) (T := qT_M) (N := 23) hx hb hg qi_M hown hK hP 0 rfl rfl 20 (by decide) (hg _ mw_594) (fun _ h9 => h9) rfl qd_M_isUseful_12 ?_
  refine lv_iload_n hx hb qd_M_isUseful_15 rfl (lv_at hl 1 rfl) ?_
  obtain ⟨g_16, ho⟩ := ho
  refine va_zald hx hb hK hP 1 1 rfl rfl g_16 qd_M_isUseful_16 ?_
  refine lv_if_eq (tgt := 24) hx hb qd_M_isUseful_17 (by decide) (fun c_17 => ?_) (fun c_17 => ?_)
  · have hres := hres.trans (if_pos c_17)
    have ho := (if_pos c_17).mp ho
    refine lv_iconst (v := 0) hx hb qd_M_isUseful_24 (by decide) ?_
    exact W.zret (v := 0) (ty := .boolean) hx hb hr (by decide) (fun t ht hW => ⟨_, rfl, hres.symm, ht⟩) (fun _ h => nomatch h) qd_M_isUseful_25
  have hres := hres.trans (if_neg c_17)
  have ho := (if_neg c_17).mp ho
  refine lv_iconst (v := 1) hx hb qd_M_isUseful_20 (by decide) ?_
  refine lv_goto (tgt := 25) hx hb qd_M_isUseful_21 (by decide) ?_
  exact W.zret (v := 1) (ty := .boolean) hx hb hr (by decide) (fun t ht hW => ⟨_, rfl, hres.symm, ht⟩) (fun _ h => nomatch h) qd_M_isUseful_25
theorem qd_M_findUseful_0 : decode qc_M_findUseful 0 = .ok (.iconst 0, 1) := by decide +kernel
theorem qd_M_findUseful_1 : decode qc_M_findUseful 1 = .ok (.istore_n 1, 1) := by decide +kernel
theorem qd_M_findUseful_2 : decode qc_M_findUseful 2 = .ok (.iload_n 1, 1) := by decide +kernel
theorem qd_M_findUseful_3 : decode qc_M_findUseful 3 = .ok (.bipush 10, 2) := by decide +kernel
theorem qd_M_findUseful_5 : decode qc_M_findUseful 5 = .ok (.if_icmp .ge 16, 3) := by decide +kernel
theorem qd_M_findUseful_8 : decode qc_M_findUseful 8 = .ok (.aload_n 0, 1) := by decide +kernel
theorem qd_M_findUseful_9 : decode qc_M_findUseful 9 = .ok (.getfield 44, 3) := by decide +kernel
theorem qd_M_findUseful_12 : decode qc_M_findUseful 12 = .ok (.iload_n 1, 1) := by decide +kernel
theorem qd_M_findUseful_13 : decode qc_M_findUseful 13 = .ok (.iconst 0, 1) := by decide +kernel
theorem qd_M_findUseful_14 : decode qc_M_findUseful 14 = .ok (.bastore, 1) := by decide +kernel
theorem qd_M_findUseful_15 : decode qc_M_findUseful 15 = .ok (.iinc 1 1, 3) := by decide +kernel
theorem qd_M_findUseful_18 : decode qc_M_findUseful 18 = .ok (.goto (-16), 3) := by decide +kernel
theorem qd_M_findUseful_21 : decode qc_M_findUseful 21 = .ok (.iconst 1, 1) := by decide +kernel
theorem qd_M_findUseful_22 : decode qc_M_findUseful 22 = .ok (.istore_n 1, 1) := by decide +kernel
theorem qd_M_findUseful_23 : decode qc_M_findUseful 23 = .ok (.iload_n 1, 1) := by decide +kernel
theorem qd_M_findUseful_24 : decode qc_M_findUseful 24 = .ok (.ifCond .eq 141, 3) := by decide +kernel
theorem qd_M_findUseful_27 : decode qc_M_findUseful 27 = .ok (.iconst 0, 1) := by decide +kernel
theorem qd_M_findUseful_28 : decode qc_M_findUseful 28 = .ok (.istore_n 1, 1) := by decide +kernel
theorem qd_M_findUseful_29 : decode qc_M_findUseful 29 = .ok (.iconst 0, 1) := by decide +kernel
theorem qd_M_findUseful_30 : decode qc_M_findUseful 30 = .ok (.istore_n 2, 1) := by decide +kernel
theorem qd_M_findUseful_31 : decode qc_M_findUseful 31 = .ok (.iload_n 2, 1) := by decide +kernel
theorem qd_M_findUseful_32 : decode qc_M_findUseful 32 = .ok (.aload_n 0, 1) := by decide +kernel
theorem qd_M_findUseful_33 : decode qc_M_findUseful 33 = .ok (.getfield 51, 3) := by decide +kernel
theorem qd_M_findUseful_36 : decode qc_M_findUseful 36 = .ok (.if_icmp .ge 126, 3) := by decide +kernel
theorem qd_M_findUseful_39 : decode qc_M_findUseful 39 = .ok (.aload_n 0, 1) := by decide +kernel
theorem qd_M_findUseful_40 : decode qc_M_findUseful 40 = .ok (.aload_n 0, 1) := by decide +kernel
theorem qd_M_findUseful_41 : decode qc_M_findUseful 41 = .ok (.getfield 13, 3) := by decide +kernel
theorem qd_M_findUseful_44 : decode qc_M_findUseful 44 = .ok (.iconst 3, 1) := by decide +kernel
theorem qd_M_findUseful_45 : decode qc_M_findUseful 45 = .ok (.iload_n 2, 1) := by decide +kernel
theorem qd_M_findUseful_46 : decode qc_M_findUseful 46 = .ok (.imul, 1) := by decide +kernel
theorem qd_M_findUseful_47 : decode qc_M_findUseful 47 = .ok (.iaload, 1) := by decide +kernel
theorem qd_M_findUseful_48 : decode qc_M_findUseful 48 = .ok (.invokevirtual 157, 3) := by decide +kernel
theorem qd_M_findUseful_51 : decode qc_M_findUseful 51 = .ok (.ifCond .eq 41, 3) := by decide +kernel
theorem qd_M_findUseful_54 : decode qc_M_findUseful 54 = .ok (.aload_n 0, 1) := by decide +kernel
theorem qd_M_findUseful_55 : decode qc_M_findUseful 55 = .ok (.aload_n 0, 1) := by decide +kernel
theorem qd_M_findUseful_56 : decode qc_M_findUseful 56 = .ok (.getfield 13, 3) := by decide +kernel
theorem qd_M_findUseful_59 : decode qc_M_findUseful 59 = .ok (.iconst 3, 1) := by decide +kernel
theorem qd_M_findUseful_60 : decode qc_M_findUseful 60 = .ok (.iload_n 2, 1) := by decide +kernel
theorem qd_M_findUseful_61 : decode qc_M_findUseful 61 = .ok (.imul, 1) := by decide +kernel
theorem qd_M_findUseful_62 : decode qc_M_findUseful 62 = .ok (.iconst 1, 1) := by decide +kernel
theorem qd_M_findUseful_63 : decode qc_M_findUseful 63 = .ok (.iadd, 1) := by decide +kernel
theorem qd_M_findUseful_64 : decode qc_M_findUseful 64 = .ok (.iaload, 1) := by decide +kernel
theorem qd_M_findUseful_65 : decode qc_M_findUseful 65 = .ok (.invokevirtual 157, 3) := by decide +kernel
theorem qd_M_findUseful_68 : decode qc_M_findUseful 68 = .ok (.ifCond .eq 24, 3) := by decide +kernel
theorem qd_M_findUseful_71 : decode qc_M_findUseful 71 = .ok (.aload_n 0, 1) := by decide +kernel
theorem qd_M_findUseful_72 : decode qc_M_findUseful 72 = .ok (.aload_n 0, 1) := by decide +kernel
theorem qd_M_findUseful_73 : decode qc_M_findUseful 73 = .ok (.getfield 13, 3) := by decide +kernel
theorem qd_M_findUseful_76 : decode qc_M_findUseful 76 = .ok (.iconst 3, 1) := by decide +kernel
theorem qd_M_findUseful_77 : decode qc_M_findUseful 77 = .ok (.iload_n 2, 1) := by decide +kernel
theorem qd_M_findUseful_78 : decode qc_M_findUseful 78 = .ok (.imul, 1) := by decide +kernel
theorem qd_M_findUseful_79 : decode qc_M_findUseful 79 = .ok (.iconst 2, 1) := by decide +kernel
theorem qd_M_findUseful_80 : decode qc_M_findUseful 80 = .ok (.iadd, 1) := by decide +kernel
theorem qd_M_findUseful_81 : decode qc_M_findUseful 81 = .ok (.iaload, 1) := by decide +kernel
theorem qd_M_findUseful_82 : decode qc_M_findUseful 82 = .ok (.invokevirtual 157, 3) := by decide +kernel
theorem qd_M_findUseful_85 : decode qc_M_findUseful 85 = .ok (.ifCond .eq 7, 3) := by decide +kernel
theorem qd_M_findUseful_88 : decode qc_M_findUseful 88 = .ok (.iconst 1, 1) := by decide +kernel
theorem qd_M_findUseful_89 : decode qc_M_findUseful 89 = .ok (.goto 4, 3) := by decide +kernel
theorem qd_M_findUseful_92 : decode qc_M_findUseful 92 = .ok (.iconst 0, 1) := by decide +kernel
theorem qd_M_findUseful_93 : decode qc_M_findUseful 93 = .ok (.istore_n 3, 1) := by decide +kernel
theorem qd_M_findUseful_94 : decode qc_M_findUseful 94 = .ok (.iload_n 1, 1) := by decide +kernel
theorem qd_M_findUseful_95 : decode qc_M_findUseful 95 = .ok (.ifCond .ne 21, 3) := by decide +kernel
theorem qd_M_findUseful_98 : decode qc_M_findUseful 98 = .ok (.iload_n 3, 1) := by decide +kernel
theorem qd_M_findUseful_99 : decode qc_M_findUseful 99 = .ok (.ifCond .eq 21, 3) := by decide +kernel
theorem qd_M_findUseful_102 : decode qc_M_findUseful 102 = .ok (.aload_n 0, 1) := by decide +kernel
theorem qd_M_findUseful_103 : decode qc_M_findUseful 103 = .ok (.getfield 44, 3) := by decide +kernel
theorem qd_M_findUseful_106 : decode qc_M_findUseful 106 = .ok (.aload_n 0, 1) := by decide +kernel
theorem qd_M_findUseful_107 : decode qc_M_findUseful 107 = .ok (.getfield 7, 3) := by decide +kernel
theorem qd_M_findUseful_110 : decode qc_M_findUseful 110 = .ok (.iload_n 2, 1) := by decide +kernel
theorem qd_M_findUseful_111 : decode qc_M_findUseful 111 = .ok (.iaload, 1) := by decide +kernel
theorem qd_M_findUseful_112 : decode qc_M_findUseful 112 = .ok (.baload, 1) := by decide +kernel
theorem qd_M_findUseful_113 : decode qc_M_findUseful 113 = .ok (.ifCond .ne 7, 3) := by decide +kernel
theorem qd_M_findUseful_116 : decode qc_M_findUseful 116 = .ok (.iconst 1, 1) := by decide +kernel
theorem qd_M_findUseful_117 : decode qc_M_findUseful 117 = .ok (.goto 4, 3) := by decide +kernel
theorem qd_M_findUseful_120 : decode qc_M_findUseful 120 = .ok (.iconst 0, 1) := by decide +kernel
theorem qd_M_findUseful_121 : decode qc_M_findUseful 121 = .ok (.istore_n 1, 1) := by decide +kernel
theorem qd_M_findUseful_122 : decode qc_M_findUseful 122 = .ok (.aload_n 0, 1) := by decide +kernel
theorem qd_M_findUseful_123 : decode qc_M_findUseful 123 = .ok (.getfield 44, 3) := by decide +kernel
theorem qd_M_findUseful_126 : decode qc_M_findUseful 126 = .ok (.aload_n 0, 1) := by decide +kernel
theorem qd_M_findUseful_127 : decode qc_M_findUseful 127 = .ok (.getfield 7, 3) := by decide +kernel
theorem qd_M_findUseful_130 : decode qc_M_findUseful 130 = .ok (.iload_n 2, 1) := by decide +kernel
theorem qd_M_findUseful_131 : decode qc_M_findUseful 131 = .ok (.iaload, 1) := by decide +kernel
theorem qd_M_findUseful_132 : decode qc_M_findUseful 132 = .ok (.aload_n 0, 1) := by decide +kernel
theorem qd_M_findUseful_133 : decode qc_M_findUseful 133 = .ok (.getfield 44, 3) := by decide +kernel
theorem qd_M_findUseful_136 : decode qc_M_findUseful 136 = .ok (.aload_n 0, 1) := by decide +kernel
theorem qd_M_findUseful_137 : decode qc_M_findUseful 137 = .ok (.getfield 7, 3) := by decide +kernel
theorem qd_M_findUseful_140 : decode qc_M_findUseful 140 = .ok (.iload_n 2, 1) := by decide +kernel
theorem qd_M_findUseful_141 : decode qc_M_findUseful 141 = .ok (.iaload, 1) := by decide +kernel
theorem qd_M_findUseful_142 : decode qc_M_findUseful 142 = .ok (.baload, 1) := by decide +kernel
theorem qd_M_findUseful_143 : decode qc_M_findUseful 143 = .ok (.ifCond .ne 7, 3) := by decide +kernel
theorem qd_M_findUseful_146 : decode qc_M_findUseful 146 = .ok (.iload_n 3, 1) := by decide +kernel
theorem qd_M_findUseful_147 : decode qc_M_findUseful 147 = .ok (.ifCond .eq 7, 3) := by decide +kernel
theorem qd_M_findUseful_150 : decode qc_M_findUseful 150 = .ok (.iconst 1, 1) := by decide +kernel
theorem qd_M_findUseful_151 : decode qc_M_findUseful 151 = .ok (.goto 4, 3) := by decide +kernel
theorem qd_M_findUseful_154 : decode qc_M_findUseful 154 = .ok (.iconst 0, 1) := by decide +kernel
theorem qd_M_findUseful_155 : decode qc_M_findUseful 155 = .ok (.bastore, 1) := by decide +kernel
theorem qd_M_findUseful_156 : decode qc_M_findUseful 156 = .ok (.iinc 2 1, 3) := by decide +kernel
theorem qd_M_findUseful_159 : decode qc_M_findUseful 159 = .ok (.goto (-128), 3) := by decide +kernel
theorem qd_M_findUseful_162 : decode qc_M_findUseful 162 = .ok (.goto (-139), 3) := by decide +kernel
theorem qd_M_findUseful_165 : decode qc_M_findUseful 165 = .ok (.return_, 1) := by decide +kernel
set_option maxHeartbeats 4000000 in
set_option maxRecDepth 100000 in
theorem c_M_findUseful (l : Launch) (dC : Nat → ClassId) (dI : Nat → Nat → Nat) (cA cZ : ClassId) (N_ : Nat) (aM aMh aMi aMc aMt aMn aMl aMs aMd aMe aMo aMw aMu : Nat) (sz : Nat) (vMT : Int32) (vMP : Int32) (vMK : Int32) (vMB : Int32) (vMD : Int32) (vME : Int32) (vMO : Int32) (vMF : Int32) (vMS : Int32) (vMX : Int32) (vMW : Int32) (vMh : (Nat → Int32)) (vMi : (Nat → Int32)) (vMu : (Nat → Int32)) (ho : o_M_findUseful N_ vMP vMh vMi vMu) : Met l qy_M_findUseful qw_M_findUseful ({ frames := 1, cells := 0, slots := 0, locals := 21 }) (va_Pc [.ref aM] (fun U => U.heap.size = sz ∧ xP (dC, dI) [(cA, .int), (cZ, .boolean)] [(aM, .inr (7, [.int vMT, .int vMP, .ref aMh, .ref aMi, .ref aMc, .int vMK, .ref aMt, .int vMB, .ref aMn, .ref aMl, .ref aMs, .int vMD, .ref aMd, .int vME, .ref aMe, .int vMO, .ref aMo, .int vMF, .int vMS, .ref aMw, .ref aMu, .int vMX, .int vMW])), (aMh, .inl (cA, 24, .inl (vMh))), (aMi, .inl (cA, 72, .inl (vMi))), (aMu, .inl (cZ, 10, .inl (vMu)))] nestN U ∧ va_D (fun _ => True) [(aM, .inr (7, [.int vMT, .int vMP, .ref aMh, .ref aMi, .ref aMc, .int vMK, .ref aMt, .int vMB, .ref aMn, .ref aMl, .ref aMs, .int vMD, .ref aMd, .int vME, .ref aMe, .int vMO, .ref aMo, .int vMF, .int vMS, .ref aMw, .ref aMu, .int vMX, .int vMW])), (aMh, .inl (cA, 24, .inl (vMh))), (aMi, .inl (cA, 72, .inl (vMi))), (aMu, .inl (cZ, 10, .inl (vMu)))])) (va_Qv (fun u => u = f_M_findUseful N_ vMP vMh vMi vMu) (fun (u : (Nat → Int32)) t => xP (dC, dI) [(cA, .int), (cZ, .boolean)] [(aM, .inr (7, [.int vMT, .int vMP, .ref aMh, .ref aMi, .ref aMc, .int vMK, .ref aMt, .int vMB, .ref aMn, .ref aMl, .ref aMs, .int vMD, .ref aMd, .int vME, .ref aMe, .int vMO, .ref aMo, .int vMF, .int vMS, .ref aMw, .ref aMu, .int vMX, .int vMW])), (aMh, .inl (cA, 24, .inl (vMh))), (aMi, .inl (cA, 72, .inl (vMi))), (aMu, .inl (cZ, 10, .inl (u)))] nestN t ∧ va_D (va_A [(aM, .inr (7, [.int vMT, .int vMP, .ref aMh, .ref aMi, .ref aMc, .int vMK, .ref aMt, .int vMB, .ref aMn, .ref aMl, .ref aMs, .int vMD, .ref aMd, .int vME, .ref aMe, .int vMO, .ref aMo, .int vMF, .int vMS, .ref aMw, .ref aMu, .int vMX, .int vMW])), (aMh, .inl (cA, 24, .inl (vMh))), (aMi, .inl (cA, 72, .inl (vMi))), (aMu, .inl (cZ, 10, .inl (vMu)))] sz) [(aM, .inr (7, [.int vMT, .int vMP, .ref aMh, .ref aMi, .ref aMc, .int vMK, .ref aMt, .int vMB, .ref aMn, .ref aMl, .ref aMs, .int vMD, .ref aMd, .int vME, .ref aMe, .int vMO, .ref aMo, .int vMF, .int vMS, .ref aMw, .ref aMu, .int vMX, .int vMW])), (aMh, .inl (cA, 24, .inl (vMh))), (aMi, .inl (cA, 72, .inl (vMi))), (aMu, .inl (cZ, 10, .inl (u)))]) (va_A [(aM, .inr (7, [.int vMT, .int vMP, .ref aMh, .ref aMi, .ref aMc, .int vMK, .ref aMt, .int vMB, .ref aMn, .ref aMl, .ref aMs, .int vMD, .ref aMd, .int vME, .ref aMe, .int vMO, .ref aMo, .int vMF, .int vMS, .ref aMw, .ref aMu, .int vMX, .int vMW])), (aMh, .inl (cA, 24, .inl (vMh))), (aMi, .inl (cA, 72, .inl (vMi))), (aMu, .inl (cZ, 10, .inl (vMu)))] sz)) 0 0 (va_A [(aM, .inr (7, [.int vMT, .int vMP, .ref aMh, .ref aMi, .ref aMc, .int vMK, .ref aMt, .int vMB, .ref aMn, .ref aMl, .ref aMs, .int vMD, .ref aMd, .int vME, .ref aMe, .int vMO, .ref aMo, .int vMF, .int vMS, .ref aMw, .ref aMu, .int vMX, .int vMW])), (aMh, .inl (cA, 24, .inl (vMh))), (aMi, .inl (cA, 72, .inl (vMi))), (aMu, .inl (cZ, 10, .inl (vMu)))] sz) := by
  refine Met.ofW (cc := qc_M_findUseful) (maxL := 4) (ret := (none)) (by decide) rfl ?_
  intro p e s m args below meth c s₁ B hml hv
  obtain ⟨rfl, hsz, ⟨hP, hK, hN⟩, hD0⟩ := hv
  have hx := B.exec
  have hb := B.bytes
  have hr := B.returns
  have hts := atoms_spec (ws := qw_M_findUseful) B.pre
  have hg : ∀ w ∈ gG, w.before _ s = true := fun w h => hts w (List.mem_cons_of_mem _ h)
  have hown : s.vm.findClass qR_M = some m.cls := findClass_of_methodNamed B.named
  have hlocks := B.notSynchronized
  subst hsz
  have hD := hD0.self (sz := s.heap.size)
  generalize hAe : va_A [(aM, .inr (7, [.int vMT, .int vMP, .ref aMh, .ref aMi, .ref aMc, .int vMK, .ref aMt, .int vMB, .ref aMn, .ref aMl, .ref aMs, .int vMD, .ref aMd, .int vME, .ref aMe, .int vMO, .ref aMo, .int vMF, .int vMS, .ref aMw, .ref aMu, .int vMX, .int vMW])), (aMh, .inl (cA, 24, .inl (vMh))), (aMi, .inl (cA, 72, .inl (vMi))), (aMu, .inl (cZ, 10, .inl (vMu)))] s.heap.size = A at hD ⊢
  have hA : ∀ q : Nat, s.heap.size ≤ q → A q := fun q h => by rw [← hAe]; exact Or.inr h
  have hS : va_S A s.heap s.heap [] := va_S.rf
  have hP : va_P (dC, dI) vwCl [(aM, .inr (7, [.int vMT, .int vMP, .ref aMh, .ref aMi, .ref aMc, .int vMK, .ref aMt, .int vMB, .ref aMn, .ref aMl, .ref aMs, .int vMD, .ref aMd, .int vME, .ref aMe, .int vMO, .ref aMo, .int vMF, .int vMS, .ref aMw, .ref aMu, .int vMX, .int vMW])), (aMh, .inl (cA, 24, .inl (vMh))), (aMi, .inl (cA, 72, .inl (vMi))), (aMu, .inl (cZ, 10, .inl (vMu)))] s.heap := hP
  have hl := lv_entry ([.ref aM]) (n := 4) (Nat.le_of_ble_eq_true rfl)
  rw [lg_entry_eq]
  generalize (lg_sl ([.ref aM]) ++ List.replicate (4 - (lg_sl ([.ref aM])).length) Slot.unset).toArray = ls at hl ⊢
  have hl : lv_has ls 4 [(0, .ref aM)] := hl
  generalize hF : f_M_findUseful N_ vMP vMh vMi vMu = Fv
  have hres : Fv = f_M_findUseful N_ vMP vMh vMi vMu := hF.symm
  unfold f_M_findUseful at hres
  unfold o_M_findUseful at ho
  generalize hQ : MQ _ _ _ _ _ _ _ = Qg
  refine lv_iconst (v := 0) hx hb qd_M_findUseful_0 (by decide) ?_
  refine lv_istore_n (lv' := [(1, .int 0), (0, .ref aM)]) hx hb qd_M_findUseful_1 rfl hl (by decide) rfl (fun ls hl => ?_)
  have L_2 : ∀ (K_ : Int32 → (Nat → Int32) → (Nat → Int32)) (Ko_ : Int32 → (Nat → Int32) → Prop) (hk : ∀ (x1_2 : Int32) (vMu_2 : (Nat → Int32)) (H : Heap) (locs : List Loc) (ls : Array Slot), va_P (dC, dI) vwCl [(aM, .inr (7, [.int vMT, .int vMP, .ref aMh, .ref aMi, .ref aMc, .int vMK, .ref aMt, .int vMB, .ref aMn, .ref aMl, .ref aMs, .int vMD, .ref aMd, .int vME, .ref aMe, .int vMO, .ref aMo, .int vMF, .int vMS, .ref aMw, .ref aMu, .int vMX, .int vMW])), (aMh, .inl (cA, 24, .inl (vMh))), (aMi, .inl (cA, 72, .inl (vMi))), (aMu, .inl (cZ, 10, .inl (vMu_2)))] H → va_D A [(aM, .inr (7, [.int vMT, .int vMP, .ref aMh, .ref aMi, .ref aMc, .int vMK, .ref aMt, .int vMB, .ref aMn, .ref aMl, .ref aMs, .int vMD, .ref aMd, .int vME, .ref aMe, .int vMO, .ref aMo, .int vMF, .int vMS, .ref aMw, .ref aMu, .int vMX, .int vMW])), (aMh, .inl (cA, 24, .inl (vMh))), (aMi, .inl (cA, 72, .inl (vMi))), (aMu, .inl (cZ, 10, .inl (vMu_2)))] → va_S A s.heap H locs → lv_has ls 4 [(1, .int x1_2), (0, .ref aM)] → Fv = K_ x1_2 vMu_2 → Ko_ x1_2 vMu_2 → W p l e ({ frames := 1, cells := 0, slots := 0, locals := 21 } : Room) s m (([.ref aM] : List Value).toArray) below meth c H locs 0 0 Qg (F0 m 21 ls [])) (n : Nat) (x1_2 : Int32) (vMu_2 : (Nat → Int32)) (H : Heap) (locs : List Loc) (ls : Array Slot), va_P (dC, dI) vwCl [(aM, .inr (7, [.int vMT, .int vMP, .ref aMh, .ref aMi, .ref aMc, .int vMK, .ref aMt, .int vMB, .ref aMn, .ref aMl, .ref aMs, .int vMD, .ref aMd, .int vME, .ref aMe, .int vMO, .ref aMo, .int vMF, .int vMS, .ref aMw, .ref aMu, .int vMX, .int vMW])), (aMh, .inl (cA, 24, .inl (vMh))), (aMi, .inl (cA, 72, .inl (vMi))), (aMu, .inl (cZ, 10, .inl (vMu_2)))] H → va_D A [(aM, .inr (7, [.int vMT, .int vMP, .ref aMh, .ref aMi, .ref aMc, .int vMK, .ref aMt, .int vMB, .ref aMn, .ref aMl, .ref aMs, .int vMD, .ref aMd, .int vME, .ref aMe, .int vMO, .ref aMo, .int vMF, .int vMS, .ref aMw, .ref aMu, .int vMX, .int vMW])), (aMh, .inl (cA, 24, .inl (vMh))), (aMi, .inl (cA, 72, .inl (vMi))), (aMu, .inl (cZ, 10, .inl (vMu_2)))] → va_S A s.heap H locs → lv_has ls 4 [(1, .int x1_2), (0, .ref aM)] → Fv = l_M_findUseful_2 K_ n x1_2 vMu_2 → ol_M_findUseful_2 Ko_ n x1_2 vMu_2 → W p l e ({ frames := 1, cells := 0, slots := 0, locals := 21 } : Room) s m (([.ref aM] : List Value).toArray) below meth c H locs 0 0 Qg (F0 m 2 ls []) := by
    intro K_ Ko_ hk n
    induction n with
    | zero => intro x1_2 vMu_2 H locs ls hP hD hS hl hres ho; exact ho.elim
    | succ n ih =>
      intro x1_2 vMu_2 H locs ls hP hD hS hl hres ho
      rw [l_M_findUseful_2, s_M_findUseful_2] at hres
      rw [ol_M_findUseful_2, os_M_findUseful_2] at ho
      refine lv_iload_n hx hb qd_M_findUseful_2 rfl (lv_at hl 0 rfl) ?_
      refine lv_bipush (v := 10) hx hb qd_M_findUseful_3 (by decide) ?_
      refine lv_icmp_ge (tgt := 21) hx hb qd_M_findUseful_5 (by decide) (fun c_5 => ?_) (fun c_5 => ?_)
      · have hres := hres.trans (if_pos c_5)
        have ho := (if_pos c_5).mp ho
        exact hk x1_2 vMu_2 H locs ls hP hD hS (lv_sub hl [0, 1] rfl) hres ho
      have hres := hres.trans (if_neg c_5)
      have ho := (if_neg c_5).mp ho
      refine lv_aload_n hx hb qd_M_findUseful_8 rfl (lv_at hl 1 rfl) ?_
      refine va_get (D := (dC, dI)) (ci := 7) (v := .ref aMu) (C := qR_M) (T := qT_M) (N := 23) hx hb hg qi_M hown hK hP 0 rfl rfl 20 (by decide) (hg _ mw_594) (fun _ h9 => h9) rfl qd_M_findUseful_9 ?_
      refine lv_iload_n hx hb qd_M_findUseful_12 rfl (lv_at hl 0 rfl) ?_
      refine lv_iconst (v := 0) hx hb qd_M_findUseful_13 (by decide) ?_
      obtain ⟨g_14, ho⟩ := ho
      refine va_zast hx hb hK hP hD hS 3 1 rfl rfl g_14 qd_M_findUseful_14 (fun H locs hP hD hS => ?_)
      have hP : va_P (dC, dI) vwCl [(aM, .inr (7, [.int vMT, .int vMP, .ref aMh, .ref aMi, .ref aMc, .int vMK, .ref aMt, .int vMB, .ref aMn, .ref aMl, .ref aMs, .int vMD, .ref aMd, .int vME, .ref aMe, .int vMO, .ref aMo, .int vMF, .int vMS, .ref aMw, .ref aMu, .int vMX, .int vMW])), (aMh, .inl (cA, 24, .inl (vMh))), (aMi, .inl (cA, 72, .inl (vMi))), (aMu, .inl (cZ, 10, .inl (upd vMu_2 x1_2.toNatClampNeg (vp_nar .boolean 0))))] H := hP
      have hD : va_D A [(aM, .inr (7, [.int vMT, .int vMP, .ref aMh, .ref aMi, .ref aMc, .int vMK, .ref aMt, .int vMB, .ref aMn, .ref aMl, .ref aMs, .int vMD, .ref aMd, .int vME, .ref aMe, .int vMO, .ref aMo, .int vMF, .int vMS, .ref aMw, .ref aMu, .int vMX, .int vMW])), (aMh, .inl (cA, 24, .inl (vMh))), (aMi, .inl (cA, 72, .inl (vMi))), (aMu, .inl (cZ, 10, .inl (upd vMu_2 x1_2.toNatClampNeg (vp_nar .boolean 0))))] := hD
      refine lv_iinc (v := x1_2 + 1) (lv' := [(1, .int (x1_2 + 1)), (0, .ref aM)]) hx hb qd_M_findUseful_15 hl (k := 0) rfl (congrArg (fun z => _ + z) (by decide)) (by decide) rfl (fun ls hl => ?_)
      refine lv_goto (tgt := 2) hx hb qd_M_findUseful_18 (by decide) ?_
      exact ih (x1_2 + 1) (upd vMu_2 x1_2.toNatClampNeg (vp_nar .boolean 0)) H locs ls hP hD hS (lv_sub hl [0, 1] rfl) hres ho
  refine L_2 _ _ (fun x1_2 vMu_2 H locs ls hP hD hS hl hres ho => ?_) _ _ _ _ _ ls hP hD hS hl hres ho
  refine lv_iconst (v := 1) hx hb qd_M_findUseful_21 (by decide) ?_
  refine lv_istore_n (lv' := [(1, .int 1), (0, .ref aM)]) hx hb qd_M_findUseful_22 rfl hl (by decide) rfl (fun ls hl => ?_)
  have L_23 : ∀ (K_ : Int32 → (Nat → Int32) → (Nat → Int32)) (Ko_ : Int32 → (Nat → Int32) → Prop) (hk : ∀ (x1_23 : Int32) (vMu_23 : (Nat → Int32)) (H : Heap) (locs : List Loc) (ls : Array Slot), va_P (dC, dI) vwCl [(aM, .inr (7, [.int vMT, .int vMP, .ref aMh, .ref aMi, .ref aMc, .int vMK, .ref aMt, .int vMB, .ref aMn, .ref aMl, .ref aMs, .int vMD, .ref aMd, .int vME, .ref aMe, .int vMO, .ref aMo, .int vMF, .int vMS, .ref aMw, .ref aMu, .int vMX, .int vMW])), (aMh, .inl (cA, 24, .inl (vMh))), (aMi, .inl (cA, 72, .inl (vMi))), (aMu, .inl (cZ, 10, .inl (vMu_23)))] H → va_D A [(aM, .inr (7, [.int vMT, .int vMP, .ref aMh, .ref aMi, .ref aMc, .int vMK, .ref aMt, .int vMB, .ref aMn, .ref aMl, .ref aMs, .int vMD, .ref aMd, .int vME, .ref aMe, .int vMO, .ref aMo, .int vMF, .int vMS, .ref aMw, .ref aMu, .int vMX, .int vMW])), (aMh, .inl (cA, 24, .inl (vMh))), (aMi, .inl (cA, 72, .inl (vMi))), (aMu, .inl (cZ, 10, .inl (vMu_23)))] → va_S A s.heap H locs → lv_has ls 4 [(1, .int x1_23), (0, .ref aM)] → Fv = K_ x1_23 vMu_23 → Ko_ x1_23 vMu_23 → W p l e ({ frames := 1, cells := 0, slots := 0, locals := 21 } : Room) s m (([.ref aM] : List Value).toArray) below meth c H locs 0 0 Qg (F0 m 165 ls [])) (n : Nat) (x1_23 : Int32) (vMu_23 : (Nat → Int32)) (H : Heap) (locs : List Loc) (ls : Array Slot), va_P (dC, dI) vwCl [(aM, .inr (7, [.int vMT, .int vMP, .ref aMh, .ref aMi, .ref aMc, .int vMK, .ref aMt, .int vMB, .ref aMn, .ref aMl, .ref aMs, .int vMD, .ref aMd, .int vME, .ref aMe, .int vMO, .ref aMo, .int vMF, .int vMS, .ref aMw, .ref aMu, .int vMX, .int vMW])), (aMh, .inl (cA, 24, .inl (vMh))), (aMi, .inl (cA, 72, .inl (vMi))), (aMu, .inl (cZ, 10, .inl (vMu_23)))] H → va_D A [(aM, .inr (7, [.int vMT, .int vMP, .ref aMh, .ref aMi, .ref aMc, .int vMK, .ref aMt, .int vMB, .ref aMn, .ref aMl, .ref aMs, .int vMD, .ref aMd, .int vME, .ref aMe, .int vMO, .ref aMo, .int vMF, .int vMS, .ref aMw, .ref aMu, .int vMX, .int vMW])), (aMh, .inl (cA, 24, .inl (vMh))), (aMi, .inl (cA, 72, .inl (vMi))), (aMu, .inl (cZ, 10, .inl (vMu_23)))] → va_S A s.heap H locs → lv_has ls 4 [(1, .int x1_23), (0, .ref aM)] → Fv = l_M_findUseful_23 N_ vMP vMh vMi K_ n x1_23 vMu_23 → ol_M_findUseful_23 N_ vMP vMh vMi Ko_ n x1_23 vMu_23 → W p l e ({ frames := 1, cells := 0, slots := 0, locals := 21 } : Room) s m (([.ref aM] : List Value).toArray) below meth c H locs 0 0 Qg (F0 m 23 ls []) := by
    intro K_ Ko_ hk n
    induction n with
    | zero => intro x1_23 vMu_23 H locs ls hP hD hS hl hres ho; exact ho.elim
    | succ n ih =>
      intro x1_23 vMu_23 H locs ls hP hD hS hl hres ho
      rw [l_M_findUseful_23, s_M_findUseful_23] at hres
      rw [ol_M_findUseful_23, os_M_findUseful_23] at ho
      refine lv_iload_n hx hb qd_M_findUseful_23 rfl (lv_at hl 0 rfl) ?_
      refine lv_if_eq (tgt := 165) hx hb qd_M_findUseful_24 (by decide) (fun c_24 => ?_) (fun c_24 => ?_)
      · have hres := hres.trans (if_pos c_24)
        have ho := (if_pos c_24).mp ho
        exact hk x1_23 vMu_23 H locs ls hP hD hS (lv_sub hl [0, 1] rfl) hres ho
      have hres := hres.trans (if_neg c_24)
      have ho := (if_neg c_24).mp ho
      refine lv_iconst (v := 0) hx hb qd_M_findUseful_27 (by decide) ?_
      refine lv_istore_n (lv' := [(1, .int 0), (0, .ref aM)]) hx hb qd_M_findUseful_28 rfl hl (by decide) rfl (fun ls hl => ?_)
      refine lv_iconst (v := 0) hx hb qd_M_findUseful_29 (by decide) ?_
      refine lv_istore_n (lv' := [(2, .int 0), (1, .int 0), (0, .ref aM)]) hx hb qd_M_findUseful_30 rfl hl (by decide) rfl (fun ls hl => ?_)
      have L_31 : ∀ (K_ : Int32 → Int32 → (Nat → Int32) → (Nat → Int32)) (Ko_ : Int32 → Int32 → (Nat → Int32) → Prop) (hk : ∀ (x1_31 : Int32) (x2_31 : Int32) (vMu_31 : (Nat → Int32)) (H : Heap) (locs : List Loc) (ls : Array Slot), va_P (dC, dI) vwCl [(aM, .inr (7, [.int vMT, .int vMP, .ref aMh, .ref aMi, .ref aMc, .int vMK, .ref aMt, .int vMB, .ref aMn, .ref aMl, .ref aMs, .int vMD, .ref aMd, .int vME, .ref aMe, .int vMO, .ref aMo, .int vMF, .int vMS, .ref aMw, .ref aMu, .int vMX, .int vMW])), (aMh, .inl (cA, 24, .inl (vMh))), (aMi, .inl (cA, 72, .inl (vMi))), (aMu, .inl (cZ, 10, .inl (vMu_31)))] H → va_D A [(aM, .inr (7, [.int vMT, .int vMP, .ref aMh, .ref aMi, .ref aMc, .int vMK, .ref aMt, .int vMB, .ref aMn, .ref aMl, .ref aMs, .int vMD, .ref aMd, .int vME, .ref aMe, .int vMO, .ref aMo, .int vMF, .int vMS, .ref aMw, .ref aMu, .int vMX, .int vMW])), (aMh, .inl (cA, 24, .inl (vMh))), (aMi, .inl (cA, 72, .inl (vMi))), (aMu, .inl (cZ, 10, .inl (vMu_31)))] → va_S A s.heap H locs → lv_has ls 4 [(2, .int x2_31), (1, .int x1_31), (0, .ref aM)] → Fv = K_ x1_31 x2_31 vMu_31 → Ko_ x1_31 x2_31 vMu_31 → W p l e ({ frames := 1, cells := 0, slots := 0, locals := 21 } : Room) s m (([.ref aM] : List Value).toArray) below meth c H locs 0 0 Qg (F0 m 162 ls [])) (n : Nat) (x1_31 : Int32) (x2_31 : Int32) (vMu_31 : (Nat → Int32)) (H : Heap) (locs : List Loc) (ls : Array Slot), va_P (dC, dI) vwCl [(aM, .inr (7, [.int vMT, .int vMP, .ref aMh, .ref aMi, .ref aMc, .int vMK, .ref aMt, .int vMB, .ref aMn, .ref aMl, .ref aMs, .int vMD, .ref aMd, .int vME, .ref aMe, .int vMO, .ref aMo, .int vMF, .int vMS, .ref aMw, .ref aMu, .int vMX, .int vMW])), (aMh, .inl (cA, 24, .inl (vMh))), (aMi, .inl (cA, 72, .inl (vMi))), (aMu, .inl (cZ, 10, .inl (vMu_31)))] H → va_D A [(aM, .inr (7, [.int vMT, .int vMP, .ref aMh, .ref aMi, .ref aMc, .int vMK, .ref aMt, .int vMB, .ref aMn, .ref aMl, .ref aMs, .int vMD, .ref aMd, .int vME, .ref aMe, .int vMO, .ref aMo, .int vMF, .int vMS, .ref aMw, .ref aMu, .int vMX, .int vMW])), (aMh, .inl (cA, 24, .inl (vMh))), (aMi, .inl (cA, 72, .inl (vMi))), (aMu, .inl (cZ, 10, .inl (vMu_31)))] → va_S A s.heap H locs → lv_has ls 4 [(2, .int x2_31), (1, .int x1_31), (0, .ref aM)] → Fv = l_M_findUseful_31 vMP vMh vMi K_ n x1_31 x2_31 vMu_31 → ol_M_findUseful_31 vMP vMh vMi Ko_ n x1_31 x2_31 vMu_31 → W p l e ({ frames := 1, cells := 0, slots := 0, locals := 21 } : Room) s m (([.ref aM] : List Value).toArray) below meth c H locs 0 0 Qg (F0 m 31 ls []) := by
        intro K_ Ko_ hk n
        induction n with
        | zero => intro x1_31 x2_31 vMu_31 H locs ls hP hD hS hl hres ho; exact ho.elim
        | succ n ih =>
          intro x1_31 x2_31 vMu_31 H locs ls hP hD hS hl hres ho
          rw [l_M_findUseful_31, s_M_findUseful_31] at hres
          rw [ol_M_findUseful_31, os_M_findUseful_31] at ho
          refine lv_iload_n hx hb qd_M_findUseful_31 rfl (lv_at hl 0 rfl) ?_
          refine lv_aload_n hx hb qd_M_findUseful_32 rfl (lv_at hl 2 rfl) ?_
          refine va_get (D := (dC, dI)) (ci := 7) (v := .int vMP) (C := qR_M) (T := qT_M) (N := 23) hx hb hg qi_M hown hK hP 0 rfl rfl 1 (by decide) (hg _ mw_575) (fun _ h9 => h9) rfl qd_M_findUseful_33 ?_
          refine lv_icmp_ge (tgt := 162) hx hb qd_M_findUseful_36 (by decide) (fun c_36 => ?_) (fun c_36 => ?_)
          · have hres := hres.trans (if_pos c_36)
            have ho := (if_pos c_36).mp ho
            exact hk x1_31 x2_31 vMu_31 H locs ls hP hD hS (lv_sub hl [0, 1, 2] rfl) hres ho
          have hres := hres.trans (if_neg c_36)
          have ho := (if_neg c_36).mp ho
          refine lv_aload_n hx hb qd_M_findUseful_39 rfl (lv_at hl 2 rfl) ?_
          refine lv_aload_n hx hb qd_M_findUseful_40 rfl (lv_at hl 2 rfl) ?_
          refine va_get (D := (dC, dI)) (ci := 7) (v := .ref aMi) (C := qR_M) (T := qT_M) (N := 23) hx hb hg qi_M hown hK hP 0 rfl rfl 3 (by decide) (hg _ mw_577) (fun _ h9 => h9) rfl qd_M_findUseful_41 ?_
          refine lv_iconst (v := 3) hx hb qd_M_findUseful_44 (by decide) ?_
          refine lv_iload_n hx hb qd_M_findUseful_45 rfl (lv_at hl 0 rfl) ?_
          refine lv_imul hx hb qd_M_findUseful_46 ?_
          obtain ⟨g_47, ho⟩ := ho
          refine va_iald hx hb hK hP 2 0 rfl rfl g_47 qd_M_findUseful_47 ?_
          obtain ⟨g_48, ho⟩ := ho
          refine xc_V (As := [.int (vMi (3 * x2_31).toNatClampNeg)]) (rest := []) ⟨hx, hb, hml, hown, hg⟩ (c_M_isUseful l dC dI cA cZ aM aMh aMi aMc aMt aMn aMl aMs aMd aMe aMo aMw aMu vMT vMP vMK vMB vMD vME vMO vMF vMS vMX vMW vMu_31 (vMi (3 * x2_31).toNatClampNeg) g_48) (cwV 1 hg (q_gV mw_734 mw_735 mw_787 mw_8 mw_736) rfl rfl rfl qh_M_isUseful ⟨Nat.le_of_ble_eq_true rfl, Nat.le_of_ble_eq_true rfl⟩) hN hK hP [0, 3] rfl 0 7 rfl rfl rfl hl.1 rfl (Nat.le_of_ble_eq_true rfl) qd_M_findUseful_48 ⟨Nat.zero_le _, Nat.zero_le _⟩ ?_
          refine lv_topi (fun r_48 w_48 => ?_)
          have hres := hres.trans (bd_eq w_48)
          have ho := (bd_eq w_48).mp ho
          refine lv_if_eq (tgt := 92) hx hb qd_M_findUseful_51 (by decide) (fun c_51 => ?_) (fun c_51 => ?_)
          · have hres := hres.trans (if_pos c_51)
            have ho := (if_pos c_51).mp ho
            refine lv_iconst (v := 0) hx hb qd_M_findUseful_92 (by decide) ?_
            refine lv_istore_n (lv' := [(3, .int 0), (2, .int x2_31), (1, .int x1_31), (0, .ref aM)]) hx hb qd_M_findUseful_93 rfl hl (by decide) rfl (fun ls hl => ?_)
            refine lv_iload_n hx hb qd_M_findUseful_94 rfl (lv_at hl 2 rfl) ?_
            refine lv_if_ne (tgt := 116) hx hb qd_M_findUseful_95 (by decide) (fun c_95 => ?_) (fun c_95 => ?_)
            · have hres := hres.trans (if_neg c_95)
              have ho := (if_neg c_95).mp ho
              refine lv_iconst (v := 1) hx hb qd_M_findUseful_116 (by decide) ?_
              refine lv_goto (tgt := 121) hx hb qd_M_findUseful_117 (by decide) ?_
              refine lv_istore_n (lv' := [(1, .int 1), (3, .int 0), (2, .int x2_31), (0, .ref aM)]) hx hb qd_M_findUseful_121 rfl hl (by decide) rfl (fun ls hl => ?_)
              refine lv_aload_n hx hb qd_M_findUseful_122 rfl (lv_at hl 3 rfl) ?_
              refine va_get (D := (dC, dI)) (ci := 7) (v := .ref aMu) (C := qR_M) (T := qT_M) (N := 23) hx hb hg qi_M hown hK hP 0 rfl rfl 20 (by decide) (hg _ mw_594) (fun _ h9 => h9) rfl qd_M_findUseful_123 ?_
              refine lv_aload_n hx hb qd_M_findUseful_126 rfl (lv_at hl 3 rfl) ?_
              refine va_get (D := (dC, dI)) (ci := 7) (v := .ref aMh) (C := qR_M) (T := qT_M) (N := 23) hx hb hg qi_M hown hK hP 0 rfl rfl 2 (by decide) (hg _ mw_576) (fun _ h9 => h9) rfl qd_M_findUseful_127 ?_
              refine lv_iload_n hx hb qd_M_findUseful_130 rfl (lv_at hl 2 rfl) ?_
              obtain ⟨g_131, ho⟩ := ho
              refine va_iald hx hb hK hP 1 0 rfl rfl g_131 qd_M_findUseful_131 ?_
              refine lv_aload_n hx hb qd_M_findUseful_132 rfl (lv_at hl 3 rfl) ?_
              refine va_get (D := (dC, dI)) (ci := 7) (v := .ref aMu) (C := qR_M) (T := qT_M) (N := 23) hx hb hg qi_M hown hK hP 0 rfl rfl 20 (by decide) (hg _ mw_594) (fun _ h9 => h9) rfl qd_M_findUseful_133 ?_
              refine lv_aload_n hx hb qd_M_findUseful_136 rfl (lv_at hl 3 rfl) ?_
              refine va_get (D := (dC, dI)) (ci := 7) (v := .ref aMh) (C := qR_M) (T := qT_M) (N := 23) hx hb hg qi_M hown hK hP 0 rfl rfl 2 (by decide) (hg _ mw_576) (fun _ h9 => h9) rfl qd_M_findUseful_137 ?_
              refine lv_iload_n hx hb qd_M_findUseful_140 rfl (lv_at hl 2 rfl) ?_
              obtain ⟨g_141, ho⟩ := ho
              refine va_iald hx hb hK hP 1 0 rfl rfl g_141 qd_M_findUseful_141 ?_
              obtain ⟨g_142, ho⟩ := ho
              refine va_zald hx hb hK hP 3 1 rfl rfl g_142 qd_M_findUseful_142 ?_
              refine lv_if_ne (tgt := 150) hx hb qd_M_findUseful_143 (by decide) (fun c_143 => ?_) (fun c_143 => ?_)
              · have hres := hres.trans (if_neg c_143)
                have ho := (if_neg c_143).mp ho
                refine lv_iconst (v := 1) hx hb qd_M_findUseful_150 (by decide) ?_
                refine lv_goto (tgt := 155) hx hb qd_M_findUseful_151 (by decide) ?_
                obtain ⟨g_155, ho⟩ := ho
                refine va_zast hx hb hK hP hD hS 3 1 rfl rfl g_155 qd_M_findUseful_155 (fun H locs hP hD hS => ?_)
                have hP : va_P (dC, dI) vwCl [(aM, .inr (7, [.int vMT, .int vMP, .ref aMh, .ref aMi, .ref aMc, .int vMK, .ref aMt, .int vMB, .ref aMn, .ref aMl, .ref aMs, .int vMD, .ref aMd, .int vME, .ref aMe, .int vMO, .ref aMo, .int vMF, .int vMS, .ref aMw, .ref aMu, .int vMX, .int vMW])), (aMh, .inl (cA, 24, .inl (vMh))), (aMi, .inl (cA, 72, .inl (vMi))), (aMu, .inl (cZ, 10, .inl (upd vMu_31 (vMh x2_31.toNatClampNeg).toNatClampNeg (vp_nar .boolean 1))))] H := hP
                have hD : va_D A [(aM, .inr (7, [.int vMT, .int vMP, .ref aMh, .ref aMi, .ref aMc, .int vMK, .ref aMt, .int vMB, .ref aMn, .ref aMl, .ref aMs, .int vMD, .ref aMd, .int vME, .ref aMe, .int vMO, .ref aMo, .int vMF, .int vMS, .ref aMw, .ref aMu, .int vMX, .int vMW])), (aMh, .inl (cA, 24, .inl (vMh))), (aMi, .inl (cA, 72, .inl (vMi))), (aMu, .inl (cZ, 10, .inl (upd vMu_31 (vMh x2_31.toNatClampNeg).toNatClampNeg (vp_nar .boolean 1))))] := hD
                refine lv_iinc (v := x2_31 + 1) (lv' := [(2, .int (x2_31 + 1)), (1, .int 1), (3, .int 0), (0, .ref aM)]) hx hb qd_M_findUseful_156 hl (k := 2) rfl (congrArg (fun z => _ + z) (by decide)) (by decide) rfl (fun ls hl => ?_)
                refine lv_goto (tgt := 31) hx hb qd_M_findUseful_159 (by decide) ?_
                exact ih 1 (x2_31 + 1) (upd vMu_31 (vMh x2_31.toNatClampNeg).toNatClampNeg (vp_nar .boolean 1)) H locs ls hP hD hS (lv_sub hl [0, 1, 3] rfl) hres ho
              have hres := hres.trans (if_pos c_143)
              have ho := (if_pos c_143).mp ho
              refine lv_iload_n hx hb qd_M_findUseful_146 rfl (lv_at hl 1 rfl) ?_
              refine lv_if_eq (tgt := 154) hx hb qd_M_findUseful_147 (by decide) (fun c_147 => ?_) (fun c_147 => ?_)
              rotate_left
              · exact absurd (by decide) c_147
              refine lv_iconst (v := 0) hx hb qd_M_findUseful_154 (by decide) ?_
              obtain ⟨g_155, ho⟩ := ho
              refine va_zast hx hb hK hP hD hS 3 1 rfl rfl g_155 qd_M_findUseful_155 (fun H locs hP hD hS => ?_)
              have hP : va_P (dC, dI) vwCl [(aM, .inr (7, [.int vMT, .int vMP, .ref aMh, .ref aMi, .ref aMc, .int vMK, .ref aMt, .int vMB, .ref aMn, .ref aMl, .ref aMs, .int vMD, .ref aMd, .int vME, .ref aMe, .int vMO, .ref aMo, .int vMF, .int vMS, .ref aMw, .ref aMu, .int vMX, .int vMW])), (aMh, .inl (cA, 24, .inl (vMh))), (aMi, .inl (cA, 72, .inl (vMi))), (aMu, .inl (cZ, 10, .inl (upd vMu_31 (vMh x2_31.toNatClampNeg).toNatClampNeg (vp_nar .boolean 0))))] H := hP
              have hD : va_D A [(aM, .inr (7, [.int vMT, .int vMP, .ref aMh, .ref aMi, .ref aMc, .int vMK, .ref aMt, .int vMB, .ref aMn, .ref aMl, .ref aMs, .int vMD, .ref aMd, .int vME, .ref aMe, .int vMO, .ref aMo, .int vMF, .int vMS, .ref aMw, .ref aMu, .int vMX, .int vMW])), (aMh, .inl (cA, 24, .inl (vMh))), (aMi, .inl (cA, 72, .inl (vMi))), (aMu, .inl (cZ, 10, .inl (upd vMu_31 (vMh x2_31.toNatClampNeg).toNatClampNeg (vp_nar .boolean 0))))] := hD
              refine lv_iinc (v := x2_31 + 1) (lv' := [(2, .int (x2_31 + 1)), (1, .int 1), (3, .int 0), (0, .ref aM)]) hx hb qd_M_findUseful_156 hl (k := 2) rfl (congrArg (fun z => _ + z) (by decide)) (by decide) rfl (fun ls hl => ?_)
              refine lv_goto (tgt := 31) hx hb qd_M_findUseful_159 (by decide) ?_
              exact ih 1 (x2_31 + 1) (upd vMu_31 (vMh x2_31.toNatClampNeg).toNatClampNeg (vp_nar .boolean 0)) H locs ls hP hD hS (lv_sub hl [0, 1, 3] rfl) hres ho
            have hres := hres.trans (if_pos c_95)
            have ho := (if_pos c_95).mp ho
            refine lv_iload_n hx hb qd_M_findUseful_98 rfl (lv_at hl 0 rfl) ?_
            refine lv_if_eq (tgt := 120) hx hb qd_M_findUseful_99 (by decide) (fun c_99 => ?_) (fun c_99 => ?_)
            rotate_left
            · exact absurd (by decide) c_99
            refine lv_iconst (v := 0) hx hb qd_M_findUseful_120 (by decide) ?_
            refine lv_istore_n (lv' := [(1, .int 0), (3, .int 0), (2, .int x2_31), (0, .ref aM)]) hx hb qd_M_findUseful_121 rfl hl (by decide) rfl (fun ls hl => ?_)
            refine lv_aload_n hx hb qd_M_findUseful_122 rfl (lv_at hl 3 rfl) ?_
            refine va_get (D := (dC, dI)) (ci := 7) (v := .ref aMu) (C := qR_M) (T := qT_M) (N := 23) hx hb hg qi_M hown hK hP 0 rfl rfl 20 (by decide) (hg _ mw_594) (fun _ h9 => h9) rfl qd_M_findUseful_123 ?_
            refine lv_aload_n hx hb qd_M_findUseful_126 rfl (lv_at hl 3 rfl) ?_
            refine va_get (D := (dC, dI)) (ci := 7) (v := .ref aMh) (C := qR_M) (T := qT_M) (N := 23) hx hb hg qi_M hown hK hP 0 rfl rfl 2 (by decide) (hg _ mw_576) (fun _ h9 => h9) rfl qd_M_findUseful_127 ?_
            refine lv_iload_n hx hb qd_M_findUseful_130 rfl (lv_at hl 2 rfl) ?_
            obtain ⟨g_131, ho⟩ := ho
            refine va_iald hx hb hK hP 1 0 rfl rfl g_131 qd_M_findUseful_131 ?_
            refine lv_aload_n hx hb qd_M_findUseful_132 rfl (lv_at hl 3 rfl) ?_
            refine va_get (D := (dC, dI)) (ci := 7) (v := .ref aMu) (C := qR_M) (T := qT_M) (N := 23) hx hb hg qi_M hown hK hP 0 rfl rfl 20 (by decide) (hg _ mw_594) (fun _ h9 => h9) rfl qd_M_findUseful_133 ?_
            refine lv_aload_n hx hb qd_M_findUseful_136 rfl (lv_at hl 3 rfl) ?_
            refine va_get (D := (dC, dI)) (ci := 7) (v := .ref aMh) (C := qR_M) (T := qT_M) (N := 23) hx hb hg qi_M hown hK hP 0 rfl rfl 2 (by decide) (hg _ mw_576) (fun _ h9 => h9) rfl qd_M_findUseful_137 ?_
            refine lv_iload_n hx hb qd_M_findUseful_140 rfl (lv_at hl 2 rfl) ?_
            obtain ⟨g_141, ho⟩ := ho
            refine va_iald hx hb hK hP 1 0 rfl rfl g_141 qd_M_findUseful_141 ?_
            obtain ⟨g_142, ho⟩ := ho
            refine va_zald hx hb hK hP 3 1 rfl rfl g_142 qd_M_findUseful_142 ?_
            refine lv_if_ne (tgt := 150) hx hb qd_M_findUseful_143 (by decide) (fun c_143 => ?_) (fun c_143 => ?_)
            · have hres := hres.trans (if_neg c_143)
              have ho := (if_neg c_143).mp ho
              refine lv_iconst (v := 1) hx hb qd_M_findUseful_150 (by decide) ?_
              refine lv_goto (tgt := 155) hx hb qd_M_findUseful_151 (by decide) ?_
              obtain ⟨g_155, ho⟩ := ho
              refine va_zast hx hb hK hP hD hS 3 1 rfl rfl g_155 qd_M_findUseful_155 (fun H locs hP hD hS => ?_)
              have hP : va_P (dC, dI) vwCl [(aM, .inr (7, [.int vMT, .int vMP, .ref aMh, .ref aMi, .ref aMc, .int vMK, .ref aMt, .int vMB, .ref aMn, .ref aMl, .ref aMs, .int vMD, .ref aMd, .int vME, .ref aMe, .int vMO, .ref aMo, .int vMF, .int vMS, .ref aMw, .ref aMu, .int vMX, .int vMW])), (aMh, .inl (cA, 24, .inl (vMh))), (aMi, .inl (cA, 72, .inl (vMi))), (aMu, .inl (cZ, 10, .inl (upd vMu_31 (vMh x2_31.toNatClampNeg).toNatClampNeg (vp_nar .boolean 1))))] H := hP
              have hD : va_D A [(aM, .inr (7, [.int vMT, .int vMP, .ref aMh, .ref aMi, .ref aMc, .int vMK, .ref aMt, .int vMB, .ref aMn, .ref aMl, .ref aMs, .int vMD, .ref aMd, .int vME, .ref aMe, .int vMO, .ref aMo, .int vMF, .int vMS, .ref aMw, .ref aMu, .int vMX, .int vMW])), (aMh, .inl (cA, 24, .inl (vMh))), (aMi, .inl (cA, 72, .inl (vMi))), (aMu, .inl (cZ, 10, .inl (upd vMu_31 (vMh x2_31.toNatClampNeg).toNatClampNeg (vp_nar .boolean 1))))] := hD
              refine lv_iinc (v := x2_31 + 1) (lv' := [(2, .int (x2_31 + 1)), (1, .int 0), (3, .int 0), (0, .ref aM)]) hx hb qd_M_findUseful_156 hl (k := 2) rfl (congrArg (fun z => _ + z) (by decide)) (by decide) rfl (fun ls hl => ?_)
              refine lv_goto (tgt := 31) hx hb qd_M_findUseful_159 (by decide) ?_
              exact ih 0 (x2_31 + 1) (upd vMu_31 (vMh x2_31.toNatClampNeg).toNatClampNeg (vp_nar .boolean 1)) H locs ls hP hD hS (lv_sub hl [0, 1, 3] rfl) hres ho
            have hres := hres.trans (if_pos c_143)
            have ho := (if_pos c_143).mp ho
            refine lv_iload_n hx hb qd_M_findUseful_146 rfl (lv_at hl 1 rfl) ?_
            refine lv_if_eq (tgt := 154) hx hb qd_M_findUseful_147 (by decide) (fun c_147 => ?_) (fun c_147 => ?_)
            rotate_left
            · exact absurd (by decide) c_147
            refine lv_iconst (v := 0) hx hb qd_M_findUseful_154 (by decide) ?_
            obtain ⟨g_155, ho⟩ := ho
            refine va_zast hx hb hK hP hD hS 3 1 rfl rfl g_155 qd_M_findUseful_155 (fun H locs hP hD hS => ?_)
            have hP : va_P (dC, dI) vwCl [(aM, .inr (7, [.int vMT, .int vMP, .ref aMh, .ref aMi, .ref aMc, .int vMK, .ref aMt, .int vMB, .ref aMn, .ref aMl, .ref aMs, .int vMD, .ref aMd, .int vME, .ref aMe, .int vMO, .ref aMo, .int vMF, .int vMS, .ref aMw, .ref aMu, .int vMX, .int vMW])), (aMh, .inl (cA, 24, .inl (vMh))), (aMi, .inl (cA, 72, .inl (vMi))), (aMu, .inl (cZ, 10, .inl (upd vMu_31 (vMh x2_31.toNatClampNeg).toNatClampNeg (vp_nar .boolean 0))))] H := hP
            have hD : va_D A [(aM, .inr (7, [.int vMT, .int vMP, .ref aMh, .ref aMi, .ref aMc, .int vMK, .ref aMt, .int vMB, .ref aMn, .ref aMl, .ref aMs, .int vMD, .ref aMd, .int vME, .ref aMe, .int vMO, .ref aMo, .int vMF, .int vMS, .ref aMw, .ref aMu, .int vMX, .int vMW])), (aMh, .inl (cA, 24, .inl (vMh))), (aMi, .inl (cA, 72, .inl (vMi))), (aMu, .inl (cZ, 10, .inl (upd vMu_31 (vMh x2_31.toNatClampNeg).toNatClampNeg (vp_nar .boolean 0))))] := hD
            refine lv_iinc (v := x2_31 + 1) (lv' := [(2, .int (x2_31 + 1)), (1, .int 0), (3, .int 0), (0, .ref aM)]) hx hb qd_M_findUseful_156 hl (k := 2) rfl (congrArg (fun z => _ + z) (by decide)) (by decide) rfl (fun ls hl => ?_)
            refine lv_goto (tgt := 31) hx hb qd_M_findUseful_159 (by decide) ?_
            exact ih 0 (x2_31 + 1) (upd vMu_31 (vMh x2_31.toNatClampNeg).toNatClampNeg (vp_nar .boolean 0)) H locs ls hP hD hS (lv_sub hl [0, 1, 3] rfl) hres ho
          have hres := hres.trans (if_neg c_51)
          have ho := (if_neg c_51).mp ho
          refine lv_aload_n hx hb qd_M_findUseful_54 rfl (lv_at hl 2 rfl) ?_
          refine lv_aload_n hx hb qd_M_findUseful_55 rfl (lv_at hl 2 rfl) ?_
          refine va_get (D := (dC, dI)) (ci := 7) (v := .ref aMi) (C := qR_M) (T := qT_M) (N := 23) hx hb hg qi_M hown hK hP 0 rfl rfl 3 (by decide) (hg _ mw_577) (fun _ h9 => h9) rfl qd_M_findUseful_56 ?_
          refine lv_iconst (v := 3) hx hb qd_M_findUseful_59 (by decide) ?_
          refine lv_iload_n hx hb qd_M_findUseful_60 rfl (lv_at hl 0 rfl) ?_
          refine lv_imul hx hb qd_M_findUseful_61 ?_
          refine lv_iconst (v := 1) hx hb qd_M_findUseful_62 (by decide) ?_
          refine lv_iadd hx hb qd_M_findUseful_63 ?_
          obtain ⟨g_64, ho⟩ := ho
          refine va_iald hx hb hK hP 2 0 rfl rfl g_64 qd_M_findUseful_64 ?_
          obtain ⟨g_65, ho⟩ := ho
          refine xc_V (As := [.int (vMi ((3 * x2_31) + 1).toNatClampNeg)]) (rest := []) ⟨hx, hb, hml, hown, hg⟩ (c_M_isUseful l dC dI cA cZ aM aMh aMi aMc aMt aMn aMl aMs aMd aMe aMo aMw aMu vMT vMP vMK vMB vMD vME vMO vMF vMS vMX vMW vMu_31 (vMi ((3 * x2_31) + 1).toNatClampNeg) g_65) (cwV 1 hg (q_gV mw_734 mw_735 mw_787 mw_8 mw_736) rfl rfl rfl qh_M_isUseful ⟨Nat.le_of_ble_eq_true rfl, Nat.le_of_ble_eq_true rfl⟩) hN hK hP [0, 3] rfl 0 7 rfl rfl rfl hl.1 rfl (Nat.le_of_ble_eq_true rfl) qd_M_findUseful_65 ⟨Nat.zero_le _, Nat.zero_le _⟩ ?_
          refine lv_topi (fun r_65 w_65 => ?_)
          have hres := hres.trans (bd_eq w_65)
          have ho := (bd_eq w_65).mp ho
          refine lv_if_eq (tgt := 92) hx hb qd_M_findUseful_68 (by decide) (fun c_68 => ?_) (fun c_68 => ?_)
          · have hres := hres.trans (if_pos c_68)
            have ho := (if_pos c_68).mp ho
            refine lv_iconst (v := 0) hx hb qd_M_findUseful_92 (by decide) ?_
            refine lv_istore_n (lv' := [(3, .int 0), (2, .int x2_31), (1, .int x1_31), (0, .ref aM)]) hx hb qd_M_findUseful_93 rfl hl (by decide) rfl (fun ls hl => ?_)
            refine lv_iload_n hx hb qd_M_findUseful_94 rfl (lv_at hl 2 rfl) ?_
            refine lv_if_ne (tgt := 116) hx hb qd_M_findUseful_95 (by decide) (fun c_95 => ?_) (fun c_95 => ?_)
            · have hres := hres.trans (if_neg c_95)
              have ho := (if_neg c_95).mp ho
              refine lv_iconst (v := 1) hx hb qd_M_findUseful_116 (by decide) ?_
              refine lv_goto (tgt := 121) hx hb qd_M_findUseful_117 (by decide) ?_
              refine lv_istore_n (lv' := [(1, .int 1), (3, .int 0), (2, .int x2_31), (0, .ref aM)]) hx hb qd_M_findUseful_121 rfl hl (by decide) rfl (fun ls hl => ?_)
              refine lv_aload_n hx hb qd_M_findUseful_122 rfl (lv_at hl 3 rfl) ?_
              refine va_get (D := (dC, dI)) (ci := 7) (v := .ref aMu) (C := qR_M) (T := qT_M) (N := 23) hx hb hg qi_M hown hK hP 0 rfl rfl 20 (by decide) (hg _ mw_594) (fun _ h9 => h9) rfl qd_M_findUseful_123 ?_
              refine lv_aload_n hx hb qd_M_findUseful_126 rfl (lv_at hl 3 rfl) ?_
              refine va_get (D := (dC, dI)) (ci := 7) (v := .ref aMh) (C := qR_M) (T := qT_M) (N := 23) hx hb hg qi_M hown hK hP 0 rfl rfl 2 (by decide) (hg _ mw_576) (fun _ h9 => h9) rfl qd_M_findUseful_127 ?_
              refine lv_iload_n hx hb qd_M_findUseful_130 rfl (lv_at hl 2 rfl) ?_
              obtain ⟨g_131, ho⟩ := ho
              refine va_iald hx hb hK hP 1 0 rfl rfl g_131 qd_M_findUseful_131 ?_
              refine lv_aload_n hx hb qd_M_findUseful_132 rfl (lv_at hl 3 rfl) ?_
              refine va_get (D := (dC, dI)) (ci := 7) (v := .ref aMu) (C := qR_M) (T := qT_M) (N := 23) hx hb hg qi_M hown hK hP 0 rfl rfl 20 (by decide) (hg _ mw_594) (fun _ h9 => h9) rfl qd_M_findUseful_133 ?_
              refine lv_aload_n hx hb qd_M_findUseful_136 rfl (lv_at hl 3 rfl) ?_
              refine va_get (D := (dC, dI)) (ci := 7) (v := .ref aMh) (C := qR_M) (T := qT_M) (N := 23) hx hb hg qi_M hown hK hP 0 rfl rfl 2 (by decide) (hg _ mw_576) (fun _ h9 => h9) rfl qd_M_findUseful_137 ?_
              refine lv_iload_n hx hb qd_M_findUseful_140 rfl (lv_at hl 2 rfl) ?_
              obtain ⟨g_141, ho⟩ := ho
              refine va_iald hx hb hK hP 1 0 rfl rfl g_141 qd_M_findUseful_141 ?_
              obtain ⟨g_142, ho⟩ := ho
              refine va_zald hx hb hK hP 3 1 rfl rfl g_142 qd_M_findUseful_142 ?_
              refine lv_if_ne (tgt := 150) hx hb qd_M_findUseful_143 (by decide) (fun c_143 => ?_) (fun c_143 => ?_)
              · have hres := hres.trans (if_neg c_143)
                have ho := (if_neg c_143).mp ho
                refine lv_iconst (v := 1) hx hb qd_M_findUseful_150 (by decide) ?_
                refine lv_goto (tgt := 155) hx hb qd_M_findUseful_151 (by decide) ?_
                obtain ⟨g_155, ho⟩ := ho
                refine va_zast hx hb hK hP hD hS 3 1 rfl rfl g_155 qd_M_findUseful_155 (fun H locs hP hD hS => ?_)
                have hP : va_P (dC, dI) vwCl [(aM, .inr (7, [.int vMT, .int vMP, .ref aMh, .ref aMi, .ref aMc, .int vMK, .ref aMt, .int vMB, .ref aMn, .ref aMl, .ref aMs, .int vMD, .ref aMd, .int vME, .ref aMe, .int vMO, .ref aMo, .int vMF, .int vMS, .ref aMw, .ref aMu, .int vMX, .int vMW])), (aMh, .inl (cA, 24, .inl (vMh))), (aMi, .inl (cA, 72, .inl (vMi))), (aMu, .inl (cZ, 10, .inl (upd vMu_31 (vMh x2_31.toNatClampNeg).toNatClampNeg (vp_nar .boolean 1))))] H := hP
                have hD : va_D A [(aM, .inr (7, [.int vMT, .int vMP, .ref aMh, .ref aMi, .ref aMc, .int vMK, .ref aMt, .int vMB, .ref aMn, .ref aMl, .ref aMs, .int vMD, .ref aMd, .int vME, .ref aMe, .int vMO, .ref aMo, .int vMF, .int vMS, .ref aMw, .ref aMu, .int vMX, .int vMW])), (aMh, .inl (cA, 24, .inl (vMh))), (aMi, .inl (cA, 72, .inl (vMi))), (aMu, .inl (cZ, 10, .inl (upd vMu_31 (vMh x2_31.toNatClampNeg).toNatClampNeg (vp_nar .boolean 1))))] := hD
                refine lv_iinc (v := x2_31 + 1) (lv' := [(2, .int (x2_31 + 1)), (1, .int 1), (3, .int 0), (0, .ref aM)]) hx hb qd_M_findUseful_156 hl (k := 2) rfl (congrArg (fun z => _ + z) (by decide)) (by decide) rfl (fun ls hl => ?_)
                refine lv_goto (tgt := 31) hx hb qd_M_findUseful_159 (by decide) ?_
                exact ih 1 (x2_31 + 1) (upd vMu_31 (vMh x2_31.toNatClampNeg).toNatClampNeg (vp_nar .boolean 1)) H locs ls hP hD hS (lv_sub hl [0, 1, 3] rfl) hres ho
              have hres := hres.trans (if_pos c_143)
              have ho := (if_pos c_143).mp ho
              refine lv_iload_n hx hb qd_M_findUseful_146 rfl (lv_at hl 1 rfl) ?_
              refine lv_if_eq (tgt := 154) hx hb qd_M_findUseful_147 (by decide) (fun c_147 => ?_) (fun c_147 => ?_)
              rotate_left
              · exact absurd (by decide) c_147
              refine lv_iconst (v := 0) hx hb qd_M_findUseful_154 (by decide) ?_
              obtain ⟨g_155, ho⟩ := ho
              refine va_zast hx hb hK hP hD hS 3 1 rfl rfl g_155 qd_M_findUseful_155 (fun H locs hP hD hS => ?_)
              have hP : va_P (dC, dI) vwCl [(aM, .inr (7, [.int vMT, .int vMP, .ref aMh, .ref aMi, .ref aMc, .int vMK, .ref aMt, .int vMB, .ref aMn, .ref aMl, .ref aMs, .int vMD, .ref aMd, .int vME, .ref aMe, .int vMO, .ref aMo, .int vMF, .int vMS, .ref aMw, .ref aMu, .int vMX, .int vMW])), (aMh, .inl (cA, 24, .inl (vMh))), (aMi, .inl (cA, 72, .inl (vMi))), (aMu, .inl (cZ, 10, .inl (upd vMu_31 (vMh x2_31.toNatClampNeg).toNatClampNeg (vp_nar .boolean 0))))] H := hP
              have hD : va_D A [(aM, .inr (7, [.int vMT, .int vMP, .ref aMh, .ref aMi, .ref aMc, .int vMK, .ref aMt, .int vMB, .ref aMn, .ref aMl, .ref aMs, .int vMD, .ref aMd, .int vME, .ref aMe, .int vMO, .ref aMo, .int vMF, .int vMS, .ref aMw, .ref aMu, .int vMX, .int vMW])), (aMh, .inl (cA, 24, .inl (vMh))), (aMi, .inl (cA, 72, .inl (vMi))), (aMu, .inl (cZ, 10, .inl (upd vMu_31 (vMh x2_31.toNatClampNeg).toNatClampNeg (vp_nar .boolean 0))))] := hD
              refine lv_iinc (v := x2_31 + 1) (lv' := [(2, .int (x2_31 + 1)), (1, .int 1), (3, .int 0), (0, .ref aM)]) hx hb qd_M_findUseful_156 hl (k := 2) rfl (congrArg (fun z => _ + z) (by decide)) (by decide) rfl (fun ls hl => ?_)
              refine lv_goto (tgt := 31) hx hb qd_M_findUseful_159 (by decide) ?_
              exact ih 1 (x2_31 + 1) (upd vMu_31 (vMh x2_31.toNatClampNeg).toNatClampNeg (vp_nar .boolean 0)) H locs ls hP hD hS (lv_sub hl [0, 1, 3] rfl) hres ho
            have hres := hres.trans (if_pos c_95)
            have ho := (if_pos c_95).mp ho
            refine lv_iload_n hx hb qd_M_findUseful_98 rfl (lv_at hl 0 rfl) ?_
            refine lv_if_eq (tgt := 120) hx hb qd_M_findUseful_99 (by decide) (fun c_99 => ?_) (fun c_99 => ?_)
            rotate_left
            · exact absurd (by decide) c_99
            refine lv_iconst (v := 0) hx hb qd_M_findUseful_120 (by decide) ?_
            refine lv_istore_n (lv' := [(1, .int 0), (3, .int 0), (2, .int x2_31), (0, .ref aM)]) hx hb qd_M_findUseful_121 rfl hl (by decide) rfl (fun ls hl => ?_)
            refine lv_aload_n hx hb qd_M_findUseful_122 rfl (lv_at hl 3 rfl) ?_
            refine va_get (D := (dC, dI)) (ci := 7) (v := .ref aMu) (C := qR_M) (T := qT_M) (N := 23) hx hb hg qi_M hown hK hP 0 rfl rfl 20 (by decide) (hg _ mw_594) (fun _ h9 => h9) rfl qd_M_findUseful_123 ?_
            refine lv_aload_n hx hb qd_M_findUseful_126 rfl (lv_at hl 3 rfl) ?_
            refine va_get (D := (dC, dI)) (ci := 7) (v := .ref aMh) (C := qR_M) (T := qT_M) (N := 23) hx hb hg qi_M hown hK hP 0 rfl rfl 2 (by decide) (hg _ mw_576) (fun _ h9 => h9) rfl qd_M_findUseful_127 ?_
            refine lv_iload_n hx hb qd_M_findUseful_130 rfl (lv_at hl 2 rfl) ?_
            obtain ⟨g_131, ho⟩ := ho
            refine va_iald hx hb hK hP 1 0 rfl rfl g_131 qd_M_findUseful_131 ?_
            refine lv_aload_n hx hb qd_M_findUseful_132 rfl (lv_at hl 3 rfl) ?_
            refine va_get (D := (dC, dI)) (ci := 7) (v := .ref aMu) (C := qR_M) (T := qT_M) (N := 23) hx hb hg qi_M hown hK hP 0 rfl rfl 20 (by decide) (hg _ mw_594) (fun _ h9 => h9) rfl qd_M_findUseful_133 ?_
            refine lv_aload_n hx hb qd_M_findUseful_136 rfl (lv_at hl 3 rfl) ?_
            refine va_get (D := (dC, dI)) (ci := 7) (v := .ref aMh) (C := qR_M) (T := qT_M) (N := 23) hx hb hg qi_M hown hK hP 0 rfl rfl 2 (by decide) (hg _ mw_576) (fun _ h9 => h9) rfl qd_M_findUseful_137 ?_
            refine lv_iload_n hx hb qd_M_findUseful_140 rfl (lv_at hl 2 rfl) ?_
            obtain ⟨g_141, ho⟩ := ho
            refine va_iald hx hb hK hP 1 0 rfl rfl g_141 qd_M_findUseful_141 ?_
            obtain ⟨g_142, ho⟩ := ho
            refine va_zald hx hb hK hP 3 1 rfl rfl g_142 qd_M_findUseful_142 ?_
            refine lv_if_ne (tgt := 150) hx hb qd_M_findUseful_143 (by decide) (fun c_143 => ?_) (fun c_143 => ?_)
            · have hres := hres.trans (if_neg c_143)
              have ho := (if_neg c_143).mp ho
              refine lv_iconst (v := 1) hx hb qd_M_findUseful_150 (by decide) ?_
              refine lv_goto (tgt := 155) hx hb qd_M_findUseful_151 (by decide) ?_
              obtain ⟨g_155, ho⟩ := ho
              refine va_zast hx hb hK hP hD hS 3 1 rfl rfl g_155 qd_M_findUseful_155 (fun H locs hP hD hS => ?_)
              have hP : va_P (dC, dI) vwCl [(aM, .inr (7, [.int vMT, .int vMP, .ref aMh, .ref aMi, .ref aMc, .int vMK, .ref aMt, .int vMB, .ref aMn, .ref aMl, .ref aMs, .int vMD, .ref aMd, .int vME, .ref aMe, .int vMO, .ref aMo, .int vMF, .int vMS, .ref aMw, .ref aMu, .int vMX, .int vMW])), (aMh, .inl (cA, 24, .inl (vMh))), (aMi, .inl (cA, 72, .inl (vMi))), (aMu, .inl (cZ, 10, .inl (upd vMu_31 (vMh x2_31.toNatClampNeg).toNatClampNeg (vp_nar .boolean 1))))] H := hP
              have hD : va_D A [(aM, .inr (7, [.int vMT, .int vMP, .ref aMh, .ref aMi, .ref aMc, .int vMK, .ref aMt, .int vMB, .ref aMn, .ref aMl, .ref aMs, .int vMD, .ref aMd, .int vME, .ref aMe, .int vMO, .ref aMo, .int vMF, .int vMS, .ref aMw, .ref aMu, .int vMX, .int vMW])), (aMh, .inl (cA, 24, .inl (vMh))), (aMi, .inl (cA, 72, .inl (vMi))), (aMu, .inl (cZ, 10, .inl (upd vMu_31 (vMh x2_31.toNatClampNeg).toNatClampNeg (vp_nar .boolean 1))))] := hD
              refine lv_iinc (v := x2_31 + 1) (lv' := [(2, .int (x2_31 + 1)), (1, .int 0), (3, .int 0), (0, .ref aM)]) hx hb qd_M_findUseful_156 hl (k := 2) rfl (congrArg (fun z => _ + z) (by decide)) (by decide) rfl (fun ls hl => ?_)
              refine lv_goto (tgt := 31) hx hb qd_M_findUseful_159 (by decide) ?_
              exact ih 0 (x2_31 + 1) (upd vMu_31 (vMh x2_31.toNatClampNeg).toNatClampNeg (vp_nar .boolean 1)) H locs ls hP hD hS (lv_sub hl [0, 1, 3] rfl) hres ho
            have hres := hres.trans (if_pos c_143)
            have ho := (if_pos c_143).mp ho
            refine lv_iload_n hx hb qd_M_findUseful_146 rfl (lv_at hl 1 rfl) ?_
            refine lv_if_eq (tgt := 154) hx hb qd_M_findUseful_147 (by decide) (fun c_147 => ?_) (fun c_147 => ?_)
            rotate_left
            · exact absurd (by decide) c_147
            refine lv_iconst (v := 0) hx hb qd_M_findUseful_154 (by decide) ?_
            obtain ⟨g_155, ho⟩ := ho
            refine va_zast hx hb hK hP hD hS 3 1 rfl rfl g_155 qd_M_findUseful_155 (fun H locs hP hD hS => ?_)
            have hP : va_P (dC, dI) vwCl [(aM, .inr (7, [.int vMT, .int vMP, .ref aMh, .ref aMi, .ref aMc, .int vMK, .ref aMt, .int vMB, .ref aMn, .ref aMl, .ref aMs, .int vMD, .ref aMd, .int vME, .ref aMe, .int vMO, .ref aMo, .int vMF, .int vMS, .ref aMw, .ref aMu, .int vMX, .int vMW])), (aMh, .inl (cA, 24, .inl (vMh))), (aMi, .inl (cA, 72, .inl (vMi))), (aMu, .inl (cZ, 10, .inl (upd vMu_31 (vMh x2_31.toNatClampNeg).toNatClampNeg (vp_nar .boolean 0))))] H := hP
            have hD : va_D A [(aM, .inr (7, [.int vMT, .int vMP, .ref aMh, .ref aMi, .ref aMc, .int vMK, .ref aMt, .int vMB, .ref aMn, .ref aMl, .ref aMs, .int vMD, .ref aMd, .int vME, .ref aMe, .int vMO, .ref aMo, .int vMF, .int vMS, .ref aMw, .ref aMu, .int vMX, .int vMW])), (aMh, .inl (cA, 24, .inl (vMh))), (aMi, .inl (cA, 72, .inl (vMi))), (aMu, .inl (cZ, 10, .inl (upd vMu_31 (vMh x2_31.toNatClampNeg).toNatClampNeg (vp_nar .boolean 0))))] := hD
            refine lv_iinc (v := x2_31 + 1) (lv' := [(2, .int (x2_31 + 1)), (1, .int 0), (3, .int 0), (0, .ref aM)]) hx hb qd_M_findUseful_156 hl (k := 2) rfl (congrArg (fun z => _ + z) (by decide)) (by decide) rfl (fun ls hl => ?_)
            refine lv_goto (tgt := 31) hx hb qd_M_findUseful_159 (by decide) ?_
            exact ih 0 (x2_31 + 1) (upd vMu_31 (vMh x2_31.toNatClampNeg).toNatClampNeg (vp_nar .boolean 0)) H locs ls hP hD hS (lv_sub hl [0, 1, 3] rfl) hres ho
          have hres := hres.trans (if_neg c_68)
          have ho := (if_neg c_68).mp ho
          refine lv_aload_n hx hb qd_M_findUseful_71 rfl (lv_at hl 2 rfl) ?_
          refine lv_aload_n hx hb qd_M_findUseful_72 rfl (lv_at hl 2 rfl) ?_
          refine va_get (D := (dC, dI)) (ci := 7) (v := .ref aMi) (C := qR_M) (T := qT_M) (N := 23) hx hb hg qi_M hown hK hP 0 rfl rfl 3 (by decide) (hg _ mw_577) (fun _ h9 => h9) rfl qd_M_findUseful_73 ?_
          refine lv_iconst (v := 3) hx hb qd_M_findUseful_76 (by decide) ?_
          refine lv_iload_n hx hb qd_M_findUseful_77 rfl (lv_at hl 0 rfl) ?_
          refine lv_imul hx hb qd_M_findUseful_78 ?_
          refine lv_iconst (v := 2) hx hb qd_M_findUseful_79 (by decide) ?_
          refine lv_iadd hx hb qd_M_findUseful_80 ?_
          obtain ⟨g_81, ho⟩ := ho
          refine va_iald hx hb hK hP 2 0 rfl rfl g_81 qd_M_findUseful_81 ?_
          obtain ⟨g_82, ho⟩ := ho
          refine xc_V (As := [.int (vMi ((3 * x2_31) + 2).toNatClampNeg)]) (rest := []) ⟨hx, hb, hml, hown, hg⟩ (c_M_isUseful l dC dI cA cZ aM aMh aMi aMc aMt aMn aMl aMs aMd aMe aMo aMw aMu vMT vMP vMK vMB vMD vME vMO vMF vMS vMX vMW vMu_31 (vMi ((3 * x2_31) + 2).toNatClampNeg) g_82) (cwV 1 hg (q_gV mw_734 mw_735 mw_787 mw_8 mw_736) rfl rfl rfl qh_M_isUseful ⟨Nat.le_of_ble_eq_true rfl, Nat.le_of_ble_eq_true rfl⟩) hN hK hP [0, 3] rfl 0 7 rfl rfl rfl hl.1 rfl (Nat.le_of_ble_eq_true rfl) qd_M_findUseful_82 ⟨Nat.zero_le _, Nat.zero_le _⟩ ?_
          refine lv_topi (fun r_82 w_82 => ?_)
          have hres := hres.trans (bd_eq w_82)
          have ho := (bd_eq w_82).mp ho
          refine lv_if_eq (tgt := 92) hx hb qd_M_findUseful_85 (by decide) (fun c_85 => ?_) (fun c_85 => ?_)
          · have hres := hres.trans (if_pos c_85)
            have ho := (if_pos c_85).mp ho
            refine lv_iconst (v := 0) hx hb qd_M_findUseful_92 (by decide) ?_
            refine lv_istore_n (lv' := [(3, .int 0), (2, .int x2_31), (1, .int x1_31), (0, .ref aM)]) hx hb qd_M_findUseful_93 rfl hl (by decide) rfl (fun ls hl => ?_)
            refine lv_iload_n hx hb qd_M_findUseful_94 rfl (lv_at hl 2 rfl) ?_
            refine lv_if_ne (tgt := 116) hx hb qd_M_findUseful_95 (by decide) (fun c_95 => ?_) (fun c_95 => ?_)
            · have hres := hres.trans (if_neg c_95)
              have ho := (if_neg c_95).mp ho
              refine lv_iconst (v := 1) hx hb qd_M_findUseful_116 (by decide) ?_
              refine lv_goto (tgt := 121) hx hb qd_M_findUseful_117 (by decide) ?_
              refine lv_istore_n (lv' := [(1, .int 1), (3, .int 0), (2, .int x2_31), (0, .ref aM)]) hx hb qd_M_findUseful_121 rfl hl (by decide) rfl (fun ls hl => ?_)
              refine lv_aload_n hx hb qd_M_findUseful_122 rfl (lv_at hl 3 rfl) ?_
              refine va_get (D := (dC, dI)) (ci := 7) (v := .ref aMu) (C := qR_M) (T := qT_M) (N := 23) hx hb hg qi_M hown hK hP 0 rfl rfl 20 (by decide) (hg _ mw_594) (fun _ h9 => h9) rfl qd_M_findUseful_123 ?_
              refine lv_aload_n hx hb qd_M_findUseful_126 rfl (lv_at hl 3 rfl) ?_
              refine va_get (D := (dC, dI)) (ci := 7) (v := .ref aMh) (C := qR_M) (T := qT_M) (N := 23) hx hb hg qi_M hown hK hP 0 rfl rfl 2 (by decide) (hg _ mw_576) (fun _ h9 => h9) rfl qd_M_findUseful_127 ?_
              refine lv_iload_n hx hb qd_M_findUseful_130 rfl (lv_at hl 2 rfl) ?_
              obtain ⟨g_131, ho⟩ := ho
              refine va_iald hx hb hK hP 1 0 rfl rfl g_131 qd_M_findUseful_131 ?_
              refine lv_aload_n hx hb qd_M_findUseful_132 rfl (lv_at hl 3 rfl) ?_
              refine va_get (D := (dC, dI)) (ci := 7) (v := .ref aMu) (C := qR_M) (T := qT_M) (N := 23) hx hb hg qi_M hown hK hP 0 rfl rfl 20 (by decide) (hg _ mw_594) (fun _ h9 => h9) rfl qd_M_findUseful_133 ?_
              refine lv_aload_n hx hb qd_M_findUseful_136 rfl (lv_at hl 3 rfl) ?_
              refine va_get (D := (dC, dI)) (ci := 7) (v := .ref aMh) (C := qR_M) (T := qT_M) (N := 23) hx hb hg qi_M hown hK hP 0 rfl rfl 2 (by decide) (hg _ mw_576) (fun _ h9 => h9) rfl qd_M_findUseful_137 ?_
              refine lv_iload_n hx hb qd_M_findUseful_140 rfl (lv_at hl 2 rfl) ?_
              obtain ⟨g_141, ho⟩ := ho
              refine va_iald hx hb hK hP 1 0 rfl rfl g_141 qd_M_findUseful_141 ?_
              obtain ⟨g_142, ho⟩ := ho
              refine va_zald hx hb hK hP 3 1 rfl rfl g_142 qd_M_findUseful_142 ?_
              refine lv_if_ne (tgt := 150) hx hb qd_M_findUseful_143 (by decide) (fun c_143 => ?_) (fun c_143 => ?_)
              · have hres := hres.trans (if_neg c_143)
                have ho := (if_neg c_143).mp ho
                refine lv_iconst (v := 1) hx hb qd_M_findUseful_150 (by decide) ?_
                refine lv_goto (tgt := 155) hx hb qd_M_findUseful_151 (by decide) ?_
                obtain ⟨g_155, ho⟩ := ho
                refine va_zast hx hb hK hP hD hS 3 1 rfl rfl g_155 qd_M_findUseful_155 (fun H locs hP hD hS => ?_)
                have hP : va_P (dC, dI) vwCl [(aM, .inr (7, [.int vMT, .int vMP, .ref aMh, .ref aMi, .ref aMc, .int vMK, .ref aMt, .int vMB, .ref aMn, .ref aMl, .ref aMs, .int vMD, .ref aMd, .int vME, .ref aMe, .int vMO, .ref aMo, .int vMF, .int vMS, .ref aMw, .ref aMu, .int vMX, .int vMW])), (aMh, .inl (cA, 24, .inl (vMh))), (aMi, .inl (cA, 72, .inl (vMi))), (aMu, .inl (cZ, 10, .inl (upd vMu_31 (vMh x2_31.toNatClampNeg).toNatClampNeg (vp_nar .boolean 1))))] H := hP
                have hD : va_D A [(aM, .inr (7, [.int vMT, .int vMP, .ref aMh, .ref aMi, .ref aMc, .int vMK, .ref aMt, .int vMB, .ref aMn, .ref aMl, .ref aMs, .int vMD, .ref aMd, .int vME, .ref aMe, .int vMO, .ref aMo, .int vMF, .int vMS, .ref aMw, .ref aMu, .int vMX, .int vMW])), (aMh, .inl (cA, 24, .inl (vMh))), (aMi, .inl (cA, 72, .inl (vMi))), (aMu, .inl (cZ, 10, .inl (upd vMu_31 (vMh x2_31.toNatClampNeg).toNatClampNeg (vp_nar .boolean 1))))] := hD
                refine lv_iinc (v := x2_31 + 1) (lv' := [(2, .int (x2_31 + 1)), (1, .int 1), (3, .int 0), (0, .ref aM)]) hx hb qd_M_findUseful_156 hl (k := 2) rfl (congrArg (fun z => _ + z) (by decide)) (by decide) rfl (fun ls hl => ?_)
                refine lv_goto (tgt := 31) hx hb qd_M_findUseful_159 (by decide) ?_
                exact ih 1 (x2_31 + 1) (upd vMu_31 (vMh x2_31.toNatClampNeg).toNatClampNeg (vp_nar .boolean 1)) H locs ls hP hD hS (lv_sub hl [0, 1, 3] rfl) hres ho
              have hres := hres.trans (if_pos c_143)
              have ho := (if_pos c_143).mp ho
              refine lv_iload_n hx hb qd_M_findUseful_146 rfl (lv_at hl 1 rfl) ?_
              refine lv_if_eq (tgt := 154) hx hb qd_M_findUseful_147 (by decide) (fun c_147 => ?_) (fun c_147 => ?_)
              rotate_left
              · exact absurd (by decide) c_147
              refine lv_iconst (v := 0) hx hb qd_M_findUseful_154 (by decide) ?_
              obtain ⟨g_155, ho⟩ := ho
              refine va_zast hx hb hK hP hD hS 3 1 rfl rfl g_155 qd_M_findUseful_155 (fun H locs hP hD hS => ?_)
              have hP : va_P (dC, dI) vwCl [(aM, .inr (7, [.int vMT, .int vMP, .ref aMh, .ref aMi, .ref aMc, .int vMK, .ref aMt, .int vMB, .ref aMn, .ref aMl, .ref aMs, .int vMD, .ref aMd, .int vME, .ref aMe, .int vMO, .ref aMo, .int vMF, .int vMS, .ref aMw, .ref aMu, .int vMX, .int vMW])), (aMh, .inl (cA, 24, .inl (vMh))), (aMi, .inl (cA, 72, .inl (vMi))), (aMu, .inl (cZ, 10, .inl (upd vMu_31 (vMh x2_31.toNatClampNeg).toNatClampNeg (vp_nar .boolean 0))))] H := hP
              have hD : va_D A [(aM, .inr (7, [.int vMT, .int vMP, .ref aMh, .ref aMi, .ref aMc, .int vMK, .ref aMt, .int vMB, .ref aMn, .ref aMl, .ref aMs, .int vMD, .ref aMd, .int vME, .ref aMe, .int vMO, .ref aMo, .int vMF, .int vMS, .ref aMw, .ref aMu, .int vMX, .int vMW])), (aMh, .inl (cA, 24, .inl (vMh))), (aMi, .inl (cA, 72, .inl (vMi))), (aMu, .inl (cZ, 10, .inl (upd vMu_31 (vMh x2_31.toNatClampNeg).toNatClampNeg (vp_nar .boolean 0))))] := hD
              refine lv_iinc (v := x2_31 + 1) (lv' := [(2, .int (x2_31 + 1)), (1, .int 1), (3, .int 0), (0, .ref aM)]) hx hb qd_M_findUseful_156 hl (k := 2) rfl (congrArg (fun z => _ + z) (by decide)) (by decide) rfl (fun ls hl => ?_)
              refine lv_goto (tgt := 31) hx hb qd_M_findUseful_159 (by decide) ?_
              exact ih 1 (x2_31 + 1) (upd vMu_31 (vMh x2_31.toNatClampNeg).toNatClampNeg (vp_nar .boolean 0)) H locs ls hP hD hS (lv_sub hl [0, 1, 3] rfl) hres ho
            have hres := hres.trans (if_pos c_95)
            have ho := (if_pos c_95).mp ho
            refine lv_iload_n hx hb qd_M_findUseful_98 rfl (lv_at hl 0 rfl) ?_
            refine lv_if_eq (tgt := 120) hx hb qd_M_findUseful_99 (by decide) (fun c_99 => ?_) (fun c_99 => ?_)
            rotate_left
            · exact absurd (by decide) c_99
            refine lv_iconst (v := 0) hx hb qd_M_findUseful_120 (by decide) ?_
            refine lv_istore_n (lv' := [(1, .int 0), (3, .int 0), (2, .int x2_31), (0, .ref aM)]) hx hb qd_M_findUseful_121 rfl hl (by decide) rfl (fun ls hl => ?_)
            refine lv_aload_n hx hb qd_M_findUseful_122 rfl (lv_at hl 3 rfl) ?_
            refine va_get (D := (dC, dI)) (ci := 7) (v := .ref aMu) (C := qR_M) (T := qT_M) (N := 23) hx hb hg qi_M hown hK hP 0 rfl rfl 20 (by decide) (hg _ mw_594) (fun _ h9 => h9) rfl qd_M_findUseful_123 ?_
            refine lv_aload_n hx hb qd_M_findUseful_126 rfl (lv_at hl 3 rfl) ?_
            refine va_get (D := (dC, dI)) (ci := 7) (v := .ref aMh) (C := qR_M) (T := qT_M) (N := 23) hx hb hg qi_M hown hK hP 0 rfl rfl 2 (by decide) (hg _ mw_576) (fun _ h9 => h9) rfl qd_M_findUseful_127 ?_
            refine lv_iload_n hx hb qd_M_findUseful_130 rfl (lv_at hl 2 rfl) ?_
            obtain ⟨g_131, ho⟩ := ho
            refine va_iald hx hb hK hP 1 0 rfl rfl g_131 qd_M_findUseful_131 ?_
            refine lv_aload_n hx hb qd_M_findUseful_132 rfl (lv_at hl 3 rfl) ?_
            refine va_get (D := (dC, dI)) (ci := 7) (v := .ref aMu) (C := qR_M) (T := qT_M) (N := 23) hx hb hg qi_M hown hK hP 0 rfl rfl 20 (by decide) (hg _ mw_594) (fun _ h9 => h9) rfl qd_M_findUseful_133 ?_
            refine lv_aload_n hx hb qd_M_findUseful_136 rfl (lv_at hl 3 rfl) ?_
            refine va_get (D := (dC, dI)) (ci := 7) (v := .ref aMh) (C := qR_M) (T := qT_M) (N := 23) hx hb hg qi_M hown hK hP 0 rfl rfl 2 (by decide) (hg _ mw_576) (fun _ h9 => h9) rfl qd_M_findUseful_137 ?_
            refine lv_iload_n hx hb qd_M_findUseful_140 rfl (lv_at hl 2 rfl) ?_
            obtain ⟨g_141, ho⟩ := ho
            refine va_iald hx hb hK hP 1 0 rfl rfl g_141 qd_M_findUseful_141 ?_
            obtain ⟨g_142, ho⟩ := ho
            refine va_zald hx hb hK hP 3 1 rfl rfl g_142 qd_M_findUseful_142 ?_
            refine lv_if_ne (tgt := 150) hx hb qd_M_findUseful_143 (by decide) (fun c_143 => ?_) (fun c_143 => ?_)
            · have hres := hres.trans (if_neg c_143)
              have ho := (if_neg c_143).mp ho
              refine lv_iconst (v := 1) hx hb qd_M_findUseful_150 (by decide) ?_
              refine lv_goto (tgt := 155) hx hb qd_M_findUseful_151 (by decide) ?_
              obtain ⟨g_155, ho⟩ := ho
              refine va_zast hx hb hK hP hD hS 3 1 rfl rfl g_155 qd_M_findUseful_155 (fun H locs hP hD hS => ?_)
              have hP : va_P (dC, dI) vwCl [(aM, .inr (7, [.int vMT, .int vMP, .ref aMh, .ref aMi, .ref aMc, .int vMK, .ref aMt, .int vMB, .ref aMn, .ref aMl, .ref aMs, .int vMD, .ref aMd, .int vME, .ref aMe, .int vMO, .ref aMo, .int vMF, .int vMS, .ref aMw, .ref aMu, .int vMX, .int vMW])), (aMh, .inl (cA, 24, .inl (vMh))), (aMi, .inl (cA, 72, .inl (vMi))), (aMu, .inl (cZ, 10, .inl (upd vMu_31 (vMh x2_31.toNatClampNeg).toNatClampNeg (vp_nar .boolean 1))))] H := hP
              have hD : va_D A [(aM, .inr (7, [.int vMT, .int vMP, .ref aMh, .ref aMi, .ref aMc, .int vMK, .ref aMt, .int vMB, .ref aMn, .ref aMl, .ref aMs, .int vMD, .ref aMd, .int vME, .ref aMe, .int vMO, .ref aMo, .int vMF, .int vMS, .ref aMw, .ref aMu, .int vMX, .int vMW])), (aMh, .inl (cA, 24, .inl (vMh))), (aMi, .inl (cA, 72, .inl (vMi))), (aMu, .inl (cZ, 10, .inl (upd vMu_31 (vMh x2_31.toNatClampNeg).toNatClampNeg (vp_nar .boolean 1))))] := hD
              refine lv_iinc (v := x2_31 + 1) (lv' := [(2, .int (x2_31 + 1)), (1, .int 0), (3, .int 0), (0, .ref aM)]) hx hb qd_M_findUseful_156 hl (k := 2) rfl (congrArg (fun z => _ + z) (by decide)) (by decide) rfl (fun ls hl => ?_)
              refine lv_goto (tgt := 31) hx hb qd_M_findUseful_159 (by decide) ?_
              exact ih 0 (x2_31 + 1) (upd vMu_31 (vMh x2_31.toNatClampNeg).toNatClampNeg (vp_nar .boolean 1)) H locs ls hP hD hS (lv_sub hl [0, 1, 3] rfl) hres ho
            have hres := hres.trans (if_pos c_143)
            have ho := (if_pos c_143).mp ho
            refine lv_iload_n hx hb qd_M_findUseful_146 rfl (lv_at hl 1 rfl) ?_
            refine lv_if_eq (tgt := 154) hx hb qd_M_findUseful_147 (by decide) (fun c_147 => ?_) (fun c_147 => ?_)
            rotate_left
            · exact absurd (by decide) c_147
            refine lv_iconst (v := 0) hx hb qd_M_findUseful_154 (by decide) ?_
            obtain ⟨g_155, ho⟩ := ho
            refine va_zast hx hb hK hP hD hS 3 1 rfl rfl g_155 qd_M_findUseful_155 (fun H locs hP hD hS => ?_)
            have hP : va_P (dC, dI) vwCl [(aM, .inr (7, [.int vMT, .int vMP, .ref aMh, .ref aMi, .ref aMc, .int vMK, .ref aMt, .int vMB, .ref aMn, .ref aMl, .ref aMs, .int vMD, .ref aMd, .int vME, .ref aMe, .int vMO, .ref aMo, .int vMF, .int vMS, .ref aMw, .ref aMu, .int vMX, .int vMW])), (aMh, .inl (cA, 24, .inl (vMh))), (aMi, .inl (cA, 72, .inl (vMi))), (aMu, .inl (cZ, 10, .inl (upd vMu_31 (vMh x2_31.toNatClampNeg).toNatClampNeg (vp_nar .boolean 0))))] H := hP
            have hD : va_D A [(aM, .inr (7, [.int vMT, .int vMP, .ref aMh, .ref aMi, .ref aMc, .int vMK, .ref aMt, .int vMB, .ref aMn, .ref aMl, .ref aMs, .int vMD, .ref aMd, .int vME, .ref aMe, .int vMO, .ref aMo, .int vMF, .int vMS, .ref aMw, .ref aMu, .int vMX, .int vMW])), (aMh, .inl (cA, 24, .inl (vMh))), (aMi, .inl (cA, 72, .inl (vMi))), (aMu, .inl (cZ, 10, .inl (upd vMu_31 (vMh x2_31.toNatClampNeg).toNatClampNeg (vp_nar .boolean 0))))] := hD
            refine lv_iinc (v := x2_31 + 1) (lv' := [(2, .int (x2_31 + 1)), (1, .int 0), (3, .int 0), (0, .ref aM)]) hx hb qd_M_findUseful_156 hl (k := 2) rfl (congrArg (fun z => _ + z) (by decide)) (by decide) rfl (fun ls hl => ?_)
            refine lv_goto (tgt := 31) hx hb qd_M_findUseful_159 (by decide) ?_
            exact ih 0 (x2_31 + 1) (upd vMu_31 (vMh x2_31.toNatClampNeg).toNatClampNeg (vp_nar .boolean 0)) H locs ls hP hD hS (lv_sub hl [0, 1, 3] rfl) hres ho
          have hres := hres.trans (if_neg c_85)
          have ho := (if_neg c_85).mp ho
          refine lv_iconst (v := 1) hx hb qd_M_findUseful_88 (by decide) ?_
          refine lv_goto (tgt := 93) hx hb qd_M_findUseful_89 (by decide) ?_
          refine lv_istore_n (lv' := [(3, .int 1), (2, .int x2_31), (1, .int x1_31), (0, .ref aM)]) hx hb qd_M_findUseful_93 rfl hl (by decide) rfl (fun ls hl => ?_)
          refine lv_iload_n hx hb qd_M_findUseful_94 rfl (lv_at hl 2 rfl) ?_
          refine lv_if_ne (tgt := 116) hx hb qd_M_findUseful_95 (by decide) (fun c_95 => ?_) (fun c_95 => ?_)
          · have hres := hres.trans (if_neg c_95)
            have ho := (if_neg c_95).mp ho
            refine lv_iconst (v := 1) hx hb qd_M_findUseful_116 (by decide) ?_
            refine lv_goto (tgt := 121) hx hb qd_M_findUseful_117 (by decide) ?_
            refine lv_istore_n (lv' := [(1, .int 1), (3, .int 1), (2, .int x2_31), (0, .ref aM)]) hx hb qd_M_findUseful_121 rfl hl (by decide) rfl (fun ls hl => ?_)
            refine lv_aload_n hx hb qd_M_findUseful_122 rfl (lv_at hl 3 rfl) ?_
            refine va_get (D := (dC, dI)) (ci := 7) (v := .ref aMu) (C := qR_M) (T := qT_M) (N := 23) hx hb hg qi_M hown hK hP 0 rfl rfl 20 (by decide) (hg _ mw_594) (fun _ h9 => h9) rfl qd_M_findUseful_123 ?_
            refine lv_aload_n hx hb qd_M_findUseful_126 rfl (lv_at hl 3 rfl) ?_
            refine va_get (D := (dC, dI)) (ci := 7) (v := .ref aMh) (C := qR_M) (T := qT_M) (N := 23) hx hb hg qi_M hown hK hP 0 rfl rfl 2 (by decide) (hg _ mw_576) (fun _ h9 => h9) rfl qd_M_findUseful_127 ?_
            refine lv_iload_n hx hb qd_M_findUseful_130 rfl (lv_at hl 2 rfl) ?_
            obtain ⟨g_131, ho⟩ := ho
            refine va_iald hx hb hK hP 1 0 rfl rfl g_131 qd_M_findUseful_131 ?_
            refine lv_aload_n hx hb qd_M_findUseful_132 rfl (lv_at hl 3 rfl) ?_
            refine va_get (D := (dC, dI)) (ci := 7) (v := .ref aMu) (C := qR_M) (T := qT_M) (N := 23) hx hb hg qi_M hown hK hP 0 rfl rfl 20 (by decide) (hg _ mw_594) (fun _ h9 => h9) rfl qd_M_findUseful_133 ?_
            refine lv_aload_n hx hb qd_M_findUseful_136 rfl (lv_at hl 3 rfl) ?_
            refine va_get (D := (dC, dI)) (ci := 7) (v := .ref aMh) (C := qR_M) (T := qT_M) (N := 23) hx hb hg qi_M hown hK hP 0 rfl rfl 2 (by decide) (hg _ mw_576) (fun _ h9 => h9) rfl qd_M_findUseful_137 ?_
            refine lv_iload_n hx hb qd_M_findUseful_140 rfl (lv_at hl 2 rfl) ?_
            obtain ⟨g_141, ho⟩ := ho
            refine va_iald hx hb hK hP 1 0 rfl rfl g_141 qd_M_findUseful_141 ?_
            obtain ⟨g_142, ho⟩ := ho
            refine va_zald hx hb hK hP 3 1 rfl rfl g_142 qd_M_findUseful_142 ?_
            refine lv_if_ne (tgt := 150) hx hb qd_M_findUseful_143 (by decide) (fun c_143 => ?_) (fun c_143 => ?_)
            · have hres := hres.trans (if_neg c_143)
              have ho := (if_neg c_143).mp ho
              refine lv_iconst (v := 1) hx hb qd_M_findUseful_150 (by decide) ?_
              refine lv_goto (tgt := 155) hx hb qd_M_findUseful_151 (by decide) ?_
              obtain ⟨g_155, ho⟩ := ho
              refine va_zast hx hb hK hP hD hS 3 1 rfl rfl g_155 qd_M_findUseful_155 (fun H locs hP hD hS => ?_)
              have hP : va_P (dC, dI) vwCl [(aM, .inr (7, [.int vMT, .int vMP, .ref aMh, .ref aMi, .ref aMc, .int vMK, .ref aMt, .int vMB, .ref aMn, .ref aMl, .ref aMs, .int vMD, .ref aMd, .int vME, .ref aMe, .int vMO, .ref aMo, .int vMF, .int vMS, .ref aMw, .ref aMu, .int vMX, .int vMW])), (aMh, .inl (cA, 24, .inl (vMh))), (aMi, .inl (cA, 72, .inl (vMi))), (aMu, .inl (cZ, 10, .inl (upd vMu_31 (vMh x2_31.toNatClampNeg).toNatClampNeg (vp_nar .boolean 1))))] H := hP
              have hD : va_D A [(aM, .inr (7, [.int vMT, .int vMP, .ref aMh, .ref aMi, .ref aMc, .int vMK, .ref aMt, .int vMB, .ref aMn, .ref aMl, .ref aMs, .int vMD, .ref aMd, .int vME, .ref aMe, .int vMO, .ref aMo, .int vMF, .int vMS, .ref aMw, .ref aMu, .int vMX, .int vMW])), (aMh, .inl (cA, 24, .inl (vMh))), (aMi, .inl (cA, 72, .inl (vMi))), (aMu, .inl (cZ, 10, .inl (upd vMu_31 (vMh x2_31.toNatClampNeg).toNatClampNeg (vp_nar .boolean 1))))] := hD
              refine lv_iinc (v := x2_31 + 1) (lv' := [(2, .int (x2_31 + 1)), (1, .int 1), (3, .int 1), (0, .ref aM)]) hx hb qd_M_findUseful_156 hl (k := 2) rfl (congrArg (fun z => _ + z) (by decide)) (by decide) rfl (fun ls hl => ?_)
              refine lv_goto (tgt := 31) hx hb qd_M_findUseful_159 (by decide) ?_
              exact ih 1 (x2_31 + 1) (upd vMu_31 (vMh x2_31.toNatClampNeg).toNatClampNeg (vp_nar .boolean 1)) H locs ls hP hD hS (lv_sub hl [0, 1, 3] rfl) hres ho
            have hres := hres.trans (if_pos c_143)
            have ho := (if_pos c_143).mp ho
            refine lv_iload_n hx hb qd_M_findUseful_146 rfl (lv_at hl 1 rfl) ?_
            refine lv_if_eq (tgt := 154) hx hb qd_M_findUseful_147 (by decide) (fun c_147 => ?_) (fun c_147 => ?_)
            · exact absurd c_147 (by decide)
            refine lv_iconst (v := 1) hx hb qd_M_findUseful_150 (by decide) ?_
            refine lv_goto (tgt := 155) hx hb qd_M_findUseful_151 (by decide) ?_
            obtain ⟨g_155, ho⟩ := ho
            refine va_zast hx hb hK hP hD hS 3 1 rfl rfl g_155 qd_M_findUseful_155 (fun H locs hP hD hS => ?_)
            have hP : va_P (dC, dI) vwCl [(aM, .inr (7, [.int vMT, .int vMP, .ref aMh, .ref aMi, .ref aMc, .int vMK, .ref aMt, .int vMB, .ref aMn, .ref aMl, .ref aMs, .int vMD, .ref aMd, .int vME, .ref aMe, .int vMO, .ref aMo, .int vMF, .int vMS, .ref aMw, .ref aMu, .int vMX, .int vMW])), (aMh, .inl (cA, 24, .inl (vMh))), (aMi, .inl (cA, 72, .inl (vMi))), (aMu, .inl (cZ, 10, .inl (upd vMu_31 (vMh x2_31.toNatClampNeg).toNatClampNeg (vp_nar .boolean 1))))] H := hP
            have hD : va_D A [(aM, .inr (7, [.int vMT, .int vMP, .ref aMh, .ref aMi, .ref aMc, .int vMK, .ref aMt, .int vMB, .ref aMn, .ref aMl, .ref aMs, .int vMD, .ref aMd, .int vME, .ref aMe, .int vMO, .ref aMo, .int vMF, .int vMS, .ref aMw, .ref aMu, .int vMX, .int vMW])), (aMh, .inl (cA, 24, .inl (vMh))), (aMi, .inl (cA, 72, .inl (vMi))), (aMu, .inl (cZ, 10, .inl (upd vMu_31 (vMh x2_31.toNatClampNeg).toNatClampNeg (vp_nar .boolean 1))))] := hD
            refine lv_iinc (v := x2_31 + 1) (lv' := [(2, .int (x2_31 + 1)), (1, .int 1), (3, .int 1), (0, .ref aM)]) hx hb qd_M_findUseful_156 hl (k := 2) rfl (congrArg (fun z => _ + z) (by decide)) (by decide) rfl (fun ls hl => ?_)
            refine lv_goto (tgt := 31) hx hb qd_M_findUseful_159 (by decide) ?_
            exact ih 1 (x2_31 + 1) (upd vMu_31 (vMh x2_31.toNatClampNeg).toNatClampNeg (vp_nar .boolean 1)) H locs ls hP hD hS (lv_sub hl [0, 1, 3] rfl) hres ho
          have hres := hres.trans (if_pos c_95)
          have ho := (if_pos c_95).mp ho
          refine lv_iload_n hx hb qd_M_findUseful_98 rfl (lv_at hl 0 rfl) ?_
          refine lv_if_eq (tgt := 120) hx hb qd_M_findUseful_99 (by decide) (fun c_99 => ?_) (fun c_99 => ?_)
          · exact absurd c_99 (by decide)
          refine lv_aload_n hx hb qd_M_findUseful_102 rfl (lv_at hl 3 rfl) ?_
          refine va_get (D := (dC, dI)) (ci := 7) (v := .ref aMu) (C := qR_M) (T := qT_M) (N := 23) hx hb hg qi_M hown hK hP 0 rfl rfl 20 (by decide) (hg _ mw_594) (fun _ h9 => h9) rfl qd_M_findUseful_103 ?_
          refine lv_aload_n hx hb qd_M_findUseful_106 rfl (lv_at hl 3 rfl) ?_
          refine va_get (D := (dC, dI)) (ci := 7) (v := .ref aMh) (C := qR_M) (T := qT_M) (N := 23) hx hb hg qi_M hown hK hP 0 rfl rfl 2 (by decide) (hg _ mw_576) (fun _ h9 => h9) rfl qd_M_findUseful_107 ?_
          refine lv_iload_n hx hb qd_M_findUseful_110 rfl (lv_at hl 1 rfl) ?_
          obtain ⟨g_111, ho⟩ := ho
          refine va_iald hx hb hK hP 1 0 rfl rfl g_111 qd_M_findUseful_111 ?_
          obtain ⟨g_112, ho⟩ := ho
          refine va_zald hx hb hK hP 3 1 rfl rfl g_112 qd_M_findUseful_112 ?_
          refine lv_if_ne (tgt := 120) hx hb qd_M_findUseful_113 (by decide) (fun c_113 => ?_) (fun c_113 => ?_)
          · have hres := hres.trans (if_neg c_113)
            have ho := (if_neg c_113).mp ho
            refine lv_iconst (v := 0) hx hb qd_M_findUseful_120 (by decide) ?_
            refine lv_istore_n (lv' := [(1, .int 0), (3, .int 1), (2, .int x2_31), (0, .ref aM)]) hx hb qd_M_findUseful_121 rfl hl (by decide) rfl (fun ls hl => ?_)
            refine lv_aload_n hx hb qd_M_findUseful_122 rfl (lv_at hl 3 rfl) ?_
            refine va_get (D := (dC, dI)) (ci := 7) (v := .ref aMu) (C := qR_M) (T := qT_M) (N := 23) hx hb hg qi_M hown hK hP 0 rfl rfl 20 (by decide) (hg _ mw_594) (fun _ h9 => h9) rfl qd_M_findUseful_123 ?_
            refine lv_aload_n hx hb qd_M_findUseful_126 rfl (lv_at hl 3 rfl) ?_
            refine va_get (D := (dC, dI)) (ci := 7) (v := .ref aMh) (C := qR_M) (T := qT_M) (N := 23) hx hb hg qi_M hown hK hP 0 rfl rfl 2 (by decide) (hg _ mw_576) (fun _ h9 => h9) rfl qd_M_findUseful_127 ?_
            refine lv_iload_n hx hb qd_M_findUseful_130 rfl (lv_at hl 2 rfl) ?_
            obtain ⟨g_131, ho⟩ := ho
            refine va_iald hx hb hK hP 1 0 rfl rfl g_131 qd_M_findUseful_131 ?_
            refine lv_aload_n hx hb qd_M_findUseful_132 rfl (lv_at hl 3 rfl) ?_
            refine va_get (D := (dC, dI)) (ci := 7) (v := .ref aMu) (C := qR_M) (T := qT_M) (N := 23) hx hb hg qi_M hown hK hP 0 rfl rfl 20 (by decide) (hg _ mw_594) (fun _ h9 => h9) rfl qd_M_findUseful_133 ?_
            refine lv_aload_n hx hb qd_M_findUseful_136 rfl (lv_at hl 3 rfl) ?_
            refine va_get (D := (dC, dI)) (ci := 7) (v := .ref aMh) (C := qR_M) (T := qT_M) (N := 23) hx hb hg qi_M hown hK hP 0 rfl rfl 2 (by decide) (hg _ mw_576) (fun _ h9 => h9) rfl qd_M_findUseful_137 ?_
            refine lv_iload_n hx hb qd_M_findUseful_140 rfl (lv_at hl 2 rfl) ?_
            obtain ⟨g_141, ho⟩ := ho
            refine va_iald hx hb hK hP 1 0 rfl rfl g_141 qd_M_findUseful_141 ?_
            obtain ⟨g_142, ho⟩ := ho
            refine va_zald hx hb hK hP 3 1 rfl rfl g_142 qd_M_findUseful_142 ?_
            refine lv_if_ne (tgt := 150) hx hb qd_M_findUseful_143 (by decide) (fun c_143 => ?_) (fun c_143 => ?_)
            rotate_left
            · exact absurd c_143 c_113
            refine lv_iconst (v := 1) hx hb qd_M_findUseful_150 (by decide) ?_
            refine lv_goto (tgt := 155) hx hb qd_M_findUseful_151 (by decide) ?_
            obtain ⟨g_155, ho⟩ := ho
            refine va_zast hx hb hK hP hD hS 3 1 rfl rfl g_155 qd_M_findUseful_155 (fun H locs hP hD hS => ?_)
            have hP : va_P (dC, dI) vwCl [(aM, .inr (7, [.int vMT, .int vMP, .ref aMh, .ref aMi, .ref aMc, .int vMK, .ref aMt, .int vMB, .ref aMn, .ref aMl, .ref aMs, .int vMD, .ref aMd, .int vME, .ref aMe, .int vMO, .ref aMo, .int vMF, .int vMS, .ref aMw, .ref aMu, .int vMX, .int vMW])), (aMh, .inl (cA, 24, .inl (vMh))), (aMi, .inl (cA, 72, .inl (vMi))), (aMu, .inl (cZ, 10, .inl (upd vMu_31 (vMh x2_31.toNatClampNeg).toNatClampNeg (vp_nar .boolean 1))))] H := hP
            have hD : va_D A [(aM, .inr (7, [.int vMT, .int vMP, .ref aMh, .ref aMi, .ref aMc, .int vMK, .ref aMt, .int vMB, .ref aMn, .ref aMl, .ref aMs, .int vMD, .ref aMd, .int vME, .ref aMe, .int vMO, .ref aMo, .int vMF, .int vMS, .ref aMw, .ref aMu, .int vMX, .int vMW])), (aMh, .inl (cA, 24, .inl (vMh))), (aMi, .inl (cA, 72, .inl (vMi))), (aMu, .inl (cZ, 10, .inl (upd vMu_31 (vMh x2_31.toNatClampNeg).toNatClampNeg (vp_nar .boolean 1))))] := hD
            refine lv_iinc (v := x2_31 + 1) (lv' := [(2, .int (x2_31 + 1)), (1, .int 0), (3, .int 1), (0, .ref aM)]) hx hb qd_M_findUseful_156 hl (k := 2) rfl (congrArg (fun z => _ + z) (by decide)) (by decide) rfl (fun ls hl => ?_)
            refine lv_goto (tgt := 31) hx hb qd_M_findUseful_159 (by decide) ?_
            exact ih 0 (x2_31 + 1) (upd vMu_31 (vMh x2_31.toNatClampNeg).toNatClampNeg (vp_nar .boolean 1)) H locs ls hP hD hS (lv_sub hl [0, 1, 3] rfl) hres ho
          have hres := hres.trans (if_pos c_113)
          have ho := (if_pos c_113).mp ho
          refine lv_iconst (v := 1) hx hb qd_M_findUseful_116 (by decide) ?_
          refine lv_goto (tgt := 121) hx hb qd_M_findUseful_117 (by decide) ?_
          refine lv_istore_n (lv' := [(1, .int 1), (3, .int 1), (2, .int x2_31), (0, .ref aM)]) hx hb qd_M_findUseful_121 rfl hl (by decide) rfl (fun ls hl => ?_)
          refine lv_aload_n hx hb qd_M_findUseful_122 rfl (lv_at hl 3 rfl) ?_
          refine va_get (D := (dC, dI)) (ci := 7) (v := .ref aMu) (C := qR_M) (T := qT_M) (N := 23) hx hb hg qi_M hown hK hP 0 rfl rfl 20 (by decide) (hg _ mw_594) (fun _ h9 => h9) rfl qd_M_findUseful_123 ?_
          refine lv_aload_n hx hb qd_M_findUseful_126 rfl (lv_at hl 3 rfl) ?_
          refine va_get (D := (dC, dI)) (ci := 7) (v := .ref aMh) (C := qR_M) (T := qT_M) (N := 23) hx hb hg qi_M hown hK hP 0 rfl rfl 2 (by decide) (hg _ mw_576) (fun _ h9 => h9) rfl qd_M_findUseful_127 ?_
          refine lv_iload_n hx hb qd_M_findUseful_130 rfl (lv_at hl 2 rfl) ?_
          obtain ⟨g_131, ho⟩ := ho
          refine va_iald hx hb hK hP 1 0 rfl rfl g_131 qd_M_findUseful_131 ?_
          refine lv_aload_n hx hb qd_M_findUseful_132 rfl (lv_at hl 3 rfl) ?_
          refine va_get (D := (dC, dI)) (ci := 7) (v := .ref aMu) (C := qR_M) (T := qT_M) (N := 23) hx hb hg qi_M hown hK hP 0 rfl rfl 20 (by decide) (hg _ mw_594) (fun _ h9 => h9) rfl qd_M_findUseful_133 ?_
          refine lv_aload_n hx hb qd_M_findUseful_136 rfl (lv_at hl 3 rfl) ?_
          refine va_get (D := (dC, dI)) (ci := 7) (v := .ref aMh) (C := qR_M) (T := qT_M) (N := 23) hx hb hg qi_M hown hK hP 0 rfl rfl 2 (by decide) (hg _ mw_576) (fun _ h9 => h9) rfl qd_M_findUseful_137 ?_
          refine lv_iload_n hx hb qd_M_findUseful_140 rfl (lv_at hl 2 rfl) ?_
          obtain ⟨g_141, ho⟩ := ho
          refine va_iald hx hb hK hP 1 0 rfl rfl g_141 qd_M_findUseful_141 ?_
          obtain ⟨g_142, ho⟩ := ho
          refine va_zald hx hb hK hP 3 1 rfl rfl g_142 qd_M_findUseful_142 ?_
          refine lv_if_ne (tgt := 150) hx hb qd_M_findUseful_143 (by decide) (fun c_143 => ?_) (fun c_143 => ?_)
          · exact absurd c_113 c_143
          refine lv_iload_n hx hb qd_M_findUseful_146 rfl (lv_at hl 1 rfl) ?_
          refine lv_if_eq (tgt := 154) hx hb qd_M_findUseful_147 (by decide) (fun c_147 => ?_) (fun c_147 => ?_)
          · exact absurd c_147 (by decide)
          refine lv_iconst (v := 1) hx hb qd_M_findUseful_150 (by decide) ?_
          refine lv_goto (tgt := 155) hx hb qd_M_findUseful_151 (by decide) ?_
          obtain ⟨g_155, ho⟩ := ho
          refine va_zast hx hb hK hP hD hS 3 1 rfl rfl g_155 qd_M_findUseful_155 (fun H locs hP hD hS => ?_)
          have hP : va_P (dC, dI) vwCl [(aM, .inr (7, [.int vMT, .int vMP, .ref aMh, .ref aMi, .ref aMc, .int vMK, .ref aMt, .int vMB, .ref aMn, .ref aMl, .ref aMs, .int vMD, .ref aMd, .int vME, .ref aMe, .int vMO, .ref aMo, .int vMF, .int vMS, .ref aMw, .ref aMu, .int vMX, .int vMW])), (aMh, .inl (cA, 24, .inl (vMh))), (aMi, .inl (cA, 72, .inl (vMi))), (aMu, .inl (cZ, 10, .inl (upd vMu_31 (vMh x2_31.toNatClampNeg).toNatClampNeg (vp_nar .boolean 1))))] H := hP
          have hD : va_D A [(aM, .inr (7, [.int vMT, .int vMP, .ref aMh, .ref aMi, .ref aMc, .int vMK, .ref aMt, .int vMB, .ref aMn, .ref aMl, .ref aMs, .int vMD, .ref aMd, .int vME, .ref aMe, .int vMO, .ref aMo, .int vMF, .int vMS, .ref aMw, .ref aMu, .int vMX, .int vMW])), (aMh, .inl (cA, 24, .inl (vMh))), (aMi, .inl (cA, 72, .inl (vMi))), (aMu, .inl (cZ, 10, .inl (upd vMu_31 (vMh x2_31.toNatClampNeg).toNatClampNeg (vp_nar .boolean 1))))] := hD
          refine lv_iinc (v := x2_31 + 1) (lv' := [(2, .int (x2_31 + 1)), (1, .int 1), (3, .int 1), (0, .ref aM)]) hx hb qd_M_findUseful_156 hl (k := 2) rfl (congrArg (fun z => _ + z) (by decide)) (by decide) rfl (fun ls hl => ?_)
          refine lv_goto (tgt := 31) hx hb qd_M_findUseful_159 (by decide) ?_
          exact ih 1 (x2_31 + 1) (upd vMu_31 (vMh x2_31.toNatClampNeg).toNatClampNeg (vp_nar .boolean 1)) H locs ls hP hD hS (lv_sub hl [0, 1, 3] rfl) hres ho
      refine L_31 _ _ (fun x1_31 x2_31 vMu_31 H locs ls hP hD hS hl hres ho => ?_) _ _ _ _ _ _ ls hP hD hS hl hres ho
      refine lv_goto (tgt := 23) hx hb qd_M_findUseful_162 (by decide) ?_
      exact ih x1_31 vMu_31 H locs ls hP hD hS (lv_sub hl [1, 2] rfl) hres ho
  refine L_23 _ _ (fun x1_23 vMu_23 H locs ls hP hD hS hl hres ho => ?_) _ _ _ _ _ ls hP hD hS hl hres ho
  subst hQ
  exact W.vret hx hb hr (fun t ht hW => ⟨⟨vMu_23, rfl, hres.symm, ⟨by rw [ht]; exact hP, va_K.moved hW.alike hK, x_N hN hW⟩, hD⟩, hS.F ht⟩) hS.2.2 qd_M_findUseful_165
theorem qd_M_want_0 : decode qc_M_want 0 = .ok (.iload_n 1, 1) := by decide +kernel
theorem qd_M_want_1 : decode qc_M_want 1 = .ok (.bipush 10, 2) := by decide +kernel
theorem qd_M_want_3 : decode qc_M_want 3 = .ok (.if_icmp .lt 33, 3) := by decide +kernel
theorem qd_M_want_6 : decode qc_M_want 6 = .ok (.aload_n 0, 1) := by decide +kernel
theorem qd_M_want_7 : decode qc_M_want 7 = .ok (.iload_n 2, 1) := by decide +kernel
theorem qd_M_want_8 : decode qc_M_want 8 = .ok (.iload_n 3, 1) := by decide +kernel
theorem qd_M_want_9 : decode qc_M_want 9 = .ok (.if_icmp .ne 17, 3) := by decide +kernel
theorem qd_M_want_12 : decode qc_M_want 12 = .ok (.aload_n 0, 1) := by decide +kernel
theorem qd_M_want_13 : decode qc_M_want 13 = .ok (.getfield 160, 3) := by decide +kernel
theorem qd_M_want_16 : decode qc_M_want 16 = .ok (.iconst 1, 1) := by decide +kernel
theorem qd_M_want_17 : decode qc_M_want 17 = .ok (.iload_n 1, 1) := by decide +kernel
theorem qd_M_want_18 : decode qc_M_want 18 = .ok (.bipush 10, 2) := by decide +kernel
theorem qd_M_want_20 : decode qc_M_want 20 = .ok (.isub, 1) := by decide +kernel
theorem qd_M_want_21 : decode qc_M_want 21 = .ok (.ishl, 1) := by decide +kernel
theorem qd_M_want_22 : decode qc_M_want 22 = .ok (.ior, 1) := by decide +kernel
theorem qd_M_want_23 : decode qc_M_want 23 = .ok (.goto 7, 3) := by decide +kernel
theorem qd_M_want_26 : decode qc_M_want 26 = .ok (.aload_n 0, 1) := by decide +kernel
theorem qd_M_want_27 : decode qc_M_want 27 = .ok (.getfield 160, 3) := by decide +kernel
theorem qd_M_want_30 : decode qc_M_want 30 = .ok (.putfield 160, 3) := by decide +kernel
theorem qd_M_want_33 : decode qc_M_want 33 = .ok (.goto 34, 3) := by decide +kernel
theorem qd_M_want_36 : decode qc_M_want 36 = .ok (.aload_n 0, 1) := by decide +kernel
theorem qd_M_want_37 : decode qc_M_want 37 = .ok (.getfield 41, 3) := by decide +kernel
theorem qd_M_want_40 : decode qc_M_want 40 = .ok (.bipush 10, 2) := by decide +kernel
theorem qd_M_want_42 : decode qc_M_want 42 = .ok (.iload_n 2, 1) := by decide +kernel
theorem qd_M_want_43 : decode qc_M_want 43 = .ok (.imul, 1) := by decide +kernel
theorem qd_M_want_44 : decode qc_M_want 44 = .ok (.iload_n 1, 1) := by decide +kernel
theorem qd_M_want_45 : decode qc_M_want 45 = .ok (.iadd, 1) := by decide +kernel
theorem qd_M_want_46 : decode qc_M_want 46 = .ok (.baload, 1) := by decide +kernel
theorem qd_M_want_47 : decode qc_M_want 47 = .ok (.ifCond .ne 20, 3) := by decide +kernel
theorem qd_M_want_50 : decode qc_M_want 50 = .ok (.aload_n 0, 1) := by decide +kernel
theorem qd_M_want_51 : decode qc_M_want 51 = .ok (.getfield 41, 3) := by decide +kernel
theorem qd_M_want_54 : decode qc_M_want 54 = .ok (.bipush 10, 2) := by decide +kernel
theorem qd_M_want_56 : decode qc_M_want 56 = .ok (.iload_n 2, 1) := by decide +kernel
theorem qd_M_want_57 : decode qc_M_want 57 = .ok (.imul, 1) := by decide +kernel
theorem qd_M_want_58 : decode qc_M_want 58 = .ok (.iload_n 1, 1) := by decide +kernel
theorem qd_M_want_59 : decode qc_M_want 59 = .ok (.iadd, 1) := by decide +kernel
theorem qd_M_want_60 : decode qc_M_want 60 = .ok (.iconst 1, 1) := by decide +kernel
theorem qd_M_want_61 : decode qc_M_want 61 = .ok (.bastore, 1) := by decide +kernel
theorem qd_M_want_62 : decode qc_M_want 62 = .ok (.aload_n 0, 1) := by decide +kernel
theorem qd_M_want_63 : decode qc_M_want 63 = .ok (.iconst 1, 1) := by decide +kernel
theorem qd_M_want_64 : decode qc_M_want 64 = .ok (.putfield 163, 3) := by decide +kernel
theorem qd_M_want_67 : decode qc_M_want 67 = .ok (.return_, 1) := by decide +kernel
set_option maxHeartbeats 4000000 in
set_option maxRecDepth 100000 in
theorem c_M_want (l : Launch) (dC : Nat → ClassId) (dI : Nat → Nat → Nat) (cA cZ : ClassId) (aM aMh aMi aMc aMt aMn aMl aMs aMd aMe aMo aMw aMu : Nat) (sz : Nat) (vMT : Int32) (vMP : Int32) (vMK : Int32) (vMB : Int32) (vMD : Int32) (vME : Int32) (vMO : Int32) (vMF : Int32) (vMS : Int32) (vMX : Int32) (vMW : Int32) (vMw : (Nat → Int32)) (p0 : Int32) (p1 : Int32) (p2 : Int32) (ho : o_M_want vMX vMW vMw p0 p1 p2) : Met l qy_M_want qw_M_want ({ frames := 0, cells := 0, slots := 0, locals := 0 }) (va_Pc [.ref aM, .int p0, .int p1, .int p2] (fun U => U.heap.size = sz ∧ xP (dC, dI) [(cA, .int), (cZ, .boolean)] [(aM, .inr (7, [.int vMT, .int vMP, .ref aMh, .ref aMi, .ref aMc, .int vMK, .ref aMt, .int vMB, .ref aMn, .ref aMl, .ref aMs, .int vMD, .ref aMd, .int vME, .ref aMe, .int vMO, .ref aMo, .int vMF, .int vMS, .ref aMw, .ref aMu, .int vMX, .int vMW])), (aMw, .inl (cZ, 250, .inl (vMw)))] nestN U ∧ va_D (fun _ => True) [(aM, .inr (7, [.int vMT, .int vMP, .ref aMh, .ref aMi, .ref aMc, .int vMK, .ref aMt, .int vMB, .ref aMn, .ref aMl, .ref aMs, .int vMD, .ref aMd, .int vME, .ref aMe, .int vMO, .ref aMo, .int vMF, .int vMS, .ref aMw, .ref aMu, .int vMX, .int vMW])), (aMw, .inl (cZ, 250, .inl (vMw)))])) (va_Qv (fun u => u = f_M_want vMX vMW vMw p0 p1 p2) (fun (u : Int32 × Int32 × (Nat → Int32)) t => xP (dC, dI) [(cA, .int), (cZ, .boolean)] [(aM, .inr (7, [.int vMT, .int vMP, .ref aMh, .ref aMi, .ref aMc, .int vMK, .ref aMt, .int vMB, .ref aMn, .ref aMl, .ref aMs, .int vMD, .ref aMd, .int vME, .ref aMe, .int vMO, .ref aMo, .int vMF, .int vMS, .ref aMw, .ref aMu, .int u.1, .int u.2.1])), (aMw, .inl (cZ, 250, .inl (u.2.2)))] nestN t ∧ va_D (va_A [(aM, .inr (7, [.int vMT, .int vMP, .ref aMh, .ref aMi, .ref aMc, .int vMK, .ref aMt, .int vMB, .ref aMn, .ref aMl, .ref aMs, .int vMD, .ref aMd, .int vME, .ref aMe, .int vMO, .ref aMo, .int vMF, .int vMS, .ref aMw, .ref aMu, .int vMX, .int vMW])), (aMw, .inl (cZ, 250, .inl (vMw)))] sz) [(aM, .inr (7, [.int vMT, .int vMP, .ref aMh, .ref aMi, .ref aMc, .int vMK, .ref aMt, .int vMB, .ref aMn, .ref aMl, .ref aMs, .int vMD, .ref aMd, .int vME, .ref aMe, .int vMO, .ref aMo, .int vMF, .int vMS, .ref aMw, .ref aMu, .int u.1, .int u.2.1])), (aMw, .inl (cZ, 250, .inl (u.2.2)))]) (va_A [(aM, .inr (7, [.int vMT, .int vMP, .ref aMh, .ref aMi, .ref aMc, .int vMK, .ref aMt, .int vMB, .ref aMn, .ref aMl, .ref aMs, .int vMD, .ref aMd, .int vME, .ref aMe, .int vMO, .ref aMo, .int vMF, .int vMS, .ref aMw, .ref aMu, .int vMX, .int vMW])), (aMw, .inl (cZ, 250, .inl (vMw)))] sz)) 0 0 (va_A [(aM, .inr (7, [.int vMT, .int vMP, .ref aMh, .ref aMi, .ref aMc, .int vMK, .ref aMt, .int vMB, .ref aMn, .ref aMl, .ref aMs, .int vMD, .ref aMd, .int vME, .ref aMe, .int vMO, .ref aMo, .int vMF, .int vMS, .ref aMw, .ref aMu, .int vMX, .int vMW])), (aMw, .inl (cZ, 250, .inl (vMw)))] sz) := by
  refine Met.ofW (cc := qc_M_want) (maxL := 4) (ret := (none)) (by decide) rfl ?_
  intro p e s m args below meth c s₁ B hml hv
  obtain ⟨rfl, hsz, ⟨hP, hK, hN⟩, hD0⟩ := hv
  have hx := B.exec
  have hb := B.bytes
  have hr := B.returns
  have hts := atoms_spec (ws := qw_M_want) B.pre
  have hg : ∀ w ∈ gG, w.before _ s = true := fun w h => hts w (List.mem_cons_of_mem _ h)
  have hown : s.vm.findClass qR_M = some m.cls := findClass_of_methodNamed B.named
  have hlocks := B.notSynchronized
  subst hsz
  have hD := hD0.self (sz := s.heap.size)
  generalize hAe : va_A [(aM, .inr (7, [.int vMT, .int vMP, .ref aMh, .ref aMi, .ref aMc, .int vMK, .ref aMt, .int vMB, .ref aMn, .ref aMl, .ref aMs, .int vMD, .ref aMd, .int vME, .ref aMe, .int vMO, .ref aMo, .int vMF, .int vMS, .ref aMw, .ref aMu, .int vMX, .int vMW])), (aMw, .inl (cZ, 250, .inl (vMw)))] s.heap.size = A at hD ⊢
  have hA : ∀ q : Nat, s.heap.size ≤ q → A q := fun q h => by rw [← hAe]; exact Or.inr h
  have hS : va_S A s.heap s.heap [] := va_S.rf
  have hP : va_P (dC, dI) vwCl [(aM, .inr (7, [.int vMT, .int vMP, .ref aMh, .ref aMi, .ref aMc, .int vMK, .ref aMt, .int vMB, .ref aMn, .ref aMl, .ref aMs, .int vMD, .ref aMd, .int vME, .ref aMe, .int vMO, .ref aMo, .int vMF, .int vMS, .ref aMw, .ref aMu, .int vMX, .int vMW])), (aMw, .inl (cZ, 250, .inl (vMw)))] s.heap := hP
  have hl := lv_entry ([.ref aM, .int p0, .int p1, .int p2]) (n := 4) (Nat.le_of_ble_eq_true rfl)
  rw [lg_entry_eq]
  generalize (lg_sl ([.ref aM, .int p0, .int p1, .int p2]) ++ List.replicate (4 - (lg_sl ([.ref aM, .int p0, .int p1, .int p2])).length) Slot.unset).toArray = ls at hl ⊢
  have hl : lv_has ls 4 [(0, .ref aM), (1, .int p0), (2, .int p1), (3, .int p2)] := hl
  generalize hF : f_M_want vMX vMW vMw p0 p1 p2 = Fv
  have hres : Fv = f_M_want vMX vMW vMw p0 p1 p2 := hF.symm
  unfold f_M_want at hres
  unfold o_M_want at ho
  refine lv_iload_n hx hb qd_M_want_0 rfl (lv_at hl 1 rfl) ?_
  refine lv_bipush (v := 10) hx hb qd_M_want_1 (by decide) ?_
  refine lv_icmp_lt (tgt := 36) hx hb qd_M_want_3 (by decide) (fun c_3 => ?_) (fun c_3 => ?_)
  · have hres := hres.trans (if_pos c_3)
    have ho := (if_pos c_3).mp ho
    refine lv_aload_n hx hb qd_M_want_36 rfl (lv_at hl 0 rfl) ?_
    refine va_get (D := (dC, dI)) (ci := 7) (v := .ref aMw) (C := qR_M) (T := qT_M) (N := 23) hx hb hg qi_M hown hK hP 0 rfl rfl 19 (by decide) (hg _ mw_593) (fun _ h9 => h9) rfl qd_M_want_37 ?_
    refine lv_bipush (v := 10) hx hb qd_M_want_40 (by decide) ?_
    refine lv_iload_n hx hb qd_M_want_42 rfl (lv_at hl 2 rfl) ?_
    refine lv_imul hx hb qd_M_want_43 ?_
    refine lv_iload_n hx hb qd_M_want_44 rfl (lv_at hl 1 rfl) ?_
    refine lv_iadd hx hb qd_M_want_45 ?_
    obtain ⟨g_46, ho⟩ := ho
    refine va_zald hx hb hK hP 1 1 rfl rfl g_46 qd_M_want_46 ?_
    refine lv_if_ne (tgt := 67) hx hb qd_M_want_47 (by decide) (fun c_47 => ?_) (fun c_47 => ?_)
    · have hres := hres.trans (if_neg c_47)
      have ho := (if_neg c_47).mp ho
      exact W.vret hx hb hr (fun t ht hW => ⟨⟨(vMX, vMW, vMw), rfl, hres.symm, ⟨by rw [ht]; exact hP, va_K.moved hW.alike hK, x_N hN hW⟩, hD⟩, hS.F ht⟩) hS.2.2 qd_M_want_67
    have hres := hres.trans (if_pos c_47)
    have ho := (if_pos c_47).mp ho
    refine lv_aload_n hx hb qd_M_want_50 rfl (lv_at hl 0 rfl) ?_
    refine va_get (D := (dC, dI)) (ci := 7) (v := .ref aMw) (C := qR_M) (T := qT_M) (N := 23) hx hb hg qi_M hown hK hP 0 rfl rfl 19 (by decide) (hg _ mw_593) (fun _ h9 => h9) rfl qd_M_want_51 ?_
    refine lv_bipush (v := 10) hx hb qd_M_want_54 (by decide) ?_
    refine lv_iload_n hx hb qd_M_want_56 rfl (lv_at hl 2 rfl) ?_
    refine lv_imul hx hb qd_M_want_57 ?_
    refine lv_iload_n hx hb qd_M_want_58 rfl (lv_at hl 1 rfl) ?_
    refine lv_iadd hx hb qd_M_want_59 ?_
    refine lv_iconst (v := 1) hx hb qd_M_want_60 (by decide) ?_
    obtain ⟨g_61, ho⟩ := ho
    refine va_zast hx hb hK hP hD hS 1 1 rfl rfl g_61 qd_M_want_61 (fun H locs hP hD hS => ?_)
    have hP : va_P (dC, dI) vwCl [(aM, .inr (7, [.int vMT, .int vMP, .ref aMh, .ref aMi, .ref aMc, .int vMK, .ref aMt, .int vMB, .ref aMn, .ref aMl, .ref aMs, .int vMD, .ref aMd, .int vME, .ref aMe, .int vMO, .ref aMo, .int vMF, .int vMS, .ref aMw, .ref aMu, .int vMX, .int vMW])), (aMw, .inl (cZ, 250, .inl (upd vMw ((10 * p1) + p0).toNatClampNeg (vp_nar .boolean 1))))] H := hP
    have hD : va_D A [(aM, .inr (7, [.int vMT, .int vMP, .ref aMh, .ref aMi, .ref aMc, .int vMK, .ref aMt, .int vMB, .ref aMn, .ref aMl, .ref aMs, .int vMD, .ref aMd, .int vME, .ref aMe, .int vMO, .ref aMo, .int vMF, .int vMS, .ref aMw, .ref aMu, .int vMX, .int vMW])), (aMw, .inl (cZ, 250, .inl (upd vMw ((10 * p1) + p0).toNatClampNeg (vp_nar .boolean 1))))] := hD
    refine lv_aload_n hx hb qd_M_want_62 rfl (lv_at hl 0 rfl) ?_
    refine lv_iconst (v := 1) hx hb qd_M_want_63 (by decide) ?_
    refine va_put (D := (dC, dI)) (ci := 7) (v := .int 1) (ty := .boolean) (C := qR_M) (T := qT_M) (N := 23) hx hb hg qi_M qt_M qk_M qn_M hown hK hP hD hS 0 rfl rfl 22 (by decide) (hg _ mw_596) (fun _ h9 => h9) rfl (by decide +kernel) rfl rfl (Nat.le_of_ble_eq_true rfl) qd_M_want_64 (fun H locs hP hD hS => ?_)
    have hP : va_P (dC, dI) vwCl [(aM, .inr (7, [.int vMT, .int vMP, .ref aMh, .ref aMi, .ref aMc, .int vMK, .ref aMt, .int vMB, .ref aMn, .ref aMl, .ref aMs, .int vMD, .ref aMd, .int vME, .ref aMe, .int vMO, .ref aMo, .int vMF, .int vMS, .ref aMw, .ref aMu, .int vMX, .int 1])), (aMw, .inl (cZ, 250, .inl (upd vMw ((10 * p1) + p0).toNatClampNeg (vp_nar .boolean 1))))] H := hP
    have hD : va_D A [(aM, .inr (7, [.int vMT, .int vMP, .ref aMh, .ref aMi, .ref aMc, .int vMK, .ref aMt, .int vMB, .ref aMn, .ref aMl, .ref aMs, .int vMD, .ref aMd, .int vME, .ref aMe, .int vMO, .ref aMo, .int vMF, .int vMS, .ref aMw, .ref aMu, .int vMX, .int 1])), (aMw, .inl (cZ, 250, .inl (upd vMw ((10 * p1) + p0).toNatClampNeg (vp_nar .boolean 1))))] := hD
    exact W.vret hx hb hr (fun t ht hW => ⟨⟨(vMX, 1, upd vMw ((10 * p1) + p0).toNatClampNeg (vp_nar .boolean 1)), rfl, hres.symm, ⟨by rw [ht]; exact hP, va_K.moved hW.alike hK, x_N hN hW⟩, hD⟩, hS.F ht⟩) hS.2.2 qd_M_want_67
  have hres := hres.trans (if_neg c_3)
  have ho := (if_neg c_3).mp ho
  refine lv_aload_n hx hb qd_M_want_6 rfl (lv_at hl 0 rfl) ?_
  refine lv_iload_n hx hb qd_M_want_7 rfl (lv_at hl 2 rfl) ?_
  refine lv_iload_n hx hb qd_M_want_8 rfl (lv_at hl 3 rfl) ?_
  refine lv_icmp_ne (tgt := 26) hx hb qd_M_want_9 (by decide) (fun c_9 => ?_) (fun c_9 => ?_)
  · have hres := hres.trans (if_neg c_9)
    have ho := (if_neg c_9).mp ho
    refine lv_aload_n hx hb qd_M_want_26 rfl (lv_at hl 0 rfl) ?_
    refine va_get (D := (dC, dI)) (ci := 7) (v := .int vMX) (C := qR_M) (T := qT_M) (N := 23) hx hb hg qi_M hown hK hP 0 rfl rfl 21 (by decide) (hg _ mw_595) (fun _ h9 => h9) rfl qd_M_want_27 ?_
    refine va_put (D := (dC, dI)) (ci := 7) (v := .int vMX) (ty := .int) (C := qR_M) (T := qT_M) (N := 23) hx hb hg qi_M qt_M qk_M qn_M hown hK hP hD hS 0 rfl rfl 21 (by decide) (hg _ mw_595) (fun _ h9 => h9) rfl (by decide +kernel) rfl rfl (Nat.le_of_ble_eq_true rfl) qd_M_want_30 (fun H locs hP hD hS => ?_)
    have hP : va_P (dC, dI) vwCl [(aM, .inr (7, [.int vMT, .int vMP, .ref aMh, .ref aMi, .ref aMc, .int vMK, .ref aMt, .int vMB, .ref aMn, .ref aMl, .ref aMs, .int vMD, .ref aMd, .int vME, .ref aMe, .int vMO, .ref aMo, .int vMF, .int vMS, .ref aMw, .ref aMu, .int vMX, .int vMW])), (aMw, .inl (cZ, 250, .inl (vMw)))] H := hP
    have hD : va_D A [(aM, .inr (7, [.int vMT, .int vMP, .ref aMh, .ref aMi, .ref aMc, .int vMK, .ref aMt, .int vMB, .ref aMn, .ref aMl, .ref aMs, .int vMD, .ref aMd, .int vME, .ref aMe, .int vMO, .ref aMo, .int vMF, .int vMS, .ref aMw, .ref aMu, .int vMX, .int vMW])), (aMw, .inl (cZ, 250, .inl (vMw)))] := hD
    refine lv_goto (tgt := 67) hx hb qd_M_want_33 (by decide) ?_
    exact W.vret hx hb hr (fun t ht hW => ⟨⟨(vMX, vMW, vMw), rfl, hres.symm, ⟨by rw [ht]; exact hP, va_K.moved hW.alike hK, x_N hN hW⟩, hD⟩, hS.F ht⟩) hS.2.2 qd_M_want_67
  have hres := hres.trans (if_pos c_9)
  have ho := (if_pos c_9).mp ho
  refine lv_aload_n hx hb qd_M_want_12 rfl (lv_at hl 0 rfl) ?_
  refine va_get (D := (dC, dI)) (ci := 7) (v := .int vMX) (C := qR_M) (T := qT_M) (N := 23) hx hb hg qi_M hown hK hP 0 rfl rfl 21 (by decide) (hg _ mw_595) (fun _ h9 => h9) rfl qd_M_want_13 ?_
  refine lv_iconst (v := 1) hx hb qd_M_want_16 (by decide) ?_
  refine lv_iload_n hx hb qd_M_want_17 rfl (lv_at hl 1 rfl) ?_
  refine lv_bipush (v := 10) hx hb qd_M_want_18 (by decide) ?_
  refine lv_isub hx hb qd_M_want_20 ?_
  refine lv_ishl hx hb qd_M_want_21 ?_
  refine lv_ior hx hb qd_M_want_22 ?_
  refine lv_goto (tgt := 30) hx hb qd_M_want_23 (by decide) ?_
  refine va_put (D := (dC, dI)) (ci := 7) (v := .int (vMX ||| ((1 : Int32) <<< ((p0 - 10) &&& 31)))) (ty := .int) (C := qR_M) (T := qT_M) (N := 23) hx hb hg qi_M qt_M qk_M qn_M hown hK hP hD hS 0 rfl rfl 21 (by decide) (hg _ mw_595) (fun _ h9 => h9) rfl (by decide +kernel) rfl rfl (Nat.le_of_ble_eq_true rfl) qd_M_want_30 (fun H locs hP hD hS => ?_)
  have hP : va_P (dC, dI) vwCl [(aM, .inr (7, [.int vMT, .int vMP, .ref aMh, .ref aMi, .ref aMc, .int vMK, .ref aMt, .int vMB, .ref aMn, .ref aMl, .ref aMs, .int vMD, .ref aMd, .int vME, .ref aMe, .int vMO, .ref aMo, .int vMF, .int vMS, .ref aMw, .ref aMu, .int (vMX ||| ((1 : Int32) <<< ((p0 - 10) &&& 31))), .int vMW])), (aMw, .inl (cZ, 250, .inl (vMw)))] H := hP
  have hD : va_D A [(aM, .inr (7, [.int vMT, .int vMP, .ref aMh, .ref aMi, .ref aMc, .int vMK, .ref aMt, .int vMB, .ref aMn, .ref aMl, .ref aMs, .int vMD, .ref aMd, .int vME, .ref aMe, .int vMO, .ref aMo, .int vMF, .int vMS, .ref aMw, .ref aMu, .int (vMX ||| ((1 : Int32) <<< ((p0 - 10) &&& 31))), .int vMW])), (aMw, .inl (cZ, 250, .inl (vMw)))] := hD
  refine lv_goto (tgt := 67) hx hb qd_M_want_33 (by decide) ?_
  exact W.vret hx hb hr (fun t ht hW => ⟨⟨(vMX ||| ((1 : Int32) <<< ((p0 - 10) &&& 31)), vMW, vMw), rfl, hres.symm, ⟨by rw [ht]; exact hP, va_K.moved hW.alike hK, x_N hN hW⟩, hD⟩, hS.F ht⟩) hS.2.2 qd_M_want_67
theorem qd_M_wants_0 : decode qc_M_wants 0 = .ok (.aload_n 0, 1) := by decide +kernel
theorem qd_M_wants_1 : decode qc_M_wants 1 = .ok (.aload_n 0, 1) := by decide +kernel
theorem qd_M_wants_2 : decode qc_M_wants 2 = .ok (.getfield 13, 3) := by decide +kernel
theorem qd_M_wants_5 : decode qc_M_wants 5 = .ok (.iconst 3, 1) := by decide +kernel
theorem qd_M_wants_6 : decode qc_M_wants 6 = .ok (.iload_n 1, 1) := by decide +kernel
theorem qd_M_wants_7 : decode qc_M_wants 7 = .ok (.imul, 1) := by decide +kernel
theorem qd_M_wants_8 : decode qc_M_wants 8 = .ok (.iaload, 1) := by decide +kernel
theorem qd_M_wants_9 : decode qc_M_wants 9 = .ok (.iload_n 2, 1) := by decide +kernel
theorem qd_M_wants_10 : decode qc_M_wants 10 = .ok (.iload_n 3, 1) := by decide +kernel
theorem qd_M_wants_11 : decode qc_M_wants 11 = .ok (.invokevirtual 166, 3) := by decide +kernel
theorem qd_M_wants_14 : decode qc_M_wants 14 = .ok (.iload_n 2, 1) := by decide +kernel
theorem qd_M_wants_15 : decode qc_M_wants 15 = .ok (.iconst 1, 1) := by decide +kernel
theorem qd_M_wants_16 : decode qc_M_wants 16 = .ok (.iadd, 1) := by decide +kernel
theorem qd_M_wants_17 : decode qc_M_wants 17 = .ok (.istore 4, 2) := by decide +kernel
theorem qd_M_wants_19 : decode qc_M_wants 19 = .ok (.iload 4, 2) := by decide +kernel
theorem qd_M_wants_21 : decode qc_M_wants 21 = .ok (.iload_n 3, 1) := by decide +kernel
theorem qd_M_wants_22 : decode qc_M_wants 22 = .ok (.if_icmp .gt 118, 3) := by decide +kernel
theorem qd_M_wants_25 : decode qc_M_wants 25 = .ok (.aload_n 0, 1) := by decide +kernel
theorem qd_M_wants_26 : decode qc_M_wants 26 = .ok (.iload_n 1, 1) := by decide +kernel
theorem qd_M_wants_27 : decode qc_M_wants 27 = .ok (.invokevirtual 91, 3) := by decide +kernel
theorem qd_M_wants_30 : decode qc_M_wants 30 = .ok (.iconst 1, 1) := by decide +kernel
theorem qd_M_wants_31 : decode qc_M_wants 31 = .ok (.if_icmp .le 109, 3) := by decide +kernel
theorem qd_M_wants_34 : decode qc_M_wants 34 = .ok (.aload_n 0, 1) := by decide +kernel
theorem qd_M_wants_35 : decode qc_M_wants 35 = .ok (.aload_n 0, 1) := by decide +kernel
theorem qd_M_wants_36 : decode qc_M_wants 36 = .ok (.getfield 13, 3) := by decide +kernel
theorem qd_M_wants_39 : decode qc_M_wants 39 = .ok (.iconst 3, 1) := by decide +kernel
theorem qd_M_wants_40 : decode qc_M_wants 40 = .ok (.iload_n 1, 1) := by decide +kernel
theorem qd_M_wants_41 : decode qc_M_wants 41 = .ok (.imul, 1) := by decide +kernel
theorem qd_M_wants_42 : decode qc_M_wants 42 = .ok (.iaload, 1) := by decide +kernel
theorem qd_M_wants_43 : decode qc_M_wants 43 = .ok (.iload_n 2, 1) := by decide +kernel
theorem qd_M_wants_44 : decode qc_M_wants 44 = .ok (.iload 4, 2) := by decide +kernel
theorem qd_M_wants_46 : decode qc_M_wants 46 = .ok (.invokevirtual 88, 3) := by decide +kernel
theorem qd_M_wants_49 : decode qc_M_wants 49 = .ok (.ifCond .le 85, 3) := by decide +kernel
theorem qd_M_wants_52 : decode qc_M_wants 52 = .ok (.aload_n 0, 1) := by decide +kernel
theorem qd_M_wants_53 : decode qc_M_wants 53 = .ok (.aload_n 0, 1) := by decide +kernel
theorem qd_M_wants_54 : decode qc_M_wants 54 = .ok (.getfield 13, 3) := by decide +kernel
theorem qd_M_wants_57 : decode qc_M_wants 57 = .ok (.iconst 3, 1) := by decide +kernel
theorem qd_M_wants_58 : decode qc_M_wants 58 = .ok (.iload_n 1, 1) := by decide +kernel
theorem qd_M_wants_59 : decode qc_M_wants 59 = .ok (.imul, 1) := by decide +kernel
theorem qd_M_wants_60 : decode qc_M_wants 60 = .ok (.iconst 1, 1) := by decide +kernel
theorem qd_M_wants_61 : decode qc_M_wants 61 = .ok (.iadd, 1) := by decide +kernel
theorem qd_M_wants_62 : decode qc_M_wants 62 = .ok (.iaload, 1) := by decide +kernel
theorem qd_M_wants_63 : decode qc_M_wants 63 = .ok (.iload 4, 2) := by decide +kernel
theorem qd_M_wants_65 : decode qc_M_wants 65 = .ok (.iload_n 3, 1) := by decide +kernel
theorem qd_M_wants_66 : decode qc_M_wants 66 = .ok (.invokevirtual 166, 3) := by decide +kernel
theorem qd_M_wants_69 : decode qc_M_wants 69 = .ok (.iload 4, 2) := by decide +kernel
theorem qd_M_wants_71 : decode qc_M_wants 71 = .ok (.iconst 1, 1) := by decide +kernel
theorem qd_M_wants_72 : decode qc_M_wants 72 = .ok (.iadd, 1) := by decide +kernel
theorem qd_M_wants_73 : decode qc_M_wants 73 = .ok (.istore 5, 2) := by decide +kernel
theorem qd_M_wants_75 : decode qc_M_wants 75 = .ok (.iload 5, 2) := by decide +kernel
theorem qd_M_wants_77 : decode qc_M_wants 77 = .ok (.iload_n 3, 1) := by decide +kernel
theorem qd_M_wants_78 : decode qc_M_wants 78 = .ok (.if_icmp .gt 56, 3) := by decide +kernel
theorem qd_M_wants_81 : decode qc_M_wants 81 = .ok (.aload_n 0, 1) := by decide +kernel
theorem qd_M_wants_82 : decode qc_M_wants 82 = .ok (.iload_n 1, 1) := by decide +kernel
theorem qd_M_wants_83 : decode qc_M_wants 83 = .ok (.invokevirtual 91, 3) := by decide +kernel
theorem qd_M_wants_86 : decode qc_M_wants 86 = .ok (.iconst 2, 1) := by decide +kernel
theorem qd_M_wants_87 : decode qc_M_wants 87 = .ok (.if_icmp .le 47, 3) := by decide +kernel
theorem qd_M_wants_90 : decode qc_M_wants 90 = .ok (.aload_n 0, 1) := by decide +kernel
theorem qd_M_wants_91 : decode qc_M_wants 91 = .ok (.aload_n 0, 1) := by decide +kernel
theorem qd_M_wants_92 : decode qc_M_wants 92 = .ok (.getfield 13, 3) := by decide +kernel
theorem qd_M_wants_95 : decode qc_M_wants 95 = .ok (.iconst 3, 1) := by decide +kernel
theorem qd_M_wants_96 : decode qc_M_wants 96 = .ok (.iload_n 1, 1) := by decide +kernel
theorem qd_M_wants_97 : decode qc_M_wants 97 = .ok (.imul, 1) := by decide +kernel
theorem qd_M_wants_98 : decode qc_M_wants 98 = .ok (.iconst 1, 1) := by decide +kernel
theorem qd_M_wants_99 : decode qc_M_wants 99 = .ok (.iadd, 1) := by decide +kernel
theorem qd_M_wants_100 : decode qc_M_wants 100 = .ok (.iaload, 1) := by decide +kernel
theorem qd_M_wants_101 : decode qc_M_wants 101 = .ok (.iload 4, 2) := by decide +kernel
theorem qd_M_wants_103 : decode qc_M_wants 103 = .ok (.iload 5, 2) := by decide +kernel
theorem qd_M_wants_105 : decode qc_M_wants 105 = .ok (.invokevirtual 88, 3) := by decide +kernel
theorem qd_M_wants_108 : decode qc_M_wants 108 = .ok (.ifCond .le 20, 3) := by decide +kernel
theorem qd_M_wants_111 : decode qc_M_wants 111 = .ok (.aload_n 0, 1) := by decide +kernel
theorem qd_M_wants_112 : decode qc_M_wants 112 = .ok (.aload_n 0, 1) := by decide +kernel
theorem qd_M_wants_113 : decode qc_M_wants 113 = .ok (.getfield 13, 3) := by decide +kernel
theorem qd_M_wants_116 : decode qc_M_wants 116 = .ok (.iconst 3, 1) := by decide +kernel
theorem qd_M_wants_117 : decode qc_M_wants 117 = .ok (.iload_n 1, 1) := by decide +kernel
theorem qd_M_wants_118 : decode qc_M_wants 118 = .ok (.imul, 1) := by decide +kernel
theorem qd_M_wants_119 : decode qc_M_wants 119 = .ok (.iconst 2, 1) := by decide +kernel
theorem qd_M_wants_120 : decode qc_M_wants 120 = .ok (.iadd, 1) := by decide +kernel
theorem qd_M_wants_121 : decode qc_M_wants 121 = .ok (.iaload, 1) := by decide +kernel
theorem qd_M_wants_122 : decode qc_M_wants 122 = .ok (.iload 5, 2) := by decide +kernel
theorem qd_M_wants_124 : decode qc_M_wants 124 = .ok (.iload_n 3, 1) := by decide +kernel
theorem qd_M_wants_125 : decode qc_M_wants 125 = .ok (.invokevirtual 166, 3) := by decide +kernel
theorem qd_M_wants_128 : decode qc_M_wants 128 = .ok (.iinc 5 1, 3) := by decide +kernel
theorem qd_M_wants_131 : decode qc_M_wants 131 = .ok (.goto (-56), 3) := by decide +kernel
theorem qd_M_wants_134 : decode qc_M_wants 134 = .ok (.iinc 4 1, 3) := by decide +kernel
theorem qd_M_wants_137 : decode qc_M_wants 137 = .ok (.goto (-118), 3) := by decide +kernel
theorem qd_M_wants_140 : decode qc_M_wants 140 = .ok (.return_, 1) := by decide +kernel
set_option maxHeartbeats 4000000 in
set_option maxRecDepth 100000 in
theorem c_M_wants (l : Launch) (dC : Nat → ClassId) (dI : Nat → Nat → Nat) (cA cZ : ClassId) (N_ : Nat) (aM aMh aMi aMc aMt aMn aMl aMs aMd aMe aMo aMw aMu : Nat) (sz : Nat) (vMT : Int32) (vMP : Int32) (vMK : Int32) (vMB : Int32) (vMD : Int32) (vME : Int32) (vMO : Int32) (vMF : Int32) (vMS : Int32) (vMX : Int32) (vMW : Int32) (vMi : (Nat → Int32)) (vMt : (Nat → Int32)) (vMn : (Nat → Int32)) (vMw : (Nat → Int32)) (p0 : Int32) (p1 : Int32) (p2 : Int32) (ho : o_M_wants N_ vMX vMW vMi vMt vMn vMw p0 p1 p2) : Met l qy_M_wants qw_M_wants ({ frames := 2, cells := 0, slots := 0, locals := 45 }) (va_Pc [.ref aM, .int p0, .int p1, .int p2] (fun U => U.heap.size = sz ∧ xP (dC, dI) [(cA, .int), (cZ, .boolean)] [(aM, .inr (7, [.int vMT, .int vMP, .ref aMh, .ref aMi, .ref aMc, .int vMK, .ref aMt, .int vMB, .ref aMn, .ref aMl, .ref aMs, .int vMD, .ref aMd, .int vME, .ref aMe, .int vMO, .ref aMo, .int vMF, .int vMS, .ref aMw, .ref aMu, .int vMX, .int vMW])), (aMi, .inl (cA, 72, .inl (vMi))), (aMt, .inl (cA, 24, .inl (vMt))), (aMn, .inl (cA, 6250, .inl (vMn))), (aMw, .inl (cZ, 250, .inl (vMw)))] nestN U ∧ va_D (fun _ => True) [(aM, .inr (7, [.int vMT, .int vMP, .ref aMh, .ref aMi, .ref aMc, .int vMK, .ref aMt, .int vMB, .ref aMn, .ref aMl, .ref aMs, .int vMD, .ref aMd, .int vME, .ref aMe, .int vMO, .ref aMo, .int vMF, .int vMS, .ref aMw, .ref aMu, .int vMX, .int vMW])), (aMi, .inl (cA, 72, .inl (vMi))), (aMt, .inl (cA, 24, .inl (vMt))), (aMn, .inl (cA, 6250, .inl (vMn))), (aMw, .inl (cZ, 250, .inl (vMw)))])) (va_Qv (fun u => u = f_M_wants N_ vMX vMW vMi vMt vMn vMw p0 p1 p2) (fun (u : Int32 × Int32 × (Nat → Int32)) t => xP (dC, dI) [(cA, .int), (cZ, .boolean)] [(aM, .inr (7, [.int vMT, .int vMP, .ref aMh, .ref aMi, .ref aMc, .int vMK, .ref aMt, .int vMB, .ref aMn, .ref aMl, .ref aMs, .int vMD, .ref aMd, .int vME, .ref aMe, .int vMO, .ref aMo, .int vMF, .int vMS, .ref aMw, .ref aMu, .int u.1, .int u.2.1])), (aMi, .inl (cA, 72, .inl (vMi))), (aMt, .inl (cA, 24, .inl (vMt))), (aMn, .inl (cA, 6250, .inl (vMn))), (aMw, .inl (cZ, 250, .inl (u.2.2)))] nestN t ∧ va_D (va_A [(aM, .inr (7, [.int vMT, .int vMP, .ref aMh, .ref aMi, .ref aMc, .int vMK, .ref aMt, .int vMB, .ref aMn, .ref aMl, .ref aMs, .int vMD, .ref aMd, .int vME, .ref aMe, .int vMO, .ref aMo, .int vMF, .int vMS, .ref aMw, .ref aMu, .int vMX, .int vMW])), (aMi, .inl (cA, 72, .inl (vMi))), (aMt, .inl (cA, 24, .inl (vMt))), (aMn, .inl (cA, 6250, .inl (vMn))), (aMw, .inl (cZ, 250, .inl (vMw)))] sz) [(aM, .inr (7, [.int vMT, .int vMP, .ref aMh, .ref aMi, .ref aMc, .int vMK, .ref aMt, .int vMB, .ref aMn, .ref aMl, .ref aMs, .int vMD, .ref aMd, .int vME, .ref aMe, .int vMO, .ref aMo, .int vMF, .int vMS, .ref aMw, .ref aMu, .int u.1, .int u.2.1])), (aMi, .inl (cA, 72, .inl (vMi))), (aMt, .inl (cA, 24, .inl (vMt))), (aMn, .inl (cA, 6250, .inl (vMn))), (aMw, .inl (cZ, 250, .inl (u.2.2)))]) (va_A [(aM, .inr (7, [.int vMT, .int vMP, .ref aMh, .ref aMi, .ref aMc, .int vMK, .ref aMt, .int vMB, .ref aMn, .ref aMl, .ref aMs, .int vMD, .ref aMd, .int vME, .ref aMe, .int vMO, .ref aMo, .int vMF, .int vMS, .ref aMw, .ref aMu, .int vMX, .int vMW])), (aMi, .inl (cA, 72, .inl (vMi))), (aMt, .inl (cA, 24, .inl (vMt))), (aMn, .inl (cA, 6250, .inl (vMn))), (aMw, .inl (cZ, 250, .inl (vMw)))] sz)) 0 0 (va_A [(aM, .inr (7, [.int vMT, .int vMP, .ref aMh, .ref aMi, .ref aMc, .int vMK, .ref aMt, .int vMB, .ref aMn, .ref aMl, .ref aMs, .int vMD, .ref aMd, .int vME, .ref aMe, .int vMO, .ref aMo, .int vMF, .int vMS, .ref aMw, .ref aMu, .int vMX, .int vMW])), (aMi, .inl (cA, 72, .inl (vMi))), (aMt, .inl (cA, 24, .inl (vMt))), (aMn, .inl (cA, 6250, .inl (vMn))), (aMw, .inl (cZ, 250, .inl (vMw)))] sz) := by
  refine Met.ofW (cc := qc_M_wants) (maxL := 6) (ret := (none)) (by decide) rfl ?_
  intro p e s m args below meth c s₁ B hml hv
  obtain ⟨rfl, hsz, ⟨hP, hK, hN⟩, hD0⟩ := hv
  have hx := B.exec
  have hb := B.bytes
  have hr := B.returns
  have hts := atoms_spec (ws := qw_M_wants) B.pre
  have hg : ∀ w ∈ gG, w.before _ s = true := fun w h => hts w (List.mem_cons_of_mem _ h)
  have hown : s.vm.findClass qR_M = some m.cls := findClass_of_methodNamed B.named
  have hlocks := B.notSynchronized
  subst hsz
  have hD := hD0.self (sz := s.heap.size)
  generalize hAe : va_A [(aM, .inr (7, [.int vMT, .int vMP, .ref aMh, .ref aMi, .ref aMc, .int vMK, .ref aMt, .int vMB, .ref aMn, .ref aMl, .ref aMs, .int vMD, .ref aMd, .int vME, .ref aMe, .int vMO, .ref aMo, .int vMF, .int vMS, .ref aMw, .ref aMu, .int vMX, .int vMW])), (aMi, .inl (cA, 72, .inl (vMi))), (aMt, .inl (cA, 24, .inl (vMt))), (aMn, .inl (cA, 6250, .inl (vMn))), (aMw, .inl (cZ, 250, .inl (vMw)))] s.heap.size = A at hD ⊢
  have hA : ∀ q : Nat, s.heap.size ≤ q → A q := fun q h => by rw [← hAe]; exact Or.inr h
  have hS : va_S A s.heap s.heap [] := va_S.rf
  have hP : va_P (dC, dI) vwCl [(aM, .inr (7, [.int vMT, .int vMP, .ref aMh, .ref aMi, .ref aMc, .int vMK, .ref aMt, .int vMB, .ref aMn, .ref aMl, .ref aMs, .int vMD, .ref aMd, .int vME, .ref aMe, .int vMO, .ref aMo, .int vMF, .int vMS, .ref aMw, .ref aMu, .int vMX, .int vMW])), (aMi, .inl (cA, 72, .inl (vMi))), (aMt, .inl (cA, 24, .inl (vMt))), (aMn, .inl (cA, 6250, .inl (vMn))), (aMw, .inl (cZ, 250, .inl (vMw)))] s.heap := hP
  have hl := lv_entry ([.ref aM, .int p0, .int p1, .int p2]) (n := 6) (Nat.le_of_ble_eq_true rfl)
  rw [lg_entry_eq]
  generalize (lg_sl ([.ref aM, .int p0, .int p1, .int p2]) ++ List.replicate (6 - (lg_sl ([.ref aM, .int p0, .int p1, .int p2])).length) Slot.unset).toArray = ls at hl ⊢
  have hl : lv_has ls 6 [(0, .ref aM), (1, .int p0), (2, .int p1), (3, .int p2)] := hl
  generalize hF : f_M_wants N_ vMX vMW vMi vMt vMn vMw p0 p1 p2 = Fv
  have hres : Fv = f_M_wants N_ vMX vMW vMi vMt vMn vMw p0 p1 p2 := hF.symm
  unfold f_M_wants at hres
  unfold o_M_wants at ho
  generalize hQ : MQ _ _ _ _ _ _ _ = Qg
  refine lv_aload_n hx hb qd_M_wants_0 rfl (lv_at hl 0 rfl) ?_
  refine lv_aload_n hx hb qd_M_wants_1 rfl (lv_at hl 0 rfl) ?_
  refine va_get (D := (dC, dI)) (ci := 7) (v := .ref aMi) (C := qR_M) (T := qT_M) (N := 23) hx hb hg qi_M hown hK hP 0 rfl rfl 3 (by decide) (hg _ mw_577) (fun _ h9 => h9) rfl qd_M_wants_2 ?_
  refine lv_iconst (v := 3) hx hb qd_M_wants_5 (by decide) ?_
  refine lv_iload_n hx hb qd_M_wants_6 rfl (lv_at hl 1 rfl) ?_
  refine lv_imul hx hb qd_M_wants_7 ?_
  obtain ⟨g_8, ho⟩ := ho
  refine va_iald hx hb hK hP 1 0 rfl rfl g_8 qd_M_wants_8 ?_
  refine lv_iload_n hx hb qd_M_wants_9 rfl (lv_at hl 2 rfl) ?_
  refine lv_iload_n hx hb qd_M_wants_10 rfl (lv_at hl 3 rfl) ?_
  obtain ⟨g_11, ho⟩ := ho
  refine xm_Vv (As := [.int (vMi (3 * p0).toNatClampNeg), .int p1, .int p2]) (rest := []) (w1 := fun (u_11 : Int32 × Int32 × (Nat → Int32)) => [(aM, .inr (7, [.int vMT, .int vMP, .ref aMh, .ref aMi, .ref aMc, .int vMK, .ref aMt, .int vMB, .ref aMn, .ref aMl, .ref aMs, .int vMD, .ref aMd, .int vME, .ref aMe, .int vMO, .ref aMo, .int vMF, .int vMS, .ref aMw, .ref aMu, .int u_11.1, .int u_11.2.1])), (aMw, .inl (cZ, 250, .inl (u_11.2.2)))]) (w2 := fun (u_11 : Int32 × Int32 × (Nat → Int32)) => [(aM, .inr (7, [.int vMT, .int vMP, .ref aMh, .ref aMi, .ref aMc, .int vMK, .ref aMt, .int vMB, .ref aMn, .ref aMl, .ref aMs, .int vMD, .ref aMd, .int vME, .ref aMe, .int vMO, .ref aMo, .int vMF, .int vMS, .ref aMw, .ref aMu, .int u_11.1, .int u_11.2.1])), (aMi, .inl (cA, 72, .inl (vMi))), (aMt, .inl (cA, 24, .inl (vMt))), (aMn, .inl (cA, 6250, .inl (vMn))), (aMw, .inl (cZ, 250, .inl (u_11.2.2)))]) ⟨hx, hb, hml, hown, hg⟩ (c_M_want l dC dI cA cZ aM aMh aMi aMc aMt aMn aMl aMs aMd aMe aMo aMw aMu _ vMT vMP vMK vMB vMD vME vMO vMF vMS vMX vMW vMw (vMi (3 * p0).toNatClampNeg) p1 p2 g_11) (cwV 3 hg (q_gV mw_740 mw_741 mw_789 mw_8 mw_742) rfl rfl rfl qh_M_want ⟨Nat.le_of_ble_eq_true rfl, Nat.le_of_ble_eq_true rfl⟩) hN hK hP hD hS hA [0, 4] [1, 2, 3] rfl rfl (by decide) (by decide) (by decide) [3, 0, 1, 2, 4] (fun _ => rfl) (by decide) 0 7 rfl rfl rfl hl.1 rfl (Nat.le_of_ble_eq_true rfl) qd_M_wants_11 ⟨Nat.zero_le _, Nat.zero_le _⟩ (fun u_11 H locs w_11 hP hD hS => ?_)
  have hP : va_P (dC, dI) vwCl [(aM, .inr (7, [.int vMT, .int vMP, .ref aMh, .ref aMi, .ref aMc, .int vMK, .ref aMt, .int vMB, .ref aMn, .ref aMl, .ref aMs, .int vMD, .ref aMd, .int vME, .ref aMe, .int vMO, .ref aMo, .int vMF, .int vMS, .ref aMw, .ref aMu, .int u_11.1, .int u_11.2.1])), (aMi, .inl (cA, 72, .inl (vMi))), (aMt, .inl (cA, 24, .inl (vMt))), (aMn, .inl (cA, 6250, .inl (vMn))), (aMw, .inl (cZ, 250, .inl (u_11.2.2)))] H := hP
  have hD : va_D A [(aM, .inr (7, [.int vMT, .int vMP, .ref aMh, .ref aMi, .ref aMc, .int vMK, .ref aMt, .int vMB, .ref aMn, .ref aMl, .ref aMs, .int vMD, .ref aMd, .int vME, .ref aMe, .int vMO, .ref aMo, .int vMF, .int vMS, .ref aMw, .ref aMu, .int u_11.1, .int u_11.2.1])), (aMi, .inl (cA, 72, .inl (vMi))), (aMt, .inl (cA, 24, .inl (vMt))), (aMn, .inl (cA, 6250, .inl (vMn))), (aMw, .inl (cZ, 250, .inl (u_11.2.2)))] := hD
  have hres := hres.trans (bd_eq w_11)
  have ho := (bd_eq w_11).mp ho
  refine lv_iload_n hx hb qd_M_wants_14 rfl (lv_at hl 2 rfl) ?_
  refine lv_iconst (v := 1) hx hb qd_M_wants_15 (by decide) ?_
  refine lv_iadd hx hb qd_M_wants_16 ?_
  refine lv_istore (lv' := [(4, .int (p1 + 1)), (0, .ref aM), (1, .int p0), (2, .int p1), (3, .int p2)]) hx hb qd_M_wants_17 hl (by decide) rfl (fun ls hl => ?_)
  have L_19 : ∀ (K_ : Int32 → Int32 → Int32 → (Nat → Int32) → Int32 × Int32 × (Nat → Int32)) (Ko_ : Int32 → Int32 → Int32 → (Nat → Int32) → Prop) (hk : ∀ (x4_19 : Int32) (vMX_19 : Int32) (vMW_19 : Int32) (vMw_19 : (Nat → Int32)) (H : Heap) (locs : List Loc) (ls : Array Slot), va_P (dC, dI) vwCl [(aM, .inr (7, [.int vMT, .int vMP, .ref aMh, .ref aMi, .ref aMc, .int vMK, .ref aMt, .int vMB, .ref aMn, .ref aMl, .ref aMs, .int vMD, .ref aMd, .int vME, .ref aMe, .int vMO, .ref aMo, .int vMF, .int vMS, .ref aMw, .ref aMu, .int vMX_19, .int vMW_19])), (aMi, .inl (cA, 72, .inl (vMi))), (aMt, .inl (cA, 24, .inl (vMt))), (aMn, .inl (cA, 6250, .inl (vMn))), (aMw, .inl (cZ, 250, .inl (vMw_19)))] H → va_D A [(aM, .inr (7, [.int vMT, .int vMP, .ref aMh, .ref aMi, .ref aMc, .int vMK, .ref aMt, .int vMB, .ref aMn, .ref aMl, .ref aMs, .int vMD, .ref aMd, .int vME, .ref aMe, .int vMO, .ref aMo, .int vMF, .int vMS, .ref aMw, .ref aMu, .int vMX_19, .int vMW_19])), (aMi, .inl (cA, 72, .inl (vMi))), (aMt, .inl (cA, 24, .inl (vMt))), (aMn, .inl (cA, 6250, .inl (vMn))), (aMw, .inl (cZ, 250, .inl (vMw_19)))] → va_S A s.heap H locs → lv_has ls 6 [(4, .int x4_19), (0, .ref aM), (1, .int p0), (2, .int p1), (3, .int p2)] → Fv = K_ x4_19 vMX_19 vMW_19 vMw_19 → Ko_ x4_19 vMX_19 vMW_19 vMw_19 → W p l e ({ frames := 2, cells := 0, slots := 0, locals := 45 } : Room) s m (([.ref aM, .int p0, .int p1, .int p2] : List Value).toArray) below meth c H locs 0 0 Qg (F0 m 140 ls [])) (n : Nat) (x4_19 : Int32) (vMX_19 : Int32) (vMW_19 : Int32) (vMw_19 : (Nat → Int32)) (H : Heap) (locs : List Loc) (ls : Array Slot), va_P (dC, dI) vwCl [(aM, .inr (7, [.int vMT, .int vMP, .ref aMh, .ref aMi, .ref aMc, .int vMK, .ref aMt, .int vMB, .ref aMn, .ref aMl, .ref aMs, .int vMD, .ref aMd, .int vME, .ref aMe, .int vMO, .ref aMo, .int vMF, .int vMS, .ref aMw, .ref aMu, .int vMX_19, .int vMW_19])), (aMi, .inl (cA, 72, .inl (vMi))), (aMt, .inl (cA, 24, .inl (vMt))), (aMn, .inl (cA, 6250, .inl (vMn))), (aMw, .inl (cZ, 250, .inl (vMw_19)))] H → va_D A [(aM, .inr (7, [.int vMT, .int vMP, .ref aMh, .ref aMi, .ref aMc, .int vMK, .ref aMt, .int vMB, .ref aMn, .ref aMl, .ref aMs, .int vMD, .ref aMd, .int vME, .ref aMe, .int vMO, .ref aMo, .int vMF, .int vMS, .ref aMw, .ref aMu, .int vMX_19, .int vMW_19])), (aMi, .inl (cA, 72, .inl (vMi))), (aMt, .inl (cA, 24, .inl (vMt))), (aMn, .inl (cA, 6250, .inl (vMn))), (aMw, .inl (cZ, 250, .inl (vMw_19)))] → va_S A s.heap H locs → lv_has ls 6 [(4, .int x4_19), (0, .ref aM), (1, .int p0), (2, .int p1), (3, .int p2)] → Fv = l_M_wants_19 N_ p0 p1 p2 vMi vMt vMn K_ n x4_19 vMX_19 vMW_19 vMw_19 → ol_M_wants_19 N_ p0 p1 p2 vMi vMt vMn Ko_ n x4_19 vMX_19 vMW_19 vMw_19 → W p l e ({ frames := 2, cells := 0, slots := 0, locals := 45 } : Room) s m (([.ref aM, .int p0, .int p1, .int p2] : List Value).toArray) below meth c H locs 0 0 Qg (F0 m 19 ls []) := by
    intro K_ Ko_ hk n
    induction n with
    | zero => intro x4_19 vMX_19 vMW_19 vMw_19 H locs ls hP hD hS hl hres ho; exact ho.elim
    | succ n ih =>
      intro x4_19 vMX_19 vMW_19 vMw_19 H locs ls hP hD hS hl hres ho
      rw [l_M_wants_19, s_M_wants_19] at hres
      rw [ol_M_wants_19, os_M_wants_19] at ho
      refine lv_iload hx hb qd_M_wants_19 (lv_at hl 0 rfl) ?_
      refine lv_iload_n hx hb qd_M_wants_21 rfl (lv_at hl 4 rfl) ?_
      refine lv_icmp_gt (tgt := 140) hx hb qd_M_wants_22 (by decide) (fun c_22 => ?_) (fun c_22 => ?_)
      · have hres := hres.trans (if_pos c_22)
        have ho := (if_pos c_22).mp ho
        exact hk x4_19 vMX_19 vMW_19 vMw_19 H locs ls hP hD hS (lv_sub hl [0, 1, 2, 3, 4] rfl) hres ho
      have hres := hres.trans (if_neg c_22)
      have ho := (if_neg c_22).mp ho
      refine lv_aload_n hx hb qd_M_wants_25 rfl (lv_at hl 1 rfl) ?_
      refine lv_iload_n hx hb qd_M_wants_26 rfl (lv_at hl 2 rfl) ?_
      obtain ⟨g_27, ho⟩ := ho
      refine xc_V (As := [.int p0]) (rest := []) ⟨hx, hb, hml, hown, hg⟩ (c_M_length l dC dI cA cZ aM aMh aMi aMc aMt aMn aMl aMs aMd aMe aMo aMw aMu vMT vMP vMK vMB vMD vME vMO vMF vMS vMX_19 vMW_19 vMi p0 g_27) (cwV 1 hg (q_gV mw_673 mw_674 mw_776 mw_8 mw_675) rfl rfl rfl qh_M_length ⟨Nat.le_of_ble_eq_true rfl, Nat.le_of_ble_eq_true rfl⟩) hN hK hP [0, 1] rfl 0 7 rfl rfl rfl hl.1 rfl (Nat.le_of_ble_eq_true rfl) qd_M_wants_27 ⟨Nat.zero_le _, Nat.zero_le _⟩ ?_
      refine lv_topi (fun r_27 w_27 => ?_)
      have hres := hres.trans (bd_eq w_27)
      have ho := (bd_eq w_27).mp ho
      refine lv_iconst (v := 1) hx hb qd_M_wants_30 (by decide) ?_
      refine lv_icmp_le (tgt := 140) hx hb qd_M_wants_31 (by decide) (fun c_31 => ?_) (fun c_31 => ?_)
      · have hres := hres.trans (if_pos c_31)
        have ho := (if_pos c_31).mp ho
        exact hk x4_19 vMX_19 vMW_19 vMw_19 H locs ls hP hD hS (lv_sub hl [0, 1, 2, 3, 4] rfl) hres ho
      have hres := hres.trans (if_neg c_31)
      have ho := (if_neg c_31).mp ho
      refine lv_aload_n hx hb qd_M_wants_34 rfl (lv_at hl 1 rfl) ?_
      refine lv_aload_n hx hb qd_M_wants_35 rfl (lv_at hl 1 rfl) ?_
      refine va_get (D := (dC, dI)) (ci := 7) (v := .ref aMi) (C := qR_M) (T := qT_M) (N := 23) hx hb hg qi_M hown hK hP 0 rfl rfl 3 (by decide) (hg _ mw_577) (fun _ h9 => h9) rfl qd_M_wants_36 ?_
      refine lv_iconst (v := 3) hx hb qd_M_wants_39 (by decide) ?_
      refine lv_iload_n hx hb qd_M_wants_40 rfl (lv_at hl 2 rfl) ?_
      refine lv_imul hx hb qd_M_wants_41 ?_
      obtain ⟨g_42, ho⟩ := ho
      refine va_iald hx hb hK hP 1 0 rfl rfl g_42 qd_M_wants_42 ?_
      refine lv_iload_n hx hb qd_M_wants_43 rfl (lv_at hl 3 rfl) ?_
      refine lv_iload hx hb qd_M_wants_44 (lv_at hl 0 rfl) ?_
      obtain ⟨g_46, ho⟩ := ho
      refine xc_V (As := [.int (vMi (3 * p0).toNatClampNeg), .int p1, .int x4_19]) (rest := []) ⟨hx, hb, hml, hown, hg⟩ (c_M_many l dC dI cA cZ aM aMh aMi aMc aMt aMn aMl aMs aMd aMe aMo aMw aMu vMT vMP vMK vMB vMD vME vMO vMF vMS vMX_19 vMW_19 vMt vMn (vMi (3 * p0).toNatClampNeg) p1 x4_19 g_46) (cwV 3 hg (q_gV mw_682 mw_683 mw_779 mw_8 mw_684) rfl rfl rfl qh_M_many ⟨Nat.le_of_ble_eq_true rfl, Nat.le_of_ble_eq_true rfl⟩) hN hK hP [0, 2, 3] rfl 0 7 rfl rfl rfl hl.1 rfl (Nat.le_of_ble_eq_true rfl) qd_M_wants_46 ⟨Nat.zero_le _, Nat.zero_le _⟩ ?_
      refine lv_topi (fun r_46 w_46 => ?_)
      have hres := hres.trans (bd_eq w_46)
      have ho := (bd_eq w_46).mp ho
      refine lv_if_le (tgt := 134) hx hb qd_M_wants_49 (by decide) (fun c_49 => ?_) (fun c_49 => ?_)
      · have hres := hres.trans (if_pos c_49)
        have ho := (if_pos c_49).mp ho
        refine lv_iinc (v := x4_19 + 1) (lv' := [(4, .int (x4_19 + 1)), (0, .ref aM), (1, .int p0), (2, .int p1), (3, .int p2)]) hx hb qd_M_wants_134 hl (k := 0) rfl (congrArg (fun z => _ + z) (by decide)) (by decide) rfl (fun ls hl => ?_)
        refine lv_goto (tgt := 19) hx hb qd_M_wants_137 (by decide) ?_
        exact ih (x4_19 + 1) vMX_19 vMW_19 vMw_19 H locs ls hP hD hS (lv_sub hl [0, 1, 2, 3, 4] rfl) hres ho
      have hres := hres.trans (if_neg c_49)
      have ho := (if_neg c_49).mp ho
      refine lv_aload_n hx hb qd_M_wants_52 rfl (lv_at hl 1 rfl) ?_
      refine lv_aload_n hx hb qd_M_wants_53 rfl (lv_at hl 1 rfl) ?_
      refine va_get (D := (dC, dI)) (ci := 7) (v := .ref aMi) (C := qR_M) (T := qT_M) (N := 23) hx hb hg qi_M hown hK hP 0 rfl rfl 3 (by decide) (hg _ mw_577) (fun _ h9 => h9) rfl qd_M_wants_54 ?_
      refine lv_iconst (v := 3) hx hb qd_M_wants_57 (by decide) ?_
      refine lv_iload_n hx hb qd_M_wants_58 rfl (lv_at hl 2 rfl) ?_
      refine lv_imul hx hb qd_M_wants_59 ?_
      refine lv_iconst (v := 1) hx hb qd_M_wants_60 (by decide) ?_
      refine lv_iadd hx hb qd_M_wants_61 ?_
      obtain ⟨g_62, ho⟩ := ho
      refine va_iald hx hb hK hP 1 0 rfl rfl g_62 qd_M_wants_62 ?_
      refine lv_iload hx hb qd_M_wants_63 (lv_at hl 0 rfl) ?_
      refine lv_iload_n hx hb qd_M_wants_65 rfl (lv_at hl 4 rfl) ?_
      obtain ⟨g_66, ho⟩ := ho
      refine xm_Vv (As := [.int (vMi ((3 * p0) + 1).toNatClampNeg), .int x4_19, .int p2]) (rest := []) (w1 := fun (u_66 : Int32 × Int32 × (Nat → Int32)) => [(aM, .inr (7, [.int vMT, .int vMP, .ref aMh, .ref aMi, .ref aMc, .int vMK, .ref aMt, .int vMB, .ref aMn, .ref aMl, .ref aMs, .int vMD, .ref aMd, .int vME, .ref aMe, .int vMO, .ref aMo, .int vMF, .int vMS, .ref aMw, .ref aMu, .int u_66.1, .int u_66.2.1])), (aMw, .inl (cZ, 250, .inl (u_66.2.2)))]) (w2 := fun (u_66 : Int32 × Int32 × (Nat → Int32)) => [(aM, .inr (7, [.int vMT, .int vMP, .ref aMh, .ref aMi, .ref aMc, .int vMK, .ref aMt, .int vMB, .ref aMn, .ref aMl, .ref aMs, .int vMD, .ref aMd, .int vME, .ref aMe, .int vMO, .ref aMo, .int vMF, .int vMS, .ref aMw, .ref aMu, .int u_66.1, .int u_66.2.1])), (aMi, .inl (cA, 72, .inl (vMi))), (aMt, .inl (cA, 24, .inl (vMt))), (aMn, .inl (cA, 6250, .inl (vMn))), (aMw, .inl (cZ, 250, .inl (u_66.2.2)))]) ⟨hx, hb, hml, hown, hg⟩ (c_M_want l dC dI cA cZ aM aMh aMi aMc aMt aMn aMl aMs aMd aMe aMo aMw aMu _ vMT vMP vMK vMB vMD vME vMO vMF vMS vMX_19 vMW_19 vMw_19 (vMi ((3 * p0) + 1).toNatClampNeg) x4_19 p2 g_66) (cwV 3 hg (q_gV mw_740 mw_741 mw_789 mw_8 mw_742) rfl rfl rfl qh_M_want ⟨Nat.le_of_ble_eq_true rfl, Nat.le_of_ble_eq_true rfl⟩) hN hK hP hD hS hA [0, 4] [1, 2, 3] rfl rfl (by decide) (by decide) (by decide) [3, 0, 1, 2, 4] (fun _ => rfl) (by decide) 0 7 rfl rfl rfl hl.1 rfl (Nat.le_of_ble_eq_true rfl) qd_M_wants_66 ⟨Nat.zero_le _, Nat.zero_le _⟩ (fun u_66 H locs w_66 hP hD hS => ?_)
      have hP : va_P (dC, dI) vwCl [(aM, .inr (7, [.int vMT, .int vMP, .ref aMh, .ref aMi, .ref aMc, .int vMK, .ref aMt, .int vMB, .ref aMn, .ref aMl, .ref aMs, .int vMD, .ref aMd, .int vME, .ref aMe, .int vMO, .ref aMo, .int vMF, .int vMS, .ref aMw, .ref aMu, .int u_66.1, .int u_66.2.1])), (aMi, .inl (cA, 72, .inl (vMi))), (aMt, .inl (cA, 24, .inl (vMt))), (aMn, .inl (cA, 6250, .inl (vMn))), (aMw, .inl (cZ, 250, .inl (u_66.2.2)))] H := hP
      have hD : va_D A [(aM, .inr (7, [.int vMT, .int vMP, .ref aMh, .ref aMi, .ref aMc, .int vMK, .ref aMt, .int vMB, .ref aMn, .ref aMl, .ref aMs, .int vMD, .ref aMd, .int vME, .ref aMe, .int vMO, .ref aMo, .int vMF, .int vMS, .ref aMw, .ref aMu, .int u_66.1, .int u_66.2.1])), (aMi, .inl (cA, 72, .inl (vMi))), (aMt, .inl (cA, 24, .inl (vMt))), (aMn, .inl (cA, 6250, .inl (vMn))), (aMw, .inl (cZ, 250, .inl (u_66.2.2)))] := hD
      have hres := hres.trans (bd_eq w_66)
      have ho := (bd_eq w_66).mp ho
      refine lv_iload hx hb qd_M_wants_69 (lv_at hl 0 rfl) ?_
      refine lv_iconst (v := 1) hx hb qd_M_wants_71 (by decide) ?_
      refine lv_iadd hx hb qd_M_wants_72 ?_
      refine lv_istore (lv' := [(5, .int (x4_19 + 1)), (4, .int x4_19), (0, .ref aM), (1, .int p0), (2, .int p1), (3, .int p2)]) hx hb qd_M_wants_73 hl (by decide) rfl (fun ls hl => ?_)
      have L_75 : ∀ (K_ : Int32 → Int32 → Int32 → (Nat → Int32) → Int32 × Int32 × (Nat → Int32)) (Ko_ : Int32 → Int32 → Int32 → (Nat → Int32) → Prop) (hk : ∀ (x5_75 : Int32) (vMX_75 : Int32) (vMW_75 : Int32) (vMw_75 : (Nat → Int32)) (H : Heap) (locs : List Loc) (ls : Array Slot), va_P (dC, dI) vwCl [(aM, .inr (7, [.int vMT, .int vMP, .ref aMh, .ref aMi, .ref aMc, .int vMK, .ref aMt, .int vMB, .ref aMn, .ref aMl, .ref aMs, .int vMD, .ref aMd, .int vME, .ref aMe, .int vMO, .ref aMo, .int vMF, .int vMS, .ref aMw, .ref aMu, .int vMX_75, .int vMW_75])), (aMi, .inl (cA, 72, .inl (vMi))), (aMt, .inl (cA, 24, .inl (vMt))), (aMn, .inl (cA, 6250, .inl (vMn))), (aMw, .inl (cZ, 250, .inl (vMw_75)))] H → va_D A [(aM, .inr (7, [.int vMT, .int vMP, .ref aMh, .ref aMi, .ref aMc, .int vMK, .ref aMt, .int vMB, .ref aMn, .ref aMl, .ref aMs, .int vMD, .ref aMd, .int vME, .ref aMe, .int vMO, .ref aMo, .int vMF, .int vMS, .ref aMw, .ref aMu, .int vMX_75, .int vMW_75])), (aMi, .inl (cA, 72, .inl (vMi))), (aMt, .inl (cA, 24, .inl (vMt))), (aMn, .inl (cA, 6250, .inl (vMn))), (aMw, .inl (cZ, 250, .inl (vMw_75)))] → va_S A s.heap H locs → lv_has ls 6 [(5, .int x5_75), (4, .int x4_19), (0, .ref aM), (1, .int p0), (2, .int p1), (3, .int p2)] → Fv = K_ x5_75 vMX_75 vMW_75 vMw_75 → Ko_ x5_75 vMX_75 vMW_75 vMw_75 → W p l e ({ frames := 2, cells := 0, slots := 0, locals := 45 } : Room) s m (([.ref aM, .int p0, .int p1, .int p2] : List Value).toArray) below meth c H locs 0 0 Qg (F0 m 134 ls [])) (n : Nat) (x5_75 : Int32) (vMX_75 : Int32) (vMW_75 : Int32) (vMw_75 : (Nat → Int32)) (H : Heap) (locs : List Loc) (ls : Array Slot), va_P (dC, dI) vwCl [(aM, .inr (7, [.int vMT, .int vMP, .ref aMh, .ref aMi, .ref aMc, .int vMK, .ref aMt, .int vMB, .ref aMn, .ref aMl, .ref aMs, .int vMD, .ref aMd, .int vME, .ref aMe, .int vMO, .ref aMo, .int vMF, .int vMS, .ref aMw, .ref aMu, .int vMX_75, .int vMW_75])), (aMi, .inl (cA, 72, .inl (vMi))), (aMt, .inl (cA, 24, .inl (vMt))), (aMn, .inl (cA, 6250, .inl (vMn))), (aMw, .inl (cZ, 250, .inl (vMw_75)))] H → va_D A [(aM, .inr (7, [.int vMT, .int vMP, .ref aMh, .ref aMi, .ref aMc, .int vMK, .ref aMt, .int vMB, .ref aMn, .ref aMl, .ref aMs, .int vMD, .ref aMd, .int vME, .ref aMe, .int vMO, .ref aMo, .int vMF, .int vMS, .ref aMw, .ref aMu, .int vMX_75, .int vMW_75])), (aMi, .inl (cA, 72, .inl (vMi))), (aMt, .inl (cA, 24, .inl (vMt))), (aMn, .inl (cA, 6250, .inl (vMn))), (aMw, .inl (cZ, 250, .inl (vMw_75)))] → va_S A s.heap H locs → lv_has ls 6 [(5, .int x5_75), (4, .int x4_19), (0, .ref aM), (1, .int p0), (2, .int p1), (3, .int p2)] → Fv = l_M_wants_75 p0 p2 x4_19 vMi vMt vMn K_ n x5_75 vMX_75 vMW_75 vMw_75 → ol_M_wants_75 p0 p2 x4_19 vMi vMt vMn Ko_ n x5_75 vMX_75 vMW_75 vMw_75 → W p l e ({ frames := 2, cells := 0, slots := 0, locals := 45 } : Room) s m (([.ref aM, .int p0, .int p1, .int p2] : List Value).toArray) below meth c H locs 0 0 Qg (F0 m 75 ls []) := by
        intro K_ Ko_ hk n
        induction n with
        | zero => intro x5_75 vMX_75 vMW_75 vMw_75 H locs ls hP hD hS hl hres ho; exact ho.elim
        | succ n ih =>
          intro x5_75 vMX_75 vMW_75 vMw_75 H locs ls hP hD hS hl hres ho
          rw [l_M_wants_75, s_M_wants_75] at hres
          rw [ol_M_wants_75, os_M_wants_75] at ho
          refine lv_iload hx hb qd_M_wants_75 (lv_at hl 0 rfl) ?_
          refine lv_iload_n hx hb qd_M_wants_77 rfl (lv_at hl 5 rfl) ?_
          refine lv_icmp_gt (tgt := 134) hx hb qd_M_wants_78 (by decide) (fun c_78 => ?_) (fun c_78 => ?_)
          · have hres := hres.trans (if_pos c_78)
            have ho := (if_pos c_78).mp ho
            exact hk x5_75 vMX_75 vMW_75 vMw_75 H locs ls hP hD hS (lv_sub hl [0, 1, 2, 3, 4, 5] rfl) hres ho
          have hres := hres.trans (if_neg c_78)
          have ho := (if_neg c_78).mp ho
          refine lv_aload_n hx hb qd_M_wants_81 rfl (lv_at hl 2 rfl) ?_
          refine lv_iload_n hx hb qd_M_wants_82 rfl (lv_at hl 3 rfl) ?_
          obtain ⟨g_83, ho⟩ := ho
          refine xc_V (As := [.int p0]) (rest := []) ⟨hx, hb, hml, hown, hg⟩ (c_M_length l dC dI cA cZ aM aMh aMi aMc aMt aMn aMl aMs aMd aMe aMo aMw aMu vMT vMP vMK vMB vMD vME vMO vMF vMS vMX_75 vMW_75 vMi p0 g_83) (cwV 1 hg (q_gV mw_673 mw_674 mw_776 mw_8 mw_675) rfl rfl rfl qh_M_length ⟨Nat.le_of_ble_eq_true rfl, Nat.le_of_ble_eq_true rfl⟩) hN hK hP [0, 1] rfl 0 7 rfl rfl rfl hl.1 rfl (Nat.le_of_ble_eq_true rfl) qd_M_wants_83 ⟨Nat.zero_le _, Nat.zero_le _⟩ ?_
          refine lv_topi (fun r_83 w_83 => ?_)
          have hres := hres.trans (bd_eq w_83)
          have ho := (bd_eq w_83).mp ho
          refine lv_iconst (v := 2) hx hb qd_M_wants_86 (by decide) ?_
          refine lv_icmp_le (tgt := 134) hx hb qd_M_wants_87 (by decide) (fun c_87 => ?_) (fun c_87 => ?_)
          · have hres := hres.trans (if_pos c_87)
            have ho := (if_pos c_87).mp ho
            exact hk x5_75 vMX_75 vMW_75 vMw_75 H locs ls hP hD hS (lv_sub hl [0, 1, 2, 3, 4, 5] rfl) hres ho
          have hres := hres.trans (if_neg c_87)
          have ho := (if_neg c_87).mp ho
          refine lv_aload_n hx hb qd_M_wants_90 rfl (lv_at hl 2 rfl) ?_
          refine lv_aload_n hx hb qd_M_wants_91 rfl (lv_at hl 2 rfl) ?_
          refine va_get (D := (dC, dI)) (ci := 7) (v := .ref aMi) (C := qR_M) (T := qT_M) (N := 23) hx hb hg qi_M hown hK hP 0 rfl rfl 3 (by decide) (hg _ mw_577) (fun _ h9 => h9) rfl qd_M_wants_92 ?_
          refine lv_iconst (v := 3) hx hb qd_M_wants_95 (by decide) ?_
          refine lv_iload_n hx hb qd_M_wants_96 rfl (lv_at hl 3 rfl) ?_
          refine lv_imul hx hb qd_M_wants_97 ?_
          refine lv_iconst (v := 1) hx hb qd_M_wants_98 (by decide) ?_
          refine lv_iadd hx hb qd_M_wants_99 ?_
          obtain ⟨g_100, ho⟩ := ho
          refine va_iald hx hb hK hP 1 0 rfl rfl g_100 qd_M_wants_100 ?_
          refine lv_iload hx hb qd_M_wants_101 (lv_at hl 1 rfl) ?_
          refine lv_iload hx hb qd_M_wants_103 (lv_at hl 0 rfl) ?_
          obtain ⟨g_105, ho⟩ := ho
          refine xc_V (As := [.int (vMi ((3 * p0) + 1).toNatClampNeg), .int x4_19, .int x5_75]) (rest := []) ⟨hx, hb, hml, hown, hg⟩ (c_M_many l dC dI cA cZ aM aMh aMi aMc aMt aMn aMl aMs aMd aMe aMo aMw aMu vMT vMP vMK vMB vMD vME vMO vMF vMS vMX_75 vMW_75 vMt vMn (vMi ((3 * p0) + 1).toNatClampNeg) x4_19 x5_75 g_105) (cwV 3 hg (q_gV mw_682 mw_683 mw_779 mw_8 mw_684) rfl rfl rfl qh_M_many ⟨Nat.le_of_ble_eq_true rfl, Nat.le_of_ble_eq_true rfl⟩) hN hK hP [0, 2, 3] rfl 0 7 rfl rfl rfl hl.1 rfl (Nat.le_of_ble_eq_true rfl) qd_M_wants_105 ⟨Nat.zero_le _, Nat.zero_le _⟩ ?_
          refine lv_topi (fun r_105 w_105 => ?_)
          have hres := hres.trans (bd_eq w_105)
          have ho := (bd_eq w_105).mp ho
          refine lv_if_le (tgt := 128) hx hb qd_M_wants_108 (by decide) (fun c_108 => ?_) (fun c_108 => ?_)
          · have hres := hres.trans (if_pos c_108)
            have ho := (if_pos c_108).mp ho
            refine lv_iinc (v := x5_75 + 1) (lv' := [(5, .int (x5_75 + 1)), (4, .int x4_19), (0, .ref aM), (1, .int p0), (2, .int p1), (3, .int p2)]) hx hb qd_M_wants_128 hl (k := 0) rfl (congrArg (fun z => _ + z) (by decide)) (by decide) rfl (fun ls hl => ?_)
            refine lv_goto (tgt := 75) hx hb qd_M_wants_131 (by decide) ?_
            exact ih (x5_75 + 1) vMX_75 vMW_75 vMw_75 H locs ls hP hD hS (lv_sub hl [0, 1, 2, 3, 4, 5] rfl) hres ho
          have hres := hres.trans (if_neg c_108)
          have ho := (if_neg c_108).mp ho
          refine lv_aload_n hx hb qd_M_wants_111 rfl (lv_at hl 2 rfl) ?_
          refine lv_aload_n hx hb qd_M_wants_112 rfl (lv_at hl 2 rfl) ?_
          refine va_get (D := (dC, dI)) (ci := 7) (v := .ref aMi) (C := qR_M) (T := qT_M) (N := 23) hx hb hg qi_M hown hK hP 0 rfl rfl 3 (by decide) (hg _ mw_577) (fun _ h9 => h9) rfl qd_M_wants_113 ?_
          refine lv_iconst (v := 3) hx hb qd_M_wants_116 (by decide) ?_
          refine lv_iload_n hx hb qd_M_wants_117 rfl (lv_at hl 3 rfl) ?_
          refine lv_imul hx hb qd_M_wants_118 ?_
          refine lv_iconst (v := 2) hx hb qd_M_wants_119 (by decide) ?_
          refine lv_iadd hx hb qd_M_wants_120 ?_
          obtain ⟨g_121, ho⟩ := ho
          refine va_iald hx hb hK hP 1 0 rfl rfl g_121 qd_M_wants_121 ?_
          refine lv_iload hx hb qd_M_wants_122 (lv_at hl 0 rfl) ?_
          refine lv_iload_n hx hb qd_M_wants_124 rfl (lv_at hl 5 rfl) ?_
          obtain ⟨g_125, ho⟩ := ho
          refine xm_Vv (As := [.int (vMi ((3 * p0) + 2).toNatClampNeg), .int x5_75, .int p2]) (rest := []) (w1 := fun (u_125 : Int32 × Int32 × (Nat → Int32)) => [(aM, .inr (7, [.int vMT, .int vMP, .ref aMh, .ref aMi, .ref aMc, .int vMK, .ref aMt, .int vMB, .ref aMn, .ref aMl, .ref aMs, .int vMD, .ref aMd, .int vME, .ref aMe, .int vMO, .ref aMo, .int vMF, .int vMS, .ref aMw, .ref aMu, .int u_125.1, .int u_125.2.1])), (aMw, .inl (cZ, 250, .inl (u_125.2.2)))]) (w2 := fun (u_125 : Int32 × Int32 × (Nat → Int32)) => [(aM, .inr (7, [.int vMT, .int vMP, .ref aMh, .ref aMi, .ref aMc, .int vMK, .ref aMt, .int vMB, .ref aMn, .ref aMl, .ref aMs, .int vMD, .ref aMd, .int vME, .ref aMe, .int vMO, .ref aMo, .int vMF, .int vMS, .ref aMw, .ref aMu, .int u_125.1, .int u_125.2.1])), (aMi, .inl (cA, 72, .inl (vMi))), (aMt, .inl (cA, 24, .inl (vMt))), (aMn, .inl (cA, 6250, .inl (vMn))), (aMw, .inl (cZ, 250, .inl (u_125.2.2)))]) ⟨hx, hb, hml, hown, hg⟩ (c_M_want l dC dI cA cZ aM aMh aMi aMc aMt aMn aMl aMs aMd aMe aMo aMw aMu _ vMT vMP vMK vMB vMD vME vMO vMF vMS vMX_75 vMW_75 vMw_75 (vMi ((3 * p0) + 2).toNatClampNeg) x5_75 p2 g_125) (cwV 3 hg (q_gV mw_740 mw_741 mw_789 mw_8 mw_742) rfl rfl rfl qh_M_want ⟨Nat.le_of_ble_eq_true rfl, Nat.le_of_ble_eq_true rfl⟩) hN hK hP hD hS hA [0, 4] [1, 2, 3] rfl rfl (by decide) (by decide) (by decide) [3, 0, 1, 2, 4] (fun _ => rfl) (by decide) 0 7 rfl rfl rfl hl.1 rfl (Nat.le_of_ble_eq_true rfl) qd_M_wants_125 ⟨Nat.zero_le _, Nat.zero_le _⟩ (fun u_125 H locs w_125 hP hD hS => ?_)
          have hP : va_P (dC, dI) vwCl [(aM, .inr (7, [.int vMT, .int vMP, .ref aMh, .ref aMi, .ref aMc, .int vMK, .ref aMt, .int vMB, .ref aMn, .ref aMl, .ref aMs, .int vMD, .ref aMd, .int vME, .ref aMe, .int vMO, .ref aMo, .int vMF, .int vMS, .ref aMw, .ref aMu, .int u_125.1, .int u_125.2.1])), (aMi, .inl (cA, 72, .inl (vMi))), (aMt, .inl (cA, 24, .inl (vMt))), (aMn, .inl (cA, 6250, .inl (vMn))), (aMw, .inl (cZ, 250, .inl (u_125.2.2)))] H := hP
          have hD : va_D A [(aM, .inr (7, [.int vMT, .int vMP, .ref aMh, .ref aMi, .ref aMc, .int vMK, .ref aMt, .int vMB, .ref aMn, .ref aMl, .ref aMs, .int vMD, .ref aMd, .int vME, .ref aMe, .int vMO, .ref aMo, .int vMF, .int vMS, .ref aMw, .ref aMu, .int u_125.1, .int u_125.2.1])), (aMi, .inl (cA, 72, .inl (vMi))), (aMt, .inl (cA, 24, .inl (vMt))), (aMn, .inl (cA, 6250, .inl (vMn))), (aMw, .inl (cZ, 250, .inl (u_125.2.2)))] := hD
          have hres := hres.trans (bd_eq w_125)
          have ho := (bd_eq w_125).mp ho
          refine lv_iinc (v := x5_75 + 1) (lv' := [(5, .int (x5_75 + 1)), (4, .int x4_19), (0, .ref aM), (1, .int p0), (2, .int p1), (3, .int p2)]) hx hb qd_M_wants_128 hl (k := 0) rfl (congrArg (fun z => _ + z) (by decide)) (by decide) rfl (fun ls hl => ?_)
          refine lv_goto (tgt := 75) hx hb qd_M_wants_131 (by decide) ?_
          exact ih (x5_75 + 1) u_125.1 u_125.2.1 u_125.2.2 H locs ls hP hD hS (lv_sub hl [0, 1, 2, 3, 4, 5] rfl) hres ho
      refine L_75 _ _ (fun x5_75 vMX_75 vMW_75 vMw_75 H locs ls hP hD hS hl hres ho => ?_) _ _ _ _ _ _ _ ls hP hD hS hl hres ho
      refine lv_iinc (v := x4_19 + 1) (lv' := [(4, .int (x4_19 + 1)), (5, .int x5_75), (0, .ref aM), (1, .int p0), (2, .int p1), (3, .int p2)]) hx hb qd_M_wants_134 hl (k := 1) rfl (congrArg (fun z => _ + z) (by decide)) (by decide) rfl (fun ls hl => ?_)
      refine lv_goto (tgt := 19) hx hb qd_M_wants_137 (by decide) ?_
      exact ih (x4_19 + 1) vMX_75 vMW_75 vMw_75 H locs ls hP hD hS (lv_sub hl [0, 2, 3, 4, 5] rfl) hres ho
  refine L_19 _ _ (fun x4_19 vMX_19 vMW_19 vMw_19 H locs ls hP hD hS hl hres ho => ?_) _ _ _ _ _ _ _ ls hP hD hS hl hres ho
  subst hQ
  exact W.vret hx hb hr (fun t ht hW => ⟨⟨(vMX_19, vMW_19, vMw_19), rfl, hres.symm, ⟨by rw [ht]; exact hP, va_K.moved hW.alike hK, x_N hN hW⟩, hD⟩, hS.F ht⟩) hS.2.2 qd_M_wants_140
