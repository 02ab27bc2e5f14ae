theorem qd_M_know_0 : decode qc_M_know 0 = .ok (.aload_n 0, 1) := by decide +kernel
theorem qd_M_know_1 : decode qc_M_know 1 = .ok (.getfield 60, 3) := by decide +kernel
theorem qd_M_know_4 : decode qc_M_know 4 = .ok (.ifCond .eq 4, 3) := by decide +kernel
theorem qd_M_know_7 : decode qc_M_know 7 = .ok (.return_, 1) := by decide +kernel
theorem qd_M_know_8 : decode qc_M_know 8 = .ok (.iconst 1, 1) := by decide +kernel
theorem qd_M_know_9 : decode qc_M_know 9 = .ok (.istore_n 1, 1) := by decide +kernel
theorem qd_M_know_10 : decode qc_M_know 10 = .ok (.iload_n 1, 1) := by decide +kernel
theorem qd_M_know_11 : decode qc_M_know 11 = .ok (.aload_n 0, 1) := by decide +kernel
theorem qd_M_know_12 : decode qc_M_know 12 = .ok (.getfield 54, 3) := by decide +kernel
theorem qd_M_know_15 : decode qc_M_know 15 = .ok (.if_icmp .gt 88, 3) := by decide +kernel
theorem qd_M_know_18 : decode qc_M_know 18 = .ok (.iconst 0, 1) := by decide +kernel
theorem qd_M_know_19 : decode qc_M_know 19 = .ok (.istore_n 2, 1) := by decide +kernel
theorem qd_M_know_20 : decode qc_M_know 20 = .ok (.iload_n 2, 1) := by decide +kernel
theorem qd_M_know_21 : decode qc_M_know 21 = .ok (.iload_n 1, 1) := by decide +kernel
theorem qd_M_know_22 : decode qc_M_know 22 = .ok (.iadd, 1) := by decide +kernel
theorem qd_M_know_23 : decode qc_M_know 23 = .ok (.aload_n 0, 1) := by decide +kernel
theorem qd_M_know_24 : decode qc_M_know 24 = .ok (.getfield 54, 3) := by decide +kernel
theorem qd_M_know_27 : decode qc_M_know 27 = .ok (.if_icmp .gt 70, 3) := by decide +kernel
theorem qd_M_know_30 : decode qc_M_know 30 = .ok (.iconst 0, 1) := by decide +kernel
theorem qd_M_know_31 : decode qc_M_know 31 = .ok (.istore_n 3, 1) := by decide +kernel
theorem qd_M_know_32 : decode qc_M_know 32 = .ok (.iload_n 3, 1) := by decide +kernel
theorem qd_M_know_33 : decode qc_M_know 33 = .ok (.bipush 10, 2) := by decide +kernel
theorem qd_M_know_35 : decode qc_M_know 35 = .ok (.if_icmp .ge 38, 3) := by decide +kernel
theorem qd_M_know_38 : decode qc_M_know 38 = .ok (.aload_n 0, 1) := by decide +kernel
theorem qd_M_know_39 : decode qc_M_know 39 = .ok (.getfield 22, 3) := by decide +kernel
theorem qd_M_know_42 : decode qc_M_know 42 = .ok (.iload_n 3, 1) := by decide +kernel
theorem qd_M_know_43 : decode qc_M_know 43 = .ok (.iload_n 2, 1) := by decide +kernel
theorem qd_M_know_44 : decode qc_M_know 44 = .ok (.iload_n 2, 1) := by decide +kernel
theorem qd_M_know_45 : decode qc_M_know 45 = .ok (.iload_n 1, 1) := by decide +kernel
theorem qd_M_know_46 : decode qc_M_know 46 = .ok (.iadd, 1) := by decide +kernel
theorem qd_M_know_47 : decode qc_M_know 47 = .ok (.invokestatic 80, 3) := by decide +kernel
theorem qd_M_know_50 : decode qc_M_know 50 = .ok (.iconst 0, 1) := by decide +kernel
theorem qd_M_know_51 : decode qc_M_know 51 = .ok (.iastore, 1) := by decide +kernel
theorem qd_M_know_52 : decode qc_M_know 52 = .ok (.aload_n 0, 1) := by decide +kernel
theorem qd_M_know_53 : decode qc_M_know 53 = .ok (.getfield 25, 3) := by decide +kernel
theorem qd_M_know_56 : decode qc_M_know 56 = .ok (.iload_n 3, 1) := by decide +kernel
theorem qd_M_know_57 : decode qc_M_know 57 = .ok (.iload_n 2, 1) := by decide +kernel
theorem qd_M_know_58 : decode qc_M_know 58 = .ok (.iload_n 2, 1) := by decide +kernel
theorem qd_M_know_59 : decode qc_M_know 59 = .ok (.iload_n 1, 1) := by decide +kernel
theorem qd_M_know_60 : decode qc_M_know 60 = .ok (.iadd, 1) := by decide +kernel
theorem qd_M_know_61 : decode qc_M_know 61 = .ok (.invokestatic 80, 3) := by decide +kernel
theorem qd_M_know_64 : decode qc_M_know 64 = .ok (.ldc 84, 2) := by decide +kernel
theorem qd_M_know_66 : decode qc_M_know 66 = .ok (.iastore, 1) := by decide +kernel
theorem qd_M_know_67 : decode qc_M_know 67 = .ok (.iinc 3 1, 3) := by decide +kernel
theorem qd_M_know_70 : decode qc_M_know 70 = .ok (.goto (-38), 3) := by decide +kernel
theorem qd_M_know_73 : decode qc_M_know 73 = .ok (.iconst 1, 1) := by decide +kernel
theorem qd_M_know_74 : decode qc_M_know 74 = .ok (.istore_n 3, 1) := by decide +kernel
theorem qd_M_know_75 : decode qc_M_know 75 = .ok (.iload_n 3, 1) := by decide +kernel
theorem qd_M_know_76 : decode qc_M_know 76 = .ok (.ifCond .eq 15, 3) := by decide +kernel
theorem qd_M_know_79 : decode qc_M_know 79 = .ok (.aload_n 0, 1) := by decide +kernel
theorem qd_M_know_80 : decode qc_M_know 80 = .ok (.iload_n 2, 1) := by decide +kernel
theorem qd_M_know_81 : decode qc_M_know 81 = .ok (.iload_n 2, 1) := by decide +kernel
theorem qd_M_know_82 : decode qc_M_know 82 = .ok (.iload_n 1, 1) := by decide +kernel
theorem qd_M_know_83 : decode qc_M_know 83 = .ok (.iadd, 1) := by decide +kernel
theorem qd_M_know_84 : decode qc_M_know 84 = .ok (.invokevirtual 131, 3) := by decide +kernel
theorem qd_M_know_87 : decode qc_M_know 87 = .ok (.istore_n 3, 1) := by decide +kernel
theorem qd_M_know_88 : decode qc_M_know 88 = .ok (.goto (-13), 3) := by decide +kernel
theorem qd_M_know_91 : decode qc_M_know 91 = .ok (.iinc 2 1, 3) := by decide +kernel
theorem qd_M_know_94 : decode qc_M_know 94 = .ok (.goto (-74), 3) := by decide +kernel
theorem qd_M_know_97 : decode qc_M_know 97 = .ok (.iinc 1 1, 3) := by decide +kernel
theorem qd_M_know_100 : decode qc_M_know 100 = .ok (.goto (-90), 3) := by decide +kernel
theorem qd_M_know_103 : decode qc_M_know 103 = .ok (.aload_n 0, 1) := by decide +kernel
theorem qd_M_know_104 : decode qc_M_know 104 = .ok (.iconst 1, 1) := by decide +kernel
theorem qd_M_know_105 : decode qc_M_know 105 = .ok (.putfield 60, 3) := by decide +kernel
theorem qd_M_know_108 : decode qc_M_know 108 = .ok (.return_, 1) := by decide +kernel
set_option maxHeartbeats 4000000 in
set_option maxRecDepth 100000 in
theorem c_M_know (l : Launch) (dC : Nat → ClassId) (dI : Nat → Nat → Nat) (cA cZ : ClassId) (N_ : Nat) (aM aMh aMi aMc aMt aMn aMl aMs aMd aMe aMo aMw aMu : Nat) (sz : Nat) (vMT : Int32) (vMP : Int32) (vMK : Int32) (vMB : Int32) (vMD : Int32) (vME : Int32) (vMO : Int32) (vMF : Int32) (vMS : Int32) (vMX : Int32) (vMW : Int32) (vMh : (Nat → Int32)) (vMi : (Nat → Int32)) (vMc : (Nat → Int32)) (vMt : (Nat → Int32)) (vMn : (Nat → Int32)) (vMl : (Nat → Int32)) (ho : o_M_know N_ vMP vMK vMB vMF vMS vMh vMi vMc vMt vMn vMl) : Met l qy_M_know qw_M_know ({ frames := 4, cells := 0, slots := 0, locals := 100 }) (va_Pc [.ref aM] (fun U => U.heap.size = sz ∧ xP (dC, dI) [(cA, .int), (cZ, .boolean)] [(aM, .inr (7, [.int vMT, .int vMP, .ref aMh, .ref aMi, .ref aMc, .int vMK, .ref aMt, .int vMB, .ref aMn, .ref aMl, .ref aMs, .int vMD, .ref aMd, .int vME, .ref aMe, .int vMO, .ref aMo, .int vMF, .int vMS, .ref aMw, .ref aMu, .int vMX, .int vMW])), (aMh, .inl (cA, 24, .inl (vMh))), (aMi, .inl (cA, 72, .inl (vMi))), (aMc, .inl (cA, 24, .inl (vMc))), (aMt, .inl (cA, 24, .inl (vMt))), (aMn, .inl (cA, 6250, .inl (vMn))), (aMl, .inl (cA, 6250, .inl (vMl)))] nestN U ∧ va_D (fun _ => True) [(aM, .inr (7, [.int vMT, .int vMP, .ref aMh, .ref aMi, .ref aMc, .int vMK, .ref aMt, .int vMB, .ref aMn, .ref aMl, .ref aMs, .int vMD, .ref aMd, .int vME, .ref aMe, .int vMO, .ref aMo, .int vMF, .int vMS, .ref aMw, .ref aMu, .int vMX, .int vMW])), (aMh, .inl (cA, 24, .inl (vMh))), (aMi, .inl (cA, 72, .inl (vMi))), (aMc, .inl (cA, 24, .inl (vMc))), (aMt, .inl (cA, 24, .inl (vMt))), (aMn, .inl (cA, 6250, .inl (vMn))), (aMl, .inl (cA, 6250, .inl (vMl)))])) (va_Qv (fun u => u = f_M_know N_ vMP vMK vMB vMF vMS vMh vMi vMc vMt vMn vMl) (fun (u : Int32 × Int32 × Int32 × (Nat → Int32) × (Nat → Int32)) t => xP (dC, dI) [(cA, .int), (cZ, .boolean)] [(aM, .inr (7, [.int vMT, .int vMP, .ref aMh, .ref aMi, .ref aMc, .int vMK, .ref aMt, .int u.1, .ref aMn, .ref aMl, .ref aMs, .int vMD, .ref aMd, .int vME, .ref aMe, .int vMO, .ref aMo, .int u.2.1, .int u.2.2.1, .ref aMw, .ref aMu, .int vMX, .int vMW])), (aMh, .inl (cA, 24, .inl (vMh))), (aMi, .inl (cA, 72, .inl (vMi))), (aMc, .inl (cA, 24, .inl (vMc))), (aMt, .inl (cA, 24, .inl (vMt))), (aMn, .inl (cA, 6250, .inl (u.2.2.2.1))), (aMl, .inl (cA, 6250, .inl (u.2.2.2.2)))] nestN t ∧ va_D (va_A [(aM, .inr (7, [.int vMT, .int vMP, .ref aMh, .ref aMi, .ref aMc, .int vMK, .ref aMt, .int vMB, .ref aMn, .ref aMl, .ref aMs, .int vMD, .ref aMd, .int vME, .ref aMe, .int vMO, .ref aMo, .int vMF, .int vMS, .ref aMw, .ref aMu, .int vMX, .int vMW])), (aMh, .inl (cA, 24, .inl (vMh))), (aMi, .inl (cA, 72, .inl (vMi))), (aMc, .inl (cA, 24, .inl (vMc))), (aMt, .inl (cA, 24, .inl (vMt))), (aMn, .inl (cA, 6250, .inl (vMn))), (aMl, .inl (cA, 6250, .inl (vMl)))] sz) [(aM, .inr (7, [.int vMT, .int vMP, .ref aMh, .ref aMi, .ref aMc, .int vMK, .ref aMt, .int u.1, .ref aMn, .ref aMl, .ref aMs, .int vMD, .ref aMd, .int vME, .ref aMe, .int vMO, .ref aMo, .int u.2.1, .int u.2.2.1, .ref aMw, .ref aMu, .int vMX, .int vMW])), (aMh, .inl (cA, 24, .inl (vMh))), (aMi, .inl (cA, 72, .inl (vMi))), (aMc, .inl (cA, 24, .inl (vMc))), (aMt, .inl (cA, 24, .inl (vMt))), (aMn, .inl (cA, 6250, .inl (u.2.2.2.1))), (aMl, .inl (cA, 6250, .inl (u.2.2.2.2)))]) (va_A [(aM, .inr (7, [.int vMT, .int vMP, .ref aMh, .ref aMi, .ref aMc, .int vMK, .ref aMt, .int vMB, .ref aMn, .ref aMl, .ref aMs, .int vMD, .ref aMd, .int vME, .ref aMe, .int vMO, .ref aMo, .int vMF, .int vMS, .ref aMw, .ref aMu, .int vMX, .int vMW])), (aMh, .inl (cA, 24, .inl (vMh))), (aMi, .inl (cA, 72, .inl (vMi))), (aMc, .inl (cA, 24, .inl (vMc))), (aMt, .inl (cA, 24, .inl (vMt))), (aMn, .inl (cA, 6250, .inl (vMn))), (aMl, .inl (cA, 6250, .inl (vMl)))] sz)) 0 0 (va_A [(aM, .inr (7, [.int vMT, .int vMP, .ref aMh, .ref aMi, .ref aMc, .int vMK, .ref aMt, .int vMB, .ref aMn, .ref aMl, .ref aMs, .int vMD, .ref aMd, .int vME, .ref aMe, .int vMO, .ref aMo, .int vMF, .int vMS, .ref aMw, .ref aMu, .int vMX, .int vMW])), (aMh, .inl (cA, 24, .inl (vMh))), (aMi, .inl (cA, 72, .inl (vMi))), (aMc, .inl (cA, 24, .inl (vMc))), (aMt, .inl (cA, 24, .inl (vMt))), (aMn, .inl (cA, 6250, .inl (vMn))), (aMl, .inl (cA, 6250, .inl (vMl)))] sz) := by
  refine Met.ofW (cc := qc_M_know) (maxL := 4) (ret := (none)) (by decide) rfl ?_
  intro p e s m args below meth c s₁ B hml hv
  obtain ⟨rfl, hsz, ⟨hP, hK, hN⟩, hD0⟩ := hv
  have hx := B.exec
  have hb := B.bytes
  have hr := B.returns
  have hts := atoms_spec (ws := qw_M_know) B.pre
  have hg : ∀ w ∈ gG, w.before _ s = true := fun w h => hts w (List.mem_cons_of_mem _ h)
  have hown : s.vm.findClass qR_M = some m.cls := findClass_of_methodNamed B.named
  have hlocks := B.notSynchronized
  subst hsz
  have hD := hD0.self (sz := s.heap.size)
  generalize hAe : va_A [(aM, .inr (7, [.int vMT, .int vMP, .ref aMh, .ref aMi, .ref aMc, .int vMK, .ref aMt, .int vMB, .ref aMn, .ref aMl, .ref aMs, .int vMD, .ref aMd, .int vME, .ref aMe, .int vMO, .ref aMo, .int vMF, .int vMS, .ref aMw, .ref aMu, .int vMX, .int vMW])), (aMh, .inl (cA, 24, .inl (vMh))), (aMi, .inl (cA, 72, .inl (vMi))), (aMc, .inl (cA, 24, .inl (vMc))), (aMt, .inl (cA, 24, .inl (vMt))), (aMn, .inl (cA, 6250, .inl (vMn))), (aMl, .inl (cA, 6250, .inl (vMl)))] s.heap.size = A at hD ⊢
  have hA : ∀ q : Nat, s.heap.size ≤ q → A q := fun q h => by rw [← hAe]; exact Or.inr h
  have hS : va_S A s.heap s.heap [] := va_S.rf
  have hP : va_P (dC, dI) vwCl [(aM, .inr (7, [.int vMT, .int vMP, .ref aMh, .ref aMi, .ref aMc, .int vMK, .ref aMt, .int vMB, .ref aMn, .ref aMl, .ref aMs, .int vMD, .ref aMd, .int vME, .ref aMe, .int vMO, .ref aMo, .int vMF, .int vMS, .ref aMw, .ref aMu, .int vMX, .int vMW])), (aMh, .inl (cA, 24, .inl (vMh))), (aMi, .inl (cA, 72, .inl (vMi))), (aMc, .inl (cA, 24, .inl (vMc))), (aMt, .inl (cA, 24, .inl (vMt))), (aMn, .inl (cA, 6250, .inl (vMn))), (aMl, .inl (cA, 6250, .inl (vMl)))] s.heap := hP
  have hl := lv_entry ([.ref aM]) (n := 4) (Nat.le_of_ble_eq_true rfl)
  rw [lg_entry_eq]
  generalize (lg_sl ([.ref aM]) ++ List.replicate (4 - (lg_sl ([.ref aM])).length) Slot.unset).toArray = ls at hl ⊢
  have hl : lv_has ls 4 [(0, .ref aM)] := hl
  generalize hF : f_M_know N_ vMP vMK vMB vMF vMS vMh vMi vMc vMt vMn vMl = Fv
  have hres : Fv = f_M_know N_ vMP vMK vMB vMF vMS vMh vMi vMc vMt vMn vMl := hF.symm
  unfold f_M_know at hres
  unfold o_M_know at ho
  generalize hQ : MQ _ _ _ _ _ _ _ = Qg
  refine lv_aload_n hx hb qd_M_know_0 rfl (lv_at hl 0 rfl) ?_
  refine va_get (D := (dC, dI)) (ci := 7) (v := .int vMB) (C := qR_M) (T := qT_M) (N := 23) hx hb hg qi_M hown hK hP 0 rfl rfl 7 (by decide) (hg _ mw_581) (fun _ h9 => h9) rfl qd_M_know_1 ?_
  refine lv_if_eq (tgt := 8) hx hb qd_M_know_4 (by decide) (fun c_4 => ?_) (fun c_4 => ?_)
  · have hres := hres.trans (if_pos c_4)
    have ho := (if_pos c_4).mp ho
    refine lv_iconst (v := 1) hx hb qd_M_know_8 (by decide) ?_
    refine lv_istore_n (lv' := [(1, .int 1), (0, .ref aM)]) hx hb qd_M_know_9 rfl hl (by decide) rfl (fun ls hl => ?_)
    have L_10 : ∀ (K_ : Int32 → Int32 → Int32 → (Nat → Int32) → (Nat → Int32) → Int32 × Int32 × Int32 × (Nat → Int32) × (Nat → Int32)) (Ko_ : Int32 → Int32 → Int32 → (Nat → Int32) → (Nat → Int32) → Prop) (hk : ∀ (x1_10 : Int32) (vMF_10 : Int32) (vMS_10 : Int32) (vMn_10 : (Nat → Int32)) (vMl_10 : (Nat → Int32)) (H : Heap) (locs : List Loc) (ls : Array Slot), va_P (dC, dI) vwCl [(aM, .inr (7, [.int vMT, .int vMP, .ref aMh, .ref aMi, .ref aMc, .int vMK, .ref aMt, .int vMB, .ref aMn, .ref aMl, .ref aMs, .int vMD, .ref aMd, .int vME, .ref aMe, .int vMO, .ref aMo, .int vMF_10, .int vMS_10, .ref aMw, .ref aMu, .int vMX, .int vMW])), (aMh, .inl (cA, 24, .inl (vMh))), (aMi, .inl (cA, 72, .inl (vMi))), (aMc, .inl (cA, 24, .inl (vMc))), (aMt, .inl (cA, 24, .inl (vMt))), (aMn, .inl (cA, 6250, .inl (vMn_10))), (aMl, .inl (cA, 6250, .inl (vMl_10)))] H → va_D A [(aM, .inr (7, [.int vMT, .int vMP, .ref aMh, .ref aMi, .ref aMc, .int vMK, .ref aMt, .int vMB, .ref aMn, .ref aMl, .ref aMs, .int vMD, .ref aMd, .int vME, .ref aMe, .int vMO, .ref aMo, .int vMF_10, .int vMS_10, .ref aMw, .ref aMu, .int vMX, .int vMW])), (aMh, .inl (cA, 24, .inl (vMh))), (aMi, .inl (cA, 72, .inl (vMi))), (aMc, .inl (cA, 24, .inl (vMc))), (aMt, .inl (cA, 24, .inl (vMt))), (aMn, .inl (cA, 6250, .inl (vMn_10))), (aMl, .inl (cA, 6250, .inl (vMl_10)))] → va_S A s.heap H locs → lv_has ls 4 [(1, .int x1_10), (0, .ref aM)] → Fv = K_ x1_10 vMF_10 vMS_10 vMn_10 vMl_10 → Ko_ x1_10 vMF_10 vMS_10 vMn_10 vMl_10 → W p l e ({ frames := 4, cells := 0, slots := 0, locals := 100 } : Room) s m (([.ref aM] : List Value).toArray) below meth c H locs 0 0 Qg (F0 m 103 ls [])) (n : Nat) (x1_10 : Int32) (vMF_10 : Int32) (vMS_10 : Int32) (vMn_10 : (Nat → Int32)) (vMl_10 : (Nat → Int32)) (H : Heap) (locs : List Loc) (ls : Array Slot), va_P (dC, dI) vwCl [(aM, .inr (7, [.int vMT, .int vMP, .ref aMh, .ref aMi, .ref aMc, .int vMK, .ref aMt, .int vMB, .ref aMn, .ref aMl, .ref aMs, .int vMD, .ref aMd, .int vME, .ref aMe, .int vMO, .ref aMo, .int vMF_10, .int vMS_10, .ref aMw, .ref aMu, .int vMX, .int vMW])), (aMh, .inl (cA, 24, .inl (vMh))), (aMi, .inl (cA, 72, .inl (vMi))), (aMc, .inl (cA, 24, .inl (vMc))), (aMt, .inl (cA, 24, .inl (vMt))), (aMn, .inl (cA, 6250, .inl (vMn_10))), (aMl, .inl (cA, 6250, .inl (vMl_10)))] H → va_D A [(aM, .inr (7, [.int vMT, .int vMP, .ref aMh, .ref aMi, .ref aMc, .int vMK, .ref aMt, .int vMB, .ref aMn, .ref aMl, .ref aMs, .int vMD, .ref aMd, .int vME, .ref aMe, .int vMO, .ref aMo, .int vMF_10, .int vMS_10, .ref aMw, .ref aMu, .int vMX, .int vMW])), (aMh, .inl (cA, 24, .inl (vMh))), (aMi, .inl (cA, 72, .inl (vMi))), (aMc, .inl (cA, 24, .inl (vMc))), (aMt, .inl (cA, 24, .inl (vMt))), (aMn, .inl (cA, 6250, .inl (vMn_10))), (aMl, .inl (cA, 6250, .inl (vMl_10)))] → va_S A s.heap H locs → lv_has ls 4 [(1, .int x1_10), (0, .ref aM)] → Fv = l_M_know_10 N_ vMP vMK vMh vMi vMc vMt K_ n x1_10 vMF_10 vMS_10 vMn_10 vMl_10 → ol_M_know_10 N_ vMP vMK vMh vMi vMc vMt Ko_ n x1_10 vMF_10 vMS_10 vMn_10 vMl_10 → W p l e ({ frames := 4, cells := 0, slots := 0, locals := 100 } : Room) s m (([.ref aM] : List Value).toArray) below meth c H locs 0 0 Qg (F0 m 10 ls []) := by
      intro K_ Ko_ hk n
      induction n with
      | zero => intro x1_10 vMF_10 vMS_10 vMn_10 vMl_10 H locs ls hP hD hS hl hres ho; exact ho.elim
      | succ n ih =>
        intro x1_10 vMF_10 vMS_10 vMn_10 vMl_10 H locs ls hP hD hS hl hres ho
        rw [l_M_know_10, s_M_know_10] at hres
        rw [ol_M_know_10, os_M_know_10] at ho
        refine lv_iload_n hx hb qd_M_know_10 rfl (lv_at hl 0 rfl) ?_
        refine lv_aload_n hx hb qd_M_know_11 rfl (lv_at hl 1 rfl) ?_
        refine va_get (D := (dC, dI)) (ci := 7) (v := .int vMK) (C := qR_M) (T := qT_M) (N := 23) hx hb hg qi_M hown hK hP 0 rfl rfl 5 (by decide) (hg _ mw_579) (fun _ h9 => h9) rfl qd_M_know_12 ?_
        refine lv_icmp_gt (tgt := 103) hx hb qd_M_know_15 (by decide) (fun c_15 => ?_) (fun c_15 => ?_)
        · have hres := hres.trans (if_pos c_15)
          have ho := (if_pos c_15).mp ho
          exact hk x1_10 vMF_10 vMS_10 vMn_10 vMl_10 H locs ls hP hD hS (lv_sub hl [0, 1] rfl) hres ho
        have hres := hres.trans (if_neg c_15)
        have ho := (if_neg c_15).mp ho
        refine lv_iconst (v := 0) hx hb qd_M_know_18 (by decide) ?_
        refine lv_istore_n (lv' := [(2, .int 0), (1, .int x1_10), (0, .ref aM)]) hx hb qd_M_know_19 rfl hl (by decide) rfl (fun ls hl => ?_)
        have L_20 : ∀ (K_ : Int32 → Int32 → Int32 → (Nat → Int32) → (Nat → Int32) → Int32 × Int32 × Int32 × (Nat → Int32) × (Nat → Int32)) (Ko_ : Int32 → Int32 → Int32 → (Nat → Int32) → (Nat → Int32) → Prop) (hk : ∀ (x2_20 : Int32) (vMF_20 : Int32) (vMS_20 : Int32) (vMn_20 : (Nat → Int32)) (vMl_20 : (Nat → Int32)) (H : Heap) (locs : List Loc) (ls : Array Slot), va_P (dC, dI) vwCl [(aM, .inr (7, [.int vMT, .int vMP, .ref aMh, .ref aMi, .ref aMc, .int vMK, .ref aMt, .int vMB, .ref aMn, .ref aMl, .ref aMs, .int vMD, .ref aMd, .int vME, .ref aMe, .int vMO, .ref aMo, .int vMF_20, .int vMS_20, .ref aMw, .ref aMu, .int vMX, .int vMW])), (aMh, .inl (cA, 24, .inl (vMh))), (aMi, .inl (cA, 72, .inl (vMi))), (aMc, .inl (cA, 24, .inl (vMc))), (aMt, .inl (cA, 24, .inl (vMt))), (aMn, .inl (cA, 6250, .inl (vMn_20))), (aMl, .inl (cA, 6250, .inl (vMl_20)))] H → va_D A [(aM, .inr (7, [.int vMT, .int vMP, .ref aMh, .ref aMi, .ref aMc, .int vMK, .ref aMt, .int vMB, .ref aMn, .ref aMl, .ref aMs, .int vMD, .ref aMd, .int vME, .ref aMe, .int vMO, .ref aMo, .int vMF_20, .int vMS_20, .ref aMw, .ref aMu, .int vMX, .int vMW])), (aMh, .inl (cA, 24, .inl (vMh))), (aMi, .inl (cA, 72, .inl (vMi))), (aMc, .inl (cA, 24, .inl (vMc))), (aMt, .inl (cA, 24, .inl (vMt))), (aMn, .inl (cA, 6250, .inl (vMn_20))), (aMl, .inl (cA, 6250, .inl (vMl_20)))] → va_S A s.heap H locs → lv_has ls 4 [(2, .int x2_20), (1, .int x1_10), (0, .ref aM)] → Fv = K_ x2_20 vMF_20 vMS_20 vMn_20 vMl_20 → Ko_ x2_20 vMF_20 vMS_20 vMn_20 vMl_20 → W p l e ({ frames := 4, cells := 0, slots := 0, locals := 100 } : Room) s m (([.ref aM] : List Value).toArray) below meth c H locs 0 0 Qg (F0 m 97 ls [])) (n : Nat) (x2_20 : Int32) (vMF_20 : Int32) (vMS_20 : Int32) (vMn_20 : (Nat → Int32)) (vMl_20 : (Nat → Int32)) (H : Heap) (locs : List Loc) (ls : Array Slot), va_P (dC, dI) vwCl [(aM, .inr (7, [.int vMT, .int vMP, .ref aMh, .ref aMi, .ref aMc, .int vMK, .ref aMt, .int vMB, .ref aMn, .ref aMl, .ref aMs, .int vMD, .ref aMd, .int vME, .ref aMe, .int vMO, .ref aMo, .int vMF_20, .int vMS_20, .ref aMw, .ref aMu, .int vMX, .int vMW])), (aMh, .inl (cA, 24, .inl (vMh))), (aMi, .inl (cA, 72, .inl (vMi))), (aMc, .inl (cA, 24, .inl (vMc))), (aMt, .inl (cA, 24, .inl (vMt))), (aMn, .inl (cA, 6250, .inl (vMn_20))), (aMl, .inl (cA, 6250, .inl (vMl_20)))] H → va_D A [(aM, .inr (7, [.int vMT, .int vMP, .ref aMh, .ref aMi, .ref aMc, .int vMK, .ref aMt, .int vMB, .ref aMn, .ref aMl, .ref aMs, .int vMD, .ref aMd, .int vME, .ref aMe, .int vMO, .ref aMo, .int vMF_20, .int vMS_20, .ref aMw, .ref aMu, .int vMX, .int vMW])), (aMh, .inl (cA, 24, .inl (vMh))), (aMi, .inl (cA, 72, .inl (vMi))), (aMc, .inl (cA, 24, .inl (vMc))), (aMt, .inl (cA, 24, .inl (vMt))), (aMn, .inl (cA, 6250, .inl (vMn_20))), (aMl, .inl (cA, 6250, .inl (vMl_20)))] → va_S A s.heap H locs → lv_has ls 4 [(2, .int x2_20), (1, .int x1_10), (0, .ref aM)] → Fv = l_M_know_20 N_ x1_10 vMP vMK vMh vMi vMc vMt K_ n x2_20 vMF_20 vMS_20 vMn_20 vMl_20 → ol_M_know_20 N_ x1_10 vMP vMK vMh vMi vMc vMt Ko_ n x2_20 vMF_20 vMS_20 vMn_20 vMl_20 → W p l e ({ frames := 4, cells := 0, slots := 0, locals := 100 } : Room) s m (([.ref aM] : List Value).toArray) below meth c H locs 0 0 Qg (F0 m 20 ls []) := by
          intro K_ Ko_ hk n
          induction n with
          | zero => intro x2_20 vMF_20 vMS_20 vMn_20 vMl_20 H locs ls hP hD hS hl hres ho; exact ho.elim
          | succ n ih =>
            intro x2_20 vMF_20 vMS_20 vMn_20 vMl_20 H locs ls hP hD hS hl hres ho
            rw [l_M_know_20, s_M_know_20] at hres
            rw [ol_M_know_20, os_M_know_20] at ho
            refine lv_iload_n hx hb qd_M_know_20 rfl (lv_at hl 0 rfl) ?_
            refine lv_iload_n hx hb qd_M_know_21 rfl (lv_at hl 1 rfl) ?_
            refine lv_iadd hx hb qd_M_know_22 ?_
            refine lv_aload_n hx hb qd_M_know_23 rfl (lv_at hl 2 rfl) ?_
            refine va_get (D := (dC, dI)) (ci := 7) (v := .int vMK) (C := qR_M) (T := qT_M) (N := 23) hx hb hg qi_M hown hK hP 0 rfl rfl 5 (by decide) (hg _ mw_579) (fun _ h9 => h9) rfl qd_M_know_24 ?_
            refine lv_icmp_gt (tgt := 97) hx hb qd_M_know_27 (by decide) (fun c_27 => ?_) (fun c_27 => ?_)
            · have hres := hres.trans (if_pos c_27)
              have ho := (if_pos c_27).mp ho
              exact hk x2_20 vMF_20 vMS_20 vMn_20 vMl_20 H locs ls hP hD hS (lv_sub hl [0, 1, 2] rfl) hres ho
            have hres := hres.trans (if_neg c_27)
            have ho := (if_neg c_27).mp ho
            refine lv_iconst (v := 0) hx hb qd_M_know_30 (by decide) ?_
            refine lv_istore_n (lv' := [(3, .int 0), (2, .int x2_20), (1, .int x1_10), (0, .ref aM)]) hx hb qd_M_know_31 rfl hl (by decide) rfl (fun ls hl => ?_)
            have L_32 : ∀ (K_ : Int32 → (Nat → Int32) → (Nat → Int32) → Int32 × Int32 × Int32 × (Nat → Int32) × (Nat → Int32)) (Ko_ : Int32 → (Nat → Int32) → (Nat → Int32) → Prop) (hk : ∀ (x3_32 : Int32) (vMn_32 : (Nat → Int32)) (vMl_32 : (Nat → Int32)) (H : Heap) (locs : List Loc) (ls : Array Slot), va_P (dC, dI) vwCl [(aM, .inr (7, [.int vMT, .int vMP, .ref aMh, .ref aMi, .ref aMc, .int vMK, .ref aMt, .int vMB, .ref aMn, .ref aMl, .ref aMs, .int vMD, .ref aMd, .int vME, .ref aMe, .int vMO, .ref aMo, .int vMF_20, .int vMS_20, .ref aMw, .ref aMu, .int vMX, .int vMW])), (aMh, .inl (cA, 24, .inl (vMh))), (aMi, .inl (cA, 72, .inl (vMi))), (aMc, .inl (cA, 24, .inl (vMc))), (aMt, .inl (cA, 24, .inl (vMt))), (aMn, .inl (cA, 6250, .inl (vMn_32))), (aMl, .inl (cA, 6250, .inl (vMl_32)))] H → va_D A [(aM, .inr (7, [.int vMT, .int vMP, .ref aMh, .ref aMi, .ref aMc, .int vMK, .ref aMt, .int vMB, .ref aMn, .ref aMl, .ref aMs, .int vMD, .ref aMd, .int vME, .ref aMe, .int vMO, .ref aMo, .int vMF_20, .int vMS_20, .ref aMw, .ref aMu, .int vMX, .int vMW])), (aMh, .inl (cA, 24, .inl (vMh))), (aMi, .inl (cA, 72, .inl (vMi))), (aMc, .inl (cA, 24, .inl (vMc))), (aMt, .inl (cA, 24, .inl (vMt))), (aMn, .inl (cA, 6250, .inl (vMn_32))), (aMl, .inl (cA, 6250, .inl (vMl_32)))] → va_S A s.heap H locs → lv_has ls 4 [(3, .int x3_32), (2, .int x2_20), (1, .int x1_10), (0, .ref aM)] → Fv = K_ x3_32 vMn_32 vMl_32 → Ko_ x3_32 vMn_32 vMl_32 → W p l e ({ frames := 4, cells := 0, slots := 0, locals := 100 } : Room) s m (([.ref aM] : List Value).toArray) below meth c H locs 0 0 Qg (F0 m 73 ls [])) (n : Nat) (x3_32 : Int32) (vMn_32 : (Nat → Int32)) (vMl_32 : (Nat → Int32)) (H : Heap) (locs : List Loc) (ls : Array Slot), va_P (dC, dI) vwCl [(aM, .inr (7, [.int vMT, .int vMP, .ref aMh, .ref aMi, .ref aMc, .int vMK, .ref aMt, .int vMB, .ref aMn, .ref aMl, .ref aMs, .int vMD, .ref aMd, .int vME, .ref aMe, .int vMO, .ref aMo, .int vMF_20, .int vMS_20, .ref aMw, .ref aMu, .int vMX, .int vMW])), (aMh, .inl (cA, 24, .inl (vMh))), (aMi, .inl (cA, 72, .inl (vMi))), (aMc, .inl (cA, 24, .inl (vMc))), (aMt, .inl (cA, 24, .inl (vMt))), (aMn, .inl (cA, 6250, .inl (vMn_32))), (aMl, .inl (cA, 6250, .inl (vMl_32)))] H → va_D A [(aM, .inr (7, [.int vMT, .int vMP, .ref aMh, .ref aMi, .ref aMc, .int vMK, .ref aMt, .int vMB, .ref aMn, .ref aMl, .ref aMs, .int vMD, .ref aMd, .int vME, .ref aMe, .int vMO, .ref aMo, .int vMF_20, .int vMS_20, .ref aMw, .ref aMu, .int vMX, .int vMW])), (aMh, .inl (cA, 24, .inl (vMh))), (aMi, .inl (cA, 72, .inl (vMi))), (aMc, .inl (cA, 24, .inl (vMc))), (aMt, .inl (cA, 24, .inl (vMt))), (aMn, .inl (cA, 6250, .inl (vMn_32))), (aMl, .inl (cA, 6250, .inl (vMl_32)))] → va_S A s.heap H locs → lv_has ls 4 [(3, .int x3_32), (2, .int x2_20), (1, .int x1_10), (0, .ref aM)] → Fv = l_M_know_32 x1_10 x2_20 K_ n x3_32 vMn_32 vMl_32 → ol_M_know_32 x1_10 x2_20 Ko_ n x3_32 vMn_32 vMl_32 → W p l e ({ frames := 4, cells := 0, slots := 0, locals := 100 } : Room) s m (([.ref aM] : List Value).toArray) below meth c H locs 0 0 Qg (F0 m 32 ls []) := by
              intro K_ Ko_ hk n
              induction n with
              | zero => intro x3_32 vMn_32 vMl_32 H locs ls hP hD hS hl hres ho; exact ho.elim
              | succ n ih =>
                intro x3_32 vMn_32 vMl_32 H locs ls hP hD hS hl hres ho
                rw [l_M_know_32, s_M_know_32] at hres
                rw [ol_M_know_32, os_M_know_32] at ho
                refine lv_iload_n hx hb qd_M_know_32 rfl (lv_at hl 0 rfl) ?_
                refine lv_bipush (v := 10) hx hb qd_M_know_33 (by decide) ?_
                refine lv_icmp_ge (tgt := 73) hx hb qd_M_know_35 (by decide) (fun c_35 => ?_) (fun c_35 => ?_)
                · have hres := hres.trans (if_pos c_35)
                  have ho := (if_pos c_35).mp ho
                  exact hk x3_32 vMn_32 vMl_32 H locs ls hP hD hS (lv_sub hl [0, 1, 2, 3] rfl) hres ho
                have hres := hres.trans (if_neg c_35)
                have ho := (if_neg c_35).mp ho
                refine lv_aload_n hx hb qd_M_know_38 rfl (lv_at hl 3 rfl) ?_
                refine va_get (D := (dC, dI)) (ci := 7) (v := .ref aMn) (C := qR_M) (T := qT_M) (N := 23) hx hb hg qi_M hown hK hP 0 rfl rfl 8 (by decide) (hg _ mw_582) (fun _ h9 => h9) rfl qd_M_know_39 ?_
                refine lv_iload_n hx hb qd_M_know_42 rfl (lv_at hl 0 rfl) ?_
                refine lv_iload_n hx hb qd_M_know_43 rfl (lv_at hl 1 rfl) ?_
                refine lv_iload_n hx hb qd_M_know_44 rfl (lv_at hl 1 rfl) ?_
                refine lv_iload_n hx hb qd_M_know_45 rfl (lv_at hl 2 rfl) ?_
                refine lv_iadd hx hb qd_M_know_46 ?_
                refine xc_S (As := [.int x3_32, .int x2_20, .int (x2_20 + x1_10)]) (rest := [.ref aMn]) ⟨hx, hb, hml, hown, hg⟩ (c_M_at l dC dI cA cZ x3_32 x2_20 (x2_20 + x1_10)) (va_cwS 3 hg (q_gS mw_663 mw_664 mw_8 mw_665) rfl rfl rfl qh_M_at.2 ⟨Nat.le_of_ble_eq_true rfl, Nat.le_of_ble_eq_true rfl⟩) hN hK hP [] rfl rfl hl.1 rfl (Nat.le_of_ble_eq_true rfl) qd_M_know_47 ⟨Nat.zero_le _, Nat.zero_le _⟩ ?_
                refine lv_topi (fun r_47 w_47 => ?_)
                have hres := hres.trans (bd_eq w_47)
                have ho := (bd_eq w_47).mp ho
                refine lv_iconst (v := 0) hx hb qd_M_know_50 (by decide) ?_
                obtain ⟨g_51, ho⟩ := ho
                refine va_iast hx hb hK hP hD hS 5 0 rfl rfl g_51 qd_M_know_51 (fun H locs hP hD hS => ?_)
                have hP : va_P (dC, dI) vwCl [(aM, .inr (7, [.int vMT, .int vMP, .ref aMh, .ref aMi, .ref aMc, .int vMK, .ref aMt, .int vMB, .ref aMn, .ref aMl, .ref aMs, .int vMD, .ref aMd, .int vME, .ref aMe, .int vMO, .ref aMo, .int vMF_20, .int vMS_20, .ref aMw, .ref aMu, .int vMX, .int vMW])), (aMh, .inl (cA, 24, .inl (vMh))), (aMi, .inl (cA, 72, .inl (vMi))), (aMc, .inl (cA, 24, .inl (vMc))), (aMt, .inl (cA, 24, .inl (vMt))), (aMn, .inl (cA, 6250, .inl (upd vMn_32 r_47.toNatClampNeg 0))), (aMl, .inl (cA, 6250, .inl (vMl_32)))] H := hP
                have hD : va_D A [(aM, .inr (7, [.int vMT, .int vMP, .ref aMh, .ref aMi, .ref aMc, .int vMK, .ref aMt, .int vMB, .ref aMn, .ref aMl, .ref aMs, .int vMD, .ref aMd, .int vME, .ref aMe, .int vMO, .ref aMo, .int vMF_20, .int vMS_20, .ref aMw, .ref aMu, .int vMX, .int vMW])), (aMh, .inl (cA, 24, .inl (vMh))), (aMi, .inl (cA, 72, .inl (vMi))), (aMc, .inl (cA, 24, .inl (vMc))), (aMt, .inl (cA, 24, .inl (vMt))), (aMn, .inl (cA, 6250, .inl (upd vMn_32 r_47.toNatClampNeg 0))), (aMl, .inl (cA, 6250, .inl (vMl_32)))] := hD
                refine lv_aload_n hx hb qd_M_know_52 rfl (lv_at hl 3 rfl) ?_
                refine va_get (D := (dC, dI)) (ci := 7) (v := .ref aMl) (C := qR_M) (T := qT_M) (N := 23) hx hb hg qi_M hown hK hP 0 rfl rfl 9 (by decide) (hg _ mw_583) (fun _ h9 => h9) rfl qd_M_know_53 ?_
                refine lv_iload_n hx hb qd_M_know_56 rfl (lv_at hl 0 rfl) ?_
                refine lv_iload_n hx hb qd_M_know_57 rfl (lv_at hl 1 rfl) ?_
                refine lv_iload_n hx hb qd_M_know_58 rfl (lv_at hl 1 rfl) ?_
                refine lv_iload_n hx hb qd_M_know_59 rfl (lv_at hl 2 rfl) ?_
                refine lv_iadd hx hb qd_M_know_60 ?_
                refine xc_S (As := [.int x3_32, .int x2_20, .int (x2_20 + x1_10)]) (rest := [.ref aMl]) ⟨hx, hb, hml, hown, hg⟩ (c_M_at l dC dI cA cZ x3_32 x2_20 (x2_20 + x1_10)) (va_cwS 3 hg (q_gS mw_663 mw_664 mw_8 mw_665) rfl rfl rfl qh_M_at.2 ⟨Nat.le_of_ble_eq_true rfl, Nat.le_of_ble_eq_true rfl⟩) hN hK hP [] rfl rfl hl.1 rfl (Nat.le_of_ble_eq_true rfl) qd_M_know_61 ⟨Nat.zero_le _, Nat.zero_le _⟩ ?_
                refine lv_topi (fun r_61 w_61 => ?_)
                have hres := hres.trans (bd_eq w_61)
                have ho := (bd_eq w_61).mp ho
                refine lv_ldc (v := 2000000000) hx hb hown (hg _ mw_666) qd_M_know_64 ?_
                obtain ⟨g_66, ho⟩ := ho
                refine va_iast hx hb hK hP hD hS 6 0 rfl rfl g_66 qd_M_know_66 (fun H locs hP hD hS => ?_)
                have hP : va_P (dC, dI) vwCl [(aM, .inr (7, [.int vMT, .int vMP, .ref aMh, .ref aMi, .ref aMc, .int vMK, .ref aMt, .int vMB, .ref aMn, .ref aMl, .ref aMs, .int vMD, .ref aMd, .int vME, .ref aMe, .int vMO, .ref aMo, .int vMF_20, .int vMS_20, .ref aMw, .ref aMu, .int vMX, .int vMW])), (aMh, .inl (cA, 24, .inl (vMh))), (aMi, .inl (cA, 72, .inl (vMi))), (aMc, .inl (cA, 24, .inl (vMc))), (aMt, .inl (cA, 24, .inl (vMt))), (aMn, .inl (cA, 6250, .inl (upd vMn_32 r_47.toNatClampNeg 0))), (aMl, .inl (cA, 6250, .inl (upd vMl_32 r_61.toNatClampNeg 2000000000)))] H := hP
                have hD : va_D A [(aM, .inr (7, [.int vMT, .int vMP, .ref aMh, .ref aMi, .ref aMc, .int vMK, .ref aMt, .int vMB, .ref aMn, .ref aMl, .ref aMs, .int vMD, .ref aMd, .int vME, .ref aMe, .int vMO, .ref aMo, .int vMF_20, .int vMS_20, .ref aMw, .ref aMu, .int vMX, .int vMW])), (aMh, .inl (cA, 24, .inl (vMh))), (aMi, .inl (cA, 72, .inl (vMi))), (aMc, .inl (cA, 24, .inl (vMc))), (aMt, .inl (cA, 24, .inl (vMt))), (aMn, .inl (cA, 6250, .inl (upd vMn_32 r_47.toNatClampNeg 0))), (aMl, .inl (cA, 6250, .inl (upd vMl_32 r_61.toNatClampNeg 2000000000)))] := hD
                refine lv_iinc (v := x3_32 + 1) (lv' := [(3, .int (x3_32 + 1)), (2, .int x2_20), (1, .int x1_10), (0, .ref aM)]) hx hb qd_M_know_67 hl (k := 0) rfl (congrArg (fun z => _ + z) (by decide)) (by decide) rfl (fun ls hl => ?_)
                refine lv_goto (tgt := 32) hx hb qd_M_know_70 (by decide) ?_
                exact ih (x3_32 + 1) (upd vMn_32 r_47.toNatClampNeg 0) (upd vMl_32 r_61.toNatClampNeg 2000000000) H locs ls hP hD hS (lv_sub hl [0, 1, 2, 3] rfl) hres ho
            refine L_32 _ _ (fun x3_32 vMn_32 vMl_32 H locs ls hP hD hS hl hres ho => ?_) _ _ _ _ _ _ ls hP hD hS hl hres ho
            refine lv_iconst (v := 1) hx hb qd_M_know_73 (by decide) ?_
            refine lv_istore_n (lv' := [(3, .int 1), (2, .int x2_20), (1, .int x1_10), (0, .ref aM)]) hx hb qd_M_know_74 rfl hl (by decide) rfl (fun ls hl => ?_)
            have L_75 : ∀ (K_ : Int32 → Int32 → Int32 → (Nat → Int32) → (Nat → Int32) → Int32 × Int32 × Int32 × (Nat → Int32) × (Nat → Int32)) (Ko_ : Int32 → Int32 → Int32 → (Nat → Int32) → (Nat → Int32) → Prop) (hk : ∀ (x3_75 : Int32) (vMF_75 : Int32) (vMS_75 : Int32) (vMn_75 : (Nat → Int32)) (vMl_75 : (Nat → Int32)) (H : Heap) (locs : List Loc) (ls : Array Slot), va_P (dC, dI) vwCl [(aM, .inr (7, [.int vMT, .int vMP, .ref aMh, .ref aMi, .ref aMc, .int vMK, .ref aMt, .int vMB, .ref aMn, .ref aMl, .ref aMs, .int vMD, .ref aMd, .int vME, .ref aMe, .int vMO, .ref aMo, .int vMF_75, .int vMS_75, .ref aMw, .ref aMu, .int vMX, .int vMW])), (aMh, .inl (cA, 24, .inl (vMh))), (aMi, .inl (cA, 72, .inl (vMi))), (aMc, .inl (cA, 24, .inl (vMc))), (aMt, .inl (cA, 24, .inl (vMt))), (aMn, .inl (cA, 6250, .inl (vMn_75))), (aMl, .inl (cA, 6250, .inl (vMl_75)))] H → va_D A [(aM, .inr (7, [.int vMT, .int vMP, .ref aMh, .ref aMi, .ref aMc, .int vMK, .ref aMt, .int vMB, .ref aMn, .ref aMl, .ref aMs, .int vMD, .ref aMd, .int vME, .ref aMe, .int vMO, .ref aMo, .int vMF_75, .int vMS_75, .ref aMw, .ref aMu, .int vMX, .int vMW])), (aMh, .inl (cA, 24, .inl (vMh))), (aMi, .inl (cA, 72, .inl (vMi))), (aMc, .inl (cA, 24, .inl (vMc))), (aMt, .inl (cA, 24, .inl (vMt))), (aMn, .inl (cA, 6250, .inl (vMn_75))), (aMl, .inl (cA, 6250, .inl (vMl_75)))] → va_S A s.heap H locs → lv_has ls 4 [(3, .int x3_75), (2, .int x2_20), (1, .int x1_10), (0, .ref aM)] → Fv = K_ x3_75 vMF_75 vMS_75 vMn_75 vMl_75 → Ko_ x3_75 vMF_75 vMS_75 vMn_75 vMl_75 → W p l e ({ frames := 4, cells := 0, slots := 0, locals := 100 } : Room) s m (([.ref aM] : List Value).toArray) below meth c H locs 0 0 Qg (F0 m 91 ls [])) (n : Nat) (x3_75 : Int32) (vMF_75 : Int32) (vMS_75 : Int32) (vMn_75 : (Nat → Int32)) (vMl_75 : (Nat → Int32)) (H : Heap) (locs : List Loc) (ls : Array Slot), va_P (dC, dI) vwCl [(aM, .inr (7, [.int vMT, .int vMP, .ref aMh, .ref aMi, .ref aMc, .int vMK, .ref aMt, .int vMB, .ref aMn, .ref aMl, .ref aMs, .int vMD, .ref aMd, .int vME, .ref aMe, .int vMO, .ref aMo, .int vMF_75, .int vMS_75, .ref aMw, .ref aMu, .int vMX, .int vMW])), (aMh, .inl (cA, 24, .inl (vMh))), (aMi, .inl (cA, 72, .inl (vMi))), (aMc, .inl (cA, 24, .inl (vMc))), (aMt, .inl (cA, 24, .inl (vMt))), (aMn, .inl (cA, 6250, .inl (vMn_75))), (aMl, .inl (cA, 6250, .inl (vMl_75)))] H → va_D A [(aM, .inr (7, [.int vMT, .int vMP, .ref aMh, .ref aMi, .ref aMc, .int vMK, .ref aMt, .int vMB, .ref aMn, .ref aMl, .ref aMs, .int vMD, .ref aMd, .int vME, .ref aMe, .int vMO, .ref aMo, .int vMF_75, .int vMS_75, .ref aMw, .ref aMu, .int vMX, .int vMW])), (aMh, .inl (cA, 24, .inl (vMh))), (aMi, .inl (cA, 72, .inl (vMi))), (aMc, .inl (cA, 24, .inl (vMc))), (aMt, .inl (cA, 24, .inl (vMt))), (aMn, .inl (cA, 6250, .inl (vMn_75))), (aMl, .inl (cA, 6250, .inl (vMl_75)))] → va_S A s.heap H locs → lv_has ls 4 [(3, .int x3_75), (2, .int x2_20), (1, .int x1_10), (0, .ref aM)] → Fv = l_M_know_75 N_ x1_10 x2_20 vMP vMh vMi vMc vMt K_ n x3_75 vMF_75 vMS_75 vMn_75 vMl_75 → ol_M_know_75 N_ x1_10 x2_20 vMP vMh vMi vMc vMt Ko_ n x3_75 vMF_75 vMS_75 vMn_75 vMl_75 → W p l e ({ frames := 4, cells := 0, slots := 0, locals := 100 } : Room) s m (([.ref aM] : List Value).toArray) below meth c H locs 0 0 Qg (F0 m 75 ls []) := by
              intro K_ Ko_ hk n
              induction n with
              | zero => intro x3_75 vMF_75 vMS_75 vMn_75 vMl_75 H locs ls hP hD hS hl hres ho; exact ho.elim
              | succ n ih =>
                intro x3_75 vMF_75 vMS_75 vMn_75 vMl_75 H locs ls hP hD hS hl hres ho
                rw [l_M_know_75, s_M_know_75] at hres
                rw [ol_M_know_75, os_M_know_75] at ho
                refine lv_iload_n hx hb qd_M_know_75 rfl (lv_at hl 0 rfl) ?_
                refine lv_if_eq (tgt := 91) hx hb qd_M_know_76 (by decide) (fun c_76 => ?_) (fun c_76 => ?_)
                · have hres := hres.trans (if_pos c_76)
                  have ho := (if_pos c_76).mp ho
                  exact hk x3_75 vMF_75 vMS_75 vMn_75 vMl_75 H locs ls hP hD hS (lv_sub hl [0, 1, 2, 3] rfl) hres ho
                have hres := hres.trans (if_neg c_76)
                have ho := (if_neg c_76).mp ho
                refine lv_aload_n hx hb qd_M_know_79 rfl (lv_at hl 3 rfl) ?_
                refine lv_iload_n hx hb qd_M_know_80 rfl (lv_at hl 1 rfl) ?_
                refine lv_iload_n hx hb qd_M_know_81 rfl (lv_at hl 1 rfl) ?_
                refine lv_iload_n hx hb qd_M_know_82 rfl (lv_at hl 2 rfl) ?_
                refine lv_iadd hx hb qd_M_know_83 ?_
                obtain ⟨g_84, ho⟩ := ho
                refine xm_Vi (As := [.int x2_20, .int (x2_20 + x1_10)]) (rest := []) (w1 := fun (u_84 : Int32 × Int32 × Int32 × (Nat → Int32) × (Nat → Int32)) => [(aM, .inr (7, [.int vMT, .int vMP, .ref aMh, .ref aMi, .ref aMc, .int vMK, .ref aMt, .int vMB, .ref aMn, .ref aMl, .ref aMs, .int vMD, .ref aMd, .int vME, .ref aMe, .int vMO, .ref aMo, .int u_84.2.1, .int u_84.2.2.1, .ref aMw, .ref aMu, .int vMX, .int vMW])), (aMh, .inl (cA, 24, .inl (vMh))), (aMi, .inl (cA, 72, .inl (vMi))), (aMc, .inl (cA, 24, .inl (vMc))), (aMt, .inl (cA, 24, .inl (vMt))), (aMn, .inl (cA, 6250, .inl (u_84.2.2.2.1))), (aMl, .inl (cA, 6250, .inl (u_84.2.2.2.2)))]) (w2 := fun (u_84 : Int32 × Int32 × Int32 × (Nat → Int32) × (Nat → Int32)) => [(aM, .inr (7, [.int vMT, .int vMP, .ref aMh, .ref aMi, .ref aMc, .int vMK, .ref aMt, .int vMB, .ref aMn, .ref aMl, .ref aMs, .int vMD, .ref aMd, .int vME, .ref aMe, .int vMO, .ref aMo, .int u_84.2.1, .int u_84.2.2.1, .ref aMw, .ref aMu, .int vMX, .int vMW])), (aMh, .inl (cA, 24, .inl (vMh))), (aMi, .inl (cA, 72, .inl (vMi))), (aMc, .inl (cA, 24, .inl (vMc))), (aMt, .inl (cA, 24, .inl (vMt))), (aMn, .inl (cA, 6250, .inl (u_84.2.2.2.1))), (aMl, .inl (cA, 6250, .inl (u_84.2.2.2.2)))]) ⟨hx, hb, hml, hown, hg⟩ (c_M_work l dC dI cA cZ N_ aM aMh aMi aMc aMt aMn aMl aMs aMd aMe aMo aMw aMu _ vMT vMP vMK vMB vMD vME vMO vMF_75 vMS_75 vMX vMW vMh vMi vMc vMt vMn_75 vMl_75 x2_20 (x2_20 + x1_10) g_84) (cwV 2 hg (q_gV mw_667 mw_668 mw_774 mw_8 mw_669) rfl rfl rfl qh_M_work ⟨Nat.le_of_ble_eq_true rfl, Nat.le_of_ble_eq_true rfl⟩) hN hK hP hD hS hA [0, 1, 2, 3, 4, 5, 6] [] rfl rfl (by decide) (by decide) (by decide) [0, 1, 2, 3, 4, 5, 6] (fun _ => rfl) (by decide) 0 7 rfl rfl rfl hl.1 rfl (Nat.le_of_ble_eq_true rfl) qd_M_know_84 ⟨Nat.zero_le _, Nat.zero_le _⟩ (fun u_84 H locs w_84 hP hD hS => ?_)
                have hP : va_P (dC, dI) vwCl [(aM, .inr (7, [.int vMT, .int vMP, .ref aMh, .ref aMi, .ref aMc, .int vMK, .ref aMt, .int vMB, .ref aMn, .ref aMl, .ref aMs, .int vMD, .ref aMd, .int vME, .ref aMe, .int vMO, .ref aMo, .int u_84.2.1, .int u_84.2.2.1, .ref aMw, .ref aMu, .int vMX, .int vMW])), (aMh, .inl (cA, 24, .inl (vMh))), (aMi, .inl (cA, 72, .inl (vMi))), (aMc, .inl (cA, 24, .inl (vMc))), (aMt, .inl (cA, 24, .inl (vMt))), (aMn, .inl (cA, 6250, .inl (u_84.2.2.2.1))), (aMl, .inl (cA, 6250, .inl (u_84.2.2.2.2)))] H := hP
                have hD : va_D A [(aM, .inr (7, [.int vMT, .int vMP, .ref aMh, .ref aMi, .ref aMc, .int vMK, .ref aMt, .int vMB, .ref aMn, .ref aMl, .ref aMs, .int vMD, .ref aMd, .int vME, .ref aMe, .int vMO, .ref aMo, .int u_84.2.1, .int u_84.2.2.1, .ref aMw, .ref aMu, .int vMX, .int vMW])), (aMh, .inl (cA, 24, .inl (vMh))), (aMi, .inl (cA, 72, .inl (vMi))), (aMc, .inl (cA, 24, .inl (vMc))), (aMt, .inl (cA, 24, .inl (vMt))), (aMn, .inl (cA, 6250, .inl (u_84.2.2.2.1))), (aMl, .inl (cA, 6250, .inl (u_84.2.2.2.2)))] := hD
                have hres := hres.trans (bd_eq w_84)
                have ho := (bd_eq w_84).mp ho
                refine lv_istore_n (lv' := [(3, .int u_84.1), (2, .int x2_20), (1, .int x1_10), (0, .ref aM)]) hx hb qd_M_know_87 rfl hl (by decide) rfl (fun ls hl => ?_)
                refine lv_goto (tgt := 75) hx hb qd_M_know_88 (by decide) ?_
                exact ih u_84.1 u_84.2.1 u_84.2.2.1 u_84.2.2.2.1 u_84.2.2.2.2 H locs ls hP hD hS (lv_sub hl [0, 1, 2, 3] rfl) hres ho
            refine L_75 _ _ (fun x3_75 vMF_75 vMS_75 vMn_75 vMl_75 H locs ls hP hD hS hl hres ho => ?_) _ _ _ _ _ _ _ _ ls hP hD hS hl hres ho
            refine lv_iinc (v := x2_20 + 1) (lv' := [(2, .int (x2_20 + 1)), (3, .int x3_75), (1, .int x1_10), (0, .ref aM)]) hx hb qd_M_know_91 hl (k := 1) rfl (congrArg (fun z => _ + z) (by decide)) (by decide) rfl (fun ls hl => ?_)
            refine lv_goto (tgt := 20) hx hb qd_M_know_94 (by decide) ?_
            exact ih (x2_20 + 1) vMF_75 vMS_75 vMn_75 vMl_75 H locs ls hP hD hS (lv_sub hl [0, 2, 3] rfl) hres ho
        refine L_20 _ _ (fun x2_20 vMF_20 vMS_20 vMn_20 vMl_20 H locs ls hP hD hS hl hres ho => ?_) _ _ _ _ _ _ _ _ ls hP hD hS hl hres ho
        refine lv_iinc (v := x1_10 + 1) (lv' := [(1, .int (x1_10 + 1)), (2, .int x2_20), (0, .ref aM)]) hx hb qd_M_know_97 hl (k := 1) rfl (congrArg (fun z => _ + z) (by decide)) (by decide) rfl (fun ls hl => ?_)
        refine lv_goto (tgt := 10) hx hb qd_M_know_100 (by decide) ?_
        exact ih (x1_10 + 1) vMF_20 vMS_20 vMn_20 vMl_20 H locs ls hP hD hS (lv_sub hl [0, 2] rfl) hres ho
    refine L_10 _ _ (fun x1_10 vMF_10 vMS_10 vMn_10 vMl_10 H locs ls hP hD hS hl hres ho => ?_) _ _ _ _ _ _ _ _ ls hP hD hS hl hres ho
    refine lv_aload_n hx hb qd_M_know_103 rfl (lv_at hl 1 rfl) ?_
    refine lv_iconst (v := 1) hx hb qd_M_know_104 (by decide) ?_
    refine va_put (D := (dC, dI)) (ci := 7) (v := .int 1) (ty := .boolean) (C := qR_M) (T := qT_M) (N := 23) hx hb hg qi_M qt_M qk_M qn_M hown hK hP hD hS 0 rfl rfl 7 (by decide) (hg _ mw_581) (fun _ h9 => h9) rfl (by decide +kernel) rfl rfl (Nat.le_of_ble_eq_true rfl) qd_M_know_105 (fun H locs hP hD hS => ?_)
    have hP : va_P (dC, dI) vwCl [(aM, .inr (7, [.int vMT, .int vMP, .ref aMh, .ref aMi, .ref aMc, .int vMK, .ref aMt, .int 1, .ref aMn, .ref aMl, .ref aMs, .int vMD, .ref aMd, .int vME, .ref aMe, .int vMO, .ref aMo, .int vMF_10, .int vMS_10, .ref aMw, .ref aMu, .int vMX, .int vMW])), (aMh, .inl (cA, 24, .inl (vMh))), (aMi, .inl (cA, 72, .inl (vMi))), (aMc, .inl (cA, 24, .inl (vMc))), (aMt, .inl (cA, 24, .inl (vMt))), (aMn, .inl (cA, 6250, .inl (vMn_10))), (aMl, .inl (cA, 6250, .inl (vMl_10)))] H := hP
    have hD : va_D A [(aM, .inr (7, [.int vMT, .int vMP, .ref aMh, .ref aMi, .ref aMc, .int vMK, .ref aMt, .int 1, .ref aMn, .ref aMl, .ref aMs, .int vMD, .ref aMd, .int vME, .ref aMe, .int vMO, .ref aMo, .int vMF_10, .int vMS_10, .ref aMw, .ref aMu, .int vMX, .int vMW])), (aMh, .inl (cA, 24, .inl (vMh))), (aMi, .inl (cA, 72, .inl (vMi))), (aMc, .inl (cA, 24, .inl (vMc))), (aMt, .inl (cA, 24, .inl (vMt))), (aMn, .inl (cA, 6250, .inl (vMn_10))), (aMl, .inl (cA, 6250, .inl (vMl_10)))] := hD
    subst hQ
    exact W.vret hx hb hr (fun t ht hW => ⟨⟨(1, vMF_10, vMS_10, vMn_10, vMl_10), rfl, hres.symm, ⟨by rw [ht]; exact hP, va_K.moved hW.alike hK, x_N hN hW⟩, hD⟩, hS.F ht⟩) hS.2.2 qd_M_know_108
  have hres := hres.trans (if_neg c_4)
  have ho := (if_neg c_4).mp ho
  subst hQ
  exact W.vret hx hb hr (fun t ht hW => ⟨⟨(vMB, vMF, vMS, vMn, vMl), rfl, hres.symm, ⟨by rw [ht]; exact hP, va_K.moved hW.alike hK, x_N hN hW⟩, hD⟩, hS.F ht⟩) hS.2.2 qd_M_know_7
