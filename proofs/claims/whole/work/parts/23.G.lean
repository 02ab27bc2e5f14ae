theorem qd_G_forget_0 : decode qc_G_forget 0 = .ok (.iconst 0, 1) := by decide +kernel
theorem qd_G_forget_1 : decode qc_G_forget 1 = .ok (.istore_n 1, 1) := by decide +kernel
theorem qd_G_forget_2 : decode qc_G_forget 2 = .ok (.iload_n 1, 1) := by decide +kernel
theorem qd_G_forget_3 : decode qc_G_forget 3 = .ok (.bipush 10, 2) := by decide +kernel
theorem qd_G_forget_5 : decode qc_G_forget 5 = .ok (.if_icmp .ge 16, 3) := by decide +kernel
theorem qd_G_forget_8 : decode qc_G_forget 8 = .ok (.aload_n 0, 1) := by decide +kernel
theorem qd_G_forget_9 : decode qc_G_forget 9 = .ok (.getfield 24, 3) := by decide +kernel
theorem qd_G_forget_12 : decode qc_G_forget 12 = .ok (.iload_n 1, 1) := by decide +kernel
theorem qd_G_forget_13 : decode qc_G_forget 13 = .ok (.iconst 0, 1) := by decide +kernel
theorem qd_G_forget_14 : decode qc_G_forget 14 = .ok (.iastore, 1) := by decide +kernel
theorem qd_G_forget_15 : decode qc_G_forget 15 = .ok (.iinc 1 1, 3) := by decide +kernel
theorem qd_G_forget_18 : decode qc_G_forget 18 = .ok (.goto (-16), 3) := by decide +kernel
theorem qd_G_forget_21 : decode qc_G_forget 21 = .ok (.aload_n 0, 1) := by decide +kernel
theorem qd_G_forget_22 : decode qc_G_forget 22 = .ok (.iconst 0, 1) := by decide +kernel
theorem qd_G_forget_23 : decode qc_G_forget 23 = .ok (.putfield 27, 3) := by decide +kernel
theorem qd_G_forget_26 : decode qc_G_forget 26 = .ok (.aload_n 0, 1) := by decide +kernel
theorem qd_G_forget_27 : decode qc_G_forget 27 = .ok (.iconst 0, 1) := by decide +kernel
theorem qd_G_forget_28 : decode qc_G_forget 28 = .ok (.putfield 31, 3) := by decide +kernel
theorem qd_G_forget_31 : decode qc_G_forget 31 = .ok (.return_, 1) := by decide +kernel
set_option maxHeartbeats 4000000 in
set_option maxRecDepth 100000 in
theorem c_G_forget (l : Launch) (dC : Nat → ClassId) (dI : Nat → Nat → Nat) (cA : ClassId) (N_ : Nat) (aG aGh aGi aGc aGo aGr : Nat) (sz : Nat) (vGF : Int32) (vGS : Int32) (vGr : (Nat → Int32)) (ho : o_G_forget N_ vGF vGS vGr) : Met l qy_G_forget qw_G_forget ({ frames := 0, cells := 0, slots := 0, locals := 0 }) (va_Pc [.ref aG] (fun U => U.heap.size = sz ∧ xP (dC, dI) [(cA, .int)] [(aG, .inr (2, [.ref aGh, .ref aGi, .ref aGc, .ref aGo, .ref aGr, .int vGF, .int vGS])), (aGr, .inl (cA, 10, .inl (vGr)))] nestN U ∧ va_D (fun _ => True) [(aG, .inr (2, [.ref aGh, .ref aGi, .ref aGc, .ref aGo, .ref aGr, .int vGF, .int vGS])), (aGr, .inl (cA, 10, .inl (vGr)))])) (va_Qv (fun u => u = f_G_forget N_ vGF vGS vGr) (fun (u : Int32 × Int32 × (Nat → Int32)) t => xP (dC, dI) [(cA, .int)] [(aG, .inr (2, [.ref aGh, .ref aGi, .ref aGc, .ref aGo, .ref aGr, .int u.1, .int u.2.1])), (aGr, .inl (cA, 10, .inl (u.2.2)))] nestN t ∧ va_D (va_A [(aG, .inr (2, [.ref aGh, .ref aGi, .ref aGc, .ref aGo, .ref aGr, .int vGF, .int vGS])), (aGr, .inl (cA, 10, .inl (vGr)))] sz) [(aG, .inr (2, [.ref aGh, .ref aGi, .ref aGc, .ref aGo, .ref aGr, .int u.1, .int u.2.1])), (aGr, .inl (cA, 10, .inl (u.2.2)))]) (va_A [(aG, .inr (2, [.ref aGh, .ref aGi, .ref aGc, .ref aGo, .ref aGr, .int vGF, .int vGS])), (aGr, .inl (cA, 10, .inl (vGr)))] sz)) 0 0 (va_A [(aG, .inr (2, [.ref aGh, .ref aGi, .ref aGc, .ref aGo, .ref aGr, .int vGF, .int vGS])), (aGr, .inl (cA, 10, .inl (vGr)))] sz) := by
  refine Met.ofW (cc := qc_G_forget) (maxL := 2) (ret := (none)) (by decide) rfl ?_
  intro p e s m args below meth c s₁ B hml hv
  obtain ⟨rfl, hsz, ⟨hP, hK, hN⟩, hD0⟩ := hv
  have hx := B.exec
  have hb := B.bytes
  have hr := B.returns
  have hts := atoms_spec (ws := qw_G_forget) B.pre
  have hg : ∀ w ∈ gG, w.before _ s = true := fun w h => hts w (List.mem_cons_of_mem _ h)
  have hown : s.vm.findClass qR_G = some m.cls := findClass_of_methodNamed B.named
  have hlocks := B.notSynchronized
  subst hsz
  have hD := hD0.self (sz := s.heap.size)
  generalize hAe : va_A [(aG, .inr (2, [.ref aGh, .ref aGi, .ref aGc, .ref aGo, .ref aGr, .int vGF, .int vGS])), (aGr, .inl (cA, 10, .inl (vGr)))] s.heap.size = A at hD ⊢
  have hA : ∀ q : Nat, s.heap.size ≤ q → A q := fun q h => by rw [← hAe]; exact Or.inr h
  have hS : va_S A s.heap s.heap [] := va_S.rf
  have hP : va_P (dC, dI) vwCl [(aG, .inr (2, [.ref aGh, .ref aGi, .ref aGc, .ref aGo, .ref aGr, .int vGF, .int vGS])), (aGr, .inl (cA, 10, .inl (vGr)))] s.heap := hP
  have hl := lv_entry ([.ref aG]) (n := 2) (Nat.le_of_ble_eq_true rfl)
  rw [lg_entry_eq]
  generalize (lg_sl ([.ref aG]) ++ List.replicate (2 - (lg_sl ([.ref aG])).length) Slot.unset).toArray = ls at hl ⊢
  have hl : lv_has ls 2 [(0, .ref aG)] := hl
  generalize hF : f_G_forget N_ vGF vGS vGr = Fv
  have hres : Fv = f_G_forget N_ vGF vGS vGr := hF.symm
  unfold f_G_forget at hres
  unfold o_G_forget at ho
  generalize hQ : MQ _ _ _ _ _ _ _ = Qg
  refine lv_iconst (v := 0) hx hb qd_G_forget_0 (by decide) ?_
  refine lv_istore_n (lv' := [(1, .int 0), (0, .ref aG)]) hx hb qd_G_forget_1 rfl hl (by decide) rfl (fun ls hl => ?_)
  have L_2 : ∀ (K_ : Int32 → (Nat → Int32) → Int32 × Int32 × (Nat → Int32)) (Ko_ : Int32 → (Nat → Int32) → Prop) (hk : ∀ (x1_2 : Int32) (vGr_2 : (Nat → Int32)) (H : Heap) (locs : List Loc) (ls : Array Slot), va_P (dC, dI) vwCl [(aG, .inr (2, [.ref aGh, .ref aGi, .ref aGc, .ref aGo, .ref aGr, .int vGF, .int vGS])), (aGr, .inl (cA, 10, .inl (vGr_2)))] H → va_D A [(aG, .inr (2, [.ref aGh, .ref aGi, .ref aGc, .ref aGo, .ref aGr, .int vGF, .int vGS])), (aGr, .inl (cA, 10, .inl (vGr_2)))] → va_S A s.heap H locs → lv_has ls 2 [(1, .int x1_2), (0, .ref aG)] → Fv = K_ x1_2 vGr_2 → Ko_ x1_2 vGr_2 → W p l e ({ frames := 0, cells := 0, slots := 0, locals := 0 } : Room) s m (([.ref aG] : List Value).toArray) below meth c H locs 0 0 Qg (F0 m 21 ls [])) (n : Nat) (x1_2 : Int32) (vGr_2 : (Nat → Int32)) (H : Heap) (locs : List Loc) (ls : Array Slot), va_P (dC, dI) vwCl [(aG, .inr (2, [.ref aGh, .ref aGi, .ref aGc, .ref aGo, .ref aGr, .int vGF, .int vGS])), (aGr, .inl (cA, 10, .inl (vGr_2)))] H → va_D A [(aG, .inr (2, [.ref aGh, .ref aGi, .ref aGc, .ref aGo, .ref aGr, .int vGF, .int vGS])), (aGr, .inl (cA, 10, .inl (vGr_2)))] → va_S A s.heap H locs → lv_has ls 2 [(1, .int x1_2), (0, .ref aG)] → Fv = l_G_forget_2 K_ n x1_2 vGr_2 → ol_G_forget_2 Ko_ n x1_2 vGr_2 → W p l e ({ frames := 0, cells := 0, slots := 0, locals := 0 } : Room) s m (([.ref aG] : List Value).toArray) below meth c H locs 0 0 Qg (F0 m 2 ls []) := by
    intro K_ Ko_ hk n
    induction n with
    | zero => intro x1_2 vGr_2 H locs ls hP hD hS hl hres ho; exact ho.elim
    | succ n ih =>
      intro x1_2 vGr_2 H locs ls hP hD hS hl hres ho
      rw [l_G_forget_2, s_G_forget_2] at hres
      rw [ol_G_forget_2, os_G_forget_2] at ho
      refine lv_iload_n hx hb qd_G_forget_2 rfl (lv_at hl 0 rfl) ?_
      refine lv_bipush (v := 10) hx hb qd_G_forget_3 (by decide) ?_
      refine lv_icmp_ge (tgt := 21) hx hb qd_G_forget_5 (by decide) (fun c_5 => ?_) (fun c_5 => ?_)
      · have hres := hres.trans (if_pos c_5)
        have ho := (if_pos c_5).mp ho
        exact hk x1_2 vGr_2 H locs ls hP hD hS (lv_sub hl [0, 1] rfl) hres ho
      have hres := hres.trans (if_neg c_5)
      have ho := (if_neg c_5).mp ho
      refine lv_aload_n hx hb qd_G_forget_8 rfl (lv_at hl 1 rfl) ?_
      refine va_get (D := (dC, dI)) (ci := 2) (v := .ref aGr) (C := qR_G) (T := qT_G) (N := 7) hx hb hg qi_G hown hK hP 0 rfl rfl 4 (by decide) (hg _ mw_36) (fun _ h9 => h9) rfl qd_G_forget_9 ?_
      refine lv_iload_n hx hb qd_G_forget_12 rfl (lv_at hl 0 rfl) ?_
      refine lv_iconst (v := 0) hx hb qd_G_forget_13 (by decide) ?_
      obtain ⟨g_14, ho⟩ := ho
      refine va_iast hx hb hK hP hD hS 1 0 rfl rfl g_14 qd_G_forget_14 (fun H locs hP hD hS => ?_)
      have hP : va_P (dC, dI) vwCl [(aG, .inr (2, [.ref aGh, .ref aGi, .ref aGc, .ref aGo, .ref aGr, .int vGF, .int vGS])), (aGr, .inl (cA, 10, .inl (upd vGr_2 x1_2.toNatClampNeg 0)))] H := hP
      have hD : va_D A [(aG, .inr (2, [.ref aGh, .ref aGi, .ref aGc, .ref aGo, .ref aGr, .int vGF, .int vGS])), (aGr, .inl (cA, 10, .inl (upd vGr_2 x1_2.toNatClampNeg 0)))] := hD
      refine lv_iinc (v := x1_2 + 1) (lv' := [(1, .int (x1_2 + 1)), (0, .ref aG)]) hx hb qd_G_forget_15 hl (k := 0) rfl (congrArg (fun z => _ + z) (by decide)) (by decide) rfl (fun ls hl => ?_)
      refine lv_goto (tgt := 2) hx hb qd_G_forget_18 (by decide) ?_
      exact ih (x1_2 + 1) (upd vGr_2 x1_2.toNatClampNeg 0) H locs ls hP hD hS (lv_sub hl [0, 1] rfl) hres ho
  refine L_2 _ _ (fun x1_2 vGr_2 H locs ls hP hD hS hl hres ho => ?_) _ _ _ _ _ ls hP hD hS hl hres ho
  refine lv_aload_n hx hb qd_G_forget_21 rfl (lv_at hl 1 rfl) ?_
  refine lv_iconst (v := 0) hx hb qd_G_forget_22 (by decide) ?_
  refine va_put (D := (dC, dI)) (ci := 2) (v := .int 0) (ty := .int) (C := qR_G) (T := qT_G) (N := 7) hx hb hg qi_G qt_G qk_G qn_G hown hK hP hD hS 0 rfl rfl 5 (by decide) (hg _ mw_37) (fun _ h9 => h9) rfl (by decide +kernel) rfl rfl (Nat.le_of_ble_eq_true rfl) qd_G_forget_23 (fun H locs hP hD hS => ?_)
  have hP : va_P (dC, dI) vwCl [(aG, .inr (2, [.ref aGh, .ref aGi, .ref aGc, .ref aGo, .ref aGr, .int 0, .int vGS])), (aGr, .inl (cA, 10, .inl (vGr_2)))] H := hP
  have hD : va_D A [(aG, .inr (2, [.ref aGh, .ref aGi, .ref aGc, .ref aGo, .ref aGr, .int 0, .int vGS])), (aGr, .inl (cA, 10, .inl (vGr_2)))] := hD
  refine lv_aload_n hx hb qd_G_forget_26 rfl (lv_at hl 1 rfl) ?_
  refine lv_iconst (v := 0) hx hb qd_G_forget_27 (by decide) ?_
  refine va_put (D := (dC, dI)) (ci := 2) (v := .int 0) (ty := .int) (C := qR_G) (T := qT_G) (N := 7) hx hb hg qi_G qt_G qk_G qn_G hown hK hP hD hS 0 rfl rfl 6 (by decide) (hg _ mw_38) (fun _ h9 => h9) rfl (by decide +kernel) rfl rfl (Nat.le_of_ble_eq_true rfl) qd_G_forget_28 (fun H locs hP hD hS => ?_)
  have hP : va_P (dC, dI) vwCl [(aG, .inr (2, [.ref aGh, .ref aGi, .ref aGc, .ref aGo, .ref aGr, .int 0, .int 0])), (aGr, .inl (cA, 10, .inl (vGr_2)))] H := hP
  have hD : va_D A [(aG, .inr (2, [.ref aGh, .ref aGi, .ref aGc, .ref aGo, .ref aGr, .int 0, .int 0])), (aGr, .inl (cA, 10, .inl (vGr_2)))] := hD
  subst hQ
  exact W.vret hx hb hr (fun t ht hW => ⟨⟨(0, 0, vGr_2), rfl, hres.symm, ⟨by rw [ht]; exact hP, va_K.moved hW.alike hK, x_N hN hW⟩, hD⟩, hS.F ht⟩) hS.2.2 qd_G_forget_31
theorem qd_G_size_0 : decode qc_G_size 0 = .ok (.aload_n 0, 1) := by decide +kernel
theorem qd_G_size_1 : decode qc_G_size 1 = .ok (.getfield 31, 3) := by decide +kernel
theorem qd_G_size_4 : decode qc_G_size 4 = .ok (.ireturn, 1) := by decide +kernel
set_option maxHeartbeats 4000000 in
set_option maxRecDepth 100000 in
theorem c_G_size (l : Launch) (dC : Nat → ClassId) (dI : Nat → Nat → Nat) (cA : ClassId) (aG aGh aGi aGc aGo aGr : Nat) (vGF : Int32) (vGS : Int32) : Met l qy_G_size qw_G_size ({ frames := 0, cells := 0, slots := 0, locals := 0 }) (va_Pc [.ref aG] (xP (dC, dI) [(cA, .int)] [(aG, .inr (2, [.ref aGh, .ref aGi, .ref aGc, .ref aGo, .ref aGr, .int vGF, .int vGS]))] nestN)) (vp_Si (fun r => r = f_G_size vGS)) 0 0 (fun _ => False) := by
  refine Met.ofW (cc := qc_G_size) (maxL := 1) (ret := (some .int)) (by decide) rfl ?_
  intro p e s m args below meth c s₁ B hml hv
  obtain ⟨rfl, hP, hK, hN⟩ := hv
  have hx := B.exec
  have hb := B.bytes
  have hr := B.returns
  have hts := atoms_spec (ws := qw_G_size) B.pre
  have hg : ∀ w ∈ gG, w.before _ s = true := fun w h => hts w (List.mem_cons_of_mem _ h)
  have hown : s.vm.findClass qR_G = some m.cls := findClass_of_methodNamed B.named
  have hlocks := B.notSynchronized
  have hP : va_P (dC, dI) vwCl [(aG, .inr (2, [.ref aGh, .ref aGi, .ref aGc, .ref aGo, .ref aGr, .int vGF, .int vGS]))] s.heap := hP
  have hl := lv_entry ([.ref aG]) (n := 1) (Nat.le_of_ble_eq_true rfl)
  rw [lg_entry_eq]
  generalize (lg_sl ([.ref aG]) ++ List.replicate (1 - (lg_sl ([.ref aG])).length) Slot.unset).toArray = ls at hl ⊢
  have hl : lv_has ls 1 [(0, .ref aG)] := hl
  generalize hF : f_G_size vGS = Fv
  have hres : Fv = f_G_size vGS := hF.symm
  unfold f_G_size at hres
  refine lv_aload_n hx hb qd_G_size_0 rfl (lv_at hl 0 rfl) ?_
  refine va_get (D := (dC, dI)) (ci := 2) (v := .int vGS) (C := qR_G) (T := qT_G) (N := 7) hx hb hg qi_G hown hK hP 0 rfl rfl 6 (by decide) (hg _ mw_38) (fun _ h9 => h9) rfl qd_G_size_1 ?_
  exact W.iret (v := vGS) hx hb hr (fun t ht hW => ⟨_, rfl, hres.symm, ht⟩) (fun _ h => nomatch h) qd_G_size_4
theorem qd_G_item_0 : decode qc_G_item 0 = .ok (.iload_n 1, 1) := by decide +kernel
theorem qd_G_item_1 : decode qc_G_item 1 = .ok (.ifCond .lt 30, 3) := by decide +kernel
theorem qd_G_item_4 : decode qc_G_item 4 = .ok (.iload_n 1, 1) := by decide +kernel
theorem qd_G_item_5 : decode qc_G_item 5 = .ok (.aload_n 0, 1) := by decide +kernel
theorem qd_G_item_6 : decode qc_G_item 6 = .ok (.getfield 31, 3) := by decide +kernel
theorem qd_G_item_9 : decode qc_G_item 9 = .ok (.if_icmp .ge 22, 3) := by decide +kernel
theorem qd_G_item_12 : decode qc_G_item 12 = .ok (.iload_n 1, 1) := by decide +kernel
theorem qd_G_item_13 : decode qc_G_item 13 = .ok (.bipush 24, 2) := by decide +kernel
theorem qd_G_item_15 : decode qc_G_item 15 = .ok (.if_icmp .ge 16, 3) := by decide +kernel
theorem qd_G_item_18 : decode qc_G_item 18 = .ok (.iload_n 2, 1) := by decide +kernel
theorem qd_G_item_19 : decode qc_G_item 19 = .ok (.ifCond .lt 12, 3) := by decide +kernel
theorem qd_G_item_22 : decode qc_G_item 22 = .ok (.iload_n 2, 1) := by decide +kernel
theorem qd_G_item_23 : decode qc_G_item 23 = .ok (.iconst 3, 1) := by decide +kernel
theorem qd_G_item_24 : decode qc_G_item 24 = .ok (.if_icmp .ge 7, 3) := by decide +kernel
theorem qd_G_item_27 : decode qc_G_item 27 = .ok (.iconst 1, 1) := by decide +kernel
theorem qd_G_item_28 : decode qc_G_item 28 = .ok (.goto 4, 3) := by decide +kernel
theorem qd_G_item_31 : decode qc_G_item 31 = .ok (.iconst 0, 1) := by decide +kernel
theorem qd_G_item_32 : decode qc_G_item 32 = .ok (.istore_n 3, 1) := by decide +kernel
theorem qd_G_item_33 : decode qc_G_item 33 = .ok (.iload_n 3, 1) := by decide +kernel
theorem qd_G_item_34 : decode qc_G_item 34 = .ok (.ifCond .eq 16, 3) := by decide +kernel
theorem qd_G_item_37 : decode qc_G_item 37 = .ok (.aload_n 0, 1) := by decide +kernel
theorem qd_G_item_38 : decode qc_G_item 38 = .ok (.getfield 15, 3) := by decide +kernel
theorem qd_G_item_41 : decode qc_G_item 41 = .ok (.iload_n 1, 1) := by decide +kernel
theorem qd_G_item_42 : decode qc_G_item 42 = .ok (.iconst 3, 1) := by decide +kernel
theorem qd_G_item_43 : decode qc_G_item 43 = .ok (.imul, 1) := by decide +kernel
theorem qd_G_item_44 : decode qc_G_item 44 = .ok (.iload_n 2, 1) := by decide +kernel
theorem qd_G_item_45 : decode qc_G_item 45 = .ok (.iadd, 1) := by decide +kernel
theorem qd_G_item_46 : decode qc_G_item 46 = .ok (.iaload, 1) := by decide +kernel
theorem qd_G_item_47 : decode qc_G_item 47 = .ok (.goto 4, 3) := by decide +kernel
theorem qd_G_item_50 : decode qc_G_item 50 = .ok (.iconst (-1), 1) := by decide +kernel
theorem qd_G_item_51 : decode qc_G_item 51 = .ok (.ireturn, 1) := by decide +kernel
set_option maxHeartbeats 4000000 in
set_option maxRecDepth 100000 in
theorem c_G_item (l : Launch) (dC : Nat → ClassId) (dI : Nat → Nat → Nat) (cA : ClassId) (aG aGh aGi aGc aGo aGr : Nat) (vGF : Int32) (vGS : Int32) (vGi : (Nat → Int32)) (p0 : Int32) (p1 : Int32) (ho : o_G_item vGS vGi p0 p1) : Met l qy_G_item qw_G_item ({ frames := 0, cells := 0, slots := 0, locals := 0 }) (va_Pc [.ref aG, .int p0, .int p1] (xP (dC, dI) [(cA, .int)] [(aG, .inr (2, [.ref aGh, .ref aGi, .ref aGc, .ref aGo, .ref aGr, .int vGF, .int vGS])), (aGi, .inl (cA, 72, .inl (vGi)))] nestN)) (vp_Si (fun r => r = f_G_item vGS vGi p0 p1)) 0 0 (fun _ => False) := by
  refine Met.ofW (cc := qc_G_item) (maxL := 4) (ret := (some .int)) (by decide) rfl ?_
  intro p e s m args below meth c s₁ B hml hv
  obtain ⟨rfl, hP, hK, hN⟩ := hv
  have hx := B.exec
  have hb := B.bytes
  have hr := B.returns
  have hts := atoms_spec (ws := qw_G_item) B.pre
  have hg : ∀ w ∈ gG, w.before _ s = true := fun w h => hts w (List.mem_cons_of_mem _ h)
  have hown : s.vm.findClass qR_G = some m.cls := findClass_of_methodNamed B.named
  have hlocks := B.notSynchronized
  have hP : va_P (dC, dI) vwCl [(aG, .inr (2, [.ref aGh, .ref aGi, .ref aGc, .ref aGo, .ref aGr, .int vGF, .int vGS])), (aGi, .inl (cA, 72, .inl (vGi)))] s.heap := hP
  have hl := lv_entry ([.ref aG, .int p0, .int p1]) (n := 4) (Nat.le_of_ble_eq_true rfl)
  rw [lg_entry_eq]
  generalize (lg_sl ([.ref aG, .int p0, .int p1]) ++ List.replicate (4 - (lg_sl ([.ref aG, .int p0, .int p1])).length) Slot.unset).toArray = ls at hl ⊢
  have hl : lv_has ls 4 [(0, .ref aG), (1, .int p0), (2, .int p1)] := hl
  generalize hF : f_G_item vGS vGi p0 p1 = Fv
  have hres : Fv = f_G_item vGS vGi p0 p1 := hF.symm
  unfold f_G_item at hres
  unfold o_G_item at ho
  refine lv_iload_n hx hb qd_G_item_0 rfl (lv_at hl 1 rfl) ?_
  refine lv_if_lt (tgt := 31) hx hb qd_G_item_1 (by decide) (fun c_1 => ?_) (fun c_1 => ?_)
  · have hres := hres.trans (if_pos c_1)
    have ho := (if_pos c_1).mp ho
    refine lv_iconst (v := 0) hx hb qd_G_item_31 (by decide) ?_
    refine lv_istore_n (lv' := [(3, .int 0), (0, .ref aG), (1, .int p0), (2, .int p1)]) hx hb qd_G_item_32 rfl hl (by decide) rfl (fun ls hl => ?_)
    refine lv_iload_n hx hb qd_G_item_33 rfl (lv_at hl 0 rfl) ?_
    refine lv_if_eq (tgt := 50) hx hb qd_G_item_34 (by decide) (fun c_34 => ?_) (fun c_34 => ?_)
    rotate_left
    · exact absurd (by decide) c_34
    refine lv_iconst (v := (-1)) hx hb qd_G_item_50 (by decide) ?_
    exact W.iret (v := (-1)) hx hb hr (fun t ht hW => ⟨_, rfl, hres.symm, ht⟩) (fun _ h => nomatch h) qd_G_item_51
  have hres := hres.trans (if_neg c_1)
  have ho := (if_neg c_1).mp ho
  refine lv_iload_n hx hb qd_G_item_4 rfl (lv_at hl 1 rfl) ?_
  refine lv_aload_n hx hb qd_G_item_5 rfl (lv_at hl 0 rfl) ?_
  refine va_get (D := (dC, dI)) (ci := 2) (v := .int vGS) (C := qR_G) (T := qT_G) (N := 7) hx hb hg qi_G hown hK hP 0 rfl rfl 6 (by decide) (hg _ mw_38) (fun _ h9 => h9) rfl qd_G_item_6 ?_
  refine lv_icmp_ge (tgt := 31) hx hb qd_G_item_9 (by decide) (fun c_9 => ?_) (fun c_9 => ?_)
  · have hres := hres.trans (if_pos c_9)
    have ho := (if_pos c_9).mp ho
    refine lv_iconst (v := 0) hx hb qd_G_item_31 (by decide) ?_
    refine lv_istore_n (lv' := [(3, .int 0), (0, .ref aG), (1, .int p0), (2, .int p1)]) hx hb qd_G_item_32 rfl hl (by decide) rfl (fun ls hl => ?_)
    refine lv_iload_n hx hb qd_G_item_33 rfl (lv_at hl 0 rfl) ?_
    refine lv_if_eq (tgt := 50) hx hb qd_G_item_34 (by decide) (fun c_34 => ?_) (fun c_34 => ?_)
    rotate_left
    · exact absurd (by decide) c_34
    refine lv_iconst (v := (-1)) hx hb qd_G_item_50 (by decide) ?_
    exact W.iret (v := (-1)) hx hb hr (fun t ht hW => ⟨_, rfl, hres.symm, ht⟩) (fun _ h => nomatch h) qd_G_item_51
  have hres := hres.trans (if_neg c_9)
  have ho := (if_neg c_9).mp ho
  refine lv_iload_n hx hb qd_G_item_12 rfl (lv_at hl 1 rfl) ?_
  refine lv_bipush (v := 24) hx hb qd_G_item_13 (by decide) ?_
  refine lv_icmp_ge (tgt := 31) hx hb qd_G_item_15 (by decide) (fun c_15 => ?_) (fun c_15 => ?_)
  · have hres := hres.trans (if_pos c_15)
    have ho := (if_pos c_15).mp ho
    refine lv_iconst (v := 0) hx hb qd_G_item_31 (by decide) ?_
    refine lv_istore_n (lv' := [(3, .int 0), (0, .ref aG), (1, .int p0), (2, .int p1)]) hx hb qd_G_item_32 rfl hl (by decide) rfl (fun ls hl => ?_)
    refine lv_iload_n hx hb qd_G_item_33 rfl (lv_at hl 0 rfl) ?_
    refine lv_if_eq (tgt := 50) hx hb qd_G_item_34 (by decide) (fun c_34 => ?_) (fun c_34 => ?_)
    rotate_left
    · exact absurd (by decide) c_34
    refine lv_iconst (v := (-1)) hx hb qd_G_item_50 (by decide) ?_
    exact W.iret (v := (-1)) hx hb hr (fun t ht hW => ⟨_, rfl, hres.symm, ht⟩) (fun _ h => nomatch h) qd_G_item_51
  have hres := hres.trans (if_neg c_15)
  have ho := (if_neg c_15).mp ho
  refine lv_iload_n hx hb qd_G_item_18 rfl (lv_at hl 2 rfl) ?_
  refine lv_if_lt (tgt := 31) hx hb qd_G_item_19 (by decide) (fun c_19 => ?_) (fun c_19 => ?_)
  · have hres := hres.trans (if_pos c_19)
    have ho := (if_pos c_19).mp ho
    refine lv_iconst (v := 0) hx hb qd_G_item_31 (by decide) ?_
    refine lv_istore_n (lv' := [(3, .int 0), (0, .ref aG), (1, .int p0), (2, .int p1)]) hx hb qd_G_item_32 rfl hl (by decide) rfl (fun ls hl => ?_)
    refine lv_iload_n hx hb qd_G_item_33 rfl (lv_at hl 0 rfl) ?_
    refine lv_if_eq (tgt := 50) hx hb qd_G_item_34 (by decide) (fun c_34 => ?_) (fun c_34 => ?_)
    rotate_left
    · exact absurd (by decide) c_34
    refine lv_iconst (v := (-1)) hx hb qd_G_item_50 (by decide) ?_
    exact W.iret (v := (-1)) hx hb hr (fun t ht hW => ⟨_, rfl, hres.symm, ht⟩) (fun _ h => nomatch h) qd_G_item_51
  have hres := hres.trans (if_neg c_19)
  have ho := (if_neg c_19).mp ho
  refine lv_iload_n hx hb qd_G_item_22 rfl (lv_at hl 2 rfl) ?_
  refine lv_iconst (v := 3) hx hb qd_G_item_23 (by decide) ?_
  refine lv_icmp_ge (tgt := 31) hx hb qd_G_item_24 (by decide) (fun c_24 => ?_) (fun c_24 => ?_)
  · have hres := hres.trans (if_pos c_24)
    have ho := (if_pos c_24).mp ho
    refine lv_iconst (v := 0) hx hb qd_G_item_31 (by decide) ?_
    refine lv_istore_n (lv' := [(3, .int 0), (0, .ref aG), (1, .int p0), (2, .int p1)]) hx hb qd_G_item_32 rfl hl (by decide) rfl (fun ls hl => ?_)
    refine lv_iload_n hx hb qd_G_item_33 rfl (lv_at hl 0 rfl) ?_
    refine lv_if_eq (tgt := 50) hx hb qd_G_item_34 (by decide) (fun c_34 => ?_) (fun c_34 => ?_)
    rotate_left
    · exact absurd (by decide) c_34
    refine lv_iconst (v := (-1)) hx hb qd_G_item_50 (by decide) ?_
    exact W.iret (v := (-1)) hx hb hr (fun t ht hW => ⟨_, rfl, hres.symm, ht⟩) (fun _ h => nomatch h) qd_G_item_51
  have hres := hres.trans (if_neg c_24)
  have ho := (if_neg c_24).mp ho
  refine lv_iconst (v := 1) hx hb qd_G_item_27 (by decide) ?_
  refine lv_goto (tgt := 32) hx hb qd_G_item_28 (by decide) ?_
  refine lv_istore_n (lv' := [(3, .int 1), (0, .ref aG), (1, .int p0), (2, .int p1)]) hx hb qd_G_item_32 rfl hl (by decide) rfl (fun ls hl => ?_)
  refine lv_iload_n hx hb qd_G_item_33 rfl (lv_at hl 0 rfl) ?_
  refine lv_if_eq (tgt := 50) hx hb qd_G_item_34 (by decide) (fun c_34 => ?_) (fun c_34 => ?_)
  · exact absurd c_34 (by decide)
  refine lv_aload_n hx hb qd_G_item_37 rfl (lv_at hl 1 rfl) ?_
  refine va_get (D := (dC, dI)) (ci := 2) (v := .ref aGi) (C := qR_G) (T := qT_G) (N := 7) hx hb hg qi_G hown hK hP 0 rfl rfl 1 (by decide) (hg _ mw_33) (fun _ h9 => h9) rfl qd_G_item_38 ?_
  refine lv_iload_n hx hb qd_G_item_41 rfl (lv_at hl 2 rfl) ?_
  refine lv_iconst (v := 3) hx hb qd_G_item_42 (by decide) ?_
  refine lv_imul hx hb qd_G_item_43 ?_
  refine lv_iload_n hx hb qd_G_item_44 rfl (lv_at hl 3 rfl) ?_
  refine lv_iadd hx hb qd_G_item_45 ?_
  obtain ⟨g_46, ho⟩ := ho
  refine va_iald hx hb hK hP 1 0 rfl rfl g_46 qd_G_item_46 ?_
  refine lv_goto (tgt := 51) hx hb qd_G_item_47 (by decide) ?_
  exact W.iret (v := vGi ((p0 * 3) + p1).toNatClampNeg) hx hb hr (fun t ht hW => ⟨_, rfl, hres.symm, ht⟩) (fun _ h => nomatch h) qd_G_item_51
theorem qd_G_lastSecondEnd_0 : decode qc_G_lastSecondEnd 0 = .ok (.aload_n 0, 1) := by decide +kernel
theorem qd_G_lastSecondEnd_1 : decode qc_G_lastSecondEnd 1 = .ok (.iload_n 1, 1) := by decide +kernel
theorem qd_G_lastSecondEnd_2 : decode qc_G_lastSecondEnd 2 = .ok (.iconst 2, 1) := by decide +kernel
theorem qd_G_lastSecondEnd_3 : decode qc_G_lastSecondEnd 3 = .ok (.invokevirtual 68, 3) := by decide +kernel
theorem qd_G_lastSecondEnd_6 : decode qc_G_lastSecondEnd 6 = .ok (.iconst (-1), 1) := by decide +kernel
theorem qd_G_lastSecondEnd_7 : decode qc_G_lastSecondEnd 7 = .ok (.if_icmp .ne 7, 3) := by decide +kernel
theorem qd_G_lastSecondEnd_10 : decode qc_G_lastSecondEnd 10 = .ok (.iload_n 2, 1) := by decide +kernel
theorem qd_G_lastSecondEnd_11 : decode qc_G_lastSecondEnd 11 = .ok (.goto 6, 3) := by decide +kernel
theorem qd_G_lastSecondEnd_14 : decode qc_G_lastSecondEnd 14 = .ok (.iload_n 2, 1) := by decide +kernel
theorem qd_G_lastSecondEnd_15 : decode qc_G_lastSecondEnd 15 = .ok (.iconst 1, 1) := by decide +kernel
theorem qd_G_lastSecondEnd_16 : decode qc_G_lastSecondEnd 16 = .ok (.isub, 1) := by decide +kernel
theorem qd_G_lastSecondEnd_17 : decode qc_G_lastSecondEnd 17 = .ok (.ireturn, 1) := by decide +kernel
set_option maxHeartbeats 4000000 in
set_option maxRecDepth 100000 in
theorem c_G_lastSecondEnd (l : Launch) (dC : Nat → ClassId) (dI : Nat → Nat → Nat) (cA : ClassId) (aG aGh aGi aGc aGo aGr : Nat) (vGF : Int32) (vGS : Int32) (vGi : (Nat → Int32)) (p0 : Int32) (p1 : Int32) (ho : o_G_lastSecondEnd vGS vGi p0 p1) : Met l qy_G_lastSecondEnd qw_G_lastSecondEnd ({ frames := 1, cells := 0, slots := 0, locals := 23 }) (va_Pc [.ref aG, .int p0, .int p1] (xP (dC, dI) [(cA, .int)] [(aG, .inr (2, [.ref aGh, .ref aGi, .ref aGc, .ref aGo, .ref aGr, .int vGF, .int vGS])), (aGi, .inl (cA, 72, .inl (vGi)))] nestN)) (vp_Si (fun r => r = f_G_lastSecondEnd vGS vGi p0 p1)) 0 0 (fun _ => False) := by
  refine Met.ofW (cc := qc_G_lastSecondEnd) (maxL := 3) (ret := (some .int)) (by decide) rfl ?_
  intro p e s m args below meth c s₁ B hml hv
  obtain ⟨rfl, hP, hK, hN⟩ := hv
  have hx := B.exec
  have hb := B.bytes
  have hr := B.returns
  have hts := atoms_spec (ws := qw_G_lastSecondEnd) B.pre
  have hg : ∀ w ∈ gG, w.before _ s = true := fun w h => hts w (List.mem_cons_of_mem _ h)
  have hown : s.vm.findClass qR_G = some m.cls := findClass_of_methodNamed B.named
  have hlocks := B.notSynchronized
  have hP : va_P (dC, dI) vwCl [(aG, .inr (2, [.ref aGh, .ref aGi, .ref aGc, .ref aGo, .ref aGr, .int vGF, .int vGS])), (aGi, .inl (cA, 72, .inl (vGi)))] s.heap := hP
  have hl := lv_entry ([.ref aG, .int p0, .int p1]) (n := 3) (Nat.le_of_ble_eq_true rfl)
  rw [lg_entry_eq]
  generalize (lg_sl ([.ref aG, .int p0, .int p1]) ++ List.replicate (3 - (lg_sl ([.ref aG, .int p0, .int p1])).length) Slot.unset).toArray = ls at hl ⊢
  have hl : lv_has ls 3 [(0, .ref aG), (1, .int p0), (2, .int p1)] := hl
  generalize hF : f_G_lastSecondEnd vGS vGi p0 p1 = Fv
  have hres : Fv = f_G_lastSecondEnd vGS vGi p0 p1 := hF.symm
  unfold f_G_lastSecondEnd at hres
  unfold o_G_lastSecondEnd at ho
  refine lv_aload_n hx hb qd_G_lastSecondEnd_0 rfl (lv_at hl 0 rfl) ?_
  refine lv_iload_n hx hb qd_G_lastSecondEnd_1 rfl (lv_at hl 1 rfl) ?_
  refine lv_iconst (v := 2) hx hb qd_G_lastSecondEnd_2 (by decide) ?_
  obtain ⟨g_3, ho⟩ := ho
  refine xc_V (As := [.int p0, .int 2]) (rest := []) ⟨hx, hb, hml, hown, hg⟩ (c_G_item l dC dI cA aG aGh aGi aGc aGo aGr vGF vGS vGi p0 2 g_3) (cwV 2 hg (q_gV mw_300 mw_301 mw_302 mw_2 mw_303) rfl rfl rfl qh_G_item ⟨Nat.le_of_ble_eq_true rfl, Nat.le_of_ble_eq_true rfl⟩) hN hK hP [0, 1] rfl 0 2 rfl rfl rfl hl.1 rfl (Nat.le_of_ble_eq_true rfl) qd_G_lastSecondEnd_3 ⟨Nat.zero_le _, Nat.zero_le _⟩ ?_
  refine lv_topi (fun r_3 w_3 => ?_)
  have hres := hres.trans (bd_eq w_3)
  have ho := (bd_eq w_3).mp ho
  refine lv_iconst (v := (-1)) hx hb qd_G_lastSecondEnd_6 (by decide) ?_
  refine lv_icmp_ne (tgt := 14) hx hb qd_G_lastSecondEnd_7 (by decide) (fun c_7 => ?_) (fun c_7 => ?_)
  · have hres := hres.trans (if_neg c_7)
    have ho := (if_neg c_7).mp ho
    refine lv_iload_n hx hb qd_G_lastSecondEnd_14 rfl (lv_at hl 2 rfl) ?_
    refine lv_iconst (v := 1) hx hb qd_G_lastSecondEnd_15 (by decide) ?_
    refine lv_isub hx hb qd_G_lastSecondEnd_16 ?_
    exact W.iret (v := p1 - 1) hx hb hr (fun t ht hW => ⟨_, rfl, hres.symm, ht⟩) (fun _ h => nomatch h) qd_G_lastSecondEnd_17
  have hres := hres.trans (if_pos c_7)
  have ho := (if_pos c_7).mp ho
  refine lv_iload_n hx hb qd_G_lastSecondEnd_10 rfl (lv_at hl 2 rfl) ?_
  refine lv_goto (tgt := 17) hx hb qd_G_lastSecondEnd_11 (by decide) ?_
  exact W.iret (v := p1) hx hb hr (fun t ht hW => ⟨_, rfl, hres.symm, ht⟩) (fun _ h => nomatch h) qd_G_lastSecondEnd_17
theorem qd_G_leastSecondEnd_0 : decode qc_G_leastSecondEnd 0 = .ok (.aload_n 0, 1) := by decide +kernel
theorem qd_G_leastSecondEnd_1 : decode qc_G_leastSecondEnd 1 = .ok (.iload_n 1, 1) := by decide +kernel
theorem qd_G_leastSecondEnd_2 : decode qc_G_leastSecondEnd 2 = .ok (.iconst 2, 1) := by decide +kernel
theorem qd_G_leastSecondEnd_3 : decode qc_G_leastSecondEnd 3 = .ok (.invokevirtual 68, 3) := by decide +kernel
theorem qd_G_leastSecondEnd_6 : decode qc_G_leastSecondEnd 6 = .ok (.iconst (-1), 1) := by decide +kernel
theorem qd_G_leastSecondEnd_7 : decode qc_G_leastSecondEnd 7 = .ok (.if_icmp .ne 7, 3) := by decide +kernel
theorem qd_G_leastSecondEnd_10 : decode qc_G_leastSecondEnd 10 = .ok (.iload_n 3, 1) := by decide +kernel
theorem qd_G_leastSecondEnd_11 : decode qc_G_leastSecondEnd 11 = .ok (.goto 6, 3) := by decide +kernel
theorem qd_G_leastSecondEnd_14 : decode qc_G_leastSecondEnd 14 = .ok (.iload_n 2, 1) := by decide +kernel
theorem qd_G_leastSecondEnd_15 : decode qc_G_leastSecondEnd 15 = .ok (.iconst 1, 1) := by decide +kernel
theorem qd_G_leastSecondEnd_16 : decode qc_G_leastSecondEnd 16 = .ok (.iadd, 1) := by decide +kernel
theorem qd_G_leastSecondEnd_17 : decode qc_G_leastSecondEnd 17 = .ok (.ireturn, 1) := by decide +kernel
set_option maxHeartbeats 4000000 in
set_option maxRecDepth 100000 in
theorem c_G_leastSecondEnd (l : Launch) (dC : Nat → ClassId) (dI : Nat → Nat → Nat) (cA : ClassId) (aG aGh aGi aGc aGo aGr : Nat) (vGF : Int32) (vGS : Int32) (vGi : (Nat → Int32)) (p0 : Int32) (p1 : Int32) (p2 : Int32) (ho : o_G_leastSecondEnd vGS vGi p0 p1 p2) : Met l qy_G_leastSecondEnd qw_G_leastSecondEnd ({ frames := 1, cells := 0, slots := 0, locals := 23 }) (va_Pc [.ref aG, .int p0, .int p1, .int p2] (xP (dC, dI) [(cA, .int)] [(aG, .inr (2, [.ref aGh, .ref aGi, .ref aGc, .ref aGo, .ref aGr, .int vGF, .int vGS])), (aGi, .inl (cA, 72, .inl (vGi)))] nestN)) (vp_Si (fun r => r = f_G_leastSecondEnd vGS vGi p0 p1 p2)) 0 0 (fun _ => False) := by
  refine Met.ofW (cc := qc_G_leastSecondEnd) (maxL := 4) (ret := (some .int)) (by decide) rfl ?_
  intro p e s m args below meth c s₁ B hml hv
  obtain ⟨rfl, hP, hK, hN⟩ := hv
  have hx := B.exec
  have hb := B.bytes
  have hr := B.returns
  have hts := atoms_spec (ws := qw_G_leastSecondEnd) B.pre
  have hg : ∀ w ∈ gG, w.before _ s = true := fun w h => hts w (List.mem_cons_of_mem _ h)
  have hown : s.vm.findClass qR_G = some m.cls := findClass_of_methodNamed B.named
  have hlocks := B.notSynchronized
  have hP : va_P (dC, dI) vwCl [(aG, .inr (2, [.ref aGh, .ref aGi, .ref aGc, .ref aGo, .ref aGr, .int vGF, .int vGS])), (aGi, .inl (cA, 72, .inl (vGi)))] s.heap := hP
  have hl := lv_entry ([.ref aG, .int p0, .int p1, .int p2]) (n := 4) (Nat.le_of_ble_eq_true rfl)
  rw [lg_entry_eq]
  generalize (lg_sl ([.ref aG, .int p0, .int p1, .int p2]) ++ List.replicate (4 - (lg_sl ([.ref aG, .int p0, .int p1, .int p2])).length) Slot.unset).toArray = ls at hl ⊢
  have hl : lv_has ls 4 [(0, .ref aG), (1, .int p0), (2, .int p1), (3, .int p2)] := hl
  generalize hF : f_G_leastSecondEnd vGS vGi p0 p1 p2 = Fv
  have hres : Fv = f_G_leastSecondEnd vGS vGi p0 p1 p2 := hF.symm
  unfold f_G_leastSecondEnd at hres
  unfold o_G_leastSecondEnd at ho
  refine lv_aload_n hx hb qd_G_leastSecondEnd_0 rfl (lv_at hl 0 rfl) ?_
  refine lv_iload_n hx hb qd_G_leastSecondEnd_1 rfl (lv_at hl 1 rfl) ?_
  refine lv_iconst (v := 2) hx hb qd_G_leastSecondEnd_2 (by decide) ?_
  obtain ⟨g_3, ho⟩ := ho
  refine xc_V (As := [.int p0, .int 2]) (rest := []) ⟨hx, hb, hml, hown, hg⟩ (c_G_item l dC dI cA aG aGh aGi aGc aGo aGr vGF vGS vGi p0 2 g_3) (cwV 2 hg (q_gV mw_300 mw_301 mw_302 mw_2 mw_303) rfl rfl rfl qh_G_item ⟨Nat.le_of_ble_eq_true rfl, Nat.le_of_ble_eq_true rfl⟩) hN hK hP [0, 1] rfl 0 2 rfl rfl rfl hl.1 rfl (Nat.le_of_ble_eq_true rfl) qd_G_leastSecondEnd_3 ⟨Nat.zero_le _, Nat.zero_le _⟩ ?_
  refine lv_topi (fun r_3 w_3 => ?_)
  have hres := hres.trans (bd_eq w_3)
  have ho := (bd_eq w_3).mp ho
  refine lv_iconst (v := (-1)) hx hb qd_G_leastSecondEnd_6 (by decide) ?_
  refine lv_icmp_ne (tgt := 14) hx hb qd_G_leastSecondEnd_7 (by decide) (fun c_7 => ?_) (fun c_7 => ?_)
  · have hres := hres.trans (if_neg c_7)
    have ho := (if_neg c_7).mp ho
    refine lv_iload_n hx hb qd_G_leastSecondEnd_14 rfl (lv_at hl 2 rfl) ?_
    refine lv_iconst (v := 1) hx hb qd_G_leastSecondEnd_15 (by decide) ?_
    refine lv_iadd hx hb qd_G_leastSecondEnd_16 ?_
    exact W.iret (v := p1 + 1) hx hb hr (fun t ht hW => ⟨_, rfl, hres.symm, ht⟩) (fun _ h => nomatch h) qd_G_leastSecondEnd_17
  have hres := hres.trans (if_pos c_7)
  have ho := (if_pos c_7).mp ho
  refine lv_iload_n hx hb qd_G_leastSecondEnd_10 rfl (lv_at hl 3 rfl) ?_
  refine lv_goto (tgt := 17) hx hb qd_G_leastSecondEnd_11 (by decide) ?_
  exact W.iret (v := p2) hx hb hr (fun t ht hW => ⟨_, rfl, hres.symm, ht⟩) (fun _ h => nomatch h) qd_G_leastSecondEnd_17
theorem qd_G_inStepOrder_0 : decode qc_G_inStepOrder 0 = .ok (.iload_n 1, 1) := by decide +kernel
theorem qd_G_inStepOrder_1 : decode qc_G_inStepOrder 1 = .ok (.ifCond .lt 26, 3) := by decide +kernel
theorem qd_G_inStepOrder_4 : decode qc_G_inStepOrder 4 = .ok (.iload_n 1, 1) := by decide +kernel
theorem qd_G_inStepOrder_5 : decode qc_G_inStepOrder 5 = .ok (.aload_n 0, 1) := by decide +kernel
theorem qd_G_inStepOrder_6 : decode qc_G_inStepOrder 6 = .ok (.getfield 31, 3) := by decide +kernel
theorem qd_G_inStepOrder_9 : decode qc_G_inStepOrder 9 = .ok (.if_icmp .ge 18, 3) := by decide +kernel
theorem qd_G_inStepOrder_12 : decode qc_G_inStepOrder 12 = .ok (.iload_n 1, 1) := by decide +kernel
theorem qd_G_inStepOrder_13 : decode qc_G_inStepOrder 13 = .ok (.bipush 24, 2) := by decide +kernel
theorem qd_G_inStepOrder_15 : decode qc_G_inStepOrder 15 = .ok (.if_icmp .ge 12, 3) := by decide +kernel
theorem qd_G_inStepOrder_18 : decode qc_G_inStepOrder 18 = .ok (.aload_n 0, 1) := by decide +kernel
theorem qd_G_inStepOrder_19 : decode qc_G_inStepOrder 19 = .ok (.getfield 21, 3) := by decide +kernel
theorem qd_G_inStepOrder_22 : decode qc_G_inStepOrder 22 = .ok (.iload_n 1, 1) := by decide +kernel
theorem qd_G_inStepOrder_23 : decode qc_G_inStepOrder 23 = .ok (.iaload, 1) := by decide +kernel
theorem qd_G_inStepOrder_24 : decode qc_G_inStepOrder 24 = .ok (.goto 4, 3) := by decide +kernel
theorem qd_G_inStepOrder_27 : decode qc_G_inStepOrder 27 = .ok (.iconst (-1), 1) := by decide +kernel
theorem qd_G_inStepOrder_28 : decode qc_G_inStepOrder 28 = .ok (.ireturn, 1) := by decide +kernel
set_option maxHeartbeats 4000000 in
set_option maxRecDepth 100000 in
theorem c_G_inStepOrder (l : Launch) (dC : Nat → ClassId) (dI : Nat → Nat → Nat) (cA : ClassId) (aG aGh aGi aGc aGo aGr : Nat) (vGF : Int32) (vGS : Int32) (vGo : (Nat → Int32)) (p0 : Int32) (ho : o_G_inStepOrder vGS vGo p0) : Met l qy_G_inStepOrder qw_G_inStepOrder ({ frames := 0, cells := 0, slots := 0, locals := 0 }) (va_Pc [.ref aG, .int p0] (xP (dC, dI) [(cA, .int)] [(aG, .inr (2, [.ref aGh, .ref aGi, .ref aGc, .ref aGo, .ref aGr, .int vGF, .int vGS])), (aGo, .inl (cA, 24, .inl (vGo)))] nestN)) (vp_Si (fun r => r = f_G_inStepOrder vGS vGo p0)) 0 0 (fun _ => False) := by
  refine Met.ofW (cc := qc_G_inStepOrder) (maxL := 2) (ret := (some .int)) (by decide) rfl ?_
  intro p e s m args below meth c s₁ B hml hv
  obtain ⟨rfl, hP, hK, hN⟩ := hv
  have hx := B.exec
  have hb := B.bytes
  have hr := B.returns
  have hts := atoms_spec (ws := qw_G_inStepOrder) B.pre
  have hg : ∀ w ∈ gG, w.before _ s = true := fun w h => hts w (List.mem_cons_of_mem _ h)
  have hown : s.vm.findClass qR_G = some m.cls := findClass_of_methodNamed B.named
  have hlocks := B.notSynchronized
  have hP : va_P (dC, dI) vwCl [(aG, .inr (2, [.ref aGh, .ref aGi, .ref aGc, .ref aGo, .ref aGr, .int vGF, .int vGS])), (aGo, .inl (cA, 24, .inl (vGo)))] s.heap := hP
  have hl := lv_entry ([.ref aG, .int p0]) (n := 2) (Nat.le_of_ble_eq_true rfl)
  rw [lg_entry_eq]
  generalize (lg_sl ([.ref aG, .int p0]) ++ List.replicate (2 - (lg_sl ([.ref aG, .int p0])).length) Slot.unset).toArray = ls at hl ⊢
  have hl : lv_has ls 2 [(0, .ref aG), (1, .int p0)] := hl
  generalize hF : f_G_inStepOrder vGS vGo p0 = Fv
  have hres : Fv = f_G_inStepOrder vGS vGo p0 := hF.symm
  unfold f_G_inStepOrder at hres
  unfold o_G_inStepOrder at ho
  refine lv_iload_n hx hb qd_G_inStepOrder_0 rfl (lv_at hl 1 rfl) ?_
  refine lv_if_lt (tgt := 27) hx hb qd_G_inStepOrder_1 (by decide) (fun c_1 => ?_) (fun c_1 => ?_)
  · have hres := hres.trans (if_pos c_1)
    have ho := (if_pos c_1).mp ho
    refine lv_iconst (v := (-1)) hx hb qd_G_inStepOrder_27 (by decide) ?_
    exact W.iret (v := (-1)) hx hb hr (fun t ht hW => ⟨_, rfl, hres.symm, ht⟩) (fun _ h => nomatch h) qd_G_inStepOrder_28
  have hres := hres.trans (if_neg c_1)
  have ho := (if_neg c_1).mp ho
  refine lv_iload_n hx hb qd_G_inStepOrder_4 rfl (lv_at hl 1 rfl) ?_
  refine lv_aload_n hx hb qd_G_inStepOrder_5 rfl (lv_at hl 0 rfl) ?_
  refine va_get (D := (dC, dI)) (ci := 2) (v := .int vGS) (C := qR_G) (T := qT_G) (N := 7) hx hb hg qi_G hown hK hP 0 rfl rfl 6 (by decide) (hg _ mw_38) (fun _ h9 => h9) rfl qd_G_inStepOrder_6 ?_
  refine lv_icmp_ge (tgt := 27) hx hb qd_G_inStepOrder_9 (by decide) (fun c_9 => ?_) (fun c_9 => ?_)
  · have hres := hres.trans (if_pos c_9)
    have ho := (if_pos c_9).mp ho
    refine lv_iconst (v := (-1)) hx hb qd_G_inStepOrder_27 (by decide) ?_
    exact W.iret (v := (-1)) hx hb hr (fun t ht hW => ⟨_, rfl, hres.symm, ht⟩) (fun _ h => nomatch h) qd_G_inStepOrder_28
  have hres := hres.trans (if_neg c_9)
  have ho := (if_neg c_9).mp ho
  refine lv_iload_n hx hb qd_G_inStepOrder_12 rfl (lv_at hl 1 rfl) ?_
  refine lv_bipush (v := 24) hx hb qd_G_inStepOrder_13 (by decide) ?_
  refine lv_icmp_ge (tgt := 27) hx hb qd_G_inStepOrder_15 (by decide) (fun c_15 => ?_) (fun c_15 => ?_)
  · have hres := hres.trans (if_pos c_15)
    have ho := (if_pos c_15).mp ho
    refine lv_iconst (v := (-1)) hx hb qd_G_inStepOrder_27 (by decide) ?_
    exact W.iret (v := (-1)) hx hb hr (fun t ht hW => ⟨_, rfl, hres.symm, ht⟩) (fun _ h => nomatch h) qd_G_inStepOrder_28
  have hres := hres.trans (if_neg c_15)
  have ho := (if_neg c_15).mp ho
  refine lv_aload_n hx hb qd_G_inStepOrder_18 rfl (lv_at hl 0 rfl) ?_
  refine va_get (D := (dC, dI)) (ci := 2) (v := .ref aGo) (C := qR_G) (T := qT_G) (N := 7) hx hb hg qi_G hown hK hP 0 rfl rfl 3 (by decide) (hg _ mw_35) (fun _ h9 => h9) rfl qd_G_inStepOrder_19 ?_
  refine lv_iload_n hx hb qd_G_inStepOrder_22 rfl (lv_at hl 1 rfl) ?_
  obtain ⟨g_23, ho⟩ := ho
  refine va_iald hx hb hK hP 1 0 rfl rfl g_23 qd_G_inStepOrder_23 ?_
  refine lv_goto (tgt := 28) hx hb qd_G_inStepOrder_24 (by decide) ?_
  exact W.iret (v := vGo p0.toNatClampNeg) hx hb hr (fun t ht hW => ⟨_, rfl, hres.symm, ht⟩) (fun _ h => nomatch h) qd_G_inStepOrder_28
theorem qd_G_head_0 : decode qc_G_head 0 = .ok (.iload_n 1, 1) := by decide +kernel
theorem qd_G_head_1 : decode qc_G_head 1 = .ok (.ifCond .lt 26, 3) := by decide +kernel
theorem qd_G_head_4 : decode qc_G_head 4 = .ok (.iload_n 1, 1) := by decide +kernel
theorem qd_G_head_5 : decode qc_G_head 5 = .ok (.aload_n 0, 1) := by decide +kernel
theorem qd_G_head_6 : decode qc_G_head 6 = .ok (.getfield 31, 3) := by decide +kernel
theorem qd_G_head_9 : decode qc_G_head 9 = .ok (.if_icmp .ge 18, 3) := by decide +kernel
theorem qd_G_head_12 : decode qc_G_head 12 = .ok (.iload_n 1, 1) := by decide +kernel
theorem qd_G_head_13 : decode qc_G_head 13 = .ok (.bipush 24, 2) := by decide +kernel
theorem qd_G_head_15 : decode qc_G_head 15 = .ok (.if_icmp .ge 12, 3) := by decide +kernel
theorem qd_G_head_18 : decode qc_G_head 18 = .ok (.aload_n 0, 1) := by decide +kernel
theorem qd_G_head_19 : decode qc_G_head 19 = .ok (.getfield 9, 3) := by decide +kernel
theorem qd_G_head_22 : decode qc_G_head 22 = .ok (.iload_n 1, 1) := by decide +kernel
theorem qd_G_head_23 : decode qc_G_head 23 = .ok (.iaload, 1) := by decide +kernel
theorem qd_G_head_24 : decode qc_G_head 24 = .ok (.goto 4, 3) := by decide +kernel
theorem qd_G_head_27 : decode qc_G_head 27 = .ok (.iconst (-1), 1) := by decide +kernel
theorem qd_G_head_28 : decode qc_G_head 28 = .ok (.ireturn, 1) := by decide +kernel
set_option maxHeartbeats 4000000 in
set_option maxRecDepth 100000 in
theorem c_G_head (l : Launch) (dC : Nat → ClassId) (dI : Nat → Nat → Nat) (cA : ClassId) (aG aGh aGi aGc aGo aGr : Nat) (vGF : Int32) (vGS : Int32) (vGh : (Nat → Int32)) (p0 : Int32) (ho : o_G_head vGS vGh p0) : Met l qy_G_head qw_G_head ({ frames := 0, cells := 0, slots := 0, locals := 0 }) (va_Pc [.ref aG, .int p0] (xP (dC, dI) [(cA, .int)] [(aG, .inr (2, [.ref aGh, .ref aGi, .ref aGc, .ref aGo, .ref aGr, .int vGF, .int vGS])), (aGh, .inl (cA, 24, .inl (vGh)))] nestN)) (vp_Si (fun r => r = f_G_head vGS vGh p0)) 0 0 (fun _ => False) := by
  refine Met.ofW (cc := qc_G_head) (maxL := 2) (ret := (some .int)) (by decide) rfl ?_
  intro p e s m args below meth c s₁ B hml hv
  obtain ⟨rfl, hP, hK, hN⟩ := hv
  have hx := B.exec
  have hb := B.bytes
  have hr := B.returns
  have hts := atoms_spec (ws := qw_G_head) B.pre
  have hg : ∀ w ∈ gG, w.before _ s = true := fun w h => hts w (List.mem_cons_of_mem _ h)
  have hown : s.vm.findClass qR_G = some m.cls := findClass_of_methodNamed B.named
  have hlocks := B.notSynchronized
  have hP : va_P (dC, dI) vwCl [(aG, .inr (2, [.ref aGh, .ref aGi, .ref aGc, .ref aGo, .ref aGr, .int vGF, .int vGS])), (aGh, .inl (cA, 24, .inl (vGh)))] s.heap := hP
  have hl := lv_entry ([.ref aG, .int p0]) (n := 2) (Nat.le_of_ble_eq_true rfl)
  rw [lg_entry_eq]
  generalize (lg_sl ([.ref aG, .int p0]) ++ List.replicate (2 - (lg_sl ([.ref aG, .int p0])).length) Slot.unset).toArray = ls at hl ⊢
  have hl : lv_has ls 2 [(0, .ref aG), (1, .int p0)] := hl
  generalize hF : f_G_head vGS vGh p0 = Fv
  have hres : Fv = f_G_head vGS vGh p0 := hF.symm
  unfold f_G_head at hres
  unfold o_G_head at ho
  refine lv_iload_n hx hb qd_G_head_0 rfl (lv_at hl 1 rfl) ?_
  refine lv_if_lt (tgt := 27) hx hb qd_G_head_1 (by decide) (fun c_1 => ?_) (fun c_1 => ?_)
  · have hres := hres.trans (if_pos c_1)
    have ho := (if_pos c_1).mp ho
    refine lv_iconst (v := (-1)) hx hb qd_G_head_27 (by decide) ?_
    exact W.iret (v := (-1)) hx hb hr (fun t ht hW => ⟨_, rfl, hres.symm, ht⟩) (fun _ h => nomatch h) qd_G_head_28
  have hres := hres.trans (if_neg c_1)
  have ho := (if_neg c_1).mp ho
  refine lv_iload_n hx hb qd_G_head_4 rfl (lv_at hl 1 rfl) ?_
  refine lv_aload_n hx hb qd_G_head_5 rfl (lv_at hl 0 rfl) ?_
  refine va_get (D := (dC, dI)) (ci := 2) (v := .int vGS) (C := qR_G) (T := qT_G) (N := 7) hx hb hg qi_G hown hK hP 0 rfl rfl 6 (by decide) (hg _ mw_38) (fun _ h9 => h9) rfl qd_G_head_6 ?_
  refine lv_icmp_ge (tgt := 27) hx hb qd_G_head_9 (by decide) (fun c_9 => ?_) (fun c_9 => ?_)
  · have hres := hres.trans (if_pos c_9)
    have ho := (if_pos c_9).mp ho
    refine lv_iconst (v := (-1)) hx hb qd_G_head_27 (by decide) ?_
    exact W.iret (v := (-1)) hx hb hr (fun t ht hW => ⟨_, rfl, hres.symm, ht⟩) (fun _ h => nomatch h) qd_G_head_28
  have hres := hres.trans (if_neg c_9)
  have ho := (if_neg c_9).mp ho
  refine lv_iload_n hx hb qd_G_head_12 rfl (lv_at hl 1 rfl) ?_
  refine lv_bipush (v := 24) hx hb qd_G_head_13 (by decide) ?_
  refine lv_icmp_ge (tgt := 27) hx hb qd_G_head_15 (by decide) (fun c_15 => ?_) (fun c_15 => ?_)
  · have hres := hres.trans (if_pos c_15)
    have ho := (if_pos c_15).mp ho
    refine lv_iconst (v := (-1)) hx hb qd_G_head_27 (by decide) ?_
    exact W.iret (v := (-1)) hx hb hr (fun t ht hW => ⟨_, rfl, hres.symm, ht⟩) (fun _ h => nomatch h) qd_G_head_28
  have hres := hres.trans (if_neg c_15)
  have ho := (if_neg c_15).mp ho
  refine lv_aload_n hx hb qd_G_head_18 rfl (lv_at hl 0 rfl) ?_
  refine va_get (D := (dC, dI)) (ci := 2) (v := .ref aGh) (C := qR_G) (T := qT_G) (N := 7) hx hb hg qi_G hown hK hP 0 rfl rfl 0 (by decide) (hg _ mw_32) (fun _ h9 => h9) rfl qd_G_head_19 ?_
  refine lv_iload_n hx hb qd_G_head_22 rfl (lv_at hl 1 rfl) ?_
  obtain ⟨g_23, ho⟩ := ho
  refine va_iald hx hb hK hP 1 0 rfl rfl g_23 qd_G_head_23 ?_
  refine lv_goto (tgt := 28) hx hb qd_G_head_24 (by decide) ?_
  exact W.iret (v := vGh p0.toNatClampNeg) hx hb hr (fun t ht hW => ⟨_, rfl, hres.symm, ht⟩) (fun _ h => nomatch h) qd_G_head_28
theorem qd_G_lastFirstEnd_0 : decode qc_G_lastFirstEnd 0 = .ok (.aload_n 0, 1) := by decide +kernel
theorem qd_G_lastFirstEnd_1 : decode qc_G_lastFirstEnd 1 = .ok (.iload_n 1, 1) := by decide +kernel
theorem qd_G_lastFirstEnd_2 : decode qc_G_lastFirstEnd 2 = .ok (.iconst 1, 1) := by decide +kernel
theorem qd_G_lastFirstEnd_3 : decode qc_G_lastFirstEnd 3 = .ok (.invokevirtual 68, 3) := by decide +kernel
theorem qd_G_lastFirstEnd_6 : decode qc_G_lastFirstEnd 6 = .ok (.iconst (-1), 1) := by decide +kernel
theorem qd_G_lastFirstEnd_7 : decode qc_G_lastFirstEnd 7 = .ok (.if_icmp .ne 7, 3) := by decide +kernel
theorem qd_G_lastFirstEnd_10 : decode qc_G_lastFirstEnd 10 = .ok (.iload_n 2, 1) := by decide +kernel
theorem qd_G_lastFirstEnd_11 : decode qc_G_lastFirstEnd 11 = .ok (.goto 22, 3) := by decide +kernel
theorem qd_G_lastFirstEnd_14 : decode qc_G_lastFirstEnd 14 = .ok (.aload_n 0, 1) := by decide +kernel
theorem qd_G_lastFirstEnd_15 : decode qc_G_lastFirstEnd 15 = .ok (.iload_n 1, 1) := by decide +kernel
theorem qd_G_lastFirstEnd_16 : decode qc_G_lastFirstEnd 16 = .ok (.iconst 2, 1) := by decide +kernel
theorem qd_G_lastFirstEnd_17 : decode qc_G_lastFirstEnd 17 = .ok (.invokevirtual 68, 3) := by decide +kernel
theorem qd_G_lastFirstEnd_20 : decode qc_G_lastFirstEnd 20 = .ok (.iconst (-1), 1) := by decide +kernel
theorem qd_G_lastFirstEnd_21 : decode qc_G_lastFirstEnd 21 = .ok (.if_icmp .ne 9, 3) := by decide +kernel
theorem qd_G_lastFirstEnd_24 : decode qc_G_lastFirstEnd 24 = .ok (.iload_n 2, 1) := by decide +kernel
theorem qd_G_lastFirstEnd_25 : decode qc_G_lastFirstEnd 25 = .ok (.iconst 1, 1) := by decide +kernel
theorem qd_G_lastFirstEnd_26 : decode qc_G_lastFirstEnd 26 = .ok (.isub, 1) := by decide +kernel
theorem qd_G_lastFirstEnd_27 : decode qc_G_lastFirstEnd 27 = .ok (.goto 6, 3) := by decide +kernel
theorem qd_G_lastFirstEnd_30 : decode qc_G_lastFirstEnd 30 = .ok (.iload_n 2, 1) := by decide +kernel
theorem qd_G_lastFirstEnd_31 : decode qc_G_lastFirstEnd 31 = .ok (.iconst 2, 1) := by decide +kernel
theorem qd_G_lastFirstEnd_32 : decode qc_G_lastFirstEnd 32 = .ok (.isub, 1) := by decide +kernel
theorem qd_G_lastFirstEnd_33 : decode qc_G_lastFirstEnd 33 = .ok (.ireturn, 1) := by decide +kernel
set_option maxHeartbeats 4000000 in
set_option maxRecDepth 100000 in
theorem c_G_lastFirstEnd (l : Launch) (dC : Nat → ClassId) (dI : Nat → Nat → Nat) (cA : ClassId) (aG aGh aGi aGc aGo aGr : Nat) (vGF : Int32) (vGS : Int32) (vGi : (Nat → Int32)) (p0 : Int32) (p1 : Int32) (ho : o_G_lastFirstEnd vGS vGi p0 p1) : Met l qy_G_lastFirstEnd qw_G_lastFirstEnd ({ frames := 1, cells := 0, slots := 0, locals := 23 }) (va_Pc [.ref aG, .int p0, .int p1] (xP (dC, dI) [(cA, .int)] [(aG, .inr (2, [.ref aGh, .ref aGi, .ref aGc, .ref aGo, .ref aGr, .int vGF, .int vGS])), (aGi, .inl (cA, 72, .inl (vGi)))] nestN)) (vp_Si (fun r => r = f_G_lastFirstEnd vGS vGi p0 p1)) 0 0 (fun _ => False) := by
  refine Met.ofW (cc := qc_G_lastFirstEnd) (maxL := 3) (ret := (some .int)) (by decide) rfl ?_
  intro p e s m args below meth c s₁ B hml hv
  obtain ⟨rfl, hP, hK, hN⟩ := hv
  have hx := B.exec
  have hb := B.bytes
  have hr := B.returns
  have hts := atoms_spec (ws := qw_G_lastFirstEnd) B.pre
  have hg : ∀ w ∈ gG, w.before _ s = true := fun w h => hts w (List.mem_cons_of_mem _ h)
  have hown : s.vm.findClass qR_G = some m.cls := findClass_of_methodNamed B.named
  have hlocks := B.notSynchronized
  have hP : va_P (dC, dI) vwCl [(aG, .inr (2, [.ref aGh, .ref aGi, .ref aGc, .ref aGo, .ref aGr, .int vGF, .int vGS])), (aGi, .inl (cA, 72, .inl (vGi)))] s.heap := hP
  have hl := lv_entry ([.ref aG, .int p0, .int p1]) (n := 3) (Nat.le_of_ble_eq_true rfl)
  rw [lg_entry_eq]
  generalize (lg_sl ([.ref aG, .int p0, .int p1]) ++ List.replicate (3 - (lg_sl ([.ref aG, .int p0, .int p1])).length) Slot.unset).toArray = ls at hl ⊢
  have hl : lv_has ls 3 [(0, .ref aG), (1, .int p0), (2, .int p1)] := hl
  generalize hF : f_G_lastFirstEnd vGS vGi p0 p1 = Fv
  have hres : Fv = f_G_lastFirstEnd vGS vGi p0 p1 := hF.symm
  unfold f_G_lastFirstEnd at hres
  unfold o_G_lastFirstEnd at ho
  refine lv_aload_n hx hb qd_G_lastFirstEnd_0 rfl (lv_at hl 0 rfl) ?_
  refine lv_iload_n hx hb qd_G_lastFirstEnd_1 rfl (lv_at hl 1 rfl) ?_
  refine lv_iconst (v := 1) hx hb qd_G_lastFirstEnd_2 (by decide) ?_
  obtain ⟨g_3, ho⟩ := ho
  refine xc_V (As := [.int p0, .int 1]) (rest := []) ⟨hx, hb, hml, hown, hg⟩ (c_G_item l dC dI cA aG aGh aGi aGc aGo aGr vGF vGS vGi p0 1 g_3) (cwV 2 hg (q_gV mw_300 mw_301 mw_302 mw_2 mw_303) rfl rfl rfl qh_G_item ⟨Nat.le_of_ble_eq_true rfl, Nat.le_of_ble_eq_true rfl⟩) hN hK hP [0, 1] rfl 0 2 rfl rfl rfl hl.1 rfl (Nat.le_of_ble_eq_true rfl) qd_G_lastFirstEnd_3 ⟨Nat.zero_le _, Nat.zero_le _⟩ ?_
  refine lv_topi (fun r_3 w_3 => ?_)
  have hres := hres.trans (bd_eq w_3)
  have ho := (bd_eq w_3).mp ho
  refine lv_iconst (v := (-1)) hx hb qd_G_lastFirstEnd_6 (by decide) ?_
  refine lv_icmp_ne (tgt := 14) hx hb qd_G_lastFirstEnd_7 (by decide) (fun c_7 => ?_) (fun c_7 => ?_)
  · have hres := hres.trans (if_neg c_7)
    have ho := (if_neg c_7).mp ho
    refine lv_aload_n hx hb qd_G_lastFirstEnd_14 rfl (lv_at hl 0 rfl) ?_
    refine lv_iload_n hx hb qd_G_lastFirstEnd_15 rfl (lv_at hl 1 rfl) ?_
    refine lv_iconst (v := 2) hx hb qd_G_lastFirstEnd_16 (by decide) ?_
    obtain ⟨g_17, ho⟩ := ho
    refine xc_V (As := [.int p0, .int 2]) (rest := []) ⟨hx, hb, hml, hown, hg⟩ (c_G_item l dC dI cA aG aGh aGi aGc aGo aGr vGF vGS vGi p0 2 g_17) (cwV 2 hg (q_gV mw_300 mw_301 mw_302 mw_2 mw_303) rfl rfl rfl qh_G_item ⟨Nat.le_of_ble_eq_true rfl, Nat.le_of_ble_eq_true rfl⟩) hN hK hP [0, 1] rfl 0 2 rfl rfl rfl hl.1 rfl (Nat.le_of_ble_eq_true rfl) qd_G_lastFirstEnd_17 ⟨Nat.zero_le _, Nat.zero_le _⟩ ?_
    refine lv_topi (fun r_17 w_17 => ?_)
    have hres := hres.trans (bd_eq w_17)
    have ho := (bd_eq w_17).mp ho
    refine lv_iconst (v := (-1)) hx hb qd_G_lastFirstEnd_20 (by decide) ?_
    refine lv_icmp_ne (tgt := 30) hx hb qd_G_lastFirstEnd_21 (by decide) (fun c_21 => ?_) (fun c_21 => ?_)
    · have hres := hres.trans (if_neg c_21)
      have ho := (if_neg c_21).mp ho
      refine lv_iload_n hx hb qd_G_lastFirstEnd_30 rfl (lv_at hl 2 rfl) ?_
      refine lv_iconst (v := 2) hx hb qd_G_lastFirstEnd_31 (by decide) ?_
      refine lv_isub hx hb qd_G_lastFirstEnd_32 ?_
      exact W.iret (v := p1 - 2) hx hb hr (fun t ht hW => ⟨_, rfl, hres.symm, ht⟩) (fun _ h => nomatch h) qd_G_lastFirstEnd_33
    have hres := hres.trans (if_pos c_21)
    have ho := (if_pos c_21).mp ho
    refine lv_iload_n hx hb qd_G_lastFirstEnd_24 rfl (lv_at hl 2 rfl) ?_
    refine lv_iconst (v := 1) hx hb qd_G_lastFirstEnd_25 (by decide) ?_
    refine lv_isub hx hb qd_G_lastFirstEnd_26 ?_
    refine lv_goto (tgt := 33) hx hb qd_G_lastFirstEnd_27 (by decide) ?_
    exact W.iret (v := p1 - 1) hx hb hr (fun t ht hW => ⟨_, rfl, hres.symm, ht⟩) (fun _ h => nomatch h) qd_G_lastFirstEnd_33
  have hres := hres.trans (if_pos c_7)
  have ho := (if_pos c_7).mp ho
  refine lv_iload_n hx hb qd_G_lastFirstEnd_10 rfl (lv_at hl 2 rfl) ?_
  refine lv_goto (tgt := 33) hx hb qd_G_lastFirstEnd_11 (by decide) ?_
  exact W.iret (v := p1) hx hb hr (fun t ht hW => ⟨_, rfl, hres.symm, ht⟩) (fun _ h => nomatch h) qd_G_lastFirstEnd_33
theorem qd_G_leastFirstEnd_0 : decode qc_G_leastFirstEnd 0 = .ok (.aload_n 0, 1) := by decide +kernel
theorem qd_G_leastFirstEnd_1 : decode qc_G_leastFirstEnd 1 = .ok (.iload_n 1, 1) := by decide +kernel
theorem qd_G_leastFirstEnd_2 : decode qc_G_leastFirstEnd 2 = .ok (.iconst 1, 1) := by decide +kernel
theorem qd_G_leastFirstEnd_3 : decode qc_G_leastFirstEnd 3 = .ok (.invokevirtual 68, 3) := by decide +kernel
theorem qd_G_leastFirstEnd_6 : decode qc_G_leastFirstEnd 6 = .ok (.iconst (-1), 1) := by decide +kernel
theorem qd_G_leastFirstEnd_7 : decode qc_G_leastFirstEnd 7 = .ok (.if_icmp .ne 7, 3) := by decide +kernel
theorem qd_G_leastFirstEnd_10 : decode qc_G_leastFirstEnd 10 = .ok (.iload_n 3, 1) := by decide +kernel
theorem qd_G_leastFirstEnd_11 : decode qc_G_leastFirstEnd 11 = .ok (.goto 6, 3) := by decide +kernel
theorem qd_G_leastFirstEnd_14 : decode qc_G_leastFirstEnd 14 = .ok (.iload_n 2, 1) := by decide +kernel
theorem qd_G_leastFirstEnd_15 : decode qc_G_leastFirstEnd 15 = .ok (.iconst 1, 1) := by decide +kernel
theorem qd_G_leastFirstEnd_16 : decode qc_G_leastFirstEnd 16 = .ok (.iadd, 1) := by decide +kernel
theorem qd_G_leastFirstEnd_17 : decode qc_G_leastFirstEnd 17 = .ok (.ireturn, 1) := by decide +kernel
set_option maxHeartbeats 4000000 in
set_option maxRecDepth 100000 in
theorem c_G_leastFirstEnd (l : Launch) (dC : Nat → ClassId) (dI : Nat → Nat → Nat) (cA : ClassId) (aG aGh aGi aGc aGo aGr : Nat) (vGF : Int32) (vGS : Int32) (vGi : (Nat → Int32)) (p0 : Int32) (p1 : Int32) (p2 : Int32) (ho : o_G_leastFirstEnd vGS vGi p0 p1 p2) : Met l qy_G_leastFirstEnd qw_G_leastFirstEnd ({ frames := 1, cells := 0, slots := 0, locals := 23 }) (va_Pc [.ref aG, .int p0, .int p1, .int p2] (xP (dC, dI) [(cA, .int)] [(aG, .inr (2, [.ref aGh, .ref aGi, .ref aGc, .ref aGo, .ref aGr, .int vGF, .int vGS])), (aGi, .inl (cA, 72, .inl (vGi)))] nestN)) (vp_Si (fun r => r = f_G_leastFirstEnd vGS vGi p0 p1 p2)) 0 0 (fun _ => False) := by
  refine Met.ofW (cc := qc_G_leastFirstEnd) (maxL := 4) (ret := (some .int)) (by decide) rfl ?_
  intro p e s m args below meth c s₁ B hml hv
  obtain ⟨rfl, hP, hK, hN⟩ := hv
  have hx := B.exec
  have hb := B.bytes
  have hr := B.returns
  have hts := atoms_spec (ws := qw_G_leastFirstEnd) B.pre
  have hg : ∀ w ∈ gG, w.before _ s = true := fun w h => hts w (List.mem_cons_of_mem _ h)
  have hown : s.vm.findClass qR_G = some m.cls := findClass_of_methodNamed B.named
  have hlocks := B.notSynchronized
  have hP : va_P (dC, dI) vwCl [(aG, .inr (2, [.ref aGh, .ref aGi, .ref aGc, .ref aGo, .ref aGr, .int vGF, .int vGS])), (aGi, .inl (cA, 72, .inl (vGi)))] s.heap := hP
  have hl := lv_entry ([.ref aG, .int p0, .int p1, .int p2]) (n := 4) (Nat.le_of_ble_eq_true rfl)
  rw [lg_entry_eq]
  generalize (lg_sl ([.ref aG, .int p0, .int p1, .int p2]) ++ List.replicate (4 - (lg_sl ([.ref aG, .int p0, .int p1, .int p2])).length) Slot.unset).toArray = ls at hl ⊢
  have hl : lv_has ls 4 [(0, .ref aG), (1, .int p0), (2, .int p1), (3, .int p2)] := hl
  generalize hF : f_G_leastFirstEnd vGS vGi p0 p1 p2 = Fv
  have hres : Fv = f_G_leastFirstEnd vGS vGi p0 p1 p2 := hF.symm
  unfold f_G_leastFirstEnd at hres
  unfold o_G_leastFirstEnd at ho
  refine lv_aload_n hx hb qd_G_leastFirstEnd_0 rfl (lv_at hl 0 rfl) ?_
  refine lv_iload_n hx hb qd_G_leastFirstEnd_1 rfl (lv_at hl 1 rfl) ?_
  refine lv_iconst (v := 1) hx hb qd_G_leastFirstEnd_2 (by decide) ?_
  obtain ⟨g_3, ho⟩ := ho
  refine xc_V (As := [.int p0, .int 1]) (rest := []) ⟨hx, hb, hml, hown, hg⟩ (c_G_item l dC dI cA aG aGh aGi aGc aGo aGr vGF vGS vGi p0 1 g_3) (cwV 2 hg (q_gV mw_300 mw_301 mw_302 mw_2 mw_303) rfl rfl rfl qh_G_item ⟨Nat.le_of_ble_eq_true rfl, Nat.le_of_ble_eq_true rfl⟩) hN hK hP [0, 1] rfl 0 2 rfl rfl rfl hl.1 rfl (Nat.le_of_ble_eq_true rfl) qd_G_leastFirstEnd_3 ⟨Nat.zero_le _, Nat.zero_le _⟩ ?_
  refine lv_topi (fun r_3 w_3 => ?_)
  have hres := hres.trans (bd_eq w_3)
  have ho := (bd_eq w_3).mp ho
  refine lv_iconst (v := (-1)) hx hb qd_G_leastFirstEnd_6 (by decide) ?_
  refine lv_icmp_ne (tgt := 14) hx hb qd_G_leastFirstEnd_7 (by decide) (fun c_7 => ?_) (fun c_7 => ?_)
  · have hres := hres.trans (if_neg c_7)
    have ho := (if_neg c_7).mp ho
    refine lv_iload_n hx hb qd_G_leastFirstEnd_14 rfl (lv_at hl 2 rfl) ?_
    refine lv_iconst (v := 1) hx hb qd_G_leastFirstEnd_15 (by decide) ?_
    refine lv_iadd hx hb qd_G_leastFirstEnd_16 ?_
    exact W.iret (v := p1 + 1) hx hb hr (fun t ht hW => ⟨_, rfl, hres.symm, ht⟩) (fun _ h => nomatch h) qd_G_leastFirstEnd_17
  have hres := hres.trans (if_pos c_7)
  have ho := (if_pos c_7).mp ho
  refine lv_iload_n hx hb qd_G_leastFirstEnd_10 rfl (lv_at hl 3 rfl) ?_
  refine lv_goto (tgt := 17) hx hb qd_G_leastFirstEnd_11 (by decide) ?_
  exact W.iret (v := p2) hx hb hr (fun t ht hW => ⟨_, rfl, hres.symm, ht⟩) (fun _ h => nomatch h) qd_G_leastFirstEnd_17
theorem qd_G_ownCost_0 : decode qc_G_ownCost 0 = .ok (.iload_n 1, 1) := by decide +kernel
theorem qd_G_ownCost_1 : decode qc_G_ownCost 1 = .ok (.ifCond .lt 26, 3) := by decide +kernel
theorem qd_G_ownCost_4 : decode qc_G_ownCost 4 = .ok (.iload_n 1, 1) := by decide +kernel
theorem qd_G_ownCost_5 : decode qc_G_ownCost 5 = .ok (.aload_n 0, 1) := by decide +kernel
theorem qd_G_ownCost_6 : decode qc_G_ownCost 6 = .ok (.getfield 31, 3) := by decide +kernel
theorem qd_G_ownCost_9 : decode qc_G_ownCost 9 = .ok (.if_icmp .ge 18, 3) := by decide +kernel
theorem qd_G_ownCost_12 : decode qc_G_ownCost 12 = .ok (.iload_n 1, 1) := by decide +kernel
theorem qd_G_ownCost_13 : decode qc_G_ownCost 13 = .ok (.bipush 24, 2) := by decide +kernel
theorem qd_G_ownCost_15 : decode qc_G_ownCost 15 = .ok (.if_icmp .ge 12, 3) := by decide +kernel
theorem qd_G_ownCost_18 : decode qc_G_ownCost 18 = .ok (.aload_n 0, 1) := by decide +kernel
theorem qd_G_ownCost_19 : decode qc_G_ownCost 19 = .ok (.getfield 18, 3) := by decide +kernel
theorem qd_G_ownCost_22 : decode qc_G_ownCost 22 = .ok (.iload_n 1, 1) := by decide +kernel
theorem qd_G_ownCost_23 : decode qc_G_ownCost 23 = .ok (.iaload, 1) := by decide +kernel
theorem qd_G_ownCost_24 : decode qc_G_ownCost 24 = .ok (.goto 4, 3) := by decide +kernel
theorem qd_G_ownCost_27 : decode qc_G_ownCost 27 = .ok (.iconst 0, 1) := by decide +kernel
theorem qd_G_ownCost_28 : decode qc_G_ownCost 28 = .ok (.ireturn, 1) := by decide +kernel
set_option maxHeartbeats 4000000 in
set_option maxRecDepth 100000 in
theorem c_G_ownCost (l : Launch) (dC : Nat → ClassId) (dI : Nat → Nat → Nat) (cA : ClassId) (aG aGh aGi aGc aGo aGr : Nat) (vGF : Int32) (vGS : Int32) (vGc : (Nat → Int32)) (p0 : Int32) (ho : o_G_ownCost vGS vGc p0) : Met l qy_G_ownCost qw_G_ownCost ({ frames := 0, cells := 0, slots := 0, locals := 0 }) (va_Pc [.ref aG, .int p0] (xP (dC, dI) [(cA, .int)] [(aG, .inr (2, [.ref aGh, .ref aGi, .ref aGc, .ref aGo, .ref aGr, .int vGF, .int vGS])), (aGc, .inl (cA, 24, .inl (vGc)))] nestN)) (vp_Si (fun r => r = f_G_ownCost vGS vGc p0)) 0 0 (fun _ => False) := by
  refine Met.ofW (cc := qc_G_ownCost) (maxL := 2) (ret := (some .int)) (by decide) rfl ?_
  intro p e s m args below meth c s₁ B hml hv
  obtain ⟨rfl, hP, hK, hN⟩ := hv
  have hx := B.exec
  have hb := B.bytes
  have hr := B.returns
  have hts := atoms_spec (ws := qw_G_ownCost) B.pre
  have hg : ∀ w ∈ gG, w.before _ s = true := fun w h => hts w (List.mem_cons_of_mem _ h)
  have hown : s.vm.findClass qR_G = some m.cls := findClass_of_methodNamed B.named
  have hlocks := B.notSynchronized
  have hP : va_P (dC, dI) vwCl [(aG, .inr (2, [.ref aGh, .ref aGi, .ref aGc, .ref aGo, .ref aGr, .int vGF, .int vGS])), (aGc, .inl (cA, 24, .inl (vGc)))] s.heap := hP
  have hl := lv_entry ([.ref aG, .int p0]) (n := 2) (Nat.le_of_ble_eq_true rfl)
  rw [lg_entry_eq]
  generalize (lg_sl ([.ref aG, .int p0]) ++ List.replicate (2 - (lg_sl ([.ref aG, .int p0])).length) Slot.unset).toArray = ls at hl ⊢
  have hl : lv_has ls 2 [(0, .ref aG), (1, .int p0)] := hl
  generalize hF : f_G_ownCost vGS vGc p0 = Fv
  have hres : Fv = f_G_ownCost vGS vGc p0 := hF.symm
  unfold f_G_ownCost at hres
  unfold o_G_ownCost at ho
  refine lv_iload_n hx hb qd_G_ownCost_0 rfl (lv_at hl 1 rfl) ?_
  refine lv_if_lt (tgt := 27) hx hb qd_G_ownCost_1 (by decide) (fun c_1 => ?_) (fun c_1 => ?_)
  · have hres := hres.trans (if_pos c_1)
    have ho := (if_pos c_1).mp ho
    refine lv_iconst (v := 0) hx hb qd_G_ownCost_27 (by decide) ?_
    exact W.iret (v := 0) hx hb hr (fun t ht hW => ⟨_, rfl, hres.symm, ht⟩) (fun _ h => nomatch h) qd_G_ownCost_28
  have hres := hres.trans (if_neg c_1)
  have ho := (if_neg c_1).mp ho
  refine lv_iload_n hx hb qd_G_ownCost_4 rfl (lv_at hl 1 rfl) ?_
  refine lv_aload_n hx hb qd_G_ownCost_5 rfl (lv_at hl 0 rfl) ?_
  refine va_get (D := (dC, dI)) (ci := 2) (v := .int vGS) (C := qR_G) (T := qT_G) (N := 7) hx hb hg qi_G hown hK hP 0 rfl rfl 6 (by decide) (hg _ mw_38) (fun _ h9 => h9) rfl qd_G_ownCost_6 ?_
  refine lv_icmp_ge (tgt := 27) hx hb qd_G_ownCost_9 (by decide) (fun c_9 => ?_) (fun c_9 => ?_)
  · have hres := hres.trans (if_pos c_9)
    have ho := (if_pos c_9).mp ho
    refine lv_iconst (v := 0) hx hb qd_G_ownCost_27 (by decide) ?_
    exact W.iret (v := 0) hx hb hr (fun t ht hW => ⟨_, rfl, hres.symm, ht⟩) (fun _ h => nomatch h) qd_G_ownCost_28
  have hres := hres.trans (if_neg c_9)
  have ho := (if_neg c_9).mp ho
  refine lv_iload_n hx hb qd_G_ownCost_12 rfl (lv_at hl 1 rfl) ?_
  refine lv_bipush (v := 24) hx hb qd_G_ownCost_13 (by decide) ?_
  refine lv_icmp_ge (tgt := 27) hx hb qd_G_ownCost_15 (by decide) (fun c_15 => ?_) (fun c_15 => ?_)
  · have hres := hres.trans (if_pos c_15)
    have ho := (if_pos c_15).mp ho
    refine lv_iconst (v := 0) hx hb qd_G_ownCost_27 (by decide) ?_
    exact W.iret (v := 0) hx hb hr (fun t ht hW => ⟨_, rfl, hres.symm, ht⟩) (fun _ h => nomatch h) qd_G_ownCost_28
  have hres := hres.trans (if_neg c_15)
  have ho := (if_neg c_15).mp ho
  refine lv_aload_n hx hb qd_G_ownCost_18 rfl (lv_at hl 0 rfl) ?_
  refine va_get (D := (dC, dI)) (ci := 2) (v := .ref aGc) (C := qR_G) (T := qT_G) (N := 7) hx hb hg qi_G hown hK hP 0 rfl rfl 2 (by decide) (hg _ mw_34) (fun _ h9 => h9) rfl qd_G_ownCost_19 ?_
  refine lv_iload_n hx hb qd_G_ownCost_22 rfl (lv_at hl 1 rfl) ?_
  obtain ⟨g_23, ho⟩ := ho
  refine va_iald hx hb hK hP 1 0 rfl rfl g_23 qd_G_ownCost_23 ?_
  refine lv_goto (tgt := 28) hx hb qd_G_ownCost_24 (by decide) ?_
  exact W.iret (v := vGc p0.toNatClampNeg) hx hb hr (fun t ht hW => ⟨_, rfl, hres.symm, ht⟩) (fun _ h => nomatch h) qd_G_ownCost_28
theorem qd_G_isFull_0 : decode qc_G_isFull 0 = .ok (.aload_n 0, 1) := by decide +kernel
theorem qd_G_isFull_1 : decode qc_G_isFull 1 = .ok (.getfield 31, 3) := by decide +kernel
theorem qd_G_isFull_4 : decode qc_G_isFull 4 = .ok (.bipush 24, 2) := by decide +kernel
theorem qd_G_isFull_6 : decode qc_G_isFull 6 = .ok (.if_icmp .lt 7, 3) := by decide +kernel
theorem qd_G_isFull_9 : decode qc_G_isFull 9 = .ok (.iconst 1, 1) := by decide +kernel
theorem qd_G_isFull_10 : decode qc_G_isFull 10 = .ok (.goto 4, 3) := by decide +kernel
theorem qd_G_isFull_13 : decode qc_G_isFull 13 = .ok (.iconst 0, 1) := by decide +kernel
theorem qd_G_isFull_14 : decode qc_G_isFull 14 = .ok (.ireturn, 1) := by decide +kernel
set_option maxHeartbeats 4000000 in
set_option maxRecDepth 100000 in
theorem c_G_isFull (l : Launch) (dC : Nat → ClassId) (dI : Nat → Nat → Nat) (cA : ClassId) (aG aGh aGi aGc aGo aGr : Nat) (vGF : Int32) (vGS : Int32) : Met l qy_G_isFull qw_G_isFull ({ frames := 0, cells := 0, slots := 0, locals := 0 }) (va_Pc [.ref aG] (xP (dC, dI) [(cA, .int)] [(aG, .inr (2, [.ref aGh, .ref aGi, .ref aGc, .ref aGo, .ref aGr, .int vGF, .int vGS]))] nestN)) (vp_Si (fun r => r = f_G_isFull vGS)) 0 0 (fun _ => False) := by
  refine Met.ofW (cc := qc_G_isFull) (maxL := 1) (ret := (some .boolean)) (by decide) rfl ?_
  intro p e s m args below meth c s₁ B hml hv
  obtain ⟨rfl, hP, hK, hN⟩ := hv
  have hx := B.exec
  have hb := B.bytes
  have hr := B.returns
  have hts := atoms_spec (ws := qw_G_isFull) B.pre
  have hg : ∀ w ∈ gG, w.before _ s = true := fun w h => hts w (List.mem_cons_of_mem _ h)
  have hown : s.vm.findClass qR_G = some m.cls := findClass_of_methodNamed B.named
  have hlocks := B.notSynchronized
  have hP : va_P (dC, dI) vwCl [(aG, .inr (2, [.ref aGh, .ref aGi, .ref aGc, .ref aGo, .ref aGr, .int vGF, .int vGS]))] s.heap := hP
  have hl := lv_entry ([.ref aG]) (n := 1) (Nat.le_of_ble_eq_true rfl)
  rw [lg_entry_eq]
  generalize (lg_sl ([.ref aG]) ++ List.replicate (1 - (lg_sl ([.ref aG])).length) Slot.unset).toArray = ls at hl ⊢
  have hl : lv_has ls 1 [(0, .ref aG)] := hl
  generalize hF : f_G_isFull vGS = Fv
  have hres : Fv = f_G_isFull vGS := hF.symm
  unfold f_G_isFull at hres
  refine lv_aload_n hx hb qd_G_isFull_0 rfl (lv_at hl 0 rfl) ?_
  refine va_get (D := (dC, dI)) (ci := 2) (v := .int vGS) (C := qR_G) (T := qT_G) (N := 7) hx hb hg qi_G hown hK hP 0 rfl rfl 6 (by decide) (hg _ mw_38) (fun _ h9 => h9) rfl qd_G_isFull_1 ?_
  refine lv_bipush (v := 24) hx hb qd_G_isFull_4 (by decide) ?_
  refine lv_icmp_lt (tgt := 13) hx hb qd_G_isFull_6 (by decide) (fun c_6 => ?_) (fun c_6 => ?_)
  · have hres := hres.trans (if_pos c_6)
    refine lv_iconst (v := 0) hx hb qd_G_isFull_13 (by decide) ?_
    exact W.zret (v := 0) (ty := .boolean) hx hb hr (by decide) (fun t ht hW => ⟨_, rfl, hres.symm, ht⟩) (fun _ h => nomatch h) qd_G_isFull_14
  have hres := hres.trans (if_neg c_6)
  refine lv_iconst (v := 1) hx hb qd_G_isFull_9 (by decide) ?_
  refine lv_goto (tgt := 14) hx hb qd_G_isFull_10 (by decide) ?_
  exact W.zret (v := 1) (ty := .boolean) hx hb hr (by decide) (fun t ht hW => ⟨_, rfl, hres.symm, ht⟩) (fun _ h => nomatch h) qd_G_isFull_14
theorem qd_G_reachedFrom_0 : decode qc_G_reachedFrom 0 = .ok (.iload_n 1, 1) := by decide +kernel
theorem qd_G_reachedFrom_1 : decode qc_G_reachedFrom 1 = .ok (.invokestatic 75, 3) := by decide +kernel
theorem qd_G_reachedFrom_4 : decode qc_G_reachedFrom 4 = .ok (.ifCond .eq 12, 3) := by decide +kernel
theorem qd_G_reachedFrom_7 : decode qc_G_reachedFrom 7 = .ok (.aload_n 0, 1) := by decide +kernel
theorem qd_G_reachedFrom_8 : decode qc_G_reachedFrom 8 = .ok (.getfield 24, 3) := by decide +kernel
theorem qd_G_reachedFrom_11 : decode qc_G_reachedFrom 11 = .ok (.iload_n 1, 1) := by decide +kernel
theorem qd_G_reachedFrom_12 : decode qc_G_reachedFrom 12 = .ok (.iaload, 1) := by decide +kernel
theorem qd_G_reachedFrom_13 : decode qc_G_reachedFrom 13 = .ok (.goto 4, 3) := by decide +kernel
theorem qd_G_reachedFrom_16 : decode qc_G_reachedFrom 16 = .ok (.iconst 0, 1) := by decide +kernel
theorem qd_G_reachedFrom_17 : decode qc_G_reachedFrom 17 = .ok (.ireturn, 1) := by decide +kernel
set_option maxHeartbeats 4000000 in
set_option maxRecDepth 100000 in
theorem c_G_reachedFrom (l : Launch) (dC : Nat → ClassId) (dI : Nat → Nat → Nat) (cA : ClassId) (aG aGh aGi aGc aGo aGr : Nat) (vGF : Int32) (vGS : Int32) (vGr : (Nat → Int32)) (p0 : Int32) (ho : o_G_reachedFrom vGr p0) : Met l qy_G_reachedFrom qw_G_reachedFrom ({ frames := 1, cells := 0, slots := 0, locals := 20 }) (va_Pc [.ref aG, .int p0] (xP (dC, dI) [(cA, .int)] [(aG, .inr (2, [.ref aGh, .ref aGi, .ref aGc, .ref aGo, .ref aGr, .int vGF, .int vGS])), (aGr, .inl (cA, 10, .inl (vGr)))] nestN)) (vp_Si (fun r => r = f_G_reachedFrom vGr p0)) 0 0 (fun _ => False) := by
  refine Met.ofW (cc := qc_G_reachedFrom) (maxL := 2) (ret := (some .int)) (by decide) rfl ?_
  intro p e s m args below meth c s₁ B hml hv
  obtain ⟨rfl, hP, hK, hN⟩ := hv
  have hx := B.exec
  have hb := B.bytes
  have hr := B.returns
  have hts := atoms_spec (ws := qw_G_reachedFrom) B.pre
  have hg : ∀ w ∈ gG, w.before _ s = true := fun w h => hts w (List.mem_cons_of_mem _ h)
  have hown : s.vm.findClass qR_G = some m.cls := findClass_of_methodNamed B.named
  have hlocks := B.notSynchronized
  have hP : va_P (dC, dI) vwCl [(aG, .inr (2, [.ref aGh, .ref aGi, .ref aGc, .ref aGo, .ref aGr, .int vGF, .int vGS])), (aGr, .inl (cA, 10, .inl (vGr)))] s.heap := hP
  have hl := lv_entry ([.ref aG, .int p0]) (n := 2) (Nat.le_of_ble_eq_true rfl)
  rw [lg_entry_eq]
  generalize (lg_sl ([.ref aG, .int p0]) ++ List.replicate (2 - (lg_sl ([.ref aG, .int p0])).length) Slot.unset).toArray = ls at hl ⊢
  have hl : lv_has ls 2 [(0, .ref aG), (1, .int p0)] := hl
  generalize hF : f_G_reachedFrom vGr p0 = Fv
  have hres : Fv = f_G_reachedFrom vGr p0 := hF.symm
  unfold f_G_reachedFrom at hres
  unfold o_G_reachedFrom at ho
  refine lv_iload_n hx hb qd_G_reachedFrom_0 rfl (lv_at hl 1 rfl) ?_
  refine xc_N (As := [.int p0]) (rest := []) ⟨hx, hb, hml, hown, hg⟩ (c_H_isSymbol l dC dI cA p0) (⟨va_cnB 1 hg (q_gC mw_180) rfl rfl rfl (hN _ nw_3) (hg _ mw_1) qh_H_isSymbol.2 ⟨Nat.le_of_ble_eq_true rfl, Nat.le_of_ble_eq_true rfl⟩, hg _ mw_179, trivial⟩) hN hK hP [] rfl rfl hl.1 rfl (Nat.le_of_ble_eq_true rfl) qd_G_reachedFrom_1 ⟨Nat.zero_le _, Nat.zero_le _⟩ ?_
  refine lv_topi (fun r_1 w_1 => ?_)
  have hres := hres.trans (bd_eq w_1)
  have ho := (bd_eq w_1).mp ho
  refine lv_if_eq (tgt := 16) hx hb qd_G_reachedFrom_4 (by decide) (fun c_4 => ?_) (fun c_4 => ?_)
  · have hres := hres.trans (if_pos c_4)
    have ho := (if_pos c_4).mp ho
    refine lv_iconst (v := 0) hx hb qd_G_reachedFrom_16 (by decide) ?_
    exact W.iret (v := 0) hx hb hr (fun t ht hW => ⟨_, rfl, hres.symm, ht⟩) (fun _ h => nomatch h) qd_G_reachedFrom_17
  have hres := hres.trans (if_neg c_4)
  have ho := (if_neg c_4).mp ho
  refine lv_aload_n hx hb qd_G_reachedFrom_7 rfl (lv_at hl 0 rfl) ?_
  refine va_get (D := (dC, dI)) (ci := 2) (v := .ref aGr) (C := qR_G) (T := qT_G) (N := 7) hx hb hg qi_G hown hK hP 0 rfl rfl 4 (by decide) (hg _ mw_36) (fun _ h9 => h9) rfl qd_G_reachedFrom_8 ?_
  refine lv_iload_n hx hb qd_G_reachedFrom_11 rfl (lv_at hl 1 rfl) ?_
  obtain ⟨g_12, ho⟩ := ho
  refine va_iald hx hb hK hP 1 0 rfl rfl g_12 qd_G_reachedFrom_12 ?_
  refine lv_goto (tgt := 17) hx hb qd_G_reachedFrom_13 (by decide) ?_
  exact W.iret (v := vGr p0.toNatClampNeg) hx hb hr (fun t ht hW => ⟨_, rfl, hres.symm, ht⟩) (fun _ h => nomatch h) qd_G_reachedFrom_17
theorem qd_G_wouldCircle_0 : decode qc_G_wouldCircle 0 = .ok (.iload_n 1, 1) := by decide +kernel
theorem qd_G_wouldCircle_1 : decode qc_G_wouldCircle 1 = .ok (.iload_n 2, 1) := by decide +kernel
theorem qd_G_wouldCircle_2 : decode qc_G_wouldCircle 2 = .ok (.if_icmp .eq 15, 3) := by decide +kernel
theorem qd_G_wouldCircle_5 : decode qc_G_wouldCircle 5 = .ok (.aload_n 0, 1) := by decide +kernel
theorem qd_G_wouldCircle_6 : decode qc_G_wouldCircle 6 = .ok (.iload_n 2, 1) := by decide +kernel
theorem qd_G_wouldCircle_7 : decode qc_G_wouldCircle 7 = .ok (.invokevirtual 34, 3) := by decide +kernel
theorem qd_G_wouldCircle_10 : decode qc_G_wouldCircle 10 = .ok (.iload_n 1, 1) := by decide +kernel
theorem qd_G_wouldCircle_11 : decode qc_G_wouldCircle 11 = .ok (.invokestatic 38, 3) := by decide +kernel
theorem qd_G_wouldCircle_14 : decode qc_G_wouldCircle 14 = .ok (.ifCond .eq 7, 3) := by decide +kernel
theorem qd_G_wouldCircle_17 : decode qc_G_wouldCircle 17 = .ok (.iconst 1, 1) := by decide +kernel
theorem qd_G_wouldCircle_18 : decode qc_G_wouldCircle 18 = .ok (.goto 4, 3) := by decide +kernel
theorem qd_G_wouldCircle_21 : decode qc_G_wouldCircle 21 = .ok (.iconst 0, 1) := by decide +kernel
theorem qd_G_wouldCircle_22 : decode qc_G_wouldCircle 22 = .ok (.ireturn, 1) := by decide +kernel
set_option maxHeartbeats 4000000 in
set_option maxRecDepth 100000 in
theorem c_G_wouldCircle (l : Launch) (dC : Nat → ClassId) (dI : Nat → Nat → Nat) (cA : ClassId) (aG aGh aGi aGc aGo aGr : Nat) (vGF : Int32) (vGS : Int32) (vGr : (Nat → Int32)) (p0 : Int32) (p1 : Int32) (ho : o_G_wouldCircle vGr p0 p1) : Met l qy_G_wouldCircle qw_G_wouldCircle ({ frames := 2, cells := 0, slots := 0, locals := 41 }) (va_Pc [.ref aG, .int p0, .int p1] (xP (dC, dI) [(cA, .int)] [(aG, .inr (2, [.ref aGh, .ref aGi, .ref aGc, .ref aGo, .ref aGr, .int vGF, .int vGS])), (aGr, .inl (cA, 10, .inl (vGr)))] nestN)) (vp_Si (fun r => r = f_G_wouldCircle vGr p0 p1)) 0 0 (fun _ => False) := by
  refine Met.ofW (cc := qc_G_wouldCircle) (maxL := 3) (ret := (some .boolean)) (by decide) rfl ?_
  intro p e s m args below meth c s₁ B hml hv
  obtain ⟨rfl, hP, hK, hN⟩ := hv
  have hx := B.exec
  have hb := B.bytes
  have hr := B.returns
  have hts := atoms_spec (ws := qw_G_wouldCircle) B.pre
  have hg : ∀ w ∈ gG, w.before _ s = true := fun w h => hts w (List.mem_cons_of_mem _ h)
  have hown : s.vm.findClass qR_G = some m.cls := findClass_of_methodNamed B.named
  have hlocks := B.notSynchronized
  have hP : va_P (dC, dI) vwCl [(aG, .inr (2, [.ref aGh, .ref aGi, .ref aGc, .ref aGo, .ref aGr, .int vGF, .int vGS])), (aGr, .inl (cA, 10, .inl (vGr)))] s.heap := hP
  have hl := lv_entry ([.ref aG, .int p0, .int p1]) (n := 3) (Nat.le_of_ble_eq_true rfl)
  rw [lg_entry_eq]
  generalize (lg_sl ([.ref aG, .int p0, .int p1]) ++ List.replicate (3 - (lg_sl ([.ref aG, .int p0, .int p1])).length) Slot.unset).toArray = ls at hl ⊢
  have hl : lv_has ls 3 [(0, .ref aG), (1, .int p0), (2, .int p1)] := hl
  generalize hF : f_G_wouldCircle vGr p0 p1 = Fv
  have hres : Fv = f_G_wouldCircle vGr p0 p1 := hF.symm
  unfold f_G_wouldCircle at hres
  unfold o_G_wouldCircle at ho
  refine lv_iload_n hx hb qd_G_wouldCircle_0 rfl (lv_at hl 1 rfl) ?_
  refine lv_iload_n hx hb qd_G_wouldCircle_1 rfl (lv_at hl 2 rfl) ?_
  refine lv_icmp_eq (tgt := 17) hx hb qd_G_wouldCircle_2 (by decide) (fun c_2 => ?_) (fun c_2 => ?_)
  · have hres := hres.trans (if_pos c_2)
    have ho := (if_pos c_2).mp ho
    refine lv_iconst (v := 1) hx hb qd_G_wouldCircle_17 (by decide) ?_
    refine lv_goto (tgt := 22) hx hb qd_G_wouldCircle_18 (by decide) ?_
    exact W.zret (v := 1) (ty := .boolean) hx hb hr (by decide) (fun t ht hW => ⟨_, rfl, hres.symm, ht⟩) (fun _ h => nomatch h) qd_G_wouldCircle_22
  have hres := hres.trans (if_neg c_2)
  have ho := (if_neg c_2).mp ho
  refine lv_aload_n hx hb qd_G_wouldCircle_5 rfl (lv_at hl 0 rfl) ?_
  refine lv_iload_n hx hb qd_G_wouldCircle_6 rfl (lv_at hl 2 rfl) ?_
  obtain ⟨g_7, ho⟩ := ho
  refine xc_V (As := [.int p1]) (rest := []) ⟨hx, hb, hml, hown, hg⟩ (c_G_reachedFrom l dC dI cA aG aGh aGi aGc aGo aGr vGF vGS vGr p1 g_7) (cwV 1 hg (q_gV mw_258 mw_259 mw_744 mw_2 mw_260) rfl rfl rfl qh_G_reachedFrom ⟨Nat.le_of_ble_eq_true rfl, Nat.le_of_ble_eq_true rfl⟩) hN hK hP [0, 1] rfl 0 2 rfl rfl rfl hl.1 rfl (Nat.le_of_ble_eq_true rfl) qd_G_wouldCircle_7 ⟨Nat.zero_le _, Nat.zero_le _⟩ ?_
  refine lv_topi (fun r_7 w_7 => ?_)
  have hres := hres.trans (bd_eq w_7)
  have ho := (bd_eq w_7).mp ho
  refine lv_iload_n hx hb qd_G_wouldCircle_10 rfl (lv_at hl 1 rfl) ?_
  refine xc_N (As := [.int r_7, .int p0]) (rest := []) ⟨hx, hb, hml, hown, hg⟩ (c_H_has l dC dI cA r_7 p0) (⟨va_cnB 2 hg (q_gC mw_262) rfl rfl rfl (hN _ nw_4) (hg _ mw_1) qh_H_has.2 ⟨Nat.le_of_ble_eq_true rfl, Nat.le_of_ble_eq_true rfl⟩, hg _ mw_261, trivial⟩) hN hK hP [] rfl rfl hl.1 rfl (Nat.le_of_ble_eq_true rfl) qd_G_wouldCircle_11 ⟨Nat.zero_le _, Nat.zero_le _⟩ ?_
  refine lv_topi (fun r_11 w_11 => ?_)
  have hres := hres.trans (bd_eq w_11)
  have ho := (bd_eq w_11).mp ho
  refine lv_if_eq (tgt := 21) hx hb qd_G_wouldCircle_14 (by decide) (fun c_14 => ?_) (fun c_14 => ?_)
  · have hres := hres.trans (if_pos c_14)
    have ho := (if_pos c_14).mp ho
    refine lv_iconst (v := 0) hx hb qd_G_wouldCircle_21 (by decide) ?_
    exact W.zret (v := 0) (ty := .boolean) hx hb hr (by decide) (fun t ht hW => ⟨_, rfl, hres.symm, ht⟩) (fun _ h => nomatch h) qd_G_wouldCircle_22
  have hres := hres.trans (if_neg c_14)
  have ho := (if_neg c_14).mp ho
  refine lv_iconst (v := 1) hx hb qd_G_wouldCircle_17 (by decide) ?_
  refine lv_goto (tgt := 22) hx hb qd_G_wouldCircle_18 (by decide) ?_
  exact W.zret (v := 1) (ty := .boolean) hx hb hr (by decide) (fun t ht hW => ⟨_, rfl, hres.symm, ht⟩) (fun _ h => nomatch h) qd_G_wouldCircle_22
theorem qd_G_learnStep_0 : decode qc_G_learnStep 0 = .ok (.iconst 1, 1) := by decide +kernel
theorem qd_G_learnStep_1 : decode qc_G_learnStep 1 = .ok (.iload_n 2, 1) := by decide +kernel
theorem qd_G_learnStep_2 : decode qc_G_learnStep 2 = .ok (.ishl, 1) := by decide +kernel
theorem qd_G_learnStep_3 : decode qc_G_learnStep 3 = .ok (.aload_n 0, 1) := by decide +kernel
theorem qd_G_learnStep_4 : decode qc_G_learnStep 4 = .ok (.iload_n 2, 1) := by decide +kernel
theorem qd_G_learnStep_5 : decode qc_G_learnStep 5 = .ok (.invokevirtual 34, 3) := by decide +kernel
theorem qd_G_learnStep_8 : decode qc_G_learnStep 8 = .ok (.ior, 1) := by decide +kernel
theorem qd_G_learnStep_9 : decode qc_G_learnStep 9 = .ok (.istore_n 3, 1) := by decide +kernel
theorem qd_G_learnStep_10 : decode qc_G_learnStep 10 = .ok (.iconst 0, 1) := by decide +kernel
theorem qd_G_learnStep_11 : decode qc_G_learnStep 11 = .ok (.istore 4, 2) := by decide +kernel
theorem qd_G_learnStep_13 : decode qc_G_learnStep 13 = .ok (.iload 4, 2) := by decide +kernel
theorem qd_G_learnStep_15 : decode qc_G_learnStep 15 = .ok (.bipush 10, 2) := by decide +kernel
theorem qd_G_learnStep_17 : decode qc_G_learnStep 17 = .ok (.if_icmp .ge 40, 3) := by decide +kernel
theorem qd_G_learnStep_20 : decode qc_G_learnStep 20 = .ok (.iload 4, 2) := by decide +kernel
theorem qd_G_learnStep_22 : decode qc_G_learnStep 22 = .ok (.iload_n 1, 1) := by decide +kernel
theorem qd_G_learnStep_23 : decode qc_G_learnStep 23 = .ok (.if_icmp .eq 17, 3) := by decide +kernel
theorem qd_G_learnStep_26 : decode qc_G_learnStep 26 = .ok (.aload_n 0, 1) := by decide +kernel
theorem qd_G_learnStep_27 : decode qc_G_learnStep 27 = .ok (.getfield 24, 3) := by decide +kernel
theorem qd_G_learnStep_30 : decode qc_G_learnStep 30 = .ok (.iload 4, 2) := by decide +kernel
theorem qd_G_learnStep_32 : decode qc_G_learnStep 32 = .ok (.iaload, 1) := by decide +kernel
theorem qd_G_learnStep_33 : decode qc_G_learnStep 33 = .ok (.iload_n 1, 1) := by decide +kernel
theorem qd_G_learnStep_34 : decode qc_G_learnStep 34 = .ok (.invokestatic 38, 3) := by decide +kernel
theorem qd_G_learnStep_37 : decode qc_G_learnStep 37 = .ok (.ifCond .eq 14, 3) := by decide +kernel
theorem qd_G_learnStep_40 : decode qc_G_learnStep 40 = .ok (.aload_n 0, 1) := by decide +kernel
theorem qd_G_learnStep_41 : decode qc_G_learnStep 41 = .ok (.getfield 24, 3) := by decide +kernel
theorem qd_G_learnStep_44 : decode qc_G_learnStep 44 = .ok (.iload 4, 2) := by decide +kernel
theorem qd_G_learnStep_46 : decode qc_G_learnStep 46 = .ok (.dup2, 1) := by decide +kernel
theorem qd_G_learnStep_47 : decode qc_G_learnStep 47 = .ok (.iaload, 1) := by decide +kernel
theorem qd_G_learnStep_48 : decode qc_G_learnStep 48 = .ok (.iload_n 3, 1) := by decide +kernel
theorem qd_G_learnStep_49 : decode qc_G_learnStep 49 = .ok (.ior, 1) := by decide +kernel
theorem qd_G_learnStep_50 : decode qc_G_learnStep 50 = .ok (.iastore, 1) := by decide +kernel
theorem qd_G_learnStep_51 : decode qc_G_learnStep 51 = .ok (.iinc 4 1, 3) := by decide +kernel
theorem qd_G_learnStep_54 : decode qc_G_learnStep 54 = .ok (.goto (-41), 3) := by decide +kernel
theorem qd_G_learnStep_57 : decode qc_G_learnStep 57 = .ok (.return_, 1) := by decide +kernel
set_option maxHeartbeats 4000000 in
set_option maxRecDepth 100000 in
theorem c_G_learnStep (l : Launch) (dC : Nat → ClassId) (dI : Nat → Nat → Nat) (cA : ClassId) (N_ : Nat) (aG aGh aGi aGc aGo aGr : Nat) (sz : Nat) (vGF : Int32) (vGS : Int32) (vGr : (Nat → Int32)) (p0 : Int32) (p1 : Int32) (ho : o_G_learnStep N_ vGr p0 p1) : Met l qy_G_learnStep qw_G_learnStep ({ frames := 2, cells := 0, slots := 0, locals := 41 }) (va_Pc [.ref aG, .int p0, .int p1] (fun U => U.heap.size = sz ∧ xP (dC, dI) [(cA, .int)] [(aG, .inr (2, [.ref aGh, .ref aGi, .ref aGc, .ref aGo, .ref aGr, .int vGF, .int vGS])), (aGr, .inl (cA, 10, .inl (vGr)))] nestN U ∧ va_D (fun _ => True) [(aG, .inr (2, [.ref aGh, .ref aGi, .ref aGc, .ref aGo, .ref aGr, .int vGF, .int vGS])), (aGr, .inl (cA, 10, .inl (vGr)))])) (va_Qv (fun u => u = f_G_learnStep N_ vGr p0 p1) (fun (u : (Nat → Int32)) t => xP (dC, dI) [(cA, .int)] [(aG, .inr (2, [.ref aGh, .ref aGi, .ref aGc, .ref aGo, .ref aGr, .int vGF, .int vGS])), (aGr, .inl (cA, 10, .inl (u)))] nestN t ∧ va_D (va_A [(aG, .inr (2, [.ref aGh, .ref aGi, .ref aGc, .ref aGo, .ref aGr, .int vGF, .int vGS])), (aGr, .inl (cA, 10, .inl (vGr)))] sz) [(aG, .inr (2, [.ref aGh, .ref aGi, .ref aGc, .ref aGo, .ref aGr, .int vGF, .int vGS])), (aGr, .inl (cA, 10, .inl (u)))]) (va_A [(aG, .inr (2, [.ref aGh, .ref aGi, .ref aGc, .ref aGo, .ref aGr, .int vGF, .int vGS])), (aGr, .inl (cA, 10, .inl (vGr)))] sz)) 0 0 (va_A [(aG, .inr (2, [.ref aGh, .ref aGi, .ref aGc, .ref aGo, .ref aGr, .int vGF, .int vGS])), (aGr, .inl (cA, 10, .inl (vGr)))] sz) := by
  refine Met.ofW (cc := qc_G_learnStep) (maxL := 5) (ret := (none)) (by decide) rfl ?_
  intro p e s m args below meth c s₁ B hml hv
  obtain ⟨rfl, hsz, ⟨hP, hK, hN⟩, hD0⟩ := hv
  have hx := B.exec
  have hb := B.bytes
  have hr := B.returns
  have hts := atoms_spec (ws := qw_G_learnStep) B.pre
  have hg : ∀ w ∈ gG, w.before _ s = true := fun w h => hts w (List.mem_cons_of_mem _ h)
  have hown : s.vm.findClass qR_G = some m.cls := findClass_of_methodNamed B.named
  have hlocks := B.notSynchronized
  subst hsz
  have hD := hD0.self (sz := s.heap.size)
  generalize hAe : va_A [(aG, .inr (2, [.ref aGh, .ref aGi, .ref aGc, .ref aGo, .ref aGr, .int vGF, .int vGS])), (aGr, .inl (cA, 10, .inl (vGr)))] s.heap.size = A at hD ⊢
  have hA : ∀ q : Nat, s.heap.size ≤ q → A q := fun q h => by rw [← hAe]; exact Or.inr h
  have hS : va_S A s.heap s.heap [] := va_S.rf
  have hP : va_P (dC, dI) vwCl [(aG, .inr (2, [.ref aGh, .ref aGi, .ref aGc, .ref aGo, .ref aGr, .int vGF, .int vGS])), (aGr, .inl (cA, 10, .inl (vGr)))] s.heap := hP
  have hl := lv_entry ([.ref aG, .int p0, .int p1]) (n := 5) (Nat.le_of_ble_eq_true rfl)
  rw [lg_entry_eq]
  generalize (lg_sl ([.ref aG, .int p0, .int p1]) ++ List.replicate (5 - (lg_sl ([.ref aG, .int p0, .int p1])).length) Slot.unset).toArray = ls at hl ⊢
  have hl : lv_has ls 5 [(0, .ref aG), (1, .int p0), (2, .int p1)] := hl
  generalize hF : f_G_learnStep N_ vGr p0 p1 = Fv
  have hres : Fv = f_G_learnStep N_ vGr p0 p1 := hF.symm
  unfold f_G_learnStep at hres
  unfold o_G_learnStep at ho
  generalize hQ : MQ _ _ _ _ _ _ _ = Qg
  refine lv_iconst (v := 1) hx hb qd_G_learnStep_0 (by decide) ?_
  refine lv_iload_n hx hb qd_G_learnStep_1 rfl (lv_at hl 2 rfl) ?_
  refine lv_ishl hx hb qd_G_learnStep_2 ?_
  refine lv_aload_n hx hb qd_G_learnStep_3 rfl (lv_at hl 0 rfl) ?_
  refine lv_iload_n hx hb qd_G_learnStep_4 rfl (lv_at hl 2 rfl) ?_
  obtain ⟨g_5, ho⟩ := ho
  refine xc_V (As := [.int p1]) (rest := [.int ((1 : Int32) <<< (p1 &&& 31))]) ⟨hx, hb, hml, hown, hg⟩ (c_G_reachedFrom l dC dI cA aG aGh aGi aGc aGo aGr vGF vGS vGr p1 g_5) (cwV 1 hg (q_gV mw_258 mw_259 mw_744 mw_2 mw_260) rfl rfl rfl qh_G_reachedFrom ⟨Nat.le_of_ble_eq_true rfl, Nat.le_of_ble_eq_true rfl⟩) hN hK hP [0, 1] rfl 0 2 rfl rfl rfl hl.1 rfl (Nat.le_of_ble_eq_true rfl) qd_G_learnStep_5 ⟨Nat.zero_le _, Nat.zero_le _⟩ ?_
  refine lv_topi (fun r_5 w_5 => ?_)
  have hres := hres.trans (bd_eq w_5)
  have ho := (bd_eq w_5).mp ho
  refine lv_ior hx hb qd_G_learnStep_8 ?_
  refine lv_istore_n (lv' := [(3, .int (((1 : Int32) <<< (p1 &&& 31)) ||| r_5)), (0, .ref aG), (1, .int p0), (2, .int p1)]) hx hb qd_G_learnStep_9 rfl hl (by decide) rfl (fun ls hl => ?_)
  refine lv_iconst (v := 0) hx hb qd_G_learnStep_10 (by decide) ?_
  refine lv_istore (lv' := [(4, .int 0), (3, .int (((1 : Int32) <<< (p1 &&& 31)) ||| r_5)), (0, .ref aG), (1, .int p0), (2, .int p1)]) hx hb qd_G_learnStep_11 hl (by decide) rfl (fun ls hl => ?_)
  have L_13 : ∀ (K_ : Int32 → (Nat → Int32) → (Nat → Int32)) (Ko_ : Int32 → (Nat → Int32) → Prop) (hk : ∀ (x4_13 : Int32) (vGr_13 : (Nat → Int32)) (H : Heap) (locs : List Loc) (ls : Array Slot), va_P (dC, dI) vwCl [(aG, .inr (2, [.ref aGh, .ref aGi, .ref aGc, .ref aGo, .ref aGr, .int vGF, .int vGS])), (aGr, .inl (cA, 10, .inl (vGr_13)))] H → va_D A [(aG, .inr (2, [.ref aGh, .ref aGi, .ref aGc, .ref aGo, .ref aGr, .int vGF, .int vGS])), (aGr, .inl (cA, 10, .inl (vGr_13)))] → va_S A s.heap H locs → lv_has ls 5 [(4, .int x4_13), (3, .int (((1 : Int32) <<< (p1 &&& 31)) ||| r_5)), (0, .ref aG), (1, .int p0), (2, .int p1)] → Fv = K_ x4_13 vGr_13 → Ko_ x4_13 vGr_13 → W p l e ({ frames := 2, cells := 0, slots := 0, locals := 41 } : Room) s m (([.ref aG, .int p0, .int p1] : List Value).toArray) below meth c H locs 0 0 Qg (F0 m 57 ls [])) (n : Nat) (x4_13 : Int32) (vGr_13 : (Nat → Int32)) (H : Heap) (locs : List Loc) (ls : Array Slot), va_P (dC, dI) vwCl [(aG, .inr (2, [.ref aGh, .ref aGi, .ref aGc, .ref aGo, .ref aGr, .int vGF, .int vGS])), (aGr, .inl (cA, 10, .inl (vGr_13)))] H → va_D A [(aG, .inr (2, [.ref aGh, .ref aGi, .ref aGc, .ref aGo, .ref aGr, .int vGF, .int vGS])), (aGr, .inl (cA, 10, .inl (vGr_13)))] → va_S A s.heap H locs → lv_has ls 5 [(4, .int x4_13), (3, .int (((1 : Int32) <<< (p1 &&& 31)) ||| r_5)), (0, .ref aG), (1, .int p0), (2, .int p1)] → Fv = l_G_learnStep_13 p0 (((1 : Int32) <<< (p1 &&& 31)) ||| r_5) K_ n x4_13 vGr_13 → ol_G_learnStep_13 p0 (((1 : Int32) <<< (p1 &&& 31)) ||| r_5) Ko_ n x4_13 vGr_13 → W p l e ({ frames := 2, cells := 0, slots := 0, locals := 41 } : Room) s m (([.ref aG, .int p0, .int p1] : List Value).toArray) below meth c H locs 0 0 Qg (F0 m 13 ls []) := by
    intro K_ Ko_ hk n
    induction n with
    | zero => intro x4_13 vGr_13 H locs ls hP hD hS hl hres ho; exact ho.elim
    | succ n ih =>
      intro x4_13 vGr_13 H locs ls hP hD hS hl hres ho
      rw [l_G_learnStep_13, s_G_learnStep_13] at hres
      rw [ol_G_learnStep_13, os_G_learnStep_13] at ho
      refine lv_iload hx hb qd_G_learnStep_13 (lv_at hl 0 rfl) ?_
      refine lv_bipush (v := 10) hx hb qd_G_learnStep_15 (by decide) ?_
      refine lv_icmp_ge (tgt := 57) hx hb qd_G_learnStep_17 (by decide) (fun c_17 => ?_) (fun c_17 => ?_)
      · have hres := hres.trans (if_pos c_17)
        have ho := (if_pos c_17).mp ho
        exact hk x4_13 vGr_13 H locs ls hP hD hS (lv_sub hl [0, 1, 2, 3, 4] rfl) hres ho
      have hres := hres.trans (if_neg c_17)
      have ho := (if_neg c_17).mp ho
      refine lv_iload hx hb qd_G_learnStep_20 (lv_at hl 0 rfl) ?_
      refine lv_iload_n hx hb qd_G_learnStep_22 rfl (lv_at hl 3 rfl) ?_
      refine lv_icmp_eq (tgt := 40) hx hb qd_G_learnStep_23 (by decide) (fun c_23 => ?_) (fun c_23 => ?_)
      · have hres := hres.trans (if_pos c_23)
        have ho := (if_pos c_23).mp ho
        refine lv_aload_n hx hb qd_G_learnStep_40 rfl (lv_at hl 2 rfl) ?_
        refine va_get (D := (dC, dI)) (ci := 2) (v := .ref aGr) (C := qR_G) (T := qT_G) (N := 7) hx hb hg qi_G hown hK hP 0 rfl rfl 4 (by decide) (hg _ mw_36) (fun _ h9 => h9) rfl qd_G_learnStep_41 ?_
        refine lv_iload hx hb qd_G_learnStep_44 (lv_at hl 0 rfl) ?_
        refine lv_dup2_11 hx hb qd_G_learnStep_46 rfl rfl ?_
        obtain ⟨g_47, ho⟩ := ho
        refine va_iald hx hb hK hP 1 0 rfl rfl g_47 qd_G_learnStep_47 ?_
        refine lv_iload_n hx hb qd_G_learnStep_48 rfl (lv_at hl 1 rfl) ?_
        refine lv_ior hx hb qd_G_learnStep_49 ?_
        obtain ⟨g_50, ho⟩ := ho
        refine va_iast hx hb hK hP hD hS 1 0 rfl rfl g_50 qd_G_learnStep_50 (fun H locs hP hD hS => ?_)
        have hP : va_P (dC, dI) vwCl [(aG, .inr (2, [.ref aGh, .ref aGi, .ref aGc, .ref aGo, .ref aGr, .int vGF, .int vGS])), (aGr, .inl (cA, 10, .inl (upd vGr_13 x4_13.toNatClampNeg ((vGr_13 x4_13.toNatClampNeg) ||| (((1 : Int32) <<< (p1 &&& 31)) ||| r_5)))))] H := hP
        have hD : va_D A [(aG, .inr (2, [.ref aGh, .ref aGi, .ref aGc, .ref aGo, .ref aGr, .int vGF, .int vGS])), (aGr, .inl (cA, 10, .inl (upd vGr_13 x4_13.toNatClampNeg ((vGr_13 x4_13.toNatClampNeg) ||| (((1 : Int32) <<< (p1 &&& 31)) ||| r_5)))))] := hD
        refine lv_iinc (v := x4_13 + 1) (lv' := [(4, .int (x4_13 + 1)), (3, .int (((1 : Int32) <<< (p1 &&& 31)) ||| r_5)), (0, .ref aG), (1, .int p0), (2, .int p1)]) hx hb qd_G_learnStep_51 hl (k := 0) rfl (congrArg (fun z => _ + z) (by decide)) (by decide) rfl (fun ls hl => ?_)
        refine lv_goto (tgt := 13) hx hb qd_G_learnStep_54 (by decide) ?_
        exact ih (x4_13 + 1) (upd vGr_13 x4_13.toNatClampNeg ((vGr_13 x4_13.toNatClampNeg) ||| (((1 : Int32) <<< (p1 &&& 31)) ||| r_5))) H locs ls hP hD hS (lv_sub hl [0, 1, 2, 3, 4] rfl) hres ho
      have hres := hres.trans (if_neg c_23)
      have ho := (if_neg c_23).mp ho
      refine lv_aload_n hx hb qd_G_learnStep_26 rfl (lv_at hl 2 rfl) ?_
      refine va_get (D := (dC, dI)) (ci := 2) (v := .ref aGr) (C := qR_G) (T := qT_G) (N := 7) hx hb hg qi_G hown hK hP 0 rfl rfl 4 (by decide) (hg _ mw_36) (fun _ h9 => h9) rfl qd_G_learnStep_27 ?_
      refine lv_iload hx hb qd_G_learnStep_30 (lv_at hl 0 rfl) ?_
      obtain ⟨g_32, ho⟩ := ho
      refine va_iald hx hb hK hP 1 0 rfl rfl g_32 qd_G_learnStep_32 ?_
      refine lv_iload_n hx hb qd_G_learnStep_33 rfl (lv_at hl 3 rfl) ?_
      refine xc_N (As := [.int (vGr_13 x4_13.toNatClampNeg), .int p0]) (rest := []) ⟨hx, hb, hml, hown, hg⟩ (c_H_has l dC dI cA (vGr_13 x4_13.toNatClampNeg) p0) (⟨va_cnB 2 hg (q_gC mw_262) rfl rfl rfl (hN _ nw_4) (hg _ mw_1) qh_H_has.2 ⟨Nat.le_of_ble_eq_true rfl, Nat.le_of_ble_eq_true rfl⟩, hg _ mw_261, trivial⟩) hN hK hP [] rfl rfl hl.1 rfl (Nat.le_of_ble_eq_true rfl) qd_G_learnStep_34 ⟨Nat.zero_le _, Nat.zero_le _⟩ ?_
      refine lv_topi (fun r_34 w_34 => ?_)
      have hres := hres.trans (bd_eq w_34)
      have ho := (bd_eq w_34).mp ho
      refine lv_if_eq (tgt := 51) hx hb qd_G_learnStep_37 (by decide) (fun c_37 => ?_) (fun c_37 => ?_)
      · have hres := hres.trans (if_pos c_37)
        have ho := (if_pos c_37).mp ho
        refine lv_iinc (v := x4_13 + 1) (lv' := [(4, .int (x4_13 + 1)), (3, .int (((1 : Int32) <<< (p1 &&& 31)) ||| r_5)), (0, .ref aG), (1, .int p0), (2, .int p1)]) hx hb qd_G_learnStep_51 hl (k := 0) rfl (congrArg (fun z => _ + z) (by decide)) (by decide) rfl (fun ls hl => ?_)
        refine lv_goto (tgt := 13) hx hb qd_G_learnStep_54 (by decide) ?_
        exact ih (x4_13 + 1) vGr_13 H locs ls hP hD hS (lv_sub hl [0, 1, 2, 3, 4] rfl) hres ho
      have hres := hres.trans (if_neg c_37)
      have ho := (if_neg c_37).mp ho
      refine lv_aload_n hx hb qd_G_learnStep_40 rfl (lv_at hl 2 rfl) ?_
      refine va_get (D := (dC, dI)) (ci := 2) (v := .ref aGr) (C := qR_G) (T := qT_G) (N := 7) hx hb hg qi_G hown hK hP 0 rfl rfl 4 (by decide) (hg _ mw_36) (fun _ h9 => h9) rfl qd_G_learnStep_41 ?_
      refine lv_iload hx hb qd_G_learnStep_44 (lv_at hl 0 rfl) ?_
      refine lv_dup2_11 hx hb qd_G_learnStep_46 rfl rfl ?_
      obtain ⟨g_47, ho⟩ := ho
      refine va_iald hx hb hK hP 1 0 rfl rfl g_47 qd_G_learnStep_47 ?_
      refine lv_iload_n hx hb qd_G_learnStep_48 rfl (lv_at hl 1 rfl) ?_
      refine lv_ior hx hb qd_G_learnStep_49 ?_
      obtain ⟨g_50, ho⟩ := ho
      refine va_iast hx hb hK hP hD hS 1 0 rfl rfl g_50 qd_G_learnStep_50 (fun H locs hP hD hS => ?_)
      have hP : va_P (dC, dI) vwCl [(aG, .inr (2, [.ref aGh, .ref aGi, .ref aGc, .ref aGo, .ref aGr, .int vGF, .int vGS])), (aGr, .inl (cA, 10, .inl (upd vGr_13 x4_13.toNatClampNeg ((vGr_13 x4_13.toNatClampNeg) ||| (((1 : Int32) <<< (p1 &&& 31)) ||| r_5)))))] H := hP
      have hD : va_D A [(aG, .inr (2, [.ref aGh, .ref aGi, .ref aGc, .ref aGo, .ref aGr, .int vGF, .int vGS])), (aGr, .inl (cA, 10, .inl (upd vGr_13 x4_13.toNatClampNeg ((vGr_13 x4_13.toNatClampNeg) ||| (((1 : Int32) <<< (p1 &&& 31)) ||| r_5)))))] := hD
      refine lv_iinc (v := x4_13 + 1) (lv' := [(4, .int (x4_13 + 1)), (3, .int (((1 : Int32) <<< (p1 &&& 31)) ||| r_5)), (0, .ref aG), (1, .int p0), (2, .int p1)]) hx hb qd_G_learnStep_51 hl (k := 0) rfl (congrArg (fun z => _ + z) (by decide)) (by decide) rfl (fun ls hl => ?_)
      refine lv_goto (tgt := 13) hx hb qd_G_learnStep_54 (by decide) ?_
      exact ih (x4_13 + 1) (upd vGr_13 x4_13.toNatClampNeg ((vGr_13 x4_13.toNatClampNeg) ||| (((1 : Int32) <<< (p1 &&& 31)) ||| r_5))) H locs ls hP hD hS (lv_sub hl [0, 1, 2, 3, 4] rfl) hres ho
  refine L_13 _ _ (fun x4_13 vGr_13 H locs ls hP hD hS hl hres ho => ?_) _ _ _ _ _ ls hP hD hS hl hres ho
  subst hQ
  exact W.vret hx hb hr (fun t ht hW => ⟨⟨vGr_13, rfl, hres.symm, ⟨by rw [ht]; exact hP, va_K.moved hW.alike hK, x_N hN hW⟩, hD⟩, hS.F ht⟩) hS.2.2 qd_G_learnStep_57
theorem qd_G_orderBySteps_0 : decode qc_G_orderBySteps 0 = .ok (.iconst 0, 1) := by decide +kernel
theorem qd_G_orderBySteps_1 : decode qc_G_orderBySteps 1 = .ok (.istore_n 1, 1) := by decide +kernel
theorem qd_G_orderBySteps_2 : decode qc_G_orderBySteps 2 = .ok (.iconst 0, 1) := by decide +kernel
theorem qd_G_orderBySteps_3 : decode qc_G_orderBySteps 3 = .ok (.istore_n 2, 1) := by decide +kernel
theorem qd_G_orderBySteps_4 : decode qc_G_orderBySteps 4 = .ok (.iload_n 2, 1) := by decide +kernel
theorem qd_G_orderBySteps_5 : decode qc_G_orderBySteps 5 = .ok (.bipush 10, 2) := by decide +kernel
theorem qd_G_orderBySteps_7 : decode qc_G_orderBySteps 7 = .ok (.if_icmp .ge 70, 3) := by decide +kernel
theorem qd_G_orderBySteps_10 : decode qc_G_orderBySteps 10 = .ok (.iconst 0, 1) := by decide +kernel
theorem qd_G_orderBySteps_11 : decode qc_G_orderBySteps 11 = .ok (.istore_n 3, 1) := by decide +kernel
theorem qd_G_orderBySteps_12 : decode qc_G_orderBySteps 12 = .ok (.iload_n 3, 1) := by decide +kernel
theorem qd_G_orderBySteps_13 : decode qc_G_orderBySteps 13 = .ok (.aload_n 0, 1) := by decide +kernel
theorem qd_G_orderBySteps_14 : decode qc_G_orderBySteps 14 = .ok (.getfield 31, 3) := by decide +kernel
theorem qd_G_orderBySteps_17 : decode qc_G_orderBySteps 17 = .ok (.if_icmp .ge 54, 3) := by decide +kernel
theorem qd_G_orderBySteps_20 : decode qc_G_orderBySteps 20 = .ok (.aload_n 0, 1) := by decide +kernel
theorem qd_G_orderBySteps_21 : decode qc_G_orderBySteps 21 = .ok (.aload_n 0, 1) := by decide +kernel
theorem qd_G_orderBySteps_22 : decode qc_G_orderBySteps 22 = .ok (.getfield 9, 3) := by decide +kernel
theorem qd_G_orderBySteps_25 : decode qc_G_orderBySteps 25 = .ok (.iload_n 3, 1) := by decide +kernel
theorem qd_G_orderBySteps_26 : decode qc_G_orderBySteps 26 = .ok (.iaload, 1) := by decide +kernel
theorem qd_G_orderBySteps_27 : decode qc_G_orderBySteps 27 = .ok (.invokevirtual 34, 3) := by decide +kernel
theorem qd_G_orderBySteps_30 : decode qc_G_orderBySteps 30 = .ok (.invokestatic 59, 3) := by decide +kernel
theorem qd_G_orderBySteps_33 : decode qc_G_orderBySteps 33 = .ok (.iload_n 2, 1) := by decide +kernel
theorem qd_G_orderBySteps_34 : decode qc_G_orderBySteps 34 = .ok (.if_icmp .ne 7, 3) := by decide +kernel
theorem qd_G_orderBySteps_37 : decode qc_G_orderBySteps 37 = .ok (.iconst 1, 1) := by decide +kernel
theorem qd_G_orderBySteps_38 : decode qc_G_orderBySteps 38 = .ok (.goto 4, 3) := by decide +kernel
theorem qd_G_orderBySteps_41 : decode qc_G_orderBySteps 41 = .ok (.iconst 0, 1) := by decide +kernel
theorem qd_G_orderBySteps_42 : decode qc_G_orderBySteps 42 = .ok (.istore 4, 2) := by decide +kernel
theorem qd_G_orderBySteps_44 : decode qc_G_orderBySteps 44 = .ok (.iload 4, 2) := by decide +kernel
theorem qd_G_orderBySteps_46 : decode qc_G_orderBySteps 46 = .ok (.ifCond .eq 19, 3) := by decide +kernel
theorem qd_G_orderBySteps_49 : decode qc_G_orderBySteps 49 = .ok (.iload_n 1, 1) := by decide +kernel
theorem qd_G_orderBySteps_50 : decode qc_G_orderBySteps 50 = .ok (.bipush 24, 2) := by decide +kernel
theorem qd_G_orderBySteps_52 : decode qc_G_orderBySteps 52 = .ok (.if_icmp .ge 13, 3) := by decide +kernel
theorem qd_G_orderBySteps_55 : decode qc_G_orderBySteps 55 = .ok (.aload_n 0, 1) := by decide +kernel
theorem qd_G_orderBySteps_56 : decode qc_G_orderBySteps 56 = .ok (.getfield 21, 3) := by decide +kernel
theorem qd_G_orderBySteps_59 : decode qc_G_orderBySteps 59 = .ok (.iload_n 1, 1) := by decide +kernel
theorem qd_G_orderBySteps_60 : decode qc_G_orderBySteps 60 = .ok (.iload_n 3, 1) := by decide +kernel
theorem qd_G_orderBySteps_61 : decode qc_G_orderBySteps 61 = .ok (.iastore, 1) := by decide +kernel
theorem qd_G_orderBySteps_62 : decode qc_G_orderBySteps 62 = .ok (.iinc 1 1, 3) := by decide +kernel
theorem qd_G_orderBySteps_65 : decode qc_G_orderBySteps 65 = .ok (.iinc 3 1, 3) := by decide +kernel
theorem qd_G_orderBySteps_68 : decode qc_G_orderBySteps 68 = .ok (.goto (-56), 3) := by decide +kernel
theorem qd_G_orderBySteps_71 : decode qc_G_orderBySteps 71 = .ok (.iinc 2 1, 3) := by decide +kernel
theorem qd_G_orderBySteps_74 : decode qc_G_orderBySteps 74 = .ok (.goto (-70), 3) := by decide +kernel
theorem qd_G_orderBySteps_77 : decode qc_G_orderBySteps 77 = .ok (.return_, 1) := by decide +kernel
set_option maxHeartbeats 4000000 in
set_option maxRecDepth 100000 in
theorem c_G_orderBySteps (l : Launch) (dC : Nat → ClassId) (dI : Nat → Nat → Nat) (cA : ClassId) (N_ : Nat) (aG aGh aGi aGc aGo aGr : Nat) (sz : Nat) (vGF : Int32) (vGS : Int32) (vGh : (Nat → Int32)) (vGo : (Nat → Int32)) (vGr : (Nat → Int32)) (ho : o_G_orderBySteps N_ vGS vGh vGo vGr) : Met l qy_G_orderBySteps qw_G_orderBySteps ({ frames := 2, cells := 0, slots := 0, locals := 41 }) (va_Pc [.ref aG] (fun U => U.heap.size = sz ∧ xP (dC, dI) [(cA, .int)] [(aG, .inr (2, [.ref aGh, .ref aGi, .ref aGc, .ref aGo, .ref aGr, .int vGF, .int vGS])), (aGh, .inl (cA, 24, .inl (vGh))), (aGo, .inl (cA, 24, .inl (vGo))), (aGr, .inl (cA, 10, .inl (vGr)))] nestN U ∧ va_D (fun _ => True) [(aG, .inr (2, [.ref aGh, .ref aGi, .ref aGc, .ref aGo, .ref aGr, .int vGF, .int vGS])), (aGh, .inl (cA, 24, .inl (vGh))), (aGo, .inl (cA, 24, .inl (vGo))), (aGr, .inl (cA, 10, .inl (vGr)))])) (va_Qv (fun u => u = f_G_orderBySteps N_ vGS vGh vGo vGr) (fun (u : (Nat → Int32)) t => xP (dC, dI) [(cA, .int)] [(aG, .inr (2, [.ref aGh, .ref aGi, .ref aGc, .ref aGo, .ref aGr, .int vGF, .int vGS])), (aGh, .inl (cA, 24, .inl (vGh))), (aGo, .inl (cA, 24, .inl (u))), (aGr, .inl (cA, 10, .inl (vGr)))] nestN t ∧ va_D (va_A [(aG, .inr (2, [.ref aGh, .ref aGi, .ref aGc, .ref aGo, .ref aGr, .int vGF, .int vGS])), (aGh, .inl (cA, 24, .inl (vGh))), (aGo, .inl (cA, 24, .inl (vGo))), (aGr, .inl (cA, 10, .inl (vGr)))] sz) [(aG, .inr (2, [.ref aGh, .ref aGi, .ref aGc, .ref aGo, .ref aGr, .int vGF, .int vGS])), (aGh, .inl (cA, 24, .inl (vGh))), (aGo, .inl (cA, 24, .inl (u))), (aGr, .inl (cA, 10, .inl (vGr)))]) (va_A [(aG, .inr (2, [.ref aGh, .ref aGi, .ref aGc, .ref aGo, .ref aGr, .int vGF, .int vGS])), (aGh, .inl (cA, 24, .inl (vGh))), (aGo, .inl (cA, 24, .inl (vGo))), (aGr, .inl (cA, 10, .inl (vGr)))] sz)) 0 0 (va_A [(aG, .inr (2, [.ref aGh, .ref aGi, .ref aGc, .ref aGo, .ref aGr, .int vGF, .int vGS])), (aGh, .inl (cA, 24, .inl (vGh))), (aGo, .inl (cA, 24, .inl (vGo))), (aGr, .inl (cA, 10, .inl (vGr)))] sz) := by
  refine Met.ofW (cc := qc_G_orderBySteps) (maxL := 5) (ret := (none)) (by decide) rfl ?_
  intro p e s m args below meth c s₁ B hml hv
  obtain ⟨rfl, hsz, ⟨hP, hK, hN⟩, hD0⟩ := hv
  have hx := B.exec
  have hb := B.bytes
  have hr := B.returns
  have hts := atoms_spec (ws := qw_G_orderBySteps) B.pre
  have hg : ∀ w ∈ gG, w.before _ s = true := fun w h => hts w (List.mem_cons_of_mem _ h)
  have hown : s.vm.findClass qR_G = some m.cls := findClass_of_methodNamed B.named
  have hlocks := B.notSynchronized
  subst hsz
  have hD := hD0.self (sz := s.heap.size)
  generalize hAe : va_A [(aG, .inr (2, [.ref aGh, .ref aGi, .ref aGc, .ref aGo, .ref aGr, .int vGF, .int vGS])), (aGh, .inl (cA, 24, .inl (vGh))), (aGo, .inl (cA, 24, .inl (vGo))), (aGr, .inl (cA, 10, .inl (vGr)))] s.heap.size = A at hD ⊢
  have hA : ∀ q : Nat, s.heap.size ≤ q → A q := fun q h => by rw [← hAe]; exact Or.inr h
  have hS : va_S A s.heap s.heap [] := va_S.rf
  have hP : va_P (dC, dI) vwCl [(aG, .inr (2, [.ref aGh, .ref aGi, .ref aGc, .ref aGo, .ref aGr, .int vGF, .int vGS])), (aGh, .inl (cA, 24, .inl (vGh))), (aGo, .inl (cA, 24, .inl (vGo))), (aGr, .inl (cA, 10, .inl (vGr)))] s.heap := hP
  have hl := lv_entry ([.ref aG]) (n := 5) (Nat.le_of_ble_eq_true rfl)
  rw [lg_entry_eq]
  generalize (lg_sl ([.ref aG]) ++ List.replicate (5 - (lg_sl ([.ref aG])).length) Slot.unset).toArray = ls at hl ⊢
  have hl : lv_has ls 5 [(0, .ref aG)] := hl
  generalize hF : f_G_orderBySteps N_ vGS vGh vGo vGr = Fv
  have hres : Fv = f_G_orderBySteps N_ vGS vGh vGo vGr := hF.symm
  unfold f_G_orderBySteps at hres
  unfold o_G_orderBySteps at ho
  generalize hQ : MQ _ _ _ _ _ _ _ = Qg
  refine lv_iconst (v := 0) hx hb qd_G_orderBySteps_0 (by decide) ?_
  refine lv_istore_n (lv' := [(1, .int 0), (0, .ref aG)]) hx hb qd_G_orderBySteps_1 rfl hl (by decide) rfl (fun ls hl => ?_)
  refine lv_iconst (v := 0) hx hb qd_G_orderBySteps_2 (by decide) ?_
  refine lv_istore_n (lv' := [(2, .int 0), (1, .int 0), (0, .ref aG)]) hx hb qd_G_orderBySteps_3 rfl hl (by decide) rfl (fun ls hl => ?_)
  have L_4 : ∀ (K_ : Int32 → Int32 → (Nat → Int32) → (Nat → Int32)) (Ko_ : Int32 → Int32 → (Nat → Int32) → Prop) (hk : ∀ (x1_4 : Int32) (x2_4 : Int32) (vGo_4 : (Nat → Int32)) (H : Heap) (locs : List Loc) (ls : Array Slot), va_P (dC, dI) vwCl [(aG, .inr (2, [.ref aGh, .ref aGi, .ref aGc, .ref aGo, .ref aGr, .int vGF, .int vGS])), (aGh, .inl (cA, 24, .inl (vGh))), (aGo, .inl (cA, 24, .inl (vGo_4))), (aGr, .inl (cA, 10, .inl (vGr)))] H → va_D A [(aG, .inr (2, [.ref aGh, .ref aGi, .ref aGc, .ref aGo, .ref aGr, .int vGF, .int vGS])), (aGh, .inl (cA, 24, .inl (vGh))), (aGo, .inl (cA, 24, .inl (vGo_4))), (aGr, .inl (cA, 10, .inl (vGr)))] → va_S A s.heap H locs → lv_has ls 5 [(2, .int x2_4), (1, .int x1_4), (0, .ref aG)] → Fv = K_ x1_4 x2_4 vGo_4 → Ko_ x1_4 x2_4 vGo_4 → W p l e ({ frames := 2, cells := 0, slots := 0, locals := 41 } : Room) s m (([.ref aG] : List Value).toArray) below meth c H locs 0 0 Qg (F0 m 77 ls [])) (n : Nat) (x1_4 : Int32) (x2_4 : Int32) (vGo_4 : (Nat → Int32)) (H : Heap) (locs : List Loc) (ls : Array Slot), va_P (dC, dI) vwCl [(aG, .inr (2, [.ref aGh, .ref aGi, .ref aGc, .ref aGo, .ref aGr, .int vGF, .int vGS])), (aGh, .inl (cA, 24, .inl (vGh))), (aGo, .inl (cA, 24, .inl (vGo_4))), (aGr, .inl (cA, 10, .inl (vGr)))] H → va_D A [(aG, .inr (2, [.ref aGh, .ref aGi, .ref aGc, .ref aGo, .ref aGr, .int vGF, .int vGS])), (aGh, .inl (cA, 24, .inl (vGh))), (aGo, .inl (cA, 24, .inl (vGo_4))), (aGr, .inl (cA, 10, .inl (vGr)))] → va_S A s.heap H locs → lv_has ls 5 [(2, .int x2_4), (1, .int x1_4), (0, .ref aG)] → Fv = l_G_orderBySteps_4 N_ vGS vGh vGr K_ n x1_4 x2_4 vGo_4 → ol_G_orderBySteps_4 N_ vGS vGh vGr Ko_ n x1_4 x2_4 vGo_4 → W p l e ({ frames := 2, cells := 0, slots := 0, locals := 41 } : Room) s m (([.ref aG] : List Value).toArray) below meth c H locs 0 0 Qg (F0 m 4 ls []) := by
    intro K_ Ko_ hk n
    induction n with
    | zero => intro x1_4 x2_4 vGo_4 H locs ls hP hD hS hl hres ho; exact ho.elim
    | succ n ih =>
      intro x1_4 x2_4 vGo_4 H locs ls hP hD hS hl hres ho
      rw [l_G_orderBySteps_4, s_G_orderBySteps_4] at hres
      rw [ol_G_orderBySteps_4, os_G_orderBySteps_4] at ho
      refine lv_iload_n hx hb qd_G_orderBySteps_4 rfl (lv_at hl 0 rfl) ?_
      refine lv_bipush (v := 10) hx hb qd_G_orderBySteps_5 (by decide) ?_
      refine lv_icmp_ge (tgt := 77) hx hb qd_G_orderBySteps_7 (by decide) (fun c_7 => ?_) (fun c_7 => ?_)
      · have hres := hres.trans (if_pos c_7)
        have ho := (if_pos c_7).mp ho
        exact hk x1_4 x2_4 vGo_4 H locs ls hP hD hS (lv_sub hl [0, 1, 2] rfl) hres ho
      have hres := hres.trans (if_neg c_7)
      have ho := (if_neg c_7).mp ho
      refine lv_iconst (v := 0) hx hb qd_G_orderBySteps_10 (by decide) ?_
      refine lv_istore_n (lv' := [(3, .int 0), (2, .int x2_4), (1, .int x1_4), (0, .ref aG)]) hx hb qd_G_orderBySteps_11 rfl hl (by decide) rfl (fun ls hl => ?_)
      have L_12 : ∀ (K_ : Int32 → Int32 → (Nat → Int32) → (Nat → Int32)) (Ko_ : Int32 → Int32 → (Nat → Int32) → Prop) (hk : ∀ (x1_12 : Int32) (x3_12 : Int32) (vGo_12 : (Nat → Int32)) (H : Heap) (locs : List Loc) (ls : Array Slot), va_P (dC, dI) vwCl [(aG, .inr (2, [.ref aGh, .ref aGi, .ref aGc, .ref aGo, .ref aGr, .int vGF, .int vGS])), (aGh, .inl (cA, 24, .inl (vGh))), (aGo, .inl (cA, 24, .inl (vGo_12))), (aGr, .inl (cA, 10, .inl (vGr)))] H → va_D A [(aG, .inr (2, [.ref aGh, .ref aGi, .ref aGc, .ref aGo, .ref aGr, .int vGF, .int vGS])), (aGh, .inl (cA, 24, .inl (vGh))), (aGo, .inl (cA, 24, .inl (vGo_12))), (aGr, .inl (cA, 10, .inl (vGr)))] → va_S A s.heap H locs → lv_has ls 5 [(3, .int x3_12), (2, .int x2_4), (1, .int x1_12), (0, .ref aG)] → Fv = K_ x1_12 x3_12 vGo_12 → Ko_ x1_12 x3_12 vGo_12 → W p l e ({ frames := 2, cells := 0, slots := 0, locals := 41 } : Room) s m (([.ref aG] : List Value).toArray) below meth c H locs 0 0 Qg (F0 m 71 ls [])) (n : Nat) (x1_12 : Int32) (x3_12 : Int32) (vGo_12 : (Nat → Int32)) (H : Heap) (locs : List Loc) (ls : Array Slot), va_P (dC, dI) vwCl [(aG, .inr (2, [.ref aGh, .ref aGi, .ref aGc, .ref aGo, .ref aGr, .int vGF, .int vGS])), (aGh, .inl (cA, 24, .inl (vGh))), (aGo, .inl (cA, 24, .inl (vGo_12))), (aGr, .inl (cA, 10, .inl (vGr)))] H → va_D A [(aG, .inr (2, [.ref aGh, .ref aGi, .ref aGc, .ref aGo, .ref aGr, .int vGF, .int vGS])), (aGh, .inl (cA, 24, .inl (vGh))), (aGo, .inl (cA, 24, .inl (vGo_12))), (aGr, .inl (cA, 10, .inl (vGr)))] → va_S A s.heap H locs → lv_has ls 5 [(3, .int x3_12), (2, .int x2_4), (1, .int x1_12), (0, .ref aG)] → Fv = l_G_orderBySteps_12 x2_4 vGS vGh vGr K_ n x1_12 x3_12 vGo_12 → ol_G_orderBySteps_12 x2_4 vGS vGh vGr Ko_ n x1_12 x3_12 vGo_12 → W p l e ({ frames := 2, cells := 0, slots := 0, locals := 41 } : Room) s m (([.ref aG] : List Value).toArray) below meth c H locs 0 0 Qg (F0 m 12 ls []) := by
        intro K_ Ko_ hk n
        induction n with
        | zero => intro x1_12 x3_12 vGo_12 H locs ls hP hD hS hl hres ho; exact ho.elim
        | succ n ih =>
          intro x1_12 x3_12 vGo_12 H locs ls hP hD hS hl hres ho
          rw [l_G_orderBySteps_12, s_G_orderBySteps_12] at hres
          rw [ol_G_orderBySteps_12, os_G_orderBySteps_12] at ho
          refine lv_iload_n hx hb qd_G_orderBySteps_12 rfl (lv_at hl 0 rfl) ?_
          refine lv_aload_n hx hb qd_G_orderBySteps_13 rfl (lv_at hl 3 rfl) ?_
          refine va_get (D := (dC, dI)) (ci := 2) (v := .int vGS) (C := qR_G) (T := qT_G) (N := 7) hx hb hg qi_G hown hK hP 0 rfl rfl 6 (by decide) (hg _ mw_38) (fun _ h9 => h9) rfl qd_G_orderBySteps_14 ?_
          refine lv_icmp_ge (tgt := 71) hx hb qd_G_orderBySteps_17 (by decide) (fun c_17 => ?_) (fun c_17 => ?_)
          · have hres := hres.trans (if_pos c_17)
            have ho := (if_pos c_17).mp ho
            exact hk x1_12 x3_12 vGo_12 H locs ls hP hD hS (lv_sub hl [0, 1, 2, 3] rfl) hres ho
          have hres := hres.trans (if_neg c_17)
          have ho := (if_neg c_17).mp ho
          refine lv_aload_n hx hb qd_G_orderBySteps_20 rfl (lv_at hl 3 rfl) ?_
          refine lv_aload_n hx hb qd_G_orderBySteps_21 rfl (lv_at hl 3 rfl) ?_
          refine va_get (D := (dC, dI)) (ci := 2) (v := .ref aGh) (C := qR_G) (T := qT_G) (N := 7) hx hb hg qi_G hown hK hP 0 rfl rfl 0 (by decide) (hg _ mw_32) (fun _ h9 => h9) rfl qd_G_orderBySteps_22 ?_
          refine lv_iload_n hx hb qd_G_orderBySteps_25 rfl (lv_at hl 0 rfl) ?_
          obtain ⟨g_26, ho⟩ := ho
          refine va_iald hx hb hK hP 1 0 rfl rfl g_26 qd_G_orderBySteps_26 ?_
          obtain ⟨g_27, ho⟩ := ho
          refine xc_V (As := [.int (vGh x3_12.toNatClampNeg)]) (rest := []) ⟨hx, hb, hml, hown, hg⟩ (c_G_reachedFrom l dC dI cA aG aGh aGi aGc aGo aGr vGF vGS vGr (vGh x3_12.toNatClampNeg) g_27) (cwV 1 hg (q_gV mw_258 mw_259 mw_744 mw_2 mw_260) rfl rfl rfl qh_G_reachedFrom ⟨Nat.le_of_ble_eq_true rfl, Nat.le_of_ble_eq_true rfl⟩) hN hK hP [0, 3] rfl 0 2 rfl rfl rfl hl.1 rfl (Nat.le_of_ble_eq_true rfl) qd_G_orderBySteps_27 ⟨Nat.zero_le _, Nat.zero_le _⟩ ?_
          refine lv_topi (fun r_27 w_27 => ?_)
          have hres := hres.trans (bd_eq w_27)
          have ho := (bd_eq w_27).mp ho
          refine xc_S (As := [.int r_27]) (rest := []) ⟨hx, hb, hml, hown, hg⟩ (c_J_bitCount l dC dI cA r_27) (va_cwS 1 hg (q_gS mw_287 mw_288 mw_16 mw_289) rfl rfl rfl qh_J_bitCount.2 ⟨Nat.le_of_ble_eq_true rfl, Nat.le_of_ble_eq_true rfl⟩) hN hK hP [] rfl rfl hl.1 rfl (Nat.le_of_ble_eq_true rfl) qd_G_orderBySteps_30 ⟨Nat.zero_le _, Nat.zero_le _⟩ ?_
          refine lv_topi (fun r_30 w_30 => ?_)
          have hres := hres.trans (bd_eq w_30)
          have ho := (bd_eq w_30).mp ho
          refine lv_iload_n hx hb qd_G_orderBySteps_33 rfl (lv_at hl 1 rfl) ?_
          refine lv_icmp_ne (tgt := 41) hx hb qd_G_orderBySteps_34 (by decide) (fun c_34 => ?_) (fun c_34 => ?_)
          · have hres := hres.trans (if_neg c_34)
            have ho := (if_neg c_34).mp ho
            refine lv_iconst (v := 0) hx hb qd_G_orderBySteps_41 (by decide) ?_
            refine lv_istore (lv' := [(4, .int 0), (3, .int x3_12), (2, .int x2_4), (1, .int x1_12), (0, .ref aG)]) hx hb qd_G_orderBySteps_42 hl (by decide) rfl (fun ls hl => ?_)
            refine lv_iload hx hb qd_G_orderBySteps_44 (lv_at hl 0 rfl) ?_
            refine lv_if_eq (tgt := 65) hx hb qd_G_orderBySteps_46 (by decide) (fun c_46 => ?_) (fun c_46 => ?_)
            rotate_left
            · exact absurd (by decide) c_46
            refine lv_iinc (v := x3_12 + 1) (lv' := [(3, .int (x3_12 + 1)), (4, .int 0), (2, .int x2_4), (1, .int x1_12), (0, .ref aG)]) hx hb qd_G_orderBySteps_65 hl (k := 1) rfl (congrArg (fun z => _ + z) (by decide)) (by decide) rfl (fun ls hl => ?_)
            refine lv_goto (tgt := 12) hx hb qd_G_orderBySteps_68 (by decide) ?_
            exact ih x1_12 (x3_12 + 1) vGo_12 H locs ls hP hD hS (lv_sub hl [0, 2, 3, 4] rfl) hres ho
          have hres := hres.trans (if_pos c_34)
          have ho := (if_pos c_34).mp ho
          refine lv_iconst (v := 1) hx hb qd_G_orderBySteps_37 (by decide) ?_
          refine lv_goto (tgt := 42) hx hb qd_G_orderBySteps_38 (by decide) ?_
          refine lv_istore (lv' := [(4, .int 1), (3, .int x3_12), (2, .int x2_4), (1, .int x1_12), (0, .ref aG)]) hx hb qd_G_orderBySteps_42 hl (by decide) rfl (fun ls hl => ?_)
          refine lv_iload hx hb qd_G_orderBySteps_44 (lv_at hl 0 rfl) ?_
          refine lv_if_eq (tgt := 65) hx hb qd_G_orderBySteps_46 (by decide) (fun c_46 => ?_) (fun c_46 => ?_)
          · exact absurd c_46 (by decide)
          refine lv_iload_n hx hb qd_G_orderBySteps_49 rfl (lv_at hl 3 rfl) ?_
          refine lv_bipush (v := 24) hx hb qd_G_orderBySteps_50 (by decide) ?_
          refine lv_icmp_ge (tgt := 65) hx hb qd_G_orderBySteps_52 (by decide) (fun c_52 => ?_) (fun c_52 => ?_)
          · have hres := hres.trans (if_pos c_52)
            have ho := (if_pos c_52).mp ho
            refine lv_iinc (v := x3_12 + 1) (lv' := [(3, .int (x3_12 + 1)), (4, .int 1), (2, .int x2_4), (1, .int x1_12), (0, .ref aG)]) hx hb qd_G_orderBySteps_65 hl (k := 1) rfl (congrArg (fun z => _ + z) (by decide)) (by decide) rfl (fun ls hl => ?_)
            refine lv_goto (tgt := 12) hx hb qd_G_orderBySteps_68 (by decide) ?_
            exact ih x1_12 (x3_12 + 1) vGo_12 H locs ls hP hD hS (lv_sub hl [0, 2, 3, 4] rfl) hres ho
          have hres := hres.trans (if_neg c_52)
          have ho := (if_neg c_52).mp ho
          refine lv_aload_n hx hb qd_G_orderBySteps_55 rfl (lv_at hl 4 rfl) ?_
          refine va_get (D := (dC, dI)) (ci := 2) (v := .ref aGo) (C := qR_G) (T := qT_G) (N := 7) hx hb hg qi_G hown hK hP 0 rfl rfl 3 (by decide) (hg _ mw_35) (fun _ h9 => h9) rfl qd_G_orderBySteps_56 ?_
          refine lv_iload_n hx hb qd_G_orderBySteps_59 rfl (lv_at hl 3 rfl) ?_
          refine lv_iload_n hx hb qd_G_orderBySteps_60 rfl (lv_at hl 1 rfl) ?_
          obtain ⟨g_61, ho⟩ := ho
          refine va_iast hx hb hK hP hD hS 2 0 rfl rfl g_61 qd_G_orderBySteps_61 (fun H locs hP hD hS => ?_)
          have hP : va_P (dC, dI) vwCl [(aG, .inr (2, [.ref aGh, .ref aGi, .ref aGc, .ref aGo, .ref aGr, .int vGF, .int vGS])), (aGh, .inl (cA, 24, .inl (vGh))), (aGo, .inl (cA, 24, .inl (upd vGo_12 x1_12.toNatClampNeg x3_12))), (aGr, .inl (cA, 10, .inl (vGr)))] H := hP
          have hD : va_D A [(aG, .inr (2, [.ref aGh, .ref aGi, .ref aGc, .ref aGo, .ref aGr, .int vGF, .int vGS])), (aGh, .inl (cA, 24, .inl (vGh))), (aGo, .inl (cA, 24, .inl (upd vGo_12 x1_12.toNatClampNeg x3_12))), (aGr, .inl (cA, 10, .inl (vGr)))] := hD
          refine lv_iinc (v := x1_12 + 1) (lv' := [(1, .int (x1_12 + 1)), (4, .int 1), (3, .int x3_12), (2, .int x2_4), (0, .ref aG)]) hx hb qd_G_orderBySteps_62 hl (k := 3) rfl (congrArg (fun z => _ + z) (by decide)) (by decide) rfl (fun ls hl => ?_)
          refine lv_iinc (v := x3_12 + 1) (lv' := [(3, .int (x3_12 + 1)), (1, .int (x1_12 + 1)), (4, .int 1), (2, .int x2_4), (0, .ref aG)]) hx hb qd_G_orderBySteps_65 hl (k := 2) rfl (congrArg (fun z => _ + z) (by decide)) (by decide) rfl (fun ls hl => ?_)
          refine lv_goto (tgt := 12) hx hb qd_G_orderBySteps_68 (by decide) ?_
          exact ih (x1_12 + 1) (x3_12 + 1) (upd vGo_12 x1_12.toNatClampNeg x3_12) H locs ls hP hD hS (lv_sub hl [0, 3, 1, 4] rfl) hres ho
      refine L_12 _ _ (fun x1_12 x3_12 vGo_12 H locs ls hP hD hS hl hres ho => ?_) _ _ _ _ _ _ ls hP hD hS hl hres ho
      refine lv_iinc (v := x2_4 + 1) (lv' := [(2, .int (x2_4 + 1)), (3, .int x3_12), (1, .int x1_12), (0, .ref aG)]) hx hb qd_G_orderBySteps_71 hl (k := 1) rfl (congrArg (fun z => _ + z) (by decide)) (by decide) rfl (fun ls hl => ?_)
      refine lv_goto (tgt := 4) hx hb qd_G_orderBySteps_74 (by decide) ?_
      exact ih x1_12 (x2_4 + 1) vGo_12 H locs ls hP hD hS (lv_sub hl [0, 2, 3] rfl) hres ho
  refine L_4 _ _ (fun x1_4 x2_4 vGo_4 H locs ls hP hD hS hl hres ho => ?_) _ _ _ _ _ _ ls hP hD hS hl hres ho
  subst hQ
  exact W.vret hx hb hr (fun t ht hW => ⟨⟨vGo_4, rfl, hres.symm, ⟨by rw [ht]; exact hP, va_K.moved hW.alike hK, x_N hN hW⟩, hD⟩, hS.F ht⟩) hS.2.2 qd_G_orderBySteps_77
theorem qd_G_isFertile_0 : decode qc_G_isFertile 0 = .ok (.iload_n 1, 1) := by decide +kernel
theorem qd_G_isFertile_1 : decode qc_G_isFertile 1 = .ok (.invokestatic 75, 3) := by decide +kernel
theorem qd_G_isFertile_4 : decode qc_G_isFertile 4 = .ok (.ifCond .eq 14, 3) := by decide +kernel
theorem qd_G_isFertile_7 : decode qc_G_isFertile 7 = .ok (.aload_n 0, 1) := by decide +kernel
theorem qd_G_isFertile_8 : decode qc_G_isFertile 8 = .ok (.getfield 27, 3) := by decide +kernel
theorem qd_G_isFertile_11 : decode qc_G_isFertile 11 = .ok (.iload_n 1, 1) := by decide +kernel
theorem qd_G_isFertile_12 : decode qc_G_isFertile 12 = .ok (.invokestatic 38, 3) := by decide +kernel
theorem qd_G_isFertile_15 : decode qc_G_isFertile 15 = .ok (.ifCond .eq 7, 3) := by decide +kernel
theorem qd_G_isFertile_18 : decode qc_G_isFertile 18 = .ok (.iconst 1, 1) := by decide +kernel
theorem qd_G_isFertile_19 : decode qc_G_isFertile 19 = .ok (.goto 4, 3) := by decide +kernel
theorem qd_G_isFertile_22 : decode qc_G_isFertile 22 = .ok (.iconst 0, 1) := by decide +kernel
theorem qd_G_isFertile_23 : decode qc_G_isFertile 23 = .ok (.ireturn, 1) := by decide +kernel
set_option maxHeartbeats 4000000 in
set_option maxRecDepth 100000 in
theorem c_G_isFertile (l : Launch) (dC : Nat → ClassId) (dI : Nat → Nat → Nat) (cA : ClassId) (aG aGh aGi aGc aGo aGr : Nat) (vGF : Int32) (vGS : Int32) (p0 : Int32) : Met l qy_G_isFertile qw_G_isFertile ({ frames := 1, cells := 0, slots := 0, locals := 21 }) (va_Pc [.ref aG, .int p0] (xP (dC, dI) [(cA, .int)] [(aG, .inr (2, [.ref aGh, .ref aGi, .ref aGc, .ref aGo, .ref aGr, .int vGF, .int vGS]))] nestN)) (vp_Si (fun r => r = f_G_isFertile vGF p0)) 0 0 (fun _ => False) := by
  refine Met.ofW (cc := qc_G_isFertile) (maxL := 2) (ret := (some .boolean)) (by decide) rfl ?_
  intro p e s m args below meth c s₁ B hml hv
  obtain ⟨rfl, hP, hK, hN⟩ := hv
  have hx := B.exec
  have hb := B.bytes
  have hr := B.returns
  have hts := atoms_spec (ws := qw_G_isFertile) B.pre
  have hg : ∀ w ∈ gG, w.before _ s = true := fun w h => hts w (List.mem_cons_of_mem _ h)
  have hown : s.vm.findClass qR_G = some m.cls := findClass_of_methodNamed B.named
  have hlocks := B.notSynchronized
  have hP : va_P (dC, dI) vwCl [(aG, .inr (2, [.ref aGh, .ref aGi, .ref aGc, .ref aGo, .ref aGr, .int vGF, .int vGS]))] s.heap := hP
  have hl := lv_entry ([.ref aG, .int p0]) (n := 2) (Nat.le_of_ble_eq_true rfl)
  rw [lg_entry_eq]
  generalize (lg_sl ([.ref aG, .int p0]) ++ List.replicate (2 - (lg_sl ([.ref aG, .int p0])).length) Slot.unset).toArray = ls at hl ⊢
  have hl : lv_has ls 2 [(0, .ref aG), (1, .int p0)] := hl
  generalize hF : f_G_isFertile vGF p0 = Fv
  have hres : Fv = f_G_isFertile vGF p0 := hF.symm
  unfold f_G_isFertile at hres
  refine lv_iload_n hx hb qd_G_isFertile_0 rfl (lv_at hl 1 rfl) ?_
  refine xc_N (As := [.int p0]) (rest := []) ⟨hx, hb, hml, hown, hg⟩ (c_H_isSymbol l dC dI cA p0) (⟨va_cnB 1 hg (q_gC mw_180) rfl rfl rfl (hN _ nw_3) (hg _ mw_1) qh_H_isSymbol.2 ⟨Nat.le_of_ble_eq_true rfl, Nat.le_of_ble_eq_true rfl⟩, hg _ mw_179, trivial⟩) hN hK hP [] rfl rfl hl.1 rfl (Nat.le_of_ble_eq_true rfl) qd_G_isFertile_1 ⟨Nat.zero_le _, Nat.zero_le _⟩ ?_
  refine lv_topi (fun r_1 w_1 => ?_)
  have hres := hres.trans (bd_eq w_1)
  refine lv_if_eq (tgt := 18) hx hb qd_G_isFertile_4 (by decide) (fun c_4 => ?_) (fun c_4 => ?_)
  · have hres := hres.trans (if_pos c_4)
    refine lv_iconst (v := 1) hx hb qd_G_isFertile_18 (by decide) ?_
    refine lv_goto (tgt := 23) hx hb qd_G_isFertile_19 (by decide) ?_
    exact W.zret (v := 1) (ty := .boolean) hx hb hr (by decide) (fun t ht hW => ⟨_, rfl, hres.symm, ht⟩) (fun _ h => nomatch h) qd_G_isFertile_23
  have hres := hres.trans (if_neg c_4)
  refine lv_aload_n hx hb qd_G_isFertile_7 rfl (lv_at hl 0 rfl) ?_
  refine va_get (D := (dC, dI)) (ci := 2) (v := .int vGF) (C := qR_G) (T := qT_G) (N := 7) hx hb hg qi_G hown hK hP 0 rfl rfl 5 (by decide) (hg _ mw_37) (fun _ h9 => h9) rfl qd_G_isFertile_8 ?_
  refine lv_iload_n hx hb qd_G_isFertile_11 rfl (lv_at hl 1 rfl) ?_
  refine xc_N (As := [.int vGF, .int p0]) (rest := []) ⟨hx, hb, hml, hown, hg⟩ (c_H_has l dC dI cA vGF p0) (⟨va_cnB 2 hg (q_gC mw_262) rfl rfl rfl (hN _ nw_4) (hg _ mw_1) qh_H_has.2 ⟨Nat.le_of_ble_eq_true rfl, Nat.le_of_ble_eq_true rfl⟩, hg _ mw_261, trivial⟩) hN hK hP [] rfl rfl hl.1 rfl (Nat.le_of_ble_eq_true rfl) qd_G_isFertile_12 ⟨Nat.zero_le _, Nat.zero_le _⟩ ?_
  refine lv_topi (fun r_12 w_12 => ?_)
  have hres := hres.trans (bd_eq w_12)
  refine lv_if_eq (tgt := 22) hx hb qd_G_isFertile_15 (by decide) (fun c_15 => ?_) (fun c_15 => ?_)
  · have hres := hres.trans (if_pos c_15)
    refine lv_iconst (v := 0) hx hb qd_G_isFertile_22 (by decide) ?_
    exact W.zret (v := 0) (ty := .boolean) hx hb hr (by decide) (fun t ht hW => ⟨_, rfl, hres.symm, ht⟩) (fun _ h => nomatch h) qd_G_isFertile_23
  have hres := hres.trans (if_neg c_15)
  refine lv_iconst (v := 1) hx hb qd_G_isFertile_18 (by decide) ?_
  refine lv_goto (tgt := 23) hx hb qd_G_isFertile_19 (by decide) ?_
  exact W.zret (v := 1) (ty := .boolean) hx hb hr (by decide) (fun t ht hW => ⟨_, rfl, hres.symm, ht⟩) (fun _ h => nomatch h) qd_G_isFertile_23
theorem qd_G_isUsable_0 : decode qc_G_isUsable 0 = .ok (.aload_n 0, 1) := by decide +kernel
theorem qd_G_isUsable_1 : decode qc_G_isUsable 1 = .ok (.aload_n 0, 1) := by decide +kernel
theorem qd_G_isUsable_2 : decode qc_G_isUsable 2 = .ok (.iload_n 1, 1) := by decide +kernel
theorem qd_G_isUsable_3 : decode qc_G_isUsable 3 = .ok (.iconst 0, 1) := by decide +kernel
theorem qd_G_isUsable_4 : decode qc_G_isUsable 4 = .ok (.invokevirtual 68, 3) := by decide +kernel
theorem qd_G_isUsable_7 : decode qc_G_isUsable 7 = .ok (.invokevirtual 72, 3) := by decide +kernel
theorem qd_G_isUsable_10 : decode qc_G_isUsable 10 = .ok (.ifCond .eq 33, 3) := by decide +kernel
theorem qd_G_isUsable_13 : decode qc_G_isUsable 13 = .ok (.aload_n 0, 1) := by decide +kernel
theorem qd_G_isUsable_14 : decode qc_G_isUsable 14 = .ok (.aload_n 0, 1) := by decide +kernel
theorem qd_G_isUsable_15 : decode qc_G_isUsable 15 = .ok (.iload_n 1, 1) := by decide +kernel
theorem qd_G_isUsable_16 : decode qc_G_isUsable 16 = .ok (.iconst 1, 1) := by decide +kernel
theorem qd_G_isUsable_17 : decode qc_G_isUsable 17 = .ok (.invokevirtual 68, 3) := by decide +kernel
theorem qd_G_isUsable_20 : decode qc_G_isUsable 20 = .ok (.invokevirtual 72, 3) := by decide +kernel
theorem qd_G_isUsable_23 : decode qc_G_isUsable 23 = .ok (.ifCond .eq 20, 3) := by decide +kernel
theorem qd_G_isUsable_26 : decode qc_G_isUsable 26 = .ok (.aload_n 0, 1) := by decide +kernel
theorem qd_G_isUsable_27 : decode qc_G_isUsable 27 = .ok (.aload_n 0, 1) := by decide +kernel
theorem qd_G_isUsable_28 : decode qc_G_isUsable 28 = .ok (.iload_n 1, 1) := by decide +kernel
theorem qd_G_isUsable_29 : decode qc_G_isUsable 29 = .ok (.iconst 2, 1) := by decide +kernel
theorem qd_G_isUsable_30 : decode qc_G_isUsable 30 = .ok (.invokevirtual 68, 3) := by decide +kernel
theorem qd_G_isUsable_33 : decode qc_G_isUsable 33 = .ok (.invokevirtual 72, 3) := by decide +kernel
theorem qd_G_isUsable_36 : decode qc_G_isUsable 36 = .ok (.ifCond .eq 7, 3) := by decide +kernel
theorem qd_G_isUsable_39 : decode qc_G_isUsable 39 = .ok (.iconst 1, 1) := by decide +kernel
theorem qd_G_isUsable_40 : decode qc_G_isUsable 40 = .ok (.goto 4, 3) := by decide +kernel
theorem qd_G_isUsable_43 : decode qc_G_isUsable 43 = .ok (.iconst 0, 1) := by decide +kernel
theorem qd_G_isUsable_44 : decode qc_G_isUsable 44 = .ok (.ireturn, 1) := by decide +kernel
set_option maxHeartbeats 4000000 in
set_option maxRecDepth 100000 in
theorem c_G_isUsable (l : Launch) (dC : Nat → ClassId) (dI : Nat → Nat → Nat) (cA : ClassId) (aG aGh aGi aGc aGo aGr : Nat) (vGF : Int32) (vGS : Int32) (vGi : (Nat → Int32)) (p0 : Int32) (ho : o_G_isUsable vGF vGS vGi p0) : Met l qy_G_isUsable qw_G_isUsable ({ frames := 2, cells := 0, slots := 0, locals := 42 }) (va_Pc [.ref aG, .int p0] (xP (dC, dI) [(cA, .int)] [(aG, .inr (2, [.ref aGh, .ref aGi, .ref aGc, .ref aGo, .ref aGr, .int vGF, .int vGS])), (aGi, .inl (cA, 72, .inl (vGi)))] nestN)) (vp_Si (fun r => r = f_G_isUsable vGF vGS vGi p0)) 0 0 (fun _ => False) := by
  refine Met.ofW (cc := qc_G_isUsable) (maxL := 2) (ret := (some .boolean)) (by decide) rfl ?_
  intro p e s m args below meth c s₁ B hml hv
  obtain ⟨rfl, hP, hK, hN⟩ := hv
  have hx := B.exec
  have hb := B.bytes
  have hr := B.returns
  have hts := atoms_spec (ws := qw_G_isUsable) B.pre
  have hg : ∀ w ∈ gG, w.before _ s = true := fun w h => hts w (List.mem_cons_of_mem _ h)
  have hown : s.vm.findClass qR_G = some m.cls := findClass_of_methodNamed B.named
  have hlocks := B.notSynchronized
  have hP : va_P (dC, dI) vwCl [(aG, .inr (2, [.ref aGh, .ref aGi, .ref aGc, .ref aGo, .ref aGr, .int vGF, .int vGS])), (aGi, .inl (cA, 72, .inl (vGi)))] s.heap := hP
  have hl := lv_entry ([.ref aG, .int p0]) (n := 2) (Nat.le_of_ble_eq_true rfl)
  rw [lg_entry_eq]
  generalize (lg_sl ([.ref aG, .int p0]) ++ List.replicate (2 - (lg_sl ([.ref aG, .int p0])).length) Slot.unset).toArray = ls at hl ⊢
  have hl : lv_has ls 2 [(0, .ref aG), (1, .int p0)] := hl
  generalize hF : f_G_isUsable vGF vGS vGi p0 = Fv
  have hres : Fv = f_G_isUsable vGF vGS vGi p0 := hF.symm
  unfold f_G_isUsable at hres
  unfold o_G_isUsable at ho
  refine lv_aload_n hx hb qd_G_isUsable_0 rfl (lv_at hl 0 rfl) ?_
  refine lv_aload_n hx hb qd_G_isUsable_1 rfl (lv_at hl 0 rfl) ?_
  refine lv_iload_n hx hb qd_G_isUsable_2 rfl (lv_at hl 1 rfl) ?_
  refine lv_iconst (v := 0) hx hb qd_G_isUsable_3 (by decide) ?_
  obtain ⟨g_4, ho⟩ := ho
  refine xc_V (As := [.int p0, .int 0]) (rest := [.ref aG]) ⟨hx, hb, hml, hown, hg⟩ (c_G_item l dC dI cA aG aGh aGi aGc aGo aGr vGF vGS vGi p0 0 g_4) (cwV 2 hg (q_gV mw_300 mw_301 mw_302 mw_2 mw_303) rfl rfl rfl qh_G_item ⟨Nat.le_of_ble_eq_true rfl, Nat.le_of_ble_eq_true rfl⟩) hN hK hP [0, 1] rfl 0 2 rfl rfl rfl hl.1 rfl (Nat.le_of_ble_eq_true rfl) qd_G_isUsable_4 ⟨Nat.zero_le _, Nat.zero_le _⟩ ?_
  refine lv_topi (fun r_4 w_4 => ?_)
  have hres := hres.trans (bd_eq w_4)
  have ho := (bd_eq w_4).mp ho
  refine xc_V (As := [.int r_4]) (rest := []) ⟨hx, hb, hml, hown, hg⟩ (c_G_isFertile l dC dI cA aG aGh aGi aGc aGo aGr vGF vGS r_4) (cwV 1 hg (q_gV mw_304 mw_305 mw_748 mw_2 mw_306) rfl rfl rfl qh_G_isFertile ⟨Nat.le_of_ble_eq_true rfl, Nat.le_of_ble_eq_true rfl⟩) hN hK hP [0] rfl 0 2 rfl rfl rfl hl.1 rfl (Nat.le_of_ble_eq_true rfl) qd_G_isUsable_7 ⟨Nat.zero_le _, Nat.zero_le _⟩ ?_
  refine lv_topi (fun r_7 w_7 => ?_)
  have hres := hres.trans (bd_eq w_7)
  have ho := (bd_eq w_7).mp ho
  refine lv_if_eq (tgt := 43) hx hb qd_G_isUsable_10 (by decide) (fun c_10 => ?_) (fun c_10 => ?_)
  · have hres := hres.trans (if_pos c_10)
    have ho := (if_pos c_10).mp ho
    refine lv_iconst (v := 0) hx hb qd_G_isUsable_43 (by decide) ?_
    exact W.zret (v := 0) (ty := .boolean) hx hb hr (by decide) (fun t ht hW => ⟨_, rfl, hres.symm, ht⟩) (fun _ h => nomatch h) qd_G_isUsable_44
  have hres := hres.trans (if_neg c_10)
  have ho := (if_neg c_10).mp ho
  refine lv_aload_n hx hb qd_G_isUsable_13 rfl (lv_at hl 0 rfl) ?_
  refine lv_aload_n hx hb qd_G_isUsable_14 rfl (lv_at hl 0 rfl) ?_
  refine lv_iload_n hx hb qd_G_isUsable_15 rfl (lv_at hl 1 rfl) ?_
  refine lv_iconst (v := 1) hx hb qd_G_isUsable_16 (by decide) ?_
  obtain ⟨g_17, ho⟩ := ho
  refine xc_V (As := [.int p0, .int 1]) (rest := [.ref aG]) ⟨hx, hb, hml, hown, hg⟩ (c_G_item l dC dI cA aG aGh aGi aGc aGo aGr vGF vGS vGi p0 1 g_17) (cwV 2 hg (q_gV mw_300 mw_301 mw_302 mw_2 mw_303) rfl rfl rfl qh_G_item ⟨Nat.le_of_ble_eq_true rfl, Nat.le_of_ble_eq_true rfl⟩) hN hK hP [0, 1] rfl 0 2 rfl rfl rfl hl.1 rfl (Nat.le_of_ble_eq_true rfl) qd_G_isUsable_17 ⟨Nat.zero_le _, Nat.zero_le _⟩ ?_
  refine lv_topi (fun r_17 w_17 => ?_)
  have hres := hres.trans (bd_eq w_17)
  have ho := (bd_eq w_17).mp ho
  refine xc_V (As := [.int r_17]) (rest := []) ⟨hx, hb, hml, hown, hg⟩ (c_G_isFertile l dC dI cA aG aGh aGi aGc aGo aGr vGF vGS r_17) (cwV 1 hg (q_gV mw_304 mw_305 mw_748 mw_2 mw_306) rfl rfl rfl qh_G_isFertile ⟨Nat.le_of_ble_eq_true rfl, Nat.le_of_ble_eq_true rfl⟩) hN hK hP [0] rfl 0 2 rfl rfl rfl hl.1 rfl (Nat.le_of_ble_eq_true rfl) qd_G_isUsable_20 ⟨Nat.zero_le _, Nat.zero_le _⟩ ?_
  refine lv_topi (fun r_20 w_20 => ?_)
  have hres := hres.trans (bd_eq w_20)
  have ho := (bd_eq w_20).mp ho
  refine lv_if_eq (tgt := 43) hx hb qd_G_isUsable_23 (by decide) (fun c_23 => ?_) (fun c_23 => ?_)
  · have hres := hres.trans (if_pos c_23)
    have ho := (if_pos c_23).mp ho
    refine lv_iconst (v := 0) hx hb qd_G_isUsable_43 (by decide) ?_
    exact W.zret (v := 0) (ty := .boolean) hx hb hr (by decide) (fun t ht hW => ⟨_, rfl, hres.symm, ht⟩) (fun _ h => nomatch h) qd_G_isUsable_44
  have hres := hres.trans (if_neg c_23)
  have ho := (if_neg c_23).mp ho
  refine lv_aload_n hx hb qd_G_isUsable_26 rfl (lv_at hl 0 rfl) ?_
  refine lv_aload_n hx hb qd_G_isUsable_27 rfl (lv_at hl 0 rfl) ?_
  refine lv_iload_n hx hb qd_G_isUsable_28 rfl (lv_at hl 1 rfl) ?_
  refine lv_iconst (v := 2) hx hb qd_G_isUsable_29 (by decide) ?_
  obtain ⟨g_30, ho⟩ := ho
  refine xc_V (As := [.int p0, .int 2]) (rest := [.ref aG]) ⟨hx, hb, hml, hown, hg⟩ (c_G_item l dC dI cA aG aGh aGi aGc aGo aGr vGF vGS vGi p0 2 g_30) (cwV 2 hg (q_gV mw_300 mw_301 mw_302 mw_2 mw_303) rfl rfl rfl qh_G_item ⟨Nat.le_of_ble_eq_true rfl, Nat.le_of_ble_eq_true rfl⟩) hN hK hP [0, 1] rfl 0 2 rfl rfl rfl hl.1 rfl (Nat.le_of_ble_eq_true rfl) qd_G_isUsable_30 ⟨Nat.zero_le _, Nat.zero_le _⟩ ?_
  refine lv_topi (fun r_30 w_30 => ?_)
  have hres := hres.trans (bd_eq w_30)
  have ho := (bd_eq w_30).mp ho
  refine xc_V (As := [.int r_30]) (rest := []) ⟨hx, hb, hml, hown, hg⟩ (c_G_isFertile l dC dI cA aG aGh aGi aGc aGo aGr vGF vGS r_30) (cwV 1 hg (q_gV mw_304 mw_305 mw_748 mw_2 mw_306) rfl rfl rfl qh_G_isFertile ⟨Nat.le_of_ble_eq_true rfl, Nat.le_of_ble_eq_true rfl⟩) hN hK hP [0] rfl 0 2 rfl rfl rfl hl.1 rfl (Nat.le_of_ble_eq_true rfl) qd_G_isUsable_33 ⟨Nat.zero_le _, Nat.zero_le _⟩ ?_
  refine lv_topi (fun r_33 w_33 => ?_)
  have hres := hres.trans (bd_eq w_33)
  have ho := (bd_eq w_33).mp ho
  refine lv_if_eq (tgt := 43) hx hb qd_G_isUsable_36 (by decide) (fun c_36 => ?_) (fun c_36 => ?_)
  · have hres := hres.trans (if_pos c_36)
    have ho := (if_pos c_36).mp ho
    refine lv_iconst (v := 0) hx hb qd_G_isUsable_43 (by decide) ?_
    exact W.zret (v := 0) (ty := .boolean) hx hb hr (by decide) (fun t ht hW => ⟨_, rfl, hres.symm, ht⟩) (fun _ h => nomatch h) qd_G_isUsable_44
  have hres := hres.trans (if_neg c_36)
  have ho := (if_neg c_36).mp ho
  refine lv_iconst (v := 1) hx hb qd_G_isUsable_39 (by decide) ?_
  refine lv_goto (tgt := 44) hx hb qd_G_isUsable_40 (by decide) ?_
  exact W.zret (v := 1) (ty := .boolean) hx hb hr (by decide) (fun t ht hW => ⟨_, rfl, hres.symm, ht⟩) (fun _ h => nomatch h) qd_G_isUsable_44
theorem qd_G_learnFertile_0 : decode qc_G_learnFertile 0 = .ok (.iconst 0, 1) := by decide +kernel
theorem qd_G_learnFertile_1 : decode qc_G_learnFertile 1 = .ok (.istore_n 1, 1) := by decide +kernel
theorem qd_G_learnFertile_2 : decode qc_G_learnFertile 2 = .ok (.iload_n 1, 1) := by decide +kernel
theorem qd_G_learnFertile_3 : decode qc_G_learnFertile 3 = .ok (.bipush 10, 2) := by decide +kernel
theorem qd_G_learnFertile_5 : decode qc_G_learnFertile 5 = .ok (.if_icmp .ge 50, 3) := by decide +kernel
theorem qd_G_learnFertile_8 : decode qc_G_learnFertile 8 = .ok (.iconst 0, 1) := by decide +kernel
theorem qd_G_learnFertile_9 : decode qc_G_learnFertile 9 = .ok (.istore_n 2, 1) := by decide +kernel
theorem qd_G_learnFertile_10 : decode qc_G_learnFertile 10 = .ok (.iload_n 2, 1) := by decide +kernel
theorem qd_G_learnFertile_11 : decode qc_G_learnFertile 11 = .ok (.aload_n 0, 1) := by decide +kernel
theorem qd_G_learnFertile_12 : decode qc_G_learnFertile 12 = .ok (.getfield 31, 3) := by decide +kernel
theorem qd_G_learnFertile_15 : decode qc_G_learnFertile 15 = .ok (.if_icmp .ge 34, 3) := by decide +kernel
theorem qd_G_learnFertile_18 : decode qc_G_learnFertile 18 = .ok (.aload_n 0, 1) := by decide +kernel
theorem qd_G_learnFertile_19 : decode qc_G_learnFertile 19 = .ok (.iload_n 2, 1) := by decide +kernel
theorem qd_G_learnFertile_20 : decode qc_G_learnFertile 20 = .ok (.invokevirtual 64, 3) := by decide +kernel
theorem qd_G_learnFertile_23 : decode qc_G_learnFertile 23 = .ok (.ifCond .eq 20, 3) := by decide +kernel
theorem qd_G_learnFertile_26 : decode qc_G_learnFertile 26 = .ok (.aload_n 0, 1) := by decide +kernel
theorem qd_G_learnFertile_27 : decode qc_G_learnFertile 27 = .ok (.dup, 1) := by decide +kernel
theorem qd_G_learnFertile_28 : decode qc_G_learnFertile 28 = .ok (.getfield 27, 3) := by decide +kernel
theorem qd_G_learnFertile_31 : decode qc_G_learnFertile 31 = .ok (.iconst 1, 1) := by decide +kernel
theorem qd_G_learnFertile_32 : decode qc_G_learnFertile 32 = .ok (.aload_n 0, 1) := by decide +kernel
theorem qd_G_learnFertile_33 : decode qc_G_learnFertile 33 = .ok (.getfield 9, 3) := by decide +kernel
theorem qd_G_learnFertile_36 : decode qc_G_learnFertile 36 = .ok (.iload_n 2, 1) := by decide +kernel
theorem qd_G_learnFertile_37 : decode qc_G_learnFertile 37 = .ok (.iaload, 1) := by decide +kernel
theorem qd_G_learnFertile_38 : decode qc_G_learnFertile 38 = .ok (.ishl, 1) := by decide +kernel
theorem qd_G_learnFertile_39 : decode qc_G_learnFertile 39 = .ok (.ior, 1) := by decide +kernel
theorem qd_G_learnFertile_40 : decode qc_G_learnFertile 40 = .ok (.putfield 27, 3) := by decide +kernel
theorem qd_G_learnFertile_43 : decode qc_G_learnFertile 43 = .ok (.iinc 2 1, 3) := by decide +kernel
theorem qd_G_learnFertile_46 : decode qc_G_learnFertile 46 = .ok (.goto (-36), 3) := by decide +kernel
theorem qd_G_learnFertile_49 : decode qc_G_learnFertile 49 = .ok (.iinc 1 1, 3) := by decide +kernel
theorem qd_G_learnFertile_52 : decode qc_G_learnFertile 52 = .ok (.goto (-50), 3) := by decide +kernel
theorem qd_G_learnFertile_55 : decode qc_G_learnFertile 55 = .ok (.return_, 1) := by decide +kernel
set_option maxHeartbeats 4000000 in
set_option maxRecDepth 100000 in
theorem c_G_learnFertile (l : Launch) (dC : Nat → ClassId) (dI : Nat → Nat → Nat) (cA : ClassId) (N_ : Nat) (aG aGh aGi aGc aGo aGr : Nat) (sz : Nat) (vGF : Int32) (vGS : Int32) (vGh : (Nat → Int32)) (vGi : (Nat → Int32)) (ho : o_G_learnFertile N_ vGF vGS vGh vGi) : Met l qy_G_learnFertile qw_G_learnFertile ({ frames := 3, cells := 0, slots := 0, locals := 63 }) (va_Pc [.ref aG] (fun U => U.heap.size = sz ∧ xP (dC, dI) [(cA, .int)] [(aG, .inr (2, [.ref aGh, .ref aGi, .ref aGc, .ref aGo, .ref aGr, .int vGF, .int vGS])), (aGh, .inl (cA, 24, .inl (vGh))), (aGi, .inl (cA, 72, .inl (vGi)))] nestN U ∧ va_D (fun _ => True) [(aG, .inr (2, [.ref aGh, .ref aGi, .ref aGc, .ref aGo, .ref aGr, .int vGF, .int vGS])), (aGh, .inl (cA, 24, .inl (vGh))), (aGi, .inl (cA, 72, .inl (vGi)))])) (va_Qv (fun u => u = f_G_learnFertile N_ vGF vGS vGh vGi) (fun (u : Int32) t => xP (dC, dI) [(cA, .int)] [(aG, .inr (2, [.ref aGh, .ref aGi, .ref aGc, .ref aGo, .ref aGr, .int u, .int vGS])), (aGh, .inl (cA, 24, .inl (vGh))), (aGi, .inl (cA, 72, .inl (vGi)))] nestN t ∧ va_D (va_A [(aG, .inr (2, [.ref aGh, .ref aGi, .ref aGc, .ref aGo, .ref aGr, .int vGF, .int vGS])), (aGh, .inl (cA, 24, .inl (vGh))), (aGi, .inl (cA, 72, .inl (vGi)))] sz) [(aG, .inr (2, [.ref aGh, .ref aGi, .ref aGc, .ref aGo, .ref aGr, .int u, .int vGS])), (aGh, .inl (cA, 24, .inl (vGh))), (aGi, .inl (cA, 72, .inl (vGi)))]) (va_A [(aG, .inr (2, [.ref aGh, .ref aGi, .ref aGc, .ref aGo, .ref aGr, .int vGF, .int vGS])), (aGh, .inl (cA, 24, .inl (vGh))), (aGi, .inl (cA, 72, .inl (vGi)))] sz)) 0 0 (va_A [(aG, .inr (2, [.ref aGh, .ref aGi, .ref aGc, .ref aGo, .ref aGr, .int vGF, .int vGS])), (aGh, .inl (cA, 24, .inl (vGh))), (aGi, .inl (cA, 72, .inl (vGi)))] sz) := by
  refine Met.ofW (cc := qc_G_learnFertile) (maxL := 3) (ret := (none)) (by decide) rfl ?_
  intro p e s m args below meth c s₁ B hml hv
  obtain ⟨rfl, hsz, ⟨hP, hK, hN⟩, hD0⟩ := hv
  have hx := B.exec
  have hb := B.bytes
  have hr := B.returns
  have hts := atoms_spec (ws := qw_G_learnFertile) B.pre
  have hg : ∀ w ∈ gG, w.before _ s = true := fun w h => hts w (List.mem_cons_of_mem _ h)
  have hown : s.vm.findClass qR_G = some m.cls := findClass_of_methodNamed B.named
  have hlocks := B.notSynchronized
  subst hsz
  have hD := hD0.self (sz := s.heap.size)
  generalize hAe : va_A [(aG, .inr (2, [.ref aGh, .ref aGi, .ref aGc, .ref aGo, .ref aGr, .int vGF, .int vGS])), (aGh, .inl (cA, 24, .inl (vGh))), (aGi, .inl (cA, 72, .inl (vGi)))] s.heap.size = A at hD ⊢
  have hA : ∀ q : Nat, s.heap.size ≤ q → A q := fun q h => by rw [← hAe]; exact Or.inr h
  have hS : va_S A s.heap s.heap [] := va_S.rf
  have hP : va_P (dC, dI) vwCl [(aG, .inr (2, [.ref aGh, .ref aGi, .ref aGc, .ref aGo, .ref aGr, .int vGF, .int vGS])), (aGh, .inl (cA, 24, .inl (vGh))), (aGi, .inl (cA, 72, .inl (vGi)))] s.heap := hP
  have hl := lv_entry ([.ref aG]) (n := 3) (Nat.le_of_ble_eq_true rfl)
  rw [lg_entry_eq]
  generalize (lg_sl ([.ref aG]) ++ List.replicate (3 - (lg_sl ([.ref aG])).length) Slot.unset).toArray = ls at hl ⊢
  have hl : lv_has ls 3 [(0, .ref aG)] := hl
  generalize hF : f_G_learnFertile N_ vGF vGS vGh vGi = Fv
  have hres : Fv = f_G_learnFertile N_ vGF vGS vGh vGi := hF.symm
  unfold f_G_learnFertile at hres
  unfold o_G_learnFertile at ho
  generalize hQ : MQ _ _ _ _ _ _ _ = Qg
  refine lv_iconst (v := 0) hx hb qd_G_learnFertile_0 (by decide) ?_
  refine lv_istore_n (lv' := [(1, .int 0), (0, .ref aG)]) hx hb qd_G_learnFertile_1 rfl hl (by decide) rfl (fun ls hl => ?_)
  have L_2 : ∀ (K_ : Int32 → Int32 → Int32) (Ko_ : Int32 → Int32 → Prop) (hk : ∀ (x1_2 : Int32) (vGF_2 : Int32) (H : Heap) (locs : List Loc) (ls : Array Slot), va_P (dC, dI) vwCl [(aG, .inr (2, [.ref aGh, .ref aGi, .ref aGc, .ref aGo, .ref aGr, .int vGF_2, .int vGS])), (aGh, .inl (cA, 24, .inl (vGh))), (aGi, .inl (cA, 72, .inl (vGi)))] H → va_D A [(aG, .inr (2, [.ref aGh, .ref aGi, .ref aGc, .ref aGo, .ref aGr, .int vGF_2, .int vGS])), (aGh, .inl (cA, 24, .inl (vGh))), (aGi, .inl (cA, 72, .inl (vGi)))] → va_S A s.heap H locs → lv_has ls 3 [(1, .int x1_2), (0, .ref aG)] → Fv = K_ x1_2 vGF_2 → Ko_ x1_2 vGF_2 → W p l e ({ frames := 3, cells := 0, slots := 0, locals := 63 } : Room) s m (([.ref aG] : List Value).toArray) below meth c H locs 0 0 Qg (F0 m 55 ls [])) (n : Nat) (x1_2 : Int32) (vGF_2 : Int32) (H : Heap) (locs : List Loc) (ls : Array Slot), va_P (dC, dI) vwCl [(aG, .inr (2, [.ref aGh, .ref aGi, .ref aGc, .ref aGo, .ref aGr, .int vGF_2, .int vGS])), (aGh, .inl (cA, 24, .inl (vGh))), (aGi, .inl (cA, 72, .inl (vGi)))] H → va_D A [(aG, .inr (2, [.ref aGh, .ref aGi, .ref aGc, .ref aGo, .ref aGr, .int vGF_2, .int vGS])), (aGh, .inl (cA, 24, .inl (vGh))), (aGi, .inl (cA, 72, .inl (vGi)))] → va_S A s.heap H locs → lv_has ls 3 [(1, .int x1_2), (0, .ref aG)] → Fv = l_G_learnFertile_2 N_ vGS vGh vGi K_ n x1_2 vGF_2 → ol_G_learnFertile_2 N_ vGS vGh vGi Ko_ n x1_2 vGF_2 → W p l e ({ frames := 3, cells := 0, slots := 0, locals := 63 } : Room) s m (([.ref aG] : List Value).toArray) below meth c H locs 0 0 Qg (F0 m 2 ls []) := by
    intro K_ Ko_ hk n
    induction n with
    | zero => intro x1_2 vGF_2 H locs ls hP hD hS hl hres ho; exact ho.elim
    | succ n ih =>
      intro x1_2 vGF_2 H locs ls hP hD hS hl hres ho
      rw [l_G_learnFertile_2, s_G_learnFertile_2] at hres
      rw [ol_G_learnFertile_2, os_G_learnFertile_2] at ho
      refine lv_iload_n hx hb qd_G_learnFertile_2 rfl (lv_at hl 0 rfl) ?_
      refine lv_bipush (v := 10) hx hb qd_G_learnFertile_3 (by decide) ?_
      refine lv_icmp_ge (tgt := 55) hx hb qd_G_learnFertile_5 (by decide) (fun c_5 => ?_) (fun c_5 => ?_)
      · have hres := hres.trans (if_pos c_5)
        have ho := (if_pos c_5).mp ho
        exact hk x1_2 vGF_2 H locs ls hP hD hS (lv_sub hl [0, 1] rfl) hres ho
      have hres := hres.trans (if_neg c_5)
      have ho := (if_neg c_5).mp ho
      refine lv_iconst (v := 0) hx hb qd_G_learnFertile_8 (by decide) ?_
      refine lv_istore_n (lv' := [(2, .int 0), (1, .int x1_2), (0, .ref aG)]) hx hb qd_G_learnFertile_9 rfl hl (by decide) rfl (fun ls hl => ?_)
      have L_10 : ∀ (K_ : Int32 → Int32 → Int32) (Ko_ : Int32 → Int32 → Prop) (hk : ∀ (x2_10 : Int32) (vGF_10 : Int32) (H : Heap) (locs : List Loc) (ls : Array Slot), va_P (dC, dI) vwCl [(aG, .inr (2, [.ref aGh, .ref aGi, .ref aGc, .ref aGo, .ref aGr, .int vGF_10, .int vGS])), (aGh, .inl (cA, 24, .inl (vGh))), (aGi, .inl (cA, 72, .inl (vGi)))] H → va_D A [(aG, .inr (2, [.ref aGh, .ref aGi, .ref aGc, .ref aGo, .ref aGr, .int vGF_10, .int vGS])), (aGh, .inl (cA, 24, .inl (vGh))), (aGi, .inl (cA, 72, .inl (vGi)))] → va_S A s.heap H locs → lv_has ls 3 [(2, .int x2_10), (1, .int x1_2), (0, .ref aG)] → Fv = K_ x2_10 vGF_10 → Ko_ x2_10 vGF_10 → W p l e ({ frames := 3, cells := 0, slots := 0, locals := 63 } : Room) s m (([.ref aG] : List Value).toArray) below meth c H locs 0 0 Qg (F0 m 49 ls [])) (n : Nat) (x2_10 : Int32) (vGF_10 : Int32) (H : Heap) (locs : List Loc) (ls : Array Slot), va_P (dC, dI) vwCl [(aG, .inr (2, [.ref aGh, .ref aGi, .ref aGc, .ref aGo, .ref aGr, .int vGF_10, .int vGS])), (aGh, .inl (cA, 24, .inl (vGh))), (aGi, .inl (cA, 72, .inl (vGi)))] H → va_D A [(aG, .inr (2, [.ref aGh, .ref aGi, .ref aGc, .ref aGo, .ref aGr, .int vGF_10, .int vGS])), (aGh, .inl (cA, 24, .inl (vGh))), (aGi, .inl (cA, 72, .inl (vGi)))] → va_S A s.heap H locs → lv_has ls 3 [(2, .int x2_10), (1, .int x1_2), (0, .ref aG)] → Fv = l_G_learnFertile_10 vGS vGh vGi K_ n x2_10 vGF_10 → ol_G_learnFertile_10 vGS vGh vGi Ko_ n x2_10 vGF_10 → W p l e ({ frames := 3, cells := 0, slots := 0, locals := 63 } : Room) s m (([.ref aG] : List Value).toArray) below meth c H locs 0 0 Qg (F0 m 10 ls []) := by
        intro K_ Ko_ hk n
        induction n with
        | zero => intro x2_10 vGF_10 H locs ls hP hD hS hl hres ho; exact ho.elim
        | succ n ih =>
          intro x2_10 vGF_10 H locs ls hP hD hS hl hres ho
          rw [l_G_learnFertile_10, s_G_learnFertile_10] at hres
          rw [ol_G_learnFertile_10, os_G_learnFertile_10] at ho
          refine lv_iload_n hx hb qd_G_learnFertile_10 rfl (lv_at hl 0 rfl) ?_
          refine lv_aload_n hx hb qd_G_learnFertile_11 rfl (lv_at hl 2 rfl) ?_
          refine va_get (D := (dC, dI)) (ci := 2) (v := .int vGS) (C := qR_G) (T := qT_G) (N := 7) hx hb hg qi_G hown hK hP 0 rfl rfl 6 (by decide) (hg _ mw_38) (fun _ h9 => h9) rfl qd_G_learnFertile_12 ?_
          refine lv_icmp_ge (tgt := 49) hx hb qd_G_learnFertile_15 (by decide) (fun c_15 => ?_) (fun c_15 => ?_)
          · have hres := hres.trans (if_pos c_15)
            have ho := (if_pos c_15).mp ho
            exact hk x2_10 vGF_10 H locs ls hP hD hS (lv_sub hl [0, 1, 2] rfl) hres ho
          have hres := hres.trans (if_neg c_15)
          have ho := (if_neg c_15).mp ho
          refine lv_aload_n hx hb qd_G_learnFertile_18 rfl (lv_at hl 2 rfl) ?_
          refine lv_iload_n hx hb qd_G_learnFertile_19 rfl (lv_at hl 0 rfl) ?_
          obtain ⟨g_20, ho⟩ := ho
          refine xc_V (As := [.int x2_10]) (rest := []) ⟨hx, hb, hml, hown, hg⟩ (c_G_isUsable l dC dI cA aG aGh aGi aGc aGo aGr vGF_10 vGS vGi x2_10 g_20) (cwV 1 hg (q_gV mw_296 mw_297 mw_298 mw_2 mw_299) rfl rfl rfl qh_G_isUsable ⟨Nat.le_of_ble_eq_true rfl, Nat.le_of_ble_eq_true rfl⟩) hN hK hP [0, 2] rfl 0 2 rfl rfl rfl hl.1 rfl (Nat.le_of_ble_eq_true rfl) qd_G_learnFertile_20 ⟨Nat.zero_le _, Nat.zero_le _⟩ ?_
          refine lv_topi (fun r_20 w_20 => ?_)
          have hres := hres.trans (bd_eq w_20)
          have ho := (bd_eq w_20).mp ho
          refine lv_if_eq (tgt := 43) hx hb qd_G_learnFertile_23 (by decide) (fun c_23 => ?_) (fun c_23 => ?_)
          · have hres := hres.trans (if_pos c_23)
            have ho := (if_pos c_23).mp ho
            refine lv_iinc (v := x2_10 + 1) (lv' := [(2, .int (x2_10 + 1)), (1, .int x1_2), (0, .ref aG)]) hx hb qd_G_learnFertile_43 hl (k := 0) rfl (congrArg (fun z => _ + z) (by decide)) (by decide) rfl (fun ls hl => ?_)
            refine lv_goto (tgt := 10) hx hb qd_G_learnFertile_46 (by decide) ?_
            exact ih (x2_10 + 1) vGF_10 H locs ls hP hD hS (lv_sub hl [0, 1, 2] rfl) hres ho
          have hres := hres.trans (if_neg c_23)
          have ho := (if_neg c_23).mp ho
          refine lv_aload_n hx hb qd_G_learnFertile_26 rfl (lv_at hl 2 rfl) ?_
          refine lv_dup hx hb qd_G_learnFertile_27 rfl ?_
          refine va_get (D := (dC, dI)) (ci := 2) (v := .int vGF_10) (C := qR_G) (T := qT_G) (N := 7) hx hb hg qi_G hown hK hP 0 rfl rfl 5 (by decide) (hg _ mw_37) (fun _ h9 => h9) rfl qd_G_learnFertile_28 ?_
          refine lv_iconst (v := 1) hx hb qd_G_learnFertile_31 (by decide) ?_
          refine lv_aload_n hx hb qd_G_learnFertile_32 rfl (lv_at hl 2 rfl) ?_
          refine va_get (D := (dC, dI)) (ci := 2) (v := .ref aGh) (C := qR_G) (T := qT_G) (N := 7) hx hb hg qi_G hown hK hP 0 rfl rfl 0 (by decide) (hg _ mw_32) (fun _ h9 => h9) rfl qd_G_learnFertile_33 ?_
          refine lv_iload_n hx hb qd_G_learnFertile_36 rfl (lv_at hl 0 rfl) ?_
          obtain ⟨g_37, ho⟩ := ho
          refine va_iald hx hb hK hP 1 0 rfl rfl g_37 qd_G_learnFertile_37 ?_
          refine lv_ishl hx hb qd_G_learnFertile_38 ?_
          refine lv_ior hx hb qd_G_learnFertile_39 ?_
          refine va_put (D := (dC, dI)) (ci := 2) (v := .int (vGF_10 ||| ((1 : Int32) <<< ((vGh x2_10.toNatClampNeg) &&& 31)))) (ty := .int) (C := qR_G) (T := qT_G) (N := 7) hx hb hg qi_G qt_G qk_G qn_G hown hK hP hD hS 0 rfl rfl 5 (by decide) (hg _ mw_37) (fun _ h9 => h9) rfl (by decide +kernel) rfl rfl (Nat.le_of_ble_eq_true rfl) qd_G_learnFertile_40 (fun H locs hP hD hS => ?_)
          have hP : va_P (dC, dI) vwCl [(aG, .inr (2, [.ref aGh, .ref aGi, .ref aGc, .ref aGo, .ref aGr, .int (vGF_10 ||| ((1 : Int32) <<< ((vGh x2_10.toNatClampNeg) &&& 31))), .int vGS])), (aGh, .inl (cA, 24, .inl (vGh))), (aGi, .inl (cA, 72, .inl (vGi)))] H := hP
          have hD : va_D A [(aG, .inr (2, [.ref aGh, .ref aGi, .ref aGc, .ref aGo, .ref aGr, .int (vGF_10 ||| ((1 : Int32) <<< ((vGh x2_10.toNatClampNeg) &&& 31))), .int vGS])), (aGh, .inl (cA, 24, .inl (vGh))), (aGi, .inl (cA, 72, .inl (vGi)))] := hD
          refine lv_iinc (v := x2_10 + 1) (lv' := [(2, .int (x2_10 + 1)), (1, .int x1_2), (0, .ref aG)]) hx hb qd_G_learnFertile_43 hl (k := 0) rfl (congrArg (fun z => _ + z) (by decide)) (by decide) rfl (fun ls hl => ?_)
          refine lv_goto (tgt := 10) hx hb qd_G_learnFertile_46 (by decide) ?_
          exact ih (x2_10 + 1) (vGF_10 ||| ((1 : Int32) <<< ((vGh x2_10.toNatClampNeg) &&& 31))) H locs ls hP hD hS (lv_sub hl [0, 1, 2] rfl) hres ho
      refine L_10 _ _ (fun x2_10 vGF_10 H locs ls hP hD hS hl hres ho => ?_) _ _ _ _ _ ls hP hD hS hl hres ho
      refine lv_iinc (v := x1_2 + 1) (lv' := [(1, .int (x1_2 + 1)), (2, .int x2_10), (0, .ref aG)]) hx hb qd_G_learnFertile_49 hl (k := 1) rfl (congrArg (fun z => _ + z) (by decide)) (by decide) rfl (fun ls hl => ?_)
      refine lv_goto (tgt := 2) hx hb qd_G_learnFertile_52 (by decide) ?_
      exact ih (x1_2 + 1) vGF_10 H locs ls hP hD hS (lv_sub hl [0, 2] rfl) hres ho
  refine L_2 _ _ (fun x1_2 vGF_2 H locs ls hP hD hS hl hres ho => ?_) _ _ _ _ _ ls hP hD hS hl hres ho
  subst hQ
  exact W.vret hx hb hr (fun t ht hW => ⟨⟨vGF_2, rfl, hres.symm, ⟨by rw [ht]; exact hP, va_K.moved hW.alike hK, x_N hN hW⟩, hD⟩, hS.F ht⟩) hS.2.2 qd_G_learnFertile_55
theorem qd_G_learn_0 : decode qc_G_learn 0 = .ok (.aload_n 0, 1) := by decide +kernel
theorem qd_G_learn_1 : decode qc_G_learn 1 = .ok (.invokevirtual 42, 3) := by decide +kernel
theorem qd_G_learn_4 : decode qc_G_learn 4 = .ok (.ifCond .eq 5, 3) := by decide +kernel
theorem qd_G_learn_7 : decode qc_G_learn 7 = .ok (.iconst (-1), 1) := by decide +kernel
theorem qd_G_learn_8 : decode qc_G_learn 8 = .ok (.ireturn, 1) := by decide +kernel
theorem qd_G_learn_9 : decode qc_G_learn 9 = .ok (.aload_n 0, 1) := by decide +kernel
theorem qd_G_learn_10 : decode qc_G_learn 10 = .ok (.getfield 31, 3) := by decide +kernel
theorem qd_G_learn_13 : decode qc_G_learn 13 = .ok (.istore 6, 2) := by decide +kernel
theorem qd_G_learn_15 : decode qc_G_learn 15 = .ok (.aload_n 0, 1) := by decide +kernel
theorem qd_G_learn_16 : decode qc_G_learn 16 = .ok (.getfield 9, 3) := by decide +kernel
theorem qd_G_learn_19 : decode qc_G_learn 19 = .ok (.iload 6, 2) := by decide +kernel
theorem qd_G_learn_21 : decode qc_G_learn 21 = .ok (.iload_n 1, 1) := by decide +kernel
theorem qd_G_learn_22 : decode qc_G_learn 22 = .ok (.iastore, 1) := by decide +kernel
theorem qd_G_learn_23 : decode qc_G_learn 23 = .ok (.aload_n 0, 1) := by decide +kernel
theorem qd_G_learn_24 : decode qc_G_learn 24 = .ok (.getfield 15, 3) := by decide +kernel
theorem qd_G_learn_27 : decode qc_G_learn 27 = .ok (.iload 6, 2) := by decide +kernel
theorem qd_G_learn_29 : decode qc_G_learn 29 = .ok (.iconst 3, 1) := by decide +kernel
theorem qd_G_learn_30 : decode qc_G_learn 30 = .ok (.imul, 1) := by decide +kernel
theorem qd_G_learn_31 : decode qc_G_learn 31 = .ok (.iload_n 2, 1) := by decide +kernel
theorem qd_G_learn_32 : decode qc_G_learn 32 = .ok (.iastore, 1) := by decide +kernel
theorem qd_G_learn_33 : decode qc_G_learn 33 = .ok (.aload_n 0, 1) := by decide +kernel
theorem qd_G_learn_34 : decode qc_G_learn 34 = .ok (.getfield 15, 3) := by decide +kernel
theorem qd_G_learn_37 : decode qc_G_learn 37 = .ok (.iload 6, 2) := by decide +kernel
theorem qd_G_learn_39 : decode qc_G_learn 39 = .ok (.iconst 3, 1) := by decide +kernel
theorem qd_G_learn_40 : decode qc_G_learn 40 = .ok (.imul, 1) := by decide +kernel
theorem qd_G_learn_41 : decode qc_G_learn 41 = .ok (.iconst 1, 1) := by decide +kernel
theorem qd_G_learn_42 : decode qc_G_learn 42 = .ok (.iadd, 1) := by decide +kernel
theorem qd_G_learn_43 : decode qc_G_learn 43 = .ok (.iload_n 3, 1) := by decide +kernel
theorem qd_G_learn_44 : decode qc_G_learn 44 = .ok (.iastore, 1) := by decide +kernel
theorem qd_G_learn_45 : decode qc_G_learn 45 = .ok (.aload_n 0, 1) := by decide +kernel
theorem qd_G_learn_46 : decode qc_G_learn 46 = .ok (.getfield 15, 3) := by decide +kernel
theorem qd_G_learn_49 : decode qc_G_learn 49 = .ok (.iload 6, 2) := by decide +kernel
theorem qd_G_learn_51 : decode qc_G_learn 51 = .ok (.iconst 3, 1) := by decide +kernel
theorem qd_G_learn_52 : decode qc_G_learn 52 = .ok (.imul, 1) := by decide +kernel
theorem qd_G_learn_53 : decode qc_G_learn 53 = .ok (.iconst 2, 1) := by decide +kernel
theorem qd_G_learn_54 : decode qc_G_learn 54 = .ok (.iadd, 1) := by decide +kernel
theorem qd_G_learn_55 : decode qc_G_learn 55 = .ok (.iload 4, 2) := by decide +kernel
theorem qd_G_learn_57 : decode qc_G_learn 57 = .ok (.iastore, 1) := by decide +kernel
theorem qd_G_learn_58 : decode qc_G_learn 58 = .ok (.aload_n 0, 1) := by decide +kernel
theorem qd_G_learn_59 : decode qc_G_learn 59 = .ok (.getfield 18, 3) := by decide +kernel
theorem qd_G_learn_62 : decode qc_G_learn 62 = .ok (.iload 6, 2) := by decide +kernel
theorem qd_G_learn_64 : decode qc_G_learn 64 = .ok (.iload 5, 2) := by decide +kernel
theorem qd_G_learn_66 : decode qc_G_learn 66 = .ok (.iastore, 1) := by decide +kernel
theorem qd_G_learn_67 : decode qc_G_learn 67 = .ok (.aload_n 0, 1) := by decide +kernel
theorem qd_G_learn_68 : decode qc_G_learn 68 = .ok (.iload 6, 2) := by decide +kernel
theorem qd_G_learn_70 : decode qc_G_learn 70 = .ok (.iconst 1, 1) := by decide +kernel
theorem qd_G_learn_71 : decode qc_G_learn 71 = .ok (.iadd, 1) := by decide +kernel
theorem qd_G_learn_72 : decode qc_G_learn 72 = .ok (.putfield 31, 3) := by decide +kernel
theorem qd_G_learn_75 : decode qc_G_learn 75 = .ok (.iload_n 2, 1) := by decide +kernel
theorem qd_G_learn_76 : decode qc_G_learn 76 = .ok (.iload_n 3, 1) := by decide +kernel
theorem qd_G_learn_77 : decode qc_G_learn 77 = .ok (.invokestatic 46, 3) := by decide +kernel
theorem qd_G_learn_80 : decode qc_G_learn 80 = .ok (.ifCond .eq 9, 3) := by decide +kernel
theorem qd_G_learn_83 : decode qc_G_learn 83 = .ok (.aload_n 0, 1) := by decide +kernel
theorem qd_G_learn_84 : decode qc_G_learn 84 = .ok (.iload_n 1, 1) := by decide +kernel
theorem qd_G_learn_85 : decode qc_G_learn 85 = .ok (.iload_n 2, 1) := by decide +kernel
theorem qd_G_learn_86 : decode qc_G_learn 86 = .ok (.invokevirtual 49, 3) := by decide +kernel
theorem qd_G_learn_89 : decode qc_G_learn 89 = .ok (.aload_n 0, 1) := by decide +kernel
theorem qd_G_learn_90 : decode qc_G_learn 90 = .ok (.invokevirtual 53, 3) := by decide +kernel
theorem qd_G_learn_93 : decode qc_G_learn 93 = .ok (.aload_n 0, 1) := by decide +kernel
theorem qd_G_learn_94 : decode qc_G_learn 94 = .ok (.invokevirtual 56, 3) := by decide +kernel
theorem qd_G_learn_97 : decode qc_G_learn 97 = .ok (.iload 6, 2) := by decide +kernel
theorem qd_G_learn_99 : decode qc_G_learn 99 = .ok (.ireturn, 1) := by decide +kernel
set_option maxHeartbeats 4000000 in
set_option maxRecDepth 100000 in
theorem c_G_learn (l : Launch) (dC : Nat → ClassId) (dI : Nat → Nat → Nat) (cA : ClassId) (N_ : Nat) (aG aGh aGi aGc aGo aGr : Nat) (sz : Nat) (vGF : Int32) (vGS : Int32) (vGh : (Nat → Int32)) (vGi : (Nat → Int32)) (vGc : (Nat → Int32)) (vGo : (Nat → Int32)) (vGr : (Nat → Int32)) (p0 : Int32) (p1 : Int32) (p2 : Int32) (p3 : Int32) (p4 : Int32) (ho : o_G_learn N_ vGF vGS vGh vGi vGc vGo vGr p0 p1 p2 p3 p4) : Met l qy_G_learn qw_G_learn ({ frames := 4, cells := 0, slots := 0, locals := 85 }) (va_Pc [.ref aG, .int p0, .int p1, .int p2, .int p3, .int p4] (fun U => U.heap.size = sz ∧ xP (dC, dI) [(cA, .int)] [(aG, .inr (2, [.ref aGh, .ref aGi, .ref aGc, .ref aGo, .ref aGr, .int vGF, .int vGS])), (aGh, .inl (cA, 24, .inl (vGh))), (aGi, .inl (cA, 72, .inl (vGi))), (aGc, .inl (cA, 24, .inl (vGc))), (aGo, .inl (cA, 24, .inl (vGo))), (aGr, .inl (cA, 10, .inl (vGr)))] nestN U ∧ va_D (fun _ => True) [(aG, .inr (2, [.ref aGh, .ref aGi, .ref aGc, .ref aGo, .ref aGr, .int vGF, .int vGS])), (aGh, .inl (cA, 24, .inl (vGh))), (aGi, .inl (cA, 72, .inl (vGi))), (aGc, .inl (cA, 24, .inl (vGc))), (aGo, .inl (cA, 24, .inl (vGo))), (aGr, .inl (cA, 10, .inl (vGr)))])) (va_Qi (fun r (u : Int32 × Int32 × Int32 × (Nat → Int32) × (Nat → Int32) × (Nat → Int32) × (Nat → Int32) × (Nat → Int32)) => u = f_G_learn N_ vGF vGS vGh vGi vGc vGo vGr p0 p1 p2 p3 p4 ∧ r = u.1) (fun (u : Int32 × Int32 × Int32 × (Nat → Int32) × (Nat → Int32) × (Nat → Int32) × (Nat → Int32) × (Nat → Int32)) t => xP (dC, dI) [(cA, .int)] [(aG, .inr (2, [.ref aGh, .ref aGi, .ref aGc, .ref aGo, .ref aGr, .int u.2.1, .int u.2.2.1])), (aGh, .inl (cA, 24, .inl (u.2.2.2.1))), (aGi, .inl (cA, 72, .inl (u.2.2.2.2.1))), (aGc, .inl (cA, 24, .inl (u.2.2.2.2.2.1))), (aGo, .inl (cA, 24, .inl (u.2.2.2.2.2.2.1))), (aGr, .inl (cA, 10, .inl (u.2.2.2.2.2.2.2)))] nestN t ∧ va_D (va_A [(aG, .inr (2, [.ref aGh, .ref aGi, .ref aGc, .ref aGo, .ref aGr, .int vGF, .int vGS])), (aGh, .inl (cA, 24, .inl (vGh))), (aGi, .inl (cA, 72, .inl (vGi))), (aGc, .inl (cA, 24, .inl (vGc))), (aGo, .inl (cA, 24, .inl (vGo))), (aGr, .inl (cA, 10, .inl (vGr)))] sz) [(aG, .inr (2, [.ref aGh, .ref aGi, .ref aGc, .ref aGo, .ref aGr, .int u.2.1, .int u.2.2.1])), (aGh, .inl (cA, 24, .inl (u.2.2.2.1))), (aGi, .inl (cA, 72, .inl (u.2.2.2.2.1))), (aGc, .inl (cA, 24, .inl (u.2.2.2.2.2.1))), (aGo, .inl (cA, 24, .inl (u.2.2.2.2.2.2.1))), (aGr, .inl (cA, 10, .inl (u.2.2.2.2.2.2.2)))]) (va_A [(aG, .inr (2, [.ref aGh, .ref aGi, .ref aGc, .ref aGo, .ref aGr, .int vGF, .int vGS])), (aGh, .inl (cA, 24, .inl (vGh))), (aGi, .inl (cA, 72, .inl (vGi))), (aGc, .inl (cA, 24, .inl (vGc))), (aGo, .inl (cA, 24, .inl (vGo))), (aGr, .inl (cA, 10, .inl (vGr)))] sz)) 0 0 (va_A [(aG, .inr (2, [.ref aGh, .ref aGi, .ref aGc, .ref aGo, .ref aGr, .int vGF, .int vGS])), (aGh, .inl (cA, 24, .inl (vGh))), (aGi, .inl (cA, 72, .inl (vGi))), (aGc, .inl (cA, 24, .inl (vGc))), (aGo, .inl (cA, 24, .inl (vGo))), (aGr, .inl (cA, 10, .inl (vGr)))] sz) := by
  refine Met.ofW (cc := qc_G_learn) (maxL := 7) (ret := (some .int)) (by decide) rfl ?_
  intro p e s m args below meth c s₁ B hml hv
  obtain ⟨rfl, hsz, ⟨hP, hK, hN⟩, hD0⟩ := hv
  have hx := B.exec
  have hb := B.bytes
  have hr := B.returns
  have hts := atoms_spec (ws := qw_G_learn) B.pre
  have hg : ∀ w ∈ gG, w.before _ s = true := fun w h => hts w (List.mem_cons_of_mem _ h)
  have hown : s.vm.findClass qR_G = some m.cls := findClass_of_methodNamed B.named
  have hlocks := B.notSynchronized
  subst hsz
  have hD := hD0.self (sz := s.heap.size)
  generalize hAe : va_A [(aG, .inr (2, [.ref aGh, .ref aGi, .ref aGc, .ref aGo, .ref aGr, .int vGF, .int vGS])), (aGh, .inl (cA, 24, .inl (vGh))), (aGi, .inl (cA, 72, .inl (vGi))), (aGc, .inl (cA, 24, .inl (vGc))), (aGo, .inl (cA, 24, .inl (vGo))), (aGr, .inl (cA, 10, .inl (vGr)))] s.heap.size = A at hD ⊢
  have hA : ∀ q : Nat, s.heap.size ≤ q → A q := fun q h => by rw [← hAe]; exact Or.inr h
  have hS : va_S A s.heap s.heap [] := va_S.rf
  have hP : va_P (dC, dI) vwCl [(aG, .inr (2, [.ref aGh, .ref aGi, .ref aGc, .ref aGo, .ref aGr, .int vGF, .int vGS])), (aGh, .inl (cA, 24, .inl (vGh))), (aGi, .inl (cA, 72, .inl (vGi))), (aGc, .inl (cA, 24, .inl (vGc))), (aGo, .inl (cA, 24, .inl (vGo))), (aGr, .inl (cA, 10, .inl (vGr)))] s.heap := hP
  have hl := lv_entry ([.ref aG, .int p0, .int p1, .int p2, .int p3, .int p4]) (n := 7) (Nat.le_of_ble_eq_true rfl)
  rw [lg_entry_eq]
  generalize (lg_sl ([.ref aG, .int p0, .int p1, .int p2, .int p3, .int p4]) ++ List.replicate (7 - (lg_sl ([.ref aG, .int p0, .int p1, .int p2, .int p3, .int p4])).length) Slot.unset).toArray = ls at hl ⊢
  have hl : lv_has ls 7 [(0, .ref aG), (1, .int p0), (2, .int p1), (3, .int p2), (4, .int p3), (5, .int p4)] := hl
  generalize hF : f_G_learn N_ vGF vGS vGh vGi vGc vGo vGr p0 p1 p2 p3 p4 = Fv
  have hres : Fv = f_G_learn N_ vGF vGS vGh vGi vGc vGo vGr p0 p1 p2 p3 p4 := hF.symm
  unfold f_G_learn at hres
  unfold o_G_learn at ho
  refine lv_aload_n hx hb qd_G_learn_0 rfl (lv_at hl 0 rfl) ?_
  refine xc_V (As := []) (rest := []) ⟨hx, hb, hml, hown, hg⟩ (c_G_isFull l dC dI cA aG aGh aGi aGc aGo aGr vGF vGS) (cwV 0 hg (q_gV mw_280 mw_235 mw_236 mw_2 mw_237) rfl rfl rfl qh_G_isFull ⟨Nat.le_of_ble_eq_true rfl, Nat.le_of_ble_eq_true rfl⟩) hN hK hP [0] rfl 0 2 rfl rfl rfl hl.1 rfl (Nat.le_of_ble_eq_true rfl) qd_G_learn_1 ⟨Nat.zero_le _, Nat.zero_le _⟩ ?_
  refine lv_topi (fun r_1 w_1 => ?_)
  have hres := hres.trans (bd_eq w_1)
  have ho := (bd_eq w_1).mp ho
  refine lv_if_eq (tgt := 9) hx hb qd_G_learn_4 (by decide) (fun c_4 => ?_) (fun c_4 => ?_)
  · have hres := hres.trans (if_pos c_4)
    have ho := (if_pos c_4).mp ho
    refine lv_aload_n hx hb qd_G_learn_9 rfl (lv_at hl 0 rfl) ?_
    refine va_get (D := (dC, dI)) (ci := 2) (v := .int vGS) (C := qR_G) (T := qT_G) (N := 7) hx hb hg qi_G hown hK hP 0 rfl rfl 6 (by decide) (hg _ mw_38) (fun _ h9 => h9) rfl qd_G_learn_10 ?_
    refine lv_istore (lv' := [(6, .int vGS), (0, .ref aG), (1, .int p0), (2, .int p1), (3, .int p2), (4, .int p3), (5, .int p4)]) hx hb qd_G_learn_13 hl (by decide) rfl (fun ls hl => ?_)
    refine lv_aload_n hx hb qd_G_learn_15 rfl (lv_at hl 1 rfl) ?_
    refine va_get (D := (dC, dI)) (ci := 2) (v := .ref aGh) (C := qR_G) (T := qT_G) (N := 7) hx hb hg qi_G hown hK hP 0 rfl rfl 0 (by decide) (hg _ mw_32) (fun _ h9 => h9) rfl qd_G_learn_16 ?_
    refine lv_iload hx hb qd_G_learn_19 (lv_at hl 0 rfl) ?_
    refine lv_iload_n hx hb qd_G_learn_21 rfl (lv_at hl 2 rfl) ?_
    obtain ⟨g_22, ho⟩ := ho
    refine va_iast hx hb hK hP hD hS 1 0 rfl rfl g_22 qd_G_learn_22 (fun H locs hP hD hS => ?_)
    have hP : va_P (dC, dI) vwCl [(aG, .inr (2, [.ref aGh, .ref aGi, .ref aGc, .ref aGo, .ref aGr, .int vGF, .int vGS])), (aGh, .inl (cA, 24, .inl (upd vGh vGS.toNatClampNeg p0))), (aGi, .inl (cA, 72, .inl (vGi))), (aGc, .inl (cA, 24, .inl (vGc))), (aGo, .inl (cA, 24, .inl (vGo))), (aGr, .inl (cA, 10, .inl (vGr)))] H := hP
    have hD : va_D A [(aG, .inr (2, [.ref aGh, .ref aGi, .ref aGc, .ref aGo, .ref aGr, .int vGF, .int vGS])), (aGh, .inl (cA, 24, .inl (upd vGh vGS.toNatClampNeg p0))), (aGi, .inl (cA, 72, .inl (vGi))), (aGc, .inl (cA, 24, .inl (vGc))), (aGo, .inl (cA, 24, .inl (vGo))), (aGr, .inl (cA, 10, .inl (vGr)))] := hD
    refine lv_aload_n hx hb qd_G_learn_23 rfl (lv_at hl 1 rfl) ?_
    refine va_get (D := (dC, dI)) (ci := 2) (v := .ref aGi) (C := qR_G) (T := qT_G) (N := 7) hx hb hg qi_G hown hK hP 0 rfl rfl 1 (by decide) (hg _ mw_33) (fun _ h9 => h9) rfl qd_G_learn_24 ?_
    refine lv_iload hx hb qd_G_learn_27 (lv_at hl 0 rfl) ?_
    refine lv_iconst (v := 3) hx hb qd_G_learn_29 (by decide) ?_
    refine lv_imul hx hb qd_G_learn_30 ?_
    refine lv_iload_n hx hb qd_G_learn_31 rfl (lv_at hl 3 rfl) ?_
    obtain ⟨g_32, ho⟩ := ho
    refine va_iast hx hb hK hP hD hS 2 0 rfl rfl g_32 qd_G_learn_32 (fun H locs hP hD hS => ?_)
    have hP : va_P (dC, dI) vwCl [(aG, .inr (2, [.ref aGh, .ref aGi, .ref aGc, .ref aGo, .ref aGr, .int vGF, .int vGS])), (aGh, .inl (cA, 24, .inl (upd vGh vGS.toNatClampNeg p0))), (aGi, .inl (cA, 72, .inl (upd vGi (vGS * 3).toNatClampNeg p1))), (aGc, .inl (cA, 24, .inl (vGc))), (aGo, .inl (cA, 24, .inl (vGo))), (aGr, .inl (cA, 10, .inl (vGr)))] H := hP
    have hD : va_D A [(aG, .inr (2, [.ref aGh, .ref aGi, .ref aGc, .ref aGo, .ref aGr, .int vGF, .int vGS])), (aGh, .inl (cA, 24, .inl (upd vGh vGS.toNatClampNeg p0))), (aGi, .inl (cA, 72, .inl (upd vGi (vGS * 3).toNatClampNeg p1))), (aGc, .inl (cA, 24, .inl (vGc))), (aGo, .inl (cA, 24, .inl (vGo))), (aGr, .inl (cA, 10, .inl (vGr)))] := hD
    refine lv_aload_n hx hb qd_G_learn_33 rfl (lv_at hl 1 rfl) ?_
    refine va_get (D := (dC, dI)) (ci := 2) (v := .ref aGi) (C := qR_G) (T := qT_G) (N := 7) hx hb hg qi_G hown hK hP 0 rfl rfl 1 (by decide) (hg _ mw_33) (fun _ h9 => h9) rfl qd_G_learn_34 ?_
    refine lv_iload hx hb qd_G_learn_37 (lv_at hl 0 rfl) ?_
    refine lv_iconst (v := 3) hx hb qd_G_learn_39 (by decide) ?_
    refine lv_imul hx hb qd_G_learn_40 ?_
    refine lv_iconst (v := 1) hx hb qd_G_learn_41 (by decide) ?_
    refine lv_iadd hx hb qd_G_learn_42 ?_
    refine lv_iload_n hx hb qd_G_learn_43 rfl (lv_at hl 4 rfl) ?_
    obtain ⟨g_44, ho⟩ := ho
    refine va_iast hx hb hK hP hD hS 2 0 rfl rfl g_44 qd_G_learn_44 (fun H locs hP hD hS => ?_)
    have hP : va_P (dC, dI) vwCl [(aG, .inr (2, [.ref aGh, .ref aGi, .ref aGc, .ref aGo, .ref aGr, .int vGF, .int vGS])), (aGh, .inl (cA, 24, .inl (upd vGh vGS.toNatClampNeg p0))), (aGi, .inl (cA, 72, .inl (upd (upd vGi (vGS * 3).toNatClampNeg p1) ((vGS * 3) + 1).toNatClampNeg p2))), (aGc, .inl (cA, 24, .inl (vGc))), (aGo, .inl (cA, 24, .inl (vGo))), (aGr, .inl (cA, 10, .inl (vGr)))] H := hP
    have hD : va_D A [(aG, .inr (2, [.ref aGh, .ref aGi, .ref aGc, .ref aGo, .ref aGr, .int vGF, .int vGS])), (aGh, .inl (cA, 24, .inl (upd vGh vGS.toNatClampNeg p0))), (aGi, .inl (cA, 72, .inl (upd (upd vGi (vGS * 3).toNatClampNeg p1) ((vGS * 3) + 1).toNatClampNeg p2))), (aGc, .inl (cA, 24, .inl (vGc))), (aGo, .inl (cA, 24, .inl (vGo))), (aGr, .inl (cA, 10, .inl (vGr)))] := hD
    refine lv_aload_n hx hb qd_G_learn_45 rfl (lv_at hl 1 rfl) ?_
    refine va_get (D := (dC, dI)) (ci := 2) (v := .ref aGi) (C := qR_G) (T := qT_G) (N := 7) hx hb hg qi_G hown hK hP 0 rfl rfl 1 (by decide) (hg _ mw_33) (fun _ h9 => h9) rfl qd_G_learn_46 ?_
    refine lv_iload hx hb qd_G_learn_49 (lv_at hl 0 rfl) ?_
    refine lv_iconst (v := 3) hx hb qd_G_learn_51 (by decide) ?_
    refine lv_imul hx hb qd_G_learn_52 ?_
    refine lv_iconst (v := 2) hx hb qd_G_learn_53 (by decide) ?_
    refine lv_iadd hx hb qd_G_learn_54 ?_
    refine lv_iload hx hb qd_G_learn_55 (lv_at hl 5 rfl) ?_
    obtain ⟨g_57, ho⟩ := ho
    refine va_iast hx hb hK hP hD hS 2 0 rfl rfl g_57 qd_G_learn_57 (fun H locs hP hD hS => ?_)
    have hP : va_P (dC, dI) vwCl [(aG, .inr (2, [.ref aGh, .ref aGi, .ref aGc, .ref aGo, .ref aGr, .int vGF, .int vGS])), (aGh, .inl (cA, 24, .inl (upd vGh vGS.toNatClampNeg p0))), (aGi, .inl (cA, 72, .inl (upd (upd (upd vGi (vGS * 3).toNatClampNeg p1) ((vGS * 3) + 1).toNatClampNeg p2) ((vGS * 3) + 2).toNatClampNeg p3))), (aGc, .inl (cA, 24, .inl (vGc))), (aGo, .inl (cA, 24, .inl (vGo))), (aGr, .inl (cA, 10, .inl (vGr)))] H := hP
    have hD : va_D A [(aG, .inr (2, [.ref aGh, .ref aGi, .ref aGc, .ref aGo, .ref aGr, .int vGF, .int vGS])), (aGh, .inl (cA, 24, .inl (upd vGh vGS.toNatClampNeg p0))), (aGi, .inl (cA, 72, .inl (upd (upd (upd vGi (vGS * 3).toNatClampNeg p1) ((vGS * 3) + 1).toNatClampNeg p2) ((vGS * 3) + 2).toNatClampNeg p3))), (aGc, .inl (cA, 24, .inl (vGc))), (aGo, .inl (cA, 24, .inl (vGo))), (aGr, .inl (cA, 10, .inl (vGr)))] := hD
    refine lv_aload_n hx hb qd_G_learn_58 rfl (lv_at hl 1 rfl) ?_
    refine va_get (D := (dC, dI)) (ci := 2) (v := .ref aGc) (C := qR_G) (T := qT_G) (N := 7) hx hb hg qi_G hown hK hP 0 rfl rfl 2 (by decide) (hg _ mw_34) (fun _ h9 => h9) rfl qd_G_learn_59 ?_
    refine lv_iload hx hb qd_G_learn_62 (lv_at hl 0 rfl) ?_
    refine lv_iload hx hb qd_G_learn_64 (lv_at hl 6 rfl) ?_
    obtain ⟨g_66, ho⟩ := ho
    refine va_iast hx hb hK hP hD hS 3 0 rfl rfl g_66 qd_G_learn_66 (fun H locs hP hD hS => ?_)
    have hP : va_P (dC, dI) vwCl [(aG, .inr (2, [.ref aGh, .ref aGi, .ref aGc, .ref aGo, .ref aGr, .int vGF, .int vGS])), (aGh, .inl (cA, 24, .inl (upd vGh vGS.toNatClampNeg p0))), (aGi, .inl (cA, 72, .inl (upd (upd (upd vGi (vGS * 3).toNatClampNeg p1) ((vGS * 3) + 1).toNatClampNeg p2) ((vGS * 3) + 2).toNatClampNeg p3))), (aGc, .inl (cA, 24, .inl (upd vGc vGS.toNatClampNeg p4))), (aGo, .inl (cA, 24, .inl (vGo))), (aGr, .inl (cA, 10, .inl (vGr)))] H := hP
    have hD : va_D A [(aG, .inr (2, [.ref aGh, .ref aGi, .ref aGc, .ref aGo, .ref aGr, .int vGF, .int vGS])), (aGh, .inl (cA, 24, .inl (upd vGh vGS.toNatClampNeg p0))), (aGi, .inl (cA, 72, .inl (upd (upd (upd vGi (vGS * 3).toNatClampNeg p1) ((vGS * 3) + 1).toNatClampNeg p2) ((vGS * 3) + 2).toNatClampNeg p3))), (aGc, .inl (cA, 24, .inl (upd vGc vGS.toNatClampNeg p4))), (aGo, .inl (cA, 24, .inl (vGo))), (aGr, .inl (cA, 10, .inl (vGr)))] := hD
    refine lv_aload_n hx hb qd_G_learn_67 rfl (lv_at hl 1 rfl) ?_
    refine lv_iload hx hb qd_G_learn_68 (lv_at hl 0 rfl) ?_
    refine lv_iconst (v := 1) hx hb qd_G_learn_70 (by decide) ?_
    refine lv_iadd hx hb qd_G_learn_71 ?_
    refine va_put (D := (dC, dI)) (ci := 2) (v := .int (vGS + 1)) (ty := .int) (C := qR_G) (T := qT_G) (N := 7) hx hb hg qi_G qt_G qk_G qn_G hown hK hP hD hS 0 rfl rfl 6 (by decide) (hg _ mw_38) (fun _ h9 => h9) rfl (by decide +kernel) rfl rfl (Nat.le_of_ble_eq_true rfl) qd_G_learn_72 (fun H locs hP hD hS => ?_)
    have hP : va_P (dC, dI) vwCl [(aG, .inr (2, [.ref aGh, .ref aGi, .ref aGc, .ref aGo, .ref aGr, .int vGF, .int (vGS + 1)])), (aGh, .inl (cA, 24, .inl (upd vGh vGS.toNatClampNeg p0))), (aGi, .inl (cA, 72, .inl (upd (upd (upd vGi (vGS * 3).toNatClampNeg p1) ((vGS * 3) + 1).toNatClampNeg p2) ((vGS * 3) + 2).toNatClampNeg p3))), (aGc, .inl (cA, 24, .inl (upd vGc vGS.toNatClampNeg p4))), (aGo, .inl (cA, 24, .inl (vGo))), (aGr, .inl (cA, 10, .inl (vGr)))] H := hP
    have hD : va_D A [(aG, .inr (2, [.ref aGh, .ref aGi, .ref aGc, .ref aGo, .ref aGr, .int vGF, .int (vGS + 1)])), (aGh, .inl (cA, 24, .inl (upd vGh vGS.toNatClampNeg p0))), (aGi, .inl (cA, 72, .inl (upd (upd (upd vGi (vGS * 3).toNatClampNeg p1) ((vGS * 3) + 1).toNatClampNeg p2) ((vGS * 3) + 2).toNatClampNeg p3))), (aGc, .inl (cA, 24, .inl (upd vGc vGS.toNatClampNeg p4))), (aGo, .inl (cA, 24, .inl (vGo))), (aGr, .inl (cA, 10, .inl (vGr)))] := hD
    refine lv_iload_n hx hb qd_G_learn_75 rfl (lv_at hl 3 rfl) ?_
    refine lv_iload_n hx hb qd_G_learn_76 rfl (lv_at hl 4 rfl) ?_
    refine xc_N (As := [.int p1, .int p2]) (rest := []) ⟨hx, hb, hml, hown, hg⟩ (c_H_isStep l dC dI cA p1 p2) (⟨va_cnB 2 hg (q_gC mw_253) rfl rfl rfl (hN _ nw_5) (hg _ mw_1) qh_H_isStep.2 ⟨Nat.le_of_ble_eq_true rfl, Nat.le_of_ble_eq_true rfl⟩, hg _ mw_252, trivial⟩) hN hK hP [] rfl rfl hl.1 rfl (Nat.le_of_ble_eq_true rfl) qd_G_learn_77 ⟨Nat.zero_le _, Nat.zero_le _⟩ ?_
    refine lv_topi (fun r_77 w_77 => ?_)
    have hres := hres.trans (bd_eq w_77)
    have ho := (bd_eq w_77).mp ho
    refine lv_if_eq (tgt := 89) hx hb qd_G_learn_80 (by decide) (fun c_80 => ?_) (fun c_80 => ?_)
    · have hres := hres.trans (if_pos c_80)
      have ho := (if_pos c_80).mp ho
      refine lv_aload_n hx hb qd_G_learn_89 rfl (lv_at hl 1 rfl) ?_
      obtain ⟨g_90, ho⟩ := ho
      refine xm_Vv (As := []) (rest := []) (w1 := fun (u_90 : (Nat → Int32)) => [(aG, .inr (2, [.ref aGh, .ref aGi, .ref aGc, .ref aGo, .ref aGr, .int vGF, .int (vGS + 1)])), (aGh, .inl (cA, 24, .inl (upd vGh vGS.toNatClampNeg p0))), (aGo, .inl (cA, 24, .inl (u_90))), (aGr, .inl (cA, 10, .inl (vGr)))]) (w2 := fun (u_90 : (Nat → Int32)) => [(aG, .inr (2, [.ref aGh, .ref aGi, .ref aGc, .ref aGo, .ref aGr, .int vGF, .int (vGS + 1)])), (aGh, .inl (cA, 24, .inl (upd vGh vGS.toNatClampNeg p0))), (aGi, .inl (cA, 72, .inl (upd (upd (upd vGi (vGS * 3).toNatClampNeg p1) ((vGS * 3) + 1).toNatClampNeg p2) ((vGS * 3) + 2).toNatClampNeg p3))), (aGc, .inl (cA, 24, .inl (upd vGc vGS.toNatClampNeg p4))), (aGo, .inl (cA, 24, .inl (u_90))), (aGr, .inl (cA, 10, .inl (vGr)))]) ⟨hx, hb, hml, hown, hg⟩ (c_G_orderBySteps l dC dI cA N_ aG aGh aGi aGc aGo aGr _ vGF (vGS + 1) (upd vGh vGS.toNatClampNeg p0) vGo vGr g_90) (cwV 0 hg (q_gV mw_284 mw_285 mw_746 mw_2 mw_286) rfl rfl rfl qh_G_orderBySteps ⟨Nat.le_of_ble_eq_true rfl, Nat.le_of_ble_eq_true rfl⟩) hN hK hP hD hS hA [0, 1, 4, 5] [2, 3] rfl rfl (by decide) (by decide) (by decide) [2, 3, 0, 1, 4, 5] (fun _ => rfl) (by decide) 0 2 rfl rfl rfl hl.1 rfl (Nat.le_of_ble_eq_true rfl) qd_G_learn_90 ⟨Nat.zero_le _, Nat.zero_le _⟩ (fun u_90 H locs w_90 hP hD hS => ?_)
      have hP : va_P (dC, dI) vwCl [(aG, .inr (2, [.ref aGh, .ref aGi, .ref aGc, .ref aGo, .ref aGr, .int vGF, .int (vGS + 1)])), (aGh, .inl (cA, 24, .inl (upd vGh vGS.toNatClampNeg p0))), (aGi, .inl (cA, 72, .inl (upd (upd (upd vGi (vGS * 3).toNatClampNeg p1) ((vGS * 3) + 1).toNatClampNeg p2) ((vGS * 3) + 2).toNatClampNeg p3))), (aGc, .inl (cA, 24, .inl (upd vGc vGS.toNatClampNeg p4))), (aGo, .inl (cA, 24, .inl (u_90))), (aGr, .inl (cA, 10, .inl (vGr)))] H := hP
      have hD : va_D A [(aG, .inr (2, [.ref aGh, .ref aGi, .ref aGc, .ref aGo, .ref aGr, .int vGF, .int (vGS + 1)])), (aGh, .inl (cA, 24, .inl (upd vGh vGS.toNatClampNeg p0))), (aGi, .inl (cA, 72, .inl (upd (upd (upd vGi (vGS * 3).toNatClampNeg p1) ((vGS * 3) + 1).toNatClampNeg p2) ((vGS * 3) + 2).toNatClampNeg p3))), (aGc, .inl (cA, 24, .inl (upd vGc vGS.toNatClampNeg p4))), (aGo, .inl (cA, 24, .inl (u_90))), (aGr, .inl (cA, 10, .inl (vGr)))] := hD
      have hres := hres.trans (bd_eq w_90)
      have ho := (bd_eq w_90).mp ho
      refine lv_aload_n hx hb qd_G_learn_93 rfl (lv_at hl 1 rfl) ?_
      obtain ⟨g_94, ho⟩ := ho
      refine xm_Vv (As := []) (rest := []) (w1 := fun (u_94 : Int32) => [(aG, .inr (2, [.ref aGh, .ref aGi, .ref aGc, .ref aGo, .ref aGr, .int u_94, .int (vGS + 1)])), (aGh, .inl (cA, 24, .inl (upd vGh vGS.toNatClampNeg p0))), (aGi, .inl (cA, 72, .inl (upd (upd (upd vGi (vGS * 3).toNatClampNeg p1) ((vGS * 3) + 1).toNatClampNeg p2) ((vGS * 3) + 2).toNatClampNeg p3)))]) (w2 := fun (u_94 : Int32) => [(aG, .inr (2, [.ref aGh, .ref aGi, .ref aGc, .ref aGo, .ref aGr, .int u_94, .int (vGS + 1)])), (aGh, .inl (cA, 24, .inl (upd vGh vGS.toNatClampNeg p0))), (aGi, .inl (cA, 72, .inl (upd (upd (upd vGi (vGS * 3).toNatClampNeg p1) ((vGS * 3) + 1).toNatClampNeg p2) ((vGS * 3) + 2).toNatClampNeg p3))), (aGc, .inl (cA, 24, .inl (upd vGc vGS.toNatClampNeg p4))), (aGo, .inl (cA, 24, .inl (u_90))), (aGr, .inl (cA, 10, .inl (vGr)))]) ⟨hx, hb, hml, hown, hg⟩ (c_G_learnFertile l dC dI cA N_ aG aGh aGi aGc aGo aGr _ vGF (vGS + 1) (upd vGh vGS.toNatClampNeg p0) (upd (upd (upd vGi (vGS * 3).toNatClampNeg p1) ((vGS * 3) + 1).toNatClampNeg p2) ((vGS * 3) + 2).toNatClampNeg p3) g_94) (cwV 0 hg (q_gV mw_293 mw_294 mw_747 mw_2 mw_295) rfl rfl rfl qh_G_learnFertile ⟨Nat.le_of_ble_eq_true rfl, Nat.le_of_ble_eq_true rfl⟩) hN hK hP hD hS hA [0, 1, 2] [3, 4, 5] rfl rfl (by decide) (by decide) (by decide) [3, 4, 5, 0, 1, 2] (fun _ => rfl) (by decide) 0 2 rfl rfl rfl hl.1 rfl (Nat.le_of_ble_eq_true rfl) qd_G_learn_94 ⟨Nat.zero_le _, Nat.zero_le _⟩ (fun u_94 H locs w_94 hP hD hS => ?_)
      have hP : va_P (dC, dI) vwCl [(aG, .inr (2, [.ref aGh, .ref aGi, .ref aGc, .ref aGo, .ref aGr, .int u_94, .int (vGS + 1)])), (aGh, .inl (cA, 24, .inl (upd vGh vGS.toNatClampNeg p0))), (aGi, .inl (cA, 72, .inl (upd (upd (upd vGi (vGS * 3).toNatClampNeg p1) ((vGS * 3) + 1).toNatClampNeg p2) ((vGS * 3) + 2).toNatClampNeg p3))), (aGc, .inl (cA, 24, .inl (upd vGc vGS.toNatClampNeg p4))), (aGo, .inl (cA, 24, .inl (u_90))), (aGr, .inl (cA, 10, .inl (vGr)))] H := hP
      have hD : va_D A [(aG, .inr (2, [.ref aGh, .ref aGi, .ref aGc, .ref aGo, .ref aGr, .int u_94, .int (vGS + 1)])), (aGh, .inl (cA, 24, .inl (upd vGh vGS.toNatClampNeg p0))), (aGi, .inl (cA, 72, .inl (upd (upd (upd vGi (vGS * 3).toNatClampNeg p1) ((vGS * 3) + 1).toNatClampNeg p2) ((vGS * 3) + 2).toNatClampNeg p3))), (aGc, .inl (cA, 24, .inl (upd vGc vGS.toNatClampNeg p4))), (aGo, .inl (cA, 24, .inl (u_90))), (aGr, .inl (cA, 10, .inl (vGr)))] := hD
      have hres := hres.trans (bd_eq w_94)
      have ho := (bd_eq w_94).mp ho
      refine lv_iload hx hb qd_G_learn_97 (lv_at hl 0 rfl) ?_
      exact W.iret (v := vGS) hx hb hr (fun t ht hW => ⟨⟨_, (vGS, u_94, vGS + 1, upd vGh vGS.toNatClampNeg p0, upd (upd (upd vGi (vGS * 3).toNatClampNeg p1) ((vGS * 3) + 1).toNatClampNeg p2) ((vGS * 3) + 2).toNatClampNeg p3, upd vGc vGS.toNatClampNeg p4, u_90, vGr), rfl, ⟨hres.symm, rfl⟩, ⟨by rw [ht]; exact hP, va_K.moved hW.alike hK, x_N hN hW⟩, hD⟩, hS.F ht⟩) hS.2.2 qd_G_learn_99
    have hres := hres.trans (if_neg c_80)
    have ho := (if_neg c_80).mp ho
    refine lv_aload_n hx hb qd_G_learn_83 rfl (lv_at hl 1 rfl) ?_
    refine lv_iload_n hx hb qd_G_learn_84 rfl (lv_at hl 2 rfl) ?_
    refine lv_iload_n hx hb qd_G_learn_85 rfl (lv_at hl 3 rfl) ?_
    obtain ⟨g_86, ho⟩ := ho
    refine xm_Vv (As := [.int p0, .int p1]) (rest := []) (w1 := fun (u_86 : (Nat → Int32)) => [(aG, .inr (2, [.ref aGh, .ref aGi, .ref aGc, .ref aGo, .ref aGr, .int vGF, .int (vGS + 1)])), (aGr, .inl (cA, 10, .inl (u_86)))]) (w2 := fun (u_86 : (Nat → Int32)) => [(aG, .inr (2, [.ref aGh, .ref aGi, .ref aGc, .ref aGo, .ref aGr, .int vGF, .int (vGS + 1)])), (aGh, .inl (cA, 24, .inl (upd vGh vGS.toNatClampNeg p0))), (aGi, .inl (cA, 72, .inl (upd (upd (upd vGi (vGS * 3).toNatClampNeg p1) ((vGS * 3) + 1).toNatClampNeg p2) ((vGS * 3) + 2).toNatClampNeg p3))), (aGc, .inl (cA, 24, .inl (upd vGc vGS.toNatClampNeg p4))), (aGo, .inl (cA, 24, .inl (vGo))), (aGr, .inl (cA, 10, .inl (u_86)))]) ⟨hx, hb, hml, hown, hg⟩ (c_G_learnStep l dC dI cA N_ aG aGh aGi aGc aGo aGr _ vGF (vGS + 1) vGr p0 p1 g_86) (cwV 2 hg (q_gV mw_281 mw_282 mw_745 mw_2 mw_283) rfl rfl rfl qh_G_learnStep ⟨Nat.le_of_ble_eq_true rfl, Nat.le_of_ble_eq_true rfl⟩) hN hK hP hD hS hA [0, 5] [1, 2, 3, 4] rfl rfl (by decide) (by decide) (by decide) [4, 0, 1, 2, 3, 5] (fun _ => rfl) (by decide) 0 2 rfl rfl rfl hl.1 rfl (Nat.le_of_ble_eq_true rfl) qd_G_learn_86 ⟨Nat.zero_le _, Nat.zero_le _⟩ (fun u_86 H locs w_86 hP hD hS => ?_)
    have hP : va_P (dC, dI) vwCl [(aG, .inr (2, [.ref aGh, .ref aGi, .ref aGc, .ref aGo, .ref aGr, .int vGF, .int (vGS + 1)])), (aGh, .inl (cA, 24, .inl (upd vGh vGS.toNatClampNeg p0))), (aGi, .inl (cA, 72, .inl (upd (upd (upd vGi (vGS * 3).toNatClampNeg p1) ((vGS * 3) + 1).toNatClampNeg p2) ((vGS * 3) + 2).toNatClampNeg p3))), (aGc, .inl (cA, 24, .inl (upd vGc vGS.toNatClampNeg p4))), (aGo, .inl (cA, 24, .inl (vGo))), (aGr, .inl (cA, 10, .inl (u_86)))] H := hP
    have hD : va_D A [(aG, .inr (2, [.ref aGh, .ref aGi, .ref aGc, .ref aGo, .ref aGr, .int vGF, .int (vGS + 1)])), (aGh, .inl (cA, 24, .inl (upd vGh vGS.toNatClampNeg p0))), (aGi, .inl (cA, 72, .inl (upd (upd (upd vGi (vGS * 3).toNatClampNeg p1) ((vGS * 3) + 1).toNatClampNeg p2) ((vGS * 3) + 2).toNatClampNeg p3))), (aGc, .inl (cA, 24, .inl (upd vGc vGS.toNatClampNeg p4))), (aGo, .inl (cA, 24, .inl (vGo))), (aGr, .inl (cA, 10, .inl (u_86)))] := hD
    have hres := hres.trans (bd_eq w_86)
    have ho := (bd_eq w_86).mp ho
    refine lv_aload_n hx hb qd_G_learn_89 rfl (lv_at hl 1 rfl) ?_
    obtain ⟨g_90, ho⟩ := ho
    refine xm_Vv (As := []) (rest := []) (w1 := fun (u_90 : (Nat → Int32)) => [(aG, .inr (2, [.ref aGh, .ref aGi, .ref aGc, .ref aGo, .ref aGr, .int vGF, .int (vGS + 1)])), (aGh, .inl (cA, 24, .inl (upd vGh vGS.toNatClampNeg p0))), (aGo, .inl (cA, 24, .inl (u_90))), (aGr, .inl (cA, 10, .inl (u_86)))]) (w2 := fun (u_90 : (Nat → Int32)) => [(aG, .inr (2, [.ref aGh, .ref aGi, .ref aGc, .ref aGo, .ref aGr, .int vGF, .int (vGS + 1)])), (aGh, .inl (cA, 24, .inl (upd vGh vGS.toNatClampNeg p0))), (aGi, .inl (cA, 72, .inl (upd (upd (upd vGi (vGS * 3).toNatClampNeg p1) ((vGS * 3) + 1).toNatClampNeg p2) ((vGS * 3) + 2).toNatClampNeg p3))), (aGc, .inl (cA, 24, .inl (upd vGc vGS.toNatClampNeg p4))), (aGo, .inl (cA, 24, .inl (u_90))), (aGr, .inl (cA, 10, .inl (u_86)))]) ⟨hx, hb, hml, hown, hg⟩ (c_G_orderBySteps l dC dI cA N_ aG aGh aGi aGc aGo aGr _ vGF (vGS + 1) (upd vGh vGS.toNatClampNeg p0) vGo u_86 g_90) (cwV 0 hg (q_gV mw_284 mw_285 mw_746 mw_2 mw_286) rfl rfl rfl qh_G_orderBySteps ⟨Nat.le_of_ble_eq_true rfl, Nat.le_of_ble_eq_true rfl⟩) hN hK hP hD hS hA [0, 1, 4, 5] [2, 3] rfl rfl (by decide) (by decide) (by decide) [2, 3, 0, 1, 4, 5] (fun _ => rfl) (by decide) 0 2 rfl rfl rfl hl.1 rfl (Nat.le_of_ble_eq_true rfl) qd_G_learn_90 ⟨Nat.zero_le _, Nat.zero_le _⟩ (fun u_90 H locs w_90 hP hD hS => ?_)
    have hP : va_P (dC, dI) vwCl [(aG, .inr (2, [.ref aGh, .ref aGi, .ref aGc, .ref aGo, .ref aGr, .int vGF, .int (vGS + 1)])), (aGh, .inl (cA, 24, .inl (upd vGh vGS.toNatClampNeg p0))), (aGi, .inl (cA, 72, .inl (upd (upd (upd vGi (vGS * 3).toNatClampNeg p1) ((vGS * 3) + 1).toNatClampNeg p2) ((vGS * 3) + 2).toNatClampNeg p3))), (aGc, .inl (cA, 24, .inl (upd vGc vGS.toNatClampNeg p4))), (aGo, .inl (cA, 24, .inl (u_90))), (aGr, .inl (cA, 10, .inl (u_86)))] H := hP
    have hD : va_D A [(aG, .inr (2, [.ref aGh, .ref aGi, .ref aGc, .ref aGo, .ref aGr, .int vGF, .int (vGS + 1)])), (aGh, .inl (cA, 24, .inl (upd vGh vGS.toNatClampNeg p0))), (aGi, .inl (cA, 72, .inl (upd (upd (upd vGi (vGS * 3).toNatClampNeg p1) ((vGS * 3) + 1).toNatClampNeg p2) ((vGS * 3) + 2).toNatClampNeg p3))), (aGc, .inl (cA, 24, .inl (upd vGc vGS.toNatClampNeg p4))), (aGo, .inl (cA, 24, .inl (u_90))), (aGr, .inl (cA, 10, .inl (u_86)))] := hD
    have hres := hres.trans (bd_eq w_90)
    have ho := (bd_eq w_90).mp ho
    refine lv_aload_n hx hb qd_G_learn_93 rfl (lv_at hl 1 rfl) ?_
    obtain ⟨g_94, ho⟩ := ho
    refine xm_Vv (As := []) (rest := []) (w1 := fun (u_94 : Int32) => [(aG, .inr (2, [.ref aGh, .ref aGi, .ref aGc, .ref aGo, .ref aGr, .int u_94, .int (vGS + 1)])), (aGh, .inl (cA, 24, .inl (upd vGh vGS.toNatClampNeg p0))), (aGi, .inl (cA, 72, .inl (upd (upd (upd vGi (vGS * 3).toNatClampNeg p1) ((vGS * 3) + 1).toNatClampNeg p2) ((vGS * 3) + 2).toNatClampNeg p3)))]) (w2 := fun (u_94 : Int32) => [(aG, .inr (2, [.ref aGh, .ref aGi, .ref aGc, .ref aGo, .ref aGr, .int u_94, .int (vGS + 1)])), (aGh, .inl (cA, 24, .inl (upd vGh vGS.toNatClampNeg p0))), (aGi, .inl (cA, 72, .inl (upd (upd (upd vGi (vGS * 3).toNatClampNeg p1) ((vGS * 3) + 1).toNatClampNeg p2) ((vGS * 3) + 2).toNatClampNeg p3))), (aGc, .inl (cA, 24, .inl (upd vGc vGS.toNatClampNeg p4))), (aGo, .inl (cA, 24, .inl (u_90))), (aGr, .inl (cA, 10, .inl (u_86)))]) ⟨hx, hb, hml, hown, hg⟩ (c_G_learnFertile l dC dI cA N_ aG aGh aGi aGc aGo aGr _ vGF (vGS + 1) (upd vGh vGS.toNatClampNeg p0) (upd (upd (upd vGi (vGS * 3).toNatClampNeg p1) ((vGS * 3) + 1).toNatClampNeg p2) ((vGS * 3) + 2).toNatClampNeg p3) g_94) (cwV 0 hg (q_gV mw_293 mw_294 mw_747 mw_2 mw_295) rfl rfl rfl qh_G_learnFertile ⟨Nat.le_of_ble_eq_true rfl, Nat.le_of_ble_eq_true rfl⟩) hN hK hP hD hS hA [0, 1, 2] [3, 4, 5] rfl rfl (by decide) (by decide) (by decide) [3, 4, 5, 0, 1, 2] (fun _ => rfl) (by decide) 0 2 rfl rfl rfl hl.1 rfl (Nat.le_of_ble_eq_true rfl) qd_G_learn_94 ⟨Nat.zero_le _, Nat.zero_le _⟩ (fun u_94 H locs w_94 hP hD hS => ?_)
    have hP : va_P (dC, dI) vwCl [(aG, .inr (2, [.ref aGh, .ref aGi, .ref aGc, .ref aGo, .ref aGr, .int u_94, .int (vGS + 1)])), (aGh, .inl (cA, 24, .inl (upd vGh vGS.toNatClampNeg p0))), (aGi, .inl (cA, 72, .inl (upd (upd (upd vGi (vGS * 3).toNatClampNeg p1) ((vGS * 3) + 1).toNatClampNeg p2) ((vGS * 3) + 2).toNatClampNeg p3))), (aGc, .inl (cA, 24, .inl (upd vGc vGS.toNatClampNeg p4))), (aGo, .inl (cA, 24, .inl (u_90))), (aGr, .inl (cA, 10, .inl (u_86)))] H := hP
    have hD : va_D A [(aG, .inr (2, [.ref aGh, .ref aGi, .ref aGc, .ref aGo, .ref aGr, .int u_94, .int (vGS + 1)])), (aGh, .inl (cA, 24, .inl (upd vGh vGS.toNatClampNeg p0))), (aGi, .inl (cA, 72, .inl (upd (upd (upd vGi (vGS * 3).toNatClampNeg p1) ((vGS * 3) + 1).toNatClampNeg p2) ((vGS * 3) + 2).toNatClampNeg p3))), (aGc, .inl (cA, 24, .inl (upd vGc vGS.toNatClampNeg p4))), (aGo, .inl (cA, 24, .inl (u_90))), (aGr, .inl (cA, 10, .inl (u_86)))] := hD
    have hres := hres.trans (bd_eq w_94)
    have ho := (bd_eq w_94).mp ho
    refine lv_iload hx hb qd_G_learn_97 (lv_at hl 0 rfl) ?_
    exact W.iret (v := vGS) hx hb hr (fun t ht hW => ⟨⟨_, (vGS, u_94, vGS + 1, upd vGh vGS.toNatClampNeg p0, upd (upd (upd vGi (vGS * 3).toNatClampNeg p1) ((vGS * 3) + 1).toNatClampNeg p2) ((vGS * 3) + 2).toNatClampNeg p3, upd vGc vGS.toNatClampNeg p4, u_90, u_86), rfl, ⟨hres.symm, rfl⟩, ⟨by rw [ht]; exact hP, va_K.moved hW.alike hK, x_N hN hW⟩, hD⟩, hS.F ht⟩) hS.2.2 qd_G_learn_99
  have hres := hres.trans (if_neg c_4)
  have ho := (if_neg c_4).mp ho
  refine lv_iconst (v := (-1)) hx hb qd_G_learn_7 (by decide) ?_
  exact W.iret (v := (-1)) hx hb hr (fun t ht hW => ⟨⟨_, ((-1), vGF, vGS, vGh, vGi, vGc, vGo, vGr), rfl, ⟨hres.symm, rfl⟩, ⟨by rw [ht]; exact hP, va_K.moved hW.alike hK, x_N hN hW⟩, hD⟩, hS.F ht⟩) hS.2.2 qd_G_learn_8
