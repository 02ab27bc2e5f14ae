theorem qd_J_bitCount_0 : decode qc_J_bitCount 0 = .ok (.iload_n 0, 1) := by decide +kernel
theorem qd_J_bitCount_1 : decode qc_J_bitCount 1 = .ok (.iload_n 0, 1) := by decide +kernel
theorem qd_J_bitCount_2 : decode qc_J_bitCount 2 = .ok (.iconst 1, 1) := by decide +kernel
theorem qd_J_bitCount_3 : decode qc_J_bitCount 3 = .ok (.iushr, 1) := by decide +kernel
theorem qd_J_bitCount_4 : decode qc_J_bitCount 4 = .ok (.ldc_w 265, 3) := by decide +kernel
theorem qd_J_bitCount_7 : decode qc_J_bitCount 7 = .ok (.iand, 1) := by decide +kernel
theorem qd_J_bitCount_8 : decode qc_J_bitCount 8 = .ok (.isub, 1) := by decide +kernel
theorem qd_J_bitCount_9 : decode qc_J_bitCount 9 = .ok (.istore_n 0, 1) := by decide +kernel
theorem qd_J_bitCount_10 : decode qc_J_bitCount 10 = .ok (.iload_n 0, 1) := by decide +kernel
theorem qd_J_bitCount_11 : decode qc_J_bitCount 11 = .ok (.ldc_w 266, 3) := by decide +kernel
theorem qd_J_bitCount_14 : decode qc_J_bitCount 14 = .ok (.iand, 1) := by decide +kernel
theorem qd_J_bitCount_15 : decode qc_J_bitCount 15 = .ok (.iload_n 0, 1) := by decide +kernel
theorem qd_J_bitCount_16 : decode qc_J_bitCount 16 = .ok (.iconst 2, 1) := by decide +kernel
theorem qd_J_bitCount_17 : decode qc_J_bitCount 17 = .ok (.iushr, 1) := by decide +kernel
theorem qd_J_bitCount_18 : decode qc_J_bitCount 18 = .ok (.ldc_w 266, 3) := by decide +kernel
theorem qd_J_bitCount_21 : decode qc_J_bitCount 21 = .ok (.iand, 1) := by decide +kernel
theorem qd_J_bitCount_22 : decode qc_J_bitCount 22 = .ok (.iadd, 1) := by decide +kernel
theorem qd_J_bitCount_23 : decode qc_J_bitCount 23 = .ok (.istore_n 0, 1) := by decide +kernel
theorem qd_J_bitCount_24 : decode qc_J_bitCount 24 = .ok (.iload_n 0, 1) := by decide +kernel
theorem qd_J_bitCount_25 : decode qc_J_bitCount 25 = .ok (.iload_n 0, 1) := by decide +kernel
theorem qd_J_bitCount_26 : decode qc_J_bitCount 26 = .ok (.iconst 4, 1) := by decide +kernel
theorem qd_J_bitCount_27 : decode qc_J_bitCount 27 = .ok (.iushr, 1) := by decide +kernel
theorem qd_J_bitCount_28 : decode qc_J_bitCount 28 = .ok (.iadd, 1) := by decide +kernel
theorem qd_J_bitCount_29 : decode qc_J_bitCount 29 = .ok (.ldc_w 267, 3) := by decide +kernel
theorem qd_J_bitCount_32 : decode qc_J_bitCount 32 = .ok (.iand, 1) := by decide +kernel
theorem qd_J_bitCount_33 : decode qc_J_bitCount 33 = .ok (.istore_n 0, 1) := by decide +kernel
theorem qd_J_bitCount_34 : decode qc_J_bitCount 34 = .ok (.iload_n 0, 1) := by decide +kernel
theorem qd_J_bitCount_35 : decode qc_J_bitCount 35 = .ok (.iload_n 0, 1) := by decide +kernel
theorem qd_J_bitCount_36 : decode qc_J_bitCount 36 = .ok (.bipush 8, 2) := by decide +kernel
theorem qd_J_bitCount_38 : decode qc_J_bitCount 38 = .ok (.iushr, 1) := by decide +kernel
theorem qd_J_bitCount_39 : decode qc_J_bitCount 39 = .ok (.iadd, 1) := by decide +kernel
theorem qd_J_bitCount_40 : decode qc_J_bitCount 40 = .ok (.istore_n 0, 1) := by decide +kernel
theorem qd_J_bitCount_41 : decode qc_J_bitCount 41 = .ok (.iload_n 0, 1) := by decide +kernel
theorem qd_J_bitCount_42 : decode qc_J_bitCount 42 = .ok (.iload_n 0, 1) := by decide +kernel
theorem qd_J_bitCount_43 : decode qc_J_bitCount 43 = .ok (.bipush 16, 2) := by decide +kernel
theorem qd_J_bitCount_45 : decode qc_J_bitCount 45 = .ok (.iushr, 1) := by decide +kernel
theorem qd_J_bitCount_46 : decode qc_J_bitCount 46 = .ok (.iadd, 1) := by decide +kernel
theorem qd_J_bitCount_47 : decode qc_J_bitCount 47 = .ok (.istore_n 0, 1) := by decide +kernel
theorem qd_J_bitCount_48 : decode qc_J_bitCount 48 = .ok (.iload_n 0, 1) := by decide +kernel
theorem qd_J_bitCount_49 : decode qc_J_bitCount 49 = .ok (.bipush 63, 2) := by decide +kernel
theorem qd_J_bitCount_51 : decode qc_J_bitCount 51 = .ok (.iand, 1) := by decide +kernel
theorem qd_J_bitCount_52 : decode qc_J_bitCount 52 = .ok (.ireturn, 1) := by decide +kernel
set_option maxHeartbeats 4000000 in
set_option maxRecDepth 100000 in
theorem c_J_bitCount (l : Launch) (dC : Nat → ClassId) (dI : Nat → Nat → Nat) (cA : ClassId) (p0 : Int32) : Met l qy_J_bitCount qw_J_bitCount ({ frames := 0, cells := 0, slots := 0, locals := 0 }) (va_Pc [.int p0] (xP (dC, dI) [(cA, .int)] [] nestN)) (vp_Si (fun r => r = f_J_bitCount p0)) 0 0 (fun _ => False) := by
  refine Met.ofW (cc := qc_J_bitCount) (maxL := 1) (ret := (some .int)) (by decide) rfl ?_
  intro p e s m args below meth c s₁ B hml hv
  obtain ⟨rfl, hP, hK, hN⟩ := hv
  have hx := B.exec
  have hb := B.bytes
  have hr := B.returns
  have hts := atoms_spec (ws := qw_J_bitCount) B.pre
  have hg : ∀ w ∈ gG, w.before _ s = true := fun w h => hts w (List.mem_cons_of_mem _ h)
  have hown : s.vm.findClass "java/lang/Integer" = some m.cls := findClass_of_methodNamed B.named
  have hlocks := B.notSynchronized
  have hP : va_P (dC, dI) vwCl [] s.heap := hP
  have hl := lv_entry ([.int p0]) (n := 1) (Nat.le_of_ble_eq_true rfl)
  rw [lg_entry_eq]
  generalize (lg_sl ([.int p0]) ++ List.replicate (1 - (lg_sl ([.int p0])).length) Slot.unset).toArray = ls at hl ⊢
  have hl : lv_has ls 1 [(0, .int p0)] := hl
  generalize hF : f_J_bitCount p0 = Fv
  have hres : Fv = f_J_bitCount p0 := hF.symm
  unfold f_J_bitCount at hres
  refine lv_iload_n hx hb qd_J_bitCount_0 rfl (lv_at hl 0 rfl) ?_
  refine lv_iload_n hx hb qd_J_bitCount_1 rfl (lv_at hl 0 rfl) ?_
  refine lv_iconst (v := 1) hx hb qd_J_bitCount_2 (by decide) ?_
  refine lv_iushr hx hb qd_J_bitCount_3 rfl ?_
  refine lv_ldcw (v := 1431655765) hx hb hown (hg _ mw_290) qd_J_bitCount_4 ?_
  refine lv_iand hx hb qd_J_bitCount_7 ?_
  refine lv_isub hx hb qd_J_bitCount_8 ?_
  refine lv_istore_n (lv' := [(0, .int (p0 - (((p0.toUInt32 >>> ((1 : Int32).toUInt32 &&& Int32.toUInt32 31)).toInt32) &&& 1431655765)))]) hx hb qd_J_bitCount_9 rfl hl (by decide) rfl (fun ls hl => ?_)
  refine lv_iload_n hx hb qd_J_bitCount_10 rfl (lv_at hl 0 rfl) ?_
  refine lv_ldcw (v := 858993459) hx hb hown (hg _ mw_291) qd_J_bitCount_11 ?_
  refine lv_iand hx hb qd_J_bitCount_14 ?_
  refine lv_iload_n hx hb qd_J_bitCount_15 rfl (lv_at hl 0 rfl) ?_
  refine lv_iconst (v := 2) hx hb qd_J_bitCount_16 (by decide) ?_
  refine lv_iushr hx hb qd_J_bitCount_17 rfl ?_
  refine lv_ldcw (v := 858993459) hx hb hown (hg _ mw_291) qd_J_bitCount_18 ?_
  refine lv_iand hx hb qd_J_bitCount_21 ?_
  refine lv_iadd hx hb qd_J_bitCount_22 ?_
  refine lv_istore_n (lv' := [(0, .int (((p0 - (((p0.toUInt32 >>> ((1 : Int32).toUInt32 &&& Int32.toUInt32 31)).toInt32) &&& 1431655765)) &&& 858993459) + ((((p0 - (((p0.toUInt32 >>> ((1 : Int32).toUInt32 &&& Int32.toUInt32 31)).toInt32) &&& 1431655765)).toUInt32 >>> ((2 : Int32).toUInt32 &&& Int32.toUInt32 31)).toInt32) &&& 858993459)))]) hx hb qd_J_bitCount_23 rfl hl (by decide) rfl (fun ls hl => ?_)
  refine lv_iload_n hx hb qd_J_bitCount_24 rfl (lv_at hl 0 rfl) ?_
  refine lv_iload_n hx hb qd_J_bitCount_25 rfl (lv_at hl 0 rfl) ?_
  refine lv_iconst (v := 4) hx hb qd_J_bitCount_26 (by decide) ?_
  refine lv_iushr hx hb qd_J_bitCount_27 rfl ?_
  refine lv_iadd hx hb qd_J_bitCount_28 ?_
  refine lv_ldcw (v := 252645135) hx hb hown (hg _ mw_292) qd_J_bitCount_29 ?_
  refine lv_iand hx hb qd_J_bitCount_32 ?_
  refine lv_istore_n (lv' := [(0, .int (((((p0 - (((p0.toUInt32 >>> ((1 : Int32).toUInt32 &&& Int32.toUInt32 31)).toInt32) &&& 1431655765)) &&& 858993459) + ((((p0 - (((p0.toUInt32 >>> ((1 : Int32).toUInt32 &&& Int32.toUInt32 31)).toInt32) &&& 1431655765)).toUInt32 >>> ((2 : Int32).toUInt32 &&& Int32.toUInt32 31)).toInt32) &&& 858993459)) + (((((p0 - (((p0.toUInt32 >>> ((1 : Int32).toUInt32 &&& Int32.toUInt32 31)).toInt32) &&& 1431655765)) &&& 858993459) + ((((p0 - (((p0.toUInt32 >>> ((1 : Int32).toUInt32 &&& Int32.toUInt32 31)).toInt32) &&& 1431655765)).toUInt32 >>> ((2 : Int32).toUInt32 &&& Int32.toUInt32 31)).toInt32) &&& 858993459)).toUInt32 >>> ((4 : Int32).toUInt32 &&& Int32.toUInt32 31)).toInt32)) &&& 252645135))]) hx hb qd_J_bitCount_33 rfl hl (by decide) rfl (fun ls hl => ?_)
  refine lv_iload_n hx hb qd_J_bitCount_34 rfl (lv_at hl 0 rfl) ?_
  refine lv_iload_n hx hb qd_J_bitCount_35 rfl (lv_at hl 0 rfl) ?_
  refine lv_bipush (v := 8) hx hb qd_J_bitCount_36 (by decide) ?_
  refine lv_iushr hx hb qd_J_bitCount_38 rfl ?_
  refine lv_iadd hx hb qd_J_bitCount_39 ?_
  refine lv_istore_n (lv' := [(0, .int ((((((p0 - (((p0.toUInt32 >>> ((1 : Int32).toUInt32 &&& Int32.toUInt32 31)).toInt32) &&& 1431655765)) &&& 858993459) + ((((p0 - (((p0.toUInt32 >>> ((1 : Int32).toUInt32 &&& Int32.toUInt32 31)).toInt32) &&& 1431655765)).toUInt32 >>> ((2 : Int32).toUInt32 &&& Int32.toUInt32 31)).toInt32) &&& 858993459)) + (((((p0 - (((p0.toUInt32 >>> ((1 : Int32).toUInt32 &&& Int32.toUInt32 31)).toInt32) &&& 1431655765)) &&& 858993459) + ((((p0 - (((p0.toUInt32 >>> ((1 : Int32).toUInt32 &&& Int32.toUInt32 31)).toInt32) &&& 1431655765)).toUInt32 >>> ((2 : Int32).toUInt32 &&& Int32.toUInt32 31)).toInt32) &&& 858993459)).toUInt32 >>> ((4 : Int32).toUInt32 &&& Int32.toUInt32 31)).toInt32)) &&& 252645135) + (((((((p0 - (((p0.toUInt32 >>> ((1 : Int32).toUInt32 &&& Int32.toUInt32 31)).toInt32) &&& 1431655765)) &&& 858993459) + ((((p0 - (((p0.toUInt32 >>> ((1 : Int32).toUInt32 &&& Int32.toUInt32 31)).toInt32) &&& 1431655765)).toUInt32 >>> ((2 : Int32).toUInt32 &&& Int32.toUInt32 31)).toInt32) &&& 858993459)) + (((((p0 - (((p0.toUInt32 >>> ((1 : Int32).toUInt32 &&& Int32.toUInt32 31)).toInt32) &&& 1431655765)) &&& 858993459) + ((((p0 - (((p0.toUInt32 >>> ((1 : Int32).toUInt32 &&& Int32.toUInt32 31)).toInt32) &&& 1431655765)).toUInt32 >>> ((2 : Int32).toUInt32 &&& Int32.toUInt32 31)).toInt32) &&& 858993459)).toUInt32 >>> ((4 : Int32).toUInt32 &&& Int32.toUInt32 31)).toInt32)) &&& 252645135).toUInt32 >>> ((8 : Int32).toUInt32 &&& Int32.toUInt32 31)).toInt32)))]) hx hb qd_J_bitCount_40 rfl hl (by decide) rfl (fun ls hl => ?_)
  refine lv_iload_n hx hb qd_J_bitCount_41 rfl (lv_at hl 0 rfl) ?_
  refine lv_iload_n hx hb qd_J_bitCount_42 rfl (lv_at hl 0 rfl) ?_
  refine lv_bipush (v := 16) hx hb qd_J_bitCount_43 (by decide) ?_
  refine lv_iushr hx hb qd_J_bitCount_45 rfl ?_
  refine lv_iadd hx hb qd_J_bitCount_46 ?_
  refine lv_istore_n (lv' := [(0, .int (((((((p0 - (((p0.toUInt32 >>> ((1 : Int32).toUInt32 &&& Int32.toUInt32 31)).toInt32) &&& 1431655765)) &&& 858993459) + ((((p0 - (((p0.toUInt32 >>> ((1 : Int32).toUInt32 &&& Int32.toUInt32 31)).toInt32) &&& 1431655765)).toUInt32 >>> ((2 : Int32).toUInt32 &&& Int32.toUInt32 31)).toInt32) &&& 858993459)) + (((((p0 - (((p0.toUInt32 >>> ((1 : Int32).toUInt32 &&& Int32.toUInt32 31)).toInt32) &&& 1431655765)) &&& 858993459) + ((((p0 - (((p0.toUInt32 >>> ((1 : Int32).toUInt32 &&& Int32.toUInt32 31)).toInt32) &&& 1431655765)).toUInt32 >>> ((2 : Int32).toUInt32 &&& Int32.toUInt32 31)).toInt32) &&& 858993459)).toUInt32 >>> ((4 : Int32).toUInt32 &&& Int32.toUInt32 31)).toInt32)) &&& 252645135) + (((((((p0 - (((p0.toUInt32 >>> ((1 : Int32).toUInt32 &&& Int32.toUInt32 31)).toInt32) &&& 1431655765)) &&& 858993459) + ((((p0 - (((p0.toUInt32 >>> ((1 : Int32).toUInt32 &&& Int32.toUInt32 31)).toInt32) &&& 1431655765)).toUInt32 >>> ((2 : Int32).toUInt32 &&& Int32.toUInt32 31)).toInt32) &&& 858993459)) + (((((p0 - (((p0.toUInt32 >>> ((1 : Int32).toUInt32 &&& Int32.toUInt32 31)).toInt32) &&& 1431655765)) &&& 858993459) + ((((p0 - (((p0.toUInt32 >>> ((1 : Int32).toUInt32 &&& Int32.toUInt32 31)).toInt32) &&& 1431655765)).toUInt32 >>> ((2 : Int32).toUInt32 &&& Int32.toUInt32 31)).toInt32) &&& 858993459)).toUInt32 >>> ((4 : Int32).toUInt32 &&& Int32.toUInt32 31)).toInt32)) &&& 252645135).toUInt32 >>> ((8 : Int32).toUInt32 &&& Int32.toUInt32 31)).toInt32)) + ((((((((p0 - (((p0.toUInt32 >>> ((1 : Int32).toUInt32 &&& Int32.toUInt32 31)).toInt32) &&& 1431655765)) &&& 858993459) + ((((p0 - (((p0.toUInt32 >>> ((1 : Int32).toUInt32 &&& Int32.toUInt32 31)).toInt32) &&& 1431655765)).toUInt32 >>> ((2 : Int32).toUInt32 &&& Int32.toUInt32 31)).toInt32) &&& 858993459)) + (((((p0 - (((p0.toUInt32 >>> ((1 : Int32).toUInt32 &&& Int32.toUInt32 31)).toInt32) &&& 1431655765)) &&& 858993459) + ((((p0 - (((p0.toUInt32 >>> ((1 : Int32).toUInt32 &&& Int32.toUInt32 31)).toInt32) &&& 1431655765)).toUInt32 >>> ((2 : Int32).toUInt32 &&& Int32.toUInt32 31)).toInt32) &&& 858993459)).toUInt32 >>> ((4 : Int32).toUInt32 &&& Int32.toUInt32 31)).toInt32)) &&& 252645135) + (((((((p0 - (((p0.toUInt32 >>> ((1 : Int32).toUInt32 &&& Int32.toUInt32 31)).toInt32) &&& 1431655765)) &&& 858993459) + ((((p0 - (((p0.toUInt32 >>> ((1 : Int32).toUInt32 &&& Int32.toUInt32 31)).toInt32) &&& 1431655765)).toUInt32 >>> ((2 : Int32).toUInt32 &&& Int32.toUInt32 31)).toInt32) &&& 858993459)) + (((((p0 - (((p0.toUInt32 >>> ((1 : Int32).toUInt32 &&& Int32.toUInt32 31)).toInt32) &&& 1431655765)) &&& 858993459) + ((((p0 - (((p0.toUInt32 >>> ((1 : Int32).toUInt32 &&& Int32.toUInt32 31)).toInt32) &&& 1431655765)).toUInt32 >>> ((2 : Int32).toUInt32 &&& Int32.toUInt32 31)).toInt32) &&& 858993459)).toUInt32 >>> ((4 : Int32).toUInt32 &&& Int32.toUInt32 31)).toInt32)) &&& 252645135).toUInt32 >>> ((8 : Int32).toUInt32 &&& Int32.toUInt32 31)).toInt32)).toUInt32 >>> ((16 : Int32).toUInt32 &&& Int32.toUInt32 31)).toInt32)))]) hx hb qd_J_bitCount_47 rfl hl (by decide) rfl (fun ls hl => ?_)
  refine lv_iload_n hx hb qd_J_bitCount_48 rfl (lv_at hl 0 rfl) ?_
  refine lv_bipush (v := 63) hx hb qd_J_bitCount_49 (by decide) ?_
  refine lv_iand hx hb qd_J_bitCount_51 ?_
  exact W.iret (v := (((((((p0 - (((p0.toUInt32 >>> ((1 : Int32).toUInt32 &&& Int32.toUInt32 31)).toInt32) &&& 1431655765)) &&& 858993459) + ((((p0 - (((p0.toUInt32 >>> ((1 : Int32).toUInt32 &&& Int32.toUInt32 31)).toInt32) &&& 1431655765)).toUInt32 >>> ((2 : Int32).toUInt32 &&& Int32.toUInt32 31)).toInt32) &&& 858993459)) + (((((p0 - (((p0.toUInt32 >>> ((1 : Int32).toUInt32 &&& Int32.toUInt32 31)).toInt32) &&& 1431655765)) &&& 858993459) + ((((p0 - (((p0.toUInt32 >>> ((1 : Int32).toUInt32 &&& Int32.toUInt32 31)).toInt32) &&& 1431655765)).toUInt32 >>> ((2 : Int32).toUInt32 &&& Int32.toUInt32 31)).toInt32) &&& 858993459)).toUInt32 >>> ((4 : Int32).toUInt32 &&& Int32.toUInt32 31)).toInt32)) &&& 252645135) + (((((((p0 - (((p0.toUInt32 >>> ((1 : Int32).toUInt32 &&& Int32.toUInt32 31)).toInt32) &&& 1431655765)) &&& 858993459) + ((((p0 - (((p0.toUInt32 >>> ((1 : Int32).toUInt32 &&& Int32.toUInt32 31)).toInt32) &&& 1431655765)).toUInt32 >>> ((2 : Int32).toUInt32 &&& Int32.toUInt32 31)).toInt32) &&& 858993459)) + (((((p0 - (((p0.toUInt32 >>> ((1 : Int32).toUInt32 &&& Int32.toUInt32 31)).toInt32) &&& 1431655765)) &&& 858993459) + ((((p0 - (((p0.toUInt32 >>> ((1 : Int32).toUInt32 &&& Int32.toUInt32 31)).toInt32) &&& 1431655765)).toUInt32 >>> ((2 : Int32).toUInt32 &&& Int32.toUInt32 31)).toInt32) &&& 858993459)).toUInt32 >>> ((4 : Int32).toUInt32 &&& Int32.toUInt32 31)).toInt32)) &&& 252645135).toUInt32 >>> ((8 : Int32).toUInt32 &&& Int32.toUInt32 31)).toInt32)) + ((((((((p0 - (((p0.toUInt32 >>> ((1 : Int32).toUInt32 &&& Int32.toUInt32 31)).toInt32) &&& 1431655765)) &&& 858993459) + ((((p0 - (((p0.toUInt32 >>> ((1 : Int32).toUInt32 &&& Int32.toUInt32 31)).toInt32) &&& 1431655765)).toUInt32 >>> ((2 : Int32).toUInt32 &&& Int32.toUInt32 31)).toInt32) &&& 858993459)) + (((((p0 - (((p0.toUInt32 >>> ((1 : Int32).toUInt32 &&& Int32.toUInt32 31)).toInt32) &&& 1431655765)) &&& 858993459) + ((((p0 - (((p0.toUInt32 >>> ((1 : Int32).toUInt32 &&& Int32.toUInt32 31)).toInt32) &&& 1431655765)).toUInt32 >>> ((2 : Int32).toUInt32 &&& Int32.toUInt32 31)).toInt32) &&& 858993459)).toUInt32 >>> ((4 : Int32).toUInt32 &&& Int32.toUInt32 31)).toInt32)) &&& 252645135) + (((((((p0 - (((p0.toUInt32 >>> ((1 : Int32).toUInt32 &&& Int32.toUInt32 31)).toInt32) &&& 1431655765)) &&& 858993459) + ((((p0 - (((p0.toUInt32 >>> ((1 : Int32).toUInt32 &&& Int32.toUInt32 31)).toInt32) &&& 1431655765)).toUInt32 >>> ((2 : Int32).toUInt32 &&& Int32.toUInt32 31)).toInt32) &&& 858993459)) + (((((p0 - (((p0.toUInt32 >>> ((1 : Int32).toUInt32 &&& Int32.toUInt32 31)).toInt32) &&& 1431655765)) &&& 858993459) + ((((p0 - (((p0.toUInt32 >>> ((1 : Int32).toUInt32 &&& Int32.toUInt32 31)).toInt32) &&& 1431655765)).toUInt32 >>> ((2 : Int32).toUInt32 &&& Int32.toUInt32 31)).toInt32) &&& 858993459)).toUInt32 >>> ((4 : Int32).toUInt32 &&& Int32.toUInt32 31)).toInt32)) &&& 252645135).toUInt32 >>> ((8 : Int32).toUInt32 &&& Int32.toUInt32 31)).toInt32)).toUInt32 >>> ((16 : Int32).toUInt32 &&& Int32.toUInt32 31)).toInt32)) &&& 63) hx hb hr (fun t ht hW => ⟨_, rfl, hres.symm, ht⟩) (fun _ h => nomatch h) qd_J_bitCount_52
