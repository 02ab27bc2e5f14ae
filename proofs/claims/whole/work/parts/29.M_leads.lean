theorem qd_M_leads_0 : decode qc_M_leads 0 = .ok (.iconst 0, 1) := by decide +kernel
theorem qd_M_leads_1 : decode qc_M_leads 1 = .ok (.istore_n 3, 1) := by decide +kernel
theorem qd_M_leads_2 : decode qc_M_leads 2 = .ok (.iload_n 3, 1) := by decide +kernel
theorem qd_M_leads_3 : decode qc_M_leads 3 = .ok (.bipush 100, 2) := by decide +kernel
theorem qd_M_leads_5 : decode qc_M_leads 5 = .ok (.if_icmp .ge 31, 3) := by decide +kernel
theorem qd_M_leads_8 : decode qc_M_leads 8 = .ok (.aload_n 0, 1) := by decide +kernel
theorem qd_M_leads_9 : decode qc_M_leads 9 = .ok (.getfield 28, 3) := by decide +kernel
theorem qd_M_leads_12 : decode qc_M_leads 12 = .ok (.iload_n 3, 1) := by decide +kernel
theorem qd_M_leads_13 : decode qc_M_leads 13 = .ok (.iload_n 3, 1) := by decide +kernel
theorem qd_M_leads_14 : decode qc_M_leads 14 = .ok (.bipush 10, 2) := by decide +kernel
theorem qd_M_leads_16 : decode qc_M_leads 16 = .ok (.idiv, 1) := by decide +kernel
theorem qd_M_leads_17 : decode qc_M_leads 17 = .ok (.iload_n 3, 1) := by decide +kernel
theorem qd_M_leads_18 : decode qc_M_leads 18 = .ok (.bipush 10, 2) := by decide +kernel
theorem qd_M_leads_20 : decode qc_M_leads 20 = .ok (.irem, 1) := by decide +kernel
theorem qd_M_leads_21 : decode qc_M_leads 21 = .ok (.if_icmp .ne 7, 3) := by decide +kernel
theorem qd_M_leads_24 : decode qc_M_leads 24 = .ok (.iconst 1, 1) := by decide +kernel
theorem qd_M_leads_25 : decode qc_M_leads 25 = .ok (.goto 4, 3) := by decide +kernel
theorem qd_M_leads_28 : decode qc_M_leads 28 = .ok (.iconst 0, 1) := by decide +kernel
theorem qd_M_leads_29 : decode qc_M_leads 29 = .ok (.bastore, 1) := by decide +kernel
theorem qd_M_leads_30 : decode qc_M_leads 30 = .ok (.iinc 3 1, 3) := by decide +kernel
theorem qd_M_leads_33 : decode qc_M_leads 33 = .ok (.goto (-31), 3) := by decide +kernel
theorem qd_M_leads_36 : decode qc_M_leads 36 = .ok (.iconst 1, 1) := by decide +kernel
theorem qd_M_leads_37 : decode qc_M_leads 37 = .ok (.istore_n 3, 1) := by decide +kernel
theorem qd_M_leads_38 : decode qc_M_leads 38 = .ok (.iload_n 3, 1) := by decide +kernel
theorem qd_M_leads_39 : decode qc_M_leads 39 = .ok (.ifCond .eq 150, 3) := by decide +kernel
theorem qd_M_leads_42 : decode qc_M_leads 42 = .ok (.iconst 0, 1) := by decide +kernel
theorem qd_M_leads_43 : decode qc_M_leads 43 = .ok (.istore_n 3, 1) := by decide +kernel
theorem qd_M_leads_44 : decode qc_M_leads 44 = .ok (.iconst 0, 1) := by decide +kernel
theorem qd_M_leads_45 : decode qc_M_leads 45 = .ok (.istore 4, 2) := by decide +kernel
theorem qd_M_leads_47 : decode qc_M_leads 47 = .ok (.iload 4, 2) := by decide +kernel
theorem qd_M_leads_49 : decode qc_M_leads 49 = .ok (.aload_n 0, 1) := by decide +kernel
theorem qd_M_leads_50 : decode qc_M_leads 50 = .ok (.getfield 51, 3) := by decide +kernel
theorem qd_M_leads_53 : decode qc_M_leads 53 = .ok (.if_icmp .ge 133, 3) := by decide +kernel
theorem qd_M_leads_56 : decode qc_M_leads 56 = .ok (.aload_n 0, 1) := by decide +kernel
theorem qd_M_leads_57 : decode qc_M_leads 57 = .ok (.getfield 13, 3) := by decide +kernel
theorem qd_M_leads_60 : decode qc_M_leads 60 = .ok (.iconst 3, 1) := by decide +kernel
theorem qd_M_leads_61 : decode qc_M_leads 61 = .ok (.iload 4, 2) := by decide +kernel
theorem qd_M_leads_63 : decode qc_M_leads 63 = .ok (.imul, 1) := by decide +kernel
theorem qd_M_leads_64 : decode qc_M_leads 64 = .ok (.iaload, 1) := by decide +kernel
theorem qd_M_leads_65 : decode qc_M_leads 65 = .ok (.bipush 10, 2) := by decide +kernel
theorem qd_M_leads_67 : decode qc_M_leads 67 = .ok (.if_icmp .ge 22, 3) := by decide +kernel
theorem qd_M_leads_70 : decode qc_M_leads 70 = .ok (.aload_n 0, 1) := by decide +kernel
theorem qd_M_leads_71 : decode qc_M_leads 71 = .ok (.getfield 13, 3) := by decide +kernel
theorem qd_M_leads_74 : decode qc_M_leads 74 = .ok (.iconst 3, 1) := by decide +kernel
theorem qd_M_leads_75 : decode qc_M_leads 75 = .ok (.iload 4, 2) := by decide +kernel
theorem qd_M_leads_77 : decode qc_M_leads 77 = .ok (.imul, 1) := by decide +kernel
theorem qd_M_leads_78 : decode qc_M_leads 78 = .ok (.iconst 1, 1) := by decide +kernel
theorem qd_M_leads_79 : decode qc_M_leads 79 = .ok (.iadd, 1) := by decide +kernel
theorem qd_M_leads_80 : decode qc_M_leads 80 = .ok (.iaload, 1) := by decide +kernel
theorem qd_M_leads_81 : decode qc_M_leads 81 = .ok (.iconst (-1), 1) := by decide +kernel
theorem qd_M_leads_82 : decode qc_M_leads 82 = .ok (.if_icmp .ne 7, 3) := by decide +kernel
theorem qd_M_leads_85 : decode qc_M_leads 85 = .ok (.iconst 1, 1) := by decide +kernel
theorem qd_M_leads_86 : decode qc_M_leads 86 = .ok (.goto 4, 3) := by decide +kernel
theorem qd_M_leads_89 : decode qc_M_leads 89 = .ok (.iconst 0, 1) := by decide +kernel
theorem qd_M_leads_90 : decode qc_M_leads 90 = .ok (.istore 5, 2) := by decide +kernel
theorem qd_M_leads_92 : decode qc_M_leads 92 = .ok (.iconst 0, 1) := by decide +kernel
theorem qd_M_leads_93 : decode qc_M_leads 93 = .ok (.istore 6, 2) := by decide +kernel
theorem qd_M_leads_95 : decode qc_M_leads 95 = .ok (.iload 6, 2) := by decide +kernel
theorem qd_M_leads_97 : decode qc_M_leads 97 = .ok (.bipush 10, 2) := by decide +kernel
theorem qd_M_leads_99 : decode qc_M_leads 99 = .ok (.if_icmp .ge 81, 3) := by decide +kernel
theorem qd_M_leads_102 : decode qc_M_leads 102 = .ok (.iload 5, 2) := by decide +kernel
theorem qd_M_leads_104 : decode qc_M_leads 104 = .ok (.ifCond .eq 76, 3) := by decide +kernel
theorem qd_M_leads_107 : decode qc_M_leads 107 = .ok (.aload_n 0, 1) := by decide +kernel
theorem qd_M_leads_108 : decode qc_M_leads 108 = .ok (.getfield 28, 3) := by decide +kernel
theorem qd_M_leads_111 : decode qc_M_leads 111 = .ok (.bipush 10, 2) := by decide +kernel
theorem qd_M_leads_113 : decode qc_M_leads 113 = .ok (.iload 6, 2) := by decide +kernel
theorem qd_M_leads_115 : decode qc_M_leads 115 = .ok (.imul, 1) := by decide +kernel
theorem qd_M_leads_116 : decode qc_M_leads 116 = .ok (.aload_n 0, 1) := by decide +kernel
theorem qd_M_leads_117 : decode qc_M_leads 117 = .ok (.getfield 7, 3) := by decide +kernel
theorem qd_M_leads_120 : decode qc_M_leads 120 = .ok (.iload 4, 2) := by decide +kernel
theorem qd_M_leads_122 : decode qc_M_leads 122 = .ok (.iaload, 1) := by decide +kernel
theorem qd_M_leads_123 : decode qc_M_leads 123 = .ok (.iadd, 1) := by decide +kernel
theorem qd_M_leads_124 : decode qc_M_leads 124 = .ok (.baload, 1) := by decide +kernel
theorem qd_M_leads_125 : decode qc_M_leads 125 = .ok (.ifCond .eq 49, 3) := by decide +kernel
theorem qd_M_leads_128 : decode qc_M_leads 128 = .ok (.aload_n 0, 1) := by decide +kernel
theorem qd_M_leads_129 : decode qc_M_leads 129 = .ok (.getfield 28, 3) := by decide +kernel
theorem qd_M_leads_132 : decode qc_M_leads 132 = .ok (.bipush 10, 2) := by decide +kernel
theorem qd_M_leads_134 : decode qc_M_leads 134 = .ok (.iload 6, 2) := by decide +kernel
theorem qd_M_leads_136 : decode qc_M_leads 136 = .ok (.imul, 1) := by decide +kernel
theorem qd_M_leads_137 : decode qc_M_leads 137 = .ok (.aload_n 0, 1) := by decide +kernel
theorem qd_M_leads_138 : decode qc_M_leads 138 = .ok (.getfield 13, 3) := by decide +kernel
theorem qd_M_leads_141 : decode qc_M_leads 141 = .ok (.iconst 3, 1) := by decide +kernel
theorem qd_M_leads_142 : decode qc_M_leads 142 = .ok (.iload 4, 2) := by decide +kernel
theorem qd_M_leads_144 : decode qc_M_leads 144 = .ok (.imul, 1) := by decide +kernel
theorem qd_M_leads_145 : decode qc_M_leads 145 = .ok (.iaload, 1) := by decide +kernel
theorem qd_M_leads_146 : decode qc_M_leads 146 = .ok (.iadd, 1) := by decide +kernel
theorem qd_M_leads_147 : decode qc_M_leads 147 = .ok (.baload, 1) := by decide +kernel
theorem qd_M_leads_148 : decode qc_M_leads 148 = .ok (.ifCond .ne 26, 3) := by decide +kernel
theorem qd_M_leads_151 : decode qc_M_leads 151 = .ok (.aload_n 0, 1) := by decide +kernel
theorem qd_M_leads_152 : decode qc_M_leads 152 = .ok (.getfield 28, 3) := by decide +kernel
theorem qd_M_leads_155 : decode qc_M_leads 155 = .ok (.bipush 10, 2) := by decide +kernel
theorem qd_M_leads_157 : decode qc_M_leads 157 = .ok (.iload 6, 2) := by decide +kernel
theorem qd_M_leads_159 : decode qc_M_leads 159 = .ok (.imul, 1) := by decide +kernel
theorem qd_M_leads_160 : decode qc_M_leads 160 = .ok (.aload_n 0, 1) := by decide +kernel
theorem qd_M_leads_161 : decode qc_M_leads 161 = .ok (.getfield 13, 3) := by decide +kernel
theorem qd_M_leads_164 : decode qc_M_leads 164 = .ok (.iconst 3, 1) := by decide +kernel
theorem qd_M_leads_165 : decode qc_M_leads 165 = .ok (.iload 4, 2) := by decide +kernel
theorem qd_M_leads_167 : decode qc_M_leads 167 = .ok (.imul, 1) := by decide +kernel
theorem qd_M_leads_168 : decode qc_M_leads 168 = .ok (.iaload, 1) := by decide +kernel
theorem qd_M_leads_169 : decode qc_M_leads 169 = .ok (.iadd, 1) := by decide +kernel
theorem qd_M_leads_170 : decode qc_M_leads 170 = .ok (.iconst 1, 1) := by decide +kernel
theorem qd_M_leads_171 : decode qc_M_leads 171 = .ok (.bastore, 1) := by decide +kernel
theorem qd_M_leads_172 : decode qc_M_leads 172 = .ok (.iconst 1, 1) := by decide +kernel
theorem qd_M_leads_173 : decode qc_M_leads 173 = .ok (.istore_n 3, 1) := by decide +kernel
theorem qd_M_leads_174 : decode qc_M_leads 174 = .ok (.iinc 6 1, 3) := by decide +kernel
theorem qd_M_leads_177 : decode qc_M_leads 177 = .ok (.goto (-82), 3) := by decide +kernel
theorem qd_M_leads_180 : decode qc_M_leads 180 = .ok (.iinc 4 1, 3) := by decide +kernel
theorem qd_M_leads_183 : decode qc_M_leads 183 = .ok (.goto (-136), 3) := by decide +kernel
theorem qd_M_leads_186 : decode qc_M_leads 186 = .ok (.goto (-148), 3) := by decide +kernel
theorem qd_M_leads_189 : decode qc_M_leads 189 = .ok (.aload_n 0, 1) := by decide +kernel
theorem qd_M_leads_190 : decode qc_M_leads 190 = .ok (.getfield 28, 3) := by decide +kernel
theorem qd_M_leads_193 : decode qc_M_leads 193 = .ok (.bipush 10, 2) := by decide +kernel
theorem qd_M_leads_195 : decode qc_M_leads 195 = .ok (.iload_n 1, 1) := by decide +kernel
theorem qd_M_leads_196 : decode qc_M_leads 196 = .ok (.imul, 1) := by decide +kernel
theorem qd_M_leads_197 : decode qc_M_leads 197 = .ok (.iload_n 2, 1) := by decide +kernel
theorem qd_M_leads_198 : decode qc_M_leads 198 = .ok (.iadd, 1) := by decide +kernel
theorem qd_M_leads_199 : decode qc_M_leads 199 = .ok (.baload, 1) := by decide +kernel
theorem qd_M_leads_200 : decode qc_M_leads 200 = .ok (.ireturn, 1) := by decide +kernel
set_option maxHeartbeats 4000000 in
set_option maxRecDepth 100000 in
theorem c_M_leads (l : Launch) (dC : Nat → ClassId) (dI : Nat → Nat → Nat) (cA cZ : ClassId) (N_ : Nat) (aM aMh aMi aMc aMt aMn aMl aMs aMd aMe aMo aMw aMu : Nat) (sz : Nat) (vMT : Int32) (vMP : Int32) (vMK : Int32) (vMB : Int32) (vMD : Int32) (vME : Int32) (vMO : Int32) (vMF : Int32) (vMS : Int32) (vMX : Int32) (vMW : Int32) (vMh : (Nat → Int32)) (vMi : (Nat → Int32)) (vMs : (Nat → Int32)) (p0 : Int32) (p1 : Int32) (ho : o_M_leads N_ vMP vMh vMi vMs p0 p1) : Met l qy_M_leads qw_M_leads ({ frames := 0, cells := 0, slots := 0, locals := 0 }) (va_Pc [.ref aM, .int p0, .int p1] (fun U => U.heap.size = sz ∧ xP (dC, dI) [(cA, .int), (cZ, .boolean)] [(aM, .inr (7, [.int vMT, .int vMP, .ref aMh, .ref aMi, .ref aMc, .int vMK, .ref aMt, .int vMB, .ref aMn, .ref aMl, .ref aMs, .int vMD, .ref aMd, .int vME, .ref aMe, .int vMO, .ref aMo, .int vMF, .int vMS, .ref aMw, .ref aMu, .int vMX, .int vMW])), (aMh, .inl (cA, 24, .inl (vMh))), (aMi, .inl (cA, 72, .inl (vMi))), (aMs, .inl (cZ, 100, .inl (vMs)))] nestN U ∧ va_D (fun _ => True) [(aM, .inr (7, [.int vMT, .int vMP, .ref aMh, .ref aMi, .ref aMc, .int vMK, .ref aMt, .int vMB, .ref aMn, .ref aMl, .ref aMs, .int vMD, .ref aMd, .int vME, .ref aMe, .int vMO, .ref aMo, .int vMF, .int vMS, .ref aMw, .ref aMu, .int vMX, .int vMW])), (aMh, .inl (cA, 24, .inl (vMh))), (aMi, .inl (cA, 72, .inl (vMi))), (aMs, .inl (cZ, 100, .inl (vMs)))])) (va_Qi (fun r (u : Int32 × (Nat → Int32)) => u = f_M_leads N_ vMP vMh vMi vMs p0 p1 ∧ r = u.1) (fun (u : Int32 × (Nat → Int32)) t => xP (dC, dI) [(cA, .int), (cZ, .boolean)] [(aM, .inr (7, [.int vMT, .int vMP, .ref aMh, .ref aMi, .ref aMc, .int vMK, .ref aMt, .int vMB, .ref aMn, .ref aMl, .ref aMs, .int vMD, .ref aMd, .int vME, .ref aMe, .int vMO, .ref aMo, .int vMF, .int vMS, .ref aMw, .ref aMu, .int vMX, .int vMW])), (aMh, .inl (cA, 24, .inl (vMh))), (aMi, .inl (cA, 72, .inl (vMi))), (aMs, .inl (cZ, 100, .inl (u.2)))] nestN t ∧ va_D (va_A [(aM, .inr (7, [.int vMT, .int vMP, .ref aMh, .ref aMi, .ref aMc, .int vMK, .ref aMt, .int vMB, .ref aMn, .ref aMl, .ref aMs, .int vMD, .ref aMd, .int vME, .ref aMe, .int vMO, .ref aMo, .int vMF, .int vMS, .ref aMw, .ref aMu, .int vMX, .int vMW])), (aMh, .inl (cA, 24, .inl (vMh))), (aMi, .inl (cA, 72, .inl (vMi))), (aMs, .inl (cZ, 100, .inl (vMs)))] sz) [(aM, .inr (7, [.int vMT, .int vMP, .ref aMh, .ref aMi, .ref aMc, .int vMK, .ref aMt, .int vMB, .ref aMn, .ref aMl, .ref aMs, .int vMD, .ref aMd, .int vME, .ref aMe, .int vMO, .ref aMo, .int vMF, .int vMS, .ref aMw, .ref aMu, .int vMX, .int vMW])), (aMh, .inl (cA, 24, .inl (vMh))), (aMi, .inl (cA, 72, .inl (vMi))), (aMs, .inl (cZ, 100, .inl (u.2)))]) (va_A [(aM, .inr (7, [.int vMT, .int vMP, .ref aMh, .ref aMi, .ref aMc, .int vMK, .ref aMt, .int vMB, .ref aMn, .ref aMl, .ref aMs, .int vMD, .ref aMd, .int vME, .ref aMe, .int vMO, .ref aMo, .int vMF, .int vMS, .ref aMw, .ref aMu, .int vMX, .int vMW])), (aMh, .inl (cA, 24, .inl (vMh))), (aMi, .inl (cA, 72, .inl (vMi))), (aMs, .inl (cZ, 100, .inl (vMs)))] sz)) 0 0 (va_A [(aM, .inr (7, [.int vMT, .int vMP, .ref aMh, .ref aMi, .ref aMc, .int vMK, .ref aMt, .int vMB, .ref aMn, .ref aMl, .ref aMs, .int vMD, .ref aMd, .int vME, .ref aMe, .int vMO, .ref aMo, .int vMF, .int vMS, .ref aMw, .ref aMu, .int vMX, .int vMW])), (aMh, .inl (cA, 24, .inl (vMh))), (aMi, .inl (cA, 72, .inl (vMi))), (aMs, .inl (cZ, 100, .inl (vMs)))] sz) := by
  refine Met.ofW (cc := qc_M_leads) (maxL := 7) (ret := (some .boolean)) (by decide) rfl ?_
  intro p e s m args below meth c s₁ B hml hv
  obtain ⟨rfl, hsz, ⟨hP, hK, hN⟩, hD0⟩ := hv
  have hx := B.exec
  have hb := B.bytes
  have hr := B.returns
  have hts := atoms_spec (ws := qw_M_leads) B.pre
  have hg : ∀ w ∈ gG, w.before _ s = true := fun w h => hts w (List.mem_cons_of_mem _ h)
  have hown : s.vm.findClass qR_M = some m.cls := findClass_of_methodNamed B.named
  have hlocks := B.notSynchronized
  subst hsz
  have hD := hD0.self (sz := s.heap.size)
  generalize hAe : va_A [(aM, .inr (7, [.int vMT, .int vMP, .ref aMh, .ref aMi, .ref aMc, .int vMK, .ref aMt, .int vMB, .ref aMn, .ref aMl, .ref aMs, .int vMD, .ref aMd, .int vME, .ref aMe, .int vMO, .ref aMo, .int vMF, .int vMS, .ref aMw, .ref aMu, .int vMX, .int vMW])), (aMh, .inl (cA, 24, .inl (vMh))), (aMi, .inl (cA, 72, .inl (vMi))), (aMs, .inl (cZ, 100, .inl (vMs)))] s.heap.size = A at hD ⊢
  have hA : ∀ q : Nat, s.heap.size ≤ q → A q := fun q h => by rw [← hAe]; exact Or.inr h
  have hS : va_S A s.heap s.heap [] := va_S.rf
  have hP : va_P (dC, dI) vwCl [(aM, .inr (7, [.int vMT, .int vMP, .ref aMh, .ref aMi, .ref aMc, .int vMK, .ref aMt, .int vMB, .ref aMn, .ref aMl, .ref aMs, .int vMD, .ref aMd, .int vME, .ref aMe, .int vMO, .ref aMo, .int vMF, .int vMS, .ref aMw, .ref aMu, .int vMX, .int vMW])), (aMh, .inl (cA, 24, .inl (vMh))), (aMi, .inl (cA, 72, .inl (vMi))), (aMs, .inl (cZ, 100, .inl (vMs)))] s.heap := hP
  have hl := lv_entry ([.ref aM, .int p0, .int p1]) (n := 7) (Nat.le_of_ble_eq_true rfl)
  rw [lg_entry_eq]
  generalize (lg_sl ([.ref aM, .int p0, .int p1]) ++ List.replicate (7 - (lg_sl ([.ref aM, .int p0, .int p1])).length) Slot.unset).toArray = ls at hl ⊢
  have hl : lv_has ls 7 [(0, .ref aM), (1, .int p0), (2, .int p1)] := hl
  generalize hF : f_M_leads N_ vMP vMh vMi vMs p0 p1 = Fv
  have hres : Fv = f_M_leads N_ vMP vMh vMi vMs p0 p1 := hF.symm
  unfold f_M_leads at hres
  unfold o_M_leads at ho
  generalize hQ : MQ _ _ _ _ _ _ _ = Qg
  refine lv_iconst (v := 0) hx hb qd_M_leads_0 (by decide) ?_
  refine lv_istore_n (lv' := [(3, .int 0), (0, .ref aM), (1, .int p0), (2, .int p1)]) hx hb qd_M_leads_1 rfl hl (by decide) rfl (fun ls hl => ?_)
  have L_2 : ∀ (K_ : Int32 → (Nat → Int32) → Int32 × (Nat → Int32)) (Ko_ : Int32 → (Nat → Int32) → Prop) (hk : ∀ (x3_2 : Int32) (vMs_2 : (Nat → Int32)) (H : Heap) (locs : List Loc) (ls : Array Slot), va_P (dC, dI) vwCl [(aM, .inr (7, [.int vMT, .int vMP, .ref aMh, .ref aMi, .ref aMc, .int vMK, .ref aMt, .int vMB, .ref aMn, .ref aMl, .ref aMs, .int vMD, .ref aMd, .int vME, .ref aMe, .int vMO, .ref aMo, .int vMF, .int vMS, .ref aMw, .ref aMu, .int vMX, .int vMW])), (aMh, .inl (cA, 24, .inl (vMh))), (aMi, .inl (cA, 72, .inl (vMi))), (aMs, .inl (cZ, 100, .inl (vMs_2)))] H → va_D A [(aM, .inr (7, [.int vMT, .int vMP, .ref aMh, .ref aMi, .ref aMc, .int vMK, .ref aMt, .int vMB, .ref aMn, .ref aMl, .ref aMs, .int vMD, .ref aMd, .int vME, .ref aMe, .int vMO, .ref aMo, .int vMF, .int vMS, .ref aMw, .ref aMu, .int vMX, .int vMW])), (aMh, .inl (cA, 24, .inl (vMh))), (aMi, .inl (cA, 72, .inl (vMi))), (aMs, .inl (cZ, 100, .inl (vMs_2)))] → va_S A s.heap H locs → lv_has ls 7 [(3, .int x3_2), (0, .ref aM), (1, .int p0), (2, .int p1)] → Fv = K_ x3_2 vMs_2 → Ko_ x3_2 vMs_2 → W p l e ({ frames := 0, cells := 0, slots := 0, locals := 0 } : Room) s m (([.ref aM, .int p0, .int p1] : List Value).toArray) below meth c H locs 0 0 Qg (F0 m 36 ls [])) (n : Nat) (x3_2 : Int32) (vMs_2 : (Nat → Int32)) (H : Heap) (locs : List Loc) (ls : Array Slot), va_P (dC, dI) vwCl [(aM, .inr (7, [.int vMT, .int vMP, .ref aMh, .ref aMi, .ref aMc, .int vMK, .ref aMt, .int vMB, .ref aMn, .ref aMl, .ref aMs, .int vMD, .ref aMd, .int vME, .ref aMe, .int vMO, .ref aMo, .int vMF, .int vMS, .ref aMw, .ref aMu, .int vMX, .int vMW])), (aMh, .inl (cA, 24, .inl (vMh))), (aMi, .inl (cA, 72, .inl (vMi))), (aMs, .inl (cZ, 100, .inl (vMs_2)))] H → va_D A [(aM, .inr (7, [.int vMT, .int vMP, .ref aMh, .ref aMi, .ref aMc, .int vMK, .ref aMt, .int vMB, .ref aMn, .ref aMl, .ref aMs, .int vMD, .ref aMd, .int vME, .ref aMe, .int vMO, .ref aMo, .int vMF, .int vMS, .ref aMw, .ref aMu, .int vMX, .int vMW])), (aMh, .inl (cA, 24, .inl (vMh))), (aMi, .inl (cA, 72, .inl (vMi))), (aMs, .inl (cZ, 100, .inl (vMs_2)))] → va_S A s.heap H locs → lv_has ls 7 [(3, .int x3_2), (0, .ref aM), (1, .int p0), (2, .int p1)] → Fv = l_M_leads_2 K_ n x3_2 vMs_2 → ol_M_leads_2 Ko_ n x3_2 vMs_2 → W p l e ({ frames := 0, cells := 0, slots := 0, locals := 0 } : Room) s m (([.ref aM, .int p0, .int p1] : List Value).toArray) below meth c H locs 0 0 Qg (F0 m 2 ls []) := by
    intro K_ Ko_ hk n
    induction n with
    | zero => intro x3_2 vMs_2 H locs ls hP hD hS hl hres ho; exact ho.elim
    | succ n ih =>
      intro x3_2 vMs_2 H locs ls hP hD hS hl hres ho
      rw [l_M_leads_2, s_M_leads_2] at hres
      rw [ol_M_leads_2, os_M_leads_2] at ho
      refine lv_iload_n hx hb qd_M_leads_2 rfl (lv_at hl 0 rfl) ?_
      refine lv_bipush (v := 100) hx hb qd_M_leads_3 (by decide) ?_
      refine lv_icmp_ge (tgt := 36) hx hb qd_M_leads_5 (by decide) (fun c_5 => ?_) (fun c_5 => ?_)
      · have hres := hres.trans (if_pos c_5)
        have ho := (if_pos c_5).mp ho
        exact hk x3_2 vMs_2 H locs ls hP hD hS (lv_sub hl [0, 1, 2, 3] rfl) hres ho
      have hres := hres.trans (if_neg c_5)
      have ho := (if_neg c_5).mp ho
      refine lv_aload_n hx hb qd_M_leads_8 rfl (lv_at hl 1 rfl) ?_
      refine va_get (D := (dC, dI)) (ci := 7) (v := .ref aMs) (C := qR_M) (T := qT_M) (N := 23) hx hb hg qi_M hown hK hP 0 rfl rfl 10 (by decide) (hg _ mw_584) (fun _ h9 => h9) rfl qd_M_leads_9 ?_
      refine lv_iload_n hx hb qd_M_leads_12 rfl (lv_at hl 0 rfl) ?_
      refine lv_iload_n hx hb qd_M_leads_13 rfl (lv_at hl 0 rfl) ?_
      refine lv_bipush (v := 10) hx hb qd_M_leads_14 (by decide) ?_
      refine lv_idiv hx hb qd_M_leads_16 (by decide) ?_
      refine lv_iload_n hx hb qd_M_leads_17 rfl (lv_at hl 0 rfl) ?_
      refine lv_bipush (v := 10) hx hb qd_M_leads_18 (by decide) ?_
      refine lv_irem hx hb qd_M_leads_20 (by decide) ?_
      refine lv_icmp_ne (tgt := 28) hx hb qd_M_leads_21 (by decide) (fun c_21 => ?_) (fun c_21 => ?_)
      · have hres := hres.trans (if_neg c_21)
        have ho := (if_neg c_21).mp ho
        refine lv_iconst (v := 0) hx hb qd_M_leads_28 (by decide) ?_
        obtain ⟨g_29, ho⟩ := ho
        refine va_zast hx hb hK hP hD hS 3 1 rfl rfl g_29 qd_M_leads_29 (fun H locs hP hD hS => ?_)
        have hP : va_P (dC, dI) vwCl [(aM, .inr (7, [.int vMT, .int vMP, .ref aMh, .ref aMi, .ref aMc, .int vMK, .ref aMt, .int vMB, .ref aMn, .ref aMl, .ref aMs, .int vMD, .ref aMd, .int vME, .ref aMe, .int vMO, .ref aMo, .int vMF, .int vMS, .ref aMw, .ref aMu, .int vMX, .int vMW])), (aMh, .inl (cA, 24, .inl (vMh))), (aMi, .inl (cA, 72, .inl (vMi))), (aMs, .inl (cZ, 100, .inl (upd vMs_2 x3_2.toNatClampNeg (vp_nar .boolean 0))))] H := hP
        have hD : va_D A [(aM, .inr (7, [.int vMT, .int vMP, .ref aMh, .ref aMi, .ref aMc, .int vMK, .ref aMt, .int vMB, .ref aMn, .ref aMl, .ref aMs, .int vMD, .ref aMd, .int vME, .ref aMe, .int vMO, .ref aMo, .int vMF, .int vMS, .ref aMw, .ref aMu, .int vMX, .int vMW])), (aMh, .inl (cA, 24, .inl (vMh))), (aMi, .inl (cA, 72, .inl (vMi))), (aMs, .inl (cZ, 100, .inl (upd vMs_2 x3_2.toNatClampNeg (vp_nar .boolean 0))))] := hD
        refine lv_iinc (v := x3_2 + 1) (lv' := [(3, .int (x3_2 + 1)), (0, .ref aM), (1, .int p0), (2, .int p1)]) hx hb qd_M_leads_30 hl (k := 0) rfl (congrArg (fun z => _ + z) (by decide)) (by decide) rfl (fun ls hl => ?_)
        refine lv_goto (tgt := 2) hx hb qd_M_leads_33 (by decide) ?_
        exact ih (x3_2 + 1) (upd vMs_2 x3_2.toNatClampNeg (vp_nar .boolean 0)) H locs ls hP hD hS (lv_sub hl [0, 1, 2, 3] rfl) hres ho
      have hres := hres.trans (if_pos c_21)
      have ho := (if_pos c_21).mp ho
      refine lv_iconst (v := 1) hx hb qd_M_leads_24 (by decide) ?_
      refine lv_goto (tgt := 29) hx hb qd_M_leads_25 (by decide) ?_
      obtain ⟨g_29, ho⟩ := ho
      refine va_zast hx hb hK hP hD hS 3 1 rfl rfl g_29 qd_M_leads_29 (fun H locs hP hD hS => ?_)
      have hP : va_P (dC, dI) vwCl [(aM, .inr (7, [.int vMT, .int vMP, .ref aMh, .ref aMi, .ref aMc, .int vMK, .ref aMt, .int vMB, .ref aMn, .ref aMl, .ref aMs, .int vMD, .ref aMd, .int vME, .ref aMe, .int vMO, .ref aMo, .int vMF, .int vMS, .ref aMw, .ref aMu, .int vMX, .int vMW])), (aMh, .inl (cA, 24, .inl (vMh))), (aMi, .inl (cA, 72, .inl (vMi))), (aMs, .inl (cZ, 100, .inl (upd vMs_2 x3_2.toNatClampNeg (vp_nar .boolean 1))))] H := hP
      have hD : va_D A [(aM, .inr (7, [.int vMT, .int vMP, .ref aMh, .ref aMi, .ref aMc, .int vMK, .ref aMt, .int vMB, .ref aMn, .ref aMl, .ref aMs, .int vMD, .ref aMd, .int vME, .ref aMe, .int vMO, .ref aMo, .int vMF, .int vMS, .ref aMw, .ref aMu, .int vMX, .int vMW])), (aMh, .inl (cA, 24, .inl (vMh))), (aMi, .inl (cA, 72, .inl (vMi))), (aMs, .inl (cZ, 100, .inl (upd vMs_2 x3_2.toNatClampNeg (vp_nar .boolean 1))))] := hD
      refine lv_iinc (v := x3_2 + 1) (lv' := [(3, .int (x3_2 + 1)), (0, .ref aM), (1, .int p0), (2, .int p1)]) hx hb qd_M_leads_30 hl (k := 0) rfl (congrArg (fun z => _ + z) (by decide)) (by decide) rfl (fun ls hl => ?_)
      refine lv_goto (tgt := 2) hx hb qd_M_leads_33 (by decide) ?_
      exact ih (x3_2 + 1) (upd vMs_2 x3_2.toNatClampNeg (vp_nar .boolean 1)) H locs ls hP hD hS (lv_sub hl [0, 1, 2, 3] rfl) hres ho
  refine L_2 _ _ (fun x3_2 vMs_2 H locs ls hP hD hS hl hres ho => ?_) _ _ _ _ _ ls hP hD hS hl hres ho
  refine lv_iconst (v := 1) hx hb qd_M_leads_36 (by decide) ?_
  refine lv_istore_n (lv' := [(3, .int 1), (0, .ref aM), (1, .int p0), (2, .int p1)]) hx hb qd_M_leads_37 rfl hl (by decide) rfl (fun ls hl => ?_)
  have L_38 : ∀ (K_ : Int32 → (Nat → Int32) → Int32 × (Nat → Int32)) (Ko_ : Int32 → (Nat → Int32) → Prop) (hk : ∀ (x3_38 : Int32) (vMs_38 : (Nat → Int32)) (H : Heap) (locs : List Loc) (ls : Array Slot), va_P (dC, dI) vwCl [(aM, .inr (7, [.int vMT, .int vMP, .ref aMh, .ref aMi, .ref aMc, .int vMK, .ref aMt, .int vMB, .ref aMn, .ref aMl, .ref aMs, .int vMD, .ref aMd, .int vME, .ref aMe, .int vMO, .ref aMo, .int vMF, .int vMS, .ref aMw, .ref aMu, .int vMX, .int vMW])), (aMh, .inl (cA, 24, .inl (vMh))), (aMi, .inl (cA, 72, .inl (vMi))), (aMs, .inl (cZ, 100, .inl (vMs_38)))] H → va_D A [(aM, .inr (7, [.int vMT, .int vMP, .ref aMh, .ref aMi, .ref aMc, .int vMK, .ref aMt, .int vMB, .ref aMn, .ref aMl, .ref aMs, .int vMD, .ref aMd, .int vME, .ref aMe, .int vMO, .ref aMo, .int vMF, .int vMS, .ref aMw, .ref aMu, .int vMX, .int vMW])), (aMh, .inl (cA, 24, .inl (vMh))), (aMi, .inl (cA, 72, .inl (vMi))), (aMs, .inl (cZ, 100, .inl (vMs_38)))] → va_S A s.heap H locs → lv_has ls 7 [(3, .int x3_38), (0, .ref aM), (1, .int p0), (2, .int p1)] → Fv = K_ x3_38 vMs_38 → Ko_ x3_38 vMs_38 → W p l e ({ frames := 0, cells := 0, slots := 0, locals := 0 } : Room) s m (([.ref aM, .int p0, .int p1] : List Value).toArray) below meth c H locs 0 0 Qg (F0 m 189 ls [])) (n : Nat) (x3_38 : Int32) (vMs_38 : (Nat → Int32)) (H : Heap) (locs : List Loc) (ls : Array Slot), va_P (dC, dI) vwCl [(aM, .inr (7, [.int vMT, .int vMP, .ref aMh, .ref aMi, .ref aMc, .int vMK, .ref aMt, .int vMB, .ref aMn, .ref aMl, .ref aMs, .int vMD, .ref aMd, .int vME, .ref aMe, .int vMO, .ref aMo, .int vMF, .int vMS, .ref aMw, .ref aMu, .int vMX, .int vMW])), (aMh, .inl (cA, 24, .inl (vMh))), (aMi, .inl (cA, 72, .inl (vMi))), (aMs, .inl (cZ, 100, .inl (vMs_38)))] H → va_D A [(aM, .inr (7, [.int vMT, .int vMP, .ref aMh, .ref aMi, .ref aMc, .int vMK, .ref aMt, .int vMB, .ref aMn, .ref aMl, .ref aMs, .int vMD, .ref aMd, .int vME, .ref aMe, .int vMO, .ref aMo, .int vMF, .int vMS, .ref aMw, .ref aMu, .int vMX, .int vMW])), (aMh, .inl (cA, 24, .inl (vMh))), (aMi, .inl (cA, 72, .inl (vMi))), (aMs, .inl (cZ, 100, .inl (vMs_38)))] → va_S A s.heap H locs → lv_has ls 7 [(3, .int x3_38), (0, .ref aM), (1, .int p0), (2, .int p1)] → Fv = l_M_leads_38 N_ vMP vMh vMi K_ n x3_38 vMs_38 → ol_M_leads_38 N_ vMP vMh vMi Ko_ n x3_38 vMs_38 → W p l e ({ frames := 0, cells := 0, slots := 0, locals := 0 } : Room) s m (([.ref aM, .int p0, .int p1] : List Value).toArray) below meth c H locs 0 0 Qg (F0 m 38 ls []) := by
    intro K_ Ko_ hk n
    induction n with
    | zero => intro x3_38 vMs_38 H locs ls hP hD hS hl hres ho; exact ho.elim
    | succ n ih =>
      intro x3_38 vMs_38 H locs ls hP hD hS hl hres ho
      rw [l_M_leads_38, s_M_leads_38] at hres
      rw [ol_M_leads_38, os_M_leads_38] at ho
      refine lv_iload_n hx hb qd_M_leads_38 rfl (lv_at hl 0 rfl) ?_
      refine lv_if_eq (tgt := 189) hx hb qd_M_leads_39 (by decide) (fun c_39 => ?_) (fun c_39 => ?_)
      · have hres := hres.trans (if_pos c_39)
        have ho := (if_pos c_39).mp ho
        exact hk x3_38 vMs_38 H locs ls hP hD hS (lv_sub hl [0, 1, 2, 3] rfl) hres ho
      have hres := hres.trans (if_neg c_39)
      have ho := (if_neg c_39).mp ho
      refine lv_iconst (v := 0) hx hb qd_M_leads_42 (by decide) ?_
      refine lv_istore_n (lv' := [(3, .int 0), (0, .ref aM), (1, .int p0), (2, .int p1)]) hx hb qd_M_leads_43 rfl hl (by decide) rfl (fun ls hl => ?_)
      refine lv_iconst (v := 0) hx hb qd_M_leads_44 (by decide) ?_
      refine lv_istore (lv' := [(4, .int 0), (3, .int 0), (0, .ref aM), (1, .int p0), (2, .int p1)]) hx hb qd_M_leads_45 hl (by decide) rfl (fun ls hl => ?_)
      have L_47 : ∀ (K_ : Int32 → Int32 → (Nat → Int32) → Int32 × (Nat → Int32)) (Ko_ : Int32 → Int32 → (Nat → Int32) → Prop) (hk : ∀ (x3_47 : Int32) (x4_47 : Int32) (vMs_47 : (Nat → Int32)) (H : Heap) (locs : List Loc) (ls : Array Slot), va_P (dC, dI) vwCl [(aM, .inr (7, [.int vMT, .int vMP, .ref aMh, .ref aMi, .ref aMc, .int vMK, .ref aMt, .int vMB, .ref aMn, .ref aMl, .ref aMs, .int vMD, .ref aMd, .int vME, .ref aMe, .int vMO, .ref aMo, .int vMF, .int vMS, .ref aMw, .ref aMu, .int vMX, .int vMW])), (aMh, .inl (cA, 24, .inl (vMh))), (aMi, .inl (cA, 72, .inl (vMi))), (aMs, .inl (cZ, 100, .inl (vMs_47)))] H → va_D A [(aM, .inr (7, [.int vMT, .int vMP, .ref aMh, .ref aMi, .ref aMc, .int vMK, .ref aMt, .int vMB, .ref aMn, .ref aMl, .ref aMs, .int vMD, .ref aMd, .int vME, .ref aMe, .int vMO, .ref aMo, .int vMF, .int vMS, .ref aMw, .ref aMu, .int vMX, .int vMW])), (aMh, .inl (cA, 24, .inl (vMh))), (aMi, .inl (cA, 72, .inl (vMi))), (aMs, .inl (cZ, 100, .inl (vMs_47)))] → va_S A s.heap H locs → lv_has ls 7 [(4, .int x4_47), (3, .int x3_47), (0, .ref aM), (1, .int p0), (2, .int p1)] → Fv = K_ x3_47 x4_47 vMs_47 → Ko_ x3_47 x4_47 vMs_47 → W p l e ({ frames := 0, cells := 0, slots := 0, locals := 0 } : Room) s m (([.ref aM, .int p0, .int p1] : List Value).toArray) below meth c H locs 0 0 Qg (F0 m 186 ls [])) (n : Nat) (x3_47 : Int32) (x4_47 : Int32) (vMs_47 : (Nat → Int32)) (H : Heap) (locs : List Loc) (ls : Array Slot), va_P (dC, dI) vwCl [(aM, .inr (7, [.int vMT, .int vMP, .ref aMh, .ref aMi, .ref aMc, .int vMK, .ref aMt, .int vMB, .ref aMn, .ref aMl, .ref aMs, .int vMD, .ref aMd, .int vME, .ref aMe, .int vMO, .ref aMo, .int vMF, .int vMS, .ref aMw, .ref aMu, .int vMX, .int vMW])), (aMh, .inl (cA, 24, .inl (vMh))), (aMi, .inl (cA, 72, .inl (vMi))), (aMs, .inl (cZ, 100, .inl (vMs_47)))] H → va_D A [(aM, .inr (7, [.int vMT, .int vMP, .ref aMh, .ref aMi, .ref aMc, .int vMK, .ref aMt, .int vMB, .ref aMn, .ref aMl, .ref aMs, .int vMD, .ref aMd, .int vME, .ref aMe, .int vMO, .ref aMo, .int vMF, .int vMS, .ref aMw, .ref aMu, .int vMX, .int vMW])), (aMh, .inl (cA, 24, .inl (vMh))), (aMi, .inl (cA, 72, .inl (vMi))), (aMs, .inl (cZ, 100, .inl (vMs_47)))] → va_S A s.heap H locs → lv_has ls 7 [(4, .int x4_47), (3, .int x3_47), (0, .ref aM), (1, .int p0), (2, .int p1)] → Fv = l_M_leads_47 N_ vMP vMh vMi K_ n x3_47 x4_47 vMs_47 → ol_M_leads_47 N_ vMP vMh vMi Ko_ n x3_47 x4_47 vMs_47 → W p l e ({ frames := 0, cells := 0, slots := 0, locals := 0 } : Room) s m (([.ref aM, .int p0, .int p1] : List Value).toArray) below meth c H locs 0 0 Qg (F0 m 47 ls []) := by
        intro K_ Ko_ hk n
        induction n with
        | zero => intro x3_47 x4_47 vMs_47 H locs ls hP hD hS hl hres ho; exact ho.elim
        | succ n ih =>
          intro x3_47 x4_47 vMs_47 H locs ls hP hD hS hl hres ho
          rw [l_M_leads_47, s_M_leads_47] at hres
          rw [ol_M_leads_47, os_M_leads_47] at ho
          refine lv_iload hx hb qd_M_leads_47 (lv_at hl 0 rfl) ?_
          refine lv_aload_n hx hb qd_M_leads_49 rfl (lv_at hl 2 rfl) ?_
          refine va_get (D := (dC, dI)) (ci := 7) (v := .int vMP) (C := qR_M) (T := qT_M) (N := 23) hx hb hg qi_M hown hK hP 0 rfl rfl 1 (by decide) (hg _ mw_575) (fun _ h9 => h9) rfl qd_M_leads_50 ?_
          refine lv_icmp_ge (tgt := 186) hx hb qd_M_leads_53 (by decide) (fun c_53 => ?_) (fun c_53 => ?_)
          · have hres := hres.trans (if_pos c_53)
            have ho := (if_pos c_53).mp ho
            exact hk x3_47 x4_47 vMs_47 H locs ls hP hD hS (lv_sub hl [0, 1, 2, 3, 4] rfl) hres ho
          have hres := hres.trans (if_neg c_53)
          have ho := (if_neg c_53).mp ho
          refine lv_aload_n hx hb qd_M_leads_56 rfl (lv_at hl 2 rfl) ?_
          refine va_get (D := (dC, dI)) (ci := 7) (v := .ref aMi) (C := qR_M) (T := qT_M) (N := 23) hx hb hg qi_M hown hK hP 0 rfl rfl 3 (by decide) (hg _ mw_577) (fun _ h9 => h9) rfl qd_M_leads_57 ?_
          refine lv_iconst (v := 3) hx hb qd_M_leads_60 (by decide) ?_
          refine lv_iload hx hb qd_M_leads_61 (lv_at hl 0 rfl) ?_
          refine lv_imul hx hb qd_M_leads_63 ?_
          obtain ⟨g_64, ho⟩ := ho
          refine va_iald hx hb hK hP 2 0 rfl rfl g_64 qd_M_leads_64 ?_
          refine lv_bipush (v := 10) hx hb qd_M_leads_65 (by decide) ?_
          refine lv_icmp_ge (tgt := 89) hx hb qd_M_leads_67 (by decide) (fun c_67 => ?_) (fun c_67 => ?_)
          · have hres := hres.trans (if_pos c_67)
            have ho := (if_pos c_67).mp ho
            refine lv_iconst (v := 0) hx hb qd_M_leads_89 (by decide) ?_
            refine lv_istore (lv' := [(5, .int 0), (4, .int x4_47), (3, .int x3_47), (0, .ref aM), (1, .int p0), (2, .int p1)]) hx hb qd_M_leads_90 hl (by decide) rfl (fun ls hl => ?_)
            refine lv_iconst (v := 0) hx hb qd_M_leads_92 (by decide) ?_
            refine lv_istore (lv' := [(6, .int 0), (5, .int 0), (4, .int x4_47), (3, .int x3_47), (0, .ref aM), (1, .int p0), (2, .int p1)]) hx hb qd_M_leads_93 hl (by decide) rfl (fun ls hl => ?_)
            have L_95 : ∀ (K_ : Int32 → Int32 → (Nat → Int32) → Int32 × (Nat → Int32)) (Ko_ : Int32 → Int32 → (Nat → Int32) → Prop) (hk : ∀ (x3_95 : Int32) (x6_95 : Int32) (vMs_95 : (Nat → Int32)) (H : Heap) (locs : List Loc) (ls : Array Slot), va_P (dC, dI) vwCl [(aM, .inr (7, [.int vMT, .int vMP, .ref aMh, .ref aMi, .ref aMc, .int vMK, .ref aMt, .int vMB, .ref aMn, .ref aMl, .ref aMs, .int vMD, .ref aMd, .int vME, .ref aMe, .int vMO, .ref aMo, .int vMF, .int vMS, .ref aMw, .ref aMu, .int vMX, .int vMW])), (aMh, .inl (cA, 24, .inl (vMh))), (aMi, .inl (cA, 72, .inl (vMi))), (aMs, .inl (cZ, 100, .inl (vMs_95)))] H → va_D A [(aM, .inr (7, [.int vMT, .int vMP, .ref aMh, .ref aMi, .ref aMc, .int vMK, .ref aMt, .int vMB, .ref aMn, .ref aMl, .ref aMs, .int vMD, .ref aMd, .int vME, .ref aMe, .int vMO, .ref aMo, .int vMF, .int vMS, .ref aMw, .ref aMu, .int vMX, .int vMW])), (aMh, .inl (cA, 24, .inl (vMh))), (aMi, .inl (cA, 72, .inl (vMi))), (aMs, .inl (cZ, 100, .inl (vMs_95)))] → va_S A s.heap H locs → lv_has ls 7 [(6, .int x6_95), (5, .int 0), (4, .int x4_47), (3, .int x3_95), (0, .ref aM), (1, .int p0), (2, .int p1)] → Fv = K_ x3_95 x6_95 vMs_95 → Ko_ x3_95 x6_95 vMs_95 → W p l e ({ frames := 0, cells := 0, slots := 0, locals := 0 } : Room) s m (([.ref aM, .int p0, .int p1] : List Value).toArray) below meth c H locs 0 0 Qg (F0 m 180 ls [])) (n : Nat) (x3_95 : Int32) (x6_95 : Int32) (vMs_95 : (Nat → Int32)) (H : Heap) (locs : List Loc) (ls : Array Slot), va_P (dC, dI) vwCl [(aM, .inr (7, [.int vMT, .int vMP, .ref aMh, .ref aMi, .ref aMc, .int vMK, .ref aMt, .int vMB, .ref aMn, .ref aMl, .ref aMs, .int vMD, .ref aMd, .int vME, .ref aMe, .int vMO, .ref aMo, .int vMF, .int vMS, .ref aMw, .ref aMu, .int vMX, .int vMW])), (aMh, .inl (cA, 24, .inl (vMh))), (aMi, .inl (cA, 72, .inl (vMi))), (aMs, .inl (cZ, 100, .inl (vMs_95)))] H → va_D A [(aM, .inr (7, [.int vMT, .int vMP, .ref aMh, .ref aMi, .ref aMc, .int vMK, .ref aMt, .int vMB, .ref aMn, .ref aMl, .ref aMs, .int vMD, .ref aMd, .int vME, .ref aMe, .int vMO, .ref aMo, .int vMF, .int vMS, .ref aMw, .ref aMu, .int vMX, .int vMW])), (aMh, .inl (cA, 24, .inl (vMh))), (aMi, .inl (cA, 72, .inl (vMi))), (aMs, .inl (cZ, 100, .inl (vMs_95)))] → va_S A s.heap H locs → lv_has ls 7 [(6, .int x6_95), (5, .int 0), (4, .int x4_47), (3, .int x3_95), (0, .ref aM), (1, .int p0), (2, .int p1)] → Fv = l_M_leads_95 x4_47 0 vMh vMi K_ n x3_95 x6_95 vMs_95 → ol_M_leads_95 x4_47 0 vMh vMi Ko_ n x3_95 x6_95 vMs_95 → W p l e ({ frames := 0, cells := 0, slots := 0, locals := 0 } : Room) s m (([.ref aM, .int p0, .int p1] : List Value).toArray) below meth c H locs 0 0 Qg (F0 m 95 ls []) := by
              intro K_ Ko_ hk n
              induction n with
              | zero => intro x3_95 x6_95 vMs_95 H locs ls hP hD hS hl hres ho; exact ho.elim
              | succ n ih =>
                intro x3_95 x6_95 vMs_95 H locs ls hP hD hS hl hres ho
                rw [l_M_leads_95, s_M_leads_95] at hres
                rw [ol_M_leads_95, os_M_leads_95] at ho
                refine lv_iload hx hb qd_M_leads_95 (lv_at hl 0 rfl) ?_
                refine lv_bipush (v := 10) hx hb qd_M_leads_97 (by decide) ?_
                refine lv_icmp_ge (tgt := 180) hx hb qd_M_leads_99 (by decide) (fun c_99 => ?_) (fun c_99 => ?_)
                · have hres := hres.trans (if_pos c_99)
                  have ho := (if_pos c_99).mp ho
                  exact hk x3_95 x6_95 vMs_95 H locs ls hP hD hS (lv_sub hl [0, 1, 2, 3, 4, 5, 6] rfl) hres ho
                have hres := hres.trans (if_neg c_99)
                have ho := (if_neg c_99).mp ho
                refine lv_iload hx hb qd_M_leads_102 (lv_at hl 1 rfl) ?_
                refine lv_if_eq (tgt := 180) hx hb qd_M_leads_104 (by decide) (fun c_104 => ?_) (fun c_104 => ?_)
                · have hres := hres.trans (if_pos c_104)
                  have ho := (if_pos c_104).mp ho
                  exact hk x3_95 x6_95 vMs_95 H locs ls hP hD hS (lv_sub hl [0, 1, 2, 3, 4, 5, 6] rfl) hres ho
                have hres := hres.trans (if_neg c_104)
                have ho := (if_neg c_104).mp ho
                refine lv_aload_n hx hb qd_M_leads_107 rfl (lv_at hl 4 rfl) ?_
                refine va_get (D := (dC, dI)) (ci := 7) (v := .ref aMs) (C := qR_M) (T := qT_M) (N := 23) hx hb hg qi_M hown hK hP 0 rfl rfl 10 (by decide) (hg _ mw_584) (fun _ h9 => h9) rfl qd_M_leads_108 ?_
                refine lv_bipush (v := 10) hx hb qd_M_leads_111 (by decide) ?_
                refine lv_iload hx hb qd_M_leads_113 (lv_at hl 0 rfl) ?_
                refine lv_imul hx hb qd_M_leads_115 ?_
                refine lv_aload_n hx hb qd_M_leads_116 rfl (lv_at hl 4 rfl) ?_
                refine va_get (D := (dC, dI)) (ci := 7) (v := .ref aMh) (C := qR_M) (T := qT_M) (N := 23) hx hb hg qi_M hown hK hP 0 rfl rfl 2 (by decide) (hg _ mw_576) (fun _ h9 => h9) rfl qd_M_leads_117 ?_
                refine lv_iload hx hb qd_M_leads_120 (lv_at hl 2 rfl) ?_
                obtain ⟨g_122, ho⟩ := ho
                refine va_iald hx hb hK hP 1 0 rfl rfl g_122 qd_M_leads_122 ?_
                refine lv_iadd hx hb qd_M_leads_123 ?_
                obtain ⟨g_124, ho⟩ := ho
                refine va_zald hx hb hK hP 3 1 rfl rfl g_124 qd_M_leads_124 ?_
                refine lv_if_eq (tgt := 174) hx hb qd_M_leads_125 (by decide) (fun c_125 => ?_) (fun c_125 => ?_)
                · have hres := hres.trans (if_pos c_125)
                  have ho := (if_pos c_125).mp ho
                  refine lv_iinc (v := x6_95 + 1) (lv' := [(6, .int (x6_95 + 1)), (5, .int 0), (4, .int x4_47), (3, .int x3_95), (0, .ref aM), (1, .int p0), (2, .int p1)]) hx hb qd_M_leads_174 hl (k := 0) rfl (congrArg (fun z => _ + z) (by decide)) (by decide) rfl (fun ls hl => ?_)
                  refine lv_goto (tgt := 95) hx hb qd_M_leads_177 (by decide) ?_
                  exact ih x3_95 (x6_95 + 1) vMs_95 H locs ls hP hD hS (lv_sub hl [0, 1, 2, 3, 4, 5, 6] rfl) hres ho
                have hres := hres.trans (if_neg c_125)
                have ho := (if_neg c_125).mp ho
                refine lv_aload_n hx hb qd_M_leads_128 rfl (lv_at hl 4 rfl) ?_
                refine va_get (D := (dC, dI)) (ci := 7) (v := .ref aMs) (C := qR_M) (T := qT_M) (N := 23) hx hb hg qi_M hown hK hP 0 rfl rfl 10 (by decide) (hg _ mw_584) (fun _ h9 => h9) rfl qd_M_leads_129 ?_
                refine lv_bipush (v := 10) hx hb qd_M_leads_132 (by decide) ?_
                refine lv_iload hx hb qd_M_leads_134 (lv_at hl 0 rfl) ?_
                refine lv_imul hx hb qd_M_leads_136 ?_
                refine lv_aload_n hx hb qd_M_leads_137 rfl (lv_at hl 4 rfl) ?_
                refine va_get (D := (dC, dI)) (ci := 7) (v := .ref aMi) (C := qR_M) (T := qT_M) (N := 23) hx hb hg qi_M hown hK hP 0 rfl rfl 3 (by decide) (hg _ mw_577) (fun _ h9 => h9) rfl qd_M_leads_138 ?_
                refine lv_iconst (v := 3) hx hb qd_M_leads_141 (by decide) ?_
                refine lv_iload hx hb qd_M_leads_142 (lv_at hl 2 rfl) ?_
                refine lv_imul hx hb qd_M_leads_144 ?_
                obtain ⟨g_145, ho⟩ := ho
                refine va_iald hx hb hK hP 2 0 rfl rfl g_145 qd_M_leads_145 ?_
                refine lv_iadd hx hb qd_M_leads_146 ?_
                obtain ⟨g_147, ho⟩ := ho
                refine va_zald hx hb hK hP 3 1 rfl rfl g_147 qd_M_leads_147 ?_
                refine lv_if_ne (tgt := 174) hx hb qd_M_leads_148 (by decide) (fun c_148 => ?_) (fun c_148 => ?_)
                · have hres := hres.trans (if_neg c_148)
                  have ho := (if_neg c_148).mp ho
                  refine lv_iinc (v := x6_95 + 1) (lv' := [(6, .int (x6_95 + 1)), (5, .int 0), (4, .int x4_47), (3, .int x3_95), (0, .ref aM), (1, .int p0), (2, .int p1)]) hx hb qd_M_leads_174 hl (k := 0) rfl (congrArg (fun z => _ + z) (by decide)) (by decide) rfl (fun ls hl => ?_)
                  refine lv_goto (tgt := 95) hx hb qd_M_leads_177 (by decide) ?_
                  exact ih x3_95 (x6_95 + 1) vMs_95 H locs ls hP hD hS (lv_sub hl [0, 1, 2, 3, 4, 5, 6] rfl) hres ho
                have hres := hres.trans (if_pos c_148)
                have ho := (if_pos c_148).mp ho
                refine lv_aload_n hx hb qd_M_leads_151 rfl (lv_at hl 4 rfl) ?_
                refine va_get (D := (dC, dI)) (ci := 7) (v := .ref aMs) (C := qR_M) (T := qT_M) (N := 23) hx hb hg qi_M hown hK hP 0 rfl rfl 10 (by decide) (hg _ mw_584) (fun _ h9 => h9) rfl qd_M_leads_152 ?_
                refine lv_bipush (v := 10) hx hb qd_M_leads_155 (by decide) ?_
                refine lv_iload hx hb qd_M_leads_157 (lv_at hl 0 rfl) ?_
                refine lv_imul hx hb qd_M_leads_159 ?_
                refine lv_aload_n hx hb qd_M_leads_160 rfl (lv_at hl 4 rfl) ?_
                refine va_get (D := (dC, dI)) (ci := 7) (v := .ref aMi) (C := qR_M) (T := qT_M) (N := 23) hx hb hg qi_M hown hK hP 0 rfl rfl 3 (by decide) (hg _ mw_577) (fun _ h9 => h9) rfl qd_M_leads_161 ?_
                refine lv_iconst (v := 3) hx hb qd_M_leads_164 (by decide) ?_
                refine lv_iload hx hb qd_M_leads_165 (lv_at hl 2 rfl) ?_
                refine lv_imul hx hb qd_M_leads_167 ?_
                obtain ⟨g_168, ho⟩ := ho
                refine va_iald hx hb hK hP 2 0 rfl rfl g_168 qd_M_leads_168 ?_
                refine lv_iadd hx hb qd_M_leads_169 ?_
                refine lv_iconst (v := 1) hx hb qd_M_leads_170 (by decide) ?_
                obtain ⟨g_171, ho⟩ := ho
                refine va_zast hx hb hK hP hD hS 3 1 rfl rfl g_171 qd_M_leads_171 (fun H locs hP hD hS => ?_)
                have hP : va_P (dC, dI) vwCl [(aM, .inr (7, [.int vMT, .int vMP, .ref aMh, .ref aMi, .ref aMc, .int vMK, .ref aMt, .int vMB, .ref aMn, .ref aMl, .ref aMs, .int vMD, .ref aMd, .int vME, .ref aMe, .int vMO, .ref aMo, .int vMF, .int vMS, .ref aMw, .ref aMu, .int vMX, .int vMW])), (aMh, .inl (cA, 24, .inl (vMh))), (aMi, .inl (cA, 72, .inl (vMi))), (aMs, .inl (cZ, 100, .inl (upd vMs_95 ((10 * x6_95) + (vMi (3 * x4_47).toNatClampNeg)).toNatClampNeg (vp_nar .boolean 1))))] H := hP
                have hD : va_D A [(aM, .inr (7, [.int vMT, .int vMP, .ref aMh, .ref aMi, .ref aMc, .int vMK, .ref aMt, .int vMB, .ref aMn, .ref aMl, .ref aMs, .int vMD, .ref aMd, .int vME, .ref aMe, .int vMO, .ref aMo, .int vMF, .int vMS, .ref aMw, .ref aMu, .int vMX, .int vMW])), (aMh, .inl (cA, 24, .inl (vMh))), (aMi, .inl (cA, 72, .inl (vMi))), (aMs, .inl (cZ, 100, .inl (upd vMs_95 ((10 * x6_95) + (vMi (3 * x4_47).toNatClampNeg)).toNatClampNeg (vp_nar .boolean 1))))] := hD
                refine lv_iconst (v := 1) hx hb qd_M_leads_172 (by decide) ?_
                refine lv_istore_n (lv' := [(3, .int 1), (6, .int x6_95), (5, .int 0), (4, .int x4_47), (0, .ref aM), (1, .int p0), (2, .int p1)]) hx hb qd_M_leads_173 rfl hl (by decide) rfl (fun ls hl => ?_)
                refine lv_iinc (v := x6_95 + 1) (lv' := [(6, .int (x6_95 + 1)), (3, .int 1), (5, .int 0), (4, .int x4_47), (0, .ref aM), (1, .int p0), (2, .int p1)]) hx hb qd_M_leads_174 hl (k := 1) rfl (congrArg (fun z => _ + z) (by decide)) (by decide) rfl (fun ls hl => ?_)
                refine lv_goto (tgt := 95) hx hb qd_M_leads_177 (by decide) ?_
                exact ih 1 (x6_95 + 1) (upd vMs_95 ((10 * x6_95) + (vMi (3 * x4_47).toNatClampNeg)).toNatClampNeg (vp_nar .boolean 1)) H locs ls hP hD hS (lv_sub hl [0, 2, 3, 1, 4, 5, 6] rfl) hres ho
            refine L_95 _ _ (fun x3_95 x6_95 vMs_95 H locs ls hP hD hS hl hres ho => ?_) _ _ _ _ _ _ ls hP hD hS hl hres ho
            refine lv_iinc (v := x4_47 + 1) (lv' := [(4, .int (x4_47 + 1)), (6, .int x6_95), (5, .int 0), (3, .int x3_95), (0, .ref aM), (1, .int p0), (2, .int p1)]) hx hb qd_M_leads_180 hl (k := 2) rfl (congrArg (fun z => _ + z) (by decide)) (by decide) rfl (fun ls hl => ?_)
            refine lv_goto (tgt := 47) hx hb qd_M_leads_183 (by decide) ?_
            exact ih x3_95 (x4_47 + 1) vMs_95 H locs ls hP hD hS (lv_sub hl [0, 3, 4, 5, 6] rfl) hres ho
          have hres := hres.trans (if_neg c_67)
          have ho := (if_neg c_67).mp ho
          refine lv_aload_n hx hb qd_M_leads_70 rfl (lv_at hl 2 rfl) ?_
          refine va_get (D := (dC, dI)) (ci := 7) (v := .ref aMi) (C := qR_M) (T := qT_M) (N := 23) hx hb hg qi_M hown hK hP 0 rfl rfl 3 (by decide) (hg _ mw_577) (fun _ h9 => h9) rfl qd_M_leads_71 ?_
          refine lv_iconst (v := 3) hx hb qd_M_leads_74 (by decide) ?_
          refine lv_iload hx hb qd_M_leads_75 (lv_at hl 0 rfl) ?_
          refine lv_imul hx hb qd_M_leads_77 ?_
          refine lv_iconst (v := 1) hx hb qd_M_leads_78 (by decide) ?_
          refine lv_iadd hx hb qd_M_leads_79 ?_
          obtain ⟨g_80, ho⟩ := ho
          refine va_iald hx hb hK hP 2 0 rfl rfl g_80 qd_M_leads_80 ?_
          refine lv_iconst (v := (-1)) hx hb qd_M_leads_81 (by decide) ?_
          refine lv_icmp_ne (tgt := 89) hx hb qd_M_leads_82 (by decide) (fun c_82 => ?_) (fun c_82 => ?_)
          · have hres := hres.trans (if_neg c_82)
            have ho := (if_neg c_82).mp ho
            refine lv_iconst (v := 0) hx hb qd_M_leads_89 (by decide) ?_
            refine lv_istore (lv' := [(5, .int 0), (4, .int x4_47), (3, .int x3_47), (0, .ref aM), (1, .int p0), (2, .int p1)]) hx hb qd_M_leads_90 hl (by decide) rfl (fun ls hl => ?_)
            refine lv_iconst (v := 0) hx hb qd_M_leads_92 (by decide) ?_
            refine lv_istore (lv' := [(6, .int 0), (5, .int 0), (4, .int x4_47), (3, .int x3_47), (0, .ref aM), (1, .int p0), (2, .int p1)]) hx hb qd_M_leads_93 hl (by decide) rfl (fun ls hl => ?_)
            have L_95 : ∀ (K_ : Int32 → Int32 → (Nat → Int32) → Int32 × (Nat → Int32)) (Ko_ : Int32 → Int32 → (Nat → Int32) → Prop) (hk : ∀ (x3_95 : Int32) (x6_95 : Int32) (vMs_95 : (Nat → Int32)) (H : Heap) (locs : List Loc) (ls : Array Slot), va_P (dC, dI) vwCl [(aM, .inr (7, [.int vMT, .int vMP, .ref aMh, .ref aMi, .ref aMc, .int vMK, .ref aMt, .int vMB, .ref aMn, .ref aMl, .ref aMs, .int vMD, .ref aMd, .int vME, .ref aMe, .int vMO, .ref aMo, .int vMF, .int vMS, .ref aMw, .ref aMu, .int vMX, .int vMW])), (aMh, .inl (cA, 24, .inl (vMh))), (aMi, .inl (cA, 72, .inl (vMi))), (aMs, .inl (cZ, 100, .inl (vMs_95)))] H → va_D A [(aM, .inr (7, [.int vMT, .int vMP, .ref aMh, .ref aMi, .ref aMc, .int vMK, .ref aMt, .int vMB, .ref aMn, .ref aMl, .ref aMs, .int vMD, .ref aMd, .int vME, .ref aMe, .int vMO, .ref aMo, .int vMF, .int vMS, .ref aMw, .ref aMu, .int vMX, .int vMW])), (aMh, .inl (cA, 24, .inl (vMh))), (aMi, .inl (cA, 72, .inl (vMi))), (aMs, .inl (cZ, 100, .inl (vMs_95)))] → va_S A s.heap H locs → lv_has ls 7 [(6, .int x6_95), (5, .int 0), (4, .int x4_47), (3, .int x3_95), (0, .ref aM), (1, .int p0), (2, .int p1)] → Fv = K_ x3_95 x6_95 vMs_95 → Ko_ x3_95 x6_95 vMs_95 → W p l e ({ frames := 0, cells := 0, slots := 0, locals := 0 } : Room) s m (([.ref aM, .int p0, .int p1] : List Value).toArray) below meth c H locs 0 0 Qg (F0 m 180 ls [])) (n : Nat) (x3_95 : Int32) (x6_95 : Int32) (vMs_95 : (Nat → Int32)) (H : Heap) (locs : List Loc) (ls : Array Slot), va_P (dC, dI) vwCl [(aM, .inr (7, [.int vMT, .int vMP, .ref aMh, .ref aMi, .ref aMc, .int vMK, .ref aMt, .int vMB, .ref aMn, .ref aMl, .ref aMs, .int vMD, .ref aMd, .int vME, .ref aMe, .int vMO, .ref aMo, .int vMF, .int vMS, .ref aMw, .ref aMu, .int vMX, .int vMW])), (aMh, .inl (cA, 24, .inl (vMh))), (aMi, .inl (cA, 72, .inl (vMi))), (aMs, .inl (cZ, 100, .inl (vMs_95)))] H → va_D A [(aM, .inr (7, [.int vMT, .int vMP, .ref aMh, .ref aMi, .ref aMc, .int vMK, .ref aMt, .int vMB, .ref aMn, .ref aMl, .ref aMs, .int vMD, .ref aMd, .int vME, .ref aMe, .int vMO, .ref aMo, .int vMF, .int vMS, .ref aMw, .ref aMu, .int vMX, .int vMW])), (aMh, .inl (cA, 24, .inl (vMh))), (aMi, .inl (cA, 72, .inl (vMi))), (aMs, .inl (cZ, 100, .inl (vMs_95)))] → va_S A s.heap H locs → lv_has ls 7 [(6, .int x6_95), (5, .int 0), (4, .int x4_47), (3, .int x3_95), (0, .ref aM), (1, .int p0), (2, .int p1)] → Fv = l_M_leads_95 x4_47 0 vMh vMi K_ n x3_95 x6_95 vMs_95 → ol_M_leads_95 x4_47 0 vMh vMi Ko_ n x3_95 x6_95 vMs_95 → W p l e ({ frames := 0, cells := 0, slots := 0, locals := 0 } : Room) s m (([.ref aM, .int p0, .int p1] : List Value).toArray) below meth c H locs 0 0 Qg (F0 m 95 ls []) := by
              intro K_ Ko_ hk n
              induction n with
              | zero => intro x3_95 x6_95 vMs_95 H locs ls hP hD hS hl hres ho; exact ho.elim
              | succ n ih =>
                intro x3_95 x6_95 vMs_95 H locs ls hP hD hS hl hres ho
                rw [l_M_leads_95, s_M_leads_95] at hres
                rw [ol_M_leads_95, os_M_leads_95] at ho
                refine lv_iload hx hb qd_M_leads_95 (lv_at hl 0 rfl) ?_
                refine lv_bipush (v := 10) hx hb qd_M_leads_97 (by decide) ?_
                refine lv_icmp_ge (tgt := 180) hx hb qd_M_leads_99 (by decide) (fun c_99 => ?_) (fun c_99 => ?_)
                · have hres := hres.trans (if_pos c_99)
                  have ho := (if_pos c_99).mp ho
                  exact hk x3_95 x6_95 vMs_95 H locs ls hP hD hS (lv_sub hl [0, 1, 2, 3, 4, 5, 6] rfl) hres ho
                have hres := hres.trans (if_neg c_99)
                have ho := (if_neg c_99).mp ho
                refine lv_iload hx hb qd_M_leads_102 (lv_at hl 1 rfl) ?_
                refine lv_if_eq (tgt := 180) hx hb qd_M_leads_104 (by decide) (fun c_104 => ?_) (fun c_104 => ?_)
                · have hres := hres.trans (if_pos c_104)
                  have ho := (if_pos c_104).mp ho
                  exact hk x3_95 x6_95 vMs_95 H locs ls hP hD hS (lv_sub hl [0, 1, 2, 3, 4, 5, 6] rfl) hres ho
                have hres := hres.trans (if_neg c_104)
                have ho := (if_neg c_104).mp ho
                refine lv_aload_n hx hb qd_M_leads_107 rfl (lv_at hl 4 rfl) ?_
                refine va_get (D := (dC, dI)) (ci := 7) (v := .ref aMs) (C := qR_M) (T := qT_M) (N := 23) hx hb hg qi_M hown hK hP 0 rfl rfl 10 (by decide) (hg _ mw_584) (fun _ h9 => h9) rfl qd_M_leads_108 ?_
                refine lv_bipush (v := 10) hx hb qd_M_leads_111 (by decide) ?_
                refine lv_iload hx hb qd_M_leads_113 (lv_at hl 0 rfl) ?_
                refine lv_imul hx hb qd_M_leads_115 ?_
                refine lv_aload_n hx hb qd_M_leads_116 rfl (lv_at hl 4 rfl) ?_
                refine va_get (D := (dC, dI)) (ci := 7) (v := .ref aMh) (C := qR_M) (T := qT_M) (N := 23) hx hb hg qi_M hown hK hP 0 rfl rfl 2 (by decide) (hg _ mw_576) (fun _ h9 => h9) rfl qd_M_leads_117 ?_
                refine lv_iload hx hb qd_M_leads_120 (lv_at hl 2 rfl) ?_
                obtain ⟨g_122, ho⟩ := ho
                refine va_iald hx hb hK hP 1 0 rfl rfl g_122 qd_M_leads_122 ?_
                refine lv_iadd hx hb qd_M_leads_123 ?_
                obtain ⟨g_124, ho⟩ := ho
                refine va_zald hx hb hK hP 3 1 rfl rfl g_124 qd_M_leads_124 ?_
                refine lv_if_eq (tgt := 174) hx hb qd_M_leads_125 (by decide) (fun c_125 => ?_) (fun c_125 => ?_)
                · have hres := hres.trans (if_pos c_125)
                  have ho := (if_pos c_125).mp ho
                  refine lv_iinc (v := x6_95 + 1) (lv' := [(6, .int (x6_95 + 1)), (5, .int 0), (4, .int x4_47), (3, .int x3_95), (0, .ref aM), (1, .int p0), (2, .int p1)]) hx hb qd_M_leads_174 hl (k := 0) rfl (congrArg (fun z => _ + z) (by decide)) (by decide) rfl (fun ls hl => ?_)
                  refine lv_goto (tgt := 95) hx hb qd_M_leads_177 (by decide) ?_
                  exact ih x3_95 (x6_95 + 1) vMs_95 H locs ls hP hD hS (lv_sub hl [0, 1, 2, 3, 4, 5, 6] rfl) hres ho
                have hres := hres.trans (if_neg c_125)
                have ho := (if_neg c_125).mp ho
                refine lv_aload_n hx hb qd_M_leads_128 rfl (lv_at hl 4 rfl) ?_
                refine va_get (D := (dC, dI)) (ci := 7) (v := .ref aMs) (C := qR_M) (T := qT_M) (N := 23) hx hb hg qi_M hown hK hP 0 rfl rfl 10 (by decide) (hg _ mw_584) (fun _ h9 => h9) rfl qd_M_leads_129 ?_
                refine lv_bipush (v := 10) hx hb qd_M_leads_132 (by decide) ?_
                refine lv_iload hx hb qd_M_leads_134 (lv_at hl 0 rfl) ?_
                refine lv_imul hx hb qd_M_leads_136 ?_
                refine lv_aload_n hx hb qd_M_leads_137 rfl (lv_at hl 4 rfl) ?_
                refine va_get (D := (dC, dI)) (ci := 7) (v := .ref aMi) (C := qR_M) (T := qT_M) (N := 23) hx hb hg qi_M hown hK hP 0 rfl rfl 3 (by decide) (hg _ mw_577) (fun _ h9 => h9) rfl qd_M_leads_138 ?_
                refine lv_iconst (v := 3) hx hb qd_M_leads_141 (by decide) ?_
                refine lv_iload hx hb qd_M_leads_142 (lv_at hl 2 rfl) ?_
                refine lv_imul hx hb qd_M_leads_144 ?_
                obtain ⟨g_145, ho⟩ := ho
                refine va_iald hx hb hK hP 2 0 rfl rfl g_145 qd_M_leads_145 ?_
                refine lv_iadd hx hb qd_M_leads_146 ?_
                obtain ⟨g_147, ho⟩ := ho
                refine va_zald hx hb hK hP 3 1 rfl rfl g_147 qd_M_leads_147 ?_
                refine lv_if_ne (tgt := 174) hx hb qd_M_leads_148 (by decide) (fun c_148 => ?_) (fun c_148 => ?_)
                · have hres := hres.trans (if_neg c_148)
                  have ho := (if_neg c_148).mp ho
                  refine lv_iinc (v := x6_95 + 1) (lv' := [(6, .int (x6_95 + 1)), (5, .int 0), (4, .int x4_47), (3, .int x3_95), (0, .ref aM), (1, .int p0), (2, .int p1)]) hx hb qd_M_leads_174 hl (k := 0) rfl (congrArg (fun z => _ + z) (by decide)) (by decide) rfl (fun ls hl => ?_)
                  refine lv_goto (tgt := 95) hx hb qd_M_leads_177 (by decide) ?_
                  exact ih x3_95 (x6_95 + 1) vMs_95 H locs ls hP hD hS (lv_sub hl [0, 1, 2, 3, 4, 5, 6] rfl) hres ho
                have hres := hres.trans (if_pos c_148)
                have ho := (if_pos c_148).mp ho
                refine lv_aload_n hx hb qd_M_leads_151 rfl (lv_at hl 4 rfl) ?_
                refine va_get (D := (dC, dI)) (ci := 7) (v := .ref aMs) (C := qR_M) (T := qT_M) (N := 23) hx hb hg qi_M hown hK hP 0 rfl rfl 10 (by decide) (hg _ mw_584) (fun _ h9 => h9) rfl qd_M_leads_152 ?_
                refine lv_bipush (v := 10) hx hb qd_M_leads_155 (by decide) ?_
                refine lv_iload hx hb qd_M_leads_157 (lv_at hl 0 rfl) ?_
                refine lv_imul hx hb qd_M_leads_159 ?_
                refine lv_aload_n hx hb qd_M_leads_160 rfl (lv_at hl 4 rfl) ?_
                refine va_get (D := (dC, dI)) (ci := 7) (v := .ref aMi) (C := qR_M) (T := qT_M) (N := 23) hx hb hg qi_M hown hK hP 0 rfl rfl 3 (by decide) (hg _ mw_577) (fun _ h9 => h9) rfl qd_M_leads_161 ?_
                refine lv_iconst (v := 3) hx hb qd_M_leads_164 (by decide) ?_
                refine lv_iload hx hb qd_M_leads_165 (lv_at hl 2 rfl) ?_
                refine lv_imul hx hb qd_M_leads_167 ?_
                obtain ⟨g_168, ho⟩ := ho
                refine va_iald hx hb hK hP 2 0 rfl rfl g_168 qd_M_leads_168 ?_
                refine lv_iadd hx hb qd_M_leads_169 ?_
                refine lv_iconst (v := 1) hx hb qd_M_leads_170 (by decide) ?_
                obtain ⟨g_171, ho⟩ := ho
                refine va_zast hx hb hK hP hD hS 3 1 rfl rfl g_171 qd_M_leads_171 (fun H locs hP hD hS => ?_)
                have hP : va_P (dC, dI) vwCl [(aM, .inr (7, [.int vMT, .int vMP, .ref aMh, .ref aMi, .ref aMc, .int vMK, .ref aMt, .int vMB, .ref aMn, .ref aMl, .ref aMs, .int vMD, .ref aMd, .int vME, .ref aMe, .int vMO, .ref aMo, .int vMF, .int vMS, .ref aMw, .ref aMu, .int vMX, .int vMW])), (aMh, .inl (cA, 24, .inl (vMh))), (aMi, .inl (cA, 72, .inl (vMi))), (aMs, .inl (cZ, 100, .inl (upd vMs_95 ((10 * x6_95) + (vMi (3 * x4_47).toNatClampNeg)).toNatClampNeg (vp_nar .boolean 1))))] H := hP
                have hD : va_D A [(aM, .inr (7, [.int vMT, .int vMP, .ref aMh, .ref aMi, .ref aMc, .int vMK, .ref aMt, .int vMB, .ref aMn, .ref aMl, .ref aMs, .int vMD, .ref aMd, .int vME, .ref aMe, .int vMO, .ref aMo, .int vMF, .int vMS, .ref aMw, .ref aMu, .int vMX, .int vMW])), (aMh, .inl (cA, 24, .inl (vMh))), (aMi, .inl (cA, 72, .inl (vMi))), (aMs, .inl (cZ, 100, .inl (upd vMs_95 ((10 * x6_95) + (vMi (3 * x4_47).toNatClampNeg)).toNatClampNeg (vp_nar .boolean 1))))] := hD
                refine lv_iconst (v := 1) hx hb qd_M_leads_172 (by decide) ?_
                refine lv_istore_n (lv' := [(3, .int 1), (6, .int x6_95), (5, .int 0), (4, .int x4_47), (0, .ref aM), (1, .int p0), (2, .int p1)]) hx hb qd_M_leads_173 rfl hl (by decide) rfl (fun ls hl => ?_)
                refine lv_iinc (v := x6_95 + 1) (lv' := [(6, .int (x6_95 + 1)), (3, .int 1), (5, .int 0), (4, .int x4_47), (0, .ref aM), (1, .int p0), (2, .int p1)]) hx hb qd_M_leads_174 hl (k := 1) rfl (congrArg (fun z => _ + z) (by decide)) (by decide) rfl (fun ls hl => ?_)
                refine lv_goto (tgt := 95) hx hb qd_M_leads_177 (by decide) ?_
                exact ih 1 (x6_95 + 1) (upd vMs_95 ((10 * x6_95) + (vMi (3 * x4_47).toNatClampNeg)).toNatClampNeg (vp_nar .boolean 1)) H locs ls hP hD hS (lv_sub hl [0, 2, 3, 1, 4, 5, 6] rfl) hres ho
            refine L_95 _ _ (fun x3_95 x6_95 vMs_95 H locs ls hP hD hS hl hres ho => ?_) _ _ _ _ _ _ ls hP hD hS hl hres ho
            refine lv_iinc (v := x4_47 + 1) (lv' := [(4, .int (x4_47 + 1)), (6, .int x6_95), (5, .int 0), (3, .int x3_95), (0, .ref aM), (1, .int p0), (2, .int p1)]) hx hb qd_M_leads_180 hl (k := 2) rfl (congrArg (fun z => _ + z) (by decide)) (by decide) rfl (fun ls hl => ?_)
            refine lv_goto (tgt := 47) hx hb qd_M_leads_183 (by decide) ?_
            exact ih x3_95 (x4_47 + 1) vMs_95 H locs ls hP hD hS (lv_sub hl [0, 3, 4, 5, 6] rfl) hres ho
          have hres := hres.trans (if_pos c_82)
          have ho := (if_pos c_82).mp ho
          refine lv_iconst (v := 1) hx hb qd_M_leads_85 (by decide) ?_
          refine lv_goto (tgt := 90) hx hb qd_M_leads_86 (by decide) ?_
          refine lv_istore (lv' := [(5, .int 1), (4, .int x4_47), (3, .int x3_47), (0, .ref aM), (1, .int p0), (2, .int p1)]) hx hb qd_M_leads_90 hl (by decide) rfl (fun ls hl => ?_)
          refine lv_iconst (v := 0) hx hb qd_M_leads_92 (by decide) ?_
          refine lv_istore (lv' := [(6, .int 0), (5, .int 1), (4, .int x4_47), (3, .int x3_47), (0, .ref aM), (1, .int p0), (2, .int p1)]) hx hb qd_M_leads_93 hl (by decide) rfl (fun ls hl => ?_)
          have L_95 : ∀ (K_ : Int32 → Int32 → (Nat → Int32) → Int32 × (Nat → Int32)) (Ko_ : Int32 → Int32 → (Nat → Int32) → Prop) (hk : ∀ (x3_95 : Int32) (x6_95 : Int32) (vMs_95 : (Nat → Int32)) (H : Heap) (locs : List Loc) (ls : Array Slot), va_P (dC, dI) vwCl [(aM, .inr (7, [.int vMT, .int vMP, .ref aMh, .ref aMi, .ref aMc, .int vMK, .ref aMt, .int vMB, .ref aMn, .ref aMl, .ref aMs, .int vMD, .ref aMd, .int vME, .ref aMe, .int vMO, .ref aMo, .int vMF, .int vMS, .ref aMw, .ref aMu, .int vMX, .int vMW])), (aMh, .inl (cA, 24, .inl (vMh))), (aMi, .inl (cA, 72, .inl (vMi))), (aMs, .inl (cZ, 100, .inl (vMs_95)))] H → va_D A [(aM, .inr (7, [.int vMT, .int vMP, .ref aMh, .ref aMi, .ref aMc, .int vMK, .ref aMt, .int vMB, .ref aMn, .ref aMl, .ref aMs, .int vMD, .ref aMd, .int vME, .ref aMe, .int vMO, .ref aMo, .int vMF, .int vMS, .ref aMw, .ref aMu, .int vMX, .int vMW])), (aMh, .inl (cA, 24, .inl (vMh))), (aMi, .inl (cA, 72, .inl (vMi))), (aMs, .inl (cZ, 100, .inl (vMs_95)))] → va_S A s.heap H locs → lv_has ls 7 [(6, .int x6_95), (5, .int 1), (4, .int x4_47), (3, .int x3_95), (0, .ref aM), (1, .int p0), (2, .int p1)] → Fv = K_ x3_95 x6_95 vMs_95 → Ko_ x3_95 x6_95 vMs_95 → W p l e ({ frames := 0, cells := 0, slots := 0, locals := 0 } : Room) s m (([.ref aM, .int p0, .int p1] : List Value).toArray) below meth c H locs 0 0 Qg (F0 m 180 ls [])) (n : Nat) (x3_95 : Int32) (x6_95 : Int32) (vMs_95 : (Nat → Int32)) (H : Heap) (locs : List Loc) (ls : Array Slot), va_P (dC, dI) vwCl [(aM, .inr (7, [.int vMT, .int vMP, .ref aMh, .ref aMi, .ref aMc, .int vMK, .ref aMt, .int vMB, .ref aMn, .ref aMl, .ref aMs, .int vMD, .ref aMd, .int vME, .ref aMe, .int vMO, .ref aMo, .int vMF, .int vMS, .ref aMw, .ref aMu, .int vMX, .int vMW])), (aMh, .inl (cA, 24, .inl (vMh))), (aMi, .inl (cA, 72, .inl (vMi))), (aMs, .inl (cZ, 100, .inl (vMs_95)))] H → va_D A [(aM, .inr (7, [.int vMT, .int vMP, .ref aMh, .ref aMi, .ref aMc, .int vMK, .ref aMt, .int vMB, .ref aMn, .ref aMl, .ref aMs, .int vMD, .ref aMd, .int vME, .ref aMe, .int vMO, .ref aMo, .int vMF, .int vMS, .ref aMw, .ref aMu, .int vMX, .int vMW])), (aMh, .inl (cA, 24, .inl (vMh))), (aMi, .inl (cA, 72, .inl (vMi))), (aMs, .inl (cZ, 100, .inl (vMs_95)))] → va_S A s.heap H locs → lv_has ls 7 [(6, .int x6_95), (5, .int 1), (4, .int x4_47), (3, .int x3_95), (0, .ref aM), (1, .int p0), (2, .int p1)] → Fv = l_M_leads_95 x4_47 1 vMh vMi K_ n x3_95 x6_95 vMs_95 → ol_M_leads_95 x4_47 1 vMh vMi Ko_ n x3_95 x6_95 vMs_95 → W p l e ({ frames := 0, cells := 0, slots := 0, locals := 0 } : Room) s m (([.ref aM, .int p0, .int p1] : List Value).toArray) below meth c H locs 0 0 Qg (F0 m 95 ls []) := by
            intro K_ Ko_ hk n
            induction n with
            | zero => intro x3_95 x6_95 vMs_95 H locs ls hP hD hS hl hres ho; exact ho.elim
            | succ n ih =>
              intro x3_95 x6_95 vMs_95 H locs ls hP hD hS hl hres ho
              rw [l_M_leads_95, s_M_leads_95] at hres
              rw [ol_M_leads_95, os_M_leads_95] at ho
              refine lv_iload hx hb qd_M_leads_95 (lv_at hl 0 rfl) ?_
              refine lv_bipush (v := 10) hx hb qd_M_leads_97 (by decide) ?_
              refine lv_icmp_ge (tgt := 180) hx hb qd_M_leads_99 (by decide) (fun c_99 => ?_) (fun c_99 => ?_)
              · have hres := hres.trans (if_pos c_99)
                have ho := (if_pos c_99).mp ho
                exact hk x3_95 x6_95 vMs_95 H locs ls hP hD hS (lv_sub hl [0, 1, 2, 3, 4, 5, 6] rfl) hres ho
              have hres := hres.trans (if_neg c_99)
              have ho := (if_neg c_99).mp ho
              refine lv_iload hx hb qd_M_leads_102 (lv_at hl 1 rfl) ?_
              refine lv_if_eq (tgt := 180) hx hb qd_M_leads_104 (by decide) (fun c_104 => ?_) (fun c_104 => ?_)
              · have hres := hres.trans (if_pos c_104)
                have ho := (if_pos c_104).mp ho
                exact hk x3_95 x6_95 vMs_95 H locs ls hP hD hS (lv_sub hl [0, 1, 2, 3, 4, 5, 6] rfl) hres ho
              have hres := hres.trans (if_neg c_104)
              have ho := (if_neg c_104).mp ho
              refine lv_aload_n hx hb qd_M_leads_107 rfl (lv_at hl 4 rfl) ?_
              refine va_get (D := (dC, dI)) (ci := 7) (v := .ref aMs) (C := qR_M) (T := qT_M) (N := 23) hx hb hg qi_M hown hK hP 0 rfl rfl 10 (by decide) (hg _ mw_584) (fun _ h9 => h9) rfl qd_M_leads_108 ?_
              refine lv_bipush (v := 10) hx hb qd_M_leads_111 (by decide) ?_
              refine lv_iload hx hb qd_M_leads_113 (lv_at hl 0 rfl) ?_
              refine lv_imul hx hb qd_M_leads_115 ?_
              refine lv_aload_n hx hb qd_M_leads_116 rfl (lv_at hl 4 rfl) ?_
              refine va_get (D := (dC, dI)) (ci := 7) (v := .ref aMh) (C := qR_M) (T := qT_M) (N := 23) hx hb hg qi_M hown hK hP 0 rfl rfl 2 (by decide) (hg _ mw_576) (fun _ h9 => h9) rfl qd_M_leads_117 ?_
              refine lv_iload hx hb qd_M_leads_120 (lv_at hl 2 rfl) ?_
              obtain ⟨g_122, ho⟩ := ho
              refine va_iald hx hb hK hP 1 0 rfl rfl g_122 qd_M_leads_122 ?_
              refine lv_iadd hx hb qd_M_leads_123 ?_
              obtain ⟨g_124, ho⟩ := ho
              refine va_zald hx hb hK hP 3 1 rfl rfl g_124 qd_M_leads_124 ?_
              refine lv_if_eq (tgt := 174) hx hb qd_M_leads_125 (by decide) (fun c_125 => ?_) (fun c_125 => ?_)
              · have hres := hres.trans (if_pos c_125)
                have ho := (if_pos c_125).mp ho
                refine lv_iinc (v := x6_95 + 1) (lv' := [(6, .int (x6_95 + 1)), (5, .int 1), (4, .int x4_47), (3, .int x3_95), (0, .ref aM), (1, .int p0), (2, .int p1)]) hx hb qd_M_leads_174 hl (k := 0) rfl (congrArg (fun z => _ + z) (by decide)) (by decide) rfl (fun ls hl => ?_)
                refine lv_goto (tgt := 95) hx hb qd_M_leads_177 (by decide) ?_
                exact ih x3_95 (x6_95 + 1) vMs_95 H locs ls hP hD hS (lv_sub hl [0, 1, 2, 3, 4, 5, 6] rfl) hres ho
              have hres := hres.trans (if_neg c_125)
              have ho := (if_neg c_125).mp ho
              refine lv_aload_n hx hb qd_M_leads_128 rfl (lv_at hl 4 rfl) ?_
              refine va_get (D := (dC, dI)) (ci := 7) (v := .ref aMs) (C := qR_M) (T := qT_M) (N := 23) hx hb hg qi_M hown hK hP 0 rfl rfl 10 (by decide) (hg _ mw_584) (fun _ h9 => h9) rfl qd_M_leads_129 ?_
              refine lv_bipush (v := 10) hx hb qd_M_leads_132 (by decide) ?_
              refine lv_iload hx hb qd_M_leads_134 (lv_at hl 0 rfl) ?_
              refine lv_imul hx hb qd_M_leads_136 ?_
              refine lv_aload_n hx hb qd_M_leads_137 rfl (lv_at hl 4 rfl) ?_
              refine va_get (D := (dC, dI)) (ci := 7) (v := .ref aMi) (C := qR_M) (T := qT_M) (N := 23) hx hb hg qi_M hown hK hP 0 rfl rfl 3 (by decide) (hg _ mw_577) (fun _ h9 => h9) rfl qd_M_leads_138 ?_
              refine lv_iconst (v := 3) hx hb qd_M_leads_141 (by decide) ?_
              refine lv_iload hx hb qd_M_leads_142 (lv_at hl 2 rfl) ?_
              refine lv_imul hx hb qd_M_leads_144 ?_
              obtain ⟨g_145, ho⟩ := ho
              refine va_iald hx hb hK hP 2 0 rfl rfl g_145 qd_M_leads_145 ?_
              refine lv_iadd hx hb qd_M_leads_146 ?_
              obtain ⟨g_147, ho⟩ := ho
              refine va_zald hx hb hK hP 3 1 rfl rfl g_147 qd_M_leads_147 ?_
              refine lv_if_ne (tgt := 174) hx hb qd_M_leads_148 (by decide) (fun c_148 => ?_) (fun c_148 => ?_)
              · have hres := hres.trans (if_neg c_148)
                have ho := (if_neg c_148).mp ho
                refine lv_iinc (v := x6_95 + 1) (lv' := [(6, .int (x6_95 + 1)), (5, .int 1), (4, .int x4_47), (3, .int x3_95), (0, .ref aM), (1, .int p0), (2, .int p1)]) hx hb qd_M_leads_174 hl (k := 0) rfl (congrArg (fun z => _ + z) (by decide)) (by decide) rfl (fun ls hl => ?_)
                refine lv_goto (tgt := 95) hx hb qd_M_leads_177 (by decide) ?_
                exact ih x3_95 (x6_95 + 1) vMs_95 H locs ls hP hD hS (lv_sub hl [0, 1, 2, 3, 4, 5, 6] rfl) hres ho
              have hres := hres.trans (if_pos c_148)
              have ho := (if_pos c_148).mp ho
              refine lv_aload_n hx hb qd_M_leads_151 rfl (lv_at hl 4 rfl) ?_
              refine va_get (D := (dC, dI)) (ci := 7) (v := .ref aMs) (C := qR_M) (T := qT_M) (N := 23) hx hb hg qi_M hown hK hP 0 rfl rfl 10 (by decide) (hg _ mw_584) (fun _ h9 => h9) rfl qd_M_leads_152 ?_
              refine lv_bipush (v := 10) hx hb qd_M_leads_155 (by decide) ?_
              refine lv_iload hx hb qd_M_leads_157 (lv_at hl 0 rfl) ?_
              refine lv_imul hx hb qd_M_leads_159 ?_
              refine lv_aload_n hx hb qd_M_leads_160 rfl (lv_at hl 4 rfl) ?_
              refine va_get (D := (dC, dI)) (ci := 7) (v := .ref aMi) (C := qR_M) (T := qT_M) (N := 23) hx hb hg qi_M hown hK hP 0 rfl rfl 3 (by decide) (hg _ mw_577) (fun _ h9 => h9) rfl qd_M_leads_161 ?_
              refine lv_iconst (v := 3) hx hb qd_M_leads_164 (by decide) ?_
              refine lv_iload hx hb qd_M_leads_165 (lv_at hl 2 rfl) ?_
              refine lv_imul hx hb qd_M_leads_167 ?_
              obtain ⟨g_168, ho⟩ := ho
              refine va_iald hx hb hK hP 2 0 rfl rfl g_168 qd_M_leads_168 ?_
              refine lv_iadd hx hb qd_M_leads_169 ?_
              refine lv_iconst (v := 1) hx hb qd_M_leads_170 (by decide) ?_
              obtain ⟨g_171, ho⟩ := ho
              refine va_zast hx hb hK hP hD hS 3 1 rfl rfl g_171 qd_M_leads_171 (fun H locs hP hD hS => ?_)
              have hP : va_P (dC, dI) vwCl [(aM, .inr (7, [.int vMT, .int vMP, .ref aMh, .ref aMi, .ref aMc, .int vMK, .ref aMt, .int vMB, .ref aMn, .ref aMl, .ref aMs, .int vMD, .ref aMd, .int vME, .ref aMe, .int vMO, .ref aMo, .int vMF, .int vMS, .ref aMw, .ref aMu, .int vMX, .int vMW])), (aMh, .inl (cA, 24, .inl (vMh))), (aMi, .inl (cA, 72, .inl (vMi))), (aMs, .inl (cZ, 100, .inl (upd vMs_95 ((10 * x6_95) + (vMi (3 * x4_47).toNatClampNeg)).toNatClampNeg (vp_nar .boolean 1))))] H := hP
              have hD : va_D A [(aM, .inr (7, [.int vMT, .int vMP, .ref aMh, .ref aMi, .ref aMc, .int vMK, .ref aMt, .int vMB, .ref aMn, .ref aMl, .ref aMs, .int vMD, .ref aMd, .int vME, .ref aMe, .int vMO, .ref aMo, .int vMF, .int vMS, .ref aMw, .ref aMu, .int vMX, .int vMW])), (aMh, .inl (cA, 24, .inl (vMh))), (aMi, .inl (cA, 72, .inl (vMi))), (aMs, .inl (cZ, 100, .inl (upd vMs_95 ((10 * x6_95) + (vMi (3 * x4_47).toNatClampNeg)).toNatClampNeg (vp_nar .boolean 1))))] := hD
              refine lv_iconst (v := 1) hx hb qd_M_leads_172 (by decide) ?_
              refine lv_istore_n (lv' := [(3, .int 1), (6, .int x6_95), (5, .int 1), (4, .int x4_47), (0, .ref aM), (1, .int p0), (2, .int p1)]) hx hb qd_M_leads_173 rfl hl (by decide) rfl (fun ls hl => ?_)
              refine lv_iinc (v := x6_95 + 1) (lv' := [(6, .int (x6_95 + 1)), (3, .int 1), (5, .int 1), (4, .int x4_47), (0, .ref aM), (1, .int p0), (2, .int p1)]) hx hb qd_M_leads_174 hl (k := 1) rfl (congrArg (fun z => _ + z) (by decide)) (by decide) rfl (fun ls hl => ?_)
              refine lv_goto (tgt := 95) hx hb qd_M_leads_177 (by decide) ?_
              exact ih 1 (x6_95 + 1) (upd vMs_95 ((10 * x6_95) + (vMi (3 * x4_47).toNatClampNeg)).toNatClampNeg (vp_nar .boolean 1)) H locs ls hP hD hS (lv_sub hl [0, 2, 3, 1, 4, 5, 6] rfl) hres ho
          refine L_95 _ _ (fun x3_95 x6_95 vMs_95 H locs ls hP hD hS hl hres ho => ?_) _ _ _ _ _ _ ls hP hD hS hl hres ho
          refine lv_iinc (v := x4_47 + 1) (lv' := [(4, .int (x4_47 + 1)), (6, .int x6_95), (5, .int 1), (3, .int x3_95), (0, .ref aM), (1, .int p0), (2, .int p1)]) hx hb qd_M_leads_180 hl (k := 2) rfl (congrArg (fun z => _ + z) (by decide)) (by decide) rfl (fun ls hl => ?_)
          refine lv_goto (tgt := 47) hx hb qd_M_leads_183 (by decide) ?_
          exact ih x3_95 (x4_47 + 1) vMs_95 H locs ls hP hD hS (lv_sub hl [0, 3, 4, 5, 6] rfl) hres ho
      refine L_47 _ _ (fun x3_47 x4_47 vMs_47 H locs ls hP hD hS hl hres ho => ?_) _ _ _ _ _ _ ls hP hD hS hl hres ho
      refine lv_goto (tgt := 38) hx hb qd_M_leads_186 (by decide) ?_
      exact ih x3_47 vMs_47 H locs ls hP hD hS (lv_sub hl [1, 2, 3, 4] rfl) hres ho
  refine L_38 _ _ (fun x3_38 vMs_38 H locs ls hP hD hS hl hres ho => ?_) _ _ _ _ _ ls hP hD hS hl hres ho
  refine lv_aload_n hx hb qd_M_leads_189 rfl (lv_at hl 1 rfl) ?_
  refine va_get (D := (dC, dI)) (ci := 7) (v := .ref aMs) (C := qR_M) (T := qT_M) (N := 23) hx hb hg qi_M hown hK hP 0 rfl rfl 10 (by decide) (hg _ mw_584) (fun _ h9 => h9) rfl qd_M_leads_190 ?_
  refine lv_bipush (v := 10) hx hb qd_M_leads_193 (by decide) ?_
  refine lv_iload_n hx hb qd_M_leads_195 rfl (lv_at hl 2 rfl) ?_
  refine lv_imul hx hb qd_M_leads_196 ?_
  refine lv_iload_n hx hb qd_M_leads_197 rfl (lv_at hl 3 rfl) ?_
  refine lv_iadd hx hb qd_M_leads_198 ?_
  obtain ⟨g_199, ho⟩ := ho
  refine va_zald hx hb hK hP 3 1 rfl rfl g_199 qd_M_leads_199 ?_
  subst hQ
  exact W.zret (v := vMs_38 ((10 * p0) + p1).toNatClampNeg) (ty := .boolean) hx hb hr (x_nz ho.1) (fun t ht hW => ⟨⟨_, (vMs_38 ((10 * p0) + p1).toNatClampNeg, vMs_38), rfl, ⟨hres.symm, rfl⟩, ⟨by rw [ht]; exact hP, va_K.moved hW.alike hK, x_N hN hW⟩, hD⟩, hS.F ht⟩) hS.2.2 qd_M_leads_200
