theorem qd_M_production_0 : decode qc_M_production 0 = .ok (.iload_n 1, 1) := by decide +kernel
theorem qd_M_production_1 : decode qc_M_production 1 = .ok (.iconst 0, 1) := by decide +kernel
theorem qd_M_production_2 : decode qc_M_production 2 = .ok (.bipush 9, 2) := by decide +kernel
theorem qd_M_production_4 : decode qc_M_production 4 = .ok (.invokestatic 64, 3) := by decide +kernel
theorem qd_M_production_7 : decode qc_M_production 7 = .ok (.ifCond .eq 57, 3) := by decide +kernel
theorem qd_M_production_10 : decode qc_M_production 10 = .ok (.iload_n 2, 1) := by decide +kernel
theorem qd_M_production_11 : decode qc_M_production 11 = .ok (.invokestatic 68, 3) := by decide +kernel
theorem qd_M_production_14 : decode qc_M_production 14 = .ok (.ifCond .eq 50, 3) := by decide +kernel
theorem qd_M_production_17 : decode qc_M_production 17 = .ok (.iload_n 3, 1) := by decide +kernel
theorem qd_M_production_18 : decode qc_M_production 18 = .ok (.iconst (-1), 1) := by decide +kernel
theorem qd_M_production_19 : decode qc_M_production 19 = .ok (.if_icmp .eq 10, 3) := by decide +kernel
theorem qd_M_production_22 : decode qc_M_production 22 = .ok (.iload_n 3, 1) := by decide +kernel
theorem qd_M_production_23 : decode qc_M_production 23 = .ok (.invokestatic 68, 3) := by decide +kernel
theorem qd_M_production_26 : decode qc_M_production 26 = .ok (.ifCond .eq 38, 3) := by decide +kernel
theorem qd_M_production_29 : decode qc_M_production 29 = .ok (.iload 4, 2) := by decide +kernel
theorem qd_M_production_31 : decode qc_M_production 31 = .ok (.iconst (-1), 1) := by decide +kernel
theorem qd_M_production_32 : decode qc_M_production 32 = .ok (.if_icmp .eq 16, 3) := by decide +kernel
theorem qd_M_production_35 : decode qc_M_production 35 = .ok (.iload_n 3, 1) := by decide +kernel
theorem qd_M_production_36 : decode qc_M_production 36 = .ok (.iconst (-1), 1) := by decide +kernel
theorem qd_M_production_37 : decode qc_M_production 37 = .ok (.if_icmp .eq 27, 3) := by decide +kernel
theorem qd_M_production_40 : decode qc_M_production 40 = .ok (.iload 4, 2) := by decide +kernel
theorem qd_M_production_42 : decode qc_M_production 42 = .ok (.invokestatic 68, 3) := by decide +kernel
theorem qd_M_production_45 : decode qc_M_production 45 = .ok (.ifCond .eq 19, 3) := by decide +kernel
theorem qd_M_production_48 : decode qc_M_production 48 = .ok (.iload 5, 2) := by decide +kernel
theorem qd_M_production_50 : decode qc_M_production 50 = .ok (.iconst 0, 1) := by decide +kernel
theorem qd_M_production_51 : decode qc_M_production 51 = .ok (.sipush 1000, 3) := by decide +kernel
theorem qd_M_production_54 : decode qc_M_production 54 = .ok (.invokestatic 64, 3) := by decide +kernel
theorem qd_M_production_57 : decode qc_M_production 57 = .ok (.ifCond .eq 7, 3) := by decide +kernel
theorem qd_M_production_60 : decode qc_M_production 60 = .ok (.iconst 1, 1) := by decide +kernel
theorem qd_M_production_61 : decode qc_M_production 61 = .ok (.goto 4, 3) := by decide +kernel
theorem qd_M_production_64 : decode qc_M_production 64 = .ok (.iconst 0, 1) := by decide +kernel
theorem qd_M_production_65 : decode qc_M_production 65 = .ok (.istore 6, 2) := by decide +kernel
theorem qd_M_production_67 : decode qc_M_production 67 = .ok (.iload 6, 2) := by decide +kernel
theorem qd_M_production_69 : decode qc_M_production 69 = .ok (.ifCond .eq 27, 3) := by decide +kernel
theorem qd_M_production_72 : decode qc_M_production 72 = .ok (.iload_n 2, 1) := by decide +kernel
theorem qd_M_production_73 : decode qc_M_production 73 = .ok (.bipush 10, 2) := by decide +kernel
theorem qd_M_production_75 : decode qc_M_production 75 = .ok (.if_icmp .ge 21, 3) := by decide +kernel
theorem qd_M_production_78 : decode qc_M_production 78 = .ok (.iload_n 3, 1) := by decide +kernel
theorem qd_M_production_79 : decode qc_M_production 79 = .ok (.iconst (-1), 1) := by decide +kernel
theorem qd_M_production_80 : decode qc_M_production 80 = .ok (.if_icmp .ne 16, 3) := by decide +kernel
theorem qd_M_production_83 : decode qc_M_production 83 = .ok (.aload_n 0, 1) := by decide +kernel
theorem qd_M_production_84 : decode qc_M_production 84 = .ok (.iload_n 2, 1) := by decide +kernel
theorem qd_M_production_85 : decode qc_M_production 85 = .ok (.iload_n 1, 1) := by decide +kernel
theorem qd_M_production_86 : decode qc_M_production 86 = .ok (.invokevirtual 72, 3) := by decide +kernel
theorem qd_M_production_89 : decode qc_M_production 89 = .ok (.ifCond .eq 7, 3) := by decide +kernel
theorem qd_M_production_92 : decode qc_M_production 92 = .ok (.iconst 1, 1) := by decide +kernel
theorem qd_M_production_93 : decode qc_M_production 93 = .ok (.goto 4, 3) := by decide +kernel
theorem qd_M_production_96 : decode qc_M_production 96 = .ok (.iconst 0, 1) := by decide +kernel
theorem qd_M_production_97 : decode qc_M_production 97 = .ok (.istore 7, 2) := by decide +kernel
theorem qd_M_production_99 : decode qc_M_production 99 = .ok (.aload_n 0, 1) := by decide +kernel
theorem qd_M_production_100 : decode qc_M_production 100 = .ok (.iload 6, 2) := by decide +kernel
theorem qd_M_production_102 : decode qc_M_production 102 = .ok (.ifCond .ne 7, 3) := by decide +kernel
theorem qd_M_production_105 : decode qc_M_production 105 = .ok (.iconst 1, 1) := by decide +kernel
theorem qd_M_production_106 : decode qc_M_production 106 = .ok (.goto 4, 3) := by decide +kernel
theorem qd_M_production_109 : decode qc_M_production 109 = .ok (.iconst 0, 1) := by decide +kernel
theorem qd_M_production_110 : decode qc_M_production 110 = .ok (.iload 6, 2) := by decide +kernel
theorem qd_M_production_112 : decode qc_M_production 112 = .ok (.ifCond .eq 16, 3) := by decide +kernel
theorem qd_M_production_115 : decode qc_M_production 115 = .ok (.aload_n 0, 1) := by decide +kernel
theorem qd_M_production_116 : decode qc_M_production 116 = .ok (.getfield 51, 3) := by decide +kernel
theorem qd_M_production_119 : decode qc_M_production 119 = .ok (.bipush 24, 2) := by decide +kernel
theorem qd_M_production_121 : decode qc_M_production 121 = .ok (.if_icmp .ne 7, 3) := by decide +kernel
theorem qd_M_production_124 : decode qc_M_production 124 = .ok (.iconst 1, 1) := by decide +kernel
theorem qd_M_production_125 : decode qc_M_production 125 = .ok (.goto 4, 3) := by decide +kernel
theorem qd_M_production_128 : decode qc_M_production 128 = .ok (.iconst 0, 1) := by decide +kernel
theorem qd_M_production_129 : decode qc_M_production 129 = .ok (.iload 7, 2) := by decide +kernel
theorem qd_M_production_131 : decode qc_M_production 131 = .ok (.invokevirtual 76, 3) := by decide +kernel
theorem qd_M_production_134 : decode qc_M_production 134 = .ok (.ifCond .eq 5, 3) := by decide +kernel
theorem qd_M_production_137 : decode qc_M_production 137 = .ok (.iconst 0, 1) := by decide +kernel
theorem qd_M_production_138 : decode qc_M_production 138 = .ok (.ireturn, 1) := by decide +kernel
theorem qd_M_production_139 : decode qc_M_production 139 = .ok (.aload_n 0, 1) := by decide +kernel
theorem qd_M_production_140 : decode qc_M_production 140 = .ok (.getfield 7, 3) := by decide +kernel
theorem qd_M_production_143 : decode qc_M_production 143 = .ok (.aload_n 0, 1) := by decide +kernel
theorem qd_M_production_144 : decode qc_M_production 144 = .ok (.getfield 51, 3) := by decide +kernel
theorem qd_M_production_147 : decode qc_M_production 147 = .ok (.iload_n 1, 1) := by decide +kernel
theorem qd_M_production_148 : decode qc_M_production 148 = .ok (.iastore, 1) := by decide +kernel
theorem qd_M_production_149 : decode qc_M_production 149 = .ok (.aload_n 0, 1) := by decide +kernel
theorem qd_M_production_150 : decode qc_M_production 150 = .ok (.getfield 13, 3) := by decide +kernel
theorem qd_M_production_153 : decode qc_M_production 153 = .ok (.iconst 3, 1) := by decide +kernel
theorem qd_M_production_154 : decode qc_M_production 154 = .ok (.aload_n 0, 1) := by decide +kernel
theorem qd_M_production_155 : decode qc_M_production 155 = .ok (.getfield 51, 3) := by decide +kernel
theorem qd_M_production_158 : decode qc_M_production 158 = .ok (.imul, 1) := by decide +kernel
theorem qd_M_production_159 : decode qc_M_production 159 = .ok (.iload_n 2, 1) := by decide +kernel
theorem qd_M_production_160 : decode qc_M_production 160 = .ok (.iastore, 1) := by decide +kernel
theorem qd_M_production_161 : decode qc_M_production 161 = .ok (.aload_n 0, 1) := by decide +kernel
theorem qd_M_production_162 : decode qc_M_production 162 = .ok (.getfield 13, 3) := by decide +kernel
theorem qd_M_production_165 : decode qc_M_production 165 = .ok (.iconst 3, 1) := by decide +kernel
theorem qd_M_production_166 : decode qc_M_production 166 = .ok (.aload_n 0, 1) := by decide +kernel
theorem qd_M_production_167 : decode qc_M_production 167 = .ok (.getfield 51, 3) := by decide +kernel
theorem qd_M_production_170 : decode qc_M_production 170 = .ok (.imul, 1) := by decide +kernel
theorem qd_M_production_171 : decode qc_M_production 171 = .ok (.iconst 1, 1) := by decide +kernel
theorem qd_M_production_172 : decode qc_M_production 172 = .ok (.iadd, 1) := by decide +kernel
theorem qd_M_production_173 : decode qc_M_production 173 = .ok (.iload_n 3, 1) := by decide +kernel
theorem qd_M_production_174 : decode qc_M_production 174 = .ok (.iastore, 1) := by decide +kernel
theorem qd_M_production_175 : decode qc_M_production 175 = .ok (.aload_n 0, 1) := by decide +kernel
theorem qd_M_production_176 : decode qc_M_production 176 = .ok (.getfield 13, 3) := by decide +kernel
theorem qd_M_production_179 : decode qc_M_production 179 = .ok (.iconst 3, 1) := by decide +kernel
theorem qd_M_production_180 : decode qc_M_production 180 = .ok (.aload_n 0, 1) := by decide +kernel
theorem qd_M_production_181 : decode qc_M_production 181 = .ok (.getfield 51, 3) := by decide +kernel
theorem qd_M_production_184 : decode qc_M_production 184 = .ok (.imul, 1) := by decide +kernel
theorem qd_M_production_185 : decode qc_M_production 185 = .ok (.iconst 2, 1) := by decide +kernel
theorem qd_M_production_186 : decode qc_M_production 186 = .ok (.iadd, 1) := by decide +kernel
theorem qd_M_production_187 : decode qc_M_production 187 = .ok (.iload 4, 2) := by decide +kernel
theorem qd_M_production_189 : decode qc_M_production 189 = .ok (.iastore, 1) := by decide +kernel
theorem qd_M_production_190 : decode qc_M_production 190 = .ok (.aload_n 0, 1) := by decide +kernel
theorem qd_M_production_191 : decode qc_M_production 191 = .ok (.getfield 16, 3) := by decide +kernel
theorem qd_M_production_194 : decode qc_M_production 194 = .ok (.aload_n 0, 1) := by decide +kernel
theorem qd_M_production_195 : decode qc_M_production 195 = .ok (.getfield 51, 3) := by decide +kernel
theorem qd_M_production_198 : decode qc_M_production 198 = .ok (.iload 5, 2) := by decide +kernel
theorem qd_M_production_200 : decode qc_M_production 200 = .ok (.iastore, 1) := by decide +kernel
theorem qd_M_production_201 : decode qc_M_production 201 = .ok (.aload_n 0, 1) := by decide +kernel
theorem qd_M_production_202 : decode qc_M_production 202 = .ok (.dup, 1) := by decide +kernel
theorem qd_M_production_203 : decode qc_M_production 203 = .ok (.getfield 51, 3) := by decide +kernel
theorem qd_M_production_206 : decode qc_M_production 206 = .ok (.iconst 1, 1) := by decide +kernel
theorem qd_M_production_207 : decode qc_M_production 207 = .ok (.iadd, 1) := by decide +kernel
theorem qd_M_production_208 : decode qc_M_production 208 = .ok (.putfield 51, 3) := by decide +kernel
theorem qd_M_production_211 : decode qc_M_production 211 = .ok (.aload_n 0, 1) := by decide +kernel
theorem qd_M_production_212 : decode qc_M_production 212 = .ok (.iconst 0, 1) := by decide +kernel
theorem qd_M_production_213 : decode qc_M_production 213 = .ok (.putfield 60, 3) := by decide +kernel
theorem qd_M_production_216 : decode qc_M_production 216 = .ok (.aload_n 0, 1) := by decide +kernel
theorem qd_M_production_217 : decode qc_M_production 217 = .ok (.getfield 51, 3) := by decide +kernel
theorem qd_M_production_220 : decode qc_M_production 220 = .ok (.iconst 1, 1) := by decide +kernel
theorem qd_M_production_221 : decode qc_M_production 221 = .ok (.isub, 1) := by decide +kernel
theorem qd_M_production_222 : decode qc_M_production 222 = .ok (.ireturn, 1) := by decide +kernel
set_option maxHeartbeats 4000000 in
set_option maxRecDepth 100000 in
theorem c_M_production (l : Launch) (dC : Nat → ClassId) (dI : Nat → Nat → Nat) (cA cZ : ClassId) (N_ : Nat) (aM aMh aMi aMc aMt aMn aMl aMs aMd aMe aMo aMw aMu : Nat) (sz : Nat) (vMT : Int32) (vMP : Int32) (vMK : Int32) (vMB : Int32) (vMD : Int32) (vME : Int32) (vMO : Int32) (vMF : Int32) (vMS : Int32) (vMX : Int32) (vMW : Int32) (vMh : (Nat → Int32)) (vMi : (Nat → Int32)) (vMc : (Nat → Int32)) (vMs : (Nat → Int32)) (p0 : Int32) (p1 : Int32) (p2 : Int32) (p3 : Int32) (p4 : Int32) (ho : o_M_production N_ vMT vMP vMB vMh vMi vMc vMs p0 p1 p2 p3 p4) : Met l qy_M_production qw_M_production ({ frames := 2, cells := 0, slots := 0, locals := 42 }) (va_Pc [.ref aM, .int p0, .int p1, .int p2, .int p3, .int p4] (fun U => U.heap.size = sz ∧ xP (dC, dI) [(cA, .int), (cZ, .boolean)] [(aM, .inr (7, [.int vMT, .int vMP, .ref aMh, .ref aMi, .ref aMc, .int vMK, .ref aMt, .int vMB, .ref aMn, .ref aMl, .ref aMs, .int vMD, .ref aMd, .int vME, .ref aMe, .int vMO, .ref aMo, .int vMF, .int vMS, .ref aMw, .ref aMu, .int vMX, .int vMW])), (aMh, .inl (cA, 24, .inl (vMh))), (aMi, .inl (cA, 72, .inl (vMi))), (aMc, .inl (cA, 24, .inl (vMc))), (aMs, .inl (cZ, 100, .inl (vMs)))] nestN U ∧ va_D (fun _ => True) [(aM, .inr (7, [.int vMT, .int vMP, .ref aMh, .ref aMi, .ref aMc, .int vMK, .ref aMt, .int vMB, .ref aMn, .ref aMl, .ref aMs, .int vMD, .ref aMd, .int vME, .ref aMe, .int vMO, .ref aMo, .int vMF, .int vMS, .ref aMw, .ref aMu, .int vMX, .int vMW])), (aMh, .inl (cA, 24, .inl (vMh))), (aMi, .inl (cA, 72, .inl (vMi))), (aMc, .inl (cA, 24, .inl (vMc))), (aMs, .inl (cZ, 100, .inl (vMs)))])) (va_Qi (fun r (u : Int32 × Int32 × Int32 × Int32 × (Nat → Int32) × (Nat → Int32) × (Nat → Int32) × (Nat → Int32)) => u = f_M_production N_ vMT vMP vMB vMh vMi vMc vMs p0 p1 p2 p3 p4 ∧ r = u.1) (fun (u : Int32 × Int32 × Int32 × Int32 × (Nat → Int32) × (Nat → Int32) × (Nat → Int32) × (Nat → Int32)) t => xP (dC, dI) [(cA, .int), (cZ, .boolean)] [(aM, .inr (7, [.int u.2.1, .int u.2.2.1, .ref aMh, .ref aMi, .ref aMc, .int vMK, .ref aMt, .int u.2.2.2.1, .ref aMn, .ref aMl, .ref aMs, .int vMD, .ref aMd, .int vME, .ref aMe, .int vMO, .ref aMo, .int vMF, .int vMS, .ref aMw, .ref aMu, .int vMX, .int vMW])), (aMh, .inl (cA, 24, .inl (u.2.2.2.2.1))), (aMi, .inl (cA, 72, .inl (u.2.2.2.2.2.1))), (aMc, .inl (cA, 24, .inl (u.2.2.2.2.2.2.1))), (aMs, .inl (cZ, 100, .inl (u.2.2.2.2.2.2.2)))] nestN t ∧ va_D (va_A [(aM, .inr (7, [.int vMT, .int vMP, .ref aMh, .ref aMi, .ref aMc, .int vMK, .ref aMt, .int vMB, .ref aMn, .ref aMl, .ref aMs, .int vMD, .ref aMd, .int vME, .ref aMe, .int vMO, .ref aMo, .int vMF, .int vMS, .ref aMw, .ref aMu, .int vMX, .int vMW])), (aMh, .inl (cA, 24, .inl (vMh))), (aMi, .inl (cA, 72, .inl (vMi))), (aMc, .inl (cA, 24, .inl (vMc))), (aMs, .inl (cZ, 100, .inl (vMs)))] sz) [(aM, .inr (7, [.int u.2.1, .int u.2.2.1, .ref aMh, .ref aMi, .ref aMc, .int vMK, .ref aMt, .int u.2.2.2.1, .ref aMn, .ref aMl, .ref aMs, .int vMD, .ref aMd, .int vME, .ref aMe, .int vMO, .ref aMo, .int vMF, .int vMS, .ref aMw, .ref aMu, .int vMX, .int vMW])), (aMh, .inl (cA, 24, .inl (u.2.2.2.2.1))), (aMi, .inl (cA, 72, .inl (u.2.2.2.2.2.1))), (aMc, .inl (cA, 24, .inl (u.2.2.2.2.2.2.1))), (aMs, .inl (cZ, 100, .inl (u.2.2.2.2.2.2.2)))]) (va_A [(aM, .inr (7, [.int vMT, .int vMP, .ref aMh, .ref aMi, .ref aMc, .int vMK, .ref aMt, .int vMB, .ref aMn, .ref aMl, .ref aMs, .int vMD, .ref aMd, .int vME, .ref aMe, .int vMO, .ref aMo, .int vMF, .int vMS, .ref aMw, .ref aMu, .int vMX, .int vMW])), (aMh, .inl (cA, 24, .inl (vMh))), (aMi, .inl (cA, 72, .inl (vMi))), (aMc, .inl (cA, 24, .inl (vMc))), (aMs, .inl (cZ, 100, .inl (vMs)))] sz)) 0 0 (va_A [(aM, .inr (7, [.int vMT, .int vMP, .ref aMh, .ref aMi, .ref aMc, .int vMK, .ref aMt, .int vMB, .ref aMn, .ref aMl, .ref aMs, .int vMD, .ref aMd, .int vME, .ref aMe, .int vMO, .ref aMo, .int vMF, .int vMS, .ref aMw, .ref aMu, .int vMX, .int vMW])), (aMh, .inl (cA, 24, .inl (vMh))), (aMi, .inl (cA, 72, .inl (vMi))), (aMc, .inl (cA, 24, .inl (vMc))), (aMs, .inl (cZ, 100, .inl (vMs)))] sz) := by
  refine Met.ofW (cc := qc_M_production) (maxL := 8) (ret := (some .int)) (by decide) rfl ?_
  intro p e s m args below meth c s₁ B hml hv
  obtain ⟨rfl, hsz, ⟨hP, hK, hN⟩, hD0⟩ := hv
  have hx := B.exec
  have hb := B.bytes
  have hr := B.returns
  have hts := atoms_spec (ws := qw_M_production) B.pre
  have hg : ∀ w ∈ gG, w.before _ s = true := fun w h => hts w (List.mem_cons_of_mem _ h)
  have hown : s.vm.findClass qR_M = some m.cls := findClass_of_methodNamed B.named
  have hlocks := B.notSynchronized
  subst hsz
  have hD := hD0.self (sz := s.heap.size)
  generalize hAe : va_A [(aM, .inr (7, [.int vMT, .int vMP, .ref aMh, .ref aMi, .ref aMc, .int vMK, .ref aMt, .int vMB, .ref aMn, .ref aMl, .ref aMs, .int vMD, .ref aMd, .int vME, .ref aMe, .int vMO, .ref aMo, .int vMF, .int vMS, .ref aMw, .ref aMu, .int vMX, .int vMW])), (aMh, .inl (cA, 24, .inl (vMh))), (aMi, .inl (cA, 72, .inl (vMi))), (aMc, .inl (cA, 24, .inl (vMc))), (aMs, .inl (cZ, 100, .inl (vMs)))] s.heap.size = A at hD ⊢
  have hA : ∀ q : Nat, s.heap.size ≤ q → A q := fun q h => by rw [← hAe]; exact Or.inr h
  have hS : va_S A s.heap s.heap [] := va_S.rf
  have hP : va_P (dC, dI) vwCl [(aM, .inr (7, [.int vMT, .int vMP, .ref aMh, .ref aMi, .ref aMc, .int vMK, .ref aMt, .int vMB, .ref aMn, .ref aMl, .ref aMs, .int vMD, .ref aMd, .int vME, .ref aMe, .int vMO, .ref aMo, .int vMF, .int vMS, .ref aMw, .ref aMu, .int vMX, .int vMW])), (aMh, .inl (cA, 24, .inl (vMh))), (aMi, .inl (cA, 72, .inl (vMi))), (aMc, .inl (cA, 24, .inl (vMc))), (aMs, .inl (cZ, 100, .inl (vMs)))] s.heap := hP
  have hl := lv_entry ([.ref aM, .int p0, .int p1, .int p2, .int p3, .int p4]) (n := 8) (Nat.le_of_ble_eq_true rfl)
  rw [lg_entry_eq]
  generalize (lg_sl ([.ref aM, .int p0, .int p1, .int p2, .int p3, .int p4]) ++ List.replicate (8 - (lg_sl ([.ref aM, .int p0, .int p1, .int p2, .int p3, .int p4])).length) Slot.unset).toArray = ls at hl ⊢
  have hl : lv_has ls 8 [(0, .ref aM), (1, .int p0), (2, .int p1), (3, .int p2), (4, .int p3), (5, .int p4)] := hl
  generalize hF : f_M_production N_ vMT vMP vMB vMh vMi vMc vMs p0 p1 p2 p3 p4 = Fv
  have hres : Fv = f_M_production N_ vMT vMP vMB vMh vMi vMc vMs p0 p1 p2 p3 p4 := hF.symm
  unfold f_M_production at hres
  unfold o_M_production at ho
  refine lv_iload_n hx hb qd_M_production_0 rfl (lv_at hl 1 rfl) ?_
  refine lv_iconst (v := 0) hx hb qd_M_production_1 (by decide) ?_
  refine lv_bipush (v := 9) hx hb qd_M_production_2 (by decide) ?_
  refine xc_S (As := [.int p0, .int 0, .int 9]) (rest := []) ⟨hx, hb, hml, hown, hg⟩ (c_M_in l dC dI cA cZ p0 0 9) (va_cwS 3 hg (q_gS mw_633 mw_634 mw_8 mw_635) rfl rfl rfl qh_M_in.2 ⟨Nat.le_of_ble_eq_true rfl, Nat.le_of_ble_eq_true rfl⟩) hN hK hP [] rfl rfl hl.1 rfl (Nat.le_of_ble_eq_true rfl) qd_M_production_4 ⟨Nat.zero_le _, Nat.zero_le _⟩ ?_
  refine lv_topi (fun r_4 w_4 => ?_)
  have hres := hres.trans (bd_eq w_4)
  have ho := (bd_eq w_4).mp ho
  refine lv_if_eq (tgt := 64) hx hb qd_M_production_7 (by decide) (fun c_7 => ?_) (fun c_7 => ?_)
  · have hres := hres.trans (if_pos c_7)
    have ho := (if_pos c_7).mp ho
    refine lv_iconst (v := 0) hx hb qd_M_production_64 (by decide) ?_
    refine lv_istore (lv' := [(6, .int 0), (0, .ref aM), (1, .int p0), (2, .int p1), (3, .int p2), (4, .int p3), (5, .int p4)]) hx hb qd_M_production_65 hl (by decide) rfl (fun ls hl => ?_)
    refine lv_iload hx hb qd_M_production_67 (lv_at hl 0 rfl) ?_
    refine lv_if_eq (tgt := 96) hx hb qd_M_production_69 (by decide) (fun c_69 => ?_) (fun c_69 => ?_)
    rotate_left
    · exact absurd (by decide) c_69
    refine lv_iconst (v := 0) hx hb qd_M_production_96 (by decide) ?_
    refine lv_istore (lv' := [(7, .int 0), (6, .int 0), (0, .ref aM), (1, .int p0), (2, .int p1), (3, .int p2), (4, .int p3), (5, .int p4)]) hx hb qd_M_production_97 hl (by decide) rfl (fun ls hl => ?_)
    refine lv_aload_n hx hb qd_M_production_99 rfl (lv_at hl 2 rfl) ?_
    refine lv_iload hx hb qd_M_production_100 (lv_at hl 1 rfl) ?_
    refine lv_if_ne (tgt := 109) hx hb qd_M_production_102 (by decide) (fun c_102 => ?_) (fun c_102 => ?_)
    · exact absurd (by decide) c_102
    refine lv_iconst (v := 1) hx hb qd_M_production_105 (by decide) ?_
    refine lv_goto (tgt := 110) hx hb qd_M_production_106 (by decide) ?_
    refine lv_iload hx hb qd_M_production_110 (lv_at hl 1 rfl) ?_
    refine lv_if_eq (tgt := 128) hx hb qd_M_production_112 (by decide) (fun c_112 => ?_) (fun c_112 => ?_)
    rotate_left
    · exact absurd (by decide) c_112
    refine lv_iconst (v := 0) hx hb qd_M_production_128 (by decide) ?_
    refine lv_iload hx hb qd_M_production_129 (lv_at hl 0 rfl) ?_
    refine xm_Vi (As := [.int 1, .int 0, .int 0]) (rest := []) (w1 := fun (u_131 : Int32 × Int32) => [(aM, .inr (7, [.int u_131.2, .int vMP, .ref aMh, .ref aMi, .ref aMc, .int vMK, .ref aMt, .int vMB, .ref aMn, .ref aMl, .ref aMs, .int vMD, .ref aMd, .int vME, .ref aMe, .int vMO, .ref aMo, .int vMF, .int vMS, .ref aMw, .ref aMu, .int vMX, .int vMW]))]) (w2 := fun (u_131 : Int32 × Int32) => [(aM, .inr (7, [.int u_131.2, .int vMP, .ref aMh, .ref aMi, .ref aMc, .int vMK, .ref aMt, .int vMB, .ref aMn, .ref aMl, .ref aMs, .int vMD, .ref aMd, .int vME, .ref aMe, .int vMO, .ref aMo, .int vMF, .int vMS, .ref aMw, .ref aMu, .int vMX, .int vMW])), (aMh, .inl (cA, 24, .inl (vMh))), (aMi, .inl (cA, 72, .inl (vMi))), (aMc, .inl (cA, 24, .inl (vMc))), (aMs, .inl (cZ, 100, .inl (vMs)))]) ⟨hx, hb, hml, hown, hg⟩ (c_M_refuse l dC dI cA cZ aM aMh aMi aMc aMt aMn aMl aMs aMd aMe aMo aMw aMu _ vMT vMP vMK vMB vMD vME vMO vMF vMS vMX vMW 1 0 0) (cwV 3 hg (q_gV mw_642 mw_643 mw_771 mw_8 mw_644) rfl rfl rfl qh_M_refuse ⟨Nat.le_of_ble_eq_true rfl, Nat.le_of_ble_eq_true rfl⟩) hN hK hP hD hS hA [0] [1, 2, 3, 4] rfl rfl (by decide) (by decide) (by decide) [4, 0, 1, 2, 3] (fun _ => rfl) (by decide) 0 7 rfl rfl rfl hl.1 rfl (Nat.le_of_ble_eq_true rfl) qd_M_production_131 ⟨Nat.zero_le _, Nat.zero_le _⟩ (fun u_131 H locs w_131 hP hD hS => ?_)
    have hP : va_P (dC, dI) vwCl [(aM, .inr (7, [.int u_131.2, .int vMP, .ref aMh, .ref aMi, .ref aMc, .int vMK, .ref aMt, .int vMB, .ref aMn, .ref aMl, .ref aMs, .int vMD, .ref aMd, .int vME, .ref aMe, .int vMO, .ref aMo, .int vMF, .int vMS, .ref aMw, .ref aMu, .int vMX, .int vMW])), (aMh, .inl (cA, 24, .inl (vMh))), (aMi, .inl (cA, 72, .inl (vMi))), (aMc, .inl (cA, 24, .inl (vMc))), (aMs, .inl (cZ, 100, .inl (vMs)))] H := hP
    have hD : va_D A [(aM, .inr (7, [.int u_131.2, .int vMP, .ref aMh, .ref aMi, .ref aMc, .int vMK, .ref aMt, .int vMB, .ref aMn, .ref aMl, .ref aMs, .int vMD, .ref aMd, .int vME, .ref aMe, .int vMO, .ref aMo, .int vMF, .int vMS, .ref aMw, .ref aMu, .int vMX, .int vMW])), (aMh, .inl (cA, 24, .inl (vMh))), (aMi, .inl (cA, 72, .inl (vMi))), (aMc, .inl (cA, 24, .inl (vMc))), (aMs, .inl (cZ, 100, .inl (vMs)))] := hD
    have hres := hres.trans (bd_eq w_131)
    have ho := (bd_eq w_131).mp ho
    refine lv_if_eq (tgt := 139) hx hb qd_M_production_134 (by decide) (fun c_134 => ?_) (fun c_134 => ?_)
    · have hres := hres.trans (if_pos c_134)
      have ho := (if_pos c_134).mp ho
      refine lv_aload_n hx hb qd_M_production_139 rfl (lv_at hl 2 rfl) ?_
      refine va_get (D := (dC, dI)) (ci := 7) (v := .ref aMh) (C := qR_M) (T := qT_M) (N := 23) hx hb hg qi_M hown hK hP 0 rfl rfl 2 (by decide) (hg _ mw_576) (fun _ h9 => h9) rfl qd_M_production_140 ?_
      refine lv_aload_n hx hb qd_M_production_143 rfl (lv_at hl 2 rfl) ?_
      refine va_get (D := (dC, dI)) (ci := 7) (v := .int vMP) (C := qR_M) (T := qT_M) (N := 23) hx hb hg qi_M hown hK hP 0 rfl rfl 1 (by decide) (hg _ mw_575) (fun _ h9 => h9) rfl qd_M_production_144 ?_
      refine lv_iload_n hx hb qd_M_production_147 rfl (lv_at hl 3 rfl) ?_
      obtain ⟨g_148, ho⟩ := ho
      refine va_iast hx hb hK hP hD hS 1 0 rfl rfl g_148 qd_M_production_148 (fun H locs hP hD hS => ?_)
      have hP : va_P (dC, dI) vwCl [(aM, .inr (7, [.int u_131.2, .int vMP, .ref aMh, .ref aMi, .ref aMc, .int vMK, .ref aMt, .int vMB, .ref aMn, .ref aMl, .ref aMs, .int vMD, .ref aMd, .int vME, .ref aMe, .int vMO, .ref aMo, .int vMF, .int vMS, .ref aMw, .ref aMu, .int vMX, .int vMW])), (aMh, .inl (cA, 24, .inl (upd vMh vMP.toNatClampNeg p0))), (aMi, .inl (cA, 72, .inl (vMi))), (aMc, .inl (cA, 24, .inl (vMc))), (aMs, .inl (cZ, 100, .inl (vMs)))] H := hP
      have hD : va_D A [(aM, .inr (7, [.int u_131.2, .int vMP, .ref aMh, .ref aMi, .ref aMc, .int vMK, .ref aMt, .int vMB, .ref aMn, .ref aMl, .ref aMs, .int vMD, .ref aMd, .int vME, .ref aMe, .int vMO, .ref aMo, .int vMF, .int vMS, .ref aMw, .ref aMu, .int vMX, .int vMW])), (aMh, .inl (cA, 24, .inl (upd vMh vMP.toNatClampNeg p0))), (aMi, .inl (cA, 72, .inl (vMi))), (aMc, .inl (cA, 24, .inl (vMc))), (aMs, .inl (cZ, 100, .inl (vMs)))] := hD
      refine lv_aload_n hx hb qd_M_production_149 rfl (lv_at hl 2 rfl) ?_
      refine va_get (D := (dC, dI)) (ci := 7) (v := .ref aMi) (C := qR_M) (T := qT_M) (N := 23) hx hb hg qi_M hown hK hP 0 rfl rfl 3 (by decide) (hg _ mw_577) (fun _ h9 => h9) rfl qd_M_production_150 ?_
      refine lv_iconst (v := 3) hx hb qd_M_production_153 (by decide) ?_
      refine lv_aload_n hx hb qd_M_production_154 rfl (lv_at hl 2 rfl) ?_
      refine va_get (D := (dC, dI)) (ci := 7) (v := .int vMP) (C := qR_M) (T := qT_M) (N := 23) hx hb hg qi_M hown hK hP 0 rfl rfl 1 (by decide) (hg _ mw_575) (fun _ h9 => h9) rfl qd_M_production_155 ?_
      refine lv_imul hx hb qd_M_production_158 ?_
      refine lv_iload_n hx hb qd_M_production_159 rfl (lv_at hl 4 rfl) ?_
      obtain ⟨g_160, ho⟩ := ho
      refine va_iast hx hb hK hP hD hS 2 0 rfl rfl g_160 qd_M_production_160 (fun H locs hP hD hS => ?_)
      have hP : va_P (dC, dI) vwCl [(aM, .inr (7, [.int u_131.2, .int vMP, .ref aMh, .ref aMi, .ref aMc, .int vMK, .ref aMt, .int vMB, .ref aMn, .ref aMl, .ref aMs, .int vMD, .ref aMd, .int vME, .ref aMe, .int vMO, .ref aMo, .int vMF, .int vMS, .ref aMw, .ref aMu, .int vMX, .int vMW])), (aMh, .inl (cA, 24, .inl (upd vMh vMP.toNatClampNeg p0))), (aMi, .inl (cA, 72, .inl (upd vMi (3 * vMP).toNatClampNeg p1))), (aMc, .inl (cA, 24, .inl (vMc))), (aMs, .inl (cZ, 100, .inl (vMs)))] H := hP
      have hD : va_D A [(aM, .inr (7, [.int u_131.2, .int vMP, .ref aMh, .ref aMi, .ref aMc, .int vMK, .ref aMt, .int vMB, .ref aMn, .ref aMl, .ref aMs, .int vMD, .ref aMd, .int vME, .ref aMe, .int vMO, .ref aMo, .int vMF, .int vMS, .ref aMw, .ref aMu, .int vMX, .int vMW])), (aMh, .inl (cA, 24, .inl (upd vMh vMP.toNatClampNeg p0))), (aMi, .inl (cA, 72, .inl (upd vMi (3 * vMP).toNatClampNeg p1))), (aMc, .inl (cA, 24, .inl (vMc))), (aMs, .inl (cZ, 100, .inl (vMs)))] := hD
      refine lv_aload_n hx hb qd_M_production_161 rfl (lv_at hl 2 rfl) ?_
      refine va_get (D := (dC, dI)) (ci := 7) (v := .ref aMi) (C := qR_M) (T := qT_M) (N := 23) hx hb hg qi_M hown hK hP 0 rfl rfl 3 (by decide) (hg _ mw_577) (fun _ h9 => h9) rfl qd_M_production_162 ?_
      refine lv_iconst (v := 3) hx hb qd_M_production_165 (by decide) ?_
      refine lv_aload_n hx hb qd_M_production_166 rfl (lv_at hl 2 rfl) ?_
      refine va_get (D := (dC, dI)) (ci := 7) (v := .int vMP) (C := qR_M) (T := qT_M) (N := 23) hx hb hg qi_M hown hK hP 0 rfl rfl 1 (by decide) (hg _ mw_575) (fun _ h9 => h9) rfl qd_M_production_167 ?_
      refine lv_imul hx hb qd_M_production_170 ?_
      refine lv_iconst (v := 1) hx hb qd_M_production_171 (by decide) ?_
      refine lv_iadd hx hb qd_M_production_172 ?_
      refine lv_iload_n hx hb qd_M_production_173 rfl (lv_at hl 5 rfl) ?_
      obtain ⟨g_174, ho⟩ := ho
      refine va_iast hx hb hK hP hD hS 2 0 rfl rfl g_174 qd_M_production_174 (fun H locs hP hD hS => ?_)
      have hP : va_P (dC, dI) vwCl [(aM, .inr (7, [.int u_131.2, .int vMP, .ref aMh, .ref aMi, .ref aMc, .int vMK, .ref aMt, .int vMB, .ref aMn, .ref aMl, .ref aMs, .int vMD, .ref aMd, .int vME, .ref aMe, .int vMO, .ref aMo, .int vMF, .int vMS, .ref aMw, .ref aMu, .int vMX, .int vMW])), (aMh, .inl (cA, 24, .inl (upd vMh vMP.toNatClampNeg p0))), (aMi, .inl (cA, 72, .inl (upd (upd vMi (3 * vMP).toNatClampNeg p1) ((3 * vMP) + 1).toNatClampNeg p2))), (aMc, .inl (cA, 24, .inl (vMc))), (aMs, .inl (cZ, 100, .inl (vMs)))] H := hP
      have hD : va_D A [(aM, .inr (7, [.int u_131.2, .int vMP, .ref aMh, .ref aMi, .ref aMc, .int vMK, .ref aMt, .int vMB, .ref aMn, .ref aMl, .ref aMs, .int vMD, .ref aMd, .int vME, .ref aMe, .int vMO, .ref aMo, .int vMF, .int vMS, .ref aMw, .ref aMu, .int vMX, .int vMW])), (aMh, .inl (cA, 24, .inl (upd vMh vMP.toNatClampNeg p0))), (aMi, .inl (cA, 72, .inl (upd (upd vMi (3 * vMP).toNatClampNeg p1) ((3 * vMP) + 1).toNatClampNeg p2))), (aMc, .inl (cA, 24, .inl (vMc))), (aMs, .inl (cZ, 100, .inl (vMs)))] := hD
      refine lv_aload_n hx hb qd_M_production_175 rfl (lv_at hl 2 rfl) ?_
      refine va_get (D := (dC, dI)) (ci := 7) (v := .ref aMi) (C := qR_M) (T := qT_M) (N := 23) hx hb hg qi_M hown hK hP 0 rfl rfl 3 (by decide) (hg _ mw_577) (fun _ h9 => h9) rfl qd_M_production_176 ?_
      refine lv_iconst (v := 3) hx hb qd_M_production_179 (by decide) ?_
      refine lv_aload_n hx hb qd_M_production_180 rfl (lv_at hl 2 rfl) ?_
      refine va_get (D := (dC, dI)) (ci := 7) (v := .int vMP) (C := qR_M) (T := qT_M) (N := 23) hx hb hg qi_M hown hK hP 0 rfl rfl 1 (by decide) (hg _ mw_575) (fun _ h9 => h9) rfl qd_M_production_181 ?_
      refine lv_imul hx hb qd_M_production_184 ?_
      refine lv_iconst (v := 2) hx hb qd_M_production_185 (by decide) ?_
      refine lv_iadd hx hb qd_M_production_186 ?_
      refine lv_iload hx hb qd_M_production_187 (lv_at hl 6 rfl) ?_
      obtain ⟨g_189, ho⟩ := ho
      refine va_iast hx hb hK hP hD hS 2 0 rfl rfl g_189 qd_M_production_189 (fun H locs hP hD hS => ?_)
      have hP : va_P (dC, dI) vwCl [(aM, .inr (7, [.int u_131.2, .int vMP, .ref aMh, .ref aMi, .ref aMc, .int vMK, .ref aMt, .int vMB, .ref aMn, .ref aMl, .ref aMs, .int vMD, .ref aMd, .int vME, .ref aMe, .int vMO, .ref aMo, .int vMF, .int vMS, .ref aMw, .ref aMu, .int vMX, .int vMW])), (aMh, .inl (cA, 24, .inl (upd vMh vMP.toNatClampNeg p0))), (aMi, .inl (cA, 72, .inl (upd (upd (upd vMi (3 * vMP).toNatClampNeg p1) ((3 * vMP) + 1).toNatClampNeg p2) ((3 * vMP) + 2).toNatClampNeg p3))), (aMc, .inl (cA, 24, .inl (vMc))), (aMs, .inl (cZ, 100, .inl (vMs)))] H := hP
      have hD : va_D A [(aM, .inr (7, [.int u_131.2, .int vMP, .ref aMh, .ref aMi, .ref aMc, .int vMK, .ref aMt, .int vMB, .ref aMn, .ref aMl, .ref aMs, .int vMD, .ref aMd, .int vME, .ref aMe, .int vMO, .ref aMo, .int vMF, .int vMS, .ref aMw, .ref aMu, .int vMX, .int vMW])), (aMh, .inl (cA, 24, .inl (upd vMh vMP.toNatClampNeg p0))), (aMi, .inl (cA, 72, .inl (upd (upd (upd vMi (3 * vMP).toNatClampNeg p1) ((3 * vMP) + 1).toNatClampNeg p2) ((3 * vMP) + 2).toNatClampNeg p3))), (aMc, .inl (cA, 24, .inl (vMc))), (aMs, .inl (cZ, 100, .inl (vMs)))] := hD
      refine lv_aload_n hx hb qd_M_production_190 rfl (lv_at hl 2 rfl) ?_
      refine va_get (D := (dC, dI)) (ci := 7) (v := .ref aMc) (C := qR_M) (T := qT_M) (N := 23) hx hb hg qi_M hown hK hP 0 rfl rfl 4 (by decide) (hg _ mw_578) (fun _ h9 => h9) rfl qd_M_production_191 ?_
      refine lv_aload_n hx hb qd_M_production_194 rfl (lv_at hl 2 rfl) ?_
      refine va_get (D := (dC, dI)) (ci := 7) (v := .int vMP) (C := qR_M) (T := qT_M) (N := 23) hx hb hg qi_M hown hK hP 0 rfl rfl 1 (by decide) (hg _ mw_575) (fun _ h9 => h9) rfl qd_M_production_195 ?_
      refine lv_iload hx hb qd_M_production_198 (lv_at hl 7 rfl) ?_
      obtain ⟨g_200, ho⟩ := ho
      refine va_iast hx hb hK hP hD hS 3 0 rfl rfl g_200 qd_M_production_200 (fun H locs hP hD hS => ?_)
      have hP : va_P (dC, dI) vwCl [(aM, .inr (7, [.int u_131.2, .int vMP, .ref aMh, .ref aMi, .ref aMc, .int vMK, .ref aMt, .int vMB, .ref aMn, .ref aMl, .ref aMs, .int vMD, .ref aMd, .int vME, .ref aMe, .int vMO, .ref aMo, .int vMF, .int vMS, .ref aMw, .ref aMu, .int vMX, .int vMW])), (aMh, .inl (cA, 24, .inl (upd vMh vMP.toNatClampNeg p0))), (aMi, .inl (cA, 72, .inl (upd (upd (upd vMi (3 * vMP).toNatClampNeg p1) ((3 * vMP) + 1).toNatClampNeg p2) ((3 * vMP) + 2).toNatClampNeg p3))), (aMc, .inl (cA, 24, .inl (upd vMc vMP.toNatClampNeg p4))), (aMs, .inl (cZ, 100, .inl (vMs)))] H := hP
      have hD : va_D A [(aM, .inr (7, [.int u_131.2, .int vMP, .ref aMh, .ref aMi, .ref aMc, .int vMK, .ref aMt, .int vMB, .ref aMn, .ref aMl, .ref aMs, .int vMD, .ref aMd, .int vME, .ref aMe, .int vMO, .ref aMo, .int vMF, .int vMS, .ref aMw, .ref aMu, .int vMX, .int vMW])), (aMh, .inl (cA, 24, .inl (upd vMh vMP.toNatClampNeg p0))), (aMi, .inl (cA, 72, .inl (upd (upd (upd vMi (3 * vMP).toNatClampNeg p1) ((3 * vMP) + 1).toNatClampNeg p2) ((3 * vMP) + 2).toNatClampNeg p3))), (aMc, .inl (cA, 24, .inl (upd vMc vMP.toNatClampNeg p4))), (aMs, .inl (cZ, 100, .inl (vMs)))] := hD
      refine lv_aload_n hx hb qd_M_production_201 rfl (lv_at hl 2 rfl) ?_
      refine lv_dup hx hb qd_M_production_202 rfl ?_
      refine va_get (D := (dC, dI)) (ci := 7) (v := .int vMP) (C := qR_M) (T := qT_M) (N := 23) hx hb hg qi_M hown hK hP 0 rfl rfl 1 (by decide) (hg _ mw_575) (fun _ h9 => h9) rfl qd_M_production_203 ?_
      refine lv_iconst (v := 1) hx hb qd_M_production_206 (by decide) ?_
      refine lv_iadd hx hb qd_M_production_207 ?_
      refine va_put (D := (dC, dI)) (ci := 7) (v := .int (vMP + 1)) (ty := .int) (C := qR_M) (T := qT_M) (N := 23) hx hb hg qi_M qt_M qk_M qn_M hown hK hP hD hS 0 rfl rfl 1 (by decide) (hg _ mw_575) (fun _ h9 => h9) rfl (by decide +kernel) rfl rfl (Nat.le_of_ble_eq_true rfl) qd_M_production_208 (fun H locs hP hD hS => ?_)
      have hP : va_P (dC, dI) vwCl [(aM, .inr (7, [.int u_131.2, .int (vMP + 1), .ref aMh, .ref aMi, .ref aMc, .int vMK, .ref aMt, .int vMB, .ref aMn, .ref aMl, .ref aMs, .int vMD, .ref aMd, .int vME, .ref aMe, .int vMO, .ref aMo, .int vMF, .int vMS, .ref aMw, .ref aMu, .int vMX, .int vMW])), (aMh, .inl (cA, 24, .inl (upd vMh vMP.toNatClampNeg p0))), (aMi, .inl (cA, 72, .inl (upd (upd (upd vMi (3 * vMP).toNatClampNeg p1) ((3 * vMP) + 1).toNatClampNeg p2) ((3 * vMP) + 2).toNatClampNeg p3))), (aMc, .inl (cA, 24, .inl (upd vMc vMP.toNatClampNeg p4))), (aMs, .inl (cZ, 100, .inl (vMs)))] H := hP
      have hD : va_D A [(aM, .inr (7, [.int u_131.2, .int (vMP + 1), .ref aMh, .ref aMi, .ref aMc, .int vMK, .ref aMt, .int vMB, .ref aMn, .ref aMl, .ref aMs, .int vMD, .ref aMd, .int vME, .ref aMe, .int vMO, .ref aMo, .int vMF, .int vMS, .ref aMw, .ref aMu, .int vMX, .int vMW])), (aMh, .inl (cA, 24, .inl (upd vMh vMP.toNatClampNeg p0))), (aMi, .inl (cA, 72, .inl (upd (upd (upd vMi (3 * vMP).toNatClampNeg p1) ((3 * vMP) + 1).toNatClampNeg p2) ((3 * vMP) + 2).toNatClampNeg p3))), (aMc, .inl (cA, 24, .inl (upd vMc vMP.toNatClampNeg p4))), (aMs, .inl (cZ, 100, .inl (vMs)))] := hD
      refine lv_aload_n hx hb qd_M_production_211 rfl (lv_at hl 2 rfl) ?_
      refine lv_iconst (v := 0) hx hb qd_M_production_212 (by decide) ?_
      refine va_put (D := (dC, dI)) (ci := 7) (v := .int 0) (ty := .boolean) (C := qR_M) (T := qT_M) (N := 23) hx hb hg qi_M qt_M qk_M qn_M hown hK hP hD hS 0 rfl rfl 7 (by decide) (hg _ mw_581) (fun _ h9 => h9) rfl (by decide +kernel) rfl rfl (Nat.le_of_ble_eq_true rfl) qd_M_production_213 (fun H locs hP hD hS => ?_)
      have hP : va_P (dC, dI) vwCl [(aM, .inr (7, [.int u_131.2, .int (vMP + 1), .ref aMh, .ref aMi, .ref aMc, .int vMK, .ref aMt, .int 0, .ref aMn, .ref aMl, .ref aMs, .int vMD, .ref aMd, .int vME, .ref aMe, .int vMO, .ref aMo, .int vMF, .int vMS, .ref aMw, .ref aMu, .int vMX, .int vMW])), (aMh, .inl (cA, 24, .inl (upd vMh vMP.toNatClampNeg p0))), (aMi, .inl (cA, 72, .inl (upd (upd (upd vMi (3 * vMP).toNatClampNeg p1) ((3 * vMP) + 1).toNatClampNeg p2) ((3 * vMP) + 2).toNatClampNeg p3))), (aMc, .inl (cA, 24, .inl (upd vMc vMP.toNatClampNeg p4))), (aMs, .inl (cZ, 100, .inl (vMs)))] H := hP
      have hD : va_D A [(aM, .inr (7, [.int u_131.2, .int (vMP + 1), .ref aMh, .ref aMi, .ref aMc, .int vMK, .ref aMt, .int 0, .ref aMn, .ref aMl, .ref aMs, .int vMD, .ref aMd, .int vME, .ref aMe, .int vMO, .ref aMo, .int vMF, .int vMS, .ref aMw, .ref aMu, .int vMX, .int vMW])), (aMh, .inl (cA, 24, .inl (upd vMh vMP.toNatClampNeg p0))), (aMi, .inl (cA, 72, .inl (upd (upd (upd vMi (3 * vMP).toNatClampNeg p1) ((3 * vMP) + 1).toNatClampNeg p2) ((3 * vMP) + 2).toNatClampNeg p3))), (aMc, .inl (cA, 24, .inl (upd vMc vMP.toNatClampNeg p4))), (aMs, .inl (cZ, 100, .inl (vMs)))] := hD
      refine lv_aload_n hx hb qd_M_production_216 rfl (lv_at hl 2 rfl) ?_
      refine va_get (D := (dC, dI)) (ci := 7) (v := .int (vMP + 1)) (C := qR_M) (T := qT_M) (N := 23) hx hb hg qi_M hown hK hP 0 rfl rfl 1 (by decide) (hg _ mw_575) (fun _ h9 => h9) rfl qd_M_production_217 ?_
      refine lv_iconst (v := 1) hx hb qd_M_production_220 (by decide) ?_
      refine lv_isub hx hb qd_M_production_221 ?_
      exact W.iret (v := (vMP + 1) - 1) hx hb hr (fun t ht hW => ⟨⟨_, ((vMP + 1) - 1, u_131.2, vMP + 1, 0, upd vMh vMP.toNatClampNeg p0, upd (upd (upd vMi (3 * vMP).toNatClampNeg p1) ((3 * vMP) + 1).toNatClampNeg p2) ((3 * vMP) + 2).toNatClampNeg p3, upd vMc vMP.toNatClampNeg p4, vMs), rfl, ⟨hres.symm, rfl⟩, ⟨by rw [ht]; exact hP, va_K.moved hW.alike hK, x_N hN hW⟩, hD⟩, hS.F ht⟩) hS.2.2 qd_M_production_222
    have hres := hres.trans (if_neg c_134)
    have ho := (if_neg c_134).mp ho
    refine lv_iconst (v := 0) hx hb qd_M_production_137 (by decide) ?_
    exact W.iret (v := 0) hx hb hr (fun t ht hW => ⟨⟨_, (0, u_131.2, vMP, vMB, vMh, vMi, vMc, vMs), rfl, ⟨hres.symm, rfl⟩, ⟨by rw [ht]; exact hP, va_K.moved hW.alike hK, x_N hN hW⟩, hD⟩, hS.F ht⟩) hS.2.2 qd_M_production_138
  have hres := hres.trans (if_neg c_7)
  have ho := (if_neg c_7).mp ho
  refine lv_iload_n hx hb qd_M_production_10 rfl (lv_at hl 2 rfl) ?_
  obtain ⟨g_11, ho⟩ := ho
  refine xc_S (As := [.int p1]) (rest := []) ⟨hx, hb, hml, hown, hg⟩ (c_M_isItem l dC dI cA cZ p1 g_11) (va_cwS 1 hg (q_gS mw_636 mw_637 mw_8 mw_638) rfl rfl rfl qh_M_isItem.2 ⟨Nat.le_of_ble_eq_true rfl, Nat.le_of_ble_eq_true rfl⟩) hN hK hP [] rfl rfl hl.1 rfl (Nat.le_of_ble_eq_true rfl) qd_M_production_11 ⟨Nat.zero_le _, Nat.zero_le _⟩ ?_
  refine lv_topi (fun r_11 w_11 => ?_)
  have hres := hres.trans (bd_eq w_11)
  have ho := (bd_eq w_11).mp ho
  refine lv_if_eq (tgt := 64) hx hb qd_M_production_14 (by decide) (fun c_14 => ?_) (fun c_14 => ?_)
  · have hres := hres.trans (if_pos c_14)
    have ho := (if_pos c_14).mp ho
    refine lv_iconst (v := 0) hx hb qd_M_production_64 (by decide) ?_
    refine lv_istore (lv' := [(6, .int 0), (0, .ref aM), (1, .int p0), (2, .int p1), (3, .int p2), (4, .int p3), (5, .int p4)]) hx hb qd_M_production_65 hl (by decide) rfl (fun ls hl => ?_)
    refine lv_iload hx hb qd_M_production_67 (lv_at hl 0 rfl) ?_
    refine lv_if_eq (tgt := 96) hx hb qd_M_production_69 (by decide) (fun c_69 => ?_) (fun c_69 => ?_)
    rotate_left
    · exact absurd (by decide) c_69
    refine lv_iconst (v := 0) hx hb qd_M_production_96 (by decide) ?_
    refine lv_istore (lv' := [(7, .int 0), (6, .int 0), (0, .ref aM), (1, .int p0), (2, .int p1), (3, .int p2), (4, .int p3), (5, .int p4)]) hx hb qd_M_production_97 hl (by decide) rfl (fun ls hl => ?_)
    refine lv_aload_n hx hb qd_M_production_99 rfl (lv_at hl 2 rfl) ?_
    refine lv_iload hx hb qd_M_production_100 (lv_at hl 1 rfl) ?_
    refine lv_if_ne (tgt := 109) hx hb qd_M_production_102 (by decide) (fun c_102 => ?_) (fun c_102 => ?_)
    · exact absurd (by decide) c_102
    refine lv_iconst (v := 1) hx hb qd_M_production_105 (by decide) ?_
    refine lv_goto (tgt := 110) hx hb qd_M_production_106 (by decide) ?_
    refine lv_iload hx hb qd_M_production_110 (lv_at hl 1 rfl) ?_
    refine lv_if_eq (tgt := 128) hx hb qd_M_production_112 (by decide) (fun c_112 => ?_) (fun c_112 => ?_)
    rotate_left
    · exact absurd (by decide) c_112
    refine lv_iconst (v := 0) hx hb qd_M_production_128 (by decide) ?_
    refine lv_iload hx hb qd_M_production_129 (lv_at hl 0 rfl) ?_
    refine xm_Vi (As := [.int 1, .int 0, .int 0]) (rest := []) (w1 := fun (u_131 : Int32 × Int32) => [(aM, .inr (7, [.int u_131.2, .int vMP, .ref aMh, .ref aMi, .ref aMc, .int vMK, .ref aMt, .int vMB, .ref aMn, .ref aMl, .ref aMs, .int vMD, .ref aMd, .int vME, .ref aMe, .int vMO, .ref aMo, .int vMF, .int vMS, .ref aMw, .ref aMu, .int vMX, .int vMW]))]) (w2 := fun (u_131 : Int32 × Int32) => [(aM, .inr (7, [.int u_131.2, .int vMP, .ref aMh, .ref aMi, .ref aMc, .int vMK, .ref aMt, .int vMB, .ref aMn, .ref aMl, .ref aMs, .int vMD, .ref aMd, .int vME, .ref aMe, .int vMO, .ref aMo, .int vMF, .int vMS, .ref aMw, .ref aMu, .int vMX, .int vMW])), (aMh, .inl (cA, 24, .inl (vMh))), (aMi, .inl (cA, 72, .inl (vMi))), (aMc, .inl (cA, 24, .inl (vMc))), (aMs, .inl (cZ, 100, .inl (vMs)))]) ⟨hx, hb, hml, hown, hg⟩ (c_M_refuse l dC dI cA cZ aM aMh aMi aMc aMt aMn aMl aMs aMd aMe aMo aMw aMu _ vMT vMP vMK vMB vMD vME vMO vMF vMS vMX vMW 1 0 0) (cwV 3 hg (q_gV mw_642 mw_643 mw_771 mw_8 mw_644) rfl rfl rfl qh_M_refuse ⟨Nat.le_of_ble_eq_true rfl, Nat.le_of_ble_eq_true rfl⟩) hN hK hP hD hS hA [0] [1, 2, 3, 4] rfl rfl (by decide) (by decide) (by decide) [4, 0, 1, 2, 3] (fun _ => rfl) (by decide) 0 7 rfl rfl rfl hl.1 rfl (Nat.le_of_ble_eq_true rfl) qd_M_production_131 ⟨Nat.zero_le _, Nat.zero_le _⟩ (fun u_131 H locs w_131 hP hD hS => ?_)
    have hP : va_P (dC, dI) vwCl [(aM, .inr (7, [.int u_131.2, .int vMP, .ref aMh, .ref aMi, .ref aMc, .int vMK, .ref aMt, .int vMB, .ref aMn, .ref aMl, .ref aMs, .int vMD, .ref aMd, .int vME, .ref aMe, .int vMO, .ref aMo, .int vMF, .int vMS, .ref aMw, .ref aMu, .int vMX, .int vMW])), (aMh, .inl (cA, 24, .inl (vMh))), (aMi, .inl (cA, 72, .inl (vMi))), (aMc, .inl (cA, 24, .inl (vMc))), (aMs, .inl (cZ, 100, .inl (vMs)))] H := hP
    have hD : va_D A [(aM, .inr (7, [.int u_131.2, .int vMP, .ref aMh, .ref aMi, .ref aMc, .int vMK, .ref aMt, .int vMB, .ref aMn, .ref aMl, .ref aMs, .int vMD, .ref aMd, .int vME, .ref aMe, .int vMO, .ref aMo, .int vMF, .int vMS, .ref aMw, .ref aMu, .int vMX, .int vMW])), (aMh, .inl (cA, 24, .inl (vMh))), (aMi, .inl (cA, 72, .inl (vMi))), (aMc, .inl (cA, 24, .inl (vMc))), (aMs, .inl (cZ, 100, .inl (vMs)))] := hD
    have hres := hres.trans (bd_eq w_131)
    have ho := (bd_eq w_131).mp ho
    refine lv_if_eq (tgt := 139) hx hb qd_M_production_134 (by decide) (fun c_134 => ?_) (fun c_134 => ?_)
    · have hres := hres.trans (if_pos c_134)
      have ho := (if_pos c_134).mp ho
      refine lv_aload_n hx hb qd_M_production_139 rfl (lv_at hl 2 rfl) ?_
      refine va_get (D := (dC, dI)) (ci := 7) (v := .ref aMh) (C := qR_M) (T := qT_M) (N := 23) hx hb hg qi_M hown hK hP 0 rfl rfl 2 (by decide) (hg _ mw_576) (fun _ h9 => h9) rfl qd_M_production_140 ?_
      refine lv_aload_n hx hb qd_M_production_143 rfl (lv_at hl 2 rfl) ?_
      refine va_get (D := (dC, dI)) (ci := 7) (v := .int vMP) (C := qR_M) (T := qT_M) (N := 23) hx hb hg qi_M hown hK hP 0 rfl rfl 1 (by decide) (hg _ mw_575) (fun _ h9 => h9) rfl qd_M_production_144 ?_
      refine lv_iload_n hx hb qd_M_production_147 rfl (lv_at hl 3 rfl) ?_
      obtain ⟨g_148, ho⟩ := ho
      refine va_iast hx hb hK hP hD hS 1 0 rfl rfl g_148 qd_M_production_148 (fun H locs hP hD hS => ?_)
      have hP : va_P (dC, dI) vwCl [(aM, .inr (7, [.int u_131.2, .int vMP, .ref aMh, .ref aMi, .ref aMc, .int vMK, .ref aMt, .int vMB, .ref aMn, .ref aMl, .ref aMs, .int vMD, .ref aMd, .int vME, .ref aMe, .int vMO, .ref aMo, .int vMF, .int vMS, .ref aMw, .ref aMu, .int vMX, .int vMW])), (aMh, .inl (cA, 24, .inl (upd vMh vMP.toNatClampNeg p0))), (aMi, .inl (cA, 72, .inl (vMi))), (aMc, .inl (cA, 24, .inl (vMc))), (aMs, .inl (cZ, 100, .inl (vMs)))] H := hP
      have hD : va_D A [(aM, .inr (7, [.int u_131.2, .int vMP, .ref aMh, .ref aMi, .ref aMc, .int vMK, .ref aMt, .int vMB, .ref aMn, .ref aMl, .ref aMs, .int vMD, .ref aMd, .int vME, .ref aMe, .int vMO, .ref aMo, .int vMF, .int vMS, .ref aMw, .ref aMu, .int vMX, .int vMW])), (aMh, .inl (cA, 24, .inl (upd vMh vMP.toNatClampNeg p0))), (aMi, .inl (cA, 72, .inl (vMi))), (aMc, .inl (cA, 24, .inl (vMc))), (aMs, .inl (cZ, 100, .inl (vMs)))] := hD
      refine lv_aload_n hx hb qd_M_production_149 rfl (lv_at hl 2 rfl) ?_
      refine va_get (D := (dC, dI)) (ci := 7) (v := .ref aMi) (C := qR_M) (T := qT_M) (N := 23) hx hb hg qi_M hown hK hP 0 rfl rfl 3 (by decide) (hg _ mw_577) (fun _ h9 => h9) rfl qd_M_production_150 ?_
      refine lv_iconst (v := 3) hx hb qd_M_production_153 (by decide) ?_
      refine lv_aload_n hx hb qd_M_production_154 rfl (lv_at hl 2 rfl) ?_
      refine va_get (D := (dC, dI)) (ci := 7) (v := .int vMP) (C := qR_M) (T := qT_M) (N := 23) hx hb hg qi_M hown hK hP 0 rfl rfl 1 (by decide) (hg _ mw_575) (fun _ h9 => h9) rfl qd_M_production_155 ?_
      refine lv_imul hx hb qd_M_production_158 ?_
      refine lv_iload_n hx hb qd_M_production_159 rfl (lv_at hl 4 rfl) ?_
      obtain ⟨g_160, ho⟩ := ho
      refine va_iast hx hb hK hP hD hS 2 0 rfl rfl g_160 qd_M_production_160 (fun H locs hP hD hS => ?_)
      have hP : va_P (dC, dI) vwCl [(aM, .inr (7, [.int u_131.2, .int vMP, .ref aMh, .ref aMi, .ref aMc, .int vMK, .ref aMt, .int vMB, .ref aMn, .ref aMl, .ref aMs, .int vMD, .ref aMd, .int vME, .ref aMe, .int vMO, .ref aMo, .int vMF, .int vMS, .ref aMw, .ref aMu, .int vMX, .int vMW])), (aMh, .inl (cA, 24, .inl (upd vMh vMP.toNatClampNeg p0))), (aMi, .inl (cA, 72, .inl (upd vMi (3 * vMP).toNatClampNeg p1))), (aMc, .inl (cA, 24, .inl (vMc))), (aMs, .inl (cZ, 100, .inl (vMs)))] H := hP
      have hD : va_D A [(aM, .inr (7, [.int u_131.2, .int vMP, .ref aMh, .ref aMi, .ref aMc, .int vMK, .ref aMt, .int vMB, .ref aMn, .ref aMl, .ref aMs, .int vMD, .ref aMd, .int vME, .ref aMe, .int vMO, .ref aMo, .int vMF, .int vMS, .ref aMw, .ref aMu, .int vMX, .int vMW])), (aMh, .inl (cA, 24, .inl (upd vMh vMP.toNatClampNeg p0))), (aMi, .inl (cA, 72, .inl (upd vMi (3 * vMP).toNatClampNeg p1))), (aMc, .inl (cA, 24, .inl (vMc))), (aMs, .inl (cZ, 100, .inl (vMs)))] := hD
      refine lv_aload_n hx hb qd_M_production_161 rfl (lv_at hl 2 rfl) ?_
      refine va_get (D := (dC, dI)) (ci := 7) (v := .ref aMi) (C := qR_M) (T := qT_M) (N := 23) hx hb hg qi_M hown hK hP 0 rfl rfl 3 (by decide) (hg _ mw_577) (fun _ h9 => h9) rfl qd_M_production_162 ?_
      refine lv_iconst (v := 3) hx hb qd_M_production_165 (by decide) ?_
      refine lv_aload_n hx hb qd_M_production_166 rfl (lv_at hl 2 rfl) ?_
      refine va_get (D := (dC, dI)) (ci := 7) (v := .int vMP) (C := qR_M) (T := qT_M) (N := 23) hx hb hg qi_M hown hK hP 0 rfl rfl 1 (by decide) (hg _ mw_575) (fun _ h9 => h9) rfl qd_M_production_167 ?_
      refine lv_imul hx hb qd_M_production_170 ?_
      refine lv_iconst (v := 1) hx hb qd_M_production_171 (by decide) ?_
      refine lv_iadd hx hb qd_M_production_172 ?_
      refine lv_iload_n hx hb qd_M_production_173 rfl (lv_at hl 5 rfl) ?_
      obtain ⟨g_174, ho⟩ := ho
      refine va_iast hx hb hK hP hD hS 2 0 rfl rfl g_174 qd_M_production_174 (fun H locs hP hD hS => ?_)
      have hP : va_P (dC, dI) vwCl [(aM, .inr (7, [.int u_131.2, .int vMP, .ref aMh, .ref aMi, .ref aMc, .int vMK, .ref aMt, .int vMB, .ref aMn, .ref aMl, .ref aMs, .int vMD, .ref aMd, .int vME, .ref aMe, .int vMO, .ref aMo, .int vMF, .int vMS, .ref aMw, .ref aMu, .int vMX, .int vMW])), (aMh, .inl (cA, 24, .inl (upd vMh vMP.toNatClampNeg p0))), (aMi, .inl (cA, 72, .inl (upd (upd vMi (3 * vMP).toNatClampNeg p1) ((3 * vMP) + 1).toNatClampNeg p2))), (aMc, .inl (cA, 24, .inl (vMc))), (aMs, .inl (cZ, 100, .inl (vMs)))] H := hP
      have hD : va_D A [(aM, .inr (7, [.int u_131.2, .int vMP, .ref aMh, .ref aMi, .ref aMc, .int vMK, .ref aMt, .int vMB, .ref aMn, .ref aMl, .ref aMs, .int vMD, .ref aMd, .int vME, .ref aMe, .int vMO, .ref aMo, .int vMF, .int vMS, .ref aMw, .ref aMu, .int vMX, .int vMW])), (aMh, .inl (cA, 24, .inl (upd vMh vMP.toNatClampNeg p0))), (aMi, .inl (cA, 72, .inl (upd (upd vMi (3 * vMP).toNatClampNeg p1) ((3 * vMP) + 1).toNatClampNeg p2))), (aMc, .inl (cA, 24, .inl (vMc))), (aMs, .inl (cZ, 100, .inl (vMs)))] := hD
      refine lv_aload_n hx hb qd_M_production_175 rfl (lv_at hl 2 rfl) ?_
      refine va_get (D := (dC, dI)) (ci := 7) (v := .ref aMi) (C := qR_M) (T := qT_M) (N := 23) hx hb hg qi_M hown hK hP 0 rfl rfl 3 (by decide) (hg _ mw_577) (fun _ h9 => h9) rfl qd_M_production_176 ?_
      refine lv_iconst (v := 3) hx hb qd_M_production_179 (by decide) ?_
      refine lv_aload_n hx hb qd_M_production_180 rfl (lv_at hl 2 rfl) ?_
      refine va_get (D := (dC, dI)) (ci := 7) (v := .int vMP) (C := qR_M) (T := qT_M) (N := 23) hx hb hg qi_M hown hK hP 0 rfl rfl 1 (by decide) (hg _ mw_575) (fun _ h9 => h9) rfl qd_M_production_181 ?_
      refine lv_imul hx hb qd_M_production_184 ?_
      refine lv_iconst (v := 2) hx hb qd_M_production_185 (by decide) ?_
      refine lv_iadd hx hb qd_M_production_186 ?_
      refine lv_iload hx hb qd_M_production_187 (lv_at hl 6 rfl) ?_
      obtain ⟨g_189, ho⟩ := ho
      refine va_iast hx hb hK hP hD hS 2 0 rfl rfl g_189 qd_M_production_189 (fun H locs hP hD hS => ?_)
      have hP : va_P (dC, dI) vwCl [(aM, .inr (7, [.int u_131.2, .int vMP, .ref aMh, .ref aMi, .ref aMc, .int vMK, .ref aMt, .int vMB, .ref aMn, .ref aMl, .ref aMs, .int vMD, .ref aMd, .int vME, .ref aMe, .int vMO, .ref aMo, .int vMF, .int vMS, .ref aMw, .ref aMu, .int vMX, .int vMW])), (aMh, .inl (cA, 24, .inl (upd vMh vMP.toNatClampNeg p0))), (aMi, .inl (cA, 72, .inl (upd (upd (upd vMi (3 * vMP).toNatClampNeg p1) ((3 * vMP) + 1).toNatClampNeg p2) ((3 * vMP) + 2).toNatClampNeg p3))), (aMc, .inl (cA, 24, .inl (vMc))), (aMs, .inl (cZ, 100, .inl (vMs)))] H := hP
      have hD : va_D A [(aM, .inr (7, [.int u_131.2, .int vMP, .ref aMh, .ref aMi, .ref aMc, .int vMK, .ref aMt, .int vMB, .ref aMn, .ref aMl, .ref aMs, .int vMD, .ref aMd, .int vME, .ref aMe, .int vMO, .ref aMo, .int vMF, .int vMS, .ref aMw, .ref aMu, .int vMX, .int vMW])), (aMh, .inl (cA, 24, .inl (upd vMh vMP.toNatClampNeg p0))), (aMi, .inl (cA, 72, .inl (upd (upd (upd vMi (3 * vMP).toNatClampNeg p1) ((3 * vMP) + 1).toNatClampNeg p2) ((3 * vMP) + 2).toNatClampNeg p3))), (aMc, .inl (cA, 24, .inl (vMc))), (aMs, .inl (cZ, 100, .inl (vMs)))] := hD
      refine lv_aload_n hx hb qd_M_production_190 rfl (lv_at hl 2 rfl) ?_
      refine va_get (D := (dC, dI)) (ci := 7) (v := .ref aMc) (C := qR_M) (T := qT_M) (N := 23) hx hb hg qi_M hown hK hP 0 rfl rfl 4 (by decide) (hg _ mw_578) (fun _ h9 => h9) rfl qd_M_production_191 ?_
      refine lv_aload_n hx hb qd_M_production_194 rfl (lv_at hl 2 rfl) ?_
      refine va_get (D := (dC, dI)) (ci := 7) (v := .int vMP) (C := qR_M) (T := qT_M) (N := 23) hx hb hg qi_M hown hK hP 0 rfl rfl 1 (by decide) (hg _ mw_575) (fun _ h9 => h9) rfl qd_M_production_195 ?_
      refine lv_iload hx hb qd_M_production_198 (lv_at hl 7 rfl) ?_
      obtain ⟨g_200, ho⟩ := ho
      refine va_iast hx hb hK hP hD hS 3 0 rfl rfl g_200 qd_M_production_200 (fun H locs hP hD hS => ?_)
      have hP : va_P (dC, dI) vwCl [(aM, .inr (7, [.int u_131.2, .int vMP, .ref aMh, .ref aMi, .ref aMc, .int vMK, .ref aMt, .int vMB, .ref aMn, .ref aMl, .ref aMs, .int vMD, .ref aMd, .int vME, .ref aMe, .int vMO, .ref aMo, .int vMF, .int vMS, .ref aMw, .ref aMu, .int vMX, .int vMW])), (aMh, .inl (cA, 24, .inl (upd vMh vMP.toNatClampNeg p0))), (aMi, .inl (cA, 72, .inl (upd (upd (upd vMi (3 * vMP).toNatClampNeg p1) ((3 * vMP) + 1).toNatClampNeg p2) ((3 * vMP) + 2).toNatClampNeg p3))), (aMc, .inl (cA, 24, .inl (upd vMc vMP.toNatClampNeg p4))), (aMs, .inl (cZ, 100, .inl (vMs)))] H := hP
      have hD : va_D A [(aM, .inr (7, [.int u_131.2, .int vMP, .ref aMh, .ref aMi, .ref aMc, .int vMK, .ref aMt, .int vMB, .ref aMn, .ref aMl, .ref aMs, .int vMD, .ref aMd, .int vME, .ref aMe, .int vMO, .ref aMo, .int vMF, .int vMS, .ref aMw, .ref aMu, .int vMX, .int vMW])), (aMh, .inl (cA, 24, .inl (upd vMh vMP.toNatClampNeg p0))), (aMi, .inl (cA, 72, .inl (upd (upd (upd vMi (3 * vMP).toNatClampNeg p1) ((3 * vMP) + 1).toNatClampNeg p2) ((3 * vMP) + 2).toNatClampNeg p3))), (aMc, .inl (cA, 24, .inl (upd vMc vMP.toNatClampNeg p4))), (aMs, .inl (cZ, 100, .inl (vMs)))] := hD
      refine lv_aload_n hx hb qd_M_production_201 rfl (lv_at hl 2 rfl) ?_
      refine lv_dup hx hb qd_M_production_202 rfl ?_
      refine va_get (D := (dC, dI)) (ci := 7) (v := .int vMP) (C := qR_M) (T := qT_M) (N := 23) hx hb hg qi_M hown hK hP 0 rfl rfl 1 (by decide) (hg _ mw_575) (fun _ h9 => h9) rfl qd_M_production_203 ?_
      refine lv_iconst (v := 1) hx hb qd_M_production_206 (by decide) ?_
      refine lv_iadd hx hb qd_M_production_207 ?_
      refine va_put (D := (dC, dI)) (ci := 7) (v := .int (vMP + 1)) (ty := .int) (C := qR_M) (T := qT_M) (N := 23) hx hb hg qi_M qt_M qk_M qn_M hown hK hP hD hS 0 rfl rfl 1 (by decide) (hg _ mw_575) (fun _ h9 => h9) rfl (by decide +kernel) rfl rfl (Nat.le_of_ble_eq_true rfl) qd_M_production_208 (fun H locs hP hD hS => ?_)
      have hP : va_P (dC, dI) vwCl [(aM, .inr (7, [.int u_131.2, .int (vMP + 1), .ref aMh, .ref aMi, .ref aMc, .int vMK, .ref aMt, .int vMB, .ref aMn, .ref aMl, .ref aMs, .int vMD, .ref aMd, .int vME, .ref aMe, .int vMO, .ref aMo, .int vMF, .int vMS, .ref aMw, .ref aMu, .int vMX, .int vMW])), (aMh, .inl (cA, 24, .inl (upd vMh vMP.toNatClampNeg p0))), (aMi, .inl (cA, 72, .inl (upd (upd (upd vMi (3 * vMP).toNatClampNeg p1) ((3 * vMP) + 1).toNatClampNeg p2) ((3 * vMP) + 2).toNatClampNeg p3))), (aMc, .inl (cA, 24, .inl (upd vMc vMP.toNatClampNeg p4))), (aMs, .inl (cZ, 100, .inl (vMs)))] H := hP
      have hD : va_D A [(aM, .inr (7, [.int u_131.2, .int (vMP + 1), .ref aMh, .ref aMi, .ref aMc, .int vMK, .ref aMt, .int vMB, .ref aMn, .ref aMl, .ref aMs, .int vMD, .ref aMd, .int vME, .ref aMe, .int vMO, .ref aMo, .int vMF, .int vMS, .ref aMw, .ref aMu, .int vMX, .int vMW])), (aMh, .inl (cA, 24, .inl (upd vMh vMP.toNatClampNeg p0))), (aMi, .inl (cA, 72, .inl (upd (upd (upd vMi (3 * vMP).toNatClampNeg p1) ((3 * vMP) + 1).toNatClampNeg p2) ((3 * vMP) + 2).toNatClampNeg p3))), (aMc, .inl (cA, 24, .inl (upd vMc vMP.toNatClampNeg p4))), (aMs, .inl (cZ, 100, .inl (vMs)))] := hD
      refine lv_aload_n hx hb qd_M_production_211 rfl (lv_at hl 2 rfl) ?_
      refine lv_iconst (v := 0) hx hb qd_M_production_212 (by decide) ?_
      refine va_put (D := (dC, dI)) (ci := 7) (v := .int 0) (ty := .boolean) (C := qR_M) (T := qT_M) (N := 23) hx hb hg qi_M qt_M qk_M qn_M hown hK hP hD hS 0 rfl rfl 7 (by decide) (hg _ mw_581) (fun _ h9 => h9) rfl (by decide +kernel) rfl rfl (Nat.le_of_ble_eq_true rfl) qd_M_production_213 (fun H locs hP hD hS => ?_)
      have hP : va_P (dC, dI) vwCl [(aM, .inr (7, [.int u_131.2, .int (vMP + 1), .ref aMh, .ref aMi, .ref aMc, .int vMK, .ref aMt, .int 0, .ref aMn, .ref aMl, .ref aMs, .int vMD, .ref aMd, .int vME, .ref aMe, .int vMO, .ref aMo, .int vMF, .int vMS, .ref aMw, .ref aMu, .int vMX, .int vMW])), (aMh, .inl (cA, 24, .inl (upd vMh vMP.toNatClampNeg p0))), (aMi, .inl (cA, 72, .inl (upd (upd (upd vMi (3 * vMP).toNatClampNeg p1) ((3 * vMP) + 1).toNatClampNeg p2) ((3 * vMP) + 2).toNatClampNeg p3))), (aMc, .inl (cA, 24, .inl (upd vMc vMP.toNatClampNeg p4))), (aMs, .inl (cZ, 100, .inl (vMs)))] H := hP
      have hD : va_D A [(aM, .inr (7, [.int u_131.2, .int (vMP + 1), .ref aMh, .ref aMi, .ref aMc, .int vMK, .ref aMt, .int 0, .ref aMn, .ref aMl, .ref aMs, .int vMD, .ref aMd, .int vME, .ref aMe, .int vMO, .ref aMo, .int vMF, .int vMS, .ref aMw, .ref aMu, .int vMX, .int vMW])), (aMh, .inl (cA, 24, .inl (upd vMh vMP.toNatClampNeg p0))), (aMi, .inl (cA, 72, .inl (upd (upd (upd vMi (3 * vMP).toNatClampNeg p1) ((3 * vMP) + 1).toNatClampNeg p2) ((3 * vMP) + 2).toNatClampNeg p3))), (aMc, .inl (cA, 24, .inl (upd vMc vMP.toNatClampNeg p4))), (aMs, .inl (cZ, 100, .inl (vMs)))] := hD
      refine lv_aload_n hx hb qd_M_production_216 rfl (lv_at hl 2 rfl) ?_
      refine va_get (D := (dC, dI)) (ci := 7) (v := .int (vMP + 1)) (C := qR_M) (T := qT_M) (N := 23) hx hb hg qi_M hown hK hP 0 rfl rfl 1 (by decide) (hg _ mw_575) (fun _ h9 => h9) rfl qd_M_production_217 ?_
      refine lv_iconst (v := 1) hx hb qd_M_production_220 (by decide) ?_
      refine lv_isub hx hb qd_M_production_221 ?_
      exact W.iret (v := (vMP + 1) - 1) hx hb hr (fun t ht hW => ⟨⟨_, ((vMP + 1) - 1, u_131.2, vMP + 1, 0, upd vMh vMP.toNatClampNeg p0, upd (upd (upd vMi (3 * vMP).toNatClampNeg p1) ((3 * vMP) + 1).toNatClampNeg p2) ((3 * vMP) + 2).toNatClampNeg p3, upd vMc vMP.toNatClampNeg p4, vMs), rfl, ⟨hres.symm, rfl⟩, ⟨by rw [ht]; exact hP, va_K.moved hW.alike hK, x_N hN hW⟩, hD⟩, hS.F ht⟩) hS.2.2 qd_M_production_222
    have hres := hres.trans (if_neg c_134)
    have ho := (if_neg c_134).mp ho
    refine lv_iconst (v := 0) hx hb qd_M_production_137 (by decide) ?_
    exact W.iret (v := 0) hx hb hr (fun t ht hW => ⟨⟨_, (0, u_131.2, vMP, vMB, vMh, vMi, vMc, vMs), rfl, ⟨hres.symm, rfl⟩, ⟨by rw [ht]; exact hP, va_K.moved hW.alike hK, x_N hN hW⟩, hD⟩, hS.F ht⟩) hS.2.2 qd_M_production_138
  have hres := hres.trans (if_neg c_14)
  have ho := (if_neg c_14).mp ho
  refine lv_iload_n hx hb qd_M_production_17 rfl (lv_at hl 3 rfl) ?_
  refine lv_iconst (v := (-1)) hx hb qd_M_production_18 (by decide) ?_
  refine lv_icmp_eq (tgt := 29) hx hb qd_M_production_19 (by decide) (fun c_19 => ?_) (fun c_19 => ?_)
  · have hres := hres.trans (if_pos c_19)
    have ho := (if_pos c_19).mp ho
    refine lv_iload hx hb qd_M_production_29 (lv_at hl 4 rfl) ?_
    refine lv_iconst (v := (-1)) hx hb qd_M_production_31 (by decide) ?_
    refine lv_icmp_eq (tgt := 48) hx hb qd_M_production_32 (by decide) (fun c_32 => ?_) (fun c_32 => ?_)
    · have hres := hres.trans (if_pos c_32)
      have ho := (if_pos c_32).mp ho
      refine lv_iload hx hb qd_M_production_48 (lv_at hl 5 rfl) ?_
      refine lv_iconst (v := 0) hx hb qd_M_production_50 (by decide) ?_
      refine lv_sipush (v := 1000) hx hb qd_M_production_51 (by decide) ?_
      refine xc_S (As := [.int p4, .int 0, .int 1000]) (rest := []) ⟨hx, hb, hml, hown, hg⟩ (c_M_in l dC dI cA cZ p4 0 1000) (va_cwS 3 hg (q_gS mw_633 mw_634 mw_8 mw_635) rfl rfl rfl qh_M_in.2 ⟨Nat.le_of_ble_eq_true rfl, Nat.le_of_ble_eq_true rfl⟩) hN hK hP [] rfl rfl hl.1 rfl (Nat.le_of_ble_eq_true rfl) qd_M_production_54 ⟨Nat.zero_le _, Nat.zero_le _⟩ ?_
      refine lv_topi (fun r_54 w_54 => ?_)
      have hres := hres.trans (bd_eq w_54)
      have ho := (bd_eq w_54).mp ho
      refine lv_if_eq (tgt := 64) hx hb qd_M_production_57 (by decide) (fun c_57 => ?_) (fun c_57 => ?_)
      · have hres := hres.trans (if_pos c_57)
        have ho := (if_pos c_57).mp ho
        refine lv_iconst (v := 0) hx hb qd_M_production_64 (by decide) ?_
        refine lv_istore (lv' := [(6, .int 0), (0, .ref aM), (1, .int p0), (2, .int p1), (3, .int p2), (4, .int p3), (5, .int p4)]) hx hb qd_M_production_65 hl (by decide) rfl (fun ls hl => ?_)
        refine lv_iload hx hb qd_M_production_67 (lv_at hl 0 rfl) ?_
        refine lv_if_eq (tgt := 96) hx hb qd_M_production_69 (by decide) (fun c_69 => ?_) (fun c_69 => ?_)
        rotate_left
        · exact absurd (by decide) c_69
        refine lv_iconst (v := 0) hx hb qd_M_production_96 (by decide) ?_
        refine lv_istore (lv' := [(7, .int 0), (6, .int 0), (0, .ref aM), (1, .int p0), (2, .int p1), (3, .int p2), (4, .int p3), (5, .int p4)]) hx hb qd_M_production_97 hl (by decide) rfl (fun ls hl => ?_)
        refine lv_aload_n hx hb qd_M_production_99 rfl (lv_at hl 2 rfl) ?_
        refine lv_iload hx hb qd_M_production_100 (lv_at hl 1 rfl) ?_
        refine lv_if_ne (tgt := 109) hx hb qd_M_production_102 (by decide) (fun c_102 => ?_) (fun c_102 => ?_)
        · exact absurd (by decide) c_102
        refine lv_iconst (v := 1) hx hb qd_M_production_105 (by decide) ?_
        refine lv_goto (tgt := 110) hx hb qd_M_production_106 (by decide) ?_
        refine lv_iload hx hb qd_M_production_110 (lv_at hl 1 rfl) ?_
        refine lv_if_eq (tgt := 128) hx hb qd_M_production_112 (by decide) (fun c_112 => ?_) (fun c_112 => ?_)
        rotate_left
        · exact absurd (by decide) c_112
        refine lv_iconst (v := 0) hx hb qd_M_production_128 (by decide) ?_
        refine lv_iload hx hb qd_M_production_129 (lv_at hl 0 rfl) ?_
        refine xm_Vi (As := [.int 1, .int 0, .int 0]) (rest := []) (w1 := fun (u_131 : Int32 × Int32) => [(aM, .inr (7, [.int u_131.2, .int vMP, .ref aMh, .ref aMi, .ref aMc, .int vMK, .ref aMt, .int vMB, .ref aMn, .ref aMl, .ref aMs, .int vMD, .ref aMd, .int vME, .ref aMe, .int vMO, .ref aMo, .int vMF, .int vMS, .ref aMw, .ref aMu, .int vMX, .int vMW]))]) (w2 := fun (u_131 : Int32 × Int32) => [(aM, .inr (7, [.int u_131.2, .int vMP, .ref aMh, .ref aMi, .ref aMc, .int vMK, .ref aMt, .int vMB, .ref aMn, .ref aMl, .ref aMs, .int vMD, .ref aMd, .int vME, .ref aMe, .int vMO, .ref aMo, .int vMF, .int vMS, .ref aMw, .ref aMu, .int vMX, .int vMW])), (aMh, .inl (cA, 24, .inl (vMh))), (aMi, .inl (cA, 72, .inl (vMi))), (aMc, .inl (cA, 24, .inl (vMc))), (aMs, .inl (cZ, 100, .inl (vMs)))]) ⟨hx, hb, hml, hown, hg⟩ (c_M_refuse l dC dI cA cZ aM aMh aMi aMc aMt aMn aMl aMs aMd aMe aMo aMw aMu _ vMT vMP vMK vMB vMD vME vMO vMF vMS vMX vMW 1 0 0) (cwV 3 hg (q_gV mw_642 mw_643 mw_771 mw_8 mw_644) rfl rfl rfl qh_M_refuse ⟨Nat.le_of_ble_eq_true rfl, Nat.le_of_ble_eq_true rfl⟩) hN hK hP hD hS hA [0] [1, 2, 3, 4] rfl rfl (by decide) (by decide) (by decide) [4, 0, 1, 2, 3] (fun _ => rfl) (by decide) 0 7 rfl rfl rfl hl.1 rfl (Nat.le_of_ble_eq_true rfl) qd_M_production_131 ⟨Nat.zero_le _, Nat.zero_le _⟩ (fun u_131 H locs w_131 hP hD hS => ?_)
        have hP : va_P (dC, dI) vwCl [(aM, .inr (7, [.int u_131.2, .int vMP, .ref aMh, .ref aMi, .ref aMc, .int vMK, .ref aMt, .int vMB, .ref aMn, .ref aMl, .ref aMs, .int vMD, .ref aMd, .int vME, .ref aMe, .int vMO, .ref aMo, .int vMF, .int vMS, .ref aMw, .ref aMu, .int vMX, .int vMW])), (aMh, .inl (cA, 24, .inl (vMh))), (aMi, .inl (cA, 72, .inl (vMi))), (aMc, .inl (cA, 24, .inl (vMc))), (aMs, .inl (cZ, 100, .inl (vMs)))] H := hP
        have hD : va_D A [(aM, .inr (7, [.int u_131.2, .int vMP, .ref aMh, .ref aMi, .ref aMc, .int vMK, .ref aMt, .int vMB, .ref aMn, .ref aMl, .ref aMs, .int vMD, .ref aMd, .int vME, .ref aMe, .int vMO, .ref aMo, .int vMF, .int vMS, .ref aMw, .ref aMu, .int vMX, .int vMW])), (aMh, .inl (cA, 24, .inl (vMh))), (aMi, .inl (cA, 72, .inl (vMi))), (aMc, .inl (cA, 24, .inl (vMc))), (aMs, .inl (cZ, 100, .inl (vMs)))] := hD
        have hres := hres.trans (bd_eq w_131)
        have ho := (bd_eq w_131).mp ho
        refine lv_if_eq (tgt := 139) hx hb qd_M_production_134 (by decide) (fun c_134 => ?_) (fun c_134 => ?_)
        · have hres := hres.trans (if_pos c_134)
          have ho := (if_pos c_134).mp ho
          refine lv_aload_n hx hb qd_M_production_139 rfl (lv_at hl 2 rfl) ?_
          refine va_get (D := (dC, dI)) (ci := 7) (v := .ref aMh) (C := qR_M) (T := qT_M) (N := 23) hx hb hg qi_M hown hK hP 0 rfl rfl 2 (by decide) (hg _ mw_576) (fun _ h9 => h9) rfl qd_M_production_140 ?_
          refine lv_aload_n hx hb qd_M_production_143 rfl (lv_at hl 2 rfl) ?_
          refine va_get (D := (dC, dI)) (ci := 7) (v := .int vMP) (C := qR_M) (T := qT_M) (N := 23) hx hb hg qi_M hown hK hP 0 rfl rfl 1 (by decide) (hg _ mw_575) (fun _ h9 => h9) rfl qd_M_production_144 ?_
          refine lv_iload_n hx hb qd_M_production_147 rfl (lv_at hl 3 rfl) ?_
          obtain ⟨g_148, ho⟩ := ho
          refine va_iast hx hb hK hP hD hS 1 0 rfl rfl g_148 qd_M_production_148 (fun H locs hP hD hS => ?_)
          have hP : va_P (dC, dI) vwCl [(aM, .inr (7, [.int u_131.2, .int vMP, .ref aMh, .ref aMi, .ref aMc, .int vMK, .ref aMt, .int vMB, .ref aMn, .ref aMl, .ref aMs, .int vMD, .ref aMd, .int vME, .ref aMe, .int vMO, .ref aMo, .int vMF, .int vMS, .ref aMw, .ref aMu, .int vMX, .int vMW])), (aMh, .inl (cA, 24, .inl (upd vMh vMP.toNatClampNeg p0))), (aMi, .inl (cA, 72, .inl (vMi))), (aMc, .inl (cA, 24, .inl (vMc))), (aMs, .inl (cZ, 100, .inl (vMs)))] H := hP
          have hD : va_D A [(aM, .inr (7, [.int u_131.2, .int vMP, .ref aMh, .ref aMi, .ref aMc, .int vMK, .ref aMt, .int vMB, .ref aMn, .ref aMl, .ref aMs, .int vMD, .ref aMd, .int vME, .ref aMe, .int vMO, .ref aMo, .int vMF, .int vMS, .ref aMw, .ref aMu, .int vMX, .int vMW])), (aMh, .inl (cA, 24, .inl (upd vMh vMP.toNatClampNeg p0))), (aMi, .inl (cA, 72, .inl (vMi))), (aMc, .inl (cA, 24, .inl (vMc))), (aMs, .inl (cZ, 100, .inl (vMs)))] := hD
          refine lv_aload_n hx hb qd_M_production_149 rfl (lv_at hl 2 rfl) ?_
          refine va_get (D := (dC, dI)) (ci := 7) (v := .ref aMi) (C := qR_M) (T := qT_M) (N := 23) hx hb hg qi_M hown hK hP 0 rfl rfl 3 (by decide) (hg _ mw_577) (fun _ h9 => h9) rfl qd_M_production_150 ?_
          refine lv_iconst (v := 3) hx hb qd_M_production_153 (by decide) ?_
          refine lv_aload_n hx hb qd_M_production_154 rfl (lv_at hl 2 rfl) ?_
          refine va_get (D := (dC, dI)) (ci := 7) (v := .int vMP) (C := qR_M) (T := qT_M) (N := 23) hx hb hg qi_M hown hK hP 0 rfl rfl 1 (by decide) (hg _ mw_575) (fun _ h9 => h9) rfl qd_M_production_155 ?_
          refine lv_imul hx hb qd_M_production_158 ?_
          refine lv_iload_n hx hb qd_M_production_159 rfl (lv_at hl 4 rfl) ?_
          obtain ⟨g_160, ho⟩ := ho
          refine va_iast hx hb hK hP hD hS 2 0 rfl rfl g_160 qd_M_production_160 (fun H locs hP hD hS => ?_)
          have hP : va_P (dC, dI) vwCl [(aM, .inr (7, [.int u_131.2, .int vMP, .ref aMh, .ref aMi, .ref aMc, .int vMK, .ref aMt, .int vMB, .ref aMn, .ref aMl, .ref aMs, .int vMD, .ref aMd, .int vME, .ref aMe, .int vMO, .ref aMo, .int vMF, .int vMS, .ref aMw, .ref aMu, .int vMX, .int vMW])), (aMh, .inl (cA, 24, .inl (upd vMh vMP.toNatClampNeg p0))), (aMi, .inl (cA, 72, .inl (upd vMi (3 * vMP).toNatClampNeg p1))), (aMc, .inl (cA, 24, .inl (vMc))), (aMs, .inl (cZ, 100, .inl (vMs)))] H := hP
          have hD : va_D A [(aM, .inr (7, [.int u_131.2, .int vMP, .ref aMh, .ref aMi, .ref aMc, .int vMK, .ref aMt, .int vMB, .ref aMn, .ref aMl, .ref aMs, .int vMD, .ref aMd, .int vME, .ref aMe, .int vMO, .ref aMo, .int vMF, .int vMS, .ref aMw, .ref aMu, .int vMX, .int vMW])), (aMh, .inl (cA, 24, .inl (upd vMh vMP.toNatClampNeg p0))), (aMi, .inl (cA, 72, .inl (upd vMi (3 * vMP).toNatClampNeg p1))), (aMc, .inl (cA, 24, .inl (vMc))), (aMs, .inl (cZ, 100, .inl (vMs)))] := hD
          refine lv_aload_n hx hb qd_M_production_161 rfl (lv_at hl 2 rfl) ?_
          refine va_get (D := (dC, dI)) (ci := 7) (v := .ref aMi) (C := qR_M) (T := qT_M) (N := 23) hx hb hg qi_M hown hK hP 0 rfl rfl 3 (by decide) (hg _ mw_577) (fun _ h9 => h9) rfl qd_M_production_162 ?_
          refine lv_iconst (v := 3) hx hb qd_M_production_165 (by decide) ?_
          refine lv_aload_n hx hb qd_M_production_166 rfl (lv_at hl 2 rfl) ?_
          refine va_get (D := (dC, dI)) (ci := 7) (v := .int vMP) (C := qR_M) (T := qT_M) (N := 23) hx hb hg qi_M hown hK hP 0 rfl rfl 1 (by decide) (hg _ mw_575) (fun _ h9 => h9) rfl qd_M_production_167 ?_
          refine lv_imul hx hb qd_M_production_170 ?_
          refine lv_iconst (v := 1) hx hb qd_M_production_171 (by decide) ?_
          refine lv_iadd hx hb qd_M_production_172 ?_
          refine lv_iload_n hx hb qd_M_production_173 rfl (lv_at hl 5 rfl) ?_
          obtain ⟨g_174, ho⟩ := ho
          refine va_iast hx hb hK hP hD hS 2 0 rfl rfl g_174 qd_M_production_174 (fun H locs hP hD hS => ?_)
          have hP : va_P (dC, dI) vwCl [(aM, .inr (7, [.int u_131.2, .int vMP, .ref aMh, .ref aMi, .ref aMc, .int vMK, .ref aMt, .int vMB, .ref aMn, .ref aMl, .ref aMs, .int vMD, .ref aMd, .int vME, .ref aMe, .int vMO, .ref aMo, .int vMF, .int vMS, .ref aMw, .ref aMu, .int vMX, .int vMW])), (aMh, .inl (cA, 24, .inl (upd vMh vMP.toNatClampNeg p0))), (aMi, .inl (cA, 72, .inl (upd (upd vMi (3 * vMP).toNatClampNeg p1) ((3 * vMP) + 1).toNatClampNeg p2))), (aMc, .inl (cA, 24, .inl (vMc))), (aMs, .inl (cZ, 100, .inl (vMs)))] H := hP
          have hD : va_D A [(aM, .inr (7, [.int u_131.2, .int vMP, .ref aMh, .ref aMi, .ref aMc, .int vMK, .ref aMt, .int vMB, .ref aMn, .ref aMl, .ref aMs, .int vMD, .ref aMd, .int vME, .ref aMe, .int vMO, .ref aMo, .int vMF, .int vMS, .ref aMw, .ref aMu, .int vMX, .int vMW])), (aMh, .inl (cA, 24, .inl (upd vMh vMP.toNatClampNeg p0))), (aMi, .inl (cA, 72, .inl (upd (upd vMi (3 * vMP).toNatClampNeg p1) ((3 * vMP) + 1).toNatClampNeg p2))), (aMc, .inl (cA, 24, .inl (vMc))), (aMs, .inl (cZ, 100, .inl (vMs)))] := hD
          refine lv_aload_n hx hb qd_M_production_175 rfl (lv_at hl 2 rfl) ?_
          refine va_get (D := (dC, dI)) (ci := 7) (v := .ref aMi) (C := qR_M) (T := qT_M) (N := 23) hx hb hg qi_M hown hK hP 0 rfl rfl 3 (by decide) (hg _ mw_577) (fun _ h9 => h9) rfl qd_M_production_176 ?_
          refine lv_iconst (v := 3) hx hb qd_M_production_179 (by decide) ?_
          refine lv_aload_n hx hb qd_M_production_180 rfl (lv_at hl 2 rfl) ?_
          refine va_get (D := (dC, dI)) (ci := 7) (v := .int vMP) (C := qR_M) (T := qT_M) (N := 23) hx hb hg qi_M hown hK hP 0 rfl rfl 1 (by decide) (hg _ mw_575) (fun _ h9 => h9) rfl qd_M_production_181 ?_
          refine lv_imul hx hb qd_M_production_184 ?_
          refine lv_iconst (v := 2) hx hb qd_M_production_185 (by decide) ?_
          refine lv_iadd hx hb qd_M_production_186 ?_
          refine lv_iload hx hb qd_M_production_187 (lv_at hl 6 rfl) ?_
          obtain ⟨g_189, ho⟩ := ho
          refine va_iast hx hb hK hP hD hS 2 0 rfl rfl g_189 qd_M_production_189 (fun H locs hP hD hS => ?_)
          have hP : va_P (dC, dI) vwCl [(aM, .inr (7, [.int u_131.2, .int vMP, .ref aMh, .ref aMi, .ref aMc, .int vMK, .ref aMt, .int vMB, .ref aMn, .ref aMl, .ref aMs, .int vMD, .ref aMd, .int vME, .ref aMe, .int vMO, .ref aMo, .int vMF, .int vMS, .ref aMw, .ref aMu, .int vMX, .int vMW])), (aMh, .inl (cA, 24, .inl (upd vMh vMP.toNatClampNeg p0))), (aMi, .inl (cA, 72, .inl (upd (upd (upd vMi (3 * vMP).toNatClampNeg p1) ((3 * vMP) + 1).toNatClampNeg p2) ((3 * vMP) + 2).toNatClampNeg p3))), (aMc, .inl (cA, 24, .inl (vMc))), (aMs, .inl (cZ, 100, .inl (vMs)))] H := hP
          have hD : va_D A [(aM, .inr (7, [.int u_131.2, .int vMP, .ref aMh, .ref aMi, .ref aMc, .int vMK, .ref aMt, .int vMB, .ref aMn, .ref aMl, .ref aMs, .int vMD, .ref aMd, .int vME, .ref aMe, .int vMO, .ref aMo, .int vMF, .int vMS, .ref aMw, .ref aMu, .int vMX, .int vMW])), (aMh, .inl (cA, 24, .inl (upd vMh vMP.toNatClampNeg p0))), (aMi, .inl (cA, 72, .inl (upd (upd (upd vMi (3 * vMP).toNatClampNeg p1) ((3 * vMP) + 1).toNatClampNeg p2) ((3 * vMP) + 2).toNatClampNeg p3))), (aMc, .inl (cA, 24, .inl (vMc))), (aMs, .inl (cZ, 100, .inl (vMs)))] := hD
          refine lv_aload_n hx hb qd_M_production_190 rfl (lv_at hl 2 rfl) ?_
          refine va_get (D := (dC, dI)) (ci := 7) (v := .ref aMc) (C := qR_M) (T := qT_M) (N := 23) hx hb hg qi_M hown hK hP 0 rfl rfl 4 (by decide) (hg _ mw_578) (fun _ h9 => h9) rfl qd_M_production_191 ?_
          refine lv_aload_n hx hb qd_M_production_194 rfl (lv_at hl 2 rfl) ?_
          refine va_get (D := (dC, dI)) (ci := 7) (v := .int vMP) (C := qR_M) (T := qT_M) (N := 23) hx hb hg qi_M hown hK hP 0 rfl rfl 1 (by decide) (hg _ mw_575) (fun _ h9 => h9) rfl qd_M_production_195 ?_
          refine lv_iload hx hb qd_M_production_198 (lv_at hl 7 rfl) ?_
          obtain ⟨g_200, ho⟩ := ho
          refine va_iast hx hb hK hP hD hS 3 0 rfl rfl g_200 qd_M_production_200 (fun H locs hP hD hS => ?_)
          have hP : va_P (dC, dI) vwCl [(aM, .inr (7, [.int u_131.2, .int vMP, .ref aMh, .ref aMi, .ref aMc, .int vMK, .ref aMt, .int vMB, .ref aMn, .ref aMl, .ref aMs, .int vMD, .ref aMd, .int vME, .ref aMe, .int vMO, .ref aMo, .int vMF, .int vMS, .ref aMw, .ref aMu, .int vMX, .int vMW])), (aMh, .inl (cA, 24, .inl (upd vMh vMP.toNatClampNeg p0))), (aMi, .inl (cA, 72, .inl (upd (upd (upd vMi (3 * vMP).toNatClampNeg p1) ((3 * vMP) + 1).toNatClampNeg p2) ((3 * vMP) + 2).toNatClampNeg p3))), (aMc, .inl (cA, 24, .inl (upd vMc vMP.toNatClampNeg p4))), (aMs, .inl (cZ, 100, .inl (vMs)))] H := hP
          have hD : va_D A [(aM, .inr (7, [.int u_131.2, .int vMP, .ref aMh, .ref aMi, .ref aMc, .int vMK, .ref aMt, .int vMB, .ref aMn, .ref aMl, .ref aMs, .int vMD, .ref aMd, .int vME, .ref aMe, .int vMO, .ref aMo, .int vMF, .int vMS, .ref aMw, .ref aMu, .int vMX, .int vMW])), (aMh, .inl (cA, 24, .inl (upd vMh vMP.toNatClampNeg p0))), (aMi, .inl (cA, 72, .inl (upd (upd (upd vMi (3 * vMP).toNatClampNeg p1) ((3 * vMP) + 1).toNatClampNeg p2) ((3 * vMP) + 2).toNatClampNeg p3))), (aMc, .inl (cA, 24, .inl (upd vMc vMP.toNatClampNeg p4))), (aMs, .inl (cZ, 100, .inl (vMs)))] := hD
          refine lv_aload_n hx hb qd_M_production_201 rfl (lv_at hl 2 rfl) ?_
          refine lv_dup hx hb qd_M_production_202 rfl ?_
          refine va_get (D := (dC, dI)) (ci := 7) (v := .int vMP) (C := qR_M) (T := qT_M) (N := 23) hx hb hg qi_M hown hK hP 0 rfl rfl 1 (by decide) (hg _ mw_575) (fun _ h9 => h9) rfl qd_M_production_203 ?_
          refine lv_iconst (v := 1) hx hb qd_M_production_206 (by decide) ?_
          refine lv_iadd hx hb qd_M_production_207 ?_
          refine va_put (D := (dC, dI)) (ci := 7) (v := .int (vMP + 1)) (ty := .int) (C := qR_M) (T := qT_M) (N := 23) hx hb hg qi_M qt_M qk_M qn_M hown hK hP hD hS 0 rfl rfl 1 (by decide) (hg _ mw_575) (fun _ h9 => h9) rfl (by decide +kernel) rfl rfl (Nat.le_of_ble_eq_true rfl) qd_M_production_208 (fun H locs hP hD hS => ?_)
          have hP : va_P (dC, dI) vwCl [(aM, .inr (7, [.int u_131.2, .int (vMP + 1), .ref aMh, .ref aMi, .ref aMc, .int vMK, .ref aMt, .int vMB, .ref aMn, .ref aMl, .ref aMs, .int vMD, .ref aMd, .int vME, .ref aMe, .int vMO, .ref aMo, .int vMF, .int vMS, .ref aMw, .ref aMu, .int vMX, .int vMW])), (aMh, .inl (cA, 24, .inl (upd vMh vMP.toNatClampNeg p0))), (aMi, .inl (cA, 72, .inl (upd (upd (upd vMi (3 * vMP).toNatClampNeg p1) ((3 * vMP) + 1).toNatClampNeg p2) ((3 * vMP) + 2).toNatClampNeg p3))), (aMc, .inl (cA, 24, .inl (upd vMc vMP.toNatClampNeg p4))), (aMs, .inl (cZ, 100, .inl (vMs)))] H := hP
          have hD : va_D A [(aM, .inr (7, [.int u_131.2, .int (vMP + 1), .ref aMh, .ref aMi, .ref aMc, .int vMK, .ref aMt, .int vMB, .ref aMn, .ref aMl, .ref aMs, .int vMD, .ref aMd, .int vME, .ref aMe, .int vMO, .ref aMo, .int vMF, .int vMS, .ref aMw, .ref aMu, .int vMX, .int vMW])), (aMh, .inl (cA, 24, .inl (upd vMh vMP.toNatClampNeg p0))), (aMi, .inl (cA, 72, .inl (upd (upd (upd vMi (3 * vMP).toNatClampNeg p1) ((3 * vMP) + 1).toNatClampNeg p2) ((3 * vMP) + 2).toNatClampNeg p3))), (aMc, .inl (cA, 24, .inl (upd vMc vMP.toNatClampNeg p4))), (aMs, .inl (cZ, 100, .inl (vMs)))] := hD
          refine lv_aload_n hx hb qd_M_production_211 rfl (lv_at hl 2 rfl) ?_
          refine lv_iconst (v := 0) hx hb qd_M_production_212 (by decide) ?_
          refine va_put (D := (dC, dI)) (ci := 7) (v := .int 0) (ty := .boolean) (C := qR_M) (T := qT_M) (N := 23) hx hb hg qi_M qt_M qk_M qn_M hown hK hP hD hS 0 rfl rfl 7 (by decide) (hg _ mw_581) (fun _ h9 => h9) rfl (by decide +kernel) rfl rfl (Nat.le_of_ble_eq_true rfl) qd_M_production_213 (fun H locs hP hD hS => ?_)
          have hP : va_P (dC, dI) vwCl [(aM, .inr (7, [.int u_131.2, .int (vMP + 1), .ref aMh, .ref aMi, .ref aMc, .int vMK, .ref aMt, .int 0, .ref aMn, .ref aMl, .ref aMs, .int vMD, .ref aMd, .int vME, .ref aMe, .int vMO, .ref aMo, .int vMF, .int vMS, .ref aMw, .ref aMu, .int vMX, .int vMW])), (aMh, .inl (cA, 24, .inl (upd vMh vMP.toNatClampNeg p0))), (aMi, .inl (cA, 72, .inl (upd (upd (upd vMi (3 * vMP).toNatClampNeg p1) ((3 * vMP) + 1).toNatClampNeg p2) ((3 * vMP) + 2).toNatClampNeg p3))), (aMc, .inl (cA, 24, .inl (upd vMc vMP.toNatClampNeg p4))), (aMs, .inl (cZ, 100, .inl (vMs)))] H := hP
          have hD : va_D A [(aM, .inr (7, [.int u_131.2, .int (vMP + 1), .ref aMh, .ref aMi, .ref aMc, .int vMK, .ref aMt, .int 0, .ref aMn, .ref aMl, .ref aMs, .int vMD, .ref aMd, .int vME, .ref aMe, .int vMO, .ref aMo, .int vMF, .int vMS, .ref aMw, .ref aMu, .int vMX, .int vMW])), (aMh, .inl (cA, 24, .inl (upd vMh vMP.toNatClampNeg p0))), (aMi, .inl (cA, 72, .inl (upd (upd (upd vMi (3 * vMP).toNatClampNeg p1) ((3 * vMP) + 1).toNatClampNeg p2) ((3 * vMP) + 2).toNatClampNeg p3))), (aMc, .inl (cA, 24, .inl (upd vMc vMP.toNatClampNeg p4))), (aMs, .inl (cZ, 100, .inl (vMs)))] := hD
          refine lv_aload_n hx hb qd_M_production_216 rfl (lv_at hl 2 rfl) ?_
          refine va_get (D := (dC, dI)) (ci := 7) (v := .int (vMP + 1)) (C := qR_M) (T := qT_M) (N := 23) hx hb hg qi_M hown hK hP 0 rfl rfl 1 (by decide) (hg _ mw_575) (fun _ h9 => h9) rfl qd_M_production_217 ?_
          refine lv_iconst (v := 1) hx hb qd_M_production_220 (by decide) ?_
          refine lv_isub hx hb qd_M_production_221 ?_
          exact W.iret (v := (vMP + 1) - 1) hx hb hr (fun t ht hW => ⟨⟨_, ((vMP + 1) - 1, u_131.2, vMP + 1, 0, upd vMh vMP.toNatClampNeg p0, upd (upd (upd vMi (3 * vMP).toNatClampNeg p1) ((3 * vMP) + 1).toNatClampNeg p2) ((3 * vMP) + 2).toNatClampNeg p3, upd vMc vMP.toNatClampNeg p4, vMs), rfl, ⟨hres.symm, rfl⟩, ⟨by rw [ht]; exact hP, va_K.moved hW.alike hK, x_N hN hW⟩, hD⟩, hS.F ht⟩) hS.2.2 qd_M_production_222
        have hres := hres.trans (if_neg c_134)
        have ho := (if_neg c_134).mp ho
        refine lv_iconst (v := 0) hx hb qd_M_production_137 (by decide) ?_
        exact W.iret (v := 0) hx hb hr (fun t ht hW => ⟨⟨_, (0, u_131.2, vMP, vMB, vMh, vMi, vMc, vMs), rfl, ⟨hres.symm, rfl⟩, ⟨by rw [ht]; exact hP, va_K.moved hW.alike hK, x_N hN hW⟩, hD⟩, hS.F ht⟩) hS.2.2 qd_M_production_138
      have hres := hres.trans (if_neg c_57)
      have ho := (if_neg c_57).mp ho
      refine lv_iconst (v := 1) hx hb qd_M_production_60 (by decide) ?_
      refine lv_goto (tgt := 65) hx hb qd_M_production_61 (by decide) ?_
      refine lv_istore (lv' := [(6, .int 1), (0, .ref aM), (1, .int p0), (2, .int p1), (3, .int p2), (4, .int p3), (5, .int p4)]) hx hb qd_M_production_65 hl (by decide) rfl (fun ls hl => ?_)
      refine lv_iload hx hb qd_M_production_67 (lv_at hl 0 rfl) ?_
      refine lv_if_eq (tgt := 96) hx hb qd_M_production_69 (by decide) (fun c_69 => ?_) (fun c_69 => ?_)
      · exact absurd c_69 (by decide)
      refine lv_iload_n hx hb qd_M_production_72 rfl (lv_at hl 3 rfl) ?_
      refine lv_bipush (v := 10) hx hb qd_M_production_73 (by decide) ?_
      refine lv_icmp_ge (tgt := 96) hx hb qd_M_production_75 (by decide) (fun c_75 => ?_) (fun c_75 => ?_)
      · have hres := hres.trans (if_pos c_75)
        have ho := (if_pos c_75).mp ho
        refine lv_iconst (v := 0) hx hb qd_M_production_96 (by decide) ?_
        refine lv_istore (lv' := [(7, .int 0), (6, .int 1), (0, .ref aM), (1, .int p0), (2, .int p1), (3, .int p2), (4, .int p3), (5, .int p4)]) hx hb qd_M_production_97 hl (by decide) rfl (fun ls hl => ?_)
        refine lv_aload_n hx hb qd_M_production_99 rfl (lv_at hl 2 rfl) ?_
        refine lv_iload hx hb qd_M_production_100 (lv_at hl 1 rfl) ?_
        refine lv_if_ne (tgt := 109) hx hb qd_M_production_102 (by decide) (fun c_102 => ?_) (fun c_102 => ?_)
        rotate_left
        · exact absurd c_102 (by decide)
        refine lv_iconst (v := 0) hx hb qd_M_production_109 (by decide) ?_
        refine lv_iload hx hb qd_M_production_110 (lv_at hl 1 rfl) ?_
        refine lv_if_eq (tgt := 128) hx hb qd_M_production_112 (by decide) (fun c_112 => ?_) (fun c_112 => ?_)
        · exact absurd c_112 (by decide)
        refine lv_aload_n hx hb qd_M_production_115 rfl (lv_at hl 2 rfl) ?_
        refine va_get (D := (dC, dI)) (ci := 7) (v := .int vMP) (C := qR_M) (T := qT_M) (N := 23) hx hb hg qi_M hown hK hP 0 rfl rfl 1 (by decide) (hg _ mw_575) (fun _ h9 => h9) rfl qd_M_production_116 ?_
        refine lv_bipush (v := 24) hx hb qd_M_production_119 (by decide) ?_
        refine lv_icmp_ne (tgt := 128) hx hb qd_M_production_121 (by decide) (fun c_121 => ?_) (fun c_121 => ?_)
        · have hres := hres.trans (if_neg c_121)
          have ho := (if_neg c_121).mp ho
          refine lv_iconst (v := 0) hx hb qd_M_production_128 (by decide) ?_
          refine lv_iload hx hb qd_M_production_129 (lv_at hl 0 rfl) ?_
          refine xm_Vi (As := [.int 0, .int 0, .int 0]) (rest := []) (w1 := fun (u_131 : Int32 × Int32) => [(aM, .inr (7, [.int u_131.2, .int vMP, .ref aMh, .ref aMi, .ref aMc, .int vMK, .ref aMt, .int vMB, .ref aMn, .ref aMl, .ref aMs, .int vMD, .ref aMd, .int vME, .ref aMe, .int vMO, .ref aMo, .int vMF, .int vMS, .ref aMw, .ref aMu, .int vMX, .int vMW]))]) (w2 := fun (u_131 : Int32 × Int32) => [(aM, .inr (7, [.int u_131.2, .int vMP, .ref aMh, .ref aMi, .ref aMc, .int vMK, .ref aMt, .int vMB, .ref aMn, .ref aMl, .ref aMs, .int vMD, .ref aMd, .int vME, .ref aMe, .int vMO, .ref aMo, .int vMF, .int vMS, .ref aMw, .ref aMu, .int vMX, .int vMW])), (aMh, .inl (cA, 24, .inl (vMh))), (aMi, .inl (cA, 72, .inl (vMi))), (aMc, .inl (cA, 24, .inl (vMc))), (aMs, .inl (cZ, 100, .inl (vMs)))]) ⟨hx, hb, hml, hown, hg⟩ (c_M_refuse l dC dI cA cZ aM aMh aMi aMc aMt aMn aMl aMs aMd aMe aMo aMw aMu _ vMT vMP vMK vMB vMD vME vMO vMF vMS vMX vMW 0 0 0) (cwV 3 hg (q_gV mw_642 mw_643 mw_771 mw_8 mw_644) rfl rfl rfl qh_M_refuse ⟨Nat.le_of_ble_eq_true rfl, Nat.le_of_ble_eq_true rfl⟩) hN hK hP hD hS hA [0] [1, 2, 3, 4] rfl rfl (by decide) (by decide) (by decide) [4, 0, 1, 2, 3] (fun _ => rfl) (by decide) 0 7 rfl rfl rfl hl.1 rfl (Nat.le_of_ble_eq_true rfl) qd_M_production_131 ⟨Nat.zero_le _, Nat.zero_le _⟩ (fun u_131 H locs w_131 hP hD hS => ?_)
          have hP : va_P (dC, dI) vwCl [(aM, .inr (7, [.int u_131.2, .int vMP, .ref aMh, .ref aMi, .ref aMc, .int vMK, .ref aMt, .int vMB, .ref aMn, .ref aMl, .ref aMs, .int vMD, .ref aMd, .int vME, .ref aMe, .int vMO, .ref aMo, .int vMF, .int vMS, .ref aMw, .ref aMu, .int vMX, .int vMW])), (aMh, .inl (cA, 24, .inl (vMh))), (aMi, .inl (cA, 72, .inl (vMi))), (aMc, .inl (cA, 24, .inl (vMc))), (aMs, .inl (cZ, 100, .inl (vMs)))] H := hP
          have hD : va_D A [(aM, .inr (7, [.int u_131.2, .int vMP, .ref aMh, .ref aMi, .ref aMc, .int vMK, .ref aMt, .int vMB, .ref aMn, .ref aMl, .ref aMs, .int vMD, .ref aMd, .int vME, .ref aMe, .int vMO, .ref aMo, .int vMF, .int vMS, .ref aMw, .ref aMu, .int vMX, .int vMW])), (aMh, .inl (cA, 24, .inl (vMh))), (aMi, .inl (cA, 72, .inl (vMi))), (aMc, .inl (cA, 24, .inl (vMc))), (aMs, .inl (cZ, 100, .inl (vMs)))] := hD
          have hres := hres.trans (bd_eq w_131)
          have ho := (bd_eq w_131).mp ho
          refine lv_if_eq (tgt := 139) hx hb qd_M_production_134 (by decide) (fun c_134 => ?_) (fun c_134 => ?_)
          · have hres := hres.trans (if_pos c_134)
            have ho := (if_pos c_134).mp ho
            refine lv_aload_n hx hb qd_M_production_139 rfl (lv_at hl 2 rfl) ?_
            refine va_get (D := (dC, dI)) (ci := 7) (v := .ref aMh) (C := qR_M) (T := qT_M) (N := 23) hx hb hg qi_M hown hK hP 0 rfl rfl 2 (by decide) (hg _ mw_576) (fun _ h9 => h9) rfl qd_M_production_140 ?_
            refine lv_aload_n hx hb qd_M_production_143 rfl (lv_at hl 2 rfl) ?_
            refine va_get (D := (dC, dI)) (ci := 7) (v := .int vMP) (C := qR_M) (T := qT_M) (N := 23) hx hb hg qi_M hown hK hP 0 rfl rfl 1 (by decide) (hg _ mw_575) (fun _ h9 => h9) rfl qd_M_production_144 ?_
            refine lv_iload_n hx hb qd_M_production_147 rfl (lv_at hl 3 rfl) ?_
            obtain ⟨g_148, ho⟩ := ho
            refine va_iast hx hb hK hP hD hS 1 0 rfl rfl g_148 qd_M_production_148 (fun H locs hP hD hS => ?_)
            have hP : va_P (dC, dI) vwCl [(aM, .inr (7, [.int u_131.2, .int vMP, .ref aMh, .ref aMi, .ref aMc, .int vMK, .ref aMt, .int vMB, .ref aMn, .ref aMl, .ref aMs, .int vMD, .ref aMd, .int vME, .ref aMe, .int vMO, .ref aMo, .int vMF, .int vMS, .ref aMw, .ref aMu, .int vMX, .int vMW])), (aMh, .inl (cA, 24, .inl (upd vMh vMP.toNatClampNeg p0))), (aMi, .inl (cA, 72, .inl (vMi))), (aMc, .inl (cA, 24, .inl (vMc))), (aMs, .inl (cZ, 100, .inl (vMs)))] H := hP
            have hD : va_D A [(aM, .inr (7, [.int u_131.2, .int vMP, .ref aMh, .ref aMi, .ref aMc, .int vMK, .ref aMt, .int vMB, .ref aMn, .ref aMl, .ref aMs, .int vMD, .ref aMd, .int vME, .ref aMe, .int vMO, .ref aMo, .int vMF, .int vMS, .ref aMw, .ref aMu, .int vMX, .int vMW])), (aMh, .inl (cA, 24, .inl (upd vMh vMP.toNatClampNeg p0))), (aMi, .inl (cA, 72, .inl (vMi))), (aMc, .inl (cA, 24, .inl (vMc))), (aMs, .inl (cZ, 100, .inl (vMs)))] := hD
            refine lv_aload_n hx hb qd_M_production_149 rfl (lv_at hl 2 rfl) ?_
            refine va_get (D := (dC, dI)) (ci := 7) (v := .ref aMi) (C := qR_M) (T := qT_M) (N := 23) hx hb hg qi_M hown hK hP 0 rfl rfl 3 (by decide) (hg _ mw_577) (fun _ h9 => h9) rfl qd_M_production_150 ?_
            refine lv_iconst (v := 3) hx hb qd_M_production_153 (by decide) ?_
            refine lv_aload_n hx hb qd_M_production_154 rfl (lv_at hl 2 rfl) ?_
            refine va_get (D := (dC, dI)) (ci := 7) (v := .int vMP) (C := qR_M) (T := qT_M) (N := 23) hx hb hg qi_M hown hK hP 0 rfl rfl 1 (by decide) (hg _ mw_575) (fun _ h9 => h9) rfl qd_M_production_155 ?_
            refine lv_imul hx hb qd_M_production_158 ?_
            refine lv_iload_n hx hb qd_M_production_159 rfl (lv_at hl 4 rfl) ?_
            obtain ⟨g_160, ho⟩ := ho
            refine va_iast hx hb hK hP hD hS 2 0 rfl rfl g_160 qd_M_production_160 (fun H locs hP hD hS => ?_)
            have hP : va_P (dC, dI) vwCl [(aM, .inr (7, [.int u_131.2, .int vMP, .ref aMh, .ref aMi, .ref aMc, .int vMK, .ref aMt, .int vMB, .ref aMn, .ref aMl, .ref aMs, .int vMD, .ref aMd, .int vME, .ref aMe, .int vMO, .ref aMo, .int vMF, .int vMS, .ref aMw, .ref aMu, .int vMX, .int vMW])), (aMh, .inl (cA, 24, .inl (upd vMh vMP.toNatClampNeg p0))), (aMi, .inl (cA, 72, .inl (upd vMi (3 * vMP).toNatClampNeg p1))), (aMc, .inl (cA, 24, .inl (vMc))), (aMs, .inl (cZ, 100, .inl (vMs)))] H := hP
            have hD : va_D A [(aM, .inr (7, [.int u_131.2, .int vMP, .ref aMh, .ref aMi, .ref aMc, .int vMK, .ref aMt, .int vMB, .ref aMn, .ref aMl, .ref aMs, .int vMD, .ref aMd, .int vME, .ref aMe, .int vMO, .ref aMo, .int vMF, .int vMS, .ref aMw, .ref aMu, .int vMX, .int vMW])), (aMh, .inl (cA, 24, .inl (upd vMh vMP.toNatClampNeg p0))), (aMi, .inl (cA, 72, .inl (upd vMi (3 * vMP).toNatClampNeg p1))), (aMc, .inl (cA, 24, .inl (vMc))), (aMs, .inl (cZ, 100, .inl (vMs)))] := hD
            refine lv_aload_n hx hb qd_M_production_161 rfl (lv_at hl 2 rfl) ?_
            refine va_get (D := (dC, dI)) (ci := 7) (v := .ref aMi) (C := qR_M) (T := qT_M) (N := 23) hx hb hg qi_M hown hK hP 0 rfl rfl 3 (by decide) (hg _ mw_577) (fun _ h9 => h9) rfl qd_M_production_162 ?_
            refine lv_iconst (v := 3) hx hb qd_M_production_165 (by decide) ?_
            refine lv_aload_n hx hb qd_M_production_166 rfl (lv_at hl 2 rfl) ?_
            refine va_get (D := (dC, dI)) (ci := 7) (v := .int vMP) (C := qR_M) (T := qT_M) (N := 23) hx hb hg qi_M hown hK hP 0 rfl rfl 1 (by decide) (hg _ mw_575) (fun _ h9 => h9) rfl qd_M_production_167 ?_
            refine lv_imul hx hb qd_M_production_170 ?_
            refine lv_iconst (v := 1) hx hb qd_M_production_171 (by decide) ?_
            refine lv_iadd hx hb qd_M_production_172 ?_
            refine lv_iload_n hx hb qd_M_production_173 rfl (lv_at hl 5 rfl) ?_
            obtain ⟨g_174, ho⟩ := ho
            refine va_iast hx hb hK hP hD hS 2 0 rfl rfl g_174 qd_M_production_174 (fun H locs hP hD hS => ?_)
            have hP : va_P (dC, dI) vwCl [(aM, .inr (7, [.int u_131.2, .int vMP, .ref aMh, .ref aMi, .ref aMc, .int vMK, .ref aMt, .int vMB, .ref aMn, .ref aMl, .ref aMs, .int vMD, .ref aMd, .int vME, .ref aMe, .int vMO, .ref aMo, .int vMF, .int vMS, .ref aMw, .ref aMu, .int vMX, .int vMW])), (aMh, .inl (cA, 24, .inl (upd vMh vMP.toNatClampNeg p0))), (aMi, .inl (cA, 72, .inl (upd (upd vMi (3 * vMP).toNatClampNeg p1) ((3 * vMP) + 1).toNatClampNeg p2))), (aMc, .inl (cA, 24, .inl (vMc))), (aMs, .inl (cZ, 100, .inl (vMs)))] H := hP
            have hD : va_D A [(aM, .inr (7, [.int u_131.2, .int vMP, .ref aMh, .ref aMi, .ref aMc, .int vMK, .ref aMt, .int vMB, .ref aMn, .ref aMl, .ref aMs, .int vMD, .ref aMd, .int vME, .ref aMe, .int vMO, .ref aMo, .int vMF, .int vMS, .ref aMw, .ref aMu, .int vMX, .int vMW])), (aMh, .inl (cA, 24, .inl (upd vMh vMP.toNatClampNeg p0))), (aMi, .inl (cA, 72, .inl (upd (upd vMi (3 * vMP).toNatClampNeg p1) ((3 * vMP) + 1).toNatClampNeg p2))), (aMc, .inl (cA, 24, .inl (vMc))), (aMs, .inl (cZ, 100, .inl (vMs)))] := hD
            refine lv_aload_n hx hb qd_M_production_175 rfl (lv_at hl 2 rfl) ?_
            refine va_get (D := (dC, dI)) (ci := 7) (v := .ref aMi) (C := qR_M) (T := qT_M) (N := 23) hx hb hg qi_M hown hK hP 0 rfl rfl 3 (by decide) (hg _ mw_577) (fun _ h9 => h9) rfl qd_M_production_176 ?_
            refine lv_iconst (v := 3) hx hb qd_M_production_179 (by decide) ?_
            refine lv_aload_n hx hb qd_M_production_180 rfl (lv_at hl 2 rfl) ?_
            refine va_get (D := (dC, dI)) (ci := 7) (v := .int vMP) (C := qR_M) (T := qT_M) (N := 23) hx hb hg qi_M hown hK hP 0 rfl rfl 1 (by decide) (hg _ mw_575) (fun _ h9 => h9) rfl qd_M_production_181 ?_
            refine lv_imul hx hb qd_M_production_184 ?_
            refine lv_iconst (v := 2) hx hb qd_M_production_185 (by decide) ?_
            refine lv_iadd hx hb qd_M_production_186 ?_
            refine lv_iload hx hb qd_M_production_187 (lv_at hl 6 rfl) ?_
            obtain ⟨g_189, ho⟩ := ho
            refine va_iast hx hb hK hP hD hS 2 0 rfl rfl g_189 qd_M_production_189 (fun H locs hP hD hS => ?_)
            have hP : va_P (dC, dI) vwCl [(aM, .inr (7, [.int u_131.2, .int vMP, .ref aMh, .ref aMi, .ref aMc, .int vMK, .ref aMt, .int vMB, .ref aMn, .ref aMl, .ref aMs, .int vMD, .ref aMd, .int vME, .ref aMe, .int vMO, .ref aMo, .int vMF, .int vMS, .ref aMw, .ref aMu, .int vMX, .int vMW])), (aMh, .inl (cA, 24, .inl (upd vMh vMP.toNatClampNeg p0))), (aMi, .inl (cA, 72, .inl (upd (upd (upd vMi (3 * vMP).toNatClampNeg p1) ((3 * vMP) + 1).toNatClampNeg p2) ((3 * vMP) + 2).toNatClampNeg p3))), (aMc, .inl (cA, 24, .inl (vMc))), (aMs, .inl (cZ, 100, .inl (vMs)))] H := hP
            have hD : va_D A [(aM, .inr (7, [.int u_131.2, .int vMP, .ref aMh, .ref aMi, .ref aMc, .int vMK, .ref aMt, .int vMB, .ref aMn, .ref aMl, .ref aMs, .int vMD, .ref aMd, .int vME, .ref aMe, .int vMO, .ref aMo, .int vMF, .int vMS, .ref aMw, .ref aMu, .int vMX, .int vMW])), (aMh, .inl (cA, 24, .inl (upd vMh vMP.toNatClampNeg p0))), (aMi, .inl (cA, 72, .inl (upd (upd (upd vMi (3 * vMP).toNatClampNeg p1) ((3 * vMP) + 1).toNatClampNeg p2) ((3 * vMP) + 2).toNatClampNeg p3))), (aMc, .inl (cA, 24, .inl (vMc))), (aMs, .inl (cZ, 100, .inl (vMs)))] := hD
            refine lv_aload_n hx hb qd_M_production_190 rfl (lv_at hl 2 rfl) ?_
            refine va_get (D := (dC, dI)) (ci := 7) (v := .ref aMc) (C := qR_M) (T := qT_M) (N := 23) hx hb hg qi_M hown hK hP 0 rfl rfl 4 (by decide) (hg _ mw_578) (fun _ h9 => h9) rfl qd_M_production_191 ?_
            refine lv_aload_n hx hb qd_M_production_194 rfl (lv_at hl 2 rfl) ?_
            refine va_get (D := (dC, dI)) (ci := 7) (v := .int vMP) (C := qR_M) (T := qT_M) (N := 23) hx hb hg qi_M hown hK hP 0 rfl rfl 1 (by decide) (hg _ mw_575) (fun _ h9 => h9) rfl qd_M_production_195 ?_
            refine lv_iload hx hb qd_M_production_198 (lv_at hl 7 rfl) ?_
            obtain ⟨g_200, ho⟩ := ho
            refine va_iast hx hb hK hP hD hS 3 0 rfl rfl g_200 qd_M_production_200 (fun H locs hP hD hS => ?_)
            have hP : va_P (dC, dI) vwCl [(aM, .inr (7, [.int u_131.2, .int vMP, .ref aMh, .ref aMi, .ref aMc, .int vMK, .ref aMt, .int vMB, .ref aMn, .ref aMl, .ref aMs, .int vMD, .ref aMd, .int vME, .ref aMe, .int vMO, .ref aMo, .int vMF, .int vMS, .ref aMw, .ref aMu, .int vMX, .int vMW])), (aMh, .inl (cA, 24, .inl (upd vMh vMP.toNatClampNeg p0))), (aMi, .inl (cA, 72, .inl (upd (upd (upd vMi (3 * vMP).toNatClampNeg p1) ((3 * vMP) + 1).toNatClampNeg p2) ((3 * vMP) + 2).toNatClampNeg p3))), (aMc, .inl (cA, 24, .inl (upd vMc vMP.toNatClampNeg p4))), (aMs, .inl (cZ, 100, .inl (vMs)))] H := hP
            have hD : va_D A [(aM, .inr (7, [.int u_131.2, .int vMP, .ref aMh, .ref aMi, .ref aMc, .int vMK, .ref aMt, .int vMB, .ref aMn, .ref aMl, .ref aMs, .int vMD, .ref aMd, .int vME, .ref aMe, .int vMO, .ref aMo, .int vMF, .int vMS, .ref aMw, .ref aMu, .int vMX, .int vMW])), (aMh, .inl (cA, 24, .inl (upd vMh vMP.toNatClampNeg p0))), (aMi, .inl (cA, 72, .inl (upd (upd (upd vMi (3 * vMP).toNatClampNeg p1) ((3 * vMP) + 1).toNatClampNeg p2) ((3 * vMP) + 2).toNatClampNeg p3))), (aMc, .inl (cA, 24, .inl (upd vMc vMP.toNatClampNeg p4))), (aMs, .inl (cZ, 100, .inl (vMs)))] := hD
            refine lv_aload_n hx hb qd_M_production_201 rfl (lv_at hl 2 rfl) ?_
            refine lv_dup hx hb qd_M_production_202 rfl ?_
            refine va_get (D := (dC, dI)) (ci := 7) (v := .int vMP) (C := qR_M) (T := qT_M) (N := 23) hx hb hg qi_M hown hK hP 0 rfl rfl 1 (by decide) (hg _ mw_575) (fun _ h9 => h9) rfl qd_M_production_203 ?_
            refine lv_iconst (v := 1) hx hb qd_M_production_206 (by decide) ?_
            refine lv_iadd hx hb qd_M_production_207 ?_
            refine va_put (D := (dC, dI)) (ci := 7) (v := .int (vMP + 1)) (ty := .int) (C := qR_M) (T := qT_M) (N := 23) hx hb hg qi_M qt_M qk_M qn_M hown hK hP hD hS 0 rfl rfl 1 (by decide) (hg _ mw_575) (fun _ h9 => h9) rfl (by decide +kernel) rfl rfl (Nat.le_of_ble_eq_true rfl) qd_M_production_208 (fun H locs hP hD hS => ?_)
            have hP : va_P (dC, dI) vwCl [(aM, .inr (7, [.int u_131.2, .int (vMP + 1), .ref aMh, .ref aMi, .ref aMc, .int vMK, .ref aMt, .int vMB, .ref aMn, .ref aMl, .ref aMs, .int vMD, .ref aMd, .int vME, .ref aMe, .int vMO, .ref aMo, .int vMF, .int vMS, .ref aMw, .ref aMu, .int vMX, .int vMW])), (aMh, .inl (cA, 24, .inl (upd vMh vMP.toNatClampNeg p0))), (aMi, .inl (cA, 72, .inl (upd (upd (upd vMi (3 * vMP).toNatClampNeg p1) ((3 * vMP) + 1).toNatClampNeg p2) ((3 * vMP) + 2).toNatClampNeg p3))), (aMc, .inl (cA, 24, .inl (upd vMc vMP.toNatClampNeg p4))), (aMs, .inl (cZ, 100, .inl (vMs)))] H := hP
            have hD : va_D A [(aM, .inr (7, [.int u_131.2, .int (vMP + 1), .ref aMh, .ref aMi, .ref aMc, .int vMK, .ref aMt, .int vMB, .ref aMn, .ref aMl, .ref aMs, .int vMD, .ref aMd, .int vME, .ref aMe, .int vMO, .ref aMo, .int vMF, .int vMS, .ref aMw, .ref aMu, .int vMX, .int vMW])), (aMh, .inl (cA, 24, .inl (upd vMh vMP.toNatClampNeg p0))), (aMi, .inl (cA, 72, .inl (upd (upd (upd vMi (3 * vMP).toNatClampNeg p1) ((3 * vMP) + 1).toNatClampNeg p2) ((3 * vMP) + 2).toNatClampNeg p3))), (aMc, .inl (cA, 24, .inl (upd vMc vMP.toNatClampNeg p4))), (aMs, .inl (cZ, 100, .inl (vMs)))] := hD
            refine lv_aload_n hx hb qd_M_production_211 rfl (lv_at hl 2 rfl) ?_
            refine lv_iconst (v := 0) hx hb qd_M_production_212 (by decide) ?_
            refine va_put (D := (dC, dI)) (ci := 7) (v := .int 0) (ty := .boolean) (C := qR_M) (T := qT_M) (N := 23) hx hb hg qi_M qt_M qk_M qn_M hown hK hP hD hS 0 rfl rfl 7 (by decide) (hg _ mw_581) (fun _ h9 => h9) rfl (by decide +kernel) rfl rfl (Nat.le_of_ble_eq_true rfl) qd_M_production_213 (fun H locs hP hD hS => ?_)
            have hP : va_P (dC, dI) vwCl [(aM, .inr (7, [.int u_131.2, .int (vMP + 1), .ref aMh, .ref aMi, .ref aMc, .int vMK, .ref aMt, .int 0, .ref aMn, .ref aMl, .ref aMs, .int vMD, .ref aMd, .int vME, .ref aMe, .int vMO, .ref aMo, .int vMF, .int vMS, .ref aMw, .ref aMu, .int vMX, .int vMW])), (aMh, .inl (cA, 24, .inl (upd vMh vMP.toNatClampNeg p0))), (aMi, .inl (cA, 72, .inl (upd (upd (upd vMi (3 * vMP).toNatClampNeg p1) ((3 * vMP) + 1).toNatClampNeg p2) ((3 * vMP) + 2).toNatClampNeg p3))), (aMc, .inl (cA, 24, .inl (upd vMc vMP.toNatClampNeg p4))), (aMs, .inl (cZ, 100, .inl (vMs)))] H := hP
            have hD : va_D A [(aM, .inr (7, [.int u_131.2, .int (vMP + 1), .ref aMh, .ref aMi, .ref aMc, .int vMK, .ref aMt, .int 0, .ref aMn, .ref aMl, .ref aMs, .int vMD, .ref aMd, .int vME, .ref aMe, .int vMO, .ref aMo, .int vMF, .int vMS, .ref aMw, .ref aMu, .int vMX, .int vMW])), (aMh, .inl (cA, 24, .inl (upd vMh vMP.toNatClampNeg p0))), (aMi, .inl (cA, 72, .inl (upd (upd (upd vMi (3 * vMP).toNatClampNeg p1) ((3 * vMP) + 1).toNatClampNeg p2) ((3 * vMP) + 2).toNatClampNeg p3))), (aMc, .inl (cA, 24, .inl (upd vMc vMP.toNatClampNeg p4))), (aMs, .inl (cZ, 100, .inl (vMs)))] := hD
            refine lv_aload_n hx hb qd_M_production_216 rfl (lv_at hl 2 rfl) ?_
            refine va_get (D := (dC, dI)) (ci := 7) (v := .int (vMP + 1)) (C := qR_M) (T := qT_M) (N := 23) hx hb hg qi_M hown hK hP 0 rfl rfl 1 (by decide) (hg _ mw_575) (fun _ h9 => h9) rfl qd_M_production_217 ?_
            refine lv_iconst (v := 1) hx hb qd_M_production_220 (by decide) ?_
            refine lv_isub hx hb qd_M_production_221 ?_
            exact W.iret (v := (vMP + 1) - 1) hx hb hr (fun t ht hW => ⟨⟨_, ((vMP + 1) - 1, u_131.2, vMP + 1, 0, upd vMh vMP.toNatClampNeg p0, upd (upd (upd vMi (3 * vMP).toNatClampNeg p1) ((3 * vMP) + 1).toNatClampNeg p2) ((3 * vMP) + 2).toNatClampNeg p3, upd vMc vMP.toNatClampNeg p4, vMs), rfl, ⟨hres.symm, rfl⟩, ⟨by rw [ht]; exact hP, va_K.moved hW.alike hK, x_N hN hW⟩, hD⟩, hS.F ht⟩) hS.2.2 qd_M_production_222
          have hres := hres.trans (if_neg c_134)
          have ho := (if_neg c_134).mp ho
          refine lv_iconst (v := 0) hx hb qd_M_production_137 (by decide) ?_
          exact W.iret (v := 0) hx hb hr (fun t ht hW => ⟨⟨_, (0, u_131.2, vMP, vMB, vMh, vMi, vMc, vMs), rfl, ⟨hres.symm, rfl⟩, ⟨by rw [ht]; exact hP, va_K.moved hW.alike hK, x_N hN hW⟩, hD⟩, hS.F ht⟩) hS.2.2 qd_M_production_138
        have hres := hres.trans (if_pos c_121)
        have ho := (if_pos c_121).mp ho
        refine lv_iconst (v := 1) hx hb qd_M_production_124 (by decide) ?_
        refine lv_goto (tgt := 129) hx hb qd_M_production_125 (by decide) ?_
        refine lv_iload hx hb qd_M_production_129 (lv_at hl 0 rfl) ?_
        refine xm_Vi (As := [.int 0, .int 1, .int 0]) (rest := []) (w1 := fun (u_131 : Int32 × Int32) => [(aM, .inr (7, [.int u_131.2, .int vMP, .ref aMh, .ref aMi, .ref aMc, .int vMK, .ref aMt, .int vMB, .ref aMn, .ref aMl, .ref aMs, .int vMD, .ref aMd, .int vME, .ref aMe, .int vMO, .ref aMo, .int vMF, .int vMS, .ref aMw, .ref aMu, .int vMX, .int vMW]))]) (w2 := fun (u_131 : Int32 × Int32) => [(aM, .inr (7, [.int u_131.2, .int vMP, .ref aMh, .ref aMi, .ref aMc, .int vMK, .ref aMt, .int vMB, .ref aMn, .ref aMl, .ref aMs, .int vMD, .ref aMd, .int vME, .ref aMe, .int vMO, .ref aMo, .int vMF, .int vMS, .ref aMw, .ref aMu, .int vMX, .int vMW])), (aMh, .inl (cA, 24, .inl (vMh))), (aMi, .inl (cA, 72, .inl (vMi))), (aMc, .inl (cA, 24, .inl (vMc))), (aMs, .inl (cZ, 100, .inl (vMs)))]) ⟨hx, hb, hml, hown, hg⟩ (c_M_refuse l dC dI cA cZ aM aMh aMi aMc aMt aMn aMl aMs aMd aMe aMo aMw aMu _ vMT vMP vMK vMB vMD vME vMO vMF vMS vMX vMW 0 1 0) (cwV 3 hg (q_gV mw_642 mw_643 mw_771 mw_8 mw_644) rfl rfl rfl qh_M_refuse ⟨Nat.le_of_ble_eq_true rfl, Nat.le_of_ble_eq_true rfl⟩) hN hK hP hD hS hA [0] [1, 2, 3, 4] rfl rfl (by decide) (by decide) (by decide) [4, 0, 1, 2, 3] (fun _ => rfl) (by decide) 0 7 rfl rfl rfl hl.1 rfl (Nat.le_of_ble_eq_true rfl) qd_M_production_131 ⟨Nat.zero_le _, Nat.zero_le _⟩ (fun u_131 H locs w_131 hP hD hS => ?_)
        have hP : va_P (dC, dI) vwCl [(aM, .inr (7, [.int u_131.2, .int vMP, .ref aMh, .ref aMi, .ref aMc, .int vMK, .ref aMt, .int vMB, .ref aMn, .ref aMl, .ref aMs, .int vMD, .ref aMd, .int vME, .ref aMe, .int vMO, .ref aMo, .int vMF, .int vMS, .ref aMw, .ref aMu, .int vMX, .int vMW])), (aMh, .inl (cA, 24, .inl (vMh))), (aMi, .inl (cA, 72, .inl (vMi))), (aMc, .inl (cA, 24, .inl (vMc))), (aMs, .inl (cZ, 100, .inl (vMs)))] H := hP
        have hD : va_D A [(aM, .inr (7, [.int u_131.2, .int vMP, .ref aMh, .ref aMi, .ref aMc, .int vMK, .ref aMt, .int vMB, .ref aMn, .ref aMl, .ref aMs, .int vMD, .ref aMd, .int vME, .ref aMe, .int vMO, .ref aMo, .int vMF, .int vMS, .ref aMw, .ref aMu, .int vMX, .int vMW])), (aMh, .inl (cA, 24, .inl (vMh))), (aMi, .inl (cA, 72, .inl (vMi))), (aMc, .inl (cA, 24, .inl (vMc))), (aMs, .inl (cZ, 100, .inl (vMs)))] := hD
        have hres := hres.trans (bd_eq w_131)
        have ho := (bd_eq w_131).mp ho
        refine lv_if_eq (tgt := 139) hx hb qd_M_production_134 (by decide) (fun c_134 => ?_) (fun c_134 => ?_)
        · have hres := hres.trans (if_pos c_134)
          have ho := (if_pos c_134).mp ho
          refine lv_aload_n hx hb qd_M_production_139 rfl (lv_at hl 2 rfl) ?_
          refine va_get (D := (dC, dI)) (ci := 7) (v := .ref aMh) (C := qR_M) (T := qT_M) (N := 23) hx hb hg qi_M hown hK hP 0 rfl rfl 2 (by decide) (hg _ mw_576) (fun _ h9 => h9) rfl qd_M_production_140 ?_
          refine lv_aload_n hx hb qd_M_production_143 rfl (lv_at hl 2 rfl) ?_
          refine va_get (D := (dC, dI)) (ci := 7) (v := .int vMP) (C := qR_M) (T := qT_M) (N := 23) hx hb hg qi_M hown hK hP 0 rfl rfl 1 (by decide) (hg _ mw_575) (fun _ h9 => h9) rfl qd_M_production_144 ?_
          refine lv_iload_n hx hb qd_M_production_147 rfl (lv_at hl 3 rfl) ?_
          obtain ⟨g_148, ho⟩ := ho
          refine va_iast hx hb hK hP hD hS 1 0 rfl rfl g_148 qd_M_production_148 (fun H locs hP hD hS => ?_)
          have hP : va_P (dC, dI) vwCl [(aM, .inr (7, [.int u_131.2, .int vMP, .ref aMh, .ref aMi, .ref aMc, .int vMK, .ref aMt, .int vMB, .ref aMn, .ref aMl, .ref aMs, .int vMD, .ref aMd, .int vME, .ref aMe, .int vMO, .ref aMo, .int vMF, .int vMS, .ref aMw, .ref aMu, .int vMX, .int vMW])), (aMh, .inl (cA, 24, .inl (upd vMh vMP.toNatClampNeg p0))), (aMi, .inl (cA, 72, .inl (vMi))), (aMc, .inl (cA, 24, .inl (vMc))), (aMs, .inl (cZ, 100, .inl (vMs)))] H := hP
          have hD : va_D A [(aM, .inr (7, [.int u_131.2, .int vMP, .ref aMh, .ref aMi, .ref aMc, .int vMK, .ref aMt, .int vMB, .ref aMn, .ref aMl, .ref aMs, .int vMD, .ref aMd, .int vME, .ref aMe, .int vMO, .ref aMo, .int vMF, .int vMS, .ref aMw, .ref aMu, .int vMX, .int vMW])), (aMh, .inl (cA, 24, .inl (upd vMh vMP.toNatClampNeg p0))), (aMi, .inl (cA, 72, .inl (vMi))), (aMc, .inl (cA, 24, .inl (vMc))), (aMs, .inl (cZ, 100, .inl (vMs)))] := hD
          refine lv_aload_n hx hb qd_M_production_149 rfl (lv_at hl 2 rfl) ?_
          refine va_get (D := (dC, dI)) (ci := 7) (v := .ref aMi) (C := qR_M) (T := qT_M) (N := 23) hx hb hg qi_M hown hK hP 0 rfl rfl 3 (by decide) (hg _ mw_577) (fun _ h9 => h9) rfl qd_M_production_150 ?_
          refine lv_iconst (v := 3) hx hb qd_M_production_153 (by decide) ?_
          refine lv_aload_n hx hb qd_M_production_154 rfl (lv_at hl 2 rfl) ?_
          refine va_get (D := (dC, dI)) (ci := 7) (v := .int vMP) (C := qR_M) (T := qT_M) (N := 23) hx hb hg qi_M hown hK hP 0 rfl rfl 1 (by decide) (hg _ mw_575) (fun _ h9 => h9) rfl qd_M_production_155 ?_
          refine lv_imul hx hb qd_M_production_158 ?_
          refine lv_iload_n hx hb qd_M_production_159 rfl (lv_at hl 4 rfl) ?_
          obtain ⟨g_160, ho⟩ := ho
          refine va_iast hx hb hK hP hD hS 2 0 rfl rfl g_160 qd_M_production_160 (fun H locs hP hD hS => ?_)
          have hP : va_P (dC, dI) vwCl [(aM, .inr (7, [.int u_131.2, .int vMP, .ref aMh, .ref aMi, .ref aMc, .int vMK, .ref aMt, .int vMB, .ref aMn, .ref aMl, .ref aMs, .int vMD, .ref aMd, .int vME, .ref aMe, .int vMO, .ref aMo, .int vMF, .int vMS, .ref aMw, .ref aMu, .int vMX, .int vMW])), (aMh, .inl (cA, 24, .inl (upd vMh vMP.toNatClampNeg p0))), (aMi, .inl (cA, 72, .inl (upd vMi (3 * vMP).toNatClampNeg p1))), (aMc, .inl (cA, 24, .inl (vMc))), (aMs, .inl (cZ, 100, .inl (vMs)))] H := hP
          have hD : va_D A [(aM, .inr (7, [.int u_131.2, .int vMP, .ref aMh, .ref aMi, .ref aMc, .int vMK, .ref aMt, .int vMB, .ref aMn, .ref aMl, .ref aMs, .int vMD, .ref aMd, .int vME, .ref aMe, .int vMO, .ref aMo, .int vMF, .int vMS, .ref aMw, .ref aMu, .int vMX, .int vMW])), (aMh, .inl (cA, 24, .inl (upd vMh vMP.toNatClampNeg p0))), (aMi, .inl (cA, 72, .inl (upd vMi (3 * vMP).toNatClampNeg p1))), (aMc, .inl (cA, 24, .inl (vMc))), (aMs, .inl (cZ, 100, .inl (vMs)))] := hD
          refine lv_aload_n hx hb qd_M_production_161 rfl (lv_at hl 2 rfl) ?_
          refine va_get (D := (dC, dI)) (ci := 7) (v := .ref aMi) (C := qR_M) (T := qT_M) (N := 23) hx hb hg qi_M hown hK hP 0 rfl rfl 3 (by decide) (hg _ mw_577) (fun _ h9 => h9) rfl qd_M_production_162 ?_
          refine lv_iconst (v := 3) hx hb qd_M_production_165 (by decide) ?_
          refine lv_aload_n hx hb qd_M_production_166 rfl (lv_at hl 2 rfl) ?_
          refine va_get (D := (dC, dI)) (ci := 7) (v := .int vMP) (C := qR_M) (T := qT_M) (N := 23) hx hb hg qi_M hown hK hP 0 rfl rfl 1 (by decide) (hg _ mw_575) (fun _ h9 => h9) rfl qd_M_production_167 ?_
          refine lv_imul hx hb qd_M_production_170 ?_
          refine lv_iconst (v := 1) hx hb qd_M_production_171 (by decide) ?_
          refine lv_iadd hx hb qd_M_production_172 ?_
          refine lv_iload_n hx hb qd_M_production_173 rfl (lv_at hl 5 rfl) ?_
          obtain ⟨g_174, ho⟩ := ho
          refine va_iast hx hb hK hP hD hS 2 0 rfl rfl g_174 qd_M_production_174 (fun H locs hP hD hS => ?_)
          have hP : va_P (dC, dI) vwCl [(aM, .inr (7, [.int u_131.2, .int vMP, .ref aMh, .ref aMi, .ref aMc, .int vMK, .ref aMt, .int vMB, .ref aMn, .ref aMl, .ref aMs, .int vMD, .ref aMd, .int vME, .ref aMe, .int vMO, .ref aMo, .int vMF, .int vMS, .ref aMw, .ref aMu, .int vMX, .int vMW])), (aMh, .inl (cA, 24, .inl (upd vMh vMP.toNatClampNeg p0))), (aMi, .inl (cA, 72, .inl (upd (upd vMi (3 * vMP).toNatClampNeg p1) ((3 * vMP) + 1).toNatClampNeg p2))), (aMc, .inl (cA, 24, .inl (vMc))), (aMs, .inl (cZ, 100, .inl (vMs)))] H := hP
          have hD : va_D A [(aM, .inr (7, [.int u_131.2, .int vMP, .ref aMh, .ref aMi, .ref aMc, .int vMK, .ref aMt, .int vMB, .ref aMn, .ref aMl, .ref aMs, .int vMD, .ref aMd, .int vME, .ref aMe, .int vMO, .ref aMo, .int vMF, .int vMS, .ref aMw, .ref aMu, .int vMX, .int vMW])), (aMh, .inl (cA, 24, .inl (upd vMh vMP.toNatClampNeg p0))), (aMi, .inl (cA, 72, .inl (upd (upd vMi (3 * vMP).toNatClampNeg p1) ((3 * vMP) + 1).toNatClampNeg p2))), (aMc, .inl (cA, 24, .inl (vMc))), (aMs, .inl (cZ, 100, .inl (vMs)))] := hD
          refine lv_aload_n hx hb qd_M_production_175 rfl (lv_at hl 2 rfl) ?_
          refine va_get (D := (dC, dI)) (ci := 7) (v := .ref aMi) (C := qR_M) (T := qT_M) (N := 23) hx hb hg qi_M hown hK hP 0 rfl rfl 3 (by decide) (hg _ mw_577) (fun _ h9 => h9) rfl qd_M_production_176 ?_
          refine lv_iconst (v := 3) hx hb qd_M_production_179 (by decide) ?_
          refine lv_aload_n hx hb qd_M_production_180 rfl (lv_at hl 2 rfl) ?_
          refine va_get (D := (dC, dI)) (ci := 7) (v := .int vMP) (C := qR_M) (T := qT_M) (N := 23) hx hb hg qi_M hown hK hP 0 rfl rfl 1 (by decide) (hg _ mw_575) (fun _ h9 => h9) rfl qd_M_production_181 ?_
          refine lv_imul hx hb qd_M_production_184 ?_
          refine lv_iconst (v := 2) hx hb qd_M_production_185 (by decide) ?_
          refine lv_iadd hx hb qd_M_production_186 ?_
          refine lv_iload hx hb qd_M_production_187 (lv_at hl 6 rfl) ?_
          obtain ⟨g_189, ho⟩ := ho
          refine va_iast hx hb hK hP hD hS 2 0 rfl rfl g_189 qd_M_production_189 (fun H locs hP hD hS => ?_)
          have hP : va_P (dC, dI) vwCl [(aM, .inr (7, [.int u_131.2, .int vMP, .ref aMh, .ref aMi, .ref aMc, .int vMK, .ref aMt, .int vMB, .ref aMn, .ref aMl, .ref aMs, .int vMD, .ref aMd, .int vME, .ref aMe, .int vMO, .ref aMo, .int vMF, .int vMS, .ref aMw, .ref aMu, .int vMX, .int vMW])), (aMh, .inl (cA, 24, .inl (upd vMh vMP.toNatClampNeg p0))), (aMi, .inl (cA, 72, .inl (upd (upd (upd vMi (3 * vMP).toNatClampNeg p1) ((3 * vMP) + 1).toNatClampNeg p2) ((3 * vMP) + 2).toNatClampNeg p3))), (aMc, .inl (cA, 24, .inl (vMc))), (aMs, .inl (cZ, 100, .inl (vMs)))] H := hP
          have hD : va_D A [(aM, .inr (7, [.int u_131.2, .int vMP, .ref aMh, .ref aMi, .ref aMc, .int vMK, .ref aMt, .int vMB, .ref aMn, .ref aMl, .ref aMs, .int vMD, .ref aMd, .int vME, .ref aMe, .int vMO, .ref aMo, .int vMF, .int vMS, .ref aMw, .ref aMu, .int vMX, .int vMW])), (aMh, .inl (cA, 24, .inl (upd vMh vMP.toNatClampNeg p0))), (aMi, .inl (cA, 72, .inl (upd (upd (upd vMi (3 * vMP).toNatClampNeg p1) ((3 * vMP) + 1).toNatClampNeg p2) ((3 * vMP) + 2).toNatClampNeg p3))), (aMc, .inl (cA, 24, .inl (vMc))), (aMs, .inl (cZ, 100, .inl (vMs)))] := hD
          refine lv_aload_n hx hb qd_M_production_190 rfl (lv_at hl 2 rfl) ?_
          refine va_get (D := (dC, dI)) (ci := 7) (v := .ref aMc) (C := qR_M) (T := qT_M) (N := 23) hx hb hg qi_M hown hK hP 0 rfl rfl 4 (by decide) (hg _ mw_578) (fun _ h9 => h9) rfl qd_M_production_191 ?_
          refine lv_aload_n hx hb qd_M_production_194 rfl (lv_at hl 2 rfl) ?_
          refine va_get (D := (dC, dI)) (ci := 7) (v := .int vMP) (C := qR_M) (T := qT_M) (N := 23) hx hb hg qi_M hown hK hP 0 rfl rfl 1 (by decide) (hg _ mw_575) (fun _ h9 => h9) rfl qd_M_production_195 ?_
          refine lv_iload hx hb qd_M_production_198 (lv_at hl 7 rfl) ?_
          obtain ⟨g_200, ho⟩ := ho
          refine va_iast hx hb hK hP hD hS 3 0 rfl rfl g_200 qd_M_production_200 (fun H locs hP hD hS => ?_)
          have hP : va_P (dC, dI) vwCl [(aM, .inr (7, [.int u_131.2, .int vMP, .ref aMh, .ref aMi, .ref aMc, .int vMK, .ref aMt, .int vMB, .ref aMn, .ref aMl, .ref aMs, .int vMD, .ref aMd, .int vME, .ref aMe, .int vMO, .ref aMo, .int vMF, .int vMS, .ref aMw, .ref aMu, .int vMX, .int vMW])), (aMh, .inl (cA, 24, .inl (upd vMh vMP.toNatClampNeg p0))), (aMi, .inl (cA, 72, .inl (upd (upd (upd vMi (3 * vMP).toNatClampNeg p1) ((3 * vMP) + 1).toNatClampNeg p2) ((3 * vMP) + 2).toNatClampNeg p3))), (aMc, .inl (cA, 24, .inl (upd vMc vMP.toNatClampNeg p4))), (aMs, .inl (cZ, 100, .inl (vMs)))] H := hP
          have hD : va_D A [(aM, .inr (7, [.int u_131.2, .int vMP, .ref aMh, .ref aMi, .ref aMc, .int vMK, .ref aMt, .int vMB, .ref aMn, .ref aMl, .ref aMs, .int vMD, .ref aMd, .int vME, .ref aMe, .int vMO, .ref aMo, .int vMF, .int vMS, .ref aMw, .ref aMu, .int vMX, .int vMW])), (aMh, .inl (cA, 24, .inl (upd vMh vMP.toNatClampNeg p0))), (aMi, .inl (cA, 72, .inl (upd (upd (upd vMi (3 * vMP).toNatClampNeg p1) ((3 * vMP) + 1).toNatClampNeg p2) ((3 * vMP) + 2).toNatClampNeg p3))), (aMc, .inl (cA, 24, .inl (upd vMc vMP.toNatClampNeg p4))), (aMs, .inl (cZ, 100, .inl (vMs)))] := hD
          refine lv_aload_n hx hb qd_M_production_201 rfl (lv_at hl 2 rfl) ?_
          refine lv_dup hx hb qd_M_production_202 rfl ?_
          refine va_get (D := (dC, dI)) (ci := 7) (v := .int vMP) (C := qR_M) (T := qT_M) (N := 23) hx hb hg qi_M hown hK hP 0 rfl rfl 1 (by decide) (hg _ mw_575) (fun _ h9 => h9) rfl qd_M_production_203 ?_
          refine lv_iconst (v := 1) hx hb qd_M_production_206 (by decide) ?_
          refine lv_iadd hx hb qd_M_production_207 ?_
          refine va_put (D := (dC, dI)) (ci := 7) (v := .int (vMP + 1)) (ty := .int) (C := qR_M) (T := qT_M) (N := 23) hx hb hg qi_M qt_M qk_M qn_M hown hK hP hD hS 0 rfl rfl 1 (by decide) (hg _ mw_575) (fun _ h9 => h9) rfl (by decide +kernel) rfl rfl (Nat.le_of_ble_eq_true rfl) qd_M_production_208 (fun H locs hP hD hS => ?_)
          have hP : va_P (dC, dI) vwCl [(aM, .inr (7, [.int u_131.2, .int (vMP + 1), .ref aMh, .ref aMi, .ref aMc, .int vMK, .ref aMt, .int vMB, .ref aMn, .ref aMl, .ref aMs, .int vMD, .ref aMd, .int vME, .ref aMe, .int vMO, .ref aMo, .int vMF, .int vMS, .ref aMw, .ref aMu, .int vMX, .int vMW])), (aMh, .inl (cA, 24, .inl (upd vMh vMP.toNatClampNeg p0))), (aMi, .inl (cA, 72, .inl (upd (upd (upd vMi (3 * vMP).toNatClampNeg p1) ((3 * vMP) + 1).toNatClampNeg p2) ((3 * vMP) + 2).toNatClampNeg p3))), (aMc, .inl (cA, 24, .inl (upd vMc vMP.toNatClampNeg p4))), (aMs, .inl (cZ, 100, .inl (vMs)))] H := hP
          have hD : va_D A [(aM, .inr (7, [.int u_131.2, .int (vMP + 1), .ref aMh, .ref aMi, .ref aMc, .int vMK, .ref aMt, .int vMB, .ref aMn, .ref aMl, .ref aMs, .int vMD, .ref aMd, .int vME, .ref aMe, .int vMO, .ref aMo, .int vMF, .int vMS, .ref aMw, .ref aMu, .int vMX, .int vMW])), (aMh, .inl (cA, 24, .inl (upd vMh vMP.toNatClampNeg p0))), (aMi, .inl (cA, 72, .inl (upd (upd (upd vMi (3 * vMP).toNatClampNeg p1) ((3 * vMP) + 1).toNatClampNeg p2) ((3 * vMP) + 2).toNatClampNeg p3))), (aMc, .inl (cA, 24, .inl (upd vMc vMP.toNatClampNeg p4))), (aMs, .inl (cZ, 100, .inl (vMs)))] := hD
          refine lv_aload_n hx hb qd_M_production_211 rfl (lv_at hl 2 rfl) ?_
          refine lv_iconst (v := 0) hx hb qd_M_production_212 (by decide) ?_
          refine va_put (D := (dC, dI)) (ci := 7) (v := .int 0) (ty := .boolean) (C := qR_M) (T := qT_M) (N := 23) hx hb hg qi_M qt_M qk_M qn_M hown hK hP hD hS 0 rfl rfl 7 (by decide) (hg _ mw_581) (fun _ h9 => h9) rfl (by decide +kernel) rfl rfl (Nat.le_of_ble_eq_true rfl) qd_M_production_213 (fun H locs hP hD hS => ?_)
          have hP : va_P (dC, dI) vwCl [(aM, .inr (7, [.int u_131.2, .int (vMP + 1), .ref aMh, .ref aMi, .ref aMc, .int vMK, .ref aMt, .int 0, .ref aMn, .ref aMl, .ref aMs, .int vMD, .ref aMd, .int vME, .ref aMe, .int vMO, .ref aMo, .int vMF, .int vMS, .ref aMw, .ref aMu, .int vMX, .int vMW])), (aMh, .inl (cA, 24, .inl (upd vMh vMP.toNatClampNeg p0))), (aMi, .inl (cA, 72, .inl (upd (upd (upd vMi (3 * vMP).toNatClampNeg p1) ((3 * vMP) + 1).toNatClampNeg p2) ((3 * vMP) + 2).toNatClampNeg p3))), (aMc, .inl (cA, 24, .inl (upd vMc vMP.toNatClampNeg p4))), (aMs, .inl (cZ, 100, .inl (vMs)))] H := hP
          have hD : va_D A [(aM, .inr (7, [.int u_131.2, .int (vMP + 1), .ref aMh, .ref aMi, .ref aMc, .int vMK, .ref aMt, .int 0, .ref aMn, .ref aMl, .ref aMs, .int vMD, .ref aMd, .int vME, .ref aMe, .int vMO, .ref aMo, .int vMF, .int vMS, .ref aMw, .ref aMu, .int vMX, .int vMW])), (aMh, .inl (cA, 24, .inl (upd vMh vMP.toNatClampNeg p0))), (aMi, .inl (cA, 72, .inl (upd (upd (upd vMi (3 * vMP).toNatClampNeg p1) ((3 * vMP) + 1).toNatClampNeg p2) ((3 * vMP) + 2).toNatClampNeg p3))), (aMc, .inl (cA, 24, .inl (upd vMc vMP.toNatClampNeg p4))), (aMs, .inl (cZ, 100, .inl (vMs)))] := hD
          refine lv_aload_n hx hb qd_M_production_216 rfl (lv_at hl 2 rfl) ?_
          refine va_get (D := (dC, dI)) (ci := 7) (v := .int (vMP + 1)) (C := qR_M) (T := qT_M) (N := 23) hx hb hg qi_M hown hK hP 0 rfl rfl 1 (by decide) (hg _ mw_575) (fun _ h9 => h9) rfl qd_M_production_217 ?_
          refine lv_iconst (v := 1) hx hb qd_M_production_220 (by decide) ?_
          refine lv_isub hx hb qd_M_production_221 ?_
          exact W.iret (v := (vMP + 1) - 1) hx hb hr (fun t ht hW => ⟨⟨_, ((vMP + 1) - 1, u_131.2, vMP + 1, 0, upd vMh vMP.toNatClampNeg p0, upd (upd (upd vMi (3 * vMP).toNatClampNeg p1) ((3 * vMP) + 1).toNatClampNeg p2) ((3 * vMP) + 2).toNatClampNeg p3, upd vMc vMP.toNatClampNeg p4, vMs), rfl, ⟨hres.symm, rfl⟩, ⟨by rw [ht]; exact hP, va_K.moved hW.alike hK, x_N hN hW⟩, hD⟩, hS.F ht⟩) hS.2.2 qd_M_production_222
        have hres := hres.trans (if_neg c_134)
        have ho := (if_neg c_134).mp ho
        refine lv_iconst (v := 0) hx hb qd_M_production_137 (by decide) ?_
        exact W.iret (v := 0) hx hb hr (fun t ht hW => ⟨⟨_, (0, u_131.2, vMP, vMB, vMh, vMi, vMc, vMs), rfl, ⟨hres.symm, rfl⟩, ⟨by rw [ht]; exact hP, va_K.moved hW.alike hK, x_N hN hW⟩, hD⟩, hS.F ht⟩) hS.2.2 qd_M_production_138
      have hres := hres.trans (if_neg c_75)
      have ho := (if_neg c_75).mp ho
      refine lv_iload_n hx hb qd_M_production_78 rfl (lv_at hl 4 rfl) ?_
      refine lv_iconst (v := (-1)) hx hb qd_M_production_79 (by decide) ?_
      refine lv_icmp_ne (tgt := 96) hx hb qd_M_production_80 (by decide) (fun c_80 => ?_) (fun c_80 => ?_)
      · exact absurd c_19 c_80
      refine lv_aload_n hx hb qd_M_production_83 rfl (lv_at hl 1 rfl) ?_
      refine lv_iload_n hx hb qd_M_production_84 rfl (lv_at hl 3 rfl) ?_
      refine lv_iload_n hx hb qd_M_production_85 rfl (lv_at hl 2 rfl) ?_
      obtain ⟨g_86, ho⟩ := ho
      refine xm_Vi (As := [.int p1, .int p0]) (rest := []) (w1 := fun (u_86 : Int32 × (Nat → Int32)) => [(aM, .inr (7, [.int vMT, .int vMP, .ref aMh, .ref aMi, .ref aMc, .int vMK, .ref aMt, .int vMB, .ref aMn, .ref aMl, .ref aMs, .int vMD, .ref aMd, .int vME, .ref aMe, .int vMO, .ref aMo, .int vMF, .int vMS, .ref aMw, .ref aMu, .int vMX, .int vMW])), (aMh, .inl (cA, 24, .inl (vMh))), (aMi, .inl (cA, 72, .inl (vMi))), (aMs, .inl (cZ, 100, .inl (u_86.2)))]) (w2 := fun (u_86 : Int32 × (Nat → Int32)) => [(aM, .inr (7, [.int vMT, .int vMP, .ref aMh, .ref aMi, .ref aMc, .int vMK, .ref aMt, .int vMB, .ref aMn, .ref aMl, .ref aMs, .int vMD, .ref aMd, .int vME, .ref aMe, .int vMO, .ref aMo, .int vMF, .int vMS, .ref aMw, .ref aMu, .int vMX, .int vMW])), (aMh, .inl (cA, 24, .inl (vMh))), (aMi, .inl (cA, 72, .inl (vMi))), (aMc, .inl (cA, 24, .inl (vMc))), (aMs, .inl (cZ, 100, .inl (u_86.2)))]) ⟨hx, hb, hml, hown, hg⟩ (c_M_leads l dC dI cA cZ N_ aM aMh aMi aMc aMt aMn aMl aMs aMd aMe aMo aMw aMu _ vMT vMP vMK vMB vMD vME vMO vMF vMS vMX vMW vMh vMi vMs p1 p0 g_86) (cwV 2 hg (q_gV mw_639 mw_640 mw_770 mw_8 mw_641) rfl rfl rfl qh_M_leads ⟨Nat.le_of_ble_eq_true rfl, Nat.le_of_ble_eq_true rfl⟩) hN hK hP hD hS hA [0, 1, 2, 4] [3] rfl rfl (by decide) (by decide) (by decide) [1, 2, 3, 0, 4] (fun _ => rfl) (by decide) 0 7 rfl rfl rfl hl.1 rfl (Nat.le_of_ble_eq_true rfl) qd_M_production_86 ⟨Nat.zero_le _, Nat.zero_le _⟩ (fun u_86 H locs w_86 hP hD hS => ?_)
      have hP : va_P (dC, dI) vwCl [(aM, .inr (7, [.int vMT, .int vMP, .ref aMh, .ref aMi, .ref aMc, .int vMK, .ref aMt, .int vMB, .ref aMn, .ref aMl, .ref aMs, .int vMD, .ref aMd, .int vME, .ref aMe, .int vMO, .ref aMo, .int vMF, .int vMS, .ref aMw, .ref aMu, .int vMX, .int vMW])), (aMh, .inl (cA, 24, .inl (vMh))), (aMi, .inl (cA, 72, .inl (vMi))), (aMc, .inl (cA, 24, .inl (vMc))), (aMs, .inl (cZ, 100, .inl (u_86.2)))] H := hP
      have hD : va_D A [(aM, .inr (7, [.int vMT, .int vMP, .ref aMh, .ref aMi, .ref aMc, .int vMK, .ref aMt, .int vMB, .ref aMn, .ref aMl, .ref aMs, .int vMD, .ref aMd, .int vME, .ref aMe, .int vMO, .ref aMo, .int vMF, .int vMS, .ref aMw, .ref aMu, .int vMX, .int vMW])), (aMh, .inl (cA, 24, .inl (vMh))), (aMi, .inl (cA, 72, .inl (vMi))), (aMc, .inl (cA, 24, .inl (vMc))), (aMs, .inl (cZ, 100, .inl (u_86.2)))] := hD
      have hres := hres.trans (bd_eq w_86)
      have ho := (bd_eq w_86).mp ho
      refine lv_if_eq (tgt := 96) hx hb qd_M_production_89 (by decide) (fun c_89 => ?_) (fun c_89 => ?_)
      · have hres := hres.trans (if_pos c_89)
        have ho := (if_pos c_89).mp ho
        refine lv_iconst (v := 0) hx hb qd_M_production_96 (by decide) ?_
        refine lv_istore (lv' := [(7, .int 0), (6, .int 1), (0, .ref aM), (1, .int p0), (2, .int p1), (3, .int p2), (4, .int p3), (5, .int p4)]) hx hb qd_M_production_97 hl (by decide) rfl (fun ls hl => ?_)
        refine lv_aload_n hx hb qd_M_production_99 rfl (lv_at hl 2 rfl) ?_
        refine lv_iload hx hb qd_M_production_100 (lv_at hl 1 rfl) ?_
        refine lv_if_ne (tgt := 109) hx hb qd_M_production_102 (by decide) (fun c_102 => ?_) (fun c_102 => ?_)
        rotate_left
        · exact absurd c_102 (by decide)
        refine lv_iconst (v := 0) hx hb qd_M_production_109 (by decide) ?_
        refine lv_iload hx hb qd_M_production_110 (lv_at hl 1 rfl) ?_
        refine lv_if_eq (tgt := 128) hx hb qd_M_production_112 (by decide) (fun c_112 => ?_) (fun c_112 => ?_)
        · exact absurd c_112 (by decide)
        refine lv_aload_n hx hb qd_M_production_115 rfl (lv_at hl 2 rfl) ?_
        refine va_get (D := (dC, dI)) (ci := 7) (v := .int vMP) (C := qR_M) (T := qT_M) (N := 23) hx hb hg qi_M hown hK hP 0 rfl rfl 1 (by decide) (hg _ mw_575) (fun _ h9 => h9) rfl qd_M_production_116 ?_
        refine lv_bipush (v := 24) hx hb qd_M_production_119 (by decide) ?_
        refine lv_icmp_ne (tgt := 128) hx hb qd_M_production_121 (by decide) (fun c_121 => ?_) (fun c_121 => ?_)
        · have hres := hres.trans (if_neg c_121)
          have ho := (if_neg c_121).mp ho
          refine lv_iconst (v := 0) hx hb qd_M_production_128 (by decide) ?_
          refine lv_iload hx hb qd_M_production_129 (lv_at hl 0 rfl) ?_
          refine xm_Vi (As := [.int 0, .int 0, .int 0]) (rest := []) (w1 := fun (u_131 : Int32 × Int32) => [(aM, .inr (7, [.int u_131.2, .int vMP, .ref aMh, .ref aMi, .ref aMc, .int vMK, .ref aMt, .int vMB, .ref aMn, .ref aMl, .ref aMs, .int vMD, .ref aMd, .int vME, .ref aMe, .int vMO, .ref aMo, .int vMF, .int vMS, .ref aMw, .ref aMu, .int vMX, .int vMW]))]) (w2 := fun (u_131 : Int32 × Int32) => [(aM, .inr (7, [.int u_131.2, .int vMP, .ref aMh, .ref aMi, .ref aMc, .int vMK, .ref aMt, .int vMB, .ref aMn, .ref aMl, .ref aMs, .int vMD, .ref aMd, .int vME, .ref aMe, .int vMO, .ref aMo, .int vMF, .int vMS, .ref aMw, .ref aMu, .int vMX, .int vMW])), (aMh, .inl (cA, 24, .inl (vMh))), (aMi, .inl (cA, 72, .inl (vMi))), (aMc, .inl (cA, 24, .inl (vMc))), (aMs, .inl (cZ, 100, .inl (u_86.2)))]) ⟨hx, hb, hml, hown, hg⟩ (c_M_refuse l dC dI cA cZ aM aMh aMi aMc aMt aMn aMl aMs aMd aMe aMo aMw aMu _ vMT vMP vMK vMB vMD vME vMO vMF vMS vMX vMW 0 0 0) (cwV 3 hg (q_gV mw_642 mw_643 mw_771 mw_8 mw_644) rfl rfl rfl qh_M_refuse ⟨Nat.le_of_ble_eq_true rfl, Nat.le_of_ble_eq_true rfl⟩) hN hK hP hD hS hA [0] [1, 2, 3, 4] rfl rfl (by decide) (by decide) (by decide) [4, 0, 1, 2, 3] (fun _ => rfl) (by decide) 0 7 rfl rfl rfl hl.1 rfl (Nat.le_of_ble_eq_true rfl) qd_M_production_131 ⟨Nat.zero_le _, Nat.zero_le _⟩ (fun u_131 H locs w_131 hP hD hS => ?_)
          have hP : va_P (dC, dI) vwCl [(aM, .inr (7, [.int u_131.2, .int vMP, .ref aMh, .ref aMi, .ref aMc, .int vMK, .ref aMt, .int vMB, .ref aMn, .ref aMl, .ref aMs, .int vMD, .ref aMd, .int vME, .ref aMe, .int vMO, .ref aMo, .int vMF, .int vMS, .ref aMw, .ref aMu, .int vMX, .int vMW])), (aMh, .inl (cA, 24, .inl (vMh))), (aMi, .inl (cA, 72, .inl (vMi))), (aMc, .inl (cA, 24, .inl (vMc))), (aMs, .inl (cZ, 100, .inl (u_86.2)))] H := hP
          have hD : va_D A [(aM, .inr (7, [.int u_131.2, .int vMP, .ref aMh, .ref aMi, .ref aMc, .int vMK, .ref aMt, .int vMB, .ref aMn, .ref aMl, .ref aMs, .int vMD, .ref aMd, .int vME, .ref aMe, .int vMO, .ref aMo, .int vMF, .int vMS, .ref aMw, .ref aMu, .int vMX, .int vMW])), (aMh, .inl (cA, 24, .inl (vMh))), (aMi, .inl (cA, 72, .inl (vMi))), (aMc, .inl (cA, 24, .inl (vMc))), (aMs, .inl (cZ, 100, .inl (u_86.2)))] := hD
          have hres := hres.trans (bd_eq w_131)
          have ho := (bd_eq w_131).mp ho
          refine lv_if_eq (tgt := 139) hx hb qd_M_production_134 (by decide) (fun c_134 => ?_) (fun c_134 => ?_)
          · have hres := hres.trans (if_pos c_134)
            have ho := (if_pos c_134).mp ho
            refine lv_aload_n hx hb qd_M_production_139 rfl (lv_at hl 2 rfl) ?_
            refine va_get (D := (dC, dI)) (ci := 7) (v := .ref aMh) (C := qR_M) (T := qT_M) (N := 23) hx hb hg qi_M hown hK hP 0 rfl rfl 2 (by decide) (hg _ mw_576) (fun _ h9 => h9) rfl qd_M_production_140 ?_
            refine lv_aload_n hx hb qd_M_production_143 rfl (lv_at hl 2 rfl) ?_
            refine va_get (D := (dC, dI)) (ci := 7) (v := .int vMP) (C := qR_M) (T := qT_M) (N := 23) hx hb hg qi_M hown hK hP 0 rfl rfl 1 (by decide) (hg _ mw_575) (fun _ h9 => h9) rfl qd_M_production_144 ?_
            refine lv_iload_n hx hb qd_M_production_147 rfl (lv_at hl 3 rfl) ?_
            obtain ⟨g_148, ho⟩ := ho
            refine va_iast hx hb hK hP hD hS 1 0 rfl rfl g_148 qd_M_production_148 (fun H locs hP hD hS => ?_)
            have hP : va_P (dC, dI) vwCl [(aM, .inr (7, [.int u_131.2, .int vMP, .ref aMh, .ref aMi, .ref aMc, .int vMK, .ref aMt, .int vMB, .ref aMn, .ref aMl, .ref aMs, .int vMD, .ref aMd, .int vME, .ref aMe, .int vMO, .ref aMo, .int vMF, .int vMS, .ref aMw, .ref aMu, .int vMX, .int vMW])), (aMh, .inl (cA, 24, .inl (upd vMh vMP.toNatClampNeg p0))), (aMi, .inl (cA, 72, .inl (vMi))), (aMc, .inl (cA, 24, .inl (vMc))), (aMs, .inl (cZ, 100, .inl (u_86.2)))] H := hP
            have hD : va_D A [(aM, .inr (7, [.int u_131.2, .int vMP, .ref aMh, .ref aMi, .ref aMc, .int vMK, .ref aMt, .int vMB, .ref aMn, .ref aMl, .ref aMs, .int vMD, .ref aMd, .int vME, .ref aMe, .int vMO, .ref aMo, .int vMF, .int vMS, .ref aMw, .ref aMu, .int vMX, .int vMW])), (aMh, .inl (cA, 24, .inl (upd vMh vMP.toNatClampNeg p0))), (aMi, .inl (cA, 72, .inl (vMi))), (aMc, .inl (cA, 24, .inl (vMc))), (aMs, .inl (cZ, 100, .inl (u_86.2)))] := hD
            refine lv_aload_n hx hb qd_M_production_149 rfl (lv_at hl 2 rfl) ?_
            refine va_get (D := (dC, dI)) (ci := 7) (v := .ref aMi) (C := qR_M) (T := qT_M) (N := 23) hx hb hg qi_M hown hK hP 0 rfl rfl 3 (by decide) (hg _ mw_577) (fun _ h9 => h9) rfl qd_M_production_150 ?_
            refine lv_iconst (v := 3) hx hb qd_M_production_153 (by decide) ?_
            refine lv_aload_n hx hb qd_M_production_154 rfl (lv_at hl 2 rfl) ?_
            refine va_get (D := (dC, dI)) (ci := 7) (v := .int vMP) (C := qR_M) (T := qT_M) (N := 23) hx hb hg qi_M hown hK hP 0 rfl rfl 1 (by decide) (hg _ mw_575) (fun _ h9 => h9) rfl qd_M_production_155 ?_
            refine lv_imul hx hb qd_M_production_158 ?_
            refine lv_iload_n hx hb qd_M_production_159 rfl (lv_at hl 4 rfl) ?_
            obtain ⟨g_160, ho⟩ := ho
            refine va_iast hx hb hK hP hD hS 2 0 rfl rfl g_160 qd_M_production_160 (fun H locs hP hD hS => ?_)
            have hP : va_P (dC, dI) vwCl [(aM, .inr (7, [.int u_131.2, .int vMP, .ref aMh, .ref aMi, .ref aMc, .int vMK, .ref aMt, .int vMB, .ref aMn, .ref aMl, .ref aMs, .int vMD, .ref aMd, .int vME, .ref aMe, .int vMO, .ref aMo, .int vMF, .int vMS, .ref aMw, .ref aMu, .int vMX, .int vMW])), (aMh, .inl (cA, 24, .inl (upd vMh vMP.toNatClampNeg p0))), (aMi, .inl (cA, 72, .inl (upd vMi (3 * vMP).toNatClampNeg p1))), (aMc, .inl (cA, 24, .inl (vMc))), (aMs, .inl (cZ, 100, .inl (u_86.2)))] H := hP
            have hD : va_D A [(aM, .inr (7, [.int u_131.2, .int vMP, .ref aMh, .ref aMi, .ref aMc, .int vMK, .ref aMt, .int vMB, .ref aMn, .ref aMl, .ref aMs, .int vMD, .ref aMd, .int vME, .ref aMe, .int vMO, .ref aMo, .int vMF, .int vMS, .ref aMw, .ref aMu, .int vMX, .int vMW])), (aMh, .inl (cA, 24, .inl (upd vMh vMP.toNatClampNeg p0))), (aMi, .inl (cA, 72, .inl (upd vMi (3 * vMP).toNatClampNeg p1))), (aMc, .inl (cA, 24, .inl (vMc))), (aMs, .inl (cZ, 100, .inl (u_86.2)))] := hD
            refine lv_aload_n hx hb qd_M_production_161 rfl (lv_at hl 2 rfl) ?_
            refine va_get (D := (dC, dI)) (ci := 7) (v := .ref aMi) (C := qR_M) (T := qT_M) (N := 23) hx hb hg qi_M hown hK hP 0 rfl rfl 3 (by decide) (hg _ mw_577) (fun _ h9 => h9) rfl qd_M_production_162 ?_
            refine lv_iconst (v := 3) hx hb qd_M_production_165 (by decide) ?_
            refine lv_aload_n hx hb qd_M_production_166 rfl (lv_at hl 2 rfl) ?_
            refine va_get (D := (dC, dI)) (ci := 7) (v := .int vMP) (C := qR_M) (T := qT_M) (N := 23) hx hb hg qi_M hown hK hP 0 rfl rfl 1 (by decide) (hg _ mw_575) (fun _ h9 => h9) rfl qd_M_production_167 ?_
            refine lv_imul hx hb qd_M_production_170 ?_
            refine lv_iconst (v := 1) hx hb qd_M_production_171 (by decide) ?_
            refine lv_iadd hx hb qd_M_production_172 ?_
            refine lv_iload_n hx hb qd_M_production_173 rfl (lv_at hl 5 rfl) ?_
            obtain ⟨g_174, ho⟩ := ho
            refine va_iast hx hb hK hP hD hS 2 0 rfl rfl g_174 qd_M_production_174 (fun H locs hP hD hS => ?_)
            have hP : va_P (dC, dI) vwCl [(aM, .inr (7, [.int u_131.2, .int vMP, .ref aMh, .ref aMi, .ref aMc, .int vMK, .ref aMt, .int vMB, .ref aMn, .ref aMl, .ref aMs, .int vMD, .ref aMd, .int vME, .ref aMe, .int vMO, .ref aMo, .int vMF, .int vMS, .ref aMw, .ref aMu, .int vMX, .int vMW])), (aMh, .inl (cA, 24, .inl (upd vMh vMP.toNatClampNeg p0))), (aMi, .inl (cA, 72, .inl (upd (upd vMi (3 * vMP).toNatClampNeg p1) ((3 * vMP) + 1).toNatClampNeg p2))), (aMc, .inl (cA, 24, .inl (vMc))), (aMs, .inl (cZ, 100, .inl (u_86.2)))] H := hP
            have hD : va_D A [(aM, .inr (7, [.int u_131.2, .int vMP, .ref aMh, .ref aMi, .ref aMc, .int vMK, .ref aMt, .int vMB, .ref aMn, .ref aMl, .ref aMs, .int vMD, .ref aMd, .int vME, .ref aMe, .int vMO, .ref aMo, .int vMF, .int vMS, .ref aMw, .ref aMu, .int vMX, .int vMW])), (aMh, .inl (cA, 24, .inl (upd vMh vMP.toNatClampNeg p0))), (aMi, .inl (cA, 72, .inl (upd (upd vMi (3 * vMP).toNatClampNeg p1) ((3 * vMP) + 1).toNatClampNeg p2))), (aMc, .inl (cA, 24, .inl (vMc))), (aMs, .inl (cZ, 100, .inl (u_86.2)))] := hD
            refine lv_aload_n hx hb qd_M_production_175 rfl (lv_at hl 2 rfl) ?_
            refine va_get (D := (dC, dI)) (ci := 7) (v := .ref aMi) (C := qR_M) (T := qT_M) (N := 23) hx hb hg qi_M hown hK hP 0 rfl rfl 3 (by decide) (hg _ mw_577) (fun _ h9 => h9) rfl qd_M_production_176 ?_
            refine lv_iconst (v := 3) hx hb qd_M_production_179 (by decide) ?_
            refine lv_aload_n hx hb qd_M_production_180 rfl (lv_at hl 2 rfl) ?_
            refine va_get (D := (dC, dI)) (ci := 7) (v := .int vMP) (C := qR_M) (T := qT_M) (N := 23) hx hb hg qi_M hown hK hP 0 rfl rfl 1 (by decide) (hg _ mw_575) (fun _ h9 => h9) rfl qd_M_production_181 ?_
            refine lv_imul hx hb qd_M_production_184 ?_
            refine lv_iconst (v := 2) hx hb qd_M_production_185 (by decide) ?_
            refine lv_iadd hx hb qd_M_production_186 ?_
            refine lv_iload hx hb qd_M_production_187 (lv_at hl 6 rfl) ?_
            obtain ⟨g_189, ho⟩ := ho
            refine va_iast hx hb hK hP hD hS 2 0 rfl rfl g_189 qd_M_production_189 (fun H locs hP hD hS => ?_)
            have hP : va_P (dC, dI) vwCl [(aM, .inr (7, [.int u_131.2, .int vMP, .ref aMh, .ref aMi, .ref aMc, .int vMK, .ref aMt, .int vMB, .ref aMn, .ref aMl, .ref aMs, .int vMD, .ref aMd, .int vME, .ref aMe, .int vMO, .ref aMo, .int vMF, .int vMS, .ref aMw, .ref aMu, .int vMX, .int vMW])), (aMh, .inl (cA, 24, .inl (upd vMh vMP.toNatClampNeg p0))), (aMi, .inl (cA, 72, .inl (upd (upd (upd vMi (3 * vMP).toNatClampNeg p1) ((3 * vMP) + 1).toNatClampNeg p2) ((3 * vMP) + 2).toNatClampNeg p3))), (aMc, .inl (cA, 24, .inl (vMc))), (aMs, .inl (cZ, 100, .inl (u_86.2)))] H := hP
            have hD : va_D A [(aM, .inr (7, [.int u_131.2, .int vMP, .ref aMh, .ref aMi, .ref aMc, .int vMK, .ref aMt, .int vMB, .ref aMn, .ref aMl, .ref aMs, .int vMD, .ref aMd, .int vME, .ref aMe, .int vMO, .ref aMo, .int vMF, .int vMS, .ref aMw, .ref aMu, .int vMX, .int vMW])), (aMh, .inl (cA, 24, .inl (upd vMh vMP.toNatClampNeg p0))), (aMi, .inl (cA, 72, .inl (upd (upd (upd vMi (3 * vMP).toNatClampNeg p1) ((3 * vMP) + 1).toNatClampNeg p2) ((3 * vMP) + 2).toNatClampNeg p3))), (aMc, .inl (cA, 24, .inl (vMc))), (aMs, .inl (cZ, 100, .inl (u_86.2)))] := hD
            refine lv_aload_n hx hb qd_M_production_190 rfl (lv_at hl 2 rfl) ?_
            refine va_get (D := (dC, dI)) (ci := 7) (v := .ref aMc) (C := qR_M) (T := qT_M) (N := 23) hx hb hg qi_M hown hK hP 0 rfl rfl 4 (by decide) (hg _ mw_578) (fun _ h9 => h9) rfl qd_M_production_191 ?_
            refine lv_aload_n hx hb qd_M_production_194 rfl (lv_at hl 2 rfl) ?_
            refine va_get (D := (dC, dI)) (ci := 7) (v := .int vMP) (C := qR_M) (T := qT_M) (N := 23) hx hb hg qi_M hown hK hP 0 rfl rfl 1 (by decide) (hg _ mw_575) (fun _ h9 => h9) rfl qd_M_production_195 ?_
            refine lv_iload hx hb qd_M_production_198 (lv_at hl 7 rfl) ?_
            obtain ⟨g_200, ho⟩ := ho
            refine va_iast hx hb hK hP hD hS 3 0 rfl rfl g_200 qd_M_production_200 (fun H locs hP hD hS => ?_)
            have hP : va_P (dC, dI) vwCl [(aM, .inr (7, [.int u_131.2, .int vMP, .ref aMh, .ref aMi, .ref aMc, .int vMK, .ref aMt, .int vMB, .ref aMn, .ref aMl, .ref aMs, .int vMD, .ref aMd, .int vME, .ref aMe, .int vMO, .ref aMo, .int vMF, .int vMS, .ref aMw, .ref aMu, .int vMX, .int vMW])), (aMh, .inl (cA, 24, .inl (upd vMh vMP.toNatClampNeg p0))), (aMi, .inl (cA, 72, .inl (upd (upd (upd vMi (3 * vMP).toNatClampNeg p1) ((3 * vMP) + 1).toNatClampNeg p2) ((3 * vMP) + 2).toNatClampNeg p3))), (aMc, .inl (cA, 24, .inl (upd vMc vMP.toNatClampNeg p4))), (aMs, .inl (cZ, 100, .inl (u_86.2)))] H := hP
            have hD : va_D A [(aM, .inr (7, [.int u_131.2, .int vMP, .ref aMh, .ref aMi, .ref aMc, .int vMK, .ref aMt, .int vMB, .ref aMn, .ref aMl, .ref aMs, .int vMD, .ref aMd, .int vME, .ref aMe, .int vMO, .ref aMo, .int vMF, .int vMS, .ref aMw, .ref aMu, .int vMX, .int vMW])), (aMh, .inl (cA, 24, .inl (upd vMh vMP.toNatClampNeg p0))), (aMi, .inl (cA, 72, .inl (upd (upd (upd vMi (3 * vMP).toNatClampNeg p1) ((3 * vMP) + 1).toNatClampNeg p2) ((3 * vMP) + 2).toNatClampNeg p3))), (aMc, .inl (cA, 24, .inl (upd vMc vMP.toNatClampNeg p4))), (aMs, .inl (cZ, 100, .inl (u_86.2)))] := hD
            refine lv_aload_n hx hb qd_M_production_201 rfl (lv_at hl 2 rfl) ?_
            refine lv_dup hx hb qd_M_production_202 rfl ?_
            refine va_get (D := (dC, dI)) (ci := 7) (v := .int vMP) (C := qR_M) (T := qT_M) (N := 23) hx hb hg qi_M hown hK hP 0 rfl rfl 1 (by decide) (hg _ mw_575) (fun _ h9 => h9) rfl qd_M_production_203 ?_
            refine lv_iconst (v := 1) hx hb qd_M_production_206 (by decide) ?_
            refine lv_iadd hx hb qd_M_production_207 ?_
            refine va_put (D := (dC, dI)) (ci := 7) (v := .int (vMP + 1)) (ty := .int) (C := qR_M) (T := qT_M) (N := 23) hx hb hg qi_M qt_M qk_M qn_M hown hK hP hD hS 0 rfl rfl 1 (by decide) (hg _ mw_575) (fun _ h9 => h9) rfl (by decide +kernel) rfl rfl (Nat.le_of_ble_eq_true rfl) qd_M_production_208 (fun H locs hP hD hS => ?_)
            have hP : va_P (dC, dI) vwCl [(aM, .inr (7, [.int u_131.2, .int (vMP + 1), .ref aMh, .ref aMi, .ref aMc, .int vMK, .ref aMt, .int vMB, .ref aMn, .ref aMl, .ref aMs, .int vMD, .ref aMd, .int vME, .ref aMe, .int vMO, .ref aMo, .int vMF, .int vMS, .ref aMw, .ref aMu, .int vMX, .int vMW])), (aMh, .inl (cA, 24, .inl (upd vMh vMP.toNatClampNeg p0))), (aMi, .inl (cA, 72, .inl (upd (upd (upd vMi (3 * vMP).toNatClampNeg p1) ((3 * vMP) + 1).toNatClampNeg p2) ((3 * vMP) + 2).toNatClampNeg p3))), (aMc, .inl (cA, 24, .inl (upd vMc vMP.toNatClampNeg p4))), (aMs, .inl (cZ, 100, .inl (u_86.2)))] H := hP
            have hD : va_D A [(aM, .inr (7, [.int u_131.2, .int (vMP + 1), .ref aMh, .ref aMi, .ref aMc, .int vMK, .ref aMt, .int vMB, .ref aMn, .ref aMl, .ref aMs, .int vMD, .ref aMd, .int vME, .ref aMe, .int vMO, .ref aMo, .int vMF, .int vMS, .ref aMw, .ref aMu, .int vMX, .int vMW])), (aMh, .inl (cA, 24, .inl (upd vMh vMP.toNatClampNeg p0))), (aMi, .inl (cA, 72, .inl (upd (upd (upd vMi (3 * vMP).toNatClampNeg p1) ((3 * vMP) + 1).toNatClampNeg p2) ((3 * vMP) + 2).toNatClampNeg p3))), (aMc, .inl (cA, 24, .inl (upd vMc vMP.toNatClampNeg p4))), (aMs, .inl (cZ, 100, .inl (u_86.2)))] := hD
            refine lv_aload_n hx hb qd_M_production_211 rfl (lv_at hl 2 rfl) ?_
            refine lv_iconst (v := 0) hx hb qd_M_production_212 (by decide) ?_
            refine va_put (D := (dC, dI)) (ci := 7) (v := .int 0) (ty := .boolean) (C := qR_M) (T := qT_M) (N := 23) hx hb hg qi_M qt_M qk_M qn_M hown hK hP hD hS 0 rfl rfl 7 (by decide) (hg _ mw_581) (fun _ h9 => h9) rfl (by decide +kernel) rfl rfl (Nat.le_of_ble_eq_true rfl) qd_M_production_213 (fun H locs hP hD hS => ?_)
            have hP : va_P (dC, dI) vwCl [(aM, .inr (7, [.int u_131.2, .int (vMP + 1), .ref aMh, .ref aMi, .ref aMc, .int vMK, .ref aMt, .int 0, .ref aMn, .ref aMl, .ref aMs, .int vMD, .ref aMd, .int vME, .ref aMe, .int vMO, .ref aMo, .int vMF, .int vMS, .ref aMw, .ref aMu, .int vMX, .int vMW])), (aMh, .inl (cA, 24, .inl (upd vMh vMP.toNatClampNeg p0))), (aMi, .inl (cA, 72, .inl (upd (upd (upd vMi (3 * vMP).toNatClampNeg p1) ((3 * vMP) + 1).toNatClampNeg p2) ((3 * vMP) + 2).toNatClampNeg p3))), (aMc, .inl (cA, 24, .inl (upd vMc vMP.toNatClampNeg p4))), (aMs, .inl (cZ, 100, .inl (u_86.2)))] H := hP
            have hD : va_D A [(aM, .inr (7, [.int u_131.2, .int (vMP + 1), .ref aMh, .ref aMi, .ref aMc, .int vMK, .ref aMt, .int 0, .ref aMn, .ref aMl, .ref aMs, .int vMD, .ref aMd, .int vME, .ref aMe, .int vMO, .ref aMo, .int vMF, .int vMS, .ref aMw, .ref aMu, .int vMX, .int vMW])), (aMh, .inl (cA, 24, .inl (upd vMh vMP.toNatClampNeg p0))), (aMi, .inl (cA, 72, .inl (upd (upd (upd vMi (3 * vMP).toNatClampNeg p1) ((3 * vMP) + 1).toNatClampNeg p2) ((3 * vMP) + 2).toNatClampNeg p3))), (aMc, .inl (cA, 24, .inl (upd vMc vMP.toNatClampNeg p4))), (aMs, .inl (cZ, 100, .inl (u_86.2)))] := hD
            refine lv_aload_n hx hb qd_M_production_216 rfl (lv_at hl 2 rfl) ?_
            refine va_get (D := (dC, dI)) (ci := 7) (v := .int (vMP + 1)) (C := qR_M) (T := qT_M) (N := 23) hx hb hg qi_M hown hK hP 0 rfl rfl 1 (by decide) (hg _ mw_575) (fun _ h9 => h9) rfl qd_M_production_217 ?_
            refine lv_iconst (v := 1) hx hb qd_M_production_220 (by decide) ?_
            refine lv_isub hx hb qd_M_production_221 ?_
            exact W.iret (v := (vMP + 1) - 1) hx hb hr (fun t ht hW => ⟨⟨_, ((vMP + 1) - 1, u_131.2, vMP + 1, 0, upd vMh vMP.toNatClampNeg p0, upd (upd (upd vMi (3 * vMP).toNatClampNeg p1) ((3 * vMP) + 1).toNatClampNeg p2) ((3 * vMP) + 2).toNatClampNeg p3, upd vMc vMP.toNatClampNeg p4, u_86.2), rfl, ⟨hres.symm, rfl⟩, ⟨by rw [ht]; exact hP, va_K.moved hW.alike hK, x_N hN hW⟩, hD⟩, hS.F ht⟩) hS.2.2 qd_M_production_222
          have hres := hres.trans (if_neg c_134)
          have ho := (if_neg c_134).mp ho
          refine lv_iconst (v := 0) hx hb qd_M_production_137 (by decide) ?_
          exact W.iret (v := 0) hx hb hr (fun t ht hW => ⟨⟨_, (0, u_131.2, vMP, vMB, vMh, vMi, vMc, u_86.2), rfl, ⟨hres.symm, rfl⟩, ⟨by rw [ht]; exact hP, va_K.moved hW.alike hK, x_N hN hW⟩, hD⟩, hS.F ht⟩) hS.2.2 qd_M_production_138
        have hres := hres.trans (if_pos c_121)
        have ho := (if_pos c_121).mp ho
        refine lv_iconst (v := 1) hx hb qd_M_production_124 (by decide) ?_
        refine lv_goto (tgt := 129) hx hb qd_M_production_125 (by decide) ?_
        refine lv_iload hx hb qd_M_production_129 (lv_at hl 0 rfl) ?_
        refine xm_Vi (As := [.int 0, .int 1, .int 0]) (rest := []) (w1 := fun (u_131 : Int32 × Int32) => [(aM, .inr (7, [.int u_131.2, .int vMP, .ref aMh, .ref aMi, .ref aMc, .int vMK, .ref aMt, .int vMB, .ref aMn, .ref aMl, .ref aMs, .int vMD, .ref aMd, .int vME, .ref aMe, .int vMO, .ref aMo, .int vMF, .int vMS, .ref aMw, .ref aMu, .int vMX, .int vMW]))]) (w2 := fun (u_131 : Int32 × Int32) => [(aM, .inr (7, [.int u_131.2, .int vMP, .ref aMh, .ref aMi, .ref aMc, .int vMK, .ref aMt, .int vMB, .ref aMn, .ref aMl, .ref aMs, .int vMD, .ref aMd, .int vME, .ref aMe, .int vMO, .ref aMo, .int vMF, .int vMS, .ref aMw, .ref aMu, .int vMX, .int vMW])), (aMh, .inl (cA, 24, .inl (vMh))), (aMi, .inl (cA, 72, .inl (vMi))), (aMc, .inl (cA, 24, .inl (vMc))), (aMs, .inl (cZ, 100, .inl (u_86.2)))]) ⟨hx, hb, hml, hown, hg⟩ (c_M_refuse l dC dI cA cZ aM aMh aMi aMc aMt aMn aMl aMs aMd aMe aMo aMw aMu _ vMT vMP vMK vMB vMD vME vMO vMF vMS vMX vMW 0 1 0) (cwV 3 hg (q_gV mw_642 mw_643 mw_771 mw_8 mw_644) rfl rfl rfl qh_M_refuse ⟨Nat.le_of_ble_eq_true rfl, Nat.le_of_ble_eq_true rfl⟩) hN hK hP hD hS hA [0] [1, 2, 3, 4] rfl rfl (by decide) (by decide) (by decide) [4, 0, 1, 2, 3] (fun _ => rfl) (by decide) 0 7 rfl rfl rfl hl.1 rfl (Nat.le_of_ble_eq_true rfl) qd_M_production_131 ⟨Nat.zero_le _, Nat.zero_le _⟩ (fun u_131 H locs w_131 hP hD hS => ?_)
        have hP : va_P (dC, dI) vwCl [(aM, .inr (7, [.int u_131.2, .int vMP, .ref aMh, .ref aMi, .ref aMc, .int vMK, .ref aMt, .int vMB, .ref aMn, .ref aMl, .ref aMs, .int vMD, .ref aMd, .int vME, .ref aMe, .int vMO, .ref aMo, .int vMF, .int vMS, .ref aMw, .ref aMu, .int vMX, .int vMW])), (aMh, .inl (cA, 24, .inl (vMh))), (aMi, .inl (cA, 72, .inl (vMi))), (aMc, .inl (cA, 24, .inl (vMc))), (aMs, .inl (cZ, 100, .inl (u_86.2)))] H := hP
        have hD : va_D A [(aM, .inr (7, [.int u_131.2, .int vMP, .ref aMh, .ref aMi, .ref aMc, .int vMK, .ref aMt, .int vMB, .ref aMn, .ref aMl, .ref aMs, .int vMD, .ref aMd, .int vME, .ref aMe, .int vMO, .ref aMo, .int vMF, .int vMS, .ref aMw, .ref aMu, .int vMX, .int vMW])), (aMh, .inl (cA, 24, .inl (vMh))), (aMi, .inl (cA, 72, .inl (vMi))), (aMc, .inl (cA, 24, .inl (vMc))), (aMs, .inl (cZ, 100, .inl (u_86.2)))] := hD
        have hres := hres.trans (bd_eq w_131)
        have ho := (bd_eq w_131).mp ho
        refine lv_if_eq (tgt := 139) hx hb qd_M_production_134 (by decide) (fun c_134 => ?_) (fun c_134 => ?_)
        · have hres := hres.trans (if_pos c_134)
          have ho := (if_pos c_134).mp ho
          refine lv_aload_n hx hb qd_M_production_139 rfl (lv_at hl 2 rfl) ?_
          refine va_get (D := (dC, dI)) (ci := 7) (v := .ref aMh) (C := qR_M) (T := qT_M) (N := 23) hx hb hg qi_M hown hK hP 0 rfl rfl 2 (by decide) (hg _ mw_576) (fun _ h9 => h9) rfl qd_M_production_140 ?_
          refine lv_aload_n hx hb qd_M_production_143 rfl (lv_at hl 2 rfl) ?_
          refine va_get (D := (dC, dI)) (ci := 7) (v := .int vMP) (C := qR_M) (T := qT_M) (N := 23) hx hb hg qi_M hown hK hP 0 rfl rfl 1 (by decide) (hg _ mw_575) (fun _ h9 => h9) rfl qd_M_production_144 ?_
          refine lv_iload_n hx hb qd_M_production_147 rfl (lv_at hl 3 rfl) ?_
          obtain ⟨g_148, ho⟩ := ho
          refine va_iast hx hb hK hP hD hS 1 0 rfl rfl g_148 qd_M_production_148 (fun H locs hP hD hS => ?_)
          have hP : va_P (dC, dI) vwCl [(aM, .inr (7, [.int u_131.2, .int vMP, .ref aMh, .ref aMi, .ref aMc, .int vMK, .ref aMt, .int vMB, .ref aMn, .ref aMl, .ref aMs, .int vMD, .ref aMd, .int vME, .ref aMe, .int vMO, .ref aMo, .int vMF, .int vMS, .ref aMw, .ref aMu, .int vMX, .int vMW])), (aMh, .inl (cA, 24, .inl (upd vMh vMP.toNatClampNeg p0))), (aMi, .inl (cA, 72, .inl (vMi))), (aMc, .inl (cA, 24, .inl (vMc))), (aMs, .inl (cZ, 100, .inl (u_86.2)))] H := hP
          have hD : va_D A [(aM, .inr (7, [.int u_131.2, .int vMP, .ref aMh, .ref aMi, .ref aMc, .int vMK, .ref aMt, .int vMB, .ref aMn, .ref aMl, .ref aMs, .int vMD, .ref aMd, .int vME, .ref aMe, .int vMO, .ref aMo, .int vMF, .int vMS, .ref aMw, .ref aMu, .int vMX, .int vMW])), (aMh, .inl (cA, 24, .inl (upd vMh vMP.toNatClampNeg p0))), (aMi, .inl (cA, 72, .inl (vMi))), (aMc, .inl (cA, 24, .inl (vMc))), (aMs, .inl (cZ, 100, .inl (u_86.2)))] := hD
          refine lv_aload_n hx hb qd_M_production_149 rfl (lv_at hl 2 rfl) ?_
          refine va_get (D := (dC, dI)) (ci := 7) (v := .ref aMi) (C := qR_M) (T := qT_M) (N := 23) hx hb hg qi_M hown hK hP 0 rfl rfl 3 (by decide) (hg _ mw_577) (fun _ h9 => h9) rfl qd_M_production_150 ?_
          refine lv_iconst (v := 3) hx hb qd_M_production_153 (by decide) ?_
          refine lv_aload_n hx hb qd_M_production_154 rfl (lv_at hl 2 rfl) ?_
          refine va_get (D := (dC, dI)) (ci := 7) (v := .int vMP) (C := qR_M) (T := qT_M) (N := 23) hx hb hg qi_M hown hK hP 0 rfl rfl 1 (by decide) (hg _ mw_575) (fun _ h9 => h9) rfl qd_M_production_155 ?_
          refine lv_imul hx hb qd_M_production_158 ?_
          refine lv_iload_n hx hb qd_M_production_159 rfl (lv_at hl 4 rfl) ?_
          obtain ⟨g_160, ho⟩ := ho
          refine va_iast hx hb hK hP hD hS 2 0 rfl rfl g_160 qd_M_production_160 (fun H locs hP hD hS => ?_)
          have hP : va_P (dC, dI) vwCl [(aM, .inr (7, [.int u_131.2, .int vMP, .ref aMh, .ref aMi, .ref aMc, .int vMK, .ref aMt, .int vMB, .ref aMn, .ref aMl, .ref aMs, .int vMD, .ref aMd, .int vME, .ref aMe, .int vMO, .ref aMo, .int vMF, .int vMS, .ref aMw, .ref aMu, .int vMX, .int vMW])), (aMh, .inl (cA, 24, .inl (upd vMh vMP.toNatClampNeg p0))), (aMi, .inl (cA, 72, .inl (upd vMi (3 * vMP).toNatClampNeg p1))), (aMc, .inl (cA, 24, .inl (vMc))), (aMs, .inl (cZ, 100, .inl (u_86.2)))] H := hP
          have hD : va_D A [(aM, .inr (7, [.int u_131.2, .int vMP, .ref aMh, .ref aMi, .ref aMc, .int vMK, .ref aMt, .int vMB, .ref aMn, .ref aMl, .ref aMs, .int vMD, .ref aMd, .int vME, .ref aMe, .int vMO, .ref aMo, .int vMF, .int vMS, .ref aMw, .ref aMu, .int vMX, .int vMW])), (aMh, .inl (cA, 24, .inl (upd vMh vMP.toNatClampNeg p0))), (aMi, .inl (cA, 72, .inl (upd vMi (3 * vMP).toNatClampNeg p1))), (aMc, .inl (cA, 24, .inl (vMc))), (aMs, .inl (cZ, 100, .inl (u_86.2)))] := hD
          refine lv_aload_n hx hb qd_M_production_161 rfl (lv_at hl 2 rfl) ?_
          refine va_get (D := (dC, dI)) (ci := 7) (v := .ref aMi) (C := qR_M) (T := qT_M) (N := 23) hx hb hg qi_M hown hK hP 0 rfl rfl 3 (by decide) (hg _ mw_577) (fun _ h9 => h9) rfl qd_M_production_162 ?_
          refine lv_iconst (v := 3) hx hb qd_M_production_165 (by decide) ?_
          refine lv_aload_n hx hb qd_M_production_166 rfl (lv_at hl 2 rfl) ?_
          refine va_get (D := (dC, dI)) (ci := 7) (v := .int vMP) (C := qR_M) (T := qT_M) (N := 23) hx hb hg qi_M hown hK hP 0 rfl rfl 1 (by decide) (hg _ mw_575) (fun _ h9 => h9) rfl qd_M_production_167 ?_
          refine lv_imul hx hb qd_M_production_170 ?_
          refine lv_iconst (v := 1) hx hb qd_M_production_171 (by decide) ?_
          refine lv_iadd hx hb qd_M_production_172 ?_
          refine lv_iload_n hx hb qd_M_production_173 rfl (lv_at hl 5 rfl) ?_
          obtain ⟨g_174, ho⟩ := ho
          refine va_iast hx hb hK hP hD hS 2 0 rfl rfl g_174 qd_M_production_174 (fun H locs hP hD hS => ?_)
          have hP : va_P (dC, dI) vwCl [(aM, .inr (7, [.int u_131.2, .int vMP, .ref aMh, .ref aMi, .ref aMc, .int vMK, .ref aMt, .int vMB, .ref aMn, .ref aMl, .ref aMs, .int vMD, .ref aMd, .int vME, .ref aMe, .int vMO, .ref aMo, .int vMF, .int vMS, .ref aMw, .ref aMu, .int vMX, .int vMW])), (aMh, .inl (cA, 24, .inl (upd vMh vMP.toNatClampNeg p0))), (aMi, .inl (cA, 72, .inl (upd (upd vMi (3 * vMP).toNatClampNeg p1) ((3 * vMP) + 1).toNatClampNeg p2))), (aMc, .inl (cA, 24, .inl (vMc))), (aMs, .inl (cZ, 100, .inl (u_86.2)))] H := hP
          have hD : va_D A [(aM, .inr (7, [.int u_131.2, .int vMP, .ref aMh, .ref aMi, .ref aMc, .int vMK, .ref aMt, .int vMB, .ref aMn, .ref aMl, .ref aMs, .int vMD, .ref aMd, .int vME, .ref aMe, .int vMO, .ref aMo, .int vMF, .int vMS, .ref aMw, .ref aMu, .int vMX, .int vMW])), (aMh, .inl (cA, 24, .inl (upd vMh vMP.toNatClampNeg p0))), (aMi, .inl (cA, 72, .inl (upd (upd vMi (3 * vMP).toNatClampNeg p1) ((3 * vMP) + 1).toNatClampNeg p2))), (aMc, .inl (cA, 24, .inl (vMc))), (aMs, .inl (cZ, 100, .inl (u_86.2)))] := hD
          refine lv_aload_n hx hb qd_M_production_175 rfl (lv_at hl 2 rfl) ?_
          refine va_get (D := (dC, dI)) (ci := 7) (v := .ref aMi) (C := qR_M) (T := qT_M) (N := 23) hx hb hg qi_M hown hK hP 0 rfl rfl 3 (by decide) (hg _ mw_577) (fun _ h9 => h9) rfl qd_M_production_176 ?_
          refine lv_iconst (v := 3) hx hb qd_M_production_179 (by decide) ?_
          refine lv_aload_n hx hb qd_M_production_180 rfl (lv_at hl 2 rfl) ?_
          refine va_get (D := (dC, dI)) (ci := 7) (v := .int vMP) (C := qR_M) (T := qT_M) (N := 23) hx hb hg qi_M hown hK hP 0 rfl rfl 1 (by decide) (hg _ mw_575) (fun _ h9 => h9) rfl qd_M_production_181 ?_
          refine lv_imul hx hb qd_M_production_184 ?_
          refine lv_iconst (v := 2) hx hb qd_M_production_185 (by decide) ?_
          refine lv_iadd hx hb qd_M_production_186 ?_
          refine lv_iload hx hb qd_M_production_187 (lv_at hl 6 rfl) ?_
          obtain ⟨g_189, ho⟩ := ho
          refine va_iast hx hb hK hP hD hS 2 0 rfl rfl g_189 qd_M_production_189 (fun H locs hP hD hS => ?_)
          have hP : va_P (dC, dI) vwCl [(aM, .inr (7, [.int u_131.2, .int vMP, .ref aMh, .ref aMi, .ref aMc, .int vMK, .ref aMt, .int vMB, .ref aMn, .ref aMl, .ref aMs, .int vMD, .ref aMd, .int vME, .ref aMe, .int vMO, .ref aMo, .int vMF, .int vMS, .ref aMw, .ref aMu, .int vMX, .int vMW])), (aMh, .inl (cA, 24, .inl (upd vMh vMP.toNatClampNeg p0))), (aMi, .inl (cA, 72, .inl (upd (upd (upd vMi (3 * vMP).toNatClampNeg p1) ((3 * vMP) + 1).toNatClampNeg p2) ((3 * vMP) + 2).toNatClampNeg p3))), (aMc, .inl (cA, 24, .inl (vMc))), (aMs, .inl (cZ, 100, .inl (u_86.2)))] H := hP
          have hD : va_D A [(aM, .inr (7, [.int u_131.2, .int vMP, .ref aMh, .ref aMi, .ref aMc, .int vMK, .ref aMt, .int vMB, .ref aMn, .ref aMl, .ref aMs, .int vMD, .ref aMd, .int vME, .ref aMe, .int vMO, .ref aMo, .int vMF, .int vMS, .ref aMw, .ref aMu, .int vMX, .int vMW])), (aMh, .inl (cA, 24, .inl (upd vMh vMP.toNatClampNeg p0))), (aMi, .inl (cA, 72, .inl (upd (upd (upd vMi (3 * vMP).toNatClampNeg p1) ((3 * vMP) + 1).toNatClampNeg p2) ((3 * vMP) + 2).toNatClampNeg p3))), (aMc, .inl (cA, 24, .inl (vMc))), (aMs, .inl (cZ, 100, .inl (u_86.2)))] := hD
          refine lv_aload_n hx hb qd_M_production_190 rfl (lv_at hl 2 rfl) ?_
          refine va_get (D := (dC, dI)) (ci := 7) (v := .ref aMc) (C := qR_M) (T := qT_M) (N := 23) hx hb hg qi_M hown hK hP 0 rfl rfl 4 (by decide) (hg _ mw_578) (fun _ h9 => h9) rfl qd_M_production_191 ?_
          refine lv_aload_n hx hb qd_M_production_194 rfl (lv_at hl 2 rfl) ?_
          refine va_get (D := (dC, dI)) (ci := 7) (v := .int vMP) (C := qR_M) (T := qT_M) (N := 23) hx hb hg qi_M hown hK hP 0 rfl rfl 1 (by decide) (hg _ mw_575) (fun _ h9 => h9) rfl qd_M_production_195 ?_
          refine lv_iload hx hb qd_M_production_198 (lv_at hl 7 rfl) ?_
          obtain ⟨g_200, ho⟩ := ho
          refine va_iast hx hb hK hP hD hS 3 0 rfl rfl g_200 qd_M_production_200 (fun H locs hP hD hS => ?_)
          have hP : va_P (dC, dI) vwCl [(aM, .inr (7, [.int u_131.2, .int vMP, .ref aMh, .ref aMi, .ref aMc, .int vMK, .ref aMt, .int vMB, .ref aMn, .ref aMl, .ref aMs, .int vMD, .ref aMd, .int vME, .ref aMe, .int vMO, .ref aMo, .int vMF, .int vMS, .ref aMw, .ref aMu, .int vMX, .int vMW])), (aMh, .inl (cA, 24, .inl (upd vMh vMP.toNatClampNeg p0))), (aMi, .inl (cA, 72, .inl (upd (upd (upd vMi (3 * vMP).toNatClampNeg p1) ((3 * vMP) + 1).toNatClampNeg p2) ((3 * vMP) + 2).toNatClampNeg p3))), (aMc, .inl (cA, 24, .inl (upd vMc vMP.toNatClampNeg p4))), (aMs, .inl (cZ, 100, .inl (u_86.2)))] H := hP
          have hD : va_D A [(aM, .inr (7, [.int u_131.2, .int vMP, .ref aMh, .ref aMi, .ref aMc, .int vMK, .ref aMt, .int vMB, .ref aMn, .ref aMl, .ref aMs, .int vMD, .ref aMd, .int vME, .ref aMe, .int vMO, .ref aMo, .int vMF, .int vMS, .ref aMw, .ref aMu, .int vMX, .int vMW])), (aMh, .inl (cA, 24, .inl (upd vMh vMP.toNatClampNeg p0))), (aMi, .inl (cA, 72, .inl (upd (upd (upd vMi (3 * vMP).toNatClampNeg p1) ((3 * vMP) + 1).toNatClampNeg p2) ((3 * vMP) + 2).toNatClampNeg p3))), (aMc, .inl (cA, 24, .inl (upd vMc vMP.toNatClampNeg p4))), (aMs, .inl (cZ, 100, .inl (u_86.2)))] := hD
          refine lv_aload_n hx hb qd_M_production_201 rfl (lv_at hl 2 rfl) ?_
          refine lv_dup hx hb qd_M_production_202 rfl ?_
          refine va_get (D := (dC, dI)) (ci := 7) (v := .int vMP) (C := qR_M) (T := qT_M) (N := 23) hx hb hg qi_M hown hK hP 0 rfl rfl 1 (by decide) (hg _ mw_575) (fun _ h9 => h9) rfl qd_M_production_203 ?_
          refine lv_iconst (v := 1) hx hb qd_M_production_206 (by decide) ?_
          refine lv_iadd hx hb qd_M_production_207 ?_
          refine va_put (D := (dC, dI)) (ci := 7) (v := .int (vMP + 1)) (ty := .int) (C := qR_M) (T := qT_M) (N := 23) hx hb hg qi_M qt_M qk_M qn_M hown hK hP hD hS 0 rfl rfl 1 (by decide) (hg _ mw_575) (fun _ h9 => h9) rfl (by decide +kernel) rfl rfl (Nat.le_of_ble_eq_true rfl) qd_M_production_208 (fun H locs hP hD hS => ?_)
          have hP : va_P (dC, dI) vwCl [(aM, .inr (7, [.int u_131.2, .int (vMP + 1), .ref aMh, .ref aMi, .ref aMc, .int vMK, .ref aMt, .int vMB, .ref aMn, .ref aMl, .ref aMs, .int vMD, .ref aMd, .int vME, .ref aMe, .int vMO, .ref aMo, .int vMF, .int vMS, .ref aMw, .ref aMu, .int vMX, .int vMW])), (aMh, .inl (cA, 24, .inl (upd vMh vMP.toNatClampNeg p0))), (aMi, .inl (cA, 72, .inl (upd (upd (upd vMi (3 * vMP).toNatClampNeg p1) ((3 * vMP) + 1).toNatClampNeg p2) ((3 * vMP) + 2).toNatClampNeg p3))), (aMc, .inl (cA, 24, .inl (upd vMc vMP.toNatClampNeg p4))), (aMs, .inl (cZ, 100, .inl (u_86.2)))] H := hP
          have hD : va_D A [(aM, .inr (7, [.int u_131.2, .int (vMP + 1), .ref aMh, .ref aMi, .ref aMc, .int vMK, .ref aMt, .int vMB, .ref aMn, .ref aMl, .ref aMs, .int vMD, .ref aMd, .int vME, .ref aMe, .int vMO, .ref aMo, .int vMF, .int vMS, .ref aMw, .ref aMu, .int vMX, .int vMW])), (aMh, .inl (cA, 24, .inl (upd vMh vMP.toNatClampNeg p0))), (aMi, .inl (cA, 72, .inl (upd (upd (upd vMi (3 * vMP).toNatClampNeg p1) ((3 * vMP) + 1).toNatClampNeg p2) ((3 * vMP) + 2).toNatClampNeg p3))), (aMc, .inl (cA, 24, .inl (upd vMc vMP.toNatClampNeg p4))), (aMs, .inl (cZ, 100, .inl (u_86.2)))] := hD
          refine lv_aload_n hx hb qd_M_production_211 rfl (lv_at hl 2 rfl) ?_
          refine lv_iconst (v := 0) hx hb qd_M_production_212 (by decide) ?_
          refine va_put (D := (dC, dI)) (ci := 7) (v := .int 0) (ty := .boolean) (C := qR_M) (T := qT_M) (N := 23) hx hb hg qi_M qt_M qk_M qn_M hown hK hP hD hS 0 rfl rfl 7 (by decide) (hg _ mw_581) (fun _ h9 => h9) rfl (by decide +kernel) rfl rfl (Nat.le_of_ble_eq_true rfl) qd_M_production_213 (fun H locs hP hD hS => ?_)
          have hP : va_P (dC, dI) vwCl [(aM, .inr (7, [.int u_131.2, .int (vMP + 1), .ref aMh, .ref aMi, .ref aMc, .int vMK, .ref aMt, .int 0, .ref aMn, .ref aMl, .ref aMs, .int vMD, .ref aMd, .int vME, .ref aMe, .int vMO, .ref aMo, .int vMF, .int vMS, .ref aMw, .ref aMu, .int vMX, .int vMW])), (aMh, .inl (cA, 24, .inl (upd vMh vMP.toNatClampNeg p0))), (aMi, .inl (cA, 72, .inl (upd (upd (upd vMi (3 * vMP).toNatClampNeg p1) ((3 * vMP) + 1).toNatClampNeg p2) ((3 * vMP) + 2).toNatClampNeg p3))), (aMc, .inl (cA, 24, .inl (upd vMc vMP.toNatClampNeg p4))), (aMs, .inl (cZ, 100, .inl (u_86.2)))] H := hP
          have hD : va_D A [(aM, .inr (7, [.int u_131.2, .int (vMP + 1), .ref aMh, .ref aMi, .ref aMc, .int vMK, .ref aMt, .int 0, .ref aMn, .ref aMl, .ref aMs, .int vMD, .ref aMd, .int vME, .ref aMe, .int vMO, .ref aMo, .int vMF, .int vMS, .ref aMw, .ref aMu, .int vMX, .int vMW])), (aMh, .inl (cA, 24, .inl (upd vMh vMP.toNatClampNeg p0))), (aMi, .inl (cA, 72, .inl (upd (upd (upd vMi (3 * vMP).toNatClampNeg p1) ((3 * vMP) + 1).toNatClampNeg p2) ((3 * vMP) + 2).toNatClampNeg p3))), (aMc, .inl (cA, 24, .inl (upd vMc vMP.toNatClampNeg p4))), (aMs, .inl (cZ, 100, .inl (u_86.2)))] := hD
          refine lv_aload_n hx hb qd_M_production_216 rfl (lv_at hl 2 rfl) ?_
          refine va_get (D := (dC, dI)) (ci := 7) (v := .int (vMP + 1)) (C := qR_M) (T := qT_M) (N := 23) hx hb hg qi_M hown hK hP 0 rfl rfl 1 (by decide) (hg _ mw_575) (fun _ h9 => h9) rfl qd_M_production_217 ?_
          refine lv_iconst (v := 1) hx hb qd_M_production_220 (by decide) ?_
          refine lv_isub hx hb qd_M_production_221 ?_
          exact W.iret (v := (vMP + 1) - 1) hx hb hr (fun t ht hW => ⟨⟨_, ((vMP + 1) - 1, u_131.2, vMP + 1, 0, upd vMh vMP.toNatClampNeg p0, upd (upd (upd vMi (3 * vMP).toNatClampNeg p1) ((3 * vMP) + 1).toNatClampNeg p2) ((3 * vMP) + 2).toNatClampNeg p3, upd vMc vMP.toNatClampNeg p4, u_86.2), rfl, ⟨hres.symm, rfl⟩, ⟨by rw [ht]; exact hP, va_K.moved hW.alike hK, x_N hN hW⟩, hD⟩, hS.F ht⟩) hS.2.2 qd_M_production_222
        have hres := hres.trans (if_neg c_134)
        have ho := (if_neg c_134).mp ho
        refine lv_iconst (v := 0) hx hb qd_M_production_137 (by decide) ?_
        exact W.iret (v := 0) hx hb hr (fun t ht hW => ⟨⟨_, (0, u_131.2, vMP, vMB, vMh, vMi, vMc, u_86.2), rfl, ⟨hres.symm, rfl⟩, ⟨by rw [ht]; exact hP, va_K.moved hW.alike hK, x_N hN hW⟩, hD⟩, hS.F ht⟩) hS.2.2 qd_M_production_138
      have hres := hres.trans (if_neg c_89)
      have ho := (if_neg c_89).mp ho
      refine lv_iconst (v := 1) hx hb qd_M_production_92 (by decide) ?_
      refine lv_goto (tgt := 97) hx hb qd_M_production_93 (by decide) ?_
      refine lv_istore (lv' := [(7, .int 1), (6, .int 1), (0, .ref aM), (1, .int p0), (2, .int p1), (3, .int p2), (4, .int p3), (5, .int p4)]) hx hb qd_M_production_97 hl (by decide) rfl (fun ls hl => ?_)
      refine lv_aload_n hx hb qd_M_production_99 rfl (lv_at hl 2 rfl) ?_
      refine lv_iload hx hb qd_M_production_100 (lv_at hl 1 rfl) ?_
      refine lv_if_ne (tgt := 109) hx hb qd_M_production_102 (by decide) (fun c_102 => ?_) (fun c_102 => ?_)
      rotate_left
      · exact absurd c_102 (by decide)
      refine lv_iconst (v := 0) hx hb qd_M_production_109 (by decide) ?_
      refine lv_iload hx hb qd_M_production_110 (lv_at hl 1 rfl) ?_
      refine lv_if_eq (tgt := 128) hx hb qd_M_production_112 (by decide) (fun c_112 => ?_) (fun c_112 => ?_)
      · exact absurd c_112 (by decide)
      refine lv_aload_n hx hb qd_M_production_115 rfl (lv_at hl 2 rfl) ?_
      refine va_get (D := (dC, dI)) (ci := 7) (v := .int vMP) (C := qR_M) (T := qT_M) (N := 23) hx hb hg qi_M hown hK hP 0 rfl rfl 1 (by decide) (hg _ mw_575) (fun _ h9 => h9) rfl qd_M_production_116 ?_
      refine lv_bipush (v := 24) hx hb qd_M_production_119 (by decide) ?_
      refine lv_icmp_ne (tgt := 128) hx hb qd_M_production_121 (by decide) (fun c_121 => ?_) (fun c_121 => ?_)
      · have hres := hres.trans (if_neg c_121)
        have ho := (if_neg c_121).mp ho
        refine lv_iconst (v := 0) hx hb qd_M_production_128 (by decide) ?_
        refine lv_iload hx hb qd_M_production_129 (lv_at hl 0 rfl) ?_
        refine xm_Vi (As := [.int 0, .int 0, .int 1]) (rest := []) (w1 := fun (u_131 : Int32 × Int32) => [(aM, .inr (7, [.int u_131.2, .int vMP, .ref aMh, .ref aMi, .ref aMc, .int vMK, .ref aMt, .int vMB, .ref aMn, .ref aMl, .ref aMs, .int vMD, .ref aMd, .int vME, .ref aMe, .int vMO, .ref aMo, .int vMF, .int vMS, .ref aMw, .ref aMu, .int vMX, .int vMW]))]) (w2 := fun (u_131 : Int32 × Int32) => [(aM, .inr (7, [.int u_131.2, .int vMP, .ref aMh, .ref aMi, .ref aMc, .int vMK, .ref aMt, .int vMB, .ref aMn, .ref aMl, .ref aMs, .int vMD, .ref aMd, .int vME, .ref aMe, .int vMO, .ref aMo, .int vMF, .int vMS, .ref aMw, .ref aMu, .int vMX, .int vMW])), (aMh, .inl (cA, 24, .inl (vMh))), (aMi, .inl (cA, 72, .inl (vMi))), (aMc, .inl (cA, 24, .inl (vMc))), (aMs, .inl (cZ, 100, .inl (u_86.2)))]) ⟨hx, hb, hml, hown, hg⟩ (c_M_refuse l dC dI cA cZ aM aMh aMi aMc aMt aMn aMl aMs aMd aMe aMo aMw aMu _ vMT vMP vMK vMB vMD vME vMO vMF vMS vMX vMW 0 0 1) (cwV 3 hg (q_gV mw_642 mw_643 mw_771 mw_8 mw_644) rfl rfl rfl qh_M_refuse ⟨Nat.le_of_ble_eq_true rfl, Nat.le_of_ble_eq_true rfl⟩) hN hK hP hD hS hA [0] [1, 2, 3, 4] rfl rfl (by decide) (by decide) (by decide) [4, 0, 1, 2, 3] (fun _ => rfl) (by decide) 0 7 rfl rfl rfl hl.1 rfl (Nat.le_of_ble_eq_true rfl) qd_M_production_131 ⟨Nat.zero_le _, Nat.zero_le _⟩ (fun u_131 H locs w_131 hP hD hS => ?_)
        have hP : va_P (dC, dI) vwCl [(aM, .inr (7, [.int u_131.2, .int vMP, .ref aMh, .ref aMi, .ref aMc, .int vMK, .ref aMt, .int vMB, .ref aMn, .ref aMl, .ref aMs, .int vMD, .ref aMd, .int vME, .ref aMe, .int vMO, .ref aMo, .int vMF, .int vMS, .ref aMw, .ref aMu, .int vMX, .int vMW])), (aMh, .inl (cA, 24, .inl (vMh))), (aMi, .inl (cA, 72, .inl (vMi))), (aMc, .inl (cA, 24, .inl (vMc))), (aMs, .inl (cZ, 100, .inl (u_86.2)))] H := hP
        have hD : va_D A [(aM, .inr (7, [.int u_131.2, .int vMP, .ref aMh, .ref aMi, .ref aMc, .int vMK, .ref aMt, .int vMB, .ref aMn, .ref aMl, .ref aMs, .int vMD, .ref aMd, .int vME, .ref aMe, .int vMO, .ref aMo, .int vMF, .int vMS, .ref aMw, .ref aMu, .int vMX, .int vMW])), (aMh, .inl (cA, 24, .inl (vMh))), (aMi, .inl (cA, 72, .inl (vMi))), (aMc, .inl (cA, 24, .inl (vMc))), (aMs, .inl (cZ, 100, .inl (u_86.2)))] := hD
        have hres := hres.trans (bd_eq w_131)
        have ho := (bd_eq w_131).mp ho
        refine lv_if_eq (tgt := 139) hx hb qd_M_production_134 (by decide) (fun c_134 => ?_) (fun c_134 => ?_)
        · have hres := hres.trans (if_pos c_134)
          have ho := (if_pos c_134).mp ho
          refine lv_aload_n hx hb qd_M_production_139 rfl (lv_at hl 2 rfl) ?_
          refine va_get (D := (dC, dI)) (ci := 7) (v := .ref aMh) (C := qR_M) (T := qT_M) (N := 23) hx hb hg qi_M hown hK hP 0 rfl rfl 2 (by decide) (hg _ mw_576) (fun _ h9 => h9) rfl qd_M_production_140 ?_
          refine lv_aload_n hx hb qd_M_production_143 rfl (lv_at hl 2 rfl) ?_
          refine va_get (D := (dC, dI)) (ci := 7) (v := .int vMP) (C := qR_M) (T := qT_M) (N := 23) hx hb hg qi_M hown hK hP 0 rfl rfl 1 (by decide) (hg _ mw_575) (fun _ h9 => h9) rfl qd_M_production_144 ?_
          refine lv_iload_n hx hb qd_M_production_147 rfl (lv_at hl 3 rfl) ?_
          obtain ⟨g_148, ho⟩ := ho
          refine va_iast hx hb hK hP hD hS 1 0 rfl rfl g_148 qd_M_production_148 (fun H locs hP hD hS => ?_)
          have hP : va_P (dC, dI) vwCl [(aM, .inr (7, [.int u_131.2, .int vMP, .ref aMh, .ref aMi, .ref aMc, .int vMK, .ref aMt, .int vMB, .ref aMn, .ref aMl, .ref aMs, .int vMD, .ref aMd, .int vME, .ref aMe, .int vMO, .ref aMo, .int vMF, .int vMS, .ref aMw, .ref aMu, .int vMX, .int vMW])), (aMh, .inl (cA, 24, .inl (upd vMh vMP.toNatClampNeg p0))), (aMi, .inl (cA, 72, .inl (vMi))), (aMc, .inl (cA, 24, .inl (vMc))), (aMs, .inl (cZ, 100, .inl (u_86.2)))] H := hP
          have hD : va_D A [(aM, .inr (7, [.int u_131.2, .int vMP, .ref aMh, .ref aMi, .ref aMc, .int vMK, .ref aMt, .int vMB, .ref aMn, .ref aMl, .ref aMs, .int vMD, .ref aMd, .int vME, .ref aMe, .int vMO, .ref aMo, .int vMF, .int vMS, .ref aMw, .ref aMu, .int vMX, .int vMW])), (aMh, .inl (cA, 24, .inl (upd vMh vMP.toNatClampNeg p0))), (aMi, .inl (cA, 72, .inl (vMi))), (aMc, .inl (cA, 24, .inl (vMc))), (aMs, .inl (cZ, 100, .inl (u_86.2)))] := hD
          refine lv_aload_n hx hb qd_M_production_149 rfl (lv_at hl 2 rfl) ?_
          refine va_get (D := (dC, dI)) (ci := 7) (v := .ref aMi) (C := qR_M) (T := qT_M) (N := 23) hx hb hg qi_M hown hK hP 0 rfl rfl 3 (by decide) (hg _ mw_577) (fun _ h9 => h9) rfl qd_M_production_150 ?_
          refine lv_iconst (v := 3) hx hb qd_M_production_153 (by decide) ?_
          refine lv_aload_n hx hb qd_M_production_154 rfl (lv_at hl 2 rfl) ?_
          refine va_get (D := (dC, dI)) (ci := 7) (v := .int vMP) (C := qR_M) (T := qT_M) (N := 23) hx hb hg qi_M hown hK hP 0 rfl rfl 1 (by decide) (hg _ mw_575) (fun _ h9 => h9) rfl qd_M_production_155 ?_
          refine lv_imul hx hb qd_M_production_158 ?_
          refine lv_iload_n hx hb qd_M_production_159 rfl (lv_at hl 4 rfl) ?_
          obtain ⟨g_160, ho⟩ := ho
          refine va_iast hx hb hK hP hD hS 2 0 rfl rfl g_160 qd_M_production_160 (fun H locs hP hD hS => ?_)
          have hP : va_P (dC, dI) vwCl [(aM, .inr (7, [.int u_131.2, .int vMP, .ref aMh, .ref aMi, .ref aMc, .int vMK, .ref aMt, .int vMB, .ref aMn, .ref aMl, .ref aMs, .int vMD, .ref aMd, .int vME, .ref aMe, .int vMO, .ref aMo, .int vMF, .int vMS, .ref aMw, .ref aMu, .int vMX, .int vMW])), (aMh, .inl (cA, 24, .inl (upd vMh vMP.toNatClampNeg p0))), (aMi, .inl (cA, 72, .inl (upd vMi (3 * vMP).toNatClampNeg p1))), (aMc, .inl (cA, 24, .inl (vMc))), (aMs, .inl (cZ, 100, .inl (u_86.2)))] H := hP
          have hD : va_D A [(aM, .inr (7, [.int u_131.2, .int vMP, .ref aMh, .ref aMi, .ref aMc, .int vMK, .ref aMt, .int vMB, .ref aMn, .ref aMl, .ref aMs, .int vMD, .ref aMd, .int vME, .ref aMe, .int vMO, .ref aMo, .int vMF, .int vMS, .ref aMw, .ref aMu, .int vMX, .int vMW])), (aMh, .inl (cA, 24, .inl (upd vMh vMP.toNatClampNeg p0))), (aMi, .inl (cA, 72, .inl (upd vMi (3 * vMP).toNatClampNeg p1))), (aMc, .inl (cA, 24, .inl (vMc))), (aMs, .inl (cZ, 100, .inl (u_86.2)))] := hD
          refine lv_aload_n hx hb qd_M_production_161 rfl (lv_at hl 2 rfl) ?_
          refine va_get (D := (dC, dI)) (ci := 7) (v := .ref aMi) (C := qR_M) (T := qT_M) (N := 23) hx hb hg qi_M hown hK hP 0 rfl rfl 3 (by decide) (hg _ mw_577) (fun _ h9 => h9) rfl qd_M_production_162 ?_
          refine lv_iconst (v := 3) hx hb qd_M_production_165 (by decide) ?_
          refine lv_aload_n hx hb qd_M_production_166 rfl (lv_at hl 2 rfl) ?_
          refine va_get (D := (dC, dI)) (ci := 7) (v := .int vMP) (C := qR_M) (T := qT_M) (N := 23) hx hb hg qi_M hown hK hP 0 rfl rfl 1 (by decide) (hg _ mw_575) (fun _ h9 => h9) rfl qd_M_production_167 ?_
          refine lv_imul hx hb qd_M_production_170 ?_
          refine lv_iconst (v := 1) hx hb qd_M_production_171 (by decide) ?_
          refine lv_iadd hx hb qd_M_production_172 ?_
          refine lv_iload_n hx hb qd_M_production_173 rfl (lv_at hl 5 rfl) ?_
          obtain ⟨g_174, ho⟩ := ho
          refine va_iast hx hb hK hP hD hS 2 0 rfl rfl g_174 qd_M_production_174 (fun H locs hP hD hS => ?_)
          have hP : va_P (dC, dI) vwCl [(aM, .inr (7, [.int u_131.2, .int vMP, .ref aMh, .ref aMi, .ref aMc, .int vMK, .ref aMt, .int vMB, .ref aMn, .ref aMl, .ref aMs, .int vMD, .ref aMd, .int vME, .ref aMe, .int vMO, .ref aMo, .int vMF, .int vMS, .ref aMw, .ref aMu, .int vMX, .int vMW])), (aMh, .inl (cA, 24, .inl (upd vMh vMP.toNatClampNeg p0))), (aMi, .inl (cA, 72, .inl (upd (upd vMi (3 * vMP).toNatClampNeg p1) ((3 * vMP) + 1).toNatClampNeg p2))), (aMc, .inl (cA, 24, .inl (vMc))), (aMs, .inl (cZ, 100, .inl (u_86.2)))] H := hP
          have hD : va_D A [(aM, .inr (7, [.int u_131.2, .int vMP, .ref aMh, .ref aMi, .ref aMc, .int vMK, .ref aMt, .int vMB, .ref aMn, .ref aMl, .ref aMs, .int vMD, .ref aMd, .int vME, .ref aMe, .int vMO, .ref aMo, .int vMF, .int vMS, .ref aMw, .ref aMu, .int vMX, .int vMW])), (aMh, .inl (cA, 24, .inl (upd vMh vMP.toNatClampNeg p0))), (aMi, .inl (cA, 72, .inl (upd (upd vMi (3 * vMP).toNatClampNeg p1) ((3 * vMP) + 1).toNatClampNeg p2))), (aMc, .inl (cA, 24, .inl (vMc))), (aMs, .inl (cZ, 100, .inl (u_86.2)))] := hD
          refine lv_aload_n hx hb qd_M_production_175 rfl (lv_at hl 2 rfl) ?_
          refine va_get (D := (dC, dI)) (ci := 7) (v := .ref aMi) (C := qR_M) (T := qT_M) (N := 23) hx hb hg qi_M hown hK hP 0 rfl rfl 3 (by decide) (hg _ mw_577) (fun _ h9 => h9) rfl qd_M_production_176 ?_
          refine lv_iconst (v := 3) hx hb qd_M_production_179 (by decide) ?_
          refine lv_aload_n hx hb qd_M_production_180 rfl (lv_at hl 2 rfl) ?_
          refine va_get (D := (dC, dI)) (ci := 7) (v := .int vMP) (C := qR_M) (T := qT_M) (N := 23) hx hb hg qi_M hown hK hP 0 rfl rfl 1 (by decide) (hg _ mw_575) (fun _ h9 => h9) rfl qd_M_production_181 ?_
          refine lv_imul hx hb qd_M_production_184 ?_
          refine lv_iconst (v := 2) hx hb qd_M_production_185 (by decide) ?_
          refine lv_iadd hx hb qd_M_production_186 ?_
          refine lv_iload hx hb qd_M_production_187 (lv_at hl 6 rfl) ?_
          obtain ⟨g_189, ho⟩ := ho
          refine va_iast hx hb hK hP hD hS 2 0 rfl rfl g_189 qd_M_production_189 (fun H locs hP hD hS => ?_)
          have hP : va_P (dC, dI) vwCl [(aM, .inr (7, [.int u_131.2, .int vMP, .ref aMh, .ref aMi, .ref aMc, .int vMK, .ref aMt, .int vMB, .ref aMn, .ref aMl, .ref aMs, .int vMD, .ref aMd, .int vME, .ref aMe, .int vMO, .ref aMo, .int vMF, .int vMS, .ref aMw, .ref aMu, .int vMX, .int vMW])), (aMh, .inl (cA, 24, .inl (upd vMh vMP.toNatClampNeg p0))), (aMi, .inl (cA, 72, .inl (upd (upd (upd vMi (3 * vMP).toNatClampNeg p1) ((3 * vMP) + 1).toNatClampNeg p2) ((3 * vMP) + 2).toNatClampNeg p3))), (aMc, .inl (cA, 24, .inl (vMc))), (aMs, .inl (cZ, 100, .inl (u_86.2)))] H := hP
          have hD : va_D A [(aM, .inr (7, [.int u_131.2, .int vMP, .ref aMh, .ref aMi, .ref aMc, .int vMK, .ref aMt, .int vMB, .ref aMn, .ref aMl, .ref aMs, .int vMD, .ref aMd, .int vME, .ref aMe, .int vMO, .ref aMo, .int vMF, .int vMS, .ref aMw, .ref aMu, .int vMX, .int vMW])), (aMh, .inl (cA, 24, .inl (upd vMh vMP.toNatClampNeg p0))), (aMi, .inl (cA, 72, .inl (upd (upd (upd vMi (3 * vMP).toNatClampNeg p1) ((3 * vMP) + 1).toNatClampNeg p2) ((3 * vMP) + 2).toNatClampNeg p3))), (aMc, .inl (cA, 24, .inl (vMc))), (aMs, .inl (cZ, 100, .inl (u_86.2)))] := hD
          refine lv_aload_n hx hb qd_M_production_190 rfl (lv_at hl 2 rfl) ?_
          refine va_get (D := (dC, dI)) (ci := 7) (v := .ref aMc) (C := qR_M) (T := qT_M) (N := 23) hx hb hg qi_M hown hK hP 0 rfl rfl 4 (by decide) (hg _ mw_578) (fun _ h9 => h9) rfl qd_M_production_191 ?_
          refine lv_aload_n hx hb qd_M_production_194 rfl (lv_at hl 2 rfl) ?_
          refine va_get (D := (dC, dI)) (ci := 7) (v := .int vMP) (C := qR_M) (T := qT_M) (N := 23) hx hb hg qi_M hown hK hP 0 rfl rfl 1 (by decide) (hg _ mw_575) (fun _ h9 => h9) rfl qd_M_production_195 ?_
          refine lv_iload hx hb qd_M_production_198 (lv_at hl 7 rfl) ?_
          obtain ⟨g_200, ho⟩ := ho
          refine va_iast hx hb hK hP hD hS 3 0 rfl rfl g_200 qd_M_production_200 (fun H locs hP hD hS => ?_)
          have hP : va_P (dC, dI) vwCl [(aM, .inr (7, [.int u_131.2, .int vMP, .ref aMh, .ref aMi, .ref aMc, .int vMK, .ref aMt, .int vMB, .ref aMn, .ref aMl, .ref aMs, .int vMD, .ref aMd, .int vME, .ref aMe, .int vMO, .ref aMo, .int vMF, .int vMS, .ref aMw, .ref aMu, .int vMX, .int vMW])), (aMh, .inl (cA, 24, .inl (upd vMh vMP.toNatClampNeg p0))), (aMi, .inl (cA, 72, .inl (upd (upd (upd vMi (3 * vMP).toNatClampNeg p1) ((3 * vMP) + 1).toNatClampNeg p2) ((3 * vMP) + 2).toNatClampNeg p3))), (aMc, .inl (cA, 24, .inl (upd vMc vMP.toNatClampNeg p4))), (aMs, .inl (cZ, 100, .inl (u_86.2)))] H := hP
          have hD : va_D A [(aM, .inr (7, [.int u_131.2, .int vMP, .ref aMh, .ref aMi, .ref aMc, .int vMK, .ref aMt, .int vMB, .ref aMn, .ref aMl, .ref aMs, .int vMD, .ref aMd, .int vME, .ref aMe, .int vMO, .ref aMo, .int vMF, .int vMS, .ref aMw, .ref aMu, .int vMX, .int vMW])), (aMh, .inl (cA, 24, .inl (upd vMh vMP.toNatClampNeg p0))), (aMi, .inl (cA, 72, .inl (upd (upd (upd vMi (3 * vMP).toNatClampNeg p1) ((3 * vMP) + 1).toNatClampNeg p2) ((3 * vMP) + 2).toNatClampNeg p3))), (aMc, .inl (cA, 24, .inl (upd vMc vMP.toNatClampNeg p4))), (aMs, .inl (cZ, 100, .inl (u_86.2)))] := hD
          refine lv_aload_n hx hb qd_M_production_201 rfl (lv_at hl 2 rfl) ?_
          refine lv_dup hx hb qd_M_production_202 rfl ?_
          refine va_get (D := (dC, dI)) (ci := 7) (v := .int vMP) (C := qR_M) (T := qT_M) (N := 23) hx hb hg qi_M hown hK hP 0 rfl rfl 1 (by decide) (hg _ mw_575) (fun _ h9 => h9) rfl qd_M_production_203 ?_
          refine lv_iconst (v := 1) hx hb qd_M_production_206 (by decide) ?_
          refine lv_iadd hx hb qd_M_production_207 ?_
          refine va_put (D := (dC, dI)) (ci := 7) (v := .int (vMP + 1)) (ty := .int) (C := qR_M) (T := qT_M) (N := 23) hx hb hg qi_M qt_M qk_M qn_M hown hK hP hD hS 0 rfl rfl 1 (by decide) (hg _ mw_575) (fun _ h9 => h9) rfl (by decide +kernel) rfl rfl (Nat.le_of_ble_eq_true rfl) qd_M_production_208 (fun H locs hP hD hS => ?_)
          have hP : va_P (dC, dI) vwCl [(aM, .inr (7, [.int u_131.2, .int (vMP + 1), .ref aMh, .ref aMi, .ref aMc, .int vMK, .ref aMt, .int vMB, .ref aMn, .ref aMl, .ref aMs, .int vMD, .ref aMd, .int vME, .ref aMe, .int vMO, .ref aMo, .int vMF, .int vMS, .ref aMw, .ref aMu, .int vMX, .int vMW])), (aMh, .inl (cA, 24, .inl (upd vMh vMP.toNatClampNeg p0))), (aMi, .inl (cA, 72, .inl (upd (upd (upd vMi (3 * vMP).toNatClampNeg p1) ((3 * vMP) + 1).toNatClampNeg p2) ((3 * vMP) + 2).toNatClampNeg p3))), (aMc, .inl (cA, 24, .inl (upd vMc vMP.toNatClampNeg p4))), (aMs, .inl (cZ, 100, .inl (u_86.2)))] H := hP
          have hD : va_D A [(aM, .inr (7, [.int u_131.2, .int (vMP + 1), .ref aMh, .ref aMi, .ref aMc, .int vMK, .ref aMt, .int vMB, .ref aMn, .ref aMl, .ref aMs, .int vMD, .ref aMd, .int vME, .ref aMe, .int vMO, .ref aMo, .int vMF, .int vMS, .ref aMw, .ref aMu, .int vMX, .int vMW])), (aMh, .inl (cA, 24, .inl (upd vMh vMP.toNatClampNeg p0))), (aMi, .inl (cA, 72, .inl (upd (upd (upd vMi (3 * vMP).toNatClampNeg p1) ((3 * vMP) + 1).toNatClampNeg p2) ((3 * vMP) + 2).toNatClampNeg p3))), (aMc, .inl (cA, 24, .inl (upd vMc vMP.toNatClampNeg p4))), (aMs, .inl (cZ, 100, .inl (u_86.2)))] := hD
          refine lv_aload_n hx hb qd_M_production_211 rfl (lv_at hl 2 rfl) ?_
          refine lv_iconst (v := 0) hx hb qd_M_production_212 (by decide) ?_
          refine va_put (D := (dC, dI)) (ci := 7) (v := .int 0) (ty := .boolean) (C := qR_M) (T := qT_M) (N := 23) hx hb hg qi_M qt_M qk_M qn_M hown hK hP hD hS 0 rfl rfl 7 (by decide) (hg _ mw_581) (fun _ h9 => h9) rfl (by decide +kernel) rfl rfl (Nat.le_of_ble_eq_true rfl) qd_M_production_213 (fun H locs hP hD hS => ?_)
          have hP : va_P (dC, dI) vwCl [(aM, .inr (7, [.int u_131.2, .int (vMP + 1), .ref aMh, .ref aMi, .ref aMc, .int vMK, .ref aMt, .int 0, .ref aMn, .ref aMl, .ref aMs, .int vMD, .ref aMd, .int vME, .ref aMe, .int vMO, .ref aMo, .int vMF, .int vMS, .ref aMw, .ref aMu, .int vMX, .int vMW])), (aMh, .inl (cA, 24, .inl (upd vMh vMP.toNatClampNeg p0))), (aMi, .inl (cA, 72, .inl (upd (upd (upd vMi (3 * vMP).toNatClampNeg p1) ((3 * vMP) + 1).toNatClampNeg p2) ((3 * vMP) + 2).toNatClampNeg p3))), (aMc, .inl (cA, 24, .inl (upd vMc vMP.toNatClampNeg p4))), (aMs, .inl (cZ, 100, .inl (u_86.2)))] H := hP
          have hD : va_D A [(aM, .inr (7, [.int u_131.2, .int (vMP + 1), .ref aMh, .ref aMi, .ref aMc, .int vMK, .ref aMt, .int 0, .ref aMn, .ref aMl, .ref aMs, .int vMD, .ref aMd, .int vME, .ref aMe, .int vMO, .ref aMo, .int vMF, .int vMS, .ref aMw, .ref aMu, .int vMX, .int vMW])), (aMh, .inl (cA, 24, .inl (upd vMh vMP.toNatClampNeg p0))), (aMi, .inl (cA, 72, .inl (upd (upd (upd vMi (3 * vMP).toNatClampNeg p1) ((3 * vMP) + 1).toNatClampNeg p2) ((3 * vMP) + 2).toNatClampNeg p3))), (aMc, .inl (cA, 24, .inl (upd vMc vMP.toNatClampNeg p4))), (aMs, .inl (cZ, 100, .inl (u_86.2)))] := hD
          refine lv_aload_n hx hb qd_M_production_216 rfl (lv_at hl 2 rfl) ?_
          refine va_get (D := (dC, dI)) (ci := 7) (v := .int (vMP + 1)) (C := qR_M) (T := qT_M) (N := 23) hx hb hg qi_M hown hK hP 0 rfl rfl 1 (by decide) (hg _ mw_575) (fun _ h9 => h9) rfl qd_M_production_217 ?_
          refine lv_iconst (v := 1) hx hb qd_M_production_220 (by decide) ?_
          refine lv_isub hx hb qd_M_production_221 ?_
          exact W.iret (v := (vMP + 1) - 1) hx hb hr (fun t ht hW => ⟨⟨_, ((vMP + 1) - 1, u_131.2, vMP + 1, 0, upd vMh vMP.toNatClampNeg p0, upd (upd (upd vMi (3 * vMP).toNatClampNeg p1) ((3 * vMP) + 1).toNatClampNeg p2) ((3 * vMP) + 2).toNatClampNeg p3, upd vMc vMP.toNatClampNeg p4, u_86.2), rfl, ⟨hres.symm, rfl⟩, ⟨by rw [ht]; exact hP, va_K.moved hW.alike hK, x_N hN hW⟩, hD⟩, hS.F ht⟩) hS.2.2 qd_M_production_222
        have hres := hres.trans (if_neg c_134)
        have ho := (if_neg c_134).mp ho
        refine lv_iconst (v := 0) hx hb qd_M_production_137 (by decide) ?_
        exact W.iret (v := 0) hx hb hr (fun t ht hW => ⟨⟨_, (0, u_131.2, vMP, vMB, vMh, vMi, vMc, u_86.2), rfl, ⟨hres.symm, rfl⟩, ⟨by rw [ht]; exact hP, va_K.moved hW.alike hK, x_N hN hW⟩, hD⟩, hS.F ht⟩) hS.2.2 qd_M_production_138
      have hres := hres.trans (if_pos c_121)
      have ho := (if_pos c_121).mp ho
      refine lv_iconst (v := 1) hx hb qd_M_production_124 (by decide) ?_
      refine lv_goto (tgt := 129) hx hb qd_M_production_125 (by decide) ?_
      refine lv_iload hx hb qd_M_production_129 (lv_at hl 0 rfl) ?_
      refine xm_Vi (As := [.int 0, .int 1, .int 1]) (rest := []) (w1 := fun (u_131 : Int32 × Int32) => [(aM, .inr (7, [.int u_131.2, .int vMP, .ref aMh, .ref aMi, .ref aMc, .int vMK, .ref aMt, .int vMB, .ref aMn, .ref aMl, .ref aMs, .int vMD, .ref aMd, .int vME, .ref aMe, .int vMO, .ref aMo, .int vMF, .int vMS, .ref aMw, .ref aMu, .int vMX, .int vMW]))]) (w2 := fun (u_131 : Int32 × Int32) => [(aM, .inr (7, [.int u_131.2, .int vMP, .ref aMh, .ref aMi, .ref aMc, .int vMK, .ref aMt, .int vMB, .ref aMn, .ref aMl, .ref aMs, .int vMD, .ref aMd, .int vME, .ref aMe, .int vMO, .ref aMo, .int vMF, .int vMS, .ref aMw, .ref aMu, .int vMX, .int vMW])), (aMh, .inl (cA, 24, .inl (vMh))), (aMi, .inl (cA, 72, .inl (vMi))), (aMc, .inl (cA, 24, .inl (vMc))), (aMs, .inl (cZ, 100, .inl (u_86.2)))]) ⟨hx, hb, hml, hown, hg⟩ (c_M_refuse l dC dI cA cZ aM aMh aMi aMc aMt aMn aMl aMs aMd aMe aMo aMw aMu _ vMT vMP vMK vMB vMD vME vMO vMF vMS vMX vMW 0 1 1) (cwV 3 hg (q_gV mw_642 mw_643 mw_771 mw_8 mw_644) rfl rfl rfl qh_M_refuse ⟨Nat.le_of_ble_eq_true rfl, Nat.le_of_ble_eq_true rfl⟩) hN hK hP hD hS hA [0] [1, 2, 3, 4] rfl rfl (by decide) (by decide) (by decide) [4, 0, 1, 2, 3] (fun _ => rfl) (by decide) 0 7 rfl rfl rfl hl.1 rfl (Nat.le_of_ble_eq_true rfl) qd_M_production_131 ⟨Nat.zero_le _, Nat.zero_le _⟩ (fun u_131 H locs w_131 hP hD hS => ?_)
      have hP : va_P (dC, dI) vwCl [(aM, .inr (7, [.int u_131.2, .int vMP, .ref aMh, .ref aMi, .ref aMc, .int vMK, .ref aMt, .int vMB, .ref aMn, .ref aMl, .ref aMs, .int vMD, .ref aMd, .int vME, .ref aMe, .int vMO, .ref aMo, .int vMF, .int vMS, .ref aMw, .ref aMu, .int vMX, .int vMW])), (aMh, .inl (cA, 24, .inl (vMh))), (aMi, .inl (cA, 72, .inl (vMi))), (aMc, .inl (cA, 24, .inl (vMc))), (aMs, .inl (cZ, 100, .inl (u_86.2)))] H := hP
      have hD : va_D A [(aM, .inr (7, [.int u_131.2, .int vMP, .ref aMh, .ref aMi, .ref aMc, .int vMK, .ref aMt, .int vMB, .ref aMn, .ref aMl, .ref aMs, .int vMD, .ref aMd, .int vME, .ref aMe, .int vMO, .ref aMo, .int vMF, .int vMS, .ref aMw, .ref aMu, .int vMX, .int vMW])), (aMh, .inl (cA, 24, .inl (vMh))), (aMi, .inl (cA, 72, .inl (vMi))), (aMc, .inl (cA, 24, .inl (vMc))), (aMs, .inl (cZ, 100, .inl (u_86.2)))] := hD
      have hres := hres.trans (bd_eq w_131)
      have ho := (bd_eq w_131).mp ho
      refine lv_if_eq (tgt := 139) hx hb qd_M_production_134 (by decide) (fun c_134 => ?_) (fun c_134 => ?_)
      · have hres := hres.trans (if_pos c_134)
        have ho := (if_pos c_134).mp ho
        refine lv_aload_n hx hb qd_M_production_139 rfl (lv_at hl 2 rfl) ?_
        refine va_get (D := (dC, dI)) (ci := 7) (v := .ref aMh) (C := qR_M) (T := qT_M) (N := 23) hx hb hg qi_M hown hK hP 0 rfl rfl 2 (by decide) (hg _ mw_576) (fun _ h9 => h9) rfl qd_M_production_140 ?_
        refine lv_aload_n hx hb qd_M_production_143 rfl (lv_at hl 2 rfl) ?_
        refine va_get (D := (dC, dI)) (ci := 7) (v := .int vMP) (C := qR_M) (T := qT_M) (N := 23) hx hb hg qi_M hown hK hP 0 rfl rfl 1 (by decide) (hg _ mw_575) (fun _ h9 => h9) rfl qd_M_production_144 ?_
        refine lv_iload_n hx hb qd_M_production_147 rfl (lv_at hl 3 rfl) ?_
        obtain ⟨g_148, ho⟩ := ho
        refine va_iast hx hb hK hP hD hS 1 0 rfl rfl g_148 qd_M_production_148 (fun H locs hP hD hS => ?_)
        have hP : va_P (dC, dI) vwCl [(aM, .inr (7, [.int u_131.2, .int vMP, .ref aMh, .ref aMi, .ref aMc, .int vMK, .ref aMt, .int vMB, .ref aMn, .ref aMl, .ref aMs, .int vMD, .ref aMd, .int vME, .ref aMe, .int vMO, .ref aMo, .int vMF, .int vMS, .ref aMw, .ref aMu, .int vMX, .int vMW])), (aMh, .inl (cA, 24, .inl (upd vMh vMP.toNatClampNeg p0))), (aMi, .inl (cA, 72, .inl (vMi))), (aMc, .inl (cA, 24, .inl (vMc))), (aMs, .inl (cZ, 100, .inl (u_86.2)))] H := hP
        have hD : va_D A [(aM, .inr (7, [.int u_131.2, .int vMP, .ref aMh, .ref aMi, .ref aMc, .int vMK, .ref aMt, .int vMB, .ref aMn, .ref aMl, .ref aMs, .int vMD, .ref aMd, .int vME, .ref aMe, .int vMO, .ref aMo, .int vMF, .int vMS, .ref aMw, .ref aMu, .int vMX, .int vMW])), (aMh, .inl (cA, 24, .inl (upd vMh vMP.toNatClampNeg p0))), (aMi, .inl (cA, 72, .inl (vMi))), (aMc, .inl (cA, 24, .inl (vMc))), (aMs, .inl (cZ, 100, .inl (u_86.2)))] := hD
        refine lv_aload_n hx hb qd_M_production_149 rfl (lv_at hl 2 rfl) ?_
        refine va_get (D := (dC, dI)) (ci := 7) (v := .ref aMi) (C := qR_M) (T := qT_M) (N := 23) hx hb hg qi_M hown hK hP 0 rfl rfl 3 (by decide) (hg _ mw_577) (fun _ h9 => h9) rfl qd_M_production_150 ?_
        refine lv_iconst (v := 3) hx hb qd_M_production_153 (by decide) ?_
        refine lv_aload_n hx hb qd_M_production_154 rfl (lv_at hl 2 rfl) ?_
        refine va_get (D := (dC, dI)) (ci := 7) (v := .int vMP) (C := qR_M) (T := qT_M) (N := 23) hx hb hg qi_M hown hK hP 0 rfl rfl 1 (by decide) (hg _ mw_575) (fun _ h9 => h9) rfl qd_M_production_155 ?_
        refine lv_imul hx hb qd_M_production_158 ?_
        refine lv_iload_n hx hb qd_M_production_159 rfl (lv_at hl 4 rfl) ?_
        obtain ⟨g_160, ho⟩ := ho
        refine va_iast hx hb hK hP hD hS 2 0 rfl rfl g_160 qd_M_production_160 (fun H locs hP hD hS => ?_)
        have hP : va_P (dC, dI) vwCl [(aM, .inr (7, [.int u_131.2, .int vMP, .ref aMh, .ref aMi, .ref aMc, .int vMK, .ref aMt, .int vMB, .ref aMn, .ref aMl, .ref aMs, .int vMD, .ref aMd, .int vME, .ref aMe, .int vMO, .ref aMo, .int vMF, .int vMS, .ref aMw, .ref aMu, .int vMX, .int vMW])), (aMh, .inl (cA, 24, .inl (upd vMh vMP.toNatClampNeg p0))), (aMi, .inl (cA, 72, .inl (upd vMi (3 * vMP).toNatClampNeg p1))), (aMc, .inl (cA, 24, .inl (vMc))), (aMs, .inl (cZ, 100, .inl (u_86.2)))] H := hP
        have hD : va_D A [(aM, .inr (7, [.int u_131.2, .int vMP, .ref aMh, .ref aMi, .ref aMc, .int vMK, .ref aMt, .int vMB, .ref aMn, .ref aMl, .ref aMs, .int vMD, .ref aMd, .int vME, .ref aMe, .int vMO, .ref aMo, .int vMF, .int vMS, .ref aMw, .ref aMu, .int vMX, .int vMW])), (aMh, .inl (cA, 24, .inl (upd vMh vMP.toNatClampNeg p0))), (aMi, .inl (cA, 72, .inl (upd vMi (3 * vMP).toNatClampNeg p1))), (aMc, .inl (cA, 24, .inl (vMc))), (aMs, .inl (cZ, 100, .inl (u_86.2)))] := hD
        refine lv_aload_n hx hb qd_M_production_161 rfl (lv_at hl 2 rfl) ?_
        refine va_get (D := (dC, dI)) (ci := 7) (v := .ref aMi) (C := qR_M) (T := qT_M) (N := 23) hx hb hg qi_M hown hK hP 0 rfl rfl 3 (by decide) (hg _ mw_577) (fun _ h9 => h9) rfl qd_M_production_162 ?_
        refine lv_iconst (v := 3) hx hb qd_M_production_165 (by decide) ?_
        refine lv_aload_n hx hb qd_M_production_166 rfl (lv_at hl 2 rfl) ?_
        refine va_get (D := (dC, dI)) (ci := 7) (v := .int vMP) (C := qR_M) (T := qT_M) (N := 23) hx hb hg qi_M hown hK hP 0 rfl rfl 1 (by decide) (hg _ mw_575) (fun _ h9 => h9) rfl qd_M_production_167 ?_
        refine lv_imul hx hb qd_M_production_170 ?_
        refine lv_iconst (v := 1) hx hb qd_M_production_171 (by decide) ?_
        refine lv_iadd hx hb qd_M_production_172 ?_
        refine lv_iload_n hx hb qd_M_production_173 rfl (lv_at hl 5 rfl) ?_
        obtain ⟨g_174, ho⟩ := ho
        refine va_iast hx hb hK hP hD hS 2 0 rfl rfl g_174 qd_M_production_174 (fun H locs hP hD hS => ?_)
        have hP : va_P (dC, dI) vwCl [(aM, .inr (7, [.int u_131.2, .int vMP, .ref aMh, .ref aMi, .ref aMc, .int vMK, .ref aMt, .int vMB, .ref aMn, .ref aMl, .ref aMs, .int vMD, .ref aMd, .int vME, .ref aMe, .int vMO, .ref aMo, .int vMF, .int vMS, .ref aMw, .ref aMu, .int vMX, .int vMW])), (aMh, .inl (cA, 24, .inl (upd vMh vMP.toNatClampNeg p0))), (aMi, .inl (cA, 72, .inl (upd (upd vMi (3 * vMP).toNatClampNeg p1) ((3 * vMP) + 1).toNatClampNeg p2))), (aMc, .inl (cA, 24, .inl (vMc))), (aMs, .inl (cZ, 100, .inl (u_86.2)))] H := hP
        have hD : va_D A [(aM, .inr (7, [.int u_131.2, .int vMP, .ref aMh, .ref aMi, .ref aMc, .int vMK, .ref aMt, .int vMB, .ref aMn, .ref aMl, .ref aMs, .int vMD, .ref aMd, .int vME, .ref aMe, .int vMO, .ref aMo, .int vMF, .int vMS, .ref aMw, .ref aMu, .int vMX, .int vMW])), (aMh, .inl (cA, 24, .inl (upd vMh vMP.toNatClampNeg p0))), (aMi, .inl (cA, 72, .inl (upd (upd vMi (3 * vMP).toNatClampNeg p1) ((3 * vMP) + 1).toNatClampNeg p2))), (aMc, .inl (cA, 24, .inl (vMc))), (aMs, .inl (cZ, 100, .inl (u_86.2)))] := hD
        refine lv_aload_n hx hb qd_M_production_175 rfl (lv_at hl 2 rfl) ?_
        refine va_get (D := (dC, dI)) (ci := 7) (v := .ref aMi) (C := qR_M) (T := qT_M) (N := 23) hx hb hg qi_M hown hK hP 0 rfl rfl 3 (by decide) (hg _ mw_577) (fun _ h9 => h9) rfl qd_M_production_176 ?_
        refine lv_iconst (v := 3) hx hb qd_M_production_179 (by decide) ?_
        refine lv_aload_n hx hb qd_M_production_180 rfl (lv_at hl 2 rfl) ?_
        refine va_get (D := (dC, dI)) (ci := 7) (v := .int vMP) (C := qR_M) (T := qT_M) (N := 23) hx hb hg qi_M hown hK hP 0 rfl rfl 1 (by decide) (hg _ mw_575) (fun _ h9 => h9) rfl qd_M_production_181 ?_
        refine lv_imul hx hb qd_M_production_184 ?_
        refine lv_iconst (v := 2) hx hb qd_M_production_185 (by decide) ?_
        refine lv_iadd hx hb qd_M_production_186 ?_
        refine lv_iload hx hb qd_M_production_187 (lv_at hl 6 rfl) ?_
        obtain ⟨g_189, ho⟩ := ho
        refine va_iast hx hb hK hP hD hS 2 0 rfl rfl g_189 qd_M_production_189 (fun H locs hP hD hS => ?_)
        have hP : va_P (dC, dI) vwCl [(aM, .inr (7, [.int u_131.2, .int vMP, .ref aMh, .ref aMi, .ref aMc, .int vMK, .ref aMt, .int vMB, .ref aMn, .ref aMl, .ref aMs, .int vMD, .ref aMd, .int vME, .ref aMe, .int vMO, .ref aMo, .int vMF, .int vMS, .ref aMw, .ref aMu, .int vMX, .int vMW])), (aMh, .inl (cA, 24, .inl (upd vMh vMP.toNatClampNeg p0))), (aMi, .inl (cA, 72, .inl (upd (upd (upd vMi (3 * vMP).toNatClampNeg p1) ((3 * vMP) + 1).toNatClampNeg p2) ((3 * vMP) + 2).toNatClampNeg p3))), (aMc, .inl (cA, 24, .inl (vMc))), (aMs, .inl (cZ, 100, .inl (u_86.2)))] H := hP
        have hD : va_D A [(aM, .inr (7, [.int u_131.2, .int vMP, .ref aMh, .ref aMi, .ref aMc, .int vMK, .ref aMt, .int vMB, .ref aMn, .ref aMl, .ref aMs, .int vMD, .ref aMd, .int vME, .ref aMe, .int vMO, .ref aMo, .int vMF, .int vMS, .ref aMw, .ref aMu, .int vMX, .int vMW])), (aMh, .inl (cA, 24, .inl (upd vMh vMP.toNatClampNeg p0))), (aMi, .inl (cA, 72, .inl (upd (upd (upd vMi (3 * vMP).toNatClampNeg p1) ((3 * vMP) + 1).toNatClampNeg p2) ((3 * vMP) + 2).toNatClampNeg p3))), (aMc, .inl (cA, 24, .inl (vMc))), (aMs, .inl (cZ, 100, .inl (u_86.2)))] := hD
        refine lv_aload_n hx hb qd_M_production_190 rfl (lv_at hl 2 rfl) ?_
        refine va_get (D := (dC, dI)) (ci := 7) (v := .ref aMc) (C := qR_M) (T := qT_M) (N := 23) hx hb hg qi_M hown hK hP 0 rfl rfl 4 (by decide) (hg _ mw_578) (fun _ h9 => h9) rfl qd_M_production_191 ?_
        refine lv_aload_n hx hb qd_M_production_194 rfl (lv_at hl 2 rfl) ?_
        refine va_get (D := (dC, dI)) (ci := 7) (v := .int vMP) (C := qR_M) (T := qT_M) (N := 23) hx hb hg qi_M hown hK hP 0 rfl rfl 1 (by decide) (hg _ mw_575) (fun _ h9 => h9) rfl qd_M_production_195 ?_
        refine lv_iload hx hb qd_M_production_198 (lv_at hl 7 rfl) ?_
        obtain ⟨g_200, ho⟩ := ho
        refine va_iast hx hb hK hP hD hS 3 0 rfl rfl g_200 qd_M_production_200 (fun H locs hP hD hS => ?_)
        have hP : va_P (dC, dI) vwCl [(aM, .inr (7, [.int u_131.2, .int vMP, .ref aMh, .ref aMi, .ref aMc, .int vMK, .ref aMt, .int vMB, .ref aMn, .ref aMl, .ref aMs, .int vMD, .ref aMd, .int vME, .ref aMe, .int vMO, .ref aMo, .int vMF, .int vMS, .ref aMw, .ref aMu, .int vMX, .int vMW])), (aMh, .inl (cA, 24, .inl (upd vMh vMP.toNatClampNeg p0))), (aMi, .inl (cA, 72, .inl (upd (upd (upd vMi (3 * vMP).toNatClampNeg p1) ((3 * vMP) + 1).toNatClampNeg p2) ((3 * vMP) + 2).toNatClampNeg p3))), (aMc, .inl (cA, 24, .inl (upd vMc vMP.toNatClampNeg p4))), (aMs, .inl (cZ, 100, .inl (u_86.2)))] H := hP
        have hD : va_D A [(aM, .inr (7, [.int u_131.2, .int vMP, .ref aMh, .ref aMi, .ref aMc, .int vMK, .ref aMt, .int vMB, .ref aMn, .ref aMl, .ref aMs, .int vMD, .ref aMd, .int vME, .ref aMe, .int vMO, .ref aMo, .int vMF, .int vMS, .ref aMw, .ref aMu, .int vMX, .int vMW])), (aMh, .inl (cA, 24, .inl (upd vMh vMP.toNatClampNeg p0))), (aMi, .inl (cA, 72, .inl (upd (upd (upd vMi (3 * vMP).toNatClampNeg p1) ((3 * vMP) + 1).toNatClampNeg p2) ((3 * vMP) + 2).toNatClampNeg p3))), (aMc, .inl (cA, 24, .inl (upd vMc vMP.toNatClampNeg p4))), (aMs, .inl (cZ, 100, .inl (u_86.2)))] := hD
        refine lv_aload_n hx hb qd_M_production_201 rfl (lv_at hl 2 rfl) ?_
        refine lv_dup hx hb qd_M_production_202 rfl ?_
        refine va_get (D := (dC, dI)) (ci := 7) (v := .int vMP) (C := qR_M) (T := qT_M) (N := 23) hx hb hg qi_M hown hK hP 0 rfl rfl 1 (by decide) (hg _ mw_575) (fun _ h9 => h9) rfl qd_M_production_203 ?_
        refine lv_iconst (v := 1) hx hb qd_M_production_206 (by decide) ?_
        refine lv_iadd hx hb qd_M_production_207 ?_
        refine va_put (D := (dC, dI)) (ci := 7) (v := .int (vMP + 1)) (ty := .int) (C := qR_M) (T := qT_M) (N := 23) hx hb hg qi_M qt_M qk_M qn_M hown hK hP hD hS 0 rfl rfl 1 (by decide) (hg _ mw_575) (fun _ h9 => h9) rfl (by decide +kernel) rfl rfl (Nat.le_of_ble_eq_true rfl) qd_M_production_208 (fun H locs hP hD hS => ?_)
        have hP : va_P (dC, dI) vwCl [(aM, .inr (7, [.int u_131.2, .int (vMP + 1), .ref aMh, .ref aMi, .ref aMc, .int vMK, .ref aMt, .int vMB, .ref aMn, .ref aMl, .ref aMs, .int vMD, .ref aMd, .int vME, .ref aMe, .int vMO, .ref aMo, .int vMF, .int vMS, .ref aMw, .ref aMu, .int vMX, .int vMW])), (aMh, .inl (cA, 24, .inl (upd vMh vMP.toNatClampNeg p0))), (aMi, .inl (cA, 72, .inl (upd (upd (upd vMi (3 * vMP).toNatClampNeg p1) ((3 * vMP) + 1).toNatClampNeg p2) ((3 * vMP) + 2).toNatClampNeg p3))), (aMc, .inl (cA, 24, .inl (upd vMc vMP.toNatClampNeg p4))), (aMs, .inl (cZ, 100, .inl (u_86.2)))] H := hP
        have hD : va_D A [(aM, .inr (7, [.int u_131.2, .int (vMP + 1), .ref aMh, .ref aMi, .ref aMc, .int vMK, .ref aMt, .int vMB, .ref aMn, .ref aMl, .ref aMs, .int vMD, .ref aMd, .int vME, .ref aMe, .int vMO, .ref aMo, .int vMF, .int vMS, .ref aMw, .ref aMu, .int vMX, .int vMW])), (aMh, .inl (cA, 24, .inl (upd vMh vMP.toNatClampNeg p0))), (aMi, .inl (cA, 72, .inl (upd (upd (upd vMi (3 * vMP).toNatClampNeg p1) ((3 * vMP) + 1).toNatClampNeg p2) ((3 * vMP) + 2).toNatClampNeg p3))), (aMc, .inl (cA, 24, .inl (upd vMc vMP.toNatClampNeg p4))), (aMs, .inl (cZ, 100, .inl (u_86.2)))] := hD
        refine lv_aload_n hx hb qd_M_production_211 rfl (lv_at hl 2 rfl) ?_
        refine lv_iconst (v := 0) hx hb qd_M_production_212 (by decide) ?_
        refine va_put (D := (dC, dI)) (ci := 7) (v := .int 0) (ty := .boolean) (C := qR_M) (T := qT_M) (N := 23) hx hb hg qi_M qt_M qk_M qn_M hown hK hP hD hS 0 rfl rfl 7 (by decide) (hg _ mw_581) (fun _ h9 => h9) rfl (by decide +kernel) rfl rfl (Nat.le_of_ble_eq_true rfl) qd_M_production_213 (fun H locs hP hD hS => ?_)
        have hP : va_P (dC, dI) vwCl [(aM, .inr (7, [.int u_131.2, .int (vMP + 1), .ref aMh, .ref aMi, .ref aMc, .int vMK, .ref aMt, .int 0, .ref aMn, .ref aMl, .ref aMs, .int vMD, .ref aMd, .int vME, .ref aMe, .int vMO, .ref aMo, .int vMF, .int vMS, .ref aMw, .ref aMu, .int vMX, .int vMW])), (aMh, .inl (cA, 24, .inl (upd vMh vMP.toNatClampNeg p0))), (aMi, .inl (cA, 72, .inl (upd (upd (upd vMi (3 * vMP).toNatClampNeg p1) ((3 * vMP) + 1).toNatClampNeg p2) ((3 * vMP) + 2).toNatClampNeg p3))), (aMc, .inl (cA, 24, .inl (upd vMc vMP.toNatClampNeg p4))), (aMs, .inl (cZ, 100, .inl (u_86.2)))] H := hP
        have hD : va_D A [(aM, .inr (7, [.int u_131.2, .int (vMP + 1), .ref aMh, .ref aMi, .ref aMc, .int vMK, .ref aMt, .int 0, .ref aMn, .ref aMl, .ref aMs, .int vMD, .ref aMd, .int vME, .ref aMe, .int vMO, .ref aMo, .int vMF, .int vMS, .ref aMw, .ref aMu, .int vMX, .int vMW])), (aMh, .inl (cA, 24, .inl (upd vMh vMP.toNatClampNeg p0))), (aMi, .inl (cA, 72, .inl (upd (upd (upd vMi (3 * vMP).toNatClampNeg p1) ((3 * vMP) + 1).toNatClampNeg p2) ((3 * vMP) + 2).toNatClampNeg p3))), (aMc, .inl (cA, 24, .inl (upd vMc vMP.toNatClampNeg p4))), (aMs, .inl (cZ, 100, .inl (u_86.2)))] := hD
        refine lv_aload_n hx hb qd_M_production_216 rfl (lv_at hl 2 rfl) ?_
        refine va_get (D := (dC, dI)) (ci := 7) (v := .int (vMP + 1)) (C := qR_M) (T := qT_M) (N := 23) hx hb hg qi_M hown hK hP 0 rfl rfl 1 (by decide) (hg _ mw_575) (fun _ h9 => h9) rfl qd_M_production_217 ?_
        refine lv_iconst (v := 1) hx hb qd_M_production_220 (by decide) ?_
        refine lv_isub hx hb qd_M_production_221 ?_
        exact W.iret (v := (vMP + 1) - 1) hx hb hr (fun t ht hW => ⟨⟨_, ((vMP + 1) - 1, u_131.2, vMP + 1, 0, upd vMh vMP.toNatClampNeg p0, upd (upd (upd vMi (3 * vMP).toNatClampNeg p1) ((3 * vMP) + 1).toNatClampNeg p2) ((3 * vMP) + 2).toNatClampNeg p3, upd vMc vMP.toNatClampNeg p4, u_86.2), rfl, ⟨hres.symm, rfl⟩, ⟨by rw [ht]; exact hP, va_K.moved hW.alike hK, x_N hN hW⟩, hD⟩, hS.F ht⟩) hS.2.2 qd_M_production_222
      have hres := hres.trans (if_neg c_134)
      have ho := (if_neg c_134).mp ho
      refine lv_iconst (v := 0) hx hb qd_M_production_137 (by decide) ?_
      exact W.iret (v := 0) hx hb hr (fun t ht hW => ⟨⟨_, (0, u_131.2, vMP, vMB, vMh, vMi, vMc, u_86.2), rfl, ⟨hres.symm, rfl⟩, ⟨by rw [ht]; exact hP, va_K.moved hW.alike hK, x_N hN hW⟩, hD⟩, hS.F ht⟩) hS.2.2 qd_M_production_138
    have hres := hres.trans (if_neg c_32)
    have ho := (if_neg c_32).mp ho
    refine lv_iload_n hx hb qd_M_production_35 rfl (lv_at hl 3 rfl) ?_
    refine lv_iconst (v := (-1)) hx hb qd_M_production_36 (by decide) ?_
    refine lv_icmp_eq (tgt := 64) hx hb qd_M_production_37 (by decide) (fun c_37 => ?_) (fun c_37 => ?_)
    rotate_left
    · exact absurd c_19 c_37
    refine lv_iconst (v := 0) hx hb qd_M_production_64 (by decide) ?_
    refine lv_istore (lv' := [(6, .int 0), (0, .ref aM), (1, .int p0), (2, .int p1), (3, .int p2), (4, .int p3), (5, .int p4)]) hx hb qd_M_production_65 hl (by decide) rfl (fun ls hl => ?_)
    refine lv_iload hx hb qd_M_production_67 (lv_at hl 0 rfl) ?_
    refine lv_if_eq (tgt := 96) hx hb qd_M_production_69 (by decide) (fun c_69 => ?_) (fun c_69 => ?_)
    rotate_left
    · exact absurd (by decide) c_69
    refine lv_iconst (v := 0) hx hb qd_M_production_96 (by decide) ?_
    refine lv_istore (lv' := [(7, .int 0), (6, .int 0), (0, .ref aM), (1, .int p0), (2, .int p1), (3, .int p2), (4, .int p3), (5, .int p4)]) hx hb qd_M_production_97 hl (by decide) rfl (fun ls hl => ?_)
    refine lv_aload_n hx hb qd_M_production_99 rfl (lv_at hl 2 rfl) ?_
    refine lv_iload hx hb qd_M_production_100 (lv_at hl 1 rfl) ?_
    refine lv_if_ne (tgt := 109) hx hb qd_M_production_102 (by decide) (fun c_102 => ?_) (fun c_102 => ?_)
    · exact absurd (by decide) c_102
    refine lv_iconst (v := 1) hx hb qd_M_production_105 (by decide) ?_
    refine lv_goto (tgt := 110) hx hb qd_M_production_106 (by decide) ?_
    refine lv_iload hx hb qd_M_production_110 (lv_at hl 1 rfl) ?_
    refine lv_if_eq (tgt := 128) hx hb qd_M_production_112 (by decide) (fun c_112 => ?_) (fun c_112 => ?_)
    rotate_left
    · exact absurd (by decide) c_112
    refine lv_iconst (v := 0) hx hb qd_M_production_128 (by decide) ?_
    refine lv_iload hx hb qd_M_production_129 (lv_at hl 0 rfl) ?_
    refine xm_Vi (As := [.int 1, .int 0, .int 0]) (rest := []) (w1 := fun (u_131 : Int32 × Int32) => [(aM, .inr (7, [.int u_131.2, .int vMP, .ref aMh, .ref aMi, .ref aMc, .int vMK, .ref aMt, .int vMB, .ref aMn, .ref aMl, .ref aMs, .int vMD, .ref aMd, .int vME, .ref aMe, .int vMO, .ref aMo, .int vMF, .int vMS, .ref aMw, .ref aMu, .int vMX, .int vMW]))]) (w2 := fun (u_131 : Int32 × Int32) => [(aM, .inr (7, [.int u_131.2, .int vMP, .ref aMh, .ref aMi, .ref aMc, .int vMK, .ref aMt, .int vMB, .ref aMn, .ref aMl, .ref aMs, .int vMD, .ref aMd, .int vME, .ref aMe, .int vMO, .ref aMo, .int vMF, .int vMS, .ref aMw, .ref aMu, .int vMX, .int vMW])), (aMh, .inl (cA, 24, .inl (vMh))), (aMi, .inl (cA, 72, .inl (vMi))), (aMc, .inl (cA, 24, .inl (vMc))), (aMs, .inl (cZ, 100, .inl (vMs)))]) ⟨hx, hb, hml, hown, hg⟩ (c_M_refuse l dC dI cA cZ aM aMh aMi aMc aMt aMn aMl aMs aMd aMe aMo aMw aMu _ vMT vMP vMK vMB vMD vME vMO vMF vMS vMX vMW 1 0 0) (cwV 3 hg (q_gV mw_642 mw_643 mw_771 mw_8 mw_644) rfl rfl rfl qh_M_refuse ⟨Nat.le_of_ble_eq_true rfl, Nat.le_of_ble_eq_true rfl⟩) hN hK hP hD hS hA [0] [1, 2, 3, 4] rfl rfl (by decide) (by decide) (by decide) [4, 0, 1, 2, 3] (fun _ => rfl) (by decide) 0 7 rfl rfl rfl hl.1 rfl (Nat.le_of_ble_eq_true rfl) qd_M_production_131 ⟨Nat.zero_le _, Nat.zero_le _⟩ (fun u_131 H locs w_131 hP hD hS => ?_)
    have hP : va_P (dC, dI) vwCl [(aM, .inr (7, [.int u_131.2, .int vMP, .ref aMh, .ref aMi, .ref aMc, .int vMK, .ref aMt, .int vMB, .ref aMn, .ref aMl, .ref aMs, .int vMD, .ref aMd, .int vME, .ref aMe, .int vMO, .ref aMo, .int vMF, .int vMS, .ref aMw, .ref aMu, .int vMX, .int vMW])), (aMh, .inl (cA, 24, .inl (vMh))), (aMi, .inl (cA, 72, .inl (vMi))), (aMc, .inl (cA, 24, .inl (vMc))), (aMs, .inl (cZ, 100, .inl (vMs)))] H := hP
    have hD : va_D A [(aM, .inr (7, [.int u_131.2, .int vMP, .ref aMh, .ref aMi, .ref aMc, .int vMK, .ref aMt, .int vMB, .ref aMn, .ref aMl, .ref aMs, .int vMD, .ref aMd, .int vME, .ref aMe, .int vMO, .ref aMo, .int vMF, .int vMS, .ref aMw, .ref aMu, .int vMX, .int vMW])), (aMh, .inl (cA, 24, .inl (vMh))), (aMi, .inl (cA, 72, .inl (vMi))), (aMc, .inl (cA, 24, .inl (vMc))), (aMs, .inl (cZ, 100, .inl (vMs)))] := hD
    have hres := hres.trans (bd_eq w_131)
    have ho := (bd_eq w_131).mp ho
    refine lv_if_eq (tgt := 139) hx hb qd_M_production_134 (by decide) (fun c_134 => ?_) (fun c_134 => ?_)
    · have hres := hres.trans (if_pos c_134)
      have ho := (if_pos c_134).mp ho
      refine lv_aload_n hx hb qd_M_production_139 rfl (lv_at hl 2 rfl) ?_
      refine va_get (D := (dC, dI)) (ci := 7) (v := .ref aMh) (C := qR_M) (T := qT_M) (N := 23) hx hb hg qi_M hown hK hP 0 rfl rfl 2 (by decide) (hg _ mw_576) (fun _ h9 => h9) rfl qd_M_production_140 ?_
      refine lv_aload_n hx hb qd_M_production_143 rfl (lv_at hl 2 rfl) ?_
      refine va_get (D := (dC, dI)) (ci := 7) (v := .int vMP) (C := qR_M) (T := qT_M) (N := 23) hx hb hg qi_M hown hK hP 0 rfl rfl 1 (by decide) (hg _ mw_575) (fun _ h9 => h9) rfl qd_M_production_144 ?_
      refine lv_iload_n hx hb qd_M_production_147 rfl (lv_at hl 3 rfl) ?_
      obtain ⟨g_148, ho⟩ := ho
      refine va_iast hx hb hK hP hD hS 1 0 rfl rfl g_148 qd_M_production_148 (fun H locs hP hD hS => ?_)
      have hP : va_P (dC, dI) vwCl [(aM, .inr (7, [.int u_131.2, .int vMP, .ref aMh, .ref aMi, .ref aMc, .int vMK, .ref aMt, .int vMB, .ref aMn, .ref aMl, .ref aMs, .int vMD, .ref aMd, .int vME, .ref aMe, .int vMO, .ref aMo, .int vMF, .int vMS, .ref aMw, .ref aMu, .int vMX, .int vMW])), (aMh, .inl (cA, 24, .inl (upd vMh vMP.toNatClampNeg p0))), (aMi, .inl (cA, 72, .inl (vMi))), (aMc, .inl (cA, 24, .inl (vMc))), (aMs, .inl (cZ, 100, .inl (vMs)))] H := hP
      have hD : va_D A [(aM, .inr (7, [.int u_131.2, .int vMP, .ref aMh, .ref aMi, .ref aMc, .int vMK, .ref aMt, .int vMB, .ref aMn, .ref aMl, .ref aMs, .int vMD, .ref aMd, .int vME, .ref aMe, .int vMO, .ref aMo, .int vMF, .int vMS, .ref aMw, .ref aMu, .int vMX, .int vMW])), (aMh, .inl (cA, 24, .inl (upd vMh vMP.toNatClampNeg p0))), (aMi, .inl (cA, 72, .inl (vMi))), (aMc, .inl (cA, 24, .inl (vMc))), (aMs, .inl (cZ, 100, .inl (vMs)))] := hD
      refine lv_aload_n hx hb qd_M_production_149 rfl (lv_at hl 2 rfl) ?_
      refine va_get (D := (dC, dI)) (ci := 7) (v := .ref aMi) (C := qR_M) (T := qT_M) (N := 23) hx hb hg qi_M hown hK hP 0 rfl rfl 3 (by decide) (hg _ mw_577) (fun _ h9 => h9) rfl qd_M_production_150 ?_
      refine lv_iconst (v := 3) hx hb qd_M_production_153 (by decide) ?_
      refine lv_aload_n hx hb qd_M_production_154 rfl (lv_at hl 2 rfl) ?_
      refine va_get (D := (dC, dI)) (ci := 7) (v := .int vMP) (C := qR_M) (T := qT_M) (N := 23) hx hb hg qi_M hown hK hP 0 rfl rfl 1 (by decide) (hg _ mw_575) (fun _ h9 => h9) rfl qd_M_production_155 ?_
      refine lv_imul hx hb qd_M_production_158 ?_
      refine lv_iload_n hx hb qd_M_production_159 rfl (lv_at hl 4 rfl) ?_
      obtain ⟨g_160, ho⟩ := ho
      refine va_iast hx hb hK hP hD hS 2 0 rfl rfl g_160 qd_M_production_160 (fun H locs hP hD hS => ?_)
      have hP : va_P (dC, dI) vwCl [(aM, .inr (7, [.int u_131.2, .int vMP, .ref aMh, .ref aMi, .ref aMc, .int vMK, .ref aMt, .int vMB, .ref aMn, .ref aMl, .ref aMs, .int vMD, .ref aMd, .int vME, .ref aMe, .int vMO, .ref aMo, .int vMF, .int vMS, .ref aMw, .ref aMu, .int vMX, .int vMW])), (aMh, .inl (cA, 24, .inl (upd vMh vMP.toNatClampNeg p0))), (aMi, .inl (cA, 72, .inl (upd vMi (3 * vMP).toNatClampNeg p1))), (aMc, .inl (cA, 24, .inl (vMc))), (aMs, .inl (cZ, 100, .inl (vMs)))] H := hP
      have hD : va_D A [(aM, .inr (7, [.int u_131.2, .int vMP, .ref aMh, .ref aMi, .ref aMc, .int vMK, .ref aMt, .int vMB, .ref aMn, .ref aMl, .ref aMs, .int vMD, .ref aMd, .int vME, .ref aMe, .int vMO, .ref aMo, .int vMF, .int vMS, .ref aMw, .ref aMu, .int vMX, .int vMW])), (aMh, .inl (cA, 24, .inl (upd vMh vMP.toNatClampNeg p0))), (aMi, .inl (cA, 72, .inl (upd vMi (3 * vMP).toNatClampNeg p1))), (aMc, .inl (cA, 24, .inl (vMc))), (aMs, .inl (cZ, 100, .inl (vMs)))] := hD
      refine lv_aload_n hx hb qd_M_production_161 rfl (lv_at hl 2 rfl) ?_
      refine va_get (D := (dC, dI)) (ci := 7) (v := .ref aMi) (C := qR_M) (T := qT_M) (N := 23) hx hb hg qi_M hown hK hP 0 rfl rfl 3 (by decide) (hg _ mw_577) (fun _ h9 => h9) rfl qd_M_production_162 ?_
      refine lv_iconst (v := 3) hx hb qd_M_production_165 (by decide) ?_
      refine lv_aload_n hx hb qd_M_production_166 rfl (lv_at hl 2 rfl) ?_
      refine va_get (D := (dC, dI)) (ci := 7) (v := .int vMP) (C := qR_M) (T := qT_M) (N := 23) hx hb hg qi_M hown hK hP 0 rfl rfl 1 (by decide) (hg _ mw_575) (fun _ h9 => h9) rfl qd_M_production_167 ?_
      refine lv_imul hx hb qd_M_production_170 ?_
      refine lv_iconst (v := 1) hx hb qd_M_production_171 (by decide) ?_
      refine lv_iadd hx hb qd_M_production_172 ?_
      refine lv_iload_n hx hb qd_M_production_173 rfl (lv_at hl 5 rfl) ?_
      obtain ⟨g_174, ho⟩ := ho
      refine va_iast hx hb hK hP hD hS 2 0 rfl rfl g_174 qd_M_production_174 (fun H locs hP hD hS => ?_)
      have hP : va_P (dC, dI) vwCl [(aM, .inr (7, [.int u_131.2, .int vMP, .ref aMh, .ref aMi, .ref aMc, .int vMK, .ref aMt, .int vMB, .ref aMn, .ref aMl, .ref aMs, .int vMD, .ref aMd, .int vME, .ref aMe, .int vMO, .ref aMo, .int vMF, .int vMS, .ref aMw, .ref aMu, .int vMX, .int vMW])), (aMh, .inl (cA, 24, .inl (upd vMh vMP.toNatClampNeg p0))), (aMi, .inl (cA, 72, .inl (upd (upd vMi (3 * vMP).toNatClampNeg p1) ((3 * vMP) + 1).toNatClampNeg p2))), (aMc, .inl (cA, 24, .inl (vMc))), (aMs, .inl (cZ, 100, .inl (vMs)))] H := hP
      have hD : va_D A [(aM, .inr (7, [.int u_131.2, .int vMP, .ref aMh, .ref aMi, .ref aMc, .int vMK, .ref aMt, .int vMB, .ref aMn, .ref aMl, .ref aMs, .int vMD, .ref aMd, .int vME, .ref aMe, .int vMO, .ref aMo, .int vMF, .int vMS, .ref aMw, .ref aMu, .int vMX, .int vMW])), (aMh, .inl (cA, 24, .inl (upd vMh vMP.toNatClampNeg p0))), (aMi, .inl (cA, 72, .inl (upd (upd vMi (3 * vMP).toNatClampNeg p1) ((3 * vMP) + 1).toNatClampNeg p2))), (aMc, .inl (cA, 24, .inl (vMc))), (aMs, .inl (cZ, 100, .inl (vMs)))] := hD
      refine lv_aload_n hx hb qd_M_production_175 rfl (lv_at hl 2 rfl) ?_
      refine va_get (D := (dC, dI)) (ci := 7) (v := .ref aMi) (C := qR_M) (T := qT_M) (N := 23) hx hb hg qi_M hown hK hP 0 rfl rfl 3 (by decide) (hg _ mw_577) (fun _ h9 => h9) rfl qd_M_production_176 ?_
      refine lv_iconst (v := 3) hx hb qd_M_production_179 (by decide) ?_
      refine lv_aload_n hx hb qd_M_production_180 rfl (lv_at hl 2 rfl) ?_
      refine va_get (D := (dC, dI)) (ci := 7) (v := .int vMP) (C := qR_M) (T := qT_M) (N := 23) hx hb hg qi_M hown hK hP 0 rfl rfl 1 (by decide) (hg _ mw_575) (fun _ h9 => h9) rfl qd_M_production_181 ?_
      refine lv_imul hx hb qd_M_production_184 ?_
      refine lv_iconst (v := 2) hx hb qd_M_production_185 (by decide) ?_
      refine lv_iadd hx hb qd_M_production_186 ?_
      refine lv_iload hx hb qd_M_production_187 (lv_at hl 6 rfl) ?_
      obtain ⟨g_189, ho⟩ := ho
      refine va_iast hx hb hK hP hD hS 2 0 rfl rfl g_189 qd_M_production_189 (fun H locs hP hD hS => ?_)
      have hP : va_P (dC, dI) vwCl [(aM, .inr (7, [.int u_131.2, .int vMP, .ref aMh, .ref aMi, .ref aMc, .int vMK, .ref aMt, .int vMB, .ref aMn, .ref aMl, .ref aMs, .int vMD, .ref aMd, .int vME, .ref aMe, .int vMO, .ref aMo, .int vMF, .int vMS, .ref aMw, .ref aMu, .int vMX, .int vMW])), (aMh, .inl (cA, 24, .inl (upd vMh vMP.toNatClampNeg p0))), (aMi, .inl (cA, 72, .inl (upd (upd (upd vMi (3 * vMP).toNatClampNeg p1) ((3 * vMP) + 1).toNatClampNeg p2) ((3 * vMP) + 2).toNatClampNeg p3))), (aMc, .inl (cA, 24, .inl (vMc))), (aMs, .inl (cZ, 100, .inl (vMs)))] H := hP
      have hD : va_D A [(aM, .inr (7, [.int u_131.2, .int vMP, .ref aMh, .ref aMi, .ref aMc, .int vMK, .ref aMt, .int vMB, .ref aMn, .ref aMl, .ref aMs, .int vMD, .ref aMd, .int vME, .ref aMe, .int vMO, .ref aMo, .int vMF, .int vMS, .ref aMw, .ref aMu, .int vMX, .int vMW])), (aMh, .inl (cA, 24, .inl (upd vMh vMP.toNatClampNeg p0))), (aMi, .inl (cA, 72, .inl (upd (upd (upd vMi (3 * vMP).toNatClampNeg p1) ((3 * vMP) + 1).toNatClampNeg p2) ((3 * vMP) + 2).toNatClampNeg p3))), (aMc, .inl (cA, 24, .inl (vMc))), (aMs, .inl (cZ, 100, .inl (vMs)))] := hD
      refine lv_aload_n hx hb qd_M_production_190 rfl (lv_at hl 2 rfl) ?_
      refine va_get (D := (dC, dI)) (ci := 7) (v := .ref aMc) (C := qR_M) (T := qT_M) (N := 23) hx hb hg qi_M hown hK hP 0 rfl rfl 4 (by decide) (hg _ mw_578) (fun _ h9 => h9) rfl qd_M_production_191 ?_
      refine lv_aload_n hx hb qd_M_production_194 rfl (lv_at hl 2 rfl) ?_
      refine va_get (D := (dC, dI)) (ci := 7) (v := .int vMP) (C := qR_M) (T := qT_M) (N := 23) hx hb hg qi_M hown hK hP 0 rfl rfl 1 (by decide) (hg _ mw_575) (fun _ h9 => h9) rfl qd_M_production_195 ?_
      refine lv_iload hx hb qd_M_production_198 (lv_at hl 7 rfl) ?_
      obtain ⟨g_200, ho⟩ := ho
      refine va_iast hx hb hK hP hD hS 3 0 rfl rfl g_200 qd_M_production_200 (fun H locs hP hD hS => ?_)
      have hP : va_P (dC, dI) vwCl [(aM, .inr (7, [.int u_131.2, .int vMP, .ref aMh, .ref aMi, .ref aMc, .int vMK, .ref aMt, .int vMB, .ref aMn, .ref aMl, .ref aMs, .int vMD, .ref aMd, .int vME, .ref aMe, .int vMO, .ref aMo, .int vMF, .int vMS, .ref aMw, .ref aMu, .int vMX, .int vMW])), (aMh, .inl (cA, 24, .inl (upd vMh vMP.toNatClampNeg p0))), (aMi, .inl (cA, 72, .inl (upd (upd (upd vMi (3 * vMP).toNatClampNeg p1) ((3 * vMP) + 1).toNatClampNeg p2) ((3 * vMP) + 2).toNatClampNeg p3))), (aMc, .inl (cA, 24, .inl (upd vMc vMP.toNatClampNeg p4))), (aMs, .inl (cZ, 100, .inl (vMs)))] H := hP
      have hD : va_D A [(aM, .inr (7, [.int u_131.2, .int vMP, .ref aMh, .ref aMi, .ref aMc, .int vMK, .ref aMt, .int vMB, .ref aMn, .ref aMl, .ref aMs, .int vMD, .ref aMd, .int vME, .ref aMe, .int vMO, .ref aMo, .int vMF, .int vMS, .ref aMw, .ref aMu, .int vMX, .int vMW])), (aMh, .inl (cA, 24, .inl (upd vMh vMP.toNatClampNeg p0))), (aMi, .inl (cA, 72, .inl (upd (upd (upd vMi (3 * vMP).toNatClampNeg p1) ((3 * vMP) + 1).toNatClampNeg p2) ((3 * vMP) + 2).toNatClampNeg p3))), (aMc, .inl (cA, 24, .inl (upd vMc vMP.toNatClampNeg p4))), (aMs, .inl (cZ, 100, .inl (vMs)))] := hD
      refine lv_aload_n hx hb qd_M_production_201 rfl (lv_at hl 2 rfl) ?_
      refine lv_dup hx hb qd_M_production_202 rfl ?_
      refine va_get (D := (dC, dI)) (ci := 7) (v := .int vMP) (C := qR_M) (T := qT_M) (N := 23) hx hb hg qi_M hown hK hP 0 rfl rfl 1 (by decide) (hg _ mw_575) (fun _ h9 => h9) rfl qd_M_production_203 ?_
      refine lv_iconst (v := 1) hx hb qd_M_production_206 (by decide) ?_
      refine lv_iadd hx hb qd_M_production_207 ?_
      refine va_put (D := (dC, dI)) (ci := 7) (v := .int (vMP + 1)) (ty := .int) (C := qR_M) (T := qT_M) (N := 23) hx hb hg qi_M qt_M qk_M qn_M hown hK hP hD hS 0 rfl rfl 1 (by decide) (hg _ mw_575) (fun _ h9 => h9) rfl (by decide +kernel) rfl rfl (Nat.le_of_ble_eq_true rfl) qd_M_production_208 (fun H locs hP hD hS => ?_)
      have hP : va_P (dC, dI) vwCl [(aM, .inr (7, [.int u_131.2, .int (vMP + 1), .ref aMh, .ref aMi, .ref aMc, .int vMK, .ref aMt, .int vMB, .ref aMn, .ref aMl, .ref aMs, .int vMD, .ref aMd, .int vME, .ref aMe, .int vMO, .ref aMo, .int vMF, .int vMS, .ref aMw, .ref aMu, .int vMX, .int vMW])), (aMh, .inl (cA, 24, .inl (upd vMh vMP.toNatClampNeg p0))), (aMi, .inl (cA, 72, .inl (upd (upd (upd vMi (3 * vMP).toNatClampNeg p1) ((3 * vMP) + 1).toNatClampNeg p2) ((3 * vMP) + 2).toNatClampNeg p3))), (aMc, .inl (cA, 24, .inl (upd vMc vMP.toNatClampNeg p4))), (aMs, .inl (cZ, 100, .inl (vMs)))] H := hP
      have hD : va_D A [(aM, .inr (7, [.int u_131.2, .int (vMP + 1), .ref aMh, .ref aMi, .ref aMc, .int vMK, .ref aMt, .int vMB, .ref aMn, .ref aMl, .ref aMs, .int vMD, .ref aMd, .int vME, .ref aMe, .int vMO, .ref aMo, .int vMF, .int vMS, .ref aMw, .ref aMu, .int vMX, .int vMW])), (aMh, .inl (cA, 24, .inl (upd vMh vMP.toNatClampNeg p0))), (aMi, .inl (cA, 72, .inl (upd (upd (upd vMi (3 * vMP).toNatClampNeg p1) ((3 * vMP) + 1).toNatClampNeg p2) ((3 * vMP) + 2).toNatClampNeg p3))), (aMc, .inl (cA, 24, .inl (upd vMc vMP.toNatClampNeg p4))), (aMs, .inl (cZ, 100, .inl (vMs)))] := hD
      refine lv_aload_n hx hb qd_M_production_211 rfl (lv_at hl 2 rfl) ?_
      refine lv_iconst (v := 0) hx hb qd_M_production_212 (by decide) ?_
      refine va_put (D := (dC, dI)) (ci := 7) (v := .int 0) (ty := .boolean) (C := qR_M) (T := qT_M) (N := 23) hx hb hg qi_M qt_M qk_M qn_M hown hK hP hD hS 0 rfl rfl 7 (by decide) (hg _ mw_581) (fun _ h9 => h9) rfl (by decide +kernel) rfl rfl (Nat.le_of_ble_eq_true rfl) qd_M_production_213 (fun H locs hP hD hS => ?_)
      have hP : va_P (dC, dI) vwCl [(aM, .inr (7, [.int u_131.2, .int (vMP + 1), .ref aMh, .ref aMi, .ref aMc, .int vMK, .ref aMt, .int 0, .ref aMn, .ref aMl, .ref aMs, .int vMD, .ref aMd, .int vME, .ref aMe, .int vMO, .ref aMo, .int vMF, .int vMS, .ref aMw, .ref aMu, .int vMX, .int vMW])), (aMh, .inl (cA, 24, .inl (upd vMh vMP.toNatClampNeg p0))), (aMi, .inl (cA, 72, .inl (upd (upd (upd vMi (3 * vMP).toNatClampNeg p1) ((3 * vMP) + 1).toNatClampNeg p2) ((3 * vMP) + 2).toNatClampNeg p3))), (aMc, .inl (cA, 24, .inl (upd vMc vMP.toNatClampNeg p4))), (aMs, .inl (cZ, 100, .inl (vMs)))] H := hP
      have hD : va_D A [(aM, .inr (7, [.int u_131.2, .int (vMP + 1), .ref aMh, .ref aMi, .ref aMc, .int vMK, .ref aMt, .int 0, .ref aMn, .ref aMl, .ref aMs, .int vMD, .ref aMd, .int vME, .ref aMe, .int vMO, .ref aMo, .int vMF, .int vMS, .ref aMw, .ref aMu, .int vMX, .int vMW])), (aMh, .inl (cA, 24, .inl (upd vMh vMP.toNatClampNeg p0))), (aMi, .inl (cA, 72, .inl (upd (upd (upd vMi (3 * vMP).toNatClampNeg p1) ((3 * vMP) + 1).toNatClampNeg p2) ((3 * vMP) + 2).toNatClampNeg p3))), (aMc, .inl (cA, 24, .inl (upd vMc vMP.toNatClampNeg p4))), (aMs, .inl (cZ, 100, .inl (vMs)))] := hD
      refine lv_aload_n hx hb qd_M_production_216 rfl (lv_at hl 2 rfl) ?_
      refine va_get (D := (dC, dI)) (ci := 7) (v := .int (vMP + 1)) (C := qR_M) (T := qT_M) (N := 23) hx hb hg qi_M hown hK hP 0 rfl rfl 1 (by decide) (hg _ mw_575) (fun _ h9 => h9) rfl qd_M_production_217 ?_
      refine lv_iconst (v := 1) hx hb qd_M_production_220 (by decide) ?_
      refine lv_isub hx hb qd_M_production_221 ?_
      exact W.iret (v := (vMP + 1) - 1) hx hb hr (fun t ht hW => ⟨⟨_, ((vMP + 1) - 1, u_131.2, vMP + 1, 0, upd vMh vMP.toNatClampNeg p0, upd (upd (upd vMi (3 * vMP).toNatClampNeg p1) ((3 * vMP) + 1).toNatClampNeg p2) ((3 * vMP) + 2).toNatClampNeg p3, upd vMc vMP.toNatClampNeg p4, vMs), rfl, ⟨hres.symm, rfl⟩, ⟨by rw [ht]; exact hP, va_K.moved hW.alike hK, x_N hN hW⟩, hD⟩, hS.F ht⟩) hS.2.2 qd_M_production_222
    have hres := hres.trans (if_neg c_134)
    have ho := (if_neg c_134).mp ho
    refine lv_iconst (v := 0) hx hb qd_M_production_137 (by decide) ?_
    exact W.iret (v := 0) hx hb hr (fun t ht hW => ⟨⟨_, (0, u_131.2, vMP, vMB, vMh, vMi, vMc, vMs), rfl, ⟨hres.symm, rfl⟩, ⟨by rw [ht]; exact hP, va_K.moved hW.alike hK, x_N hN hW⟩, hD⟩, hS.F ht⟩) hS.2.2 qd_M_production_138
  have hres := hres.trans (if_neg c_19)
  have ho := (if_neg c_19).mp ho
  refine lv_iload_n hx hb qd_M_production_22 rfl (lv_at hl 3 rfl) ?_
  obtain ⟨g_23, ho⟩ := ho
  refine xc_S (As := [.int p2]) (rest := []) ⟨hx, hb, hml, hown, hg⟩ (c_M_isItem l dC dI cA cZ p2 g_23) (va_cwS 1 hg (q_gS mw_636 mw_637 mw_8 mw_638) rfl rfl rfl qh_M_isItem.2 ⟨Nat.le_of_ble_eq_true rfl, Nat.le_of_ble_eq_true rfl⟩) hN hK hP [] rfl rfl hl.1 rfl (Nat.le_of_ble_eq_true rfl) qd_M_production_23 ⟨Nat.zero_le _, Nat.zero_le _⟩ ?_
  refine lv_topi (fun r_23 w_23 => ?_)
  have hres := hres.trans (bd_eq w_23)
  have ho := (bd_eq w_23).mp ho
  refine lv_if_eq (tgt := 64) hx hb qd_M_production_26 (by decide) (fun c_26 => ?_) (fun c_26 => ?_)
  · have hres := hres.trans (if_pos c_26)
    have ho := (if_pos c_26).mp ho
    refine lv_iconst (v := 0) hx hb qd_M_production_64 (by decide) ?_
    refine lv_istore (lv' := [(6, .int 0), (0, .ref aM), (1, .int p0), (2, .int p1), (3, .int p2), (4, .int p3), (5, .int p4)]) hx hb qd_M_production_65 hl (by decide) rfl (fun ls hl => ?_)
    refine lv_iload hx hb qd_M_production_67 (lv_at hl 0 rfl) ?_
    refine lv_if_eq (tgt := 96) hx hb qd_M_production_69 (by decide) (fun c_69 => ?_) (fun c_69 => ?_)
    rotate_left
    · exact absurd (by decide) c_69
    refine lv_iconst (v := 0) hx hb qd_M_production_96 (by decide) ?_
    refine lv_istore (lv' := [(7, .int 0), (6, .int 0), (0, .ref aM), (1, .int p0), (2, .int p1), (3, .int p2), (4, .int p3), (5, .int p4)]) hx hb qd_M_production_97 hl (by decide) rfl (fun ls hl => ?_)
    refine lv_aload_n hx hb qd_M_production_99 rfl (lv_at hl 2 rfl) ?_
    refine lv_iload hx hb qd_M_production_100 (lv_at hl 1 rfl) ?_
    refine lv_if_ne (tgt := 109) hx hb qd_M_production_102 (by decide) (fun c_102 => ?_) (fun c_102 => ?_)
    · exact absurd (by decide) c_102
    refine lv_iconst (v := 1) hx hb qd_M_production_105 (by decide) ?_
    refine lv_goto (tgt := 110) hx hb qd_M_production_106 (by decide) ?_
    refine lv_iload hx hb qd_M_production_110 (lv_at hl 1 rfl) ?_
    refine lv_if_eq (tgt := 128) hx hb qd_M_production_112 (by decide) (fun c_112 => ?_) (fun c_112 => ?_)
    rotate_left
    · exact absurd (by decide) c_112
    refine lv_iconst (v := 0) hx hb qd_M_production_128 (by decide) ?_
    refine lv_iload hx hb qd_M_production_129 (lv_at hl 0 rfl) ?_
    refine xm_Vi (As := [.int 1, .int 0, .int 0]) (rest := []) (w1 := fun (u_131 : Int32 × Int32) => [(aM, .inr (7, [.int u_131.2, .int vMP, .ref aMh, .ref aMi, .ref aMc, .int vMK, .ref aMt, .int vMB, .ref aMn, .ref aMl, .ref aMs, .int vMD, .ref aMd, .int vME, .ref aMe, .int vMO, .ref aMo, .int vMF, .int vMS, .ref aMw, .ref aMu, .int vMX, .int vMW]))]) (w2 := fun (u_131 : Int32 × Int32) => [(aM, .inr (7, [.int u_131.2, .int vMP, .ref aMh, .ref aMi, .ref aMc, .int vMK, .ref aMt, .int vMB, .ref aMn, .ref aMl, .ref aMs, .int vMD, .ref aMd, .int vME, .ref aMe, .int vMO, .ref aMo, .int vMF, .int vMS, .ref aMw, .ref aMu, .int vMX, .int vMW])), (aMh, .inl (cA, 24, .inl (vMh))), (aMi, .inl (cA, 72, .inl (vMi))), (aMc, .inl (cA, 24, .inl (vMc))), (aMs, .inl (cZ, 100, .inl (vMs)))]) ⟨hx, hb, hml, hown, hg⟩ (c_M_refuse l dC dI cA cZ aM aMh aMi aMc aMt aMn aMl aMs aMd aMe aMo aMw aMu _ vMT vMP vMK vMB vMD vME vMO vMF vMS vMX vMW 1 0 0) (cwV 3 hg (q_gV mw_642 mw_643 mw_771 mw_8 mw_644) rfl rfl rfl qh_M_refuse ⟨Nat.le_of_ble_eq_true rfl, Nat.le_of_ble_eq_true rfl⟩) hN hK hP hD hS hA [0] [1, 2, 3, 4] rfl rfl (by decide) (by decide) (by decide) [4, 0, 1, 2, 3] (fun _ => rfl) (by decide) 0 7 rfl rfl rfl hl.1 rfl (Nat.le_of_ble_eq_true rfl) qd_M_production_131 ⟨Nat.zero_le _, Nat.zero_le _⟩ (fun u_131 H locs w_131 hP hD hS => ?_)
    have hP : va_P (dC, dI) vwCl [(aM, .inr (7, [.int u_131.2, .int vMP, .ref aMh, .ref aMi, .ref aMc, .int vMK, .ref aMt, .int vMB, .ref aMn, .ref aMl, .ref aMs, .int vMD, .ref aMd, .int vME, .ref aMe, .int vMO, .ref aMo, .int vMF, .int vMS, .ref aMw, .ref aMu, .int vMX, .int vMW])), (aMh, .inl (cA, 24, .inl (vMh))), (aMi, .inl (cA, 72, .inl (vMi))), (aMc, .inl (cA, 24, .inl (vMc))), (aMs, .inl (cZ, 100, .inl (vMs)))] H := hP
    have hD : va_D A [(aM, .inr (7, [.int u_131.2, .int vMP, .ref aMh, .ref aMi, .ref aMc, .int vMK, .ref aMt, .int vMB, .ref aMn, .ref aMl, .ref aMs, .int vMD, .ref aMd, .int vME, .ref aMe, .int vMO, .ref aMo, .int vMF, .int vMS, .ref aMw, .ref aMu, .int vMX, .int vMW])), (aMh, .inl (cA, 24, .inl (vMh))), (aMi, .inl (cA, 72, .inl (vMi))), (aMc, .inl (cA, 24, .inl (vMc))), (aMs, .inl (cZ, 100, .inl (vMs)))] := hD
    have hres := hres.trans (bd_eq w_131)
    have ho := (bd_eq w_131).mp ho
    refine lv_if_eq (tgt := 139) hx hb qd_M_production_134 (by decide) (fun c_134 => ?_) (fun c_134 => ?_)
    · have hres := hres.trans (if_pos c_134)
      have ho := (if_pos c_134).mp ho
      refine lv_aload_n hx hb qd_M_production_139 rfl (lv_at hl 2 rfl) ?_
      refine va_get (D := (dC, dI)) (ci := 7) (v := .ref aMh) (C := qR_M) (T := qT_M) (N := 23) hx hb hg qi_M hown hK hP 0 rfl rfl 2 (by decide) (hg _ mw_576) (fun _ h9 => h9) rfl qd_M_production_140 ?_
      refine lv_aload_n hx hb qd_M_production_143 rfl (lv_at hl 2 rfl) ?_
      refine va_get (D := (dC, dI)) (ci := 7) (v := .int vMP) (C := qR_M) (T := qT_M) (N := 23) hx hb hg qi_M hown hK hP 0 rfl rfl 1 (by decide) (hg _ mw_575) (fun _ h9 => h9) rfl qd_M_production_144 ?_
      refine lv_iload_n hx hb qd_M_production_147 rfl (lv_at hl 3 rfl) ?_
      obtain ⟨g_148, ho⟩ := ho
      refine va_iast hx hb hK hP hD hS 1 0 rfl rfl g_148 qd_M_production_148 (fun H locs hP hD hS => ?_)
      have hP : va_P (dC, dI) vwCl [(aM, .inr (7, [.int u_131.2, .int vMP, .ref aMh, .ref aMi, .ref aMc, .int vMK, .ref aMt, .int vMB, .ref aMn, .ref aMl, .ref aMs, .int vMD, .ref aMd, .int vME, .ref aMe, .int vMO, .ref aMo, .int vMF, .int vMS, .ref aMw, .ref aMu, .int vMX, .int vMW])), (aMh, .inl (cA, 24, .inl (upd vMh vMP.toNatClampNeg p0))), (aMi, .inl (cA, 72, .inl (vMi))), (aMc, .inl (cA, 24, .inl (vMc))), (aMs, .inl (cZ, 100, .inl (vMs)))] H := hP
      have hD : va_D A [(aM, .inr (7, [.int u_131.2, .int vMP, .ref aMh, .ref aMi, .ref aMc, .int vMK, .ref aMt, .int vMB, .ref aMn, .ref aMl, .ref aMs, .int vMD, .ref aMd, .int vME, .ref aMe, .int vMO, .ref aMo, .int vMF, .int vMS, .ref aMw, .ref aMu, .int vMX, .int vMW])), (aMh, .inl (cA, 24, .inl (upd vMh vMP.toNatClampNeg p0))), (aMi, .inl (cA, 72, .inl (vMi))), (aMc, .inl (cA, 24, .inl (vMc))), (aMs, .inl (cZ, 100, .inl (vMs)))] := hD
      refine lv_aload_n hx hb qd_M_production_149 rfl (lv_at hl 2 rfl) ?_
      refine va_get (D := (dC, dI)) (ci := 7) (v := .ref aMi) (C := qR_M) (T := qT_M) (N := 23) hx hb hg qi_M hown hK hP 0 rfl rfl 3 (by decide) (hg _ mw_577) (fun _ h9 => h9) rfl qd_M_production_150 ?_
      refine lv_iconst (v := 3) hx hb qd_M_production_153 (by decide) ?_
      refine lv_aload_n hx hb qd_M_production_154 rfl (lv_at hl 2 rfl) ?_
      refine va_get (D := (dC, dI)) (ci := 7) (v := .int vMP) (C := qR_M) (T := qT_M) (N := 23) hx hb hg qi_M hown hK hP 0 rfl rfl 1 (by decide) (hg _ mw_575) (fun _ h9 => h9) rfl qd_M_production_155 ?_
      refine lv_imul hx hb qd_M_production_158 ?_
      refine lv_iload_n hx hb qd_M_production_159 rfl (lv_at hl 4 rfl) ?_
      obtain ⟨g_160, ho⟩ := ho
      refine va_iast hx hb hK hP hD hS 2 0 rfl rfl g_160 qd_M_production_160 (fun H locs hP hD hS => ?_)
      have hP : va_P (dC, dI) vwCl [(aM, .inr (7, [.int u_131.2, .int vMP, .ref aMh, .ref aMi, .ref aMc, .int vMK, .ref aMt, .int vMB, .ref aMn, .ref aMl, .ref aMs, .int vMD, .ref aMd, .int vME, .ref aMe, .int vMO, .ref aMo, .int vMF, .int vMS, .ref aMw, .ref aMu, .int vMX, .int vMW])), (aMh, .inl (cA, 24, .inl (upd vMh vMP.toNatClampNeg p0))), (aMi, .inl (cA, 72, .inl (upd vMi (3 * vMP).toNatClampNeg p1))), (aMc, .inl (cA, 24, .inl (vMc))), (aMs, .inl (cZ, 100, .inl (vMs)))] H := hP
      have hD : va_D A [(aM, .inr (7, [.int u_131.2, .int vMP, .ref aMh, .ref aMi, .ref aMc, .int vMK, .ref aMt, .int vMB, .ref aMn, .ref aMl, .ref aMs, .int vMD, .ref aMd, .int vME, .ref aMe, .int vMO, .ref aMo, .int vMF, .int vMS, .ref aMw, .ref aMu, .int vMX, .int vMW])), (aMh, .inl (cA, 24, .inl (upd vMh vMP.toNatClampNeg p0))), (aMi, .inl (cA, 72, .inl (upd vMi (3 * vMP).toNatClampNeg p1))), (aMc, .inl (cA, 24, .inl (vMc))), (aMs, .inl (cZ, 100, .inl (vMs)))] := hD
      refine lv_aload_n hx hb qd_M_production_161 rfl (lv_at hl 2 rfl) ?_
      refine va_get (D := (dC, dI)) (ci := 7) (v := .ref aMi) (C := qR_M) (T := qT_M) (N := 23) hx hb hg qi_M hown hK hP 0 rfl rfl 3 (by decide) (hg _ mw_577) (fun _ h9 => h9) rfl qd_M_production_162 ?_
      refine lv_iconst (v := 3) hx hb qd_M_production_165 (by decide) ?_
      refine lv_aload_n hx hb qd_M_production_166 rfl (lv_at hl 2 rfl) ?_
      refine va_get (D := (dC, dI)) (ci := 7) (v := .int vMP) (C := qR_M) (T := qT_M) (N := 23) hx hb hg qi_M hown hK hP 0 rfl rfl 1 (by decide) (hg _ mw_575) (fun _ h9 => h9) rfl qd_M_production_167 ?_
      refine lv_imul hx hb qd_M_production_170 ?_
      refine lv_iconst (v := 1) hx hb qd_M_production_171 (by decide) ?_
      refine lv_iadd hx hb qd_M_production_172 ?_
      refine lv_iload_n hx hb qd_M_production_173 rfl (lv_at hl 5 rfl) ?_
      obtain ⟨g_174, ho⟩ := ho
      refine va_iast hx hb hK hP hD hS 2 0 rfl rfl g_174 qd_M_production_174 (fun H locs hP hD hS => ?_)
      have hP : va_P (dC, dI) vwCl [(aM, .inr (7, [.int u_131.2, .int vMP, .ref aMh, .ref aMi, .ref aMc, .int vMK, .ref aMt, .int vMB, .ref aMn, .ref aMl, .ref aMs, .int vMD, .ref aMd, .int vME, .ref aMe, .int vMO, .ref aMo, .int vMF, .int vMS, .ref aMw, .ref aMu, .int vMX, .int vMW])), (aMh, .inl (cA, 24, .inl (upd vMh vMP.toNatClampNeg p0))), (aMi, .inl (cA, 72, .inl (upd (upd vMi (3 * vMP).toNatClampNeg p1) ((3 * vMP) + 1).toNatClampNeg p2))), (aMc, .inl (cA, 24, .inl (vMc))), (aMs, .inl (cZ, 100, .inl (vMs)))] H := hP
      have hD : va_D A [(aM, .inr (7, [.int u_131.2, .int vMP, .ref aMh, .ref aMi, .ref aMc, .int vMK, .ref aMt, .int vMB, .ref aMn, .ref aMl, .ref aMs, .int vMD, .ref aMd, .int vME, .ref aMe, .int vMO, .ref aMo, .int vMF, .int vMS, .ref aMw, .ref aMu, .int vMX, .int vMW])), (aMh, .inl (cA, 24, .inl (upd vMh vMP.toNatClampNeg p0))), (aMi, .inl (cA, 72, .inl (upd (upd vMi (3 * vMP).toNatClampNeg p1) ((3 * vMP) + 1).toNatClampNeg p2))), (aMc, .inl (cA, 24, .inl (vMc))), (aMs, .inl (cZ, 100, .inl (vMs)))] := hD
      refine lv_aload_n hx hb qd_M_production_175 rfl (lv_at hl 2 rfl) ?_
      refine va_get (D := (dC, dI)) (ci := 7) (v := .ref aMi) (C := qR_M) (T := qT_M) (N := 23) hx hb hg qi_M hown hK hP 0 rfl rfl 3 (by decide) (hg _ mw_577) (fun _ h9 => h9) rfl qd_M_production_176 ?_
      refine lv_iconst (v := 3) hx hb qd_M_production_179 (by decide) ?_
      refine lv_aload_n hx hb qd_M_production_180 rfl (lv_at hl 2 rfl) ?_
      refine va_get (D := (dC, dI)) (ci := 7) (v := .int vMP) (C := qR_M) (T := qT_M) (N := 23) hx hb hg qi_M hown hK hP 0 rfl rfl 1 (by decide) (hg _ mw_575) (fun _ h9 => h9) rfl qd_M_production_181 ?_
      refine lv_imul hx hb qd_M_production_184 ?_
      refine lv_iconst (v := 2) hx hb qd_M_production_185 (by decide) ?_
      refine lv_iadd hx hb qd_M_production_186 ?_
      refine lv_iload hx hb qd_M_production_187 (lv_at hl 6 rfl) ?_
      obtain ⟨g_189, ho⟩ := ho
      refine va_iast hx hb hK hP hD hS 2 0 rfl rfl g_189 qd_M_production_189 (fun H locs hP hD hS => ?_)
      have hP : va_P (dC, dI) vwCl [(aM, .inr (7, [.int u_131.2, .int vMP, .ref aMh, .ref aMi, .ref aMc, .int vMK, .ref aMt, .int vMB, .ref aMn, .ref aMl, .ref aMs, .int vMD, .ref aMd, .int vME, .ref aMe, .int vMO, .ref aMo, .int vMF, .int vMS, .ref aMw, .ref aMu, .int vMX, .int vMW])), (aMh, .inl (cA, 24, .inl (upd vMh vMP.toNatClampNeg p0))), (aMi, .inl (cA, 72, .inl (upd (upd (upd vMi (3 * vMP).toNatClampNeg p1) ((3 * vMP) + 1).toNatClampNeg p2) ((3 * vMP) + 2).toNatClampNeg p3))), (aMc, .inl (cA, 24, .inl (vMc))), (aMs, .inl (cZ, 100, .inl (vMs)))] H := hP
      have hD : va_D A [(aM, .inr (7, [.int u_131.2, .int vMP, .ref aMh, .ref aMi, .ref aMc, .int vMK, .ref aMt, .int vMB, .ref aMn, .ref aMl, .ref aMs, .int vMD, .ref aMd, .int vME, .ref aMe, .int vMO, .ref aMo, .int vMF, .int vMS, .ref aMw, .ref aMu, .int vMX, .int vMW])), (aMh, .inl (cA, 24, .inl (upd vMh vMP.toNatClampNeg p0))), (aMi, .inl (cA, 72, .inl (upd (upd (upd vMi (3 * vMP).toNatClampNeg p1) ((3 * vMP) + 1).toNatClampNeg p2) ((3 * vMP) + 2).toNatClampNeg p3))), (aMc, .inl (cA, 24, .inl (vMc))), (aMs, .inl (cZ, 100, .inl (vMs)))] := hD
      refine lv_aload_n hx hb qd_M_production_190 rfl (lv_at hl 2 rfl) ?_
      refine va_get (D := (dC, dI)) (ci := 7) (v := .ref aMc) (C := qR_M) (T := qT_M) (N := 23) hx hb hg qi_M hown hK hP 0 rfl rfl 4 (by decide) (hg _ mw_578) (fun _ h9 => h9) rfl qd_M_production_191 ?_
      refine lv_aload_n hx hb qd_M_production_194 rfl (lv_at hl 2 rfl) ?_
      refine va_get (D := (dC, dI)) (ci := 7) (v := .int vMP) (C := qR_M) (T := qT_M) (N := 23) hx hb hg qi_M hown hK hP 0 rfl rfl 1 (by decide) (hg _ mw_575) (fun _ h9 => h9) rfl qd_M_production_195 ?_
      refine lv_iload hx hb qd_M_production_198 (lv_at hl 7 rfl) ?_
      obtain ⟨g_200, ho⟩ := ho
      refine va_iast hx hb hK hP hD hS 3 0 rfl rfl g_200 qd_M_production_200 (fun H locs hP hD hS => ?_)
      have hP : va_P (dC, dI) vwCl [(aM, .inr (7, [.int u_131.2, .int vMP, .ref aMh, .ref aMi, .ref aMc, .int vMK, .ref aMt, .int vMB, .ref aMn, .ref aMl, .ref aMs, .int vMD, .ref aMd, .int vME, .ref aMe, .int vMO, .ref aMo, .int vMF, .int vMS, .ref aMw, .ref aMu, .int vMX, .int vMW])), (aMh, .inl (cA, 24, .inl (upd vMh vMP.toNatClampNeg p0))), (aMi, .inl (cA, 72, .inl (upd (upd (upd vMi (3 * vMP).toNatClampNeg p1) ((3 * vMP) + 1).toNatClampNeg p2) ((3 * vMP) + 2).toNatClampNeg p3))), (aMc, .inl (cA, 24, .inl (upd vMc vMP.toNatClampNeg p4))), (aMs, .inl (cZ, 100, .inl (vMs)))] H := hP
      have hD : va_D A [(aM, .inr (7, [.int u_131.2, .int vMP, .ref aMh, .ref aMi, .ref aMc, .int vMK, .ref aMt, .int vMB, .ref aMn, .ref aMl, .ref aMs, .int vMD, .ref aMd, .int vME, .ref aMe, .int vMO, .ref aMo, .int vMF, .int vMS, .ref aMw, .ref aMu, .int vMX, .int vMW])), (aMh, .inl (cA, 24, .inl (upd vMh vMP.toNatClampNeg p0))), (aMi, .inl (cA, 72, .inl (upd (upd (upd vMi (3 * vMP).toNatClampNeg p1) ((3 * vMP) + 1).toNatClampNeg p2) ((3 * vMP) + 2).toNatClampNeg p3))), (aMc, .inl (cA, 24, .inl (upd vMc vMP.toNatClampNeg p4))), (aMs, .inl (cZ, 100, .inl (vMs)))] := hD
      refine lv_aload_n hx hb qd_M_production_201 rfl (lv_at hl 2 rfl) ?_
      refine lv_dup hx hb qd_M_production_202 rfl ?_
      refine va_get (D := (dC, dI)) (ci := 7) (v := .int vMP) (C := qR_M) (T := qT_M) (N := 23) hx hb hg qi_M hown hK hP 0 rfl rfl 1 (by decide) (hg _ mw_575) (fun _ h9 => h9) rfl qd_M_production_203 ?_
      refine lv_iconst (v := 1) hx hb qd_M_production_206 (by decide) ?_
      refine lv_iadd hx hb qd_M_production_207 ?_
      refine va_put (D := (dC, dI)) (ci := 7) (v := .int (vMP + 1)) (ty := .int) (C := qR_M) (T := qT_M) (N := 23) hx hb hg qi_M qt_M qk_M qn_M hown hK hP hD hS 0 rfl rfl 1 (by decide) (hg _ mw_575) (fun _ h9 => h9) rfl (by decide +kernel) rfl rfl (Nat.le_of_ble_eq_true rfl) qd_M_production_208 (fun H locs hP hD hS => ?_)
      have hP : va_P (dC, dI) vwCl [(aM, .inr (7, [.int u_131.2, .int (vMP + 1), .ref aMh, .ref aMi, .ref aMc, .int vMK, .ref aMt, .int vMB, .ref aMn, .ref aMl, .ref aMs, .int vMD, .ref aMd, .int vME, .ref aMe, .int vMO, .ref aMo, .int vMF, .int vMS, .ref aMw, .ref aMu, .int vMX, .int vMW])), (aMh, .inl (cA, 24, .inl (upd vMh vMP.toNatClampNeg p0))), (aMi, .inl (cA, 72, .inl (upd (upd (upd vMi (3 * vMP).toNatClampNeg p1) ((3 * vMP) + 1).toNatClampNeg p2) ((3 * vMP) + 2).toNatClampNeg p3))), (aMc, .inl (cA, 24, .inl (upd vMc vMP.toNatClampNeg p4))), (aMs, .inl (cZ, 100, .inl (vMs)))] H := hP
      have hD : va_D A [(aM, .inr (7, [.int u_131.2, .int (vMP + 1), .ref aMh, .ref aMi, .ref aMc, .int vMK, .ref aMt, .int vMB, .ref aMn, .ref aMl, .ref aMs, .int vMD, .ref aMd, .int vME, .ref aMe, .int vMO, .ref aMo, .int vMF, .int vMS, .ref aMw, .ref aMu, .int vMX, .int vMW])), (aMh, .inl (cA, 24, .inl (upd vMh vMP.toNatClampNeg p0))), (aMi, .inl (cA, 72, .inl (upd (upd (upd vMi (3 * vMP).toNatClampNeg p1) ((3 * vMP) + 1).toNatClampNeg p2) ((3 * vMP) + 2).toNatClampNeg p3))), (aMc, .inl (cA, 24, .inl (upd vMc vMP.toNatClampNeg p4))), (aMs, .inl (cZ, 100, .inl (vMs)))] := hD
      refine lv_aload_n hx hb qd_M_production_211 rfl (lv_at hl 2 rfl) ?_
      refine lv_iconst (v := 0) hx hb qd_M_production_212 (by decide) ?_
      refine va_put (D := (dC, dI)) (ci := 7) (v := .int 0) (ty := .boolean) (C := qR_M) (T := qT_M) (N := 23) hx hb hg qi_M qt_M qk_M qn_M hown hK hP hD hS 0 rfl rfl 7 (by decide) (hg _ mw_581) (fun _ h9 => h9) rfl (by decide +kernel) rfl rfl (Nat.le_of_ble_eq_true rfl) qd_M_production_213 (fun H locs hP hD hS => ?_)
      have hP : va_P (dC, dI) vwCl [(aM, .inr (7, [.int u_131.2, .int (vMP + 1), .ref aMh, .ref aMi, .ref aMc, .int vMK, .ref aMt, .int 0, .ref aMn, .ref aMl, .ref aMs, .int vMD, .ref aMd, .int vME, .ref aMe, .int vMO, .ref aMo, .int vMF, .int vMS, .ref aMw, .ref aMu, .int vMX, .int vMW])), (aMh, .inl (cA, 24, .inl (upd vMh vMP.toNatClampNeg p0))), (aMi, .inl (cA, 72, .inl (upd (upd (upd vMi (3 * vMP).toNatClampNeg p1) ((3 * vMP) + 1).toNatClampNeg p2) ((3 * vMP) + 2).toNatClampNeg p3))), (aMc, .inl (cA, 24, .inl (upd vMc vMP.toNatClampNeg p4))), (aMs, .inl (cZ, 100, .inl (vMs)))] H := hP
      have hD : va_D A [(aM, .inr (7, [.int u_131.2, .int (vMP + 1), .ref aMh, .ref aMi, .ref aMc, .int vMK, .ref aMt, .int 0, .ref aMn, .ref aMl, .ref aMs, .int vMD, .ref aMd, .int vME, .ref aMe, .int vMO, .ref aMo, .int vMF, .int vMS, .ref aMw, .ref aMu, .int vMX, .int vMW])), (aMh, .inl (cA, 24, .inl (upd vMh vMP.toNatClampNeg p0))), (aMi, .inl (cA, 72, .inl (upd (upd (upd vMi (3 * vMP).toNatClampNeg p1) ((3 * vMP) + 1).toNatClampNeg p2) ((3 * vMP) + 2).toNatClampNeg p3))), (aMc, .inl (cA, 24, .inl (upd vMc vMP.toNatClampNeg p4))), (aMs, .inl (cZ, 100, .inl (vMs)))] := hD
      refine lv_aload_n hx hb qd_M_production_216 rfl (lv_at hl 2 rfl) ?_
      refine va_get (D := (dC, dI)) (ci := 7) (v := .int (vMP + 1)) (C := qR_M) (T := qT_M) (N := 23) hx hb hg qi_M hown hK hP 0 rfl rfl 1 (by decide) (hg _ mw_575) (fun _ h9 => h9) rfl qd_M_production_217 ?_
      refine lv_iconst (v := 1) hx hb qd_M_production_220 (by decide) ?_
      refine lv_isub hx hb qd_M_production_221 ?_
      exact W.iret (v := (vMP + 1) - 1) hx hb hr (fun t ht hW => ⟨⟨_, ((vMP + 1) - 1, u_131.2, vMP + 1, 0, upd vMh vMP.toNatClampNeg p0, upd (upd (upd vMi (3 * vMP).toNatClampNeg p1) ((3 * vMP) + 1).toNatClampNeg p2) ((3 * vMP) + 2).toNatClampNeg p3, upd vMc vMP.toNatClampNeg p4, vMs), rfl, ⟨hres.symm, rfl⟩, ⟨by rw [ht]; exact hP, va_K.moved hW.alike hK, x_N hN hW⟩, hD⟩, hS.F ht⟩) hS.2.2 qd_M_production_222
    have hres := hres.trans (if_neg c_134)
    have ho := (if_neg c_134).mp ho
    refine lv_iconst (v := 0) hx hb qd_M_production_137 (by decide) ?_
    exact W.iret (v := 0) hx hb hr (fun t ht hW => ⟨⟨_, (0, u_131.2, vMP, vMB, vMh, vMi, vMc, vMs), rfl, ⟨hres.symm, rfl⟩, ⟨by rw [ht]; exact hP, va_K.moved hW.alike hK, x_N hN hW⟩, hD⟩, hS.F ht⟩) hS.2.2 qd_M_production_138
  have hres := hres.trans (if_neg c_26)
  have ho := (if_neg c_26).mp ho
  refine lv_iload hx hb qd_M_production_29 (lv_at hl 4 rfl) ?_
  refine lv_iconst (v := (-1)) hx hb qd_M_production_31 (by decide) ?_
  refine lv_icmp_eq (tgt := 48) hx hb qd_M_production_32 (by decide) (fun c_32 => ?_) (fun c_32 => ?_)
  · have hres := hres.trans (if_pos c_32)
    have ho := (if_pos c_32).mp ho
    refine lv_iload hx hb qd_M_production_48 (lv_at hl 5 rfl) ?_
    refine lv_iconst (v := 0) hx hb qd_M_production_50 (by decide) ?_
    refine lv_sipush (v := 1000) hx hb qd_M_production_51 (by decide) ?_
    refine xc_S (As := [.int p4, .int 0, .int 1000]) (rest := []) ⟨hx, hb, hml, hown, hg⟩ (c_M_in l dC dI cA cZ p4 0 1000) (va_cwS 3 hg (q_gS mw_633 mw_634 mw_8 mw_635) rfl rfl rfl qh_M_in.2 ⟨Nat.le_of_ble_eq_true rfl, Nat.le_of_ble_eq_true rfl⟩) hN hK hP [] rfl rfl hl.1 rfl (Nat.le_of_ble_eq_true rfl) qd_M_production_54 ⟨Nat.zero_le _, Nat.zero_le _⟩ ?_
    refine lv_topi (fun r_54 w_54 => ?_)
    have hres := hres.trans (bd_eq w_54)
    have ho := (bd_eq w_54).mp ho
    refine lv_if_eq (tgt := 64) hx hb qd_M_production_57 (by decide) (fun c_57 => ?_) (fun c_57 => ?_)
    · have hres := hres.trans (if_pos c_57)
      have ho := (if_pos c_57).mp ho
      refine lv_iconst (v := 0) hx hb qd_M_production_64 (by decide) ?_
      refine lv_istore (lv' := [(6, .int 0), (0, .ref aM), (1, .int p0), (2, .int p1), (3, .int p2), (4, .int p3), (5, .int p4)]) hx hb qd_M_production_65 hl (by decide) rfl (fun ls hl => ?_)
      refine lv_iload hx hb qd_M_production_67 (lv_at hl 0 rfl) ?_
      refine lv_if_eq (tgt := 96) hx hb qd_M_production_69 (by decide) (fun c_69 => ?_) (fun c_69 => ?_)
      rotate_left
      · exact absurd (by decide) c_69
      refine lv_iconst (v := 0) hx hb qd_M_production_96 (by decide) ?_
      refine lv_istore (lv' := [(7, .int 0), (6, .int 0), (0, .ref aM), (1, .int p0), (2, .int p1), (3, .int p2), (4, .int p3), (5, .int p4)]) hx hb qd_M_production_97 hl (by decide) rfl (fun ls hl => ?_)
      refine lv_aload_n hx hb qd_M_production_99 rfl (lv_at hl 2 rfl) ?_
      refine lv_iload hx hb qd_M_production_100 (lv_at hl 1 rfl) ?_
      refine lv_if_ne (tgt := 109) hx hb qd_M_production_102 (by decide) (fun c_102 => ?_) (fun c_102 => ?_)
      · exact absurd (by decide) c_102
      refine lv_iconst (v := 1) hx hb qd_M_production_105 (by decide) ?_
      refine lv_goto (tgt := 110) hx hb qd_M_production_106 (by decide) ?_
      refine lv_iload hx hb qd_M_production_110 (lv_at hl 1 rfl) ?_
      refine lv_if_eq (tgt := 128) hx hb qd_M_production_112 (by decide) (fun c_112 => ?_) (fun c_112 => ?_)
      rotate_left
      · exact absurd (by decide) c_112
      refine lv_iconst (v := 0) hx hb qd_M_production_128 (by decide) ?_
      refine lv_iload hx hb qd_M_production_129 (lv_at hl 0 rfl) ?_
      refine xm_Vi (As := [.int 1, .int 0, .int 0]) (rest := []) (w1 := fun (u_131 : Int32 × Int32) => [(aM, .inr (7, [.int u_131.2, .int vMP, .ref aMh, .ref aMi, .ref aMc, .int vMK, .ref aMt, .int vMB, .ref aMn, .ref aMl, .ref aMs, .int vMD, .ref aMd, .int vME, .ref aMe, .int vMO, .ref aMo, .int vMF, .int vMS, .ref aMw, .ref aMu, .int vMX, .int vMW]))]) (w2 := fun (u_131 : Int32 × Int32) => [(aM, .inr (7, [.int u_131.2, .int vMP, .ref aMh, .ref aMi, .ref aMc, .int vMK, .ref aMt, .int vMB, .ref aMn, .ref aMl, .ref aMs, .int vMD, .ref aMd, .int vME, .ref aMe, .int vMO, .ref aMo, .int vMF, .int vMS, .ref aMw, .ref aMu, .int vMX, .int vMW])), (aMh, .inl (cA, 24, .inl (vMh))), (aMi, .inl (cA, 72, .inl (vMi))), (aMc, .inl (cA, 24, .inl (vMc))), (aMs, .inl (cZ, 100, .inl (vMs)))]) ⟨hx, hb, hml, hown, hg⟩ (c_M_refuse l dC dI cA cZ aM aMh aMi aMc aMt aMn aMl aMs aMd aMe aMo aMw aMu _ vMT vMP vMK vMB vMD vME vMO vMF vMS vMX vMW 1 0 0) (cwV 3 hg (q_gV mw_642 mw_643 mw_771 mw_8 mw_644) rfl rfl rfl qh_M_refuse ⟨Nat.le_of_ble_eq_true rfl, Nat.le_of_ble_eq_true rfl⟩) hN hK hP hD hS hA [0] [1, 2, 3, 4] rfl rfl (by decide) (by decide) (by decide) [4, 0, 1, 2, 3] (fun _ => rfl) (by decide) 0 7 rfl rfl rfl hl.1 rfl (Nat.le_of_ble_eq_true rfl) qd_M_production_131 ⟨Nat.zero_le _, Nat.zero_le _⟩ (fun u_131 H locs w_131 hP hD hS => ?_)
      have hP : va_P (dC, dI) vwCl [(aM, .inr (7, [.int u_131.2, .int vMP, .ref aMh, .ref aMi, .ref aMc, .int vMK, .ref aMt, .int vMB, .ref aMn, .ref aMl, .ref aMs, .int vMD, .ref aMd, .int vME, .ref aMe, .int vMO, .ref aMo, .int vMF, .int vMS, .ref aMw, .ref aMu, .int vMX, .int vMW])), (aMh, .inl (cA, 24, .inl (vMh))), (aMi, .inl (cA, 72, .inl (vMi))), (aMc, .inl (cA, 24, .inl (vMc))), (aMs, .inl (cZ, 100, .inl (vMs)))] H := hP
      have hD : va_D A [(aM, .inr (7, [.int u_131.2, .int vMP, .ref aMh, .ref aMi, .ref aMc, .int vMK, .ref aMt, .int vMB, .ref aMn, .ref aMl, .ref aMs, .int vMD, .ref aMd, .int vME, .ref aMe, .int vMO, .ref aMo, .int vMF, .int vMS, .ref aMw, .ref aMu, .int vMX, .int vMW])), (aMh, .inl (cA, 24, .inl (vMh))), (aMi, .inl (cA, 72, .inl (vMi))), (aMc, .inl (cA, 24, .inl (vMc))), (aMs, .inl (cZ, 100, .inl (vMs)))] := hD
      have hres := hres.trans (bd_eq w_131)
      have ho := (bd_eq w_131).mp ho
      refine lv_if_eq (tgt := 139) hx hb qd_M_production_134 (by decide) (fun c_134 => ?_) (fun c_134 => ?_)
      · have hres := hres.trans (if_pos c_134)
        have ho := (if_pos c_134).mp ho
        refine lv_aload_n hx hb qd_M_production_139 rfl (lv_at hl 2 rfl) ?_
        refine va_get (D := (dC, dI)) (ci := 7) (v := .ref aMh) (C := qR_M) (T := qT_M) (N := 23) hx hb hg qi_M hown hK hP 0 rfl rfl 2 (by decide) (hg _ mw_576) (fun _ h9 => h9) rfl qd_M_production_140 ?_
        refine lv_aload_n hx hb qd_M_production_143 rfl (lv_at hl 2 rfl) ?_
        refine va_get (D := (dC, dI)) (ci := 7) (v := .int vMP) (C := qR_M) (T := qT_M) (N := 23) hx hb hg qi_M hown hK hP 0 rfl rfl 1 (by decide) (hg _ mw_575) (fun _ h9 => h9) rfl qd_M_production_144 ?_
        refine lv_iload_n hx hb qd_M_production_147 rfl (lv_at hl 3 rfl) ?_
        obtain ⟨g_148, ho⟩ := ho
        refine va_iast hx hb hK hP hD hS 1 0 rfl rfl g_148 qd_M_production_148 (fun H locs hP hD hS => ?_)
        have hP : va_P (dC, dI) vwCl [(aM, .inr (7, [.int u_131.2, .int vMP, .ref aMh, .ref aMi, .ref aMc, .int vMK, .ref aMt, .int vMB, .ref aMn, .ref aMl, .ref aMs, .int vMD, .ref aMd, .int vME, .ref aMe, .int vMO, .ref aMo, .int vMF, .int vMS, .ref aMw, .ref aMu, .int vMX, .int vMW])), (aMh, .inl (cA, 24, .inl (upd vMh vMP.toNatClampNeg p0))), (aMi, .inl (cA, 72, .inl (vMi))), (aMc, .inl (cA, 24, .inl (vMc))), (aMs, .inl (cZ, 100, .inl (vMs)))] H := hP
        have hD : va_D A [(aM, .inr (7, [.int u_131.2, .int vMP, .ref aMh, .ref aMi, .ref aMc, .int vMK, .ref aMt, .int vMB, .ref aMn, .ref aMl, .ref aMs, .int vMD, .ref aMd, .int vME, .ref aMe, .int vMO, .ref aMo, .int vMF, .int vMS, .ref aMw, .ref aMu, .int vMX, .int vMW])), (aMh, .inl (cA, 24, .inl (upd vMh vMP.toNatClampNeg p0))), (aMi, .inl (cA, 72, .inl (vMi))), (aMc, .inl (cA, 24, .inl (vMc))), (aMs, .inl (cZ, 100, .inl (vMs)))] := hD
        refine lv_aload_n hx hb qd_M_production_149 rfl (lv_at hl 2 rfl) ?_
        refine va_get (D := (dC, dI)) (ci := 7) (v := .ref aMi) (C := qR_M) (T := qT_M) (N := 23) hx hb hg qi_M hown hK hP 0 rfl rfl 3 (by decide) (hg _ mw_577) (fun _ h9 => h9) rfl qd_M_production_150 ?_
        refine lv_iconst (v := 3) hx hb qd_M_production_153 (by decide) ?_
        refine lv_aload_n hx hb qd_M_production_154 rfl (lv_at hl 2 rfl) ?_
        refine va_get (D := (dC, dI)) (ci := 7) (v := .int vMP) (C := qR_M) (T := qT_M) (N := 23) hx hb hg qi_M hown hK hP 0 rfl rfl 1 (by decide) (hg _ mw_575) (fun _ h9 => h9) rfl qd_M_production_155 ?_
        refine lv_imul hx hb qd_M_production_158 ?_
        refine lv_iload_n hx hb qd_M_production_159 rfl (lv_at hl 4 rfl) ?_
        obtain ⟨g_160, ho⟩ := ho
        refine va_iast hx hb hK hP hD hS 2 0 rfl rfl g_160 qd_M_production_160 (fun H locs hP hD hS => ?_)
        have hP : va_P (dC, dI) vwCl [(aM, .inr (7, [.int u_131.2, .int vMP, .ref aMh, .ref aMi, .ref aMc, .int vMK, .ref aMt, .int vMB, .ref aMn, .ref aMl, .ref aMs, .int vMD, .ref aMd, .int vME, .ref aMe, .int vMO, .ref aMo, .int vMF, .int vMS, .ref aMw, .ref aMu, .int vMX, .int vMW])), (aMh, .inl (cA, 24, .inl (upd vMh vMP.toNatClampNeg p0))), (aMi, .inl (cA, 72, .inl (upd vMi (3 * vMP).toNatClampNeg p1))), (aMc, .inl (cA, 24, .inl (vMc))), (aMs, .inl (cZ, 100, .inl (vMs)))] H := hP
        have hD : va_D A [(aM, .inr (7, [.int u_131.2, .int vMP, .ref aMh, .ref aMi, .ref aMc, .int vMK, .ref aMt, .int vMB, .ref aMn, .ref aMl, .ref aMs, .int vMD, .ref aMd, .int vME, .ref aMe, .int vMO, .ref aMo, .int vMF, .int vMS, .ref aMw, .ref aMu, .int vMX, .int vMW])), (aMh, .inl (cA, 24, .inl (upd vMh vMP.toNatClampNeg p0))), (aMi, .inl (cA, 72, .inl (upd vMi (3 * vMP).toNatClampNeg p1))), (aMc, .inl (cA, 24, .inl (vMc))), (aMs, .inl (cZ, 100, .inl (vMs)))] := hD
        refine lv_aload_n hx hb qd_M_production_161 rfl (lv_at hl 2 rfl) ?_
        refine va_get (D := (dC, dI)) (ci := 7) (v := .ref aMi) (C := qR_M) (T := qT_M) (N := 23) hx hb hg qi_M hown hK hP 0 rfl rfl 3 (by decide) (hg _ mw_577) (fun _ h9 => h9) rfl qd_M_production_162 ?_
        refine lv_iconst (v := 3) hx hb qd_M_production_165 (by decide) ?_
        refine lv_aload_n hx hb qd_M_production_166 rfl (lv_at hl 2 rfl) ?_
        refine va_get (D := (dC, dI)) (ci := 7) (v := .int vMP) (C := qR_M) (T := qT_M) (N := 23) hx hb hg qi_M hown hK hP 0 rfl rfl 1 (by decide) (hg _ mw_575) (fun _ h9 => h9) rfl qd_M_production_167 ?_
        refine lv_imul hx hb qd_M_production_170 ?_
        refine lv_iconst (v := 1) hx hb qd_M_production_171 (by decide) ?_
        refine lv_iadd hx hb qd_M_production_172 ?_
        refine lv_iload_n hx hb qd_M_production_173 rfl (lv_at hl 5 rfl) ?_
        obtain ⟨g_174, ho⟩ := ho
        refine va_iast hx hb hK hP hD hS 2 0 rfl rfl g_174 qd_M_production_174 (fun H locs hP hD hS => ?_)
        have hP : va_P (dC, dI) vwCl [(aM, .inr (7, [.int u_131.2, .int vMP, .ref aMh, .ref aMi, .ref aMc, .int vMK, .ref aMt, .int vMB, .ref aMn, .ref aMl, .ref aMs, .int vMD, .ref aMd, .int vME, .ref aMe, .int vMO, .ref aMo, .int vMF, .int vMS, .ref aMw, .ref aMu, .int vMX, .int vMW])), (aMh, .inl (cA, 24, .inl (upd vMh vMP.toNatClampNeg p0))), (aMi, .inl (cA, 72, .inl (upd (upd vMi (3 * vMP).toNatClampNeg p1) ((3 * vMP) + 1).toNatClampNeg p2))), (aMc, .inl (cA, 24, .inl (vMc))), (aMs, .inl (cZ, 100, .inl (vMs)))] H := hP
        have hD : va_D A [(aM, .inr (7, [.int u_131.2, .int vMP, .ref aMh, .ref aMi, .ref aMc, .int vMK, .ref aMt, .int vMB, .ref aMn, .ref aMl, .ref aMs, .int vMD, .ref aMd, .int vME, .ref aMe, .int vMO, .ref aMo, .int vMF, .int vMS, .ref aMw, .ref aMu, .int vMX, .int vMW])), (aMh, .inl (cA, 24, .inl (upd vMh vMP.toNatClampNeg p0))), (aMi, .inl (cA, 72, .inl (upd (upd vMi (3 * vMP).toNatClampNeg p1) ((3 * vMP) + 1).toNatClampNeg p2))), (aMc, .inl (cA, 24, .inl (vMc))), (aMs, .inl (cZ, 100, .inl (vMs)))] := hD
        refine lv_aload_n hx hb qd_M_production_175 rfl (lv_at hl 2 rfl) ?_
        refine va_get (D := (dC, dI)) (ci := 7) (v := .ref aMi) (C := qR_M) (T := qT_M) (N := 23) hx hb hg qi_M hown hK hP 0 rfl rfl 3 (by decide) (hg _ mw_577) (fun _ h9 => h9) rfl qd_M_production_176 ?_
        refine lv_iconst (v := 3) hx hb qd_M_production_179 (by decide) ?_
        refine lv_aload_n hx hb qd_M_production_180 rfl (lv_at hl 2 rfl) ?_
        refine va_get (D := (dC, dI)) (ci := 7) (v := .int vMP) (C := qR_M) (T := qT_M) (N := 23) hx hb hg qi_M hown hK hP 0 rfl rfl 1 (by decide) (hg _ mw_575) (fun _ h9 => h9) rfl qd_M_production_181 ?_
        refine lv_imul hx hb qd_M_production_184 ?_
        refine lv_iconst (v := 2) hx hb qd_M_production_185 (by decide) ?_
        refine lv_iadd hx hb qd_M_production_186 ?_
        refine lv_iload hx hb qd_M_production_187 (lv_at hl 6 rfl) ?_
        obtain ⟨g_189, ho⟩ := ho
        refine va_iast hx hb hK hP hD hS 2 0 rfl rfl g_189 qd_M_production_189 (fun H locs hP hD hS => ?_)
        have hP : va_P (dC, dI) vwCl [(aM, .inr (7, [.int u_131.2, .int vMP, .ref aMh, .ref aMi, .ref aMc, .int vMK, .ref aMt, .int vMB, .ref aMn, .ref aMl, .ref aMs, .int vMD, .ref aMd, .int vME, .ref aMe, .int vMO, .ref aMo, .int vMF, .int vMS, .ref aMw, .ref aMu, .int vMX, .int vMW])), (aMh, .inl (cA, 24, .inl (upd vMh vMP.toNatClampNeg p0))), (aMi, .inl (cA, 72, .inl (upd (upd (upd vMi (3 * vMP).toNatClampNeg p1) ((3 * vMP) + 1).toNatClampNeg p2) ((3 * vMP) + 2).toNatClampNeg p3))), (aMc, .inl (cA, 24, .inl (vMc))), (aMs, .inl (cZ, 100, .inl (vMs)))] H := hP
        have hD : va_D A [(aM, .inr (7, [.int u_131.2, .int vMP, .ref aMh, .ref aMi, .ref aMc, .int vMK, .ref aMt, .int vMB, .ref aMn, .ref aMl, .ref aMs, .int vMD, .ref aMd, .int vME, .ref aMe, .int vMO, .ref aMo, .int vMF, .int vMS, .ref aMw, .ref aMu, .int vMX, .int vMW])), (aMh, .inl (cA, 24, .inl (upd vMh vMP.toNatClampNeg p0))), (aMi, .inl (cA, 72, .inl (upd (upd (upd vMi (3 * vMP).toNatClampNeg p1) ((3 * vMP) + 1).toNatClampNeg p2) ((3 * vMP) + 2).toNatClampNeg p3))), (aMc, .inl (cA, 24, .inl (vMc))), (aMs, .inl (cZ, 100, .inl (vMs)))] := hD
        refine lv_aload_n hx hb qd_M_production_190 rfl (lv_at hl 2 rfl) ?_
        refine va_get (D := (dC, dI)) (ci := 7) (v := .ref aMc) (C := qR_M) (T := qT_M) (N := 23) hx hb hg qi_M hown hK hP 0 rfl rfl 4 (by decide) (hg _ mw_578) (fun _ h9 => h9) rfl qd_M_production_191 ?_
        refine lv_aload_n hx hb qd_M_production_194 rfl (lv_at hl 2 rfl) ?_
        refine va_get (D := (dC, dI)) (ci := 7) (v := .int vMP) (C := qR_M) (T := qT_M) (N := 23) hx hb hg qi_M hown hK hP 0 rfl rfl 1 (by decide) (hg _ mw_575) (fun _ h9 => h9) rfl qd_M_production_195 ?_
        refine lv_iload hx hb qd_M_production_198 (lv_at hl 7 rfl) ?_
        obtain ⟨g_200, ho⟩ := ho
        refine va_iast hx hb hK hP hD hS 3 0 rfl rfl g_200 qd_M_production_200 (fun H locs hP hD hS => ?_)
        have hP : va_P (dC, dI) vwCl [(aM, .inr (7, [.int u_131.2, .int vMP, .ref aMh, .ref aMi, .ref aMc, .int vMK, .ref aMt, .int vMB, .ref aMn, .ref aMl, .ref aMs, .int vMD, .ref aMd, .int vME, .ref aMe, .int vMO, .ref aMo, .int vMF, .int vMS, .ref aMw, .ref aMu, .int vMX, .int vMW])), (aMh, .inl (cA, 24, .inl (upd vMh vMP.toNatClampNeg p0))), (aMi, .inl (cA, 72, .inl (upd (upd (upd vMi (3 * vMP).toNatClampNeg p1) ((3 * vMP) + 1).toNatClampNeg p2) ((3 * vMP) + 2).toNatClampNeg p3))), (aMc, .inl (cA, 24, .inl (upd vMc vMP.toNatClampNeg p4))), (aMs, .inl (cZ, 100, .inl (vMs)))] H := hP
        have hD : va_D A [(aM, .inr (7, [.int u_131.2, .int vMP, .ref aMh, .ref aMi, .ref aMc, .int vMK, .ref aMt, .int vMB, .ref aMn, .ref aMl, .ref aMs, .int vMD, .ref aMd, .int vME, .ref aMe, .int vMO, .ref aMo, .int vMF, .int vMS, .ref aMw, .ref aMu, .int vMX, .int vMW])), (aMh, .inl (cA, 24, .inl (upd vMh vMP.toNatClampNeg p0))), (aMi, .inl (cA, 72, .inl (upd (upd (upd vMi (3 * vMP).toNatClampNeg p1) ((3 * vMP) + 1).toNatClampNeg p2) ((3 * vMP) + 2).toNatClampNeg p3))), (aMc, .inl (cA, 24, .inl (upd vMc vMP.toNatClampNeg p4))), (aMs, .inl (cZ, 100, .inl (vMs)))] := hD
        refine lv_aload_n hx hb qd_M_production_201 rfl (lv_at hl 2 rfl) ?_
        refine lv_dup hx hb qd_M_production_202 rfl ?_
        refine va_get (D := (dC, dI)) (ci := 7) (v := .int vMP) (C := qR_M) (T := qT_M) (N := 23) hx hb hg qi_M hown hK hP 0 rfl rfl 1 (by decide) (hg _ mw_575) (fun _ h9 => h9) rfl qd_M_production_203 ?_
        refine lv_iconst (v := 1) hx hb qd_M_production_206 (by decide) ?_
        refine lv_iadd hx hb qd_M_production_207 ?_
        refine va_put (D := (dC, dI)) (ci := 7) (v := .int (vMP + 1)) (ty := .int) (C := qR_M) (T := qT_M) (N := 23) hx hb hg qi_M qt_M qk_M qn_M hown hK hP hD hS 0 rfl rfl 1 (by decide) (hg _ mw_575) (fun _ h9 => h9) rfl (by decide +kernel) rfl rfl (Nat.le_of_ble_eq_true rfl) qd_M_production_208 (fun H locs hP hD hS => ?_)
        have hP : va_P (dC, dI) vwCl [(aM, .inr (7, [.int u_131.2, .int (vMP + 1), .ref aMh, .ref aMi, .ref aMc, .int vMK, .ref aMt, .int vMB, .ref aMn, .ref aMl, .ref aMs, .int vMD, .ref aMd, .int vME, .ref aMe, .int vMO, .ref aMo, .int vMF, .int vMS, .ref aMw, .ref aMu, .int vMX, .int vMW])), (aMh, .inl (cA, 24, .inl (upd vMh vMP.toNatClampNeg p0))), (aMi, .inl (cA, 72, .inl (upd (upd (upd vMi (3 * vMP).toNatClampNeg p1) ((3 * vMP) + 1).toNatClampNeg p2) ((3 * vMP) + 2).toNatClampNeg p3))), (aMc, .inl (cA, 24, .inl (upd vMc vMP.toNatClampNeg p4))), (aMs, .inl (cZ, 100, .inl (vMs)))] H := hP
        have hD : va_D A [(aM, .inr (7, [.int u_131.2, .int (vMP + 1), .ref aMh, .ref aMi, .ref aMc, .int vMK, .ref aMt, .int vMB, .ref aMn, .ref aMl, .ref aMs, .int vMD, .ref aMd, .int vME, .ref aMe, .int vMO, .ref aMo, .int vMF, .int vMS, .ref aMw, .ref aMu, .int vMX, .int vMW])), (aMh, .inl (cA, 24, .inl (upd vMh vMP.toNatClampNeg p0))), (aMi, .inl (cA, 72, .inl (upd (upd (upd vMi (3 * vMP).toNatClampNeg p1) ((3 * vMP) + 1).toNatClampNeg p2) ((3 * vMP) + 2).toNatClampNeg p3))), (aMc, .inl (cA, 24, .inl (upd vMc vMP.toNatClampNeg p4))), (aMs, .inl (cZ, 100, .inl (vMs)))] := hD
        refine lv_aload_n hx hb qd_M_production_211 rfl (lv_at hl 2 rfl) ?_
        refine lv_iconst (v := 0) hx hb qd_M_production_212 (by decide) ?_
        refine va_put (D := (dC, dI)) (ci := 7) (v := .int 0) (ty := .boolean) (C := qR_M) (T := qT_M) (N := 23) hx hb hg qi_M qt_M qk_M qn_M hown hK hP hD hS 0 rfl rfl 7 (by decide) (hg _ mw_581) (fun _ h9 => h9) rfl (by decide +kernel) rfl rfl (Nat.le_of_ble_eq_true rfl) qd_M_production_213 (fun H locs hP hD hS => ?_)
        have hP : va_P (dC, dI) vwCl [(aM, .inr (7, [.int u_131.2, .int (vMP + 1), .ref aMh, .ref aMi, .ref aMc, .int vMK, .ref aMt, .int 0, .ref aMn, .ref aMl, .ref aMs, .int vMD, .ref aMd, .int vME, .ref aMe, .int vMO, .ref aMo, .int vMF, .int vMS, .ref aMw, .ref aMu, .int vMX, .int vMW])), (aMh, .inl (cA, 24, .inl (upd vMh vMP.toNatClampNeg p0))), (aMi, .inl (cA, 72, .inl (upd (upd (upd vMi (3 * vMP).toNatClampNeg p1) ((3 * vMP) + 1).toNatClampNeg p2) ((3 * vMP) + 2).toNatClampNeg p3))), (aMc, .inl (cA, 24, .inl (upd vMc vMP.toNatClampNeg p4))), (aMs, .inl (cZ, 100, .inl (vMs)))] H := hP
        have hD : va_D A [(aM, .inr (7, [.int u_131.2, .int (vMP + 1), .ref aMh, .ref aMi, .ref aMc, .int vMK, .ref aMt, .int 0, .ref aMn, .ref aMl, .ref aMs, .int vMD, .ref aMd, .int vME, .ref aMe, .int vMO, .ref aMo, .int vMF, .int vMS, .ref aMw, .ref aMu, .int vMX, .int vMW])), (aMh, .inl (cA, 24, .inl (upd vMh vMP.toNatClampNeg p0))), (aMi, .inl (cA, 72, .inl (upd (upd (upd vMi (3 * vMP).toNatClampNeg p1) ((3 * vMP) + 1).toNatClampNeg p2) ((3 * vMP) + 2).toNatClampNeg p3))), (aMc, .inl (cA, 24, .inl (upd vMc vMP.toNatClampNeg p4))), (aMs, .inl (cZ, 100, .inl (vMs)))] := hD
        refine lv_aload_n hx hb qd_M_production_216 rfl (lv_at hl 2 rfl) ?_
        refine va_get (D := (dC, dI)) (ci := 7) (v := .int (vMP + 1)) (C := qR_M) (T := qT_M) (N := 23) hx hb hg qi_M hown hK hP 0 rfl rfl 1 (by decide) (hg _ mw_575) (fun _ h9 => h9) rfl qd_M_production_217 ?_
        refine lv_iconst (v := 1) hx hb qd_M_production_220 (by decide) ?_
        refine lv_isub hx hb qd_M_production_221 ?_
        exact W.iret (v := (vMP + 1) - 1) hx hb hr (fun t ht hW => ⟨⟨_, ((vMP + 1) - 1, u_131.2, vMP + 1, 0, upd vMh vMP.toNatClampNeg p0, upd (upd (upd vMi (3 * vMP).toNatClampNeg p1) ((3 * vMP) + 1).toNatClampNeg p2) ((3 * vMP) + 2).toNatClampNeg p3, upd vMc vMP.toNatClampNeg p4, vMs), rfl, ⟨hres.symm, rfl⟩, ⟨by rw [ht]; exact hP, va_K.moved hW.alike hK, x_N hN hW⟩, hD⟩, hS.F ht⟩) hS.2.2 qd_M_production_222
      have hres := hres.trans (if_neg c_134)
      have ho := (if_neg c_134).mp ho
      refine lv_iconst (v := 0) hx hb qd_M_production_137 (by decide) ?_
      exact W.iret (v := 0) hx hb hr (fun t ht hW => ⟨⟨_, (0, u_131.2, vMP, vMB, vMh, vMi, vMc, vMs), rfl, ⟨hres.symm, rfl⟩, ⟨by rw [ht]; exact hP, va_K.moved hW.alike hK, x_N hN hW⟩, hD⟩, hS.F ht⟩) hS.2.2 qd_M_production_138
    have hres := hres.trans (if_neg c_57)
    have ho := (if_neg c_57).mp ho
    refine lv_iconst (v := 1) hx hb qd_M_production_60 (by decide) ?_
    refine lv_goto (tgt := 65) hx hb qd_M_production_61 (by decide) ?_
    refine lv_istore (lv' := [(6, .int 1), (0, .ref aM), (1, .int p0), (2, .int p1), (3, .int p2), (4, .int p3), (5, .int p4)]) hx hb qd_M_production_65 hl (by decide) rfl (fun ls hl => ?_)
    refine lv_iload hx hb qd_M_production_67 (lv_at hl 0 rfl) ?_
    refine lv_if_eq (tgt := 96) hx hb qd_M_production_69 (by decide) (fun c_69 => ?_) (fun c_69 => ?_)
    · exact absurd c_69 (by decide)
    refine lv_iload_n hx hb qd_M_production_72 rfl (lv_at hl 3 rfl) ?_
    refine lv_bipush (v := 10) hx hb qd_M_production_73 (by decide) ?_
    refine lv_icmp_ge (tgt := 96) hx hb qd_M_production_75 (by decide) (fun c_75 => ?_) (fun c_75 => ?_)
    · have hres := hres.trans (if_pos c_75)
      have ho := (if_pos c_75).mp ho
      refine lv_iconst (v := 0) hx hb qd_M_production_96 (by decide) ?_
      refine lv_istore (lv' := [(7, .int 0), (6, .int 1), (0, .ref aM), (1, .int p0), (2, .int p1), (3, .int p2), (4, .int p3), (5, .int p4)]) hx hb qd_M_production_97 hl (by decide) rfl (fun ls hl => ?_)
      refine lv_aload_n hx hb qd_M_production_99 rfl (lv_at hl 2 rfl) ?_
      refine lv_iload hx hb qd_M_production_100 (lv_at hl 1 rfl) ?_
      refine lv_if_ne (tgt := 109) hx hb qd_M_production_102 (by decide) (fun c_102 => ?_) (fun c_102 => ?_)
      rotate_left
      · exact absurd c_102 (by decide)
      refine lv_iconst (v := 0) hx hb qd_M_production_109 (by decide) ?_
      refine lv_iload hx hb qd_M_production_110 (lv_at hl 1 rfl) ?_
      refine lv_if_eq (tgt := 128) hx hb qd_M_production_112 (by decide) (fun c_112 => ?_) (fun c_112 => ?_)
      · exact absurd c_112 (by decide)
      refine lv_aload_n hx hb qd_M_production_115 rfl (lv_at hl 2 rfl) ?_
      refine va_get (D := (dC, dI)) (ci := 7) (v := .int vMP) (C := qR_M) (T := qT_M) (N := 23) hx hb hg qi_M hown hK hP 0 rfl rfl 1 (by decide) (hg _ mw_575) (fun _ h9 => h9) rfl qd_M_production_116 ?_
      refine lv_bipush (v := 24) hx hb qd_M_production_119 (by decide) ?_
      refine lv_icmp_ne (tgt := 128) hx hb qd_M_production_121 (by decide) (fun c_121 => ?_) (fun c_121 => ?_)
      · have hres := hres.trans (if_neg c_121)
        have ho := (if_neg c_121).mp ho
        refine lv_iconst (v := 0) hx hb qd_M_production_128 (by decide) ?_
        refine lv_iload hx hb qd_M_production_129 (lv_at hl 0 rfl) ?_
        refine xm_Vi (As := [.int 0, .int 0, .int 0]) (rest := []) (w1 := fun (u_131 : Int32 × Int32) => [(aM, .inr (7, [.int u_131.2, .int vMP, .ref aMh, .ref aMi, .ref aMc, .int vMK, .ref aMt, .int vMB, .ref aMn, .ref aMl, .ref aMs, .int vMD, .ref aMd, .int vME, .ref aMe, .int vMO, .ref aMo, .int vMF, .int vMS, .ref aMw, .ref aMu, .int vMX, .int vMW]))]) (w2 := fun (u_131 : Int32 × Int32) => [(aM, .inr (7, [.int u_131.2, .int vMP, .ref aMh, .ref aMi, .ref aMc, .int vMK, .ref aMt, .int vMB, .ref aMn, .ref aMl, .ref aMs, .int vMD, .ref aMd, .int vME, .ref aMe, .int vMO, .ref aMo, .int vMF, .int vMS, .ref aMw, .ref aMu, .int vMX, .int vMW])), (aMh, .inl (cA, 24, .inl (vMh))), (aMi, .inl (cA, 72, .inl (vMi))), (aMc, .inl (cA, 24, .inl (vMc))), (aMs, .inl (cZ, 100, .inl (vMs)))]) ⟨hx, hb, hml, hown, hg⟩ (c_M_refuse l dC dI cA cZ aM aMh aMi aMc aMt aMn aMl aMs aMd aMe aMo aMw aMu _ vMT vMP vMK vMB vMD vME vMO vMF vMS vMX vMW 0 0 0) (cwV 3 hg (q_gV mw_642 mw_643 mw_771 mw_8 mw_644) rfl rfl rfl qh_M_refuse ⟨Nat.le_of_ble_eq_true rfl, Nat.le_of_ble_eq_true rfl⟩) hN hK hP hD hS hA [0] [1, 2, 3, 4] rfl rfl (by decide) (by decide) (by decide) [4, 0, 1, 2, 3] (fun _ => rfl) (by decide) 0 7 rfl rfl rfl hl.1 rfl (Nat.le_of_ble_eq_true rfl) qd_M_production_131 ⟨Nat.zero_le _, Nat.zero_le _⟩ (fun u_131 H locs w_131 hP hD hS => ?_)
        have hP : va_P (dC, dI) vwCl [(aM, .inr (7, [.int u_131.2, .int vMP, .ref aMh, .ref aMi, .ref aMc, .int vMK, .ref aMt, .int vMB, .ref aMn, .ref aMl, .ref aMs, .int vMD, .ref aMd, .int vME, .ref aMe, .int vMO, .ref aMo, .int vMF, .int vMS, .ref aMw, .ref aMu, .int vMX, .int vMW])), (aMh, .inl (cA, 24, .inl (vMh))), (aMi, .inl (cA, 72, .inl (vMi))), (aMc, .inl (cA, 24, .inl (vMc))), (aMs, .inl (cZ, 100, .inl (vMs)))] H := hP
        have hD : va_D A [(aM, .inr (7, [.int u_131.2, .int vMP, .ref aMh, .ref aMi, .ref aMc, .int vMK, .ref aMt, .int vMB, .ref aMn, .ref aMl, .ref aMs, .int vMD, .ref aMd, .int vME, .ref aMe, .int vMO, .ref aMo, .int vMF, .int vMS, .ref aMw, .ref aMu, .int vMX, .int vMW])), (aMh, .inl (cA, 24, .inl (vMh))), (aMi, .inl (cA, 72, .inl (vMi))), (aMc, .inl (cA, 24, .inl (vMc))), (aMs, .inl (cZ, 100, .inl (vMs)))] := hD
        have hres := hres.trans (bd_eq w_131)
        have ho := (bd_eq w_131).mp ho
        refine lv_if_eq (tgt := 139) hx hb qd_M_production_134 (by decide) (fun c_134 => ?_) (fun c_134 => ?_)
        · have hres := hres.trans (if_pos c_134)
          have ho := (if_pos c_134).mp ho
          refine lv_aload_n hx hb qd_M_production_139 rfl (lv_at hl 2 rfl) ?_
          refine va_get (D := (dC, dI)) (ci := 7) (v := .ref aMh) (C := qR_M) (T := qT_M) (N := 23) hx hb hg qi_M hown hK hP 0 rfl rfl 2 (by decide) (hg _ mw_576) (fun _ h9 => h9) rfl qd_M_production_140 ?_
          refine lv_aload_n hx hb qd_M_production_143 rfl (lv_at hl 2 rfl) ?_
          refine va_get (D := (dC, dI)) (ci := 7) (v := .int vMP) (C := qR_M) (T := qT_M) (N := 23) hx hb hg qi_M hown hK hP 0 rfl rfl 1 (by decide) (hg _ mw_575) (fun _ h9 => h9) rfl qd_M_production_144 ?_
          refine lv_iload_n hx hb qd_M_production_147 rfl (lv_at hl 3 rfl) ?_
          obtain ⟨g_148, ho⟩ := ho
          refine va_iast hx hb hK hP hD hS 1 0 rfl rfl g_148 qd_M_production_148 (fun H locs hP hD hS => ?_)
          have hP : va_P (dC, dI) vwCl [(aM, .inr (7, [.int u_131.2, .int vMP, .ref aMh, .ref aMi, .ref aMc, .int vMK, .ref aMt, .int vMB, .ref aMn, .ref aMl, .ref aMs, .int vMD, .ref aMd, .int vME, .ref aMe, .int vMO, .ref aMo, .int vMF, .int vMS, .ref aMw, .ref aMu, .int vMX, .int vMW])), (aMh, .inl (cA, 24, .inl (upd vMh vMP.toNatClampNeg p0))), (aMi, .inl (cA, 72, .inl (vMi))), (aMc, .inl (cA, 24, .inl (vMc))), (aMs, .inl (cZ, 100, .inl (vMs)))] H := hP
          have hD : va_D A [(aM, .inr (7, [.int u_131.2, .int vMP, .ref aMh, .ref aMi, .ref aMc, .int vMK, .ref aMt, .int vMB, .ref aMn, .ref aMl, .ref aMs, .int vMD, .ref aMd, .int vME, .ref aMe, .int vMO, .ref aMo, .int vMF, .int vMS, .ref aMw, .ref aMu, .int vMX, .int vMW])), (aMh, .inl (cA, 24, .inl (upd vMh vMP.toNatClampNeg p0))), (aMi, .inl (cA, 72, .inl (vMi))), (aMc, .inl (cA, 24, .inl (vMc))), (aMs, .inl (cZ, 100, .inl (vMs)))] := hD
          refine lv_aload_n hx hb qd_M_production_149 rfl (lv_at hl 2 rfl) ?_
          refine va_get (D := (dC, dI)) (ci := 7) (v := .ref aMi) (C := qR_M) (T := qT_M) (N := 23) hx hb hg qi_M hown hK hP 0 rfl rfl 3 (by decide) (hg _ mw_577) (fun _ h9 => h9) rfl qd_M_production_150 ?_
          refine lv_iconst (v := 3) hx hb qd_M_production_153 (by decide) ?_
          refine lv_aload_n hx hb qd_M_production_154 rfl (lv_at hl 2 rfl) ?_
          refine va_get (D := (dC, dI)) (ci := 7) (v := .int vMP) (C := qR_M) (T := qT_M) (N := 23) hx hb hg qi_M hown hK hP 0 rfl rfl 1 (by decide) (hg _ mw_575) (fun _ h9 => h9) rfl qd_M_production_155 ?_
          refine lv_imul hx hb qd_M_production_158 ?_
          refine lv_iload_n hx hb qd_M_production_159 rfl (lv_at hl 4 rfl) ?_
          obtain ⟨g_160, ho⟩ := ho
          refine va_iast hx hb hK hP hD hS 2 0 rfl rfl g_160 qd_M_production_160 (fun H locs hP hD hS => ?_)
          have hP : va_P (dC, dI) vwCl [(aM, .inr (7, [.int u_131.2, .int vMP, .ref aMh, .ref aMi, .ref aMc, .int vMK, .ref aMt, .int vMB, .ref aMn, .ref aMl, .ref aMs, .int vMD, .ref aMd, .int vME, .ref aMe, .int vMO, .ref aMo, .int vMF, .int vMS, .ref aMw, .ref aMu, .int vMX, .int vMW])), (aMh, .inl (cA, 24, .inl (upd vMh vMP.toNatClampNeg p0))), (aMi, .inl (cA, 72, .inl (upd vMi (3 * vMP).toNatClampNeg p1))), (aMc, .inl (cA, 24, .inl (vMc))), (aMs, .inl (cZ, 100, .inl (vMs)))] H := hP
          have hD : va_D A [(aM, .inr (7, [.int u_131.2, .int vMP, .ref aMh, .ref aMi, .ref aMc, .int vMK, .ref aMt, .int vMB, .ref aMn, .ref aMl, .ref aMs, .int vMD, .ref aMd, .int vME, .ref aMe, .int vMO, .ref aMo, .int vMF, .int vMS, .ref aMw, .ref aMu, .int vMX, .int vMW])), (aMh, .inl (cA, 24, .inl (upd vMh vMP.toNatClampNeg p0))), (aMi, .inl (cA, 72, .inl (upd vMi (3 * vMP).toNatClampNeg p1))), (aMc, .inl (cA, 24, .inl (vMc))), (aMs, .inl (cZ, 100, .inl (vMs)))] := hD
          refine lv_aload_n hx hb qd_M_production_161 rfl (lv_at hl 2 rfl) ?_
          refine va_get (D := (dC, dI)) (ci := 7) (v := .ref aMi) (C := qR_M) (T := qT_M) (N := 23) hx hb hg qi_M hown hK hP 0 rfl rfl 3 (by decide) (hg _ mw_577) (fun _ h9 => h9) rfl qd_M_production_162 ?_
          refine lv_iconst (v := 3) hx hb qd_M_production_165 (by decide) ?_
          refine lv_aload_n hx hb qd_M_production_166 rfl (lv_at hl 2 rfl) ?_
          refine va_get (D := (dC, dI)) (ci := 7) (v := .int vMP) (C := qR_M) (T := qT_M) (N := 23) hx hb hg qi_M hown hK hP 0 rfl rfl 1 (by decide) (hg _ mw_575) (fun _ h9 => h9) rfl qd_M_production_167 ?_
          refine lv_imul hx hb qd_M_production_170 ?_
          refine lv_iconst (v := 1) hx hb qd_M_production_171 (by decide) ?_
          refine lv_iadd hx hb qd_M_production_172 ?_
          refine lv_iload_n hx hb qd_M_production_173 rfl (lv_at hl 5 rfl) ?_
          obtain ⟨g_174, ho⟩ := ho
          refine va_iast hx hb hK hP hD hS 2 0 rfl rfl g_174 qd_M_production_174 (fun H locs hP hD hS => ?_)
          have hP : va_P (dC, dI) vwCl [(aM, .inr (7, [.int u_131.2, .int vMP, .ref aMh, .ref aMi, .ref aMc, .int vMK, .ref aMt, .int vMB, .ref aMn, .ref aMl, .ref aMs, .int vMD, .ref aMd, .int vME, .ref aMe, .int vMO, .ref aMo, .int vMF, .int vMS, .ref aMw, .ref aMu, .int vMX, .int vMW])), (aMh, .inl (cA, 24, .inl (upd vMh vMP.toNatClampNeg p0))), (aMi, .inl (cA, 72, .inl (upd (upd vMi (3 * vMP).toNatClampNeg p1) ((3 * vMP) + 1).toNatClampNeg p2))), (aMc, .inl (cA, 24, .inl (vMc))), (aMs, .inl (cZ, 100, .inl (vMs)))] H := hP
          have hD : va_D A [(aM, .inr (7, [.int u_131.2, .int vMP, .ref aMh, .ref aMi, .ref aMc, .int vMK, .ref aMt, .int vMB, .ref aMn, .ref aMl, .ref aMs, .int vMD, .ref aMd, .int vME, .ref aMe, .int vMO, .ref aMo, .int vMF, .int vMS, .ref aMw, .ref aMu, .int vMX, .int vMW])), (aMh, .inl (cA, 24, .inl (upd vMh vMP.toNatClampNeg p0))), (aMi, .inl (cA, 72, .inl (upd (upd vMi (3 * vMP).toNatClampNeg p1) ((3 * vMP) + 1).toNatClampNeg p2))), (aMc, .inl (cA, 24, .inl (vMc))), (aMs, .inl (cZ, 100, .inl (vMs)))] := hD
          refine lv_aload_n hx hb qd_M_production_175 rfl (lv_at hl 2 rfl) ?_
          refine va_get (D := (dC, dI)) (ci := 7) (v := .ref aMi) (C := qR_M) (T := qT_M) (N := 23) hx hb hg qi_M hown hK hP 0 rfl rfl 3 (by decide) (hg _ mw_577) (fun _ h9 => h9) rfl qd_M_production_176 ?_
          refine lv_iconst (v := 3) hx hb qd_M_production_179 (by decide) ?_
          refine lv_aload_n hx hb qd_M_production_180 rfl (lv_at hl 2 rfl) ?_
          refine va_get (D := (dC, dI)) (ci := 7) (v := .int vMP) (C := qR_M) (T := qT_M) (N := 23) hx hb hg qi_M hown hK hP 0 rfl rfl 1 (by decide) (hg _ mw_575) (fun _ h9 => h9) rfl qd_M_production_181 ?_
          refine lv_imul hx hb qd_M_production_184 ?_
          refine lv_iconst (v := 2) hx hb qd_M_production_185 (by decide) ?_
          refine lv_iadd hx hb qd_M_production_186 ?_
          refine lv_iload hx hb qd_M_production_187 (lv_at hl 6 rfl) ?_
          obtain ⟨g_189, ho⟩ := ho
          refine va_iast hx hb hK hP hD hS 2 0 rfl rfl g_189 qd_M_production_189 (fun H locs hP hD hS => ?_)
          have hP : va_P (dC, dI) vwCl [(aM, .inr (7, [.int u_131.2, .int vMP, .ref aMh, .ref aMi, .ref aMc, .int vMK, .ref aMt, .int vMB, .ref aMn, .ref aMl, .ref aMs, .int vMD, .ref aMd, .int vME, .ref aMe, .int vMO, .ref aMo, .int vMF, .int vMS, .ref aMw, .ref aMu, .int vMX, .int vMW])), (aMh, .inl (cA, 24, .inl (upd vMh vMP.toNatClampNeg p0))), (aMi, .inl (cA, 72, .inl (upd (upd (upd vMi (3 * vMP).toNatClampNeg p1) ((3 * vMP) + 1).toNatClampNeg p2) ((3 * vMP) + 2).toNatClampNeg p3))), (aMc, .inl (cA, 24, .inl (vMc))), (aMs, .inl (cZ, 100, .inl (vMs)))] H := hP
          have hD : va_D A [(aM, .inr (7, [.int u_131.2, .int vMP, .ref aMh, .ref aMi, .ref aMc, .int vMK, .ref aMt, .int vMB, .ref aMn, .ref aMl, .ref aMs, .int vMD, .ref aMd, .int vME, .ref aMe, .int vMO, .ref aMo, .int vMF, .int vMS, .ref aMw, .ref aMu, .int vMX, .int vMW])), (aMh, .inl (cA, 24, .inl (upd vMh vMP.toNatClampNeg p0))), (aMi, .inl (cA, 72, .inl (upd (upd (upd vMi (3 * vMP).toNatClampNeg p1) ((3 * vMP) + 1).toNatClampNeg p2) ((3 * vMP) + 2).toNatClampNeg p3))), (aMc, .inl (cA, 24, .inl (vMc))), (aMs, .inl (cZ, 100, .inl (vMs)))] := hD
          refine lv_aload_n hx hb qd_M_production_190 rfl (lv_at hl 2 rfl) ?_
          refine va_get (D := (dC, dI)) (ci := 7) (v := .ref aMc) (C := qR_M) (T := qT_M) (N := 23) hx hb hg qi_M hown hK hP 0 rfl rfl 4 (by decide) (hg _ mw_578) (fun _ h9 => h9) rfl qd_M_production_191 ?_
          refine lv_aload_n hx hb qd_M_production_194 rfl (lv_at hl 2 rfl) ?_
          refine va_get (D := (dC, dI)) (ci := 7) (v := .int vMP) (C := qR_M) (T := qT_M) (N := 23) hx hb hg qi_M hown hK hP 0 rfl rfl 1 (by decide) (hg _ mw_575) (fun _ h9 => h9) rfl qd_M_production_195 ?_
          refine lv_iload hx hb qd_M_production_198 (lv_at hl 7 rfl) ?_
          obtain ⟨g_200, ho⟩ := ho
          refine va_iast hx hb hK hP hD hS 3 0 rfl rfl g_200 qd_M_production_200 (fun H locs hP hD hS => ?_)
          have hP : va_P (dC, dI) vwCl [(aM, .inr (7, [.int u_131.2, .int vMP, .ref aMh, .ref aMi, .ref aMc, .int vMK, .ref aMt, .int vMB, .ref aMn, .ref aMl, .ref aMs, .int vMD, .ref aMd, .int vME, .ref aMe, .int vMO, .ref aMo, .int vMF, .int vMS, .ref aMw, .ref aMu, .int vMX, .int vMW])), (aMh, .inl (cA, 24, .inl (upd vMh vMP.toNatClampNeg p0))), (aMi, .inl (cA, 72, .inl (upd (upd (upd vMi (3 * vMP).toNatClampNeg p1) ((3 * vMP) + 1).toNatClampNeg p2) ((3 * vMP) + 2).toNatClampNeg p3))), (aMc, .inl (cA, 24, .inl (upd vMc vMP.toNatClampNeg p4))), (aMs, .inl (cZ, 100, .inl (vMs)))] H := hP
          have hD : va_D A [(aM, .inr (7, [.int u_131.2, .int vMP, .ref aMh, .ref aMi, .ref aMc, .int vMK, .ref aMt, .int vMB, .ref aMn, .ref aMl, .ref aMs, .int vMD, .ref aMd, .int vME, .ref aMe, .int vMO, .ref aMo, .int vMF, .int vMS, .ref aMw, .ref aMu, .int vMX, .int vMW])), (aMh, .inl (cA, 24, .inl (upd vMh vMP.toNatClampNeg p0))), (aMi, .inl (cA, 72, .inl (upd (upd (upd vMi (3 * vMP).toNatClampNeg p1) ((3 * vMP) + 1).toNatClampNeg p2) ((3 * vMP) + 2).toNatClampNeg p3))), (aMc, .inl (cA, 24, .inl (upd vMc vMP.toNatClampNeg p4))), (aMs, .inl (cZ, 100, .inl (vMs)))] := hD
          refine lv_aload_n hx hb qd_M_production_201 rfl (lv_at hl 2 rfl) ?_
          refine lv_dup hx hb qd_M_production_202 rfl ?_
          refine va_get (D := (dC, dI)) (ci := 7) (v := .int vMP) (C := qR_M) (T := qT_M) (N := 23) hx hb hg qi_M hown hK hP 0 rfl rfl 1 (by decide) (hg _ mw_575) (fun _ h9 => h9) rfl qd_M_production_203 ?_
          refine lv_iconst (v := 1) hx hb qd_M_production_206 (by decide) ?_
          refine lv_iadd hx hb qd_M_production_207 ?_
          refine va_put (D := (dC, dI)) (ci := 7) (v := .int (vMP + 1)) (ty := .int) (C := qR_M) (T := qT_M) (N := 23) hx hb hg qi_M qt_M qk_M qn_M hown hK hP hD hS 0 rfl rfl 1 (by decide) (hg _ mw_575) (fun _ h9 => h9) rfl (by decide +kernel) rfl rfl (Nat.le_of_ble_eq_true rfl) qd_M_production_208 (fun H locs hP hD hS => ?_)
          have hP : va_P (dC, dI) vwCl [(aM, .inr (7, [.int u_131.2, .int (vMP + 1), .ref aMh, .ref aMi, .ref aMc, .int vMK, .ref aMt, .int vMB, .ref aMn, .ref aMl, .ref aMs, .int vMD, .ref aMd, .int vME, .ref aMe, .int vMO, .ref aMo, .int vMF, .int vMS, .ref aMw, .ref aMu, .int vMX, .int vMW])), (aMh, .inl (cA, 24, .inl (upd vMh vMP.toNatClampNeg p0))), (aMi, .inl (cA, 72, .inl (upd (upd (upd vMi (3 * vMP).toNatClampNeg p1) ((3 * vMP) + 1).toNatClampNeg p2) ((3 * vMP) + 2).toNatClampNeg p3))), (aMc, .inl (cA, 24, .inl (upd vMc vMP.toNatClampNeg p4))), (aMs, .inl (cZ, 100, .inl (vMs)))] H := hP
          have hD : va_D A [(aM, .inr (7, [.int u_131.2, .int (vMP + 1), .ref aMh, .ref aMi, .ref aMc, .int vMK, .ref aMt, .int vMB, .ref aMn, .ref aMl, .ref aMs, .int vMD, .ref aMd, .int vME, .ref aMe, .int vMO, .ref aMo, .int vMF, .int vMS, .ref aMw, .ref aMu, .int vMX, .int vMW])), (aMh, .inl (cA, 24, .inl (upd vMh vMP.toNatClampNeg p0))), (aMi, .inl (cA, 72, .inl (upd (upd (upd vMi (3 * vMP).toNatClampNeg p1) ((3 * vMP) + 1).toNatClampNeg p2) ((3 * vMP) + 2).toNatClampNeg p3))), (aMc, .inl (cA, 24, .inl (upd vMc vMP.toNatClampNeg p4))), (aMs, .inl (cZ, 100, .inl (vMs)))] := hD
          refine lv_aload_n hx hb qd_M_production_211 rfl (lv_at hl 2 rfl) ?_
          refine lv_iconst (v := 0) hx hb qd_M_production_212 (by decide) ?_
          refine va_put (D := (dC, dI)) (ci := 7) (v := .int 0) (ty := .boolean) (C := qR_M) (T := qT_M) (N := 23) hx hb hg qi_M qt_M qk_M qn_M hown hK hP hD hS 0 rfl rfl 7 (by decide) (hg _ mw_581) (fun _ h9 => h9) rfl (by decide +kernel) rfl rfl (Nat.le_of_ble_eq_true rfl) qd_M_production_213 (fun H locs hP hD hS => ?_)
          have hP : va_P (dC, dI) vwCl [(aM, .inr (7, [.int u_131.2, .int (vMP + 1), .ref aMh, .ref aMi, .ref aMc, .int vMK, .ref aMt, .int 0, .ref aMn, .ref aMl, .ref aMs, .int vMD, .ref aMd, .int vME, .ref aMe, .int vMO, .ref aMo, .int vMF, .int vMS, .ref aMw, .ref aMu, .int vMX, .int vMW])), (aMh, .inl (cA, 24, .inl (upd vMh vMP.toNatClampNeg p0))), (aMi, .inl (cA, 72, .inl (upd (upd (upd vMi (3 * vMP).toNatClampNeg p1) ((3 * vMP) + 1).toNatClampNeg p2) ((3 * vMP) + 2).toNatClampNeg p3))), (aMc, .inl (cA, 24, .inl (upd vMc vMP.toNatClampNeg p4))), (aMs, .inl (cZ, 100, .inl (vMs)))] H := hP
          have hD : va_D A [(aM, .inr (7, [.int u_131.2, .int (vMP + 1), .ref aMh, .ref aMi, .ref aMc, .int vMK, .ref aMt, .int 0, .ref aMn, .ref aMl, .ref aMs, .int vMD, .ref aMd, .int vME, .ref aMe, .int vMO, .ref aMo, .int vMF, .int vMS, .ref aMw, .ref aMu, .int vMX, .int vMW])), (aMh, .inl (cA, 24, .inl (upd vMh vMP.toNatClampNeg p0))), (aMi, .inl (cA, 72, .inl (upd (upd (upd vMi (3 * vMP).toNatClampNeg p1) ((3 * vMP) + 1).toNatClampNeg p2) ((3 * vMP) + 2).toNatClampNeg p3))), (aMc, .inl (cA, 24, .inl (upd vMc vMP.toNatClampNeg p4))), (aMs, .inl (cZ, 100, .inl (vMs)))] := hD
          refine lv_aload_n hx hb qd_M_production_216 rfl (lv_at hl 2 rfl) ?_
          refine va_get (D := (dC, dI)) (ci := 7) (v := .int (vMP + 1)) (C := qR_M) (T := qT_M) (N := 23) hx hb hg qi_M hown hK hP 0 rfl rfl 1 (by decide) (hg _ mw_575) (fun _ h9 => h9) rfl qd_M_production_217 ?_
          refine lv_iconst (v := 1) hx hb qd_M_production_220 (by decide) ?_
          refine lv_isub hx hb qd_M_production_221 ?_
          exact W.iret (v := (vMP + 1) - 1) hx hb hr (fun t ht hW => ⟨⟨_, ((vMP + 1) - 1, u_131.2, vMP + 1, 0, upd vMh vMP.toNatClampNeg p0, upd (upd (upd vMi (3 * vMP).toNatClampNeg p1) ((3 * vMP) + 1).toNatClampNeg p2) ((3 * vMP) + 2).toNatClampNeg p3, upd vMc vMP.toNatClampNeg p4, vMs), rfl, ⟨hres.symm, rfl⟩, ⟨by rw [ht]; exact hP, va_K.moved hW.alike hK, x_N hN hW⟩, hD⟩, hS.F ht⟩) hS.2.2 qd_M_production_222
        have hres := hres.trans (if_neg c_134)
        have ho := (if_neg c_134).mp ho
        refine lv_iconst (v := 0) hx hb qd_M_production_137 (by decide) ?_
        exact W.iret (v := 0) hx hb hr (fun t ht hW => ⟨⟨_, (0, u_131.2, vMP, vMB, vMh, vMi, vMc, vMs), rfl, ⟨hres.symm, rfl⟩, ⟨by rw [ht]; exact hP, va_K.moved hW.alike hK, x_N hN hW⟩, hD⟩, hS.F ht⟩) hS.2.2 qd_M_production_138
      have hres := hres.trans (if_pos c_121)
      have ho := (if_pos c_121).mp ho
      refine lv_iconst (v := 1) hx hb qd_M_production_124 (by decide) ?_
      refine lv_goto (tgt := 129) hx hb qd_M_production_125 (by decide) ?_
      refine lv_iload hx hb qd_M_production_129 (lv_at hl 0 rfl) ?_
      refine xm_Vi (As := [.int 0, .int 1, .int 0]) (rest := []) (w1 := fun (u_131 : Int32 × Int32) => [(aM, .inr (7, [.int u_131.2, .int vMP, .ref aMh, .ref aMi, .ref aMc, .int vMK, .ref aMt, .int vMB, .ref aMn, .ref aMl, .ref aMs, .int vMD, .ref aMd, .int vME, .ref aMe, .int vMO, .ref aMo, .int vMF, .int vMS, .ref aMw, .ref aMu, .int vMX, .int vMW]))]) (w2 := fun (u_131 : Int32 × Int32) => [(aM, .inr (7, [.int u_131.2, .int vMP, .ref aMh, .ref aMi, .ref aMc, .int vMK, .ref aMt, .int vMB, .ref aMn, .ref aMl, .ref aMs, .int vMD, .ref aMd, .int vME, .ref aMe, .int vMO, .ref aMo, .int vMF, .int vMS, .ref aMw, .ref aMu, .int vMX, .int vMW])), (aMh, .inl (cA, 24, .inl (vMh))), (aMi, .inl (cA, 72, .inl (vMi))), (aMc, .inl (cA, 24, .inl (vMc))), (aMs, .inl (cZ, 100, .inl (vMs)))]) ⟨hx, hb, hml, hown, hg⟩ (c_M_refuse l dC dI cA cZ aM aMh aMi aMc aMt aMn aMl aMs aMd aMe aMo aMw aMu _ vMT vMP vMK vMB vMD vME vMO vMF vMS vMX vMW 0 1 0) (cwV 3 hg (q_gV mw_642 mw_643 mw_771 mw_8 mw_644) rfl rfl rfl qh_M_refuse ⟨Nat.le_of_ble_eq_true rfl, Nat.le_of_ble_eq_true rfl⟩) hN hK hP hD hS hA [0] [1, 2, 3, 4] rfl rfl (by decide) (by decide) (by decide) [4, 0, 1, 2, 3] (fun _ => rfl) (by decide) 0 7 rfl rfl rfl hl.1 rfl (Nat.le_of_ble_eq_true rfl) qd_M_production_131 ⟨Nat.zero_le _, Nat.zero_le _⟩ (fun u_131 H locs w_131 hP hD hS => ?_)
      have hP : va_P (dC, dI) vwCl [(aM, .inr (7, [.int u_131.2, .int vMP, .ref aMh, .ref aMi, .ref aMc, .int vMK, .ref aMt, .int vMB, .ref aMn, .ref aMl, .ref aMs, .int vMD, .ref aMd, .int vME, .ref aMe, .int vMO, .ref aMo, .int vMF, .int vMS, .ref aMw, .ref aMu, .int vMX, .int vMW])), (aMh, .inl (cA, 24, .inl (vMh))), (aMi, .inl (cA, 72, .inl (vMi))), (aMc, .inl (cA, 24, .inl (vMc))), (aMs, .inl (cZ, 100, .inl (vMs)))] H := hP
      have hD : va_D A [(aM, .inr (7, [.int u_131.2, .int vMP, .ref aMh, .ref aMi, .ref aMc, .int vMK, .ref aMt, .int vMB, .ref aMn, .ref aMl, .ref aMs, .int vMD, .ref aMd, .int vME, .ref aMe, .int vMO, .ref aMo, .int vMF, .int vMS, .ref aMw, .ref aMu, .int vMX, .int vMW])), (aMh, .inl (cA, 24, .inl (vMh))), (aMi, .inl (cA, 72, .inl (vMi))), (aMc, .inl (cA, 24, .inl (vMc))), (aMs, .inl (cZ, 100, .inl (vMs)))] := hD
      have hres := hres.trans (bd_eq w_131)
      have ho := (bd_eq w_131).mp ho
      refine lv_if_eq (tgt := 139) hx hb qd_M_production_134 (by decide) (fun c_134 => ?_) (fun c_134 => ?_)
      · have hres := hres.trans (if_pos c_134)
        have ho := (if_pos c_134).mp ho
        refine lv_aload_n hx hb qd_M_production_139 rfl (lv_at hl 2 rfl) ?_
        refine va_get (D := (dC, dI)) (ci := 7) (v := .ref aMh) (C := qR_M) (T := qT_M) (N := 23) hx hb hg qi_M hown hK hP 0 rfl rfl 2 (by decide) (hg _ mw_576) (fun _ h9 => h9) rfl qd_M_production_140 ?_
        refine lv_aload_n hx hb qd_M_production_143 rfl (lv_at hl 2 rfl) ?_
        refine va_get (D := (dC, dI)) (ci := 7) (v := .int vMP) (C := qR_M) (T := qT_M) (N := 23) hx hb hg qi_M hown hK hP 0 rfl rfl 1 (by decide) (hg _ mw_575) (fun _ h9 => h9) rfl qd_M_production_144 ?_
        refine lv_iload_n hx hb qd_M_production_147 rfl (lv_at hl 3 rfl) ?_
        obtain ⟨g_148, ho⟩ := ho
        refine va_iast hx hb hK hP hD hS 1 0 rfl rfl g_148 qd_M_production_148 (fun H locs hP hD hS => ?_)
        have hP : va_P (dC, dI) vwCl [(aM, .inr (7, [.int u_131.2, .int vMP, .ref aMh, .ref aMi, .ref aMc, .int vMK, .ref aMt, .int vMB, .ref aMn, .ref aMl, .ref aMs, .int vMD, .ref aMd, .int vME, .ref aMe, .int vMO, .ref aMo, .int vMF, .int vMS, .ref aMw, .ref aMu, .int vMX, .int vMW])), (aMh, .inl (cA, 24, .inl (upd vMh vMP.toNatClampNeg p0))), (aMi, .inl (cA, 72, .inl (vMi))), (aMc, .inl (cA, 24, .inl (vMc))), (aMs, .inl (cZ, 100, .inl (vMs)))] H := hP
        have hD : va_D A [(aM, .inr (7, [.int u_131.2, .int vMP, .ref aMh, .ref aMi, .ref aMc, .int vMK, .ref aMt, .int vMB, .ref aMn, .ref aMl, .ref aMs, .int vMD, .ref aMd, .int vME, .ref aMe, .int vMO, .ref aMo, .int vMF, .int vMS, .ref aMw, .ref aMu, .int vMX, .int vMW])), (aMh, .inl (cA, 24, .inl (upd vMh vMP.toNatClampNeg p0))), (aMi, .inl (cA, 72, .inl (vMi))), (aMc, .inl (cA, 24, .inl (vMc))), (aMs, .inl (cZ, 100, .inl (vMs)))] := hD
        refine lv_aload_n hx hb qd_M_production_149 rfl (lv_at hl 2 rfl) ?_
        refine va_get (D := (dC, dI)) (ci := 7) (v := .ref aMi) (C := qR_M) (T := qT_M) (N := 23) hx hb hg qi_M hown hK hP 0 rfl rfl 3 (by decide) (hg _ mw_577) (fun _ h9 => h9) rfl qd_M_production_150 ?_
        refine lv_iconst (v := 3) hx hb qd_M_production_153 (by decide) ?_
        refine lv_aload_n hx hb qd_M_production_154 rfl (lv_at hl 2 rfl) ?_
        refine va_get (D := (dC, dI)) (ci := 7) (v := .int vMP) (C := qR_M) (T := qT_M) (N := 23) hx hb hg qi_M hown hK hP 0 rfl rfl 1 (by decide) (hg _ mw_575) (fun _ h9 => h9) rfl qd_M_production_155 ?_
        refine lv_imul hx hb qd_M_production_158 ?_
        refine lv_iload_n hx hb qd_M_production_159 rfl (lv_at hl 4 rfl) ?_
        obtain ⟨g_160, ho⟩ := ho
        refine va_iast hx hb hK hP hD hS 2 0 rfl rfl g_160 qd_M_production_160 (fun H locs hP hD hS => ?_)
        have hP : va_P (dC, dI) vwCl [(aM, .inr (7, [.int u_131.2, .int vMP, .ref aMh, .ref aMi, .ref aMc, .int vMK, .ref aMt, .int vMB, .ref aMn, .ref aMl, .ref aMs, .int vMD, .ref aMd, .int vME, .ref aMe, .int vMO, .ref aMo, .int vMF, .int vMS, .ref aMw, .ref aMu, .int vMX, .int vMW])), (aMh, .inl (cA, 24, .inl (upd vMh vMP.toNatClampNeg p0))), (aMi, .inl (cA, 72, .inl (upd vMi (3 * vMP).toNatClampNeg p1))), (aMc, .inl (cA, 24, .inl (vMc))), (aMs, .inl (cZ, 100, .inl (vMs)))] H := hP
        have hD : va_D A [(aM, .inr (7, [.int u_131.2, .int vMP, .ref aMh, .ref aMi, .ref aMc, .int vMK, .ref aMt, .int vMB, .ref aMn, .ref aMl, .ref aMs, .int vMD, .ref aMd, .int vME, .ref aMe, .int vMO, .ref aMo, .int vMF, .int vMS, .ref aMw, .ref aMu, .int vMX, .int vMW])), (aMh, .inl (cA, 24, .inl (upd vMh vMP.toNatClampNeg p0))), (aMi, .inl (cA, 72, .inl (upd vMi (3 * vMP).toNatClampNeg p1))), (aMc, .inl (cA, 24, .inl (vMc))), (aMs, .inl (cZ, 100, .inl (vMs)))] := hD
        refine lv_aload_n hx hb qd_M_production_161 rfl (lv_at hl 2 rfl) ?_
        refine va_get (D := (dC, dI)) (ci := 7) (v := .ref aMi) (C := qR_M) (T := qT_M) (N := 23) hx hb hg qi_M hown hK hP 0 rfl rfl 3 (by decide) (hg _ mw_577) (fun _ h9 => h9) rfl qd_M_production_162 ?_
        refine lv_iconst (v := 3) hx hb qd_M_production_165 (by decide) ?_
        refine lv_aload_n hx hb qd_M_production_166 rfl (lv_at hl 2 rfl) ?_
        refine va_get (D := (dC, dI)) (ci := 7) (v := .int vMP) (C := qR_M) (T := qT_M) (N := 23) hx hb hg qi_M hown hK hP 0 rfl rfl 1 (by decide) (hg _ mw_575) (fun _ h9 => h9) rfl qd_M_production_167 ?_
        refine lv_imul hx hb qd_M_production_170 ?_
        refine lv_iconst (v := 1) hx hb qd_M_production_171 (by decide) ?_
        refine lv_iadd hx hb qd_M_production_172 ?_
        refine lv_iload_n hx hb qd_M_production_173 rfl (lv_at hl 5 rfl) ?_
        obtain ⟨g_174, ho⟩ := ho
        refine va_iast hx hb hK hP hD hS 2 0 rfl rfl g_174 qd_M_production_174 (fun H locs hP hD hS => ?_)
        have hP : va_P (dC, dI) vwCl [(aM, .inr (7, [.int u_131.2, .int vMP, .ref aMh, .ref aMi, .ref aMc, .int vMK, .ref aMt, .int vMB, .ref aMn, .ref aMl, .ref aMs, .int vMD, .ref aMd, .int vME, .ref aMe, .int vMO, .ref aMo, .int vMF, .int vMS, .ref aMw, .ref aMu, .int vMX, .int vMW])), (aMh, .inl (cA, 24, .inl (upd vMh vMP.toNatClampNeg p0))), (aMi, .inl (cA, 72, .inl (upd (upd vMi (3 * vMP).toNatClampNeg p1) ((3 * vMP) + 1).toNatClampNeg p2))), (aMc, .inl (cA, 24, .inl (vMc))), (aMs, .inl (cZ, 100, .inl (vMs)))] H := hP
        have hD : va_D A [(aM, .inr (7, [.int u_131.2, .int vMP, .ref aMh, .ref aMi, .ref aMc, .int vMK, .ref aMt, .int vMB, .ref aMn, .ref aMl, .ref aMs, .int vMD, .ref aMd, .int vME, .ref aMe, .int vMO, .ref aMo, .int vMF, .int vMS, .ref aMw, .ref aMu, .int vMX, .int vMW])), (aMh, .inl (cA, 24, .inl (upd vMh vMP.toNatClampNeg p0))), (aMi, .inl (cA, 72, .inl (upd (upd vMi (3 * vMP).toNatClampNeg p1) ((3 * vMP) + 1).toNatClampNeg p2))), (aMc, .inl (cA, 24, .inl (vMc))), (aMs, .inl (cZ, 100, .inl (vMs)))] := hD
        refine lv_aload_n hx hb qd_M_production_175 rfl (lv_at hl 2 rfl) ?_
        refine va_get (D := (dC, dI)) (ci := 7) (v := .ref aMi) (C := qR_M) (T := qT_M) (N := 23) hx hb hg qi_M hown hK hP 0 rfl rfl 3 (by decide) (hg _ mw_577) (fun _ h9 => h9) rfl qd_M_production_176 ?_
        refine lv_iconst (v := 3) hx hb qd_M_production_179 (by decide) ?_
        refine lv_aload_n hx hb qd_M_production_180 rfl (lv_at hl 2 rfl) ?_
        refine va_get (D := (dC, dI)) (ci := 7) (v := .int vMP) (C := qR_M) (T := qT_M) (N := 23) hx hb hg qi_M hown hK hP 0 rfl rfl 1 (by decide) (hg _ mw_575) (fun _ h9 => h9) rfl qd_M_production_181 ?_
        refine lv_imul hx hb qd_M_production_184 ?_
        refine lv_iconst (v := 2) hx hb qd_M_production_185 (by decide) ?_
        refine lv_iadd hx hb qd_M_production_186 ?_
        refine lv_iload hx hb qd_M_production_187 (lv_at hl 6 rfl) ?_
        obtain ⟨g_189, ho⟩ := ho
        refine va_iast hx hb hK hP hD hS 2 0 rfl rfl g_189 qd_M_production_189 (fun H locs hP hD hS => ?_)
        have hP : va_P (dC, dI) vwCl [(aM, .inr (7, [.int u_131.2, .int vMP, .ref aMh, .ref aMi, .ref aMc, .int vMK, .ref aMt, .int vMB, .ref aMn, .ref aMl, .ref aMs, .int vMD, .ref aMd, .int vME, .ref aMe, .int vMO, .ref aMo, .int vMF, .int vMS, .ref aMw, .ref aMu, .int vMX, .int vMW])), (aMh, .inl (cA, 24, .inl (upd vMh vMP.toNatClampNeg p0))), (aMi, .inl (cA, 72, .inl (upd (upd (upd vMi (3 * vMP).toNatClampNeg p1) ((3 * vMP) + 1).toNatClampNeg p2) ((3 * vMP) + 2).toNatClampNeg p3))), (aMc, .inl (cA, 24, .inl (vMc))), (aMs, .inl (cZ, 100, .inl (vMs)))] H := hP
        have hD : va_D A [(aM, .inr (7, [.int u_131.2, .int vMP, .ref aMh, .ref aMi, .ref aMc, .int vMK, .ref aMt, .int vMB, .ref aMn, .ref aMl, .ref aMs, .int vMD, .ref aMd, .int vME, .ref aMe, .int vMO, .ref aMo, .int vMF, .int vMS, .ref aMw, .ref aMu, .int vMX, .int vMW])), (aMh, .inl (cA, 24, .inl (upd vMh vMP.toNatClampNeg p0))), (aMi, .inl (cA, 72, .inl (upd (upd (upd vMi (3 * vMP).toNatClampNeg p1) ((3 * vMP) + 1).toNatClampNeg p2) ((3 * vMP) + 2).toNatClampNeg p3))), (aMc, .inl (cA, 24, .inl (vMc))), (aMs, .inl (cZ, 100, .inl (vMs)))] := hD
        refine lv_aload_n hx hb qd_M_production_190 rfl (lv_at hl 2 rfl) ?_
        refine va_get (D := (dC, dI)) (ci := 7) (v := .ref aMc) (C := qR_M) (T := qT_M) (N := 23) hx hb hg qi_M hown hK hP 0 rfl rfl 4 (by decide) (hg _ mw_578) (fun _ h9 => h9) rfl qd_M_production_191 ?_
        refine lv_aload_n hx hb qd_M_production_194 rfl (lv_at hl 2 rfl) ?_
        refine va_get (D := (dC, dI)) (ci := 7) (v := .int vMP) (C := qR_M) (T := qT_M) (N := 23) hx hb hg qi_M hown hK hP 0 rfl rfl 1 (by decide) (hg _ mw_575) (fun _ h9 => h9) rfl qd_M_production_195 ?_
        refine lv_iload hx hb qd_M_production_198 (lv_at hl 7 rfl) ?_
        obtain ⟨g_200, ho⟩ := ho
        refine va_iast hx hb hK hP hD hS 3 0 rfl rfl g_200 qd_M_production_200 (fun H locs hP hD hS => ?_)
        have hP : va_P (dC, dI) vwCl [(aM, .inr (7, [.int u_131.2, .int vMP, .ref aMh, .ref aMi, .ref aMc, .int vMK, .ref aMt, .int vMB, .ref aMn, .ref aMl, .ref aMs, .int vMD, .ref aMd, .int vME, .ref aMe, .int vMO, .ref aMo, .int vMF, .int vMS, .ref aMw, .ref aMu, .int vMX, .int vMW])), (aMh, .inl (cA, 24, .inl (upd vMh vMP.toNatClampNeg p0))), (aMi, .inl (cA, 72, .inl (upd (upd (upd vMi (3 * vMP).toNatClampNeg p1) ((3 * vMP) + 1).toNatClampNeg p2) ((3 * vMP) + 2).toNatClampNeg p3))), (aMc, .inl (cA, 24, .inl (upd vMc vMP.toNatClampNeg p4))), (aMs, .inl (cZ, 100, .inl (vMs)))] H := hP
        have hD : va_D A [(aM, .inr (7, [.int u_131.2, .int vMP, .ref aMh, .ref aMi, .ref aMc, .int vMK, .ref aMt, .int vMB, .ref aMn, .ref aMl, .ref aMs, .int vMD, .ref aMd, .int vME, .ref aMe, .int vMO, .ref aMo, .int vMF, .int vMS, .ref aMw, .ref aMu, .int vMX, .int vMW])), (aMh, .inl (cA, 24, .inl (upd vMh vMP.toNatClampNeg p0))), (aMi, .inl (cA, 72, .inl (upd (upd (upd vMi (3 * vMP).toNatClampNeg p1) ((3 * vMP) + 1).toNatClampNeg p2) ((3 * vMP) + 2).toNatClampNeg p3))), (aMc, .inl (cA, 24, .inl (upd vMc vMP.toNatClampNeg p4))), (aMs, .inl (cZ, 100, .inl (vMs)))] := hD
        refine lv_aload_n hx hb qd_M_production_201 rfl (lv_at hl 2 rfl) ?_
        refine lv_dup hx hb qd_M_production_202 rfl ?_
        refine va_get (D := (dC, dI)) (ci := 7) (v := .int vMP) (C := qR_M) (T := qT_M) (N := 23) hx hb hg qi_M hown hK hP 0 rfl rfl 1 (by decide) (hg _ mw_575) (fun _ h9 => h9) rfl qd_M_production_203 ?_
        refine lv_iconst (v := 1) hx hb qd_M_production_206 (by decide) ?_
        refine lv_iadd hx hb qd_M_production_207 ?_
        refine va_put (D := (dC, dI)) (ci := 7) (v := .int (vMP + 1)) (ty := .int) (C := qR_M) (T := qT_M) (N := 23) hx hb hg qi_M qt_M qk_M qn_M hown hK hP hD hS 0 rfl rfl 1 (by decide) (hg _ mw_575) (fun _ h9 => h9) rfl (by decide +kernel) rfl rfl (Nat.le_of_ble_eq_true rfl) qd_M_production_208 (fun H locs hP hD hS => ?_)
        have hP : va_P (dC, dI) vwCl [(aM, .inr (7, [.int u_131.2, .int (vMP + 1), .ref aMh, .ref aMi, .ref aMc, .int vMK, .ref aMt, .int vMB, .ref aMn, .ref aMl, .ref aMs, .int vMD, .ref aMd, .int vME, .ref aMe, .int vMO, .ref aMo, .int vMF, .int vMS, .ref aMw, .ref aMu, .int vMX, .int vMW])), (aMh, .inl (cA, 24, .inl (upd vMh vMP.toNatClampNeg p0))), (aMi, .inl (cA, 72, .inl (upd (upd (upd vMi (3 * vMP).toNatClampNeg p1) ((3 * vMP) + 1).toNatClampNeg p2) ((3 * vMP) + 2).toNatClampNeg p3))), (aMc, .inl (cA, 24, .inl (upd vMc vMP.toNatClampNeg p4))), (aMs, .inl (cZ, 100, .inl (vMs)))] H := hP
        have hD : va_D A [(aM, .inr (7, [.int u_131.2, .int (vMP + 1), .ref aMh, .ref aMi, .ref aMc, .int vMK, .ref aMt, .int vMB, .ref aMn, .ref aMl, .ref aMs, .int vMD, .ref aMd, .int vME, .ref aMe, .int vMO, .ref aMo, .int vMF, .int vMS, .ref aMw, .ref aMu, .int vMX, .int vMW])), (aMh, .inl (cA, 24, .inl (upd vMh vMP.toNatClampNeg p0))), (aMi, .inl (cA, 72, .inl (upd (upd (upd vMi (3 * vMP).toNatClampNeg p1) ((3 * vMP) + 1).toNatClampNeg p2) ((3 * vMP) + 2).toNatClampNeg p3))), (aMc, .inl (cA, 24, .inl (upd vMc vMP.toNatClampNeg p4))), (aMs, .inl (cZ, 100, .inl (vMs)))] := hD
        refine lv_aload_n hx hb qd_M_production_211 rfl (lv_at hl 2 rfl) ?_
        refine lv_iconst (v := 0) hx hb qd_M_production_212 (by decide) ?_
        refine va_put (D := (dC, dI)) (ci := 7) (v := .int 0) (ty := .boolean) (C := qR_M) (T := qT_M) (N := 23) hx hb hg qi_M qt_M qk_M qn_M hown hK hP hD hS 0 rfl rfl 7 (by decide) (hg _ mw_581) (fun _ h9 => h9) rfl (by decide +kernel) rfl rfl (Nat.le_of_ble_eq_true rfl) qd_M_production_213 (fun H locs hP hD hS => ?_)
        have hP : va_P (dC, dI) vwCl [(aM, .inr (7, [.int u_131.2, .int (vMP + 1), .ref aMh, .ref aMi, .ref aMc, .int vMK, .ref aMt, .int 0, .ref aMn, .ref aMl, .ref aMs, .int vMD, .ref aMd, .int vME, .ref aMe, .int vMO, .ref aMo, .int vMF, .int vMS, .ref aMw, .ref aMu, .int vMX, .int vMW])), (aMh, .inl (cA, 24, .inl (upd vMh vMP.toNatClampNeg p0))), (aMi, .inl (cA, 72, .inl (upd (upd (upd vMi (3 * vMP).toNatClampNeg p1) ((3 * vMP) + 1).toNatClampNeg p2) ((3 * vMP) + 2).toNatClampNeg p3))), (aMc, .inl (cA, 24, .inl (upd vMc vMP.toNatClampNeg p4))), (aMs, .inl (cZ, 100, .inl (vMs)))] H := hP
        have hD : va_D A [(aM, .inr (7, [.int u_131.2, .int (vMP + 1), .ref aMh, .ref aMi, .ref aMc, .int vMK, .ref aMt, .int 0, .ref aMn, .ref aMl, .ref aMs, .int vMD, .ref aMd, .int vME, .ref aMe, .int vMO, .ref aMo, .int vMF, .int vMS, .ref aMw, .ref aMu, .int vMX, .int vMW])), (aMh, .inl (cA, 24, .inl (upd vMh vMP.toNatClampNeg p0))), (aMi, .inl (cA, 72, .inl (upd (upd (upd vMi (3 * vMP).toNatClampNeg p1) ((3 * vMP) + 1).toNatClampNeg p2) ((3 * vMP) + 2).toNatClampNeg p3))), (aMc, .inl (cA, 24, .inl (upd vMc vMP.toNatClampNeg p4))), (aMs, .inl (cZ, 100, .inl (vMs)))] := hD
        refine lv_aload_n hx hb qd_M_production_216 rfl (lv_at hl 2 rfl) ?_
        refine va_get (D := (dC, dI)) (ci := 7) (v := .int (vMP + 1)) (C := qR_M) (T := qT_M) (N := 23) hx hb hg qi_M hown hK hP 0 rfl rfl 1 (by decide) (hg _ mw_575) (fun _ h9 => h9) rfl qd_M_production_217 ?_
        refine lv_iconst (v := 1) hx hb qd_M_production_220 (by decide) ?_
        refine lv_isub hx hb qd_M_production_221 ?_
        exact W.iret (v := (vMP + 1) - 1) hx hb hr (fun t ht hW => ⟨⟨_, ((vMP + 1) - 1, u_131.2, vMP + 1, 0, upd vMh vMP.toNatClampNeg p0, upd (upd (upd vMi (3 * vMP).toNatClampNeg p1) ((3 * vMP) + 1).toNatClampNeg p2) ((3 * vMP) + 2).toNatClampNeg p3, upd vMc vMP.toNatClampNeg p4, vMs), rfl, ⟨hres.symm, rfl⟩, ⟨by rw [ht]; exact hP, va_K.moved hW.alike hK, x_N hN hW⟩, hD⟩, hS.F ht⟩) hS.2.2 qd_M_production_222
      have hres := hres.trans (if_neg c_134)
      have ho := (if_neg c_134).mp ho
      refine lv_iconst (v := 0) hx hb qd_M_production_137 (by decide) ?_
      exact W.iret (v := 0) hx hb hr (fun t ht hW => ⟨⟨_, (0, u_131.2, vMP, vMB, vMh, vMi, vMc, vMs), rfl, ⟨hres.symm, rfl⟩, ⟨by rw [ht]; exact hP, va_K.moved hW.alike hK, x_N hN hW⟩, hD⟩, hS.F ht⟩) hS.2.2 qd_M_production_138
    have hres := hres.trans (if_neg c_75)
    have ho := (if_neg c_75).mp ho
    refine lv_iload_n hx hb qd_M_production_78 rfl (lv_at hl 4 rfl) ?_
    refine lv_iconst (v := (-1)) hx hb qd_M_production_79 (by decide) ?_
    refine lv_icmp_ne (tgt := 96) hx hb qd_M_production_80 (by decide) (fun c_80 => ?_) (fun c_80 => ?_)
    rotate_left
    · exact absurd c_80 c_19
    refine lv_iconst (v := 0) hx hb qd_M_production_96 (by decide) ?_
    refine lv_istore (lv' := [(7, .int 0), (6, .int 1), (0, .ref aM), (1, .int p0), (2, .int p1), (3, .int p2), (4, .int p3), (5, .int p4)]) hx hb qd_M_production_97 hl (by decide) rfl (fun ls hl => ?_)
    refine lv_aload_n hx hb qd_M_production_99 rfl (lv_at hl 2 rfl) ?_
    refine lv_iload hx hb qd_M_production_100 (lv_at hl 1 rfl) ?_
    refine lv_if_ne (tgt := 109) hx hb qd_M_production_102 (by decide) (fun c_102 => ?_) (fun c_102 => ?_)
    rotate_left
    · exact absurd c_102 (by decide)
    refine lv_iconst (v := 0) hx hb qd_M_production_109 (by decide) ?_
    refine lv_iload hx hb qd_M_production_110 (lv_at hl 1 rfl) ?_
    refine lv_if_eq (tgt := 128) hx hb qd_M_production_112 (by decide) (fun c_112 => ?_) (fun c_112 => ?_)
    · exact absurd c_112 (by decide)
    refine lv_aload_n hx hb qd_M_production_115 rfl (lv_at hl 2 rfl) ?_
    refine va_get (D := (dC, dI)) (ci := 7) (v := .int vMP) (C := qR_M) (T := qT_M) (N := 23) hx hb hg qi_M hown hK hP 0 rfl rfl 1 (by decide) (hg _ mw_575) (fun _ h9 => h9) rfl qd_M_production_116 ?_
    refine lv_bipush (v := 24) hx hb qd_M_production_119 (by decide) ?_
    refine lv_icmp_ne (tgt := 128) hx hb qd_M_production_121 (by decide) (fun c_121 => ?_) (fun c_121 => ?_)
    · have hres := hres.trans (if_neg c_121)
      have ho := (if_neg c_121).mp ho
      refine lv_iconst (v := 0) hx hb qd_M_production_128 (by decide) ?_
      refine lv_iload hx hb qd_M_production_129 (lv_at hl 0 rfl) ?_
      refine xm_Vi (As := [.int 0, .int 0, .int 0]) (rest := []) (w1 := fun (u_131 : Int32 × Int32) => [(aM, .inr (7, [.int u_131.2, .int vMP, .ref aMh, .ref aMi, .ref aMc, .int vMK, .ref aMt, .int vMB, .ref aMn, .ref aMl, .ref aMs, .int vMD, .ref aMd, .int vME, .ref aMe, .int vMO, .ref aMo, .int vMF, .int vMS, .ref aMw, .ref aMu, .int vMX, .int vMW]))]) (w2 := fun (u_131 : Int32 × Int32) => [(aM, .inr (7, [.int u_131.2, .int vMP, .ref aMh, .ref aMi, .ref aMc, .int vMK, .ref aMt, .int vMB, .ref aMn, .ref aMl, .ref aMs, .int vMD, .ref aMd, .int vME, .ref aMe, .int vMO, .ref aMo, .int vMF, .int vMS, .ref aMw, .ref aMu, .int vMX, .int vMW])), (aMh, .inl (cA, 24, .inl (vMh))), (aMi, .inl (cA, 72, .inl (vMi))), (aMc, .inl (cA, 24, .inl (vMc))), (aMs, .inl (cZ, 100, .inl (vMs)))]) ⟨hx, hb, hml, hown, hg⟩ (c_M_refuse l dC dI cA cZ aM aMh aMi aMc aMt aMn aMl aMs aMd aMe aMo aMw aMu _ vMT vMP vMK vMB vMD vME vMO vMF vMS vMX vMW 0 0 0) (cwV 3 hg (q_gV mw_642 mw_643 mw_771 mw_8 mw_644) rfl rfl rfl qh_M_refuse ⟨Nat.le_of_ble_eq_true rfl, Nat.le_of_ble_eq_true rfl⟩) hN hK hP hD hS hA [0] [1, 2, 3, 4] rfl rfl (by decide) (by decide) (by decide) [4, 0, 1, 2, 3] (fun _ => rfl) (by decide) 0 7 rfl rfl rfl hl.1 rfl (Nat.le_of_ble_eq_true rfl) qd_M_production_131 ⟨Nat.zero_le _, Nat.zero_le _⟩ (fun u_131 H locs w_131 hP hD hS => ?_)
      have hP : va_P (dC, dI) vwCl [(aM, .inr (7, [.int u_131.2, .int vMP, .ref aMh, .ref aMi, .ref aMc, .int vMK, .ref aMt, .int vMB, .ref aMn, .ref aMl, .ref aMs, .int vMD, .ref aMd, .int vME, .ref aMe, .int vMO, .ref aMo, .int vMF, .int vMS, .ref aMw, .ref aMu, .int vMX, .int vMW])), (aMh, .inl (cA, 24, .inl (vMh))), (aMi, .inl (cA, 72, .inl (vMi))), (aMc, .inl (cA, 24, .inl (vMc))), (aMs, .inl (cZ, 100, .inl (vMs)))] H := hP
      have hD : va_D A [(aM, .inr (7, [.int u_131.2, .int vMP, .ref aMh, .ref aMi, .ref aMc, .int vMK, .ref aMt, .int vMB, .ref aMn, .ref aMl, .ref aMs, .int vMD, .ref aMd, .int vME, .ref aMe, .int vMO, .ref aMo, .int vMF, .int vMS, .ref aMw, .ref aMu, .int vMX, .int vMW])), (aMh, .inl (cA, 24, .inl (vMh))), (aMi, .inl (cA, 72, .inl (vMi))), (aMc, .inl (cA, 24, .inl (vMc))), (aMs, .inl (cZ, 100, .inl (vMs)))] := hD
      have hres := hres.trans (bd_eq w_131)
      have ho := (bd_eq w_131).mp ho
      refine lv_if_eq (tgt := 139) hx hb qd_M_production_134 (by decide) (fun c_134 => ?_) (fun c_134 => ?_)
      · have hres := hres.trans (if_pos c_134)
        have ho := (if_pos c_134).mp ho
        refine lv_aload_n hx hb qd_M_production_139 rfl (lv_at hl 2 rfl) ?_
        refine va_get (D := (dC, dI)) (ci := 7) (v := .ref aMh) (C := qR_M) (T := qT_M) (N := 23) hx hb hg qi_M hown hK hP 0 rfl rfl 2 (by decide) (hg _ mw_576) (fun _ h9 => h9) rfl qd_M_production_140 ?_
        refine lv_aload_n hx hb qd_M_production_143 rfl (lv_at hl 2 rfl) ?_
        refine va_get (D := (dC, dI)) (ci := 7) (v := .int vMP) (C := qR_M) (T := qT_M) (N := 23) hx hb hg qi_M hown hK hP 0 rfl rfl 1 (by decide) (hg _ mw_575) (fun _ h9 => h9) rfl qd_M_production_144 ?_
        refine lv_iload_n hx hb qd_M_production_147 rfl (lv_at hl 3 rfl) ?_
        obtain ⟨g_148, ho⟩ := ho
        refine va_iast hx hb hK hP hD hS 1 0 rfl rfl g_148 qd_M_production_148 (fun H locs hP hD hS => ?_)
        have hP : va_P (dC, dI) vwCl [(aM, .inr (7, [.int u_131.2, .int vMP, .ref aMh, .ref aMi, .ref aMc, .int vMK, .ref aMt, .int vMB, .ref aMn, .ref aMl, .ref aMs, .int vMD, .ref aMd, .int vME, .ref aMe, .int vMO, .ref aMo, .int vMF, .int vMS, .ref aMw, .ref aMu, .int vMX, .int vMW])), (aMh, .inl (cA, 24, .inl (upd vMh vMP.toNatClampNeg p0))), (aMi, .inl (cA, 72, .inl (vMi))), (aMc, .inl (cA, 24, .inl (vMc))), (aMs, .inl (cZ, 100, .inl (vMs)))] H := hP
        have hD : va_D A [(aM, .inr (7, [.int u_131.2, .int vMP, .ref aMh, .ref aMi, .ref aMc, .int vMK, .ref aMt, .int vMB, .ref aMn, .ref aMl, .ref aMs, .int vMD, .ref aMd, .int vME, .ref aMe, .int vMO, .ref aMo, .int vMF, .int vMS, .ref aMw, .ref aMu, .int vMX, .int vMW])), (aMh, .inl (cA, 24, .inl (upd vMh vMP.toNatClampNeg p0))), (aMi, .inl (cA, 72, .inl (vMi))), (aMc, .inl (cA, 24, .inl (vMc))), (aMs, .inl (cZ, 100, .inl (vMs)))] := hD
        refine lv_aload_n hx hb qd_M_production_149 rfl (lv_at hl 2 rfl) ?_
        refine va_get (D := (dC, dI)) (ci := 7) (v := .ref aMi) (C := qR_M) (T := qT_M) (N := 23) hx hb hg qi_M hown hK hP 0 rfl rfl 3 (by decide) (hg _ mw_577) (fun _ h9 => h9) rfl qd_M_production_150 ?_
        refine lv_iconst (v := 3) hx hb qd_M_production_153 (by decide) ?_
        refine lv_aload_n hx hb qd_M_production_154 rfl (lv_at hl 2 rfl) ?_
        refine va_get (D := (dC, dI)) (ci := 7) (v := .int vMP) (C := qR_M) (T := qT_M) (N := 23) hx hb hg qi_M hown hK hP 0 rfl rfl 1 (by decide) (hg _ mw_575) (fun _ h9 => h9) rfl qd_M_production_155 ?_
        refine lv_imul hx hb qd_M_production_158 ?_
        refine lv_iload_n hx hb qd_M_production_159 rfl (lv_at hl 4 rfl) ?_
        obtain ⟨g_160, ho⟩ := ho
        refine va_iast hx hb hK hP hD hS 2 0 rfl rfl g_160 qd_M_production_160 (fun H locs hP hD hS => ?_)
        have hP : va_P (dC, dI) vwCl [(aM, .inr (7, [.int u_131.2, .int vMP, .ref aMh, .ref aMi, .ref aMc, .int vMK, .ref aMt, .int vMB, .ref aMn, .ref aMl, .ref aMs, .int vMD, .ref aMd, .int vME, .ref aMe, .int vMO, .ref aMo, .int vMF, .int vMS, .ref aMw, .ref aMu, .int vMX, .int vMW])), (aMh, .inl (cA, 24, .inl (upd vMh vMP.toNatClampNeg p0))), (aMi, .inl (cA, 72, .inl (upd vMi (3 * vMP).toNatClampNeg p1))), (aMc, .inl (cA, 24, .inl (vMc))), (aMs, .inl (cZ, 100, .inl (vMs)))] H := hP
        have hD : va_D A [(aM, .inr (7, [.int u_131.2, .int vMP, .ref aMh, .ref aMi, .ref aMc, .int vMK, .ref aMt, .int vMB, .ref aMn, .ref aMl, .ref aMs, .int vMD, .ref aMd, .int vME, .ref aMe, .int vMO, .ref aMo, .int vMF, .int vMS, .ref aMw, .ref aMu, .int vMX, .int vMW])), (aMh, .inl (cA, 24, .inl (upd vMh vMP.toNatClampNeg p0))), (aMi, .inl (cA, 72, .inl (upd vMi (3 * vMP).toNatClampNeg p1))), (aMc, .inl (cA, 24, .inl (vMc))), (aMs, .inl (cZ, 100, .inl (vMs)))] := hD
        refine lv_aload_n hx hb qd_M_production_161 rfl (lv_at hl 2 rfl) ?_
        refine va_get (D := (dC, dI)) (ci := 7) (v := .ref aMi) (C := qR_M) (T := qT_M) (N := 23) hx hb hg qi_M hown hK hP 0 rfl rfl 3 (by decide) (hg _ mw_577) (fun _ h9 => h9) rfl qd_M_production_162 ?_
        refine lv_iconst (v := 3) hx hb qd_M_production_165 (by decide) ?_
        refine lv_aload_n hx hb qd_M_production_166 rfl (lv_at hl 2 rfl) ?_
        refine va_get (D := (dC, dI)) (ci := 7) (v := .int vMP) (C := qR_M) (T := qT_M) (N := 23) hx hb hg qi_M hown hK hP 0 rfl rfl 1 (by decide) (hg _ mw_575) (fun _ h9 => h9) rfl qd_M_production_167 ?_
        refine lv_imul hx hb qd_M_production_170 ?_
        refine lv_iconst (v := 1) hx hb qd_M_production_171 (by decide) ?_
        refine lv_iadd hx hb qd_M_production_172 ?_
        refine lv_iload_n hx hb qd_M_production_173 rfl (lv_at hl 5 rfl) ?_
        obtain ⟨g_174, ho⟩ := ho
        refine va_iast hx hb hK hP hD hS 2 0 rfl rfl g_174 qd_M_production_174 (fun H locs hP hD hS => ?_)
        have hP : va_P (dC, dI) vwCl [(aM, .inr (7, [.int u_131.2, .int vMP, .ref aMh, .ref aMi, .ref aMc, .int vMK, .ref aMt, .int vMB, .ref aMn, .ref aMl, .ref aMs, .int vMD, .ref aMd, .int vME, .ref aMe, .int vMO, .ref aMo, .int vMF, .int vMS, .ref aMw, .ref aMu, .int vMX, .int vMW])), (aMh, .inl (cA, 24, .inl (upd vMh vMP.toNatClampNeg p0))), (aMi, .inl (cA, 72, .inl (upd (upd vMi (3 * vMP).toNatClampNeg p1) ((3 * vMP) + 1).toNatClampNeg p2))), (aMc, .inl (cA, 24, .inl (vMc))), (aMs, .inl (cZ, 100, .inl (vMs)))] H := hP
        have hD : va_D A [(aM, .inr (7, [.int u_131.2, .int vMP, .ref aMh, .ref aMi, .ref aMc, .int vMK, .ref aMt, .int vMB, .ref aMn, .ref aMl, .ref aMs, .int vMD, .ref aMd, .int vME, .ref aMe, .int vMO, .ref aMo, .int vMF, .int vMS, .ref aMw, .ref aMu, .int vMX, .int vMW])), (aMh, .inl (cA, 24, .inl (upd vMh vMP.toNatClampNeg p0))), (aMi, .inl (cA, 72, .inl (upd (upd vMi (3 * vMP).toNatClampNeg p1) ((3 * vMP) + 1).toNatClampNeg p2))), (aMc, .inl (cA, 24, .inl (vMc))), (aMs, .inl (cZ, 100, .inl (vMs)))] := hD
        refine lv_aload_n hx hb qd_M_production_175 rfl (lv_at hl 2 rfl) ?_
        refine va_get (D := (dC, dI)) (ci := 7) (v := .ref aMi) (C := qR_M) (T := qT_M) (N := 23) hx hb hg qi_M hown hK hP 0 rfl rfl 3 (by decide) (hg _ mw_577) (fun _ h9 => h9) rfl qd_M_production_176 ?_
        refine lv_iconst (v := 3) hx hb qd_M_production_179 (by decide) ?_
        refine lv_aload_n hx hb qd_M_production_180 rfl (lv_at hl 2 rfl) ?_
        refine va_get (D := (dC, dI)) (ci := 7) (v := .int vMP) (C := qR_M) (T := qT_M) (N := 23) hx hb hg qi_M hown hK hP 0 rfl rfl 1 (by decide) (hg _ mw_575) (fun _ h9 => h9) rfl qd_M_production_181 ?_
        refine lv_imul hx hb qd_M_production_184 ?_
        refine lv_iconst (v := 2) hx hb qd_M_production_185 (by decide) ?_
        refine lv_iadd hx hb qd_M_production_186 ?_
        refine lv_iload hx hb qd_M_production_187 (lv_at hl 6 rfl) ?_
        obtain ⟨g_189, ho⟩ := ho
        refine va_iast hx hb hK hP hD hS 2 0 rfl rfl g_189 qd_M_production_189 (fun H locs hP hD hS => ?_)
        have hP : va_P (dC, dI) vwCl [(aM, .inr (7, [.int u_131.2, .int vMP, .ref aMh, .ref aMi, .ref aMc, .int vMK, .ref aMt, .int vMB, .ref aMn, .ref aMl, .ref aMs, .int vMD, .ref aMd, .int vME, .ref aMe, .int vMO, .ref aMo, .int vMF, .int vMS, .ref aMw, .ref aMu, .int vMX, .int vMW])), (aMh, .inl (cA, 24, .inl (upd vMh vMP.toNatClampNeg p0))), (aMi, .inl (cA, 72, .inl (upd (upd (upd vMi (3 * vMP).toNatClampNeg p1) ((3 * vMP) + 1).toNatClampNeg p2) ((3 * vMP) + 2).toNatClampNeg p3))), (aMc, .inl (cA, 24, .inl (vMc))), (aMs, .inl (cZ, 100, .inl (vMs)))] H := hP
        have hD : va_D A [(aM, .inr (7, [.int u_131.2, .int vMP, .ref aMh, .ref aMi, .ref aMc, .int vMK, .ref aMt, .int vMB, .ref aMn, .ref aMl, .ref aMs, .int vMD, .ref aMd, .int vME, .ref aMe, .int vMO, .ref aMo, .int vMF, .int vMS, .ref aMw, .ref aMu, .int vMX, .int vMW])), (aMh, .inl (cA, 24, .inl (upd vMh vMP.toNatClampNeg p0))), (aMi, .inl (cA, 72, .inl (upd (upd (upd vMi (3 * vMP).toNatClampNeg p1) ((3 * vMP) + 1).toNatClampNeg p2) ((3 * vMP) + 2).toNatClampNeg p3))), (aMc, .inl (cA, 24, .inl (vMc))), (aMs, .inl (cZ, 100, .inl (vMs)))] := hD
        refine lv_aload_n hx hb qd_M_production_190 rfl (lv_at hl 2 rfl) ?_
        refine va_get (D := (dC, dI)) (ci := 7) (v := .ref aMc) (C := qR_M) (T := qT_M) (N := 23) hx hb hg qi_M hown hK hP 0 rfl rfl 4 (by decide) (hg _ mw_578) (fun _ h9 => h9) rfl qd_M_production_191 ?_
        refine lv_aload_n hx hb qd_M_production_194 rfl (lv_at hl 2 rfl) ?_
        refine va_get (D := (dC, dI)) (ci := 7) (v := .int vMP) (C := qR_M) (T := qT_M) (N := 23) hx hb hg qi_M hown hK hP 0 rfl rfl 1 (by decide) (hg _ mw_575) (fun _ h9 => h9) rfl qd_M_production_195 ?_
        refine lv_iload hx hb qd_M_production_198 (lv_at hl 7 rfl) ?_
        obtain ⟨g_200, ho⟩ := ho
        refine va_iast hx hb hK hP hD hS 3 0 rfl rfl g_200 qd_M_production_200 (fun H locs hP hD hS => ?_)
        have hP : va_P (dC, dI) vwCl [(aM, .inr (7, [.int u_131.2, .int vMP, .ref aMh, .ref aMi, .ref aMc, .int vMK, .ref aMt, .int vMB, .ref aMn, .ref aMl, .ref aMs, .int vMD, .ref aMd, .int vME, .ref aMe, .int vMO, .ref aMo, .int vMF, .int vMS, .ref aMw, .ref aMu, .int vMX, .int vMW])), (aMh, .inl (cA, 24, .inl (upd vMh vMP.toNatClampNeg p0))), (aMi, .inl (cA, 72, .inl (upd (upd (upd vMi (3 * vMP).toNatClampNeg p1) ((3 * vMP) + 1).toNatClampNeg p2) ((3 * vMP) + 2).toNatClampNeg p3))), (aMc, .inl (cA, 24, .inl (upd vMc vMP.toNatClampNeg p4))), (aMs, .inl (cZ, 100, .inl (vMs)))] H := hP
        have hD : va_D A [(aM, .inr (7, [.int u_131.2, .int vMP, .ref aMh, .ref aMi, .ref aMc, .int vMK, .ref aMt, .int vMB, .ref aMn, .ref aMl, .ref aMs, .int vMD, .ref aMd, .int vME, .ref aMe, .int vMO, .ref aMo, .int vMF, .int vMS, .ref aMw, .ref aMu, .int vMX, .int vMW])), (aMh, .inl (cA, 24, .inl (upd vMh vMP.toNatClampNeg p0))), (aMi, .inl (cA, 72, .inl (upd (upd (upd vMi (3 * vMP).toNatClampNeg p1) ((3 * vMP) + 1).toNatClampNeg p2) ((3 * vMP) + 2).toNatClampNeg p3))), (aMc, .inl (cA, 24, .inl (upd vMc vMP.toNatClampNeg p4))), (aMs, .inl (cZ, 100, .inl (vMs)))] := hD
        refine lv_aload_n hx hb qd_M_production_201 rfl (lv_at hl 2 rfl) ?_
        refine lv_dup hx hb qd_M_production_202 rfl ?_
        refine va_get (D := (dC, dI)) (ci := 7) (v := .int vMP) (C := qR_M) (T := qT_M) (N := 23) hx hb hg qi_M hown hK hP 0 rfl rfl 1 (by decide) (hg _ mw_575) (fun _ h9 => h9) rfl qd_M_production_203 ?_
        refine lv_iconst (v := 1) hx hb qd_M_production_206 (by decide) ?_
        refine lv_iadd hx hb qd_M_production_207 ?_
        refine va_put (D := (dC, dI)) (ci := 7) (v := .int (vMP + 1)) (ty := .int) (C := qR_M) (T := qT_M) (N := 23) hx hb hg qi_M qt_M qk_M qn_M hown hK hP hD hS 0 rfl rfl 1 (by decide) (hg _ mw_575) (fun _ h9 => h9) rfl (by decide +kernel) rfl rfl (Nat.le_of_ble_eq_true rfl) qd_M_production_208 (fun H locs hP hD hS => ?_)
        have hP : va_P (dC, dI) vwCl [(aM, .inr (7, [.int u_131.2, .int (vMP + 1), .ref aMh, .ref aMi, .ref aMc, .int vMK, .ref aMt, .int vMB, .ref aMn, .ref aMl, .ref aMs, .int vMD, .ref aMd, .int vME, .ref aMe, .int vMO, .ref aMo, .int vMF, .int vMS, .ref aMw, .ref aMu, .int vMX, .int vMW])), (aMh, .inl (cA, 24, .inl (upd vMh vMP.toNatClampNeg p0))), (aMi, .inl (cA, 72, .inl (upd (upd (upd vMi (3 * vMP).toNatClampNeg p1) ((3 * vMP) + 1).toNatClampNeg p2) ((3 * vMP) + 2).toNatClampNeg p3))), (aMc, .inl (cA, 24, .inl (upd vMc vMP.toNatClampNeg p4))), (aMs, .inl (cZ, 100, .inl (vMs)))] H := hP
        have hD : va_D A [(aM, .inr (7, [.int u_131.2, .int (vMP + 1), .ref aMh, .ref aMi, .ref aMc, .int vMK, .ref aMt, .int vMB, .ref aMn, .ref aMl, .ref aMs, .int vMD, .ref aMd, .int vME, .ref aMe, .int vMO, .ref aMo, .int vMF, .int vMS, .ref aMw, .ref aMu, .int vMX, .int vMW])), (aMh, .inl (cA, 24, .inl (upd vMh vMP.toNatClampNeg p0))), (aMi, .inl (cA, 72, .inl (upd (upd (upd vMi (3 * vMP).toNatClampNeg p1) ((3 * vMP) + 1).toNatClampNeg p2) ((3 * vMP) + 2).toNatClampNeg p3))), (aMc, .inl (cA, 24, .inl (upd vMc vMP.toNatClampNeg p4))), (aMs, .inl (cZ, 100, .inl (vMs)))] := hD
        refine lv_aload_n hx hb qd_M_production_211 rfl (lv_at hl 2 rfl) ?_
        refine lv_iconst (v := 0) hx hb qd_M_production_212 (by decide) ?_
        refine va_put (D := (dC, dI)) (ci := 7) (v := .int 0) (ty := .boolean) (C := qR_M) (T := qT_M) (N := 23) hx hb hg qi_M qt_M qk_M qn_M hown hK hP hD hS 0 rfl rfl 7 (by decide) (hg _ mw_581) (fun _ h9 => h9) rfl (by decide +kernel) rfl rfl (Nat.le_of_ble_eq_true rfl) qd_M_production_213 (fun H locs hP hD hS => ?_)
        have hP : va_P (dC, dI) vwCl [(aM, .inr (7, [.int u_131.2, .int (vMP + 1), .ref aMh, .ref aMi, .ref aMc, .int vMK, .ref aMt, .int 0, .ref aMn, .ref aMl, .ref aMs, .int vMD, .ref aMd, .int vME, .ref aMe, .int vMO, .ref aMo, .int vMF, .int vMS, .ref aMw, .ref aMu, .int vMX, .int vMW])), (aMh, .inl (cA, 24, .inl (upd vMh vMP.toNatClampNeg p0))), (aMi, .inl (cA, 72, .inl (upd (upd (upd vMi (3 * vMP).toNatClampNeg p1) ((3 * vMP) + 1).toNatClampNeg p2) ((3 * vMP) + 2).toNatClampNeg p3))), (aMc, .inl (cA, 24, .inl (upd vMc vMP.toNatClampNeg p4))), (aMs, .inl (cZ, 100, .inl (vMs)))] H := hP
        have hD : va_D A [(aM, .inr (7, [.int u_131.2, .int (vMP + 1), .ref aMh, .ref aMi, .ref aMc, .int vMK, .ref aMt, .int 0, .ref aMn, .ref aMl, .ref aMs, .int vMD, .ref aMd, .int vME, .ref aMe, .int vMO, .ref aMo, .int vMF, .int vMS, .ref aMw, .ref aMu, .int vMX, .int vMW])), (aMh, .inl (cA, 24, .inl (upd vMh vMP.toNatClampNeg p0))), (aMi, .inl (cA, 72, .inl (upd (upd (upd vMi (3 * vMP).toNatClampNeg p1) ((3 * vMP) + 1).toNatClampNeg p2) ((3 * vMP) + 2).toNatClampNeg p3))), (aMc, .inl (cA, 24, .inl (upd vMc vMP.toNatClampNeg p4))), (aMs, .inl (cZ, 100, .inl (vMs)))] := hD
        refine lv_aload_n hx hb qd_M_production_216 rfl (lv_at hl 2 rfl) ?_
        refine va_get (D := (dC, dI)) (ci := 7) (v := .int (vMP + 1)) (C := qR_M) (T := qT_M) (N := 23) hx hb hg qi_M hown hK hP 0 rfl rfl 1 (by decide) (hg _ mw_575) (fun _ h9 => h9) rfl qd_M_production_217 ?_
        refine lv_iconst (v := 1) hx hb qd_M_production_220 (by decide) ?_
        refine lv_isub hx hb qd_M_production_221 ?_
        exact W.iret (v := (vMP + 1) - 1) hx hb hr (fun t ht hW => ⟨⟨_, ((vMP + 1) - 1, u_131.2, vMP + 1, 0, upd vMh vMP.toNatClampNeg p0, upd (upd (upd vMi (3 * vMP).toNatClampNeg p1) ((3 * vMP) + 1).toNatClampNeg p2) ((3 * vMP) + 2).toNatClampNeg p3, upd vMc vMP.toNatClampNeg p4, vMs), rfl, ⟨hres.symm, rfl⟩, ⟨by rw [ht]; exact hP, va_K.moved hW.alike hK, x_N hN hW⟩, hD⟩, hS.F ht⟩) hS.2.2 qd_M_production_222
      have hres := hres.trans (if_neg c_134)
      have ho := (if_neg c_134).mp ho
      refine lv_iconst (v := 0) hx hb qd_M_production_137 (by decide) ?_
      exact W.iret (v := 0) hx hb hr (fun t ht hW => ⟨⟨_, (0, u_131.2, vMP, vMB, vMh, vMi, vMc, vMs), rfl, ⟨hres.symm, rfl⟩, ⟨by rw [ht]; exact hP, va_K.moved hW.alike hK, x_N hN hW⟩, hD⟩, hS.F ht⟩) hS.2.2 qd_M_production_138
    have hres := hres.trans (if_pos c_121)
    have ho := (if_pos c_121).mp ho
    refine lv_iconst (v := 1) hx hb qd_M_production_124 (by decide) ?_
    refine lv_goto (tgt := 129) hx hb qd_M_production_125 (by decide) ?_
    refine lv_iload hx hb qd_M_production_129 (lv_at hl 0 rfl) ?_
    refine xm_Vi (As := [.int 0, .int 1, .int 0]) (rest := []) (w1 := fun (u_131 : Int32 × Int32) => [(aM, .inr (7, [.int u_131.2, .int vMP, .ref aMh, .ref aMi, .ref aMc, .int vMK, .ref aMt, .int vMB, .ref aMn, .ref aMl, .ref aMs, .int vMD, .ref aMd, .int vME, .ref aMe, .int vMO, .ref aMo, .int vMF, .int vMS, .ref aMw, .ref aMu, .int vMX, .int vMW]))]) (w2 := fun (u_131 : Int32 × Int32) => [(aM, .inr (7, [.int u_131.2, .int vMP, .ref aMh, .ref aMi, .ref aMc, .int vMK, .ref aMt, .int vMB, .ref aMn, .ref aMl, .ref aMs, .int vMD, .ref aMd, .int vME, .ref aMe, .int vMO, .ref aMo, .int vMF, .int vMS, .ref aMw, .ref aMu, .int vMX, .int vMW])), (aMh, .inl (cA, 24, .inl (vMh))), (aMi, .inl (cA, 72, .inl (vMi))), (aMc, .inl (cA, 24, .inl (vMc))), (aMs, .inl (cZ, 100, .inl (vMs)))]) ⟨hx, hb, hml, hown, hg⟩ (c_M_refuse l dC dI cA cZ aM aMh aMi aMc aMt aMn aMl aMs aMd aMe aMo aMw aMu _ vMT vMP vMK vMB vMD vME vMO vMF vMS vMX vMW 0 1 0) (cwV 3 hg (q_gV mw_642 mw_643 mw_771 mw_8 mw_644) rfl rfl rfl qh_M_refuse ⟨Nat.le_of_ble_eq_true rfl, Nat.le_of_ble_eq_true rfl⟩) hN hK hP hD hS hA [0] [1, 2, 3, 4] rfl rfl (by decide) (by decide) (by decide) [4, 0, 1, 2, 3] (fun _ => rfl) (by decide) 0 7 rfl rfl rfl hl.1 rfl (Nat.le_of_ble_eq_true rfl) qd_M_production_131 ⟨Nat.zero_le _, Nat.zero_le _⟩ (fun u_131 H locs w_131 hP hD hS => ?_)
    have hP : va_P (dC, dI) vwCl [(aM, .inr (7, [.int u_131.2, .int vMP, .ref aMh, .ref aMi, .ref aMc, .int vMK, .ref aMt, .int vMB, .ref aMn, .ref aMl, .ref aMs, .int vMD, .ref aMd, .int vME, .ref aMe, .int vMO, .ref aMo, .int vMF, .int vMS, .ref aMw, .ref aMu, .int vMX, .int vMW])), (aMh, .inl (cA, 24, .inl (vMh))), (aMi, .inl (cA, 72, .inl (vMi))), (aMc, .inl (cA, 24, .inl (vMc))), (aMs, .inl (cZ, 100, .inl (vMs)))] H := hP
    have hD : va_D A [(aM, .inr (7, [.int u_131.2, .int vMP, .ref aMh, .ref aMi, .ref aMc, .int vMK, .ref aMt, .int vMB, .ref aMn, .ref aMl, .ref aMs, .int vMD, .ref aMd, .int vME, .ref aMe, .int vMO, .ref aMo, .int vMF, .int vMS, .ref aMw, .ref aMu, .int vMX, .int vMW])), (aMh, .inl (cA, 24, .inl (vMh))), (aMi, .inl (cA, 72, .inl (vMi))), (aMc, .inl (cA, 24, .inl (vMc))), (aMs, .inl (cZ, 100, .inl (vMs)))] := hD
    have hres := hres.trans (bd_eq w_131)
    have ho := (bd_eq w_131).mp ho
    refine lv_if_eq (tgt := 139) hx hb qd_M_production_134 (by decide) (fun c_134 => ?_) (fun c_134 => ?_)
    · have hres := hres.trans (if_pos c_134)
      have ho := (if_pos c_134).mp ho
      refine lv_aload_n hx hb qd_M_production_139 rfl (lv_at hl 2 rfl) ?_
      refine va_get (D := (dC, dI)) (ci := 7) (v := .ref aMh) (C := qR_M) (T := qT_M) (N := 23) hx hb hg qi_M hown hK hP 0 rfl rfl 2 (by decide) (hg _ mw_576) (fun _ h9 => h9) rfl qd_M_production_140 ?_
      refine lv_aload_n hx hb qd_M_production_143 rfl (lv_at hl 2 rfl) ?_
      refine va_get (D := (dC, dI)) (ci := 7) (v := .int vMP) (C := qR_M) (T := qT_M) (N := 23) hx hb hg qi_M hown hK hP 0 rfl rfl 1 (by decide) (hg _ mw_575) (fun _ h9 => h9) rfl qd_M_production_144 ?_
      refine lv_iload_n hx hb qd_M_production_147 rfl (lv_at hl 3 rfl) ?_
      obtain ⟨g_148, ho⟩ := ho
      refine va_iast hx hb hK hP hD hS 1 0 rfl rfl g_148 qd_M_production_148 (fun H locs hP hD hS => ?_)
      have hP : va_P (dC, dI) vwCl [(aM, .inr (7, [.int u_131.2, .int vMP, .ref aMh, .ref aMi, .ref aMc, .int vMK, .ref aMt, .int vMB, .ref aMn, .ref aMl, .ref aMs, .int vMD, .ref aMd, .int vME, .ref aMe, .int vMO, .ref aMo, .int vMF, .int vMS, .ref aMw, .ref aMu, .int vMX, .int vMW])), (aMh, .inl (cA, 24, .inl (upd vMh vMP.toNatClampNeg p0))), (aMi, .inl (cA, 72, .inl (vMi))), (aMc, .inl (cA, 24, .inl (vMc))), (aMs, .inl (cZ, 100, .inl (vMs)))] H := hP
      have hD : va_D A [(aM, .inr (7, [.int u_131.2, .int vMP, .ref aMh, .ref aMi, .ref aMc, .int vMK, .ref aMt, .int vMB, .ref aMn, .ref aMl, .ref aMs, .int vMD, .ref aMd, .int vME, .ref aMe, .int vMO, .ref aMo, .int vMF, .int vMS, .ref aMw, .ref aMu, .int vMX, .int vMW])), (aMh, .inl (cA, 24, .inl (upd vMh vMP.toNatClampNeg p0))), (aMi, .inl (cA, 72, .inl (vMi))), (aMc, .inl (cA, 24, .inl (vMc))), (aMs, .inl (cZ, 100, .inl (vMs)))] := hD
      refine lv_aload_n hx hb qd_M_production_149 rfl (lv_at hl 2 rfl) ?_
      refine va_get (D := (dC, dI)) (ci := 7) (v := .ref aMi) (C := qR_M) (T := qT_M) (N := 23) hx hb hg qi_M hown hK hP 0 rfl rfl 3 (by decide) (hg _ mw_577) (fun _ h9 => h9) rfl qd_M_production_150 ?_
      refine lv_iconst (v := 3) hx hb qd_M_production_153 (by decide) ?_
      refine lv_aload_n hx hb qd_M_production_154 rfl (lv_at hl 2 rfl) ?_
      refine va_get (D := (dC, dI)) (ci := 7) (v := .int vMP) (C := qR_M) (T := qT_M) (N := 23) hx hb hg qi_M hown hK hP 0 rfl rfl 1 (by decide) (hg _ mw_575) (fun _ h9 => h9) rfl qd_M_production_155 ?_
      refine lv_imul hx hb qd_M_production_158 ?_
      refine lv_iload_n hx hb qd_M_production_159 rfl (lv_at hl 4 rfl) ?_
      obtain ⟨g_160, ho⟩ := ho
      refine va_iast hx hb hK hP hD hS 2 0 rfl rfl g_160 qd_M_production_160 (fun H locs hP hD hS => ?_)
      have hP : va_P (dC, dI) vwCl [(aM, .inr (7, [.int u_131.2, .int vMP, .ref aMh, .ref aMi, .ref aMc, .int vMK, .ref aMt, .int vMB, .ref aMn, .ref aMl, .ref aMs, .int vMD, .ref aMd, .int vME, .ref aMe, .int vMO, .ref aMo, .int vMF, .int vMS, .ref aMw, .ref aMu, .int vMX, .int vMW])), (aMh, .inl (cA, 24, .inl (upd vMh vMP.toNatClampNeg p0))), (aMi, .inl (cA, 72, .inl (upd vMi (3 * vMP).toNatClampNeg p1))), (aMc, .inl (cA, 24, .inl (vMc))), (aMs, .inl (cZ, 100, .inl (vMs)))] H := hP
      have hD : va_D A [(aM, .inr (7, [.int u_131.2, .int vMP, .ref aMh, .ref aMi, .ref aMc, .int vMK, .ref aMt, .int vMB, .ref aMn, .ref aMl, .ref aMs, .int vMD, .ref aMd, .int vME, .ref aMe, .int vMO, .ref aMo, .int vMF, .int vMS, .ref aMw, .ref aMu, .int vMX, .int vMW])), (aMh, .inl (cA, 24, .inl (upd vMh vMP.toNatClampNeg p0))), (aMi, .inl (cA, 72, .inl (upd vMi (3 * vMP).toNatClampNeg p1))), (aMc, .inl (cA, 24, .inl (vMc))), (aMs, .inl (cZ, 100, .inl (vMs)))] := hD
      refine lv_aload_n hx hb qd_M_production_161 rfl (lv_at hl 2 rfl) ?_
      refine va_get (D := (dC, dI)) (ci := 7) (v := .ref aMi) (C := qR_M) (T := qT_M) (N := 23) hx hb hg qi_M hown hK hP 0 rfl rfl 3 (by decide) (hg _ mw_577) (fun _ h9 => h9) rfl qd_M_production_162 ?_
      refine lv_iconst (v := 3) hx hb qd_M_production_165 (by decide) ?_
      refine lv_aload_n hx hb qd_M_production_166 rfl (lv_at hl 2 rfl) ?_
      refine va_get (D := (dC, dI)) (ci := 7) (v := .int vMP) (C := qR_M) (T := qT_M) (N := 23) hx hb hg qi_M hown hK hP 0 rfl rfl 1 (by decide) (hg _ mw_575) (fun _ h9 => h9) rfl qd_M_production_167 ?_
      refine lv_imul hx hb qd_M_production_170 ?_
      refine lv_iconst (v := 1) hx hb qd_M_production_171 (by decide) ?_
      refine lv_iadd hx hb qd_M_production_172 ?_
      refine lv_iload_n hx hb qd_M_production_173 rfl (lv_at hl 5 rfl) ?_
      obtain ⟨g_174, ho⟩ := ho
      refine va_iast hx hb hK hP hD hS 2 0 rfl rfl g_174 qd_M_production_174 (fun H locs hP hD hS => ?_)
      have hP : va_P (dC, dI) vwCl [(aM, .inr (7, [.int u_131.2, .int vMP, .ref aMh, .ref aMi, .ref aMc, .int vMK, .ref aMt, .int vMB, .ref aMn, .ref aMl, .ref aMs, .int vMD, .ref aMd, .int vME, .ref aMe, .int vMO, .ref aMo, .int vMF, .int vMS, .ref aMw, .ref aMu, .int vMX, .int vMW])), (aMh, .inl (cA, 24, .inl (upd vMh vMP.toNatClampNeg p0))), (aMi, .inl (cA, 72, .inl (upd (upd vMi (3 * vMP).toNatClampNeg p1) ((3 * vMP) + 1).toNatClampNeg p2))), (aMc, .inl (cA, 24, .inl (vMc))), (aMs, .inl (cZ, 100, .inl (vMs)))] H := hP
      have hD : va_D A [(aM, .inr (7, [.int u_131.2, .int vMP, .ref aMh, .ref aMi, .ref aMc, .int vMK, .ref aMt, .int vMB, .ref aMn, .ref aMl, .ref aMs, .int vMD, .ref aMd, .int vME, .ref aMe, .int vMO, .ref aMo, .int vMF, .int vMS, .ref aMw, .ref aMu, .int vMX, .int vMW])), (aMh, .inl (cA, 24, .inl (upd vMh vMP.toNatClampNeg p0))), (aMi, .inl (cA, 72, .inl (upd (upd vMi (3 * vMP).toNatClampNeg p1) ((3 * vMP) + 1).toNatClampNeg p2))), (aMc, .inl (cA, 24, .inl (vMc))), (aMs, .inl (cZ, 100, .inl (vMs)))] := hD
      refine lv_aload_n hx hb qd_M_production_175 rfl (lv_at hl 2 rfl) ?_
      refine va_get (D := (dC, dI)) (ci := 7) (v := .ref aMi) (C := qR_M) (T := qT_M) (N := 23) hx hb hg qi_M hown hK hP 0 rfl rfl 3 (by decide) (hg _ mw_577) (fun _ h9 => h9) rfl qd_M_production_176 ?_
      refine lv_iconst (v := 3) hx hb qd_M_production_179 (by decide) ?_
      refine lv_aload_n hx hb qd_M_production_180 rfl (lv_at hl 2 rfl) ?_
      refine va_get (D := (dC, dI)) (ci := 7) (v := .int vMP) (C := qR_M) (T := qT_M) (N := 23) hx hb hg qi_M hown hK hP 0 rfl rfl 1 (by decide) (hg _ mw_575) (fun _ h9 => h9) rfl qd_M_production_181 ?_
      refine lv_imul hx hb qd_M_production_184 ?_
      refine lv_iconst (v := 2) hx hb qd_M_production_185 (by decide) ?_
      refine lv_iadd hx hb qd_M_production_186 ?_
      refine lv_iload hx hb qd_M_production_187 (lv_at hl 6 rfl) ?_
      obtain ⟨g_189, ho⟩ := ho
      refine va_iast hx hb hK hP hD hS 2 0 rfl rfl g_189 qd_M_production_189 (fun H locs hP hD hS => ?_)
      have hP : va_P (dC, dI) vwCl [(aM, .inr (7, [.int u_131.2, .int vMP, .ref aMh, .ref aMi, .ref aMc, .int vMK, .ref aMt, .int vMB, .ref aMn, .ref aMl, .ref aMs, .int vMD, .ref aMd, .int vME, .ref aMe, .int vMO, .ref aMo, .int vMF, .int vMS, .ref aMw, .ref aMu, .int vMX, .int vMW])), (aMh, .inl (cA, 24, .inl (upd vMh vMP.toNatClampNeg p0))), (aMi, .inl (cA, 72, .inl (upd (upd (upd vMi (3 * vMP).toNatClampNeg p1) ((3 * vMP) + 1).toNatClampNeg p2) ((3 * vMP) + 2).toNatClampNeg p3))), (aMc, .inl (cA, 24, .inl (vMc))), (aMs, .inl (cZ, 100, .inl (vMs)))] H := hP
      have hD : va_D A [(aM, .inr (7, [.int u_131.2, .int vMP, .ref aMh, .ref aMi, .ref aMc, .int vMK, .ref aMt, .int vMB, .ref aMn, .ref aMl, .ref aMs, .int vMD, .ref aMd, .int vME, .ref aMe, .int vMO, .ref aMo, .int vMF, .int vMS, .ref aMw, .ref aMu, .int vMX, .int vMW])), (aMh, .inl (cA, 24, .inl (upd vMh vMP.toNatClampNeg p0))), (aMi, .inl (cA, 72, .inl (upd (upd (upd vMi (3 * vMP).toNatClampNeg p1) ((3 * vMP) + 1).toNatClampNeg p2) ((3 * vMP) + 2).toNatClampNeg p3))), (aMc, .inl (cA, 24, .inl (vMc))), (aMs, .inl (cZ, 100, .inl (vMs)))] := hD
      refine lv_aload_n hx hb qd_M_production_190 rfl (lv_at hl 2 rfl) ?_
      refine va_get (D := (dC, dI)) (ci := 7) (v := .ref aMc) (C := qR_M) (T := qT_M) (N := 23) hx hb hg qi_M hown hK hP 0 rfl rfl 4 (by decide) (hg _ mw_578) (fun _ h9 => h9) rfl qd_M_production_191 ?_
      refine lv_aload_n hx hb qd_M_production_194 rfl (lv_at hl 2 rfl) ?_
      refine va_get (D := (dC, dI)) (ci := 7) (v := .int vMP) (C := qR_M) (T := qT_M) (N := 23) hx hb hg qi_M hown hK hP 0 rfl rfl 1 (by decide) (hg _ mw_575) (fun _ h9 => h9) rfl qd_M_production_195 ?_
      refine lv_iload hx hb qd_M_production_198 (lv_at hl 7 rfl) ?_
      obtain ⟨g_200, ho⟩ := ho
      refine va_iast hx hb hK hP hD hS 3 0 rfl rfl g_200 qd_M_production_200 (fun H locs hP hD hS => ?_)
      have hP : va_P (dC, dI) vwCl [(aM, .inr (7, [.int u_131.2, .int vMP, .ref aMh, .ref aMi, .ref aMc, .int vMK, .ref aMt, .int vMB, .ref aMn, .ref aMl, .ref aMs, .int vMD, .ref aMd, .int vME, .ref aMe, .int vMO, .ref aMo, .int vMF, .int vMS, .ref aMw, .ref aMu, .int vMX, .int vMW])), (aMh, .inl (cA, 24, .inl (upd vMh vMP.toNatClampNeg p0))), (aMi, .inl (cA, 72, .inl (upd (upd (upd vMi (3 * vMP).toNatClampNeg p1) ((3 * vMP) + 1).toNatClampNeg p2) ((3 * vMP) + 2).toNatClampNeg p3))), (aMc, .inl (cA, 24, .inl (upd vMc vMP.toNatClampNeg p4))), (aMs, .inl (cZ, 100, .inl (vMs)))] H := hP
      have hD : va_D A [(aM, .inr (7, [.int u_131.2, .int vMP, .ref aMh, .ref aMi, .ref aMc, .int vMK, .ref aMt, .int vMB, .ref aMn, .ref aMl, .ref aMs, .int vMD, .ref aMd, .int vME, .ref aMe, .int vMO, .ref aMo, .int vMF, .int vMS, .ref aMw, .ref aMu, .int vMX, .int vMW])), (aMh, .inl (cA, 24, .inl (upd vMh vMP.toNatClampNeg p0))), (aMi, .inl (cA, 72, .inl (upd (upd (upd vMi (3 * vMP).toNatClampNeg p1) ((3 * vMP) + 1).toNatClampNeg p2) ((3 * vMP) + 2).toNatClampNeg p3))), (aMc, .inl (cA, 24, .inl (upd vMc vMP.toNatClampNeg p4))), (aMs, .inl (cZ, 100, .inl (vMs)))] := hD
      refine lv_aload_n hx hb qd_M_production_201 rfl (lv_at hl 2 rfl) ?_
      refine lv_dup hx hb qd_M_production_202 rfl ?_
      refine va_get (D := (dC, dI)) (ci := 7) (v := .int vMP) (C := qR_M) (T := qT_M) (N := 23) hx hb hg qi_M hown hK hP 0 rfl rfl 1 (by decide) (hg _ mw_575) (fun _ h9 => h9) rfl qd_M_production_203 ?_
      refine lv_iconst (v := 1) hx hb qd_M_production_206 (by decide) ?_
      refine lv_iadd hx hb qd_M_production_207 ?_
      refine va_put (D := (dC, dI)) (ci := 7) (v := .int (vMP + 1)) (ty := .int) (C := qR_M) (T := qT_M) (N := 23) hx hb hg qi_M qt_M qk_M qn_M hown hK hP hD hS 0 rfl rfl 1 (by decide) (hg _ mw_575) (fun _ h9 => h9) rfl (by decide +kernel) rfl rfl (Nat.le_of_ble_eq_true rfl) qd_M_production_208 (fun H locs hP hD hS => ?_)
      have hP : va_P (dC, dI) vwCl [(aM, .inr (7, [.int u_131.2, .int (vMP + 1), .ref aMh, .ref aMi, .ref aMc, .int vMK, .ref aMt, .int vMB, .ref aMn, .ref aMl, .ref aMs, .int vMD, .ref aMd, .int vME, .ref aMe, .int vMO, .ref aMo, .int vMF, .int vMS, .ref aMw, .ref aMu, .int vMX, .int vMW])), (aMh, .inl (cA, 24, .inl (upd vMh vMP.toNatClampNeg p0))), (aMi, .inl (cA, 72, .inl (upd (upd (upd vMi (3 * vMP).toNatClampNeg p1) ((3 * vMP) + 1).toNatClampNeg p2) ((3 * vMP) + 2).toNatClampNeg p3))), (aMc, .inl (cA, 24, .inl (upd vMc vMP.toNatClampNeg p4))), (aMs, .inl (cZ, 100, .inl (vMs)))] H := hP
      have hD : va_D A [(aM, .inr (7, [.int u_131.2, .int (vMP + 1), .ref aMh, .ref aMi, .ref aMc, .int vMK, .ref aMt, .int vMB, .ref aMn, .ref aMl, .ref aMs, .int vMD, .ref aMd, .int vME, .ref aMe, .int vMO, .ref aMo, .int vMF, .int vMS, .ref aMw, .ref aMu, .int vMX, .int vMW])), (aMh, .inl (cA, 24, .inl (upd vMh vMP.toNatClampNeg p0))), (aMi, .inl (cA, 72, .inl (upd (upd (upd vMi (3 * vMP).toNatClampNeg p1) ((3 * vMP) + 1).toNatClampNeg p2) ((3 * vMP) + 2).toNatClampNeg p3))), (aMc, .inl (cA, 24, .inl (upd vMc vMP.toNatClampNeg p4))), (aMs, .inl (cZ, 100, .inl (vMs)))] := hD
      refine lv_aload_n hx hb qd_M_production_211 rfl (lv_at hl 2 rfl) ?_
      refine lv_iconst (v := 0) hx hb qd_M_production_212 (by decide) ?_
      refine va_put (D := (dC, dI)) (ci := 7) (v := .int 0) (ty := .boolean) (C := qR_M) (T := qT_M) (N := 23) hx hb hg qi_M qt_M qk_M qn_M hown hK hP hD hS 0 rfl rfl 7 (by decide) (hg _ mw_581) (fun _ h9 => h9) rfl (by decide +kernel) rfl rfl (Nat.le_of_ble_eq_true rfl) qd_M_production_213 (fun H locs hP hD hS => ?_)
      have hP : va_P (dC, dI) vwCl [(aM, .inr (7, [.int u_131.2, .int (vMP + 1), .ref aMh, .ref aMi, .ref aMc, .int vMK, .ref aMt, .int 0, .ref aMn, .ref aMl, .ref aMs, .int vMD, .ref aMd, .int vME, .ref aMe, .int vMO, .ref aMo, .int vMF, .int vMS, .ref aMw, .ref aMu, .int vMX, .int vMW])), (aMh, .inl (cA, 24, .inl (upd vMh vMP.toNatClampNeg p0))), (aMi, .inl (cA, 72, .inl (upd (upd (upd vMi (3 * vMP).toNatClampNeg p1) ((3 * vMP) + 1).toNatClampNeg p2) ((3 * vMP) + 2).toNatClampNeg p3))), (aMc, .inl (cA, 24, .inl (upd vMc vMP.toNatClampNeg p4))), (aMs, .inl (cZ, 100, .inl (vMs)))] H := hP
      have hD : va_D A [(aM, .inr (7, [.int u_131.2, .int (vMP + 1), .ref aMh, .ref aMi, .ref aMc, .int vMK, .ref aMt, .int 0, .ref aMn, .ref aMl, .ref aMs, .int vMD, .ref aMd, .int vME, .ref aMe, .int vMO, .ref aMo, .int vMF, .int vMS, .ref aMw, .ref aMu, .int vMX, .int vMW])), (aMh, .inl (cA, 24, .inl (upd vMh vMP.toNatClampNeg p0))), (aMi, .inl (cA, 72, .inl (upd (upd (upd vMi (3 * vMP).toNatClampNeg p1) ((3 * vMP) + 1).toNatClampNeg p2) ((3 * vMP) + 2).toNatClampNeg p3))), (aMc, .inl (cA, 24, .inl (upd vMc vMP.toNatClampNeg p4))), (aMs, .inl (cZ, 100, .inl (vMs)))] := hD
      refine lv_aload_n hx hb qd_M_production_216 rfl (lv_at hl 2 rfl) ?_
      refine va_get (D := (dC, dI)) (ci := 7) (v := .int (vMP + 1)) (C := qR_M) (T := qT_M) (N := 23) hx hb hg qi_M hown hK hP 0 rfl rfl 1 (by decide) (hg _ mw_575) (fun _ h9 => h9) rfl qd_M_production_217 ?_
      refine lv_iconst (v := 1) hx hb qd_M_production_220 (by decide) ?_
      refine lv_isub hx hb qd_M_production_221 ?_
      exact W.iret (v := (vMP + 1) - 1) hx hb hr (fun t ht hW => ⟨⟨_, ((vMP + 1) - 1, u_131.2, vMP + 1, 0, upd vMh vMP.toNatClampNeg p0, upd (upd (upd vMi (3 * vMP).toNatClampNeg p1) ((3 * vMP) + 1).toNatClampNeg p2) ((3 * vMP) + 2).toNatClampNeg p3, upd vMc vMP.toNatClampNeg p4, vMs), rfl, ⟨hres.symm, rfl⟩, ⟨by rw [ht]; exact hP, va_K.moved hW.alike hK, x_N hN hW⟩, hD⟩, hS.F ht⟩) hS.2.2 qd_M_production_222
    have hres := hres.trans (if_neg c_134)
    have ho := (if_neg c_134).mp ho
    refine lv_iconst (v := 0) hx hb qd_M_production_137 (by decide) ?_
    exact W.iret (v := 0) hx hb hr (fun t ht hW => ⟨⟨_, (0, u_131.2, vMP, vMB, vMh, vMi, vMc, vMs), rfl, ⟨hres.symm, rfl⟩, ⟨by rw [ht]; exact hP, va_K.moved hW.alike hK, x_N hN hW⟩, hD⟩, hS.F ht⟩) hS.2.2 qd_M_production_138
  have hres := hres.trans (if_neg c_32)
  have ho := (if_neg c_32).mp ho
  refine lv_iload_n hx hb qd_M_production_35 rfl (lv_at hl 3 rfl) ?_
  refine lv_iconst (v := (-1)) hx hb qd_M_production_36 (by decide) ?_
  refine lv_icmp_eq (tgt := 64) hx hb qd_M_production_37 (by decide) (fun c_37 => ?_) (fun c_37 => ?_)
  · exact absurd c_37 c_19
  refine lv_iload hx hb qd_M_production_40 (lv_at hl 4 rfl) ?_
  obtain ⟨g_42, ho⟩ := ho
  refine xc_S (As := [.int p3]) (rest := []) ⟨hx, hb, hml, hown, hg⟩ (c_M_isItem l dC dI cA cZ p3 g_42) (va_cwS 1 hg (q_gS mw_636 mw_637 mw_8 mw_638) rfl rfl rfl qh_M_isItem.2 ⟨Nat.le_of_ble_eq_true rfl, Nat.le_of_ble_eq_true rfl⟩) hN hK hP [] rfl rfl hl.1 rfl (Nat.le_of_ble_eq_true rfl) qd_M_production_42 ⟨Nat.zero_le _, Nat.zero_le _⟩ ?_
  refine lv_topi (fun r_42 w_42 => ?_)
  have hres := hres.trans (bd_eq w_42)
  have ho := (bd_eq w_42).mp ho
  refine lv_if_eq (tgt := 64) hx hb qd_M_production_45 (by decide) (fun c_45 => ?_) (fun c_45 => ?_)
  · have hres := hres.trans (if_pos c_45)
    have ho := (if_pos c_45).mp ho
    refine lv_iconst (v := 0) hx hb qd_M_production_64 (by decide) ?_
    refine lv_istore (lv' := [(6, .int 0), (0, .ref aM), (1, .int p0), (2, .int p1), (3, .int p2), (4, .int p3), (5, .int p4)]) hx hb qd_M_production_65 hl (by decide) rfl (fun ls hl => ?_)
    refine lv_iload hx hb qd_M_production_67 (lv_at hl 0 rfl) ?_
    refine lv_if_eq (tgt := 96) hx hb qd_M_production_69 (by decide) (fun c_69 => ?_) (fun c_69 => ?_)
    rotate_left
    · exact absurd (by decide) c_69
    refine lv_iconst (v := 0) hx hb qd_M_production_96 (by decide) ?_
    refine lv_istore (lv' := [(7, .int 0), (6, .int 0), (0, .ref aM), (1, .int p0), (2, .int p1), (3, .int p2), (4, .int p3), (5, .int p4)]) hx hb qd_M_production_97 hl (by decide) rfl (fun ls hl => ?_)
    refine lv_aload_n hx hb qd_M_production_99 rfl (lv_at hl 2 rfl) ?_
    refine lv_iload hx hb qd_M_production_100 (lv_at hl 1 rfl) ?_
    refine lv_if_ne (tgt := 109) hx hb qd_M_production_102 (by decide) (fun c_102 => ?_) (fun c_102 => ?_)
    · exact absurd (by decide) c_102
    refine lv_iconst (v := 1) hx hb qd_M_production_105 (by decide) ?_
    refine lv_goto (tgt := 110) hx hb qd_M_production_106 (by decide) ?_
    refine lv_iload hx hb qd_M_production_110 (lv_at hl 1 rfl) ?_
    refine lv_if_eq (tgt := 128) hx hb qd_M_production_112 (by decide) (fun c_112 => ?_) (fun c_112 => ?_)
    rotate_left
    · exact absurd (by decide) c_112
    refine lv_iconst (v := 0) hx hb qd_M_production_128 (by decide) ?_
    refine lv_iload hx hb qd_M_production_129 (lv_at hl 0 rfl) ?_
    refine xm_Vi (As := [.int 1, .int 0, .int 0]) (rest := []) (w1 := fun (u_131 : Int32 × Int32) => [(aM, .inr (7, [.int u_131.2, .int vMP, .ref aMh, .ref aMi, .ref aMc, .int vMK, .ref aMt, .int vMB, .ref aMn, .ref aMl, .ref aMs, .int vMD, .ref aMd, .int vME, .ref aMe, .int vMO, .ref aMo, .int vMF, .int vMS, .ref aMw, .ref aMu, .int vMX, .int vMW]))]) (w2 := fun (u_131 : Int32 × Int32) => [(aM, .inr (7, [.int u_131.2, .int vMP, .ref aMh, .ref aMi, .ref aMc, .int vMK, .ref aMt, .int vMB, .ref aMn, .ref aMl, .ref aMs, .int vMD, .ref aMd, .int vME, .ref aMe, .int vMO, .ref aMo, .int vMF, .int vMS, .ref aMw, .ref aMu, .int vMX, .int vMW])), (aMh, .inl (cA, 24, .inl (vMh))), (aMi, .inl (cA, 72, .inl (vMi))), (aMc, .inl (cA, 24, .inl (vMc))), (aMs, .inl (cZ, 100, .inl (vMs)))]) ⟨hx, hb, hml, hown, hg⟩ (c_M_refuse l dC dI cA cZ aM aMh aMi aMc aMt aMn aMl aMs aMd aMe aMo aMw aMu _ vMT vMP vMK vMB vMD vME vMO vMF vMS vMX vMW 1 0 0) (cwV 3 hg (q_gV mw_642 mw_643 mw_771 mw_8 mw_644) rfl rfl rfl qh_M_refuse ⟨Nat.le_of_ble_eq_true rfl, Nat.le_of_ble_eq_true rfl⟩) hN hK hP hD hS hA [0] [1, 2, 3, 4] rfl rfl (by decide) (by decide) (by decide) [4, 0, 1, 2, 3] (fun _ => rfl) (by decide) 0 7 rfl rfl rfl hl.1 rfl (Nat.le_of_ble_eq_true rfl) qd_M_production_131 ⟨Nat.zero_le _, Nat.zero_le _⟩ (fun u_131 H locs w_131 hP hD hS => ?_)
    have hP : va_P (dC, dI) vwCl [(aM, .inr (7, [.int u_131.2, .int vMP, .ref aMh, .ref aMi, .ref aMc, .int vMK, .ref aMt, .int vMB, .ref aMn, .ref aMl, .ref aMs, .int vMD, .ref aMd, .int vME, .ref aMe, .int vMO, .ref aMo, .int vMF, .int vMS, .ref aMw, .ref aMu, .int vMX, .int vMW])), (aMh, .inl (cA, 24, .inl (vMh))), (aMi, .inl (cA, 72, .inl (vMi))), (aMc, .inl (cA, 24, .inl (vMc))), (aMs, .inl (cZ, 100, .inl (vMs)))] H := hP
    have hD : va_D A [(aM, .inr (7, [.int u_131.2, .int vMP, .ref aMh, .ref aMi, .ref aMc, .int vMK, .ref aMt, .int vMB, .ref aMn, .ref aMl, .ref aMs, .int vMD, .ref aMd, .int vME, .ref aMe, .int vMO, .ref aMo, .int vMF, .int vMS, .ref aMw, .ref aMu, .int vMX, .int vMW])), (aMh, .inl (cA, 24, .inl (vMh))), (aMi, .inl (cA, 72, .inl (vMi))), (aMc, .inl (cA, 24, .inl (vMc))), (aMs, .inl (cZ, 100, .inl (vMs)))] := hD
    have hres := hres.trans (bd_eq w_131)
    have ho := (bd_eq w_131).mp ho
    refine lv_if_eq (tgt := 139) hx hb qd_M_production_134 (by decide) (fun c_134 => ?_) (fun c_134 => ?_)
    · have hres := hres.trans (if_pos c_134)
      have ho := (if_pos c_134).mp ho
      refine lv_aload_n hx hb qd_M_production_139 rfl (lv_at hl 2 rfl) ?_
      refine va_get (D := (dC, dI)) (ci := 7) (v := .ref aMh) (C := qR_M) (T := qT_M) (N := 23) hx hb hg qi_M hown hK hP 0 rfl rfl 2 (by decide) (hg _ mw_576) (fun _ h9 => h9) rfl qd_M_production_140 ?_
      refine lv_aload_n hx hb qd_M_production_143 rfl (lv_at hl 2 rfl) ?_
      refine va_get (D := (dC, dI)) (ci := 7) (v := .int vMP) (C := qR_M) (T := qT_M) (N := 23) hx hb hg qi_M hown hK hP 0 rfl rfl 1 (by decide) (hg _ mw_575) (fun _ h9 => h9) rfl qd_M_production_144 ?_
      refine lv_iload_n hx hb qd_M_production_147 rfl (lv_at hl 3 rfl) ?_
      obtain ⟨g_148, ho⟩ := ho
      refine va_iast hx hb hK hP hD hS 1 0 rfl rfl g_148 qd_M_production_148 (fun H locs hP hD hS => ?_)
      have hP : va_P (dC, dI) vwCl [(aM, .inr (7, [.int u_131.2, .int vMP, .ref aMh, .ref aMi, .ref aMc, .int vMK, .ref aMt, .int vMB, .ref aMn, .ref aMl, .ref aMs, .int vMD, .ref aMd, .int vME, .ref aMe, .int vMO, .ref aMo, .int vMF, .int vMS, .ref aMw, .ref aMu, .int vMX, .int vMW])), (aMh, .inl (cA, 24, .inl (upd vMh vMP.toNatClampNeg p0))), (aMi, .inl (cA, 72, .inl (vMi))), (aMc, .inl (cA, 24, .inl (vMc))), (aMs, .inl (cZ, 100, .inl (vMs)))] H := hP
      have hD : va_D A [(aM, .inr (7, [.int u_131.2, .int vMP, .ref aMh, .ref aMi, .ref aMc, .int vMK, .ref aMt, .int vMB, .ref aMn, .ref aMl, .ref aMs, .int vMD, .ref aMd, .int vME, .ref aMe, .int vMO, .ref aMo, .int vMF, .int vMS, .ref aMw, .ref aMu, .int vMX, .int vMW])), (aMh, .inl (cA, 24, .inl (upd vMh vMP.toNatClampNeg p0))), (aMi, .inl (cA, 72, .inl (vMi))), (aMc, .inl (cA, 24, .inl (vMc))), (aMs, .inl (cZ, 100, .inl (vMs)))] := hD
      refine lv_aload_n hx hb qd_M_production_149 rfl (lv_at hl 2 rfl) ?_
      refine va_get (D := (dC, dI)) (ci := 7) (v := .ref aMi) (C := qR_M) (T := qT_M) (N := 23) hx hb hg qi_M hown hK hP 0 rfl rfl 3 (by decide) (hg _ mw_577) (fun _ h9 => h9) rfl qd_M_production_150 ?_
      refine lv_iconst (v := 3) hx hb qd_M_production_153 (by decide) ?_
      refine lv_aload_n hx hb qd_M_production_154 rfl (lv_at hl 2 rfl) ?_
      refine va_get (D := (dC, dI)) (ci := 7) (v := .int vMP) (C := qR_M) (T := qT_M) (N := 23) hx hb hg qi_M hown hK hP 0 rfl rfl 1 (by decide) (hg _ mw_575) (fun _ h9 => h9) rfl qd_M_production_155 ?_
      refine lv_imul hx hb qd_M_production_158 ?_
      refine lv_iload_n hx hb qd_M_production_159 rfl (lv_at hl 4 rfl) ?_
      obtain ⟨g_160, ho⟩ := ho
      refine va_iast hx hb hK hP hD hS 2 0 rfl rfl g_160 qd_M_production_160 (fun H locs hP hD hS => ?_)
      have hP : va_P (dC, dI) vwCl [(aM, .inr (7, [.int u_131.2, .int vMP, .ref aMh, .ref aMi, .ref aMc, .int vMK, .ref aMt, .int vMB, .ref aMn, .ref aMl, .ref aMs, .int vMD, .ref aMd, .int vME, .ref aMe, .int vMO, .ref aMo, .int vMF, .int vMS, .ref aMw, .ref aMu, .int vMX, .int vMW])), (aMh, .inl (cA, 24, .inl (upd vMh vMP.toNatClampNeg p0))), (aMi, .inl (cA, 72, .inl (upd vMi (3 * vMP).toNatClampNeg p1))), (aMc, .inl (cA, 24, .inl (vMc))), (aMs, .inl (cZ, 100, .inl (vMs)))] H := hP
      have hD : va_D A [(aM, .inr (7, [.int u_131.2, .int vMP, .ref aMh, .ref aMi, .ref aMc, .int vMK, .ref aMt, .int vMB, .ref aMn, .ref aMl, .ref aMs, .int vMD, .ref aMd, .int vME, .ref aMe, .int vMO, .ref aMo, .int vMF, .int vMS, .ref aMw, .ref aMu, .int vMX, .int vMW])), (aMh, .inl (cA, 24, .inl (upd vMh vMP.toNatClampNeg p0))), (aMi, .inl (cA, 72, .inl (upd vMi (3 * vMP).toNatClampNeg p1))), (aMc, .inl (cA, 24, .inl (vMc))), (aMs, .inl (cZ, 100, .inl (vMs)))] := hD
      refine lv_aload_n hx hb qd_M_production_161 rfl (lv_at hl 2 rfl) ?_
      refine va_get (D := (dC, dI)) (ci := 7) (v := .ref aMi) (C := qR_M) (T := qT_M) (N := 23) hx hb hg qi_M hown hK hP 0 rfl rfl 3 (by decide) (hg _ mw_577) (fun _ h9 => h9) rfl qd_M_production_162 ?_
      refine lv_iconst (v := 3) hx hb qd_M_production_165 (by decide) ?_
      refine lv_aload_n hx hb qd_M_production_166 rfl (lv_at hl 2 rfl) ?_
      refine va_get (D := (dC, dI)) (ci := 7) (v := .int vMP) (C := qR_M) (T := qT_M) (N := 23) hx hb hg qi_M hown hK hP 0 rfl rfl 1 (by decide) (hg _ mw_575) (fun _ h9 => h9) rfl qd_M_production_167 ?_
      refine lv_imul hx hb qd_M_production_170 ?_
      refine lv_iconst (v := 1) hx hb qd_M_production_171 (by decide) ?_
      refine lv_iadd hx hb qd_M_production_172 ?_
      refine lv_iload_n hx hb qd_M_production_173 rfl (lv_at hl 5 rfl) ?_
      obtain ⟨g_174, ho⟩ := ho
      refine va_iast hx hb hK hP hD hS 2 0 rfl rfl g_174 qd_M_production_174 (fun H locs hP hD hS => ?_)
      have hP : va_P (dC, dI) vwCl [(aM, .inr (7, [.int u_131.2, .int vMP, .ref aMh, .ref aMi, .ref aMc, .int vMK, .ref aMt, .int vMB, .ref aMn, .ref aMl, .ref aMs, .int vMD, .ref aMd, .int vME, .ref aMe, .int vMO, .ref aMo, .int vMF, .int vMS, .ref aMw, .ref aMu, .int vMX, .int vMW])), (aMh, .inl (cA, 24, .inl (upd vMh vMP.toNatClampNeg p0))), (aMi, .inl (cA, 72, .inl (upd (upd vMi (3 * vMP).toNatClampNeg p1) ((3 * vMP) + 1).toNatClampNeg p2))), (aMc, .inl (cA, 24, .inl (vMc))), (aMs, .inl (cZ, 100, .inl (vMs)))] H := hP
      have hD : va_D A [(aM, .inr (7, [.int u_131.2, .int vMP, .ref aMh, .ref aMi, .ref aMc, .int vMK, .ref aMt, .int vMB, .ref aMn, .ref aMl, .ref aMs, .int vMD, .ref aMd, .int vME, .ref aMe, .int vMO, .ref aMo, .int vMF, .int vMS, .ref aMw, .ref aMu, .int vMX, .int vMW])), (aMh, .inl (cA, 24, .inl (upd vMh vMP.toNatClampNeg p0))), (aMi, .inl (cA, 72, .inl (upd (upd vMi (3 * vMP).toNatClampNeg p1) ((3 * vMP) + 1).toNatClampNeg p2))), (aMc, .inl (cA, 24, .inl (vMc))), (aMs, .inl (cZ, 100, .inl (vMs)))] := hD
      refine lv_aload_n hx hb qd_M_production_175 rfl (lv_at hl 2 rfl) ?_
      refine va_get (D := (dC, dI)) (ci := 7) (v := .ref aMi) (C := qR_M) (T := qT_M) (N := 23) hx hb hg qi_M hown hK hP 0 rfl rfl 3 (by decide) (hg _ mw_577) (fun _ h9 => h9) rfl qd_M_production_176 ?_
      refine lv_iconst (v := 3) hx hb qd_M_production_179 (by decide) ?_
      refine lv_aload_n hx hb qd_M_production_180 rfl (lv_at hl 2 rfl) ?_
      refine va_get (D := (dC, dI)) (ci := 7) (v := .int vMP) (C := qR_M) (T := qT_M) (N := 23) hx hb hg qi_M hown hK hP 0 rfl rfl 1 (by decide) (hg _ mw_575) (fun _ h9 => h9) rfl qd_M_production_181 ?_
      refine lv_imul hx hb qd_M_production_184 ?_
      refine lv_iconst (v := 2) hx hb qd_M_production_185 (by decide) ?_
      refine lv_iadd hx hb qd_M_production_186 ?_
      refine lv_iload hx hb qd_M_production_187 (lv_at hl 6 rfl) ?_
      obtain ⟨g_189, ho⟩ := ho
      refine va_iast hx hb hK hP hD hS 2 0 rfl rfl g_189 qd_M_production_189 (fun H locs hP hD hS => ?_)
      have hP : va_P (dC, dI) vwCl [(aM, .inr (7, [.int u_131.2, .int vMP, .ref aMh, .ref aMi, .ref aMc, .int vMK, .ref aMt, .int vMB, .ref aMn, .ref aMl, .ref aMs, .int vMD, .ref aMd, .int vME, .ref aMe, .int vMO, .ref aMo, .int vMF, .int vMS, .ref aMw, .ref aMu, .int vMX, .int vMW])), (aMh, .inl (cA, 24, .inl (upd vMh vMP.toNatClampNeg p0))), (aMi, .inl (cA, 72, .inl (upd (upd (upd vMi (3 * vMP).toNatClampNeg p1) ((3 * vMP) + 1).toNatClampNeg p2) ((3 * vMP) + 2).toNatClampNeg p3))), (aMc, .inl (cA, 24, .inl (vMc))), (aMs, .inl (cZ, 100, .inl (vMs)))] H := hP
      have hD : va_D A [(aM, .inr (7, [.int u_131.2, .int vMP, .ref aMh, .ref aMi, .ref aMc, .int vMK, .ref aMt, .int vMB, .ref aMn, .ref aMl, .ref aMs, .int vMD, .ref aMd, .int vME, .ref aMe, .int vMO, .ref aMo, .int vMF, .int vMS, .ref aMw, .ref aMu, .int vMX, .int vMW])), (aMh, .inl (cA, 24, .inl (upd vMh vMP.toNatClampNeg p0))), (aMi, .inl (cA, 72, .inl (upd (upd (upd vMi (3 * vMP).toNatClampNeg p1) ((3 * vMP) + 1).toNatClampNeg p2) ((3 * vMP) + 2).toNatClampNeg p3))), (aMc, .inl (cA, 24, .inl (vMc))), (aMs, .inl (cZ, 100, .inl (vMs)))] := hD
      refine lv_aload_n hx hb qd_M_production_190 rfl (lv_at hl 2 rfl) ?_
      refine va_get (D := (dC, dI)) (ci := 7) (v := .ref aMc) (C := qR_M) (T := qT_M) (N := 23) hx hb hg qi_M hown hK hP 0 rfl rfl 4 (by decide) (hg _ mw_578) (fun _ h9 => h9) rfl qd_M_production_191 ?_
      refine lv_aload_n hx hb qd_M_production_194 rfl (lv_at hl 2 rfl) ?_
      refine va_get (D := (dC, dI)) (ci := 7) (v := .int vMP) (C := qR_M) (T := qT_M) (N := 23) hx hb hg qi_M hown hK hP 0 rfl rfl 1 (by decide) (hg _ mw_575) (fun _ h9 => h9) rfl qd_M_production_195 ?_
      refine lv_iload hx hb qd_M_production_198 (lv_at hl 7 rfl) ?_
      obtain ⟨g_200, ho⟩ := ho
      refine va_iast hx hb hK hP hD hS 3 0 rfl rfl g_200 qd_M_production_200 (fun H locs hP hD hS => ?_)
      have hP : va_P (dC, dI) vwCl [(aM, .inr (7, [.int u_131.2, .int vMP, .ref aMh, .ref aMi, .ref aMc, .int vMK, .ref aMt, .int vMB, .ref aMn, .ref aMl, .ref aMs, .int vMD, .ref aMd, .int vME, .ref aMe, .int vMO, .ref aMo, .int vMF, .int vMS, .ref aMw, .ref aMu, .int vMX, .int vMW])), (aMh, .inl (cA, 24, .inl (upd vMh vMP.toNatClampNeg p0))), (aMi, .inl (cA, 72, .inl (upd (upd (upd vMi (3 * vMP).toNatClampNeg p1) ((3 * vMP) + 1).toNatClampNeg p2) ((3 * vMP) + 2).toNatClampNeg p3))), (aMc, .inl (cA, 24, .inl (upd vMc vMP.toNatClampNeg p4))), (aMs, .inl (cZ, 100, .inl (vMs)))] H := hP
      have hD : va_D A [(aM, .inr (7, [.int u_131.2, .int vMP, .ref aMh, .ref aMi, .ref aMc, .int vMK, .ref aMt, .int vMB, .ref aMn, .ref aMl, .ref aMs, .int vMD, .ref aMd, .int vME, .ref aMe, .int vMO, .ref aMo, .int vMF, .int vMS, .ref aMw, .ref aMu, .int vMX, .int vMW])), (aMh, .inl (cA, 24, .inl (upd vMh vMP.toNatClampNeg p0))), (aMi, .inl (cA, 72, .inl (upd (upd (upd vMi (3 * vMP).toNatClampNeg p1) ((3 * vMP) + 1).toNatClampNeg p2) ((3 * vMP) + 2).toNatClampNeg p3))), (aMc, .inl (cA, 24, .inl (upd vMc vMP.toNatClampNeg p4))), (aMs, .inl (cZ, 100, .inl (vMs)))] := hD
      refine lv_aload_n hx hb qd_M_production_201 rfl (lv_at hl 2 rfl) ?_
      refine lv_dup hx hb qd_M_production_202 rfl ?_
      refine va_get (D := (dC, dI)) (ci := 7) (v := .int vMP) (C := qR_M) (T := qT_M) (N := 23) hx hb hg qi_M hown hK hP 0 rfl rfl 1 (by decide) (hg _ mw_575) (fun _ h9 => h9) rfl qd_M_production_203 ?_
      refine lv_iconst (v := 1) hx hb qd_M_production_206 (by decide) ?_
      refine lv_iadd hx hb qd_M_production_207 ?_
      refine va_put (D := (dC, dI)) (ci := 7) (v := .int (vMP + 1)) (ty := .int) (C := qR_M) (T := qT_M) (N := 23) hx hb hg qi_M qt_M qk_M qn_M hown hK hP hD hS 0 rfl rfl 1 (by decide) (hg _ mw_575) (fun _ h9 => h9) rfl (by decide +kernel) rfl rfl (Nat.le_of_ble_eq_true rfl) qd_M_production_208 (fun H locs hP hD hS => ?_)
      have hP : va_P (dC, dI) vwCl [(aM, .inr (7, [.int u_131.2, .int (vMP + 1), .ref aMh, .ref aMi, .ref aMc, .int vMK, .ref aMt, .int vMB, .ref aMn, .ref aMl, .ref aMs, .int vMD, .ref aMd, .int vME, .ref aMe, .int vMO, .ref aMo, .int vMF, .int vMS, .ref aMw, .ref aMu, .int vMX, .int vMW])), (aMh, .inl (cA, 24, .inl (upd vMh vMP.toNatClampNeg p0))), (aMi, .inl (cA, 72, .inl (upd (upd (upd vMi (3 * vMP).toNatClampNeg p1) ((3 * vMP) + 1).toNatClampNeg p2) ((3 * vMP) + 2).toNatClampNeg p3))), (aMc, .inl (cA, 24, .inl (upd vMc vMP.toNatClampNeg p4))), (aMs, .inl (cZ, 100, .inl (vMs)))] H := hP
      have hD : va_D A [(aM, .inr (7, [.int u_131.2, .int (vMP + 1), .ref aMh, .ref aMi, .ref aMc, .int vMK, .ref aMt, .int vMB, .ref aMn, .ref aMl, .ref aMs, .int vMD, .ref aMd, .int vME, .ref aMe, .int vMO, .ref aMo, .int vMF, .int vMS, .ref aMw, .ref aMu, .int vMX, .int vMW])), (aMh, .inl (cA, 24, .inl (upd vMh vMP.toNatClampNeg p0))), (aMi, .inl (cA, 72, .inl (upd (upd (upd vMi (3 * vMP).toNatClampNeg p1) ((3 * vMP) + 1).toNatClampNeg p2) ((3 * vMP) + 2).toNatClampNeg p3))), (aMc, .inl (cA, 24, .inl (upd vMc vMP.toNatClampNeg p4))), (aMs, .inl (cZ, 100, .inl (vMs)))] := hD
      refine lv_aload_n hx hb qd_M_production_211 rfl (lv_at hl 2 rfl) ?_
      refine lv_iconst (v := 0) hx hb qd_M_production_212 (by decide) ?_
      refine va_put (D := (dC, dI)) (ci := 7) (v := .int 0) (ty := .boolean) (C := qR_M) (T := qT_M) (N := 23) hx hb hg qi_M qt_M qk_M qn_M hown hK hP hD hS 0 rfl rfl 7 (by decide) (hg _ mw_581) (fun _ h9 => h9) rfl (by decide +kernel) rfl rfl (Nat.le_of_ble_eq_true rfl) qd_M_production_213 (fun H locs hP hD hS => ?_)
      have hP : va_P (dC, dI) vwCl [(aM, .inr (7, [.int u_131.2, .int (vMP + 1), .ref aMh, .ref aMi, .ref aMc, .int vMK, .ref aMt, .int 0, .ref aMn, .ref aMl, .ref aMs, .int vMD, .ref aMd, .int vME, .ref aMe, .int vMO, .ref aMo, .int vMF, .int vMS, .ref aMw, .ref aMu, .int vMX, .int vMW])), (aMh, .inl (cA, 24, .inl (upd vMh vMP.toNatClampNeg p0))), (aMi, .inl (cA, 72, .inl (upd (upd (upd vMi (3 * vMP).toNatClampNeg p1) ((3 * vMP) + 1).toNatClampNeg p2) ((3 * vMP) + 2).toNatClampNeg p3))), (aMc, .inl (cA, 24, .inl (upd vMc vMP.toNatClampNeg p4))), (aMs, .inl (cZ, 100, .inl (vMs)))] H := hP
      have hD : va_D A [(aM, .inr (7, [.int u_131.2, .int (vMP + 1), .ref aMh, .ref aMi, .ref aMc, .int vMK, .ref aMt, .int 0, .ref aMn, .ref aMl, .ref aMs, .int vMD, .ref aMd, .int vME, .ref aMe, .int vMO, .ref aMo, .int vMF, .int vMS, .ref aMw, .ref aMu, .int vMX, .int vMW])), (aMh, .inl (cA, 24, .inl (upd vMh vMP.toNatClampNeg p0))), (aMi, .inl (cA, 72, .inl (upd (upd (upd vMi (3 * vMP).toNatClampNeg p1) ((3 * vMP) + 1).toNatClampNeg p2) ((3 * vMP) + 2).toNatClampNeg p3))), (aMc, .inl (cA, 24, .inl (upd vMc vMP.toNatClampNeg p4))), (aMs, .inl (cZ, 100, .inl (vMs)))] := hD
      refine lv_aload_n hx hb qd_M_production_216 rfl (lv_at hl 2 rfl) ?_
      refine va_get (D := (dC, dI)) (ci := 7) (v := .int (vMP + 1)) (C := qR_M) (T := qT_M) (N := 23) hx hb hg qi_M hown hK hP 0 rfl rfl 1 (by decide) (hg _ mw_575) (fun _ h9 => h9) rfl qd_M_production_217 ?_
      refine lv_iconst (v := 1) hx hb qd_M_production_220 (by decide) ?_
      refine lv_isub hx hb qd_M_production_221 ?_
      exact W.iret (v := (vMP + 1) - 1) hx hb hr (fun t ht hW => ⟨⟨_, ((vMP + 1) - 1, u_131.2, vMP + 1, 0, upd vMh vMP.toNatClampNeg p0, upd (upd (upd vMi (3 * vMP).toNatClampNeg p1) ((3 * vMP) + 1).toNatClampNeg p2) ((3 * vMP) + 2).toNatClampNeg p3, upd vMc vMP.toNatClampNeg p4, vMs), rfl, ⟨hres.symm, rfl⟩, ⟨by rw [ht]; exact hP, va_K.moved hW.alike hK, x_N hN hW⟩, hD⟩, hS.F ht⟩) hS.2.2 qd_M_production_222
    have hres := hres.trans (if_neg c_134)
    have ho := (if_neg c_134).mp ho
    refine lv_iconst (v := 0) hx hb qd_M_production_137 (by decide) ?_
    exact W.iret (v := 0) hx hb hr (fun t ht hW => ⟨⟨_, (0, u_131.2, vMP, vMB, vMh, vMi, vMc, vMs), rfl, ⟨hres.symm, rfl⟩, ⟨by rw [ht]; exact hP, va_K.moved hW.alike hK, x_N hN hW⟩, hD⟩, hS.F ht⟩) hS.2.2 qd_M_production_138
  have hres := hres.trans (if_neg c_45)
  have ho := (if_neg c_45).mp ho
  refine lv_iload hx hb qd_M_production_48 (lv_at hl 5 rfl) ?_
  refine lv_iconst (v := 0) hx hb qd_M_production_50 (by decide) ?_
  refine lv_sipush (v := 1000) hx hb qd_M_production_51 (by decide) ?_
  refine xc_S (As := [.int p4, .int 0, .int 1000]) (rest := []) ⟨hx, hb, hml, hown, hg⟩ (c_M_in l dC dI cA cZ p4 0 1000) (va_cwS 3 hg (q_gS mw_633 mw_634 mw_8 mw_635) rfl rfl rfl qh_M_in.2 ⟨Nat.le_of_ble_eq_true rfl, Nat.le_of_ble_eq_true rfl⟩) hN hK hP [] rfl rfl hl.1 rfl (Nat.le_of_ble_eq_true rfl) qd_M_production_54 ⟨Nat.zero_le _, Nat.zero_le _⟩ ?_
  refine lv_topi (fun r_54 w_54 => ?_)
  have hres := hres.trans (bd_eq w_54)
  have ho := (bd_eq w_54).mp ho
  refine lv_if_eq (tgt := 64) hx hb qd_M_production_57 (by decide) (fun c_57 => ?_) (fun c_57 => ?_)
  · have hres := hres.trans (if_pos c_57)
    have ho := (if_pos c_57).mp ho
    refine lv_iconst (v := 0) hx hb qd_M_production_64 (by decide) ?_
    refine lv_istore (lv' := [(6, .int 0), (0, .ref aM), (1, .int p0), (2, .int p1), (3, .int p2), (4, .int p3), (5, .int p4)]) hx hb qd_M_production_65 hl (by decide) rfl (fun ls hl => ?_)
    refine lv_iload hx hb qd_M_production_67 (lv_at hl 0 rfl) ?_
    refine lv_if_eq (tgt := 96) hx hb qd_M_production_69 (by decide) (fun c_69 => ?_) (fun c_69 => ?_)
    rotate_left
    · exact absurd (by decide) c_69
    refine lv_iconst (v := 0) hx hb qd_M_production_96 (by decide) ?_
    refine lv_istore (lv' := [(7, .int 0), (6, .int 0), (0, .ref aM), (1, .int p0), (2, .int p1), (3, .int p2), (4, .int p3), (5, .int p4)]) hx hb qd_M_production_97 hl (by decide) rfl (fun ls hl => ?_)
    refine lv_aload_n hx hb qd_M_production_99 rfl (lv_at hl 2 rfl) ?_
    refine lv_iload hx hb qd_M_production_100 (lv_at hl 1 rfl) ?_
    refine lv_if_ne (tgt := 109) hx hb qd_M_production_102 (by decide) (fun c_102 => ?_) (fun c_102 => ?_)
    · exact absurd (by decide) c_102
    refine lv_iconst (v := 1) hx hb qd_M_production_105 (by decide) ?_
    refine lv_goto (tgt := 110) hx hb qd_M_production_106 (by decide) ?_
    refine lv_iload hx hb qd_M_production_110 (lv_at hl 1 rfl) ?_
    refine lv_if_eq (tgt := 128) hx hb qd_M_production_112 (by decide) (fun c_112 => ?_) (fun c_112 => ?_)
    rotate_left
    · exact absurd (by decide) c_112
    refine lv_iconst (v := 0) hx hb qd_M_production_128 (by decide) ?_
    refine lv_iload hx hb qd_M_production_129 (lv_at hl 0 rfl) ?_
    refine xm_Vi (As := [.int 1, .int 0, .int 0]) (rest := []) (w1 := fun (u_131 : Int32 × Int32) => [(aM, .inr (7, [.int u_131.2, .int vMP, .ref aMh, .ref aMi, .ref aMc, .int vMK, .ref aMt, .int vMB, .ref aMn, .ref aMl, .ref aMs, .int vMD, .ref aMd, .int vME, .ref aMe, .int vMO, .ref aMo, .int vMF, .int vMS, .ref aMw, .ref aMu, .int vMX, .int vMW]))]) (w2 := fun (u_131 : Int32 × Int32) => [(aM, .inr (7, [.int u_131.2, .int vMP, .ref aMh, .ref aMi, .ref aMc, .int vMK, .ref aMt, .int vMB, .ref aMn, .ref aMl, .ref aMs, .int vMD, .ref aMd, .int vME, .ref aMe, .int vMO, .ref aMo, .int vMF, .int vMS, .ref aMw, .ref aMu, .int vMX, .int vMW])), (aMh, .inl (cA, 24, .inl (vMh))), (aMi, .inl (cA, 72, .inl (vMi))), (aMc, .inl (cA, 24, .inl (vMc))), (aMs, .inl (cZ, 100, .inl (vMs)))]) ⟨hx, hb, hml, hown, hg⟩ (c_M_refuse l dC dI cA cZ aM aMh aMi aMc aMt aMn aMl aMs aMd aMe aMo aMw aMu _ vMT vMP vMK vMB vMD vME vMO vMF vMS vMX vMW 1 0 0) (cwV 3 hg (q_gV mw_642 mw_643 mw_771 mw_8 mw_644) rfl rfl rfl qh_M_refuse ⟨Nat.le_of_ble_eq_true rfl, Nat.le_of_ble_eq_true rfl⟩) hN hK hP hD hS hA [0] [1, 2, 3, 4] rfl rfl (by decide) (by decide) (by decide) [4, 0, 1, 2, 3] (fun _ => rfl) (by decide) 0 7 rfl rfl rfl hl.1 rfl (Nat.le_of_ble_eq_true rfl) qd_M_production_131 ⟨Nat.zero_le _, Nat.zero_le _⟩ (fun u_131 H locs w_131 hP hD hS => ?_)
    have hP : va_P (dC, dI) vwCl [(aM, .inr (7, [.int u_131.2, .int vMP, .ref aMh, .ref aMi, .ref aMc, .int vMK, .ref aMt, .int vMB, .ref aMn, .ref aMl, .ref aMs, .int vMD, .ref aMd, .int vME, .ref aMe, .int vMO, .ref aMo, .int vMF, .int vMS, .ref aMw, .ref aMu, .int vMX, .int vMW])), (aMh, .inl (cA, 24, .inl (vMh))), (aMi, .inl (cA, 72, .inl (vMi))), (aMc, .inl (cA, 24, .inl (vMc))), (aMs, .inl (cZ, 100, .inl (vMs)))] H := hP
    have hD : va_D A [(aM, .inr (7, [.int u_131.2, .int vMP, .ref aMh, .ref aMi, .ref aMc, .int vMK, .ref aMt, .int vMB, .ref aMn, .ref aMl, .ref aMs, .int vMD, .ref aMd, .int vME, .ref aMe, .int vMO, .ref aMo, .int vMF, .int vMS, .ref aMw, .ref aMu, .int vMX, .int vMW])), (aMh, .inl (cA, 24, .inl (vMh))), (aMi, .inl (cA, 72, .inl (vMi))), (aMc, .inl (cA, 24, .inl (vMc))), (aMs, .inl (cZ, 100, .inl (vMs)))] := hD
    have hres := hres.trans (bd_eq w_131)
    have ho := (bd_eq w_131).mp ho
    refine lv_if_eq (tgt := 139) hx hb qd_M_production_134 (by decide) (fun c_134 => ?_) (fun c_134 => ?_)
    · have hres := hres.trans (if_pos c_134)
      have ho := (if_pos c_134).mp ho
      refine lv_aload_n hx hb qd_M_production_139 rfl (lv_at hl 2 rfl) ?_
      refine va_get (D := (dC, dI)) (ci := 7) (v := .ref aMh) (C := qR_M) (T := qT_M) (N := 23) hx hb hg qi_M hown hK hP 0 rfl rfl 2 (by decide) (hg _ mw_576) (fun _ h9 => h9) rfl qd_M_production_140 ?_
      refine lv_aload_n hx hb qd_M_production_143 rfl (lv_at hl 2 rfl) ?_
      refine va_get (D := (dC, dI)) (ci := 7) (v := .int vMP) (C := qR_M) (T := qT_M) (N := 23) hx hb hg qi_M hown hK hP 0 rfl rfl 1 (by decide) (hg _ mw_575) (fun _ h9 => h9) rfl qd_M_production_144 ?_
      refine lv_iload_n hx hb qd_M_production_147 rfl (lv_at hl 3 rfl) ?_
      obtain ⟨g_148, ho⟩ := ho
      refine va_iast hx hb hK hP hD hS 1 0 rfl rfl g_148 qd_M_production_148 (fun H locs hP hD hS => ?_)
      have hP : va_P (dC, dI) vwCl [(aM, .inr (7, [.int u_131.2, .int vMP, .ref aMh, .ref aMi, .ref aMc, .int vMK, .ref aMt, .int vMB, .ref aMn, .ref aMl, .ref aMs, .int vMD, .ref aMd, .int vME, .ref aMe, .int vMO, .ref aMo, .int vMF, .int vMS, .ref aMw, .ref aMu, .int vMX, .int vMW])), (aMh, .inl (cA, 24, .inl (upd vMh vMP.toNatClampNeg p0))), (aMi, .inl (cA, 72, .inl (vMi))), (aMc, .inl (cA, 24, .inl (vMc))), (aMs, .inl (cZ, 100, .inl (vMs)))] H := hP
      have hD : va_D A [(aM, .inr (7, [.int u_131.2, .int vMP, .ref aMh, .ref aMi, .ref aMc, .int vMK, .ref aMt, .int vMB, .ref aMn, .ref aMl, .ref aMs, .int vMD, .ref aMd, .int vME, .ref aMe, .int vMO, .ref aMo, .int vMF, .int vMS, .ref aMw, .ref aMu, .int vMX, .int vMW])), (aMh, .inl (cA, 24, .inl (upd vMh vMP.toNatClampNeg p0))), (aMi, .inl (cA, 72, .inl (vMi))), (aMc, .inl (cA, 24, .inl (vMc))), (aMs, .inl (cZ, 100, .inl (vMs)))] := hD
      refine lv_aload_n hx hb qd_M_production_149 rfl (lv_at hl 2 rfl) ?_
      refine va_get (D := (dC, dI)) (ci := 7) (v := .ref aMi) (C := qR_M) (T := qT_M) (N := 23) hx hb hg qi_M hown hK hP 0 rfl rfl 3 (by decide) (hg _ mw_577) (fun _ h9 => h9) rfl qd_M_production_150 ?_
      refine lv_iconst (v := 3) hx hb qd_M_production_153 (by decide) ?_
      refine lv_aload_n hx hb qd_M_production_154 rfl (lv_at hl 2 rfl) ?_
      refine va_get (D := (dC, dI)) (ci := 7) (v := .int vMP) (C := qR_M) (T := qT_M) (N := 23) hx hb hg qi_M hown hK hP 0 rfl rfl 1 (by decide) (hg _ mw_575) (fun _ h9 => h9) rfl qd_M_production_155 ?_
      refine lv_imul hx hb qd_M_production_158 ?_
      refine lv_iload_n hx hb qd_M_production_159 rfl (lv_at hl 4 rfl) ?_
      obtain ⟨g_160, ho⟩ := ho
      refine va_iast hx hb hK hP hD hS 2 0 rfl rfl g_160 qd_M_production_160 (fun H locs hP hD hS => ?_)
      have hP : va_P (dC, dI) vwCl [(aM, .inr (7, [.int u_131.2, .int vMP, .ref aMh, .ref aMi, .ref aMc, .int vMK, .ref aMt, .int vMB, .ref aMn, .ref aMl, .ref aMs, .int vMD, .ref aMd, .int vME, .ref aMe, .int vMO, .ref aMo, .int vMF, .int vMS, .ref aMw, .ref aMu, .int vMX, .int vMW])), (aMh, .inl (cA, 24, .inl (upd vMh vMP.toNatClampNeg p0))), (aMi, .inl (cA, 72, .inl (upd vMi (3 * vMP).toNatClampNeg p1))), (aMc, .inl (cA, 24, .inl (vMc))), (aMs, .inl (cZ, 100, .inl (vMs)))] H := hP
      have hD : va_D A [(aM, .inr (7, [.int u_131.2, .int vMP, .ref aMh, .ref aMi, .ref aMc, .int vMK, .ref aMt, .int vMB, .ref aMn, .ref aMl, .ref aMs, .int vMD, .ref aMd, .int vME, .ref aMe, .int vMO, .ref aMo, .int vMF, .int vMS, .ref aMw, .ref aMu, .int vMX, .int vMW])), (aMh, .inl (cA, 24, .inl (upd vMh vMP.toNatClampNeg p0))), (aMi, .inl (cA, 72, .inl (upd vMi (3 * vMP).toNatClampNeg p1))), (aMc, .inl (cA, 24, .inl (vMc))), (aMs, .inl (cZ, 100, .inl (vMs)))] := hD
      refine lv_aload_n hx hb qd_M_production_161 rfl (lv_at hl 2 rfl) ?_
      refine va_get (D := (dC, dI)) (ci := 7) (v := .ref aMi) (C := qR_M) (T := qT_M) (N := 23) hx hb hg qi_M hown hK hP 0 rfl rfl 3 (by decide) (hg _ mw_577) (fun _ h9 => h9) rfl qd_M_production_162 ?_
      refine lv_iconst (v := 3) hx hb qd_M_production_165 (by decide) ?_
      refine lv_aload_n hx hb qd_M_production_166 rfl (lv_at hl 2 rfl) ?_
      refine va_get (D := (dC, dI)) (ci := 7) (v := .int vMP) (C := qR_M) (T := qT_M) (N := 23) hx hb hg qi_M hown hK hP 0 rfl rfl 1 (by decide) (hg _ mw_575) (fun _ h9 => h9) rfl qd_M_production_167 ?_
      refine lv_imul hx hb qd_M_production_170 ?_
      refine lv_iconst (v := 1) hx hb qd_M_production_171 (by decide) ?_
      refine lv_iadd hx hb qd_M_production_172 ?_
      refine lv_iload_n hx hb qd_M_production_173 rfl (lv_at hl 5 rfl) ?_
      obtain ⟨g_174, ho⟩ := ho
      refine va_iast hx hb hK hP hD hS 2 0 rfl rfl g_174 qd_M_production_174 (fun H locs hP hD hS => ?_)
      have hP : va_P (dC, dI) vwCl [(aM, .inr (7, [.int u_131.2, .int vMP, .ref aMh, .ref aMi, .ref aMc, .int vMK, .ref aMt, .int vMB, .ref aMn, .ref aMl, .ref aMs, .int vMD, .ref aMd, .int vME, .ref aMe, .int vMO, .ref aMo, .int vMF, .int vMS, .ref aMw, .ref aMu, .int vMX, .int vMW])), (aMh, .inl (cA, 24, .inl (upd vMh vMP.toNatClampNeg p0))), (aMi, .inl (cA, 72, .inl (upd (upd vMi (3 * vMP).toNatClampNeg p1) ((3 * vMP) + 1).toNatClampNeg p2))), (aMc, .inl (cA, 24, .inl (vMc))), (aMs, .inl (cZ, 100, .inl (vMs)))] H := hP
      have hD : va_D A [(aM, .inr (7, [.int u_131.2, .int vMP, .ref aMh, .ref aMi, .ref aMc, .int vMK, .ref aMt, .int vMB, .ref aMn, .ref aMl, .ref aMs, .int vMD, .ref aMd, .int vME, .ref aMe, .int vMO, .ref aMo, .int vMF, .int vMS, .ref aMw, .ref aMu, .int vMX, .int vMW])), (aMh, .inl (cA, 24, .inl (upd vMh vMP.toNatClampNeg p0))), (aMi, .inl (cA, 72, .inl (upd (upd vMi (3 * vMP).toNatClampNeg p1) ((3 * vMP) + 1).toNatClampNeg p2))), (aMc, .inl (cA, 24, .inl (vMc))), (aMs, .inl (cZ, 100, .inl (vMs)))] := hD
      refine lv_aload_n hx hb qd_M_production_175 rfl (lv_at hl 2 rfl) ?_
      refine va_get (D := (dC, dI)) (ci := 7) (v := .ref aMi) (C := qR_M) (T := qT_M) (N := 23) hx hb hg qi_M hown hK hP 0 rfl rfl 3 (by decide) (hg _ mw_577) (fun _ h9 => h9) rfl qd_M_production_176 ?_
      refine lv_iconst (v := 3) hx hb qd_M_production_179 (by decide) ?_
      refine lv_aload_n hx hb qd_M_production_180 rfl (lv_at hl 2 rfl) ?_
      refine va_get (D := (dC, dI)) (ci := 7) (v := .int vMP) (C := qR_M) (T := qT_M) (N := 23) hx hb hg qi_M hown hK hP 0 rfl rfl 1 (by decide) (hg _ mw_575) (fun _ h9 => h9) rfl qd_M_production_181 ?_
      refine lv_imul hx hb qd_M_production_184 ?_
      refine lv_iconst (v := 2) hx hb qd_M_production_185 (by decide) ?_
      refine lv_iadd hx hb qd_M_production_186 ?_
      refine lv_iload hx hb qd_M_production_187 (lv_at hl 6 rfl) ?_
      obtain ⟨g_189, ho⟩ := ho
      refine va_iast hx hb hK hP hD hS 2 0 rfl rfl g_189 qd_M_production_189 (fun H locs hP hD hS => ?_)
      have hP : va_P (dC, dI) vwCl [(aM, .inr (7, [.int u_131.2, .int vMP, .ref aMh, .ref aMi, .ref aMc, .int vMK, .ref aMt, .int vMB, .ref aMn, .ref aMl, .ref aMs, .int vMD, .ref aMd, .int vME, .ref aMe, .int vMO, .ref aMo, .int vMF, .int vMS, .ref aMw, .ref aMu, .int vMX, .int vMW])), (aMh, .inl (cA, 24, .inl (upd vMh vMP.toNatClampNeg p0))), (aMi, .inl (cA, 72, .inl (upd (upd (upd vMi (3 * vMP).toNatClampNeg p1) ((3 * vMP) + 1).toNatClampNeg p2) ((3 * vMP) + 2).toNatClampNeg p3))), (aMc, .inl (cA, 24, .inl (vMc))), (aMs, .inl (cZ, 100, .inl (vMs)))] H := hP
      have hD : va_D A [(aM, .inr (7, [.int u_131.2, .int vMP, .ref aMh, .ref aMi, .ref aMc, .int vMK, .ref aMt, .int vMB, .ref aMn, .ref aMl, .ref aMs, .int vMD, .ref aMd, .int vME, .ref aMe, .int vMO, .ref aMo, .int vMF, .int vMS, .ref aMw, .ref aMu, .int vMX, .int vMW])), (aMh, .inl (cA, 24, .inl (upd vMh vMP.toNatClampNeg p0))), (aMi, .inl (cA, 72, .inl (upd (upd (upd vMi (3 * vMP).toNatClampNeg p1) ((3 * vMP) + 1).toNatClampNeg p2) ((3 * vMP) + 2).toNatClampNeg p3))), (aMc, .inl (cA, 24, .inl (vMc))), (aMs, .inl (cZ, 100, .inl (vMs)))] := hD
      refine lv_aload_n hx hb qd_M_production_190 rfl (lv_at hl 2 rfl) ?_
      refine va_get (D := (dC, dI)) (ci := 7) (v := .ref aMc) (C := qR_M) (T := qT_M) (N := 23) hx hb hg qi_M hown hK hP 0 rfl rfl 4 (by decide) (hg _ mw_578) (fun _ h9 => h9) rfl qd_M_production_191 ?_
      refine lv_aload_n hx hb qd_M_production_194 rfl (lv_at hl 2 rfl) ?_
      refine va_get (D := (dC, dI)) (ci := 7) (v := .int vMP) (C := qR_M) (T := qT_M) (N := 23) hx hb hg qi_M hown hK hP 0 rfl rfl 1 (by decide) (hg _ mw_575) (fun _ h9 => h9) rfl qd_M_production_195 ?_
      refine lv_iload hx hb qd_M_production_198 (lv_at hl 7 rfl) ?_
      obtain ⟨g_200, ho⟩ := ho
      refine va_iast hx hb hK hP hD hS 3 0 rfl rfl g_200 qd_M_production_200 (fun H locs hP hD hS => ?_)
      have hP : va_P (dC, dI) vwCl [(aM, .inr (7, [.int u_131.2, .int vMP, .ref aMh, .ref aMi, .ref aMc, .int vMK, .ref aMt, .int vMB, .ref aMn, .ref aMl, .ref aMs, .int vMD, .ref aMd, .int vME, .ref aMe, .int vMO, .ref aMo, .int vMF, .int vMS, .ref aMw, .ref aMu, .int vMX, .int vMW])), (aMh, .inl (cA, 24, .inl (upd vMh vMP.toNatClampNeg p0))), (aMi, .inl (cA, 72, .inl (upd (upd (upd vMi (3 * vMP).toNatClampNeg p1) ((3 * vMP) + 1).toNatClampNeg p2) ((3 * vMP) + 2).toNatClampNeg p3))), (aMc, .inl (cA, 24, .inl (upd vMc vMP.toNatClampNeg p4))), (aMs, .inl (cZ, 100, .inl (vMs)))] H := hP
      have hD : va_D A [(aM, .inr (7, [.int u_131.2, .int vMP, .ref aMh, .ref aMi, .ref aMc, .int vMK, .ref aMt, .int vMB, .ref aMn, .ref aMl, .ref aMs, .int vMD, .ref aMd, .int vME, .ref aMe, .int vMO, .ref aMo, .int vMF, .int vMS, .ref aMw, .ref aMu, .int vMX, .int vMW])), (aMh, .inl (cA, 24, .inl (upd vMh vMP.toNatClampNeg p0))), (aMi, .inl (cA, 72, .inl (upd (upd (upd vMi (3 * vMP).toNatClampNeg p1) ((3 * vMP) + 1).toNatClampNeg p2) ((3 * vMP) + 2).toNatClampNeg p3))), (aMc, .inl (cA, 24, .inl (upd vMc vMP.toNatClampNeg p4))), (aMs, .inl (cZ, 100, .inl (vMs)))] := hD
      refine lv_aload_n hx hb qd_M_production_201 rfl (lv_at hl 2 rfl) ?_
      refine lv_dup hx hb qd_M_production_202 rfl ?_
      refine va_get (D := (dC, dI)) (ci := 7) (v := .int vMP) (C := qR_M) (T := qT_M) (N := 23) hx hb hg qi_M hown hK hP 0 rfl rfl 1 (by decide) (hg _ mw_575) (fun _ h9 => h9) rfl qd_M_production_203 ?_
      refine lv_iconst (v := 1) hx hb qd_M_production_206 (by decide) ?_
      refine lv_iadd hx hb qd_M_production_207 ?_
      refine va_put (D := (dC, dI)) (ci := 7) (v := .int (vMP + 1)) (ty := .int) (C := qR_M) (T := qT_M) (N := 23) hx hb hg qi_M qt_M qk_M qn_M hown hK hP hD hS 0 rfl rfl 1 (by decide) (hg _ mw_575) (fun _ h9 => h9) rfl (by decide +kernel) rfl rfl (Nat.le_of_ble_eq_true rfl) qd_M_production_208 (fun H locs hP hD hS => ?_)
      have hP : va_P (dC, dI) vwCl [(aM, .inr (7, [.int u_131.2, .int (vMP + 1), .ref aMh, .ref aMi, .ref aMc, .int vMK, .ref aMt, .int vMB, .ref aMn, .ref aMl, .ref aMs, .int vMD, .ref aMd, .int vME, .ref aMe, .int vMO, .ref aMo, .int vMF, .int vMS, .ref aMw, .ref aMu, .int vMX, .int vMW])), (aMh, .inl (cA, 24, .inl (upd vMh vMP.toNatClampNeg p0))), (aMi, .inl (cA, 72, .inl (upd (upd (upd vMi (3 * vMP).toNatClampNeg p1) ((3 * vMP) + 1).toNatClampNeg p2) ((3 * vMP) + 2).toNatClampNeg p3))), (aMc, .inl (cA, 24, .inl (upd vMc vMP.toNatClampNeg p4))), (aMs, .inl (cZ, 100, .inl (vMs)))] H := hP
      have hD : va_D A [(aM, .inr (7, [.int u_131.2, .int (vMP + 1), .ref aMh, .ref aMi, .ref aMc, .int vMK, .ref aMt, .int vMB, .ref aMn, .ref aMl, .ref aMs, .int vMD, .ref aMd, .int vME, .ref aMe, .int vMO, .ref aMo, .int vMF, .int vMS, .ref aMw, .ref aMu, .int vMX, .int vMW])), (aMh, .inl (cA, 24, .inl (upd vMh vMP.toNatClampNeg p0))), (aMi, .inl (cA, 72, .inl (upd (upd (upd vMi (3 * vMP).toNatClampNeg p1) ((3 * vMP) + 1).toNatClampNeg p2) ((3 * vMP) + 2).toNatClampNeg p3))), (aMc, .inl (cA, 24, .inl (upd vMc vMP.toNatClampNeg p4))), (aMs, .inl (cZ, 100, .inl (vMs)))] := hD
      refine lv_aload_n hx hb qd_M_production_211 rfl (lv_at hl 2 rfl) ?_
      refine lv_iconst (v := 0) hx hb qd_M_production_212 (by decide) ?_
      refine va_put (D := (dC, dI)) (ci := 7) (v := .int 0) (ty := .boolean) (C := qR_M) (T := qT_M) (N := 23) hx hb hg qi_M qt_M qk_M qn_M hown hK hP hD hS 0 rfl rfl 7 (by decide) (hg _ mw_581) (fun _ h9 => h9) rfl (by decide +kernel) rfl rfl (Nat.le_of_ble_eq_true rfl) qd_M_production_213 (fun H locs hP hD hS => ?_)
      have hP : va_P (dC, dI) vwCl [(aM, .inr (7, [.int u_131.2, .int (vMP + 1), .ref aMh, .ref aMi, .ref aMc, .int vMK, .ref aMt, .int 0, .ref aMn, .ref aMl, .ref aMs, .int vMD, .ref aMd, .int vME, .ref aMe, .int vMO, .ref aMo, .int vMF, .int vMS, .ref aMw, .ref aMu, .int vMX, .int vMW])), (aMh, .inl (cA, 24, .inl (upd vMh vMP.toNatClampNeg p0))), (aMi, .inl (cA, 72, .inl (upd (upd (upd vMi (3 * vMP).toNatClampNeg p1) ((3 * vMP) + 1).toNatClampNeg p2) ((3 * vMP) + 2).toNatClampNeg p3))), (aMc, .inl (cA, 24, .inl (upd vMc vMP.toNatClampNeg p4))), (aMs, .inl (cZ, 100, .inl (vMs)))] H := hP
      have hD : va_D A [(aM, .inr (7, [.int u_131.2, .int (vMP + 1), .ref aMh, .ref aMi, .ref aMc, .int vMK, .ref aMt, .int 0, .ref aMn, .ref aMl, .ref aMs, .int vMD, .ref aMd, .int vME, .ref aMe, .int vMO, .ref aMo, .int vMF, .int vMS, .ref aMw, .ref aMu, .int vMX, .int vMW])), (aMh, .inl (cA, 24, .inl (upd vMh vMP.toNatClampNeg p0))), (aMi, .inl (cA, 72, .inl (upd (upd (upd vMi (3 * vMP).toNatClampNeg p1) ((3 * vMP) + 1).toNatClampNeg p2) ((3 * vMP) + 2).toNatClampNeg p3))), (aMc, .inl (cA, 24, .inl (upd vMc vMP.toNatClampNeg p4))), (aMs, .inl (cZ, 100, .inl (vMs)))] := hD
      refine lv_aload_n hx hb qd_M_production_216 rfl (lv_at hl 2 rfl) ?_
      refine va_get (D := (dC, dI)) (ci := 7) (v := .int (vMP + 1)) (C := qR_M) (T := qT_M) (N := 23) hx hb hg qi_M hown hK hP 0 rfl rfl 1 (by decide) (hg _ mw_575) (fun _ h9 => h9) rfl qd_M_production_217 ?_
      refine lv_iconst (v := 1) hx hb qd_M_production_220 (by decide) ?_
      refine lv_isub hx hb qd_M_production_221 ?_
      exact W.iret (v := (vMP + 1) - 1) hx hb hr (fun t ht hW => ⟨⟨_, ((vMP + 1) - 1, u_131.2, vMP + 1, 0, upd vMh vMP.toNatClampNeg p0, upd (upd (upd vMi (3 * vMP).toNatClampNeg p1) ((3 * vMP) + 1).toNatClampNeg p2) ((3 * vMP) + 2).toNatClampNeg p3, upd vMc vMP.toNatClampNeg p4, vMs), rfl, ⟨hres.symm, rfl⟩, ⟨by rw [ht]; exact hP, va_K.moved hW.alike hK, x_N hN hW⟩, hD⟩, hS.F ht⟩) hS.2.2 qd_M_production_222
    have hres := hres.trans (if_neg c_134)
    have ho := (if_neg c_134).mp ho
    refine lv_iconst (v := 0) hx hb qd_M_production_137 (by decide) ?_
    exact W.iret (v := 0) hx hb hr (fun t ht hW => ⟨⟨_, (0, u_131.2, vMP, vMB, vMh, vMi, vMc, vMs), rfl, ⟨hres.symm, rfl⟩, ⟨by rw [ht]; exact hP, va_K.moved hW.alike hK, x_N hN hW⟩, hD⟩, hS.F ht⟩) hS.2.2 qd_M_production_138
  have hres := hres.trans (if_neg c_57)
  have ho := (if_neg c_57).mp ho
  refine lv_iconst (v := 1) hx hb qd_M_production_60 (by decide) ?_
  refine lv_goto (tgt := 65) hx hb qd_M_production_61 (by decide) ?_
  refine lv_istore (lv' := [(6, .int 1), (0, .ref aM), (1, .int p0), (2, .int p1), (3, .int p2), (4, .int p3), (5, .int p4)]) hx hb qd_M_production_65 hl (by decide) rfl (fun ls hl => ?_)
  refine lv_iload hx hb qd_M_production_67 (lv_at hl 0 rfl) ?_
  refine lv_if_eq (tgt := 96) hx hb qd_M_production_69 (by decide) (fun c_69 => ?_) (fun c_69 => ?_)
  · exact absurd c_69 (by decide)
  refine lv_iload_n hx hb qd_M_production_72 rfl (lv_at hl 3 rfl) ?_
  refine lv_bipush (v := 10) hx hb qd_M_production_73 (by decide) ?_
  refine lv_icmp_ge (tgt := 96) hx hb qd_M_production_75 (by decide) (fun c_75 => ?_) (fun c_75 => ?_)
  · have hres := hres.trans (if_pos c_75)
    have ho := (if_pos c_75).mp ho
    refine lv_iconst (v := 0) hx hb qd_M_production_96 (by decide) ?_
    refine lv_istore (lv' := [(7, .int 0), (6, .int 1), (0, .ref aM), (1, .int p0), (2, .int p1), (3, .int p2), (4, .int p3), (5, .int p4)]) hx hb qd_M_production_97 hl (by decide) rfl (fun ls hl => ?_)
    refine lv_aload_n hx hb qd_M_production_99 rfl (lv_at hl 2 rfl) ?_
    refine lv_iload hx hb qd_M_production_100 (lv_at hl 1 rfl) ?_
    refine lv_if_ne (tgt := 109) hx hb qd_M_production_102 (by decide) (fun c_102 => ?_) (fun c_102 => ?_)
    rotate_left
    · exact absurd c_102 (by decide)
    refine lv_iconst (v := 0) hx hb qd_M_production_109 (by decide) ?_
    refine lv_iload hx hb qd_M_production_110 (lv_at hl 1 rfl) ?_
    refine lv_if_eq (tgt := 128) hx hb qd_M_production_112 (by decide) (fun c_112 => ?_) (fun c_112 => ?_)
    · exact absurd c_112 (by decide)
    refine lv_aload_n hx hb qd_M_production_115 rfl (lv_at hl 2 rfl) ?_
    refine va_get (D := (dC, dI)) (ci := 7) (v := .int vMP) (C := qR_M) (T := qT_M) (N := 23) hx hb hg qi_M hown hK hP 0 rfl rfl 1 (by decide) (hg _ mw_575) (fun _ h9 => h9) rfl qd_M_production_116 ?_
    refine lv_bipush (v := 24) hx hb qd_M_production_119 (by decide) ?_
    refine lv_icmp_ne (tgt := 128) hx hb qd_M_production_121 (by decide) (fun c_121 => ?_) (fun c_121 => ?_)
    · have hres := hres.trans (if_neg c_121)
      have ho := (if_neg c_121).mp ho
      refine lv_iconst (v := 0) hx hb qd_M_production_128 (by decide) ?_
      refine lv_iload hx hb qd_M_production_129 (lv_at hl 0 rfl) ?_
      refine xm_Vi (As := [.int 0, .int 0, .int 0]) (rest := []) (w1 := fun (u_131 : Int32 × Int32) => [(aM, .inr (7, [.int u_131.2, .int vMP, .ref aMh, .ref aMi, .ref aMc, .int vMK, .ref aMt, .int vMB, .ref aMn, .ref aMl, .ref aMs, .int vMD, .ref aMd, .int vME, .ref aMe, .int vMO, .ref aMo, .int vMF, .int vMS, .ref aMw, .ref aMu, .int vMX, .int vMW]))]) (w2 := fun (u_131 : Int32 × Int32) => [(aM, .inr (7, [.int u_131.2, .int vMP, .ref aMh, .ref aMi, .ref aMc, .int vMK, .ref aMt, .int vMB, .ref aMn, .ref aMl, .ref aMs, .int vMD, .ref aMd, .int vME, .ref aMe, .int vMO, .ref aMo, .int vMF, .int vMS, .ref aMw, .ref aMu, .int vMX, .int vMW])), (aMh, .inl (cA, 24, .inl (vMh))), (aMi, .inl (cA, 72, .inl (vMi))), (aMc, .inl (cA, 24, .inl (vMc))), (aMs, .inl (cZ, 100, .inl (vMs)))]) ⟨hx, hb, hml, hown, hg⟩ (c_M_refuse l dC dI cA cZ aM aMh aMi aMc aMt aMn aMl aMs aMd aMe aMo aMw aMu _ vMT vMP vMK vMB vMD vME vMO vMF vMS vMX vMW 0 0 0) (cwV 3 hg (q_gV mw_642 mw_643 mw_771 mw_8 mw_644) rfl rfl rfl qh_M_refuse ⟨Nat.le_of_ble_eq_true rfl, Nat.le_of_ble_eq_true rfl⟩) hN hK hP hD hS hA [0] [1, 2, 3, 4] rfl rfl (by decide) (by decide) (by decide) [4, 0, 1, 2, 3] (fun _ => rfl) (by decide) 0 7 rfl rfl rfl hl.1 rfl (Nat.le_of_ble_eq_true rfl) qd_M_production_131 ⟨Nat.zero_le _, Nat.zero_le _⟩ (fun u_131 H locs w_131 hP hD hS => ?_)
      have hP : va_P (dC, dI) vwCl [(aM, .inr (7, [.int u_131.2, .int vMP, .ref aMh, .ref aMi, .ref aMc, .int vMK, .ref aMt, .int vMB, .ref aMn, .ref aMl, .ref aMs, .int vMD, .ref aMd, .int vME, .ref aMe, .int vMO, .ref aMo, .int vMF, .int vMS, .ref aMw, .ref aMu, .int vMX, .int vMW])), (aMh, .inl (cA, 24, .inl (vMh))), (aMi, .inl (cA, 72, .inl (vMi))), (aMc, .inl (cA, 24, .inl (vMc))), (aMs, .inl (cZ, 100, .inl (vMs)))] H := hP
      have hD : va_D A [(aM, .inr (7, [.int u_131.2, .int vMP, .ref aMh, .ref aMi, .ref aMc, .int vMK, .ref aMt, .int vMB, .ref aMn, .ref aMl, .ref aMs, .int vMD, .ref aMd, .int vME, .ref aMe, .int vMO, .ref aMo, .int vMF, .int vMS, .ref aMw, .ref aMu, .int vMX, .int vMW])), (aMh, .inl (cA, 24, .inl (vMh))), (aMi, .inl (cA, 72, .inl (vMi))), (aMc, .inl (cA, 24, .inl (vMc))), (aMs, .inl (cZ, 100, .inl (vMs)))] := hD
      have hres := hres.trans (bd_eq w_131)
      have ho := (bd_eq w_131).mp ho
      refine lv_if_eq (tgt := 139) hx hb qd_M_production_134 (by decide) (fun c_134 => ?_) (fun c_134 => ?_)
      · have hres := hres.trans (if_pos c_134)
        have ho := (if_pos c_134).mp ho
        refine lv_aload_n hx hb qd_M_production_139 rfl (lv_at hl 2 rfl) ?_
        refine va_get (D := (dC, dI)) (ci := 7) (v := .ref aMh) (C := qR_M) (T := qT_M) (N := 23) hx hb hg qi_M hown hK hP 0 rfl rfl 2 (by decide) (hg _ mw_576) (fun _ h9 => h9) rfl qd_M_production_140 ?_
        refine lv_aload_n hx hb qd_M_production_143 rfl (lv_at hl 2 rfl) ?_
        refine va_get (D := (dC, dI)) (ci := 7) (v := .int vMP) (C := qR_M) (T := qT_M) (N := 23) hx hb hg qi_M hown hK hP 0 rfl rfl 1 (by decide) (hg _ mw_575) (fun _ h9 => h9) rfl qd_M_production_144 ?_
        refine lv_iload_n hx hb qd_M_production_147 rfl (lv_at hl 3 rfl) ?_
        obtain ⟨g_148, ho⟩ := ho
        refine va_iast hx hb hK hP hD hS 1 0 rfl rfl g_148 qd_M_production_148 (fun H locs hP hD hS => ?_)
        have hP : va_P (dC, dI) vwCl [(aM, .inr (7, [.int u_131.2, .int vMP, .ref aMh, .ref aMi, .ref aMc, .int vMK, .ref aMt, .int vMB, .ref aMn, .ref aMl, .ref aMs, .int vMD, .ref aMd, .int vME, .ref aMe, .int vMO, .ref aMo, .int vMF, .int vMS, .ref aMw, .ref aMu, .int vMX, .int vMW])), (aMh, .inl (cA, 24, .inl (upd vMh vMP.toNatClampNeg p0))), (aMi, .inl (cA, 72, .inl (vMi))), (aMc, .inl (cA, 24, .inl (vMc))), (aMs, .inl (cZ, 100, .inl (vMs)))] H := hP
        have hD : va_D A [(aM, .inr (7, [.int u_131.2, .int vMP, .ref aMh, .ref aMi, .ref aMc, .int vMK, .ref aMt, .int vMB, .ref aMn, .ref aMl, .ref aMs, .int vMD, .ref aMd, .int vME, .ref aMe, .int vMO, .ref aMo, .int vMF, .int vMS, .ref aMw, .ref aMu, .int vMX, .int vMW])), (aMh, .inl (cA, 24, .inl (upd vMh vMP.toNatClampNeg p0))), (aMi, .inl (cA, 72, .inl (vMi))), (aMc, .inl (cA, 24, .inl (vMc))), (aMs, .inl (cZ, 100, .inl (vMs)))] := hD
        refine lv_aload_n hx hb qd_M_production_149 rfl (lv_at hl 2 rfl) ?_
        refine va_get (D := (dC, dI)) (ci := 7) (v := .ref aMi) (C := qR_M) (T := qT_M) (N := 23) hx hb hg qi_M hown hK hP 0 rfl rfl 3 (by decide) (hg _ mw_577) (fun _ h9 => h9) rfl qd_M_production_150 ?_
        refine lv_iconst (v := 3) hx hb qd_M_production_153 (by decide) ?_
        refine lv_aload_n hx hb qd_M_production_154 rfl (lv_at hl 2 rfl) ?_
        refine va_get (D := (dC, dI)) (ci := 7) (v := .int vMP) (C := qR_M) (T := qT_M) (N := 23) hx hb hg qi_M hown hK hP 0 rfl rfl 1 (by decide) (hg _ mw_575) (fun _ h9 => h9) rfl qd_M_production_155 ?_
        refine lv_imul hx hb qd_M_production_158 ?_
        refine lv_iload_n hx hb qd_M_production_159 rfl (lv_at hl 4 rfl) ?_
        obtain ⟨g_160, ho⟩ := ho
        refine va_iast hx hb hK hP hD hS 2 0 rfl rfl g_160 qd_M_production_160 (fun H locs hP hD hS => ?_)
        have hP : va_P (dC, dI) vwCl [(aM, .inr (7, [.int u_131.2, .int vMP, .ref aMh, .ref aMi, .ref aMc, .int vMK, .ref aMt, .int vMB, .ref aMn, .ref aMl, .ref aMs, .int vMD, .ref aMd, .int vME, .ref aMe, .int vMO, .ref aMo, .int vMF, .int vMS, .ref aMw, .ref aMu, .int vMX, .int vMW])), (aMh, .inl (cA, 24, .inl (upd vMh vMP.toNatClampNeg p0))), (aMi, .inl (cA, 72, .inl (upd vMi (3 * vMP).toNatClampNeg p1))), (aMc, .inl (cA, 24, .inl (vMc))), (aMs, .inl (cZ, 100, .inl (vMs)))] H := hP
        have hD : va_D A [(aM, .inr (7, [.int u_131.2, .int vMP, .ref aMh, .ref aMi, .ref aMc, .int vMK, .ref aMt, .int vMB, .ref aMn, .ref aMl, .ref aMs, .int vMD, .ref aMd, .int vME, .ref aMe, .int vMO, .ref aMo, .int vMF, .int vMS, .ref aMw, .ref aMu, .int vMX, .int vMW])), (aMh, .inl (cA, 24, .inl (upd vMh vMP.toNatClampNeg p0))), (aMi, .inl (cA, 72, .inl (upd vMi (3 * vMP).toNatClampNeg p1))), (aMc, .inl (cA, 24, .inl (vMc))), (aMs, .inl (cZ, 100, .inl (vMs)))] := hD
        refine lv_aload_n hx hb qd_M_production_161 rfl (lv_at hl 2 rfl) ?_
        refine va_get (D := (dC, dI)) (ci := 7) (v := .ref aMi) (C := qR_M) (T := qT_M) (N := 23) hx hb hg qi_M hown hK hP 0 rfl rfl 3 (by decide) (hg _ mw_577) (fun _ h9 => h9) rfl qd_M_production_162 ?_
        refine lv_iconst (v := 3) hx hb qd_M_production_165 (by decide) ?_
        refine lv_aload_n hx hb qd_M_production_166 rfl (lv_at hl 2 rfl) ?_
        refine va_get (D := (dC, dI)) (ci := 7) (v := .int vMP) (C := qR_M) (T := qT_M) (N := 23) hx hb hg qi_M hown hK hP 0 rfl rfl 1 (by decide) (hg _ mw_575) (fun _ h9 => h9) rfl qd_M_production_167 ?_
        refine lv_imul hx hb qd_M_production_170 ?_
        refine lv_iconst (v := 1) hx hb qd_M_production_171 (by decide) ?_
        refine lv_iadd hx hb qd_M_production_172 ?_
        refine lv_iload_n hx hb qd_M_production_173 rfl (lv_at hl 5 rfl) ?_
        obtain ⟨g_174, ho⟩ := ho
        refine va_iast hx hb hK hP hD hS 2 0 rfl rfl g_174 qd_M_production_174 (fun H locs hP hD hS => ?_)
        have hP : va_P (dC, dI) vwCl [(aM, .inr (7, [.int u_131.2, .int vMP, .ref aMh, .ref aMi, .ref aMc, .int vMK, .ref aMt, .int vMB, .ref aMn, .ref aMl, .ref aMs, .int vMD, .ref aMd, .int vME, .ref aMe, .int vMO, .ref aMo, .int vMF, .int vMS, .ref aMw, .ref aMu, .int vMX, .int vMW])), (aMh, .inl (cA, 24, .inl (upd vMh vMP.toNatClampNeg p0))), (aMi, .inl (cA, 72, .inl (upd (upd vMi (3 * vMP).toNatClampNeg p1) ((3 * vMP) + 1).toNatClampNeg p2))), (aMc, .inl (cA, 24, .inl (vMc))), (aMs, .inl (cZ, 100, .inl (vMs)))] H := hP
        have hD : va_D A [(aM, .inr (7, [.int u_131.2, .int vMP, .ref aMh, .ref aMi, .ref aMc, .int vMK, .ref aMt, .int vMB, .ref aMn, .ref aMl, .ref aMs, .int vMD, .ref aMd, .int vME, .ref aMe, .int vMO, .ref aMo, .int vMF, .int vMS, .ref aMw, .ref aMu, .int vMX, .int vMW])), (aMh, .inl (cA, 24, .inl (upd vMh vMP.toNatClampNeg p0))), (aMi, .inl (cA, 72, .inl (upd (upd vMi (3 * vMP).toNatClampNeg p1) ((3 * vMP) + 1).toNatClampNeg p2))), (aMc, .inl (cA, 24, .inl (vMc))), (aMs, .inl (cZ, 100, .inl (vMs)))] := hD
        refine lv_aload_n hx hb qd_M_production_175 rfl (lv_at hl 2 rfl) ?_
        refine va_get (D := (dC, dI)) (ci := 7) (v := .ref aMi) (C := qR_M) (T := qT_M) (N := 23) hx hb hg qi_M hown hK hP 0 rfl rfl 3 (by decide) (hg _ mw_577) (fun _ h9 => h9) rfl qd_M_production_176 ?_
        refine lv_iconst (v := 3) hx hb qd_M_production_179 (by decide) ?_
        refine lv_aload_n hx hb qd_M_production_180 rfl (lv_at hl 2 rfl) ?_
        refine va_get (D := (dC, dI)) (ci := 7) (v := .int vMP) (C := qR_M) (T := qT_M) (N := 23) hx hb hg qi_M hown hK hP 0 rfl rfl 1 (by decide) (hg _ mw_575) (fun _ h9 => h9) rfl qd_M_production_181 ?_
        refine lv_imul hx hb qd_M_production_184 ?_
        refine lv_iconst (v := 2) hx hb qd_M_production_185 (by decide) ?_
        refine lv_iadd hx hb qd_M_production_186 ?_
        refine lv_iload hx hb qd_M_production_187 (lv_at hl 6 rfl) ?_
        obtain ⟨g_189, ho⟩ := ho
        refine va_iast hx hb hK hP hD hS 2 0 rfl rfl g_189 qd_M_production_189 (fun H locs hP hD hS => ?_)
        have hP : va_P (dC, dI) vwCl [(aM, .inr (7, [.int u_131.2, .int vMP, .ref aMh, .ref aMi, .ref aMc, .int vMK, .ref aMt, .int vMB, .ref aMn, .ref aMl, .ref aMs, .int vMD, .ref aMd, .int vME, .ref aMe, .int vMO, .ref aMo, .int vMF, .int vMS, .ref aMw, .ref aMu, .int vMX, .int vMW])), (aMh, .inl (cA, 24, .inl (upd vMh vMP.toNatClampNeg p0))), (aMi, .inl (cA, 72, .inl (upd (upd (upd vMi (3 * vMP).toNatClampNeg p1) ((3 * vMP) + 1).toNatClampNeg p2) ((3 * vMP) + 2).toNatClampNeg p3))), (aMc, .inl (cA, 24, .inl (vMc))), (aMs, .inl (cZ, 100, .inl (vMs)))] H := hP
        have hD : va_D A [(aM, .inr (7, [.int u_131.2, .int vMP, .ref aMh, .ref aMi, .ref aMc, .int vMK, .ref aMt, .int vMB, .ref aMn, .ref aMl, .ref aMs, .int vMD, .ref aMd, .int vME, .ref aMe, .int vMO, .ref aMo, .int vMF, .int vMS, .ref aMw, .ref aMu, .int vMX, .int vMW])), (aMh, .inl (cA, 24, .inl (upd vMh vMP.toNatClampNeg p0))), (aMi, .inl (cA, 72, .inl (upd (upd (upd vMi (3 * vMP).toNatClampNeg p1) ((3 * vMP) + 1).toNatClampNeg p2) ((3 * vMP) + 2).toNatClampNeg p3))), (aMc, .inl (cA, 24, .inl (vMc))), (aMs, .inl (cZ, 100, .inl (vMs)))] := hD
        refine lv_aload_n hx hb qd_M_production_190 rfl (lv_at hl 2 rfl) ?_
        refine va_get (D := (dC, dI)) (ci := 7) (v := .ref aMc) (C := qR_M) (T := qT_M) (N := 23) hx hb hg qi_M hown hK hP 0 rfl rfl 4 (by decide) (hg _ mw_578) (fun _ h9 => h9) rfl qd_M_production_191 ?_
        refine lv_aload_n hx hb qd_M_production_194 rfl (lv_at hl 2 rfl) ?_
        refine va_get (D := (dC, dI)) (ci := 7) (v := .int vMP) (C := qR_M) (T := qT_M) (N := 23) hx hb hg qi_M hown hK hP 0 rfl rfl 1 (by decide) (hg _ mw_575) (fun _ h9 => h9) rfl qd_M_production_195 ?_
        refine lv_iload hx hb qd_M_production_198 (lv_at hl 7 rfl) ?_
        obtain ⟨g_200, ho⟩ := ho
        refine va_iast hx hb hK hP hD hS 3 0 rfl rfl g_200 qd_M_production_200 (fun H locs hP hD hS => ?_)
        have hP : va_P (dC, dI) vwCl [(aM, .inr (7, [.int u_131.2, .int vMP, .ref aMh, .ref aMi, .ref aMc, .int vMK, .ref aMt, .int vMB, .ref aMn, .ref aMl, .ref aMs, .int vMD, .ref aMd, .int vME, .ref aMe, .int vMO, .ref aMo, .int vMF, .int vMS, .ref aMw, .ref aMu, .int vMX, .int vMW])), (aMh, .inl (cA, 24, .inl (upd vMh vMP.toNatClampNeg p0))), (aMi, .inl (cA, 72, .inl (upd (upd (upd vMi (3 * vMP).toNatClampNeg p1) ((3 * vMP) + 1).toNatClampNeg p2) ((3 * vMP) + 2).toNatClampNeg p3))), (aMc, .inl (cA, 24, .inl (upd vMc vMP.toNatClampNeg p4))), (aMs, .inl (cZ, 100, .inl (vMs)))] H := hP
        have hD : va_D A [(aM, .inr (7, [.int u_131.2, .int vMP, .ref aMh, .ref aMi, .ref aMc, .int vMK, .ref aMt, .int vMB, .ref aMn, .ref aMl, .ref aMs, .int vMD, .ref aMd, .int vME, .ref aMe, .int vMO, .ref aMo, .int vMF, .int vMS, .ref aMw, .ref aMu, .int vMX, .int vMW])), (aMh, .inl (cA, 24, .inl (upd vMh vMP.toNatClampNeg p0))), (aMi, .inl (cA, 72, .inl (upd (upd (upd vMi (3 * vMP).toNatClampNeg p1) ((3 * vMP) + 1).toNatClampNeg p2) ((3 * vMP) + 2).toNatClampNeg p3))), (aMc, .inl (cA, 24, .inl (upd vMc vMP.toNatClampNeg p4))), (aMs, .inl (cZ, 100, .inl (vMs)))] := hD
        refine lv_aload_n hx hb qd_M_production_201 rfl (lv_at hl 2 rfl) ?_
        refine lv_dup hx hb qd_M_production_202 rfl ?_
        refine va_get (D := (dC, dI)) (ci := 7) (v := .int vMP) (C := qR_M) (T := qT_M) (N := 23) hx hb hg qi_M hown hK hP 0 rfl rfl 1 (by decide) (hg _ mw_575) (fun _ h9 => h9) rfl qd_M_production_203 ?_
        refine lv_iconst (v := 1) hx hb qd_M_production_206 (by decide) ?_
        refine lv_iadd hx hb qd_M_production_207 ?_
        refine va_put (D := (dC, dI)) (ci := 7) (v := .int (vMP + 1)) (ty := .int) (C := qR_M) (T := qT_M) (N := 23) hx hb hg qi_M qt_M qk_M qn_M hown hK hP hD hS 0 rfl rfl 1 (by decide) (hg _ mw_575) (fun _ h9 => h9) rfl (by decide +kernel) rfl rfl (Nat.le_of_ble_eq_true rfl) qd_M_production_208 (fun H locs hP hD hS => ?_)
        have hP : va_P (dC, dI) vwCl [(aM, .inr (7, [.int u_131.2, .int (vMP + 1), .ref aMh, .ref aMi, .ref aMc, .int vMK, .ref aMt, .int vMB, .ref aMn, .ref aMl, .ref aMs, .int vMD, .ref aMd, .int vME, .ref aMe, .int vMO, .ref aMo, .int vMF, .int vMS, .ref aMw, .ref aMu, .int vMX, .int vMW])), (aMh, .inl (cA, 24, .inl (upd vMh vMP.toNatClampNeg p0))), (aMi, .inl (cA, 72, .inl (upd (upd (upd vMi (3 * vMP).toNatClampNeg p1) ((3 * vMP) + 1).toNatClampNeg p2) ((3 * vMP) + 2).toNatClampNeg p3))), (aMc, .inl (cA, 24, .inl (upd vMc vMP.toNatClampNeg p4))), (aMs, .inl (cZ, 100, .inl (vMs)))] H := hP
        have hD : va_D A [(aM, .inr (7, [.int u_131.2, .int (vMP + 1), .ref aMh, .ref aMi, .ref aMc, .int vMK, .ref aMt, .int vMB, .ref aMn, .ref aMl, .ref aMs, .int vMD, .ref aMd, .int vME, .ref aMe, .int vMO, .ref aMo, .int vMF, .int vMS, .ref aMw, .ref aMu, .int vMX, .int vMW])), (aMh, .inl (cA, 24, .inl (upd vMh vMP.toNatClampNeg p0))), (aMi, .inl (cA, 72, .inl (upd (upd (upd vMi (3 * vMP).toNatClampNeg p1) ((3 * vMP) + 1).toNatClampNeg p2) ((3 * vMP) + 2).toNatClampNeg p3))), (aMc, .inl (cA, 24, .inl (upd vMc vMP.toNatClampNeg p4))), (aMs, .inl (cZ, 100, .inl (vMs)))] := hD
        refine lv_aload_n hx hb qd_M_production_211 rfl (lv_at hl 2 rfl) ?_
        refine lv_iconst (v := 0) hx hb qd_M_production_212 (by decide) ?_
        refine va_put (D := (dC, dI)) (ci := 7) (v := .int 0) (ty := .boolean) (C := qR_M) (T := qT_M) (N := 23) hx hb hg qi_M qt_M qk_M qn_M hown hK hP hD hS 0 rfl rfl 7 (by decide) (hg _ mw_581) (fun _ h9 => h9) rfl (by decide +kernel) rfl rfl (Nat.le_of_ble_eq_true rfl) qd_M_production_213 (fun H locs hP hD hS => ?_)
        have hP : va_P (dC, dI) vwCl [(aM, .inr (7, [.int u_131.2, .int (vMP + 1), .ref aMh, .ref aMi, .ref aMc, .int vMK, .ref aMt, .int 0, .ref aMn, .ref aMl, .ref aMs, .int vMD, .ref aMd, .int vME, .ref aMe, .int vMO, .ref aMo, .int vMF, .int vMS, .ref aMw, .ref aMu, .int vMX, .int vMW])), (aMh, .inl (cA, 24, .inl (upd vMh vMP.toNatClampNeg p0))), (aMi, .inl (cA, 72, .inl (upd (upd (upd vMi (3 * vMP).toNatClampNeg p1) ((3 * vMP) + 1).toNatClampNeg p2) ((3 * vMP) + 2).toNatClampNeg p3))), (aMc, .inl (cA, 24, .inl (upd vMc vMP.toNatClampNeg p4))), (aMs, .inl (cZ, 100, .inl (vMs)))] H := hP
        have hD : va_D A [(aM, .inr (7, [.int u_131.2, .int (vMP + 1), .ref aMh, .ref aMi, .ref aMc, .int vMK, .ref aMt, .int 0, .ref aMn, .ref aMl, .ref aMs, .int vMD, .ref aMd, .int vME, .ref aMe, .int vMO, .ref aMo, .int vMF, .int vMS, .ref aMw, .ref aMu, .int vMX, .int vMW])), (aMh, .inl (cA, 24, .inl (upd vMh vMP.toNatClampNeg p0))), (aMi, .inl (cA, 72, .inl (upd (upd (upd vMi (3 * vMP).toNatClampNeg p1) ((3 * vMP) + 1).toNatClampNeg p2) ((3 * vMP) + 2).toNatClampNeg p3))), (aMc, .inl (cA, 24, .inl (upd vMc vMP.toNatClampNeg p4))), (aMs, .inl (cZ, 100, .inl (vMs)))] := hD
        refine lv_aload_n hx hb qd_M_production_216 rfl (lv_at hl 2 rfl) ?_
        refine va_get (D := (dC, dI)) (ci := 7) (v := .int (vMP + 1)) (C := qR_M) (T := qT_M) (N := 23) hx hb hg qi_M hown hK hP 0 rfl rfl 1 (by decide) (hg _ mw_575) (fun _ h9 => h9) rfl qd_M_production_217 ?_
        refine lv_iconst (v := 1) hx hb qd_M_production_220 (by decide) ?_
        refine lv_isub hx hb qd_M_production_221 ?_
        exact W.iret (v := (vMP + 1) - 1) hx hb hr (fun t ht hW => ⟨⟨_, ((vMP + 1) - 1, u_131.2, vMP + 1, 0, upd vMh vMP.toNatClampNeg p0, upd (upd (upd vMi (3 * vMP).toNatClampNeg p1) ((3 * vMP) + 1).toNatClampNeg p2) ((3 * vMP) + 2).toNatClampNeg p3, upd vMc vMP.toNatClampNeg p4, vMs), rfl, ⟨hres.symm, rfl⟩, ⟨by rw [ht]; exact hP, va_K.moved hW.alike hK, x_N hN hW⟩, hD⟩, hS.F ht⟩) hS.2.2 qd_M_production_222
      have hres := hres.trans (if_neg c_134)
      have ho := (if_neg c_134).mp ho
      refine lv_iconst (v := 0) hx hb qd_M_production_137 (by decide) ?_
      exact W.iret (v := 0) hx hb hr (fun t ht hW => ⟨⟨_, (0, u_131.2, vMP, vMB, vMh, vMi, vMc, vMs), rfl, ⟨hres.symm, rfl⟩, ⟨by rw [ht]; exact hP, va_K.moved hW.alike hK, x_N hN hW⟩, hD⟩, hS.F ht⟩) hS.2.2 qd_M_production_138
    have hres := hres.trans (if_pos c_121)
    have ho := (if_pos c_121).mp ho
    refine lv_iconst (v := 1) hx hb qd_M_production_124 (by decide) ?_
    refine lv_goto (tgt := 129) hx hb qd_M_production_125 (by decide) ?_
    refine lv_iload hx hb qd_M_production_129 (lv_at hl 0 rfl) ?_
    refine xm_Vi (As := [.int 0, .int 1, .int 0]) (rest := []) (w1 := fun (u_131 : Int32 × Int32) => [(aM, .inr (7, [.int u_131.2, .int vMP, .ref aMh, .ref aMi, .ref aMc, .int vMK, .ref aMt, .int vMB, .ref aMn, .ref aMl, .ref aMs, .int vMD, .ref aMd, .int vME, .ref aMe, .int vMO, .ref aMo, .int vMF, .int vMS, .ref aMw, .ref aMu, .int vMX, .int vMW]))]) (w2 := fun (u_131 : Int32 × Int32) => [(aM, .inr (7, [.int u_131.2, .int vMP, .ref aMh, .ref aMi, .ref aMc, .int vMK, .ref aMt, .int vMB, .ref aMn, .ref aMl, .ref aMs, .int vMD, .ref aMd, .int vME, .ref aMe, .int vMO, .ref aMo, .int vMF, .int vMS, .ref aMw, .ref aMu, .int vMX, .int vMW])), (aMh, .inl (cA, 24, .inl (vMh))), (aMi, .inl (cA, 72, .inl (vMi))), (aMc, .inl (cA, 24, .inl (vMc))), (aMs, .inl (cZ, 100, .inl (vMs)))]) ⟨hx, hb, hml, hown, hg⟩ (c_M_refuse l dC dI cA cZ aM aMh aMi aMc aMt aMn aMl aMs aMd aMe aMo aMw aMu _ vMT vMP vMK vMB vMD vME vMO vMF vMS vMX vMW 0 1 0) (cwV 3 hg (q_gV mw_642 mw_643 mw_771 mw_8 mw_644) rfl rfl rfl qh_M_refuse ⟨Nat.le_of_ble_eq_true rfl, Nat.le_of_ble_eq_true rfl⟩) hN hK hP hD hS hA [0] [1, 2, 3, 4] rfl rfl (by decide) (by decide) (by decide) [4, 0, 1, 2, 3] (fun _ => rfl) (by decide) 0 7 rfl rfl rfl hl.1 rfl (Nat.le_of_ble_eq_true rfl) qd_M_production_131 ⟨Nat.zero_le _, Nat.zero_le _⟩ (fun u_131 H locs w_131 hP hD hS => ?_)
    have hP : va_P (dC, dI) vwCl [(aM, .inr (7, [.int u_131.2, .int vMP, .ref aMh, .ref aMi, .ref aMc, .int vMK, .ref aMt, .int vMB, .ref aMn, .ref aMl, .ref aMs, .int vMD, .ref aMd, .int vME, .ref aMe, .int vMO, .ref aMo, .int vMF, .int vMS, .ref aMw, .ref aMu, .int vMX, .int vMW])), (aMh, .inl (cA, 24, .inl (vMh))), (aMi, .inl (cA, 72, .inl (vMi))), (aMc, .inl (cA, 24, .inl (vMc))), (aMs, .inl (cZ, 100, .inl (vMs)))] H := hP
    have hD : va_D A [(aM, .inr (7, [.int u_131.2, .int vMP, .ref aMh, .ref aMi, .ref aMc, .int vMK, .ref aMt, .int vMB, .ref aMn, .ref aMl, .ref aMs, .int vMD, .ref aMd, .int vME, .ref aMe, .int vMO, .ref aMo, .int vMF, .int vMS, .ref aMw, .ref aMu, .int vMX, .int vMW])), (aMh, .inl (cA, 24, .inl (vMh))), (aMi, .inl (cA, 72, .inl (vMi))), (aMc, .inl (cA, 24, .inl (vMc))), (aMs, .inl (cZ, 100, .inl (vMs)))] := hD
    have hres := hres.trans (bd_eq w_131)
    have ho := (bd_eq w_131).mp ho
    refine lv_if_eq (tgt := 139) hx hb qd_M_production_134 (by decide) (fun c_134 => ?_) (fun c_134 => ?_)
    · have hres := hres.trans (if_pos c_134)
      have ho := (if_pos c_134).mp ho
      refine lv_aload_n hx hb qd_M_production_139 rfl (lv_at hl 2 rfl) ?_
      refine va_get (D := (dC, dI)) (ci := 7) (v := .ref aMh) (C := qR_M) (T := qT_M) (N := 23) hx hb hg qi_M hown hK hP 0 rfl rfl 2 (by decide) (hg _ mw_576) (fun _ h9 => h9) rfl qd_M_production_140 ?_
      refine lv_aload_n hx hb qd_M_production_143 rfl (lv_at hl 2 rfl) ?_
      refine va_get (D := (dC, dI)) (ci := 7) (v := .int vMP) (C := qR_M) (T := qT_M) (N := 23) hx hb hg qi_M hown hK hP 0 rfl rfl 1 (by decide) (hg _ mw_575) (fun _ h9 => h9) rfl qd_M_production_144 ?_
      refine lv_iload_n hx hb qd_M_production_147 rfl (lv_at hl 3 rfl) ?_
      obtain ⟨g_148, ho⟩ := ho
      refine va_iast hx hb hK hP hD hS 1 0 rfl rfl g_148 qd_M_production_148 (fun H locs hP hD hS => ?_)
      have hP : va_P (dC, dI) vwCl [(aM, .inr (7, [.int u_131.2, .int vMP, .ref aMh, .ref aMi, .ref aMc, .int vMK, .ref aMt, .int vMB, .ref aMn, .ref aMl, .ref aMs, .int vMD, .ref aMd, .int vME, .ref aMe, .int vMO, .ref aMo, .int vMF, .int vMS, .ref aMw, .ref aMu, .int vMX, .int vMW])), (aMh, .inl (cA, 24, .inl (upd vMh vMP.toNatClampNeg p0))), (aMi, .inl (cA, 72, .inl (vMi))), (aMc, .inl (cA, 24, .inl (vMc))), (aMs, .inl (cZ, 100, .inl (vMs)))] H := hP
      have hD : va_D A [(aM, .inr (7, [.int u_131.2, .int vMP, .ref aMh, .ref aMi, .ref aMc, .int vMK, .ref aMt, .int vMB, .ref aMn, .ref aMl, .ref aMs, .int vMD, .ref aMd, .int vME, .ref aMe, .int vMO, .ref aMo, .int vMF, .int vMS, .ref aMw, .ref aMu, .int vMX, .int vMW])), (aMh, .inl (cA, 24, .inl (upd vMh vMP.toNatClampNeg p0))), (aMi, .inl (cA, 72, .inl (vMi))), (aMc, .inl (cA, 24, .inl (vMc))), (aMs, .inl (cZ, 100, .inl (vMs)))] := hD
      refine lv_aload_n hx hb qd_M_production_149 rfl (lv_at hl 2 rfl) ?_
      refine va_get (D := (dC, dI)) (ci := 7) (v := .ref aMi) (C := qR_M) (T := qT_M) (N := 23) hx hb hg qi_M hown hK hP 0 rfl rfl 3 (by decide) (hg _ mw_577) (fun _ h9 => h9) rfl qd_M_production_150 ?_
      refine lv_iconst (v := 3) hx hb qd_M_production_153 (by decide) ?_
      refine lv_aload_n hx hb qd_M_production_154 rfl (lv_at hl 2 rfl) ?_
      refine va_get (D := (dC, dI)) (ci := 7) (v := .int vMP) (C := qR_M) (T := qT_M) (N := 23) hx hb hg qi_M hown hK hP 0 rfl rfl 1 (by decide) (hg _ mw_575) (fun _ h9 => h9) rfl qd_M_production_155 ?_
      refine lv_imul hx hb qd_M_production_158 ?_
      refine lv_iload_n hx hb qd_M_production_159 rfl (lv_at hl 4 rfl) ?_
      obtain ⟨g_160, ho⟩ := ho
      refine va_iast hx hb hK hP hD hS 2 0 rfl rfl g_160 qd_M_production_160 (fun H locs hP hD hS => ?_)
      have hP : va_P (dC, dI) vwCl [(aM, .inr (7, [.int u_131.2, .int vMP, .ref aMh, .ref aMi, .ref aMc, .int vMK, .ref aMt, .int vMB, .ref aMn, .ref aMl, .ref aMs, .int vMD, .ref aMd, .int vME, .ref aMe, .int vMO, .ref aMo, .int vMF, .int vMS, .ref aMw, .ref aMu, .int vMX, .int vMW])), (aMh, .inl (cA, 24, .inl (upd vMh vMP.toNatClampNeg p0))), (aMi, .inl (cA, 72, .inl (upd vMi (3 * vMP).toNatClampNeg p1))), (aMc, .inl (cA, 24, .inl (vMc))), (aMs, .inl (cZ, 100, .inl (vMs)))] H := hP
      have hD : va_D A [(aM, .inr (7, [.int u_131.2, .int vMP, .ref aMh, .ref aMi, .ref aMc, .int vMK, .ref aMt, .int vMB, .ref aMn, .ref aMl, .ref aMs, .int vMD, .ref aMd, .int vME, .ref aMe, .int vMO, .ref aMo, .int vMF, .int vMS, .ref aMw, .ref aMu, .int vMX, .int vMW])), (aMh, .inl (cA, 24, .inl (upd vMh vMP.toNatClampNeg p0))), (aMi, .inl (cA, 72, .inl (upd vMi (3 * vMP).toNatClampNeg p1))), (aMc, .inl (cA, 24, .inl (vMc))), (aMs, .inl (cZ, 100, .inl (vMs)))] := hD
      refine lv_aload_n hx hb qd_M_production_161 rfl (lv_at hl 2 rfl) ?_
      refine va_get (D := (dC, dI)) (ci := 7) (v := .ref aMi) (C := qR_M) (T := qT_M) (N := 23) hx hb hg qi_M hown hK hP 0 rfl rfl 3 (by decide) (hg _ mw_577) (fun _ h9 => h9) rfl qd_M_production_162 ?_
      refine lv_iconst (v := 3) hx hb qd_M_production_165 (by decide) ?_
      refine lv_aload_n hx hb qd_M_production_166 rfl (lv_at hl 2 rfl) ?_
      refine va_get (D := (dC, dI)) (ci := 7) (v := .int vMP) (C := qR_M) (T := qT_M) (N := 23) hx hb hg qi_M hown hK hP 0 rfl rfl 1 (by decide) (hg _ mw_575) (fun _ h9 => h9) rfl qd_M_production_167 ?_
      refine lv_imul hx hb qd_M_production_170 ?_
      refine lv_iconst (v := 1) hx hb qd_M_production_171 (by decide) ?_
      refine lv_iadd hx hb qd_M_production_172 ?_
      refine lv_iload_n hx hb qd_M_production_173 rfl (lv_at hl 5 rfl) ?_
      obtain ⟨g_174, ho⟩ := ho
      refine va_iast hx hb hK hP hD hS 2 0 rfl rfl g_174 qd_M_production_174 (fun H locs hP hD hS => ?_)
      have hP : va_P (dC, dI) vwCl [(aM, .inr (7, [.int u_131.2, .int vMP, .ref aMh, .ref aMi, .ref aMc, .int vMK, .ref aMt, .int vMB, .ref aMn, .ref aMl, .ref aMs, .int vMD, .ref aMd, .int vME, .ref aMe, .int vMO, .ref aMo, .int vMF, .int vMS, .ref aMw, .ref aMu, .int vMX, .int vMW])), (aMh, .inl (cA, 24, .inl (upd vMh vMP.toNatClampNeg p0))), (aMi, .inl (cA, 72, .inl (upd (upd vMi (3 * vMP).toNatClampNeg p1) ((3 * vMP) + 1).toNatClampNeg p2))), (aMc, .inl (cA, 24, .inl (vMc))), (aMs, .inl (cZ, 100, .inl (vMs)))] H := hP
      have hD : va_D A [(aM, .inr (7, [.int u_131.2, .int vMP, .ref aMh, .ref aMi, .ref aMc, .int vMK, .ref aMt, .int vMB, .ref aMn, .ref aMl, .ref aMs, .int vMD, .ref aMd, .int vME, .ref aMe, .int vMO, .ref aMo, .int vMF, .int vMS, .ref aMw, .ref aMu, .int vMX, .int vMW])), (aMh, .inl (cA, 24, .inl (upd vMh vMP.toNatClampNeg p0))), (aMi, .inl (cA, 72, .inl (upd (upd vMi (3 * vMP).toNatClampNeg p1) ((3 * vMP) + 1).toNatClampNeg p2))), (aMc, .inl (cA, 24, .inl (vMc))), (aMs, .inl (cZ, 100, .inl (vMs)))] := hD
      refine lv_aload_n hx hb qd_M_production_175 rfl (lv_at hl 2 rfl) ?_
      refine va_get (D := (dC, dI)) (ci := 7) (v := .ref aMi) (C := qR_M) (T := qT_M) (N := 23) hx hb hg qi_M hown hK hP 0 rfl rfl 3 (by decide) (hg _ mw_577) (fun _ h9 => h9) rfl qd_M_production_176 ?_
      refine lv_iconst (v := 3) hx hb qd_M_production_179 (by decide) ?_
      refine lv_aload_n hx hb qd_M_production_180 rfl (lv_at hl 2 rfl) ?_
      refine va_get (D := (dC, dI)) (ci := 7) (v := .int vMP) (C := qR_M) (T := qT_M) (N := 23) hx hb hg qi_M hown hK hP 0 rfl rfl 1 (by decide) (hg _ mw_575) (fun _ h9 => h9) rfl qd_M_production_181 ?_
      refine lv_imul hx hb qd_M_production_184 ?_
      refine lv_iconst (v := 2) hx hb qd_M_production_185 (by decide) ?_
      refine lv_iadd hx hb qd_M_production_186 ?_
      refine lv_iload hx hb qd_M_production_187 (lv_at hl 6 rfl) ?_
      obtain ⟨g_189, ho⟩ := ho
      refine va_iast hx hb hK hP hD hS 2 0 rfl rfl g_189 qd_M_production_189 (fun H locs hP hD hS => ?_)
      have hP : va_P (dC, dI) vwCl [(aM, .inr (7, [.int u_131.2, .int vMP, .ref aMh, .ref aMi, .ref aMc, .int vMK, .ref aMt, .int vMB, .ref aMn, .ref aMl, .ref aMs, .int vMD, .ref aMd, .int vME, .ref aMe, .int vMO, .ref aMo, .int vMF, .int vMS, .ref aMw, .ref aMu, .int vMX, .int vMW])), (aMh, .inl (cA, 24, .inl (upd vMh vMP.toNatClampNeg p0))), (aMi, .inl (cA, 72, .inl (upd (upd (upd vMi (3 * vMP).toNatClampNeg p1) ((3 * vMP) + 1).toNatClampNeg p2) ((3 * vMP) + 2).toNatClampNeg p3))), (aMc, .inl (cA, 24, .inl (vMc))), (aMs, .inl (cZ, 100, .inl (vMs)))] H := hP
      have hD : va_D A [(aM, .inr (7, [.int u_131.2, .int vMP, .ref aMh, .ref aMi, .ref aMc, .int vMK, .ref aMt, .int vMB, .ref aMn, .ref aMl, .ref aMs, .int vMD, .ref aMd, .int vME, .ref aMe, .int vMO, .ref aMo, .int vMF, .int vMS, .ref aMw, .ref aMu, .int vMX, .int vMW])), (aMh, .inl (cA, 24, .inl (upd vMh vMP.toNatClampNeg p0))), (aMi, .inl (cA, 72, .inl (upd (upd (upd vMi (3 * vMP).toNatClampNeg p1) ((3 * vMP) + 1).toNatClampNeg p2) ((3 * vMP) + 2).toNatClampNeg p3))), (aMc, .inl (cA, 24, .inl (vMc))), (aMs, .inl (cZ, 100, .inl (vMs)))] := hD
      refine lv_aload_n hx hb qd_M_production_190 rfl (lv_at hl 2 rfl) ?_
      refine va_get (D := (dC, dI)) (ci := 7) (v := .ref aMc) (C := qR_M) (T := qT_M) (N := 23) hx hb hg qi_M hown hK hP 0 rfl rfl 4 (by decide) (hg _ mw_578) (fun _ h9 => h9) rfl qd_M_production_191 ?_
      refine lv_aload_n hx hb qd_M_production_194 rfl (lv_at hl 2 rfl) ?_
      refine va_get (D := (dC, dI)) (ci := 7) (v := .int vMP) (C := qR_M) (T := qT_M) (N := 23) hx hb hg qi_M hown hK hP 0 rfl rfl 1 (by decide) (hg _ mw_575) (fun _ h9 => h9) rfl qd_M_production_195 ?_
      refine lv_iload hx hb qd_M_production_198 (lv_at hl 7 rfl) ?_
      obtain ⟨g_200, ho⟩ := ho
      refine va_iast hx hb hK hP hD hS 3 0 rfl rfl g_200 qd_M_production_200 (fun H locs hP hD hS => ?_)
      have hP : va_P (dC, dI) vwCl [(aM, .inr (7, [.int u_131.2, .int vMP, .ref aMh, .ref aMi, .ref aMc, .int vMK, .ref aMt, .int vMB, .ref aMn, .ref aMl, .ref aMs, .int vMD, .ref aMd, .int vME, .ref aMe, .int vMO, .ref aMo, .int vMF, .int vMS, .ref aMw, .ref aMu, .int vMX, .int vMW])), (aMh, .inl (cA, 24, .inl (upd vMh vMP.toNatClampNeg p0))), (aMi, .inl (cA, 72, .inl (upd (upd (upd vMi (3 * vMP).toNatClampNeg p1) ((3 * vMP) + 1).toNatClampNeg p2) ((3 * vMP) + 2).toNatClampNeg p3))), (aMc, .inl (cA, 24, .inl (upd vMc vMP.toNatClampNeg p4))), (aMs, .inl (cZ, 100, .inl (vMs)))] H := hP
      have hD : va_D A [(aM, .inr (7, [.int u_131.2, .int vMP, .ref aMh, .ref aMi, .ref aMc, .int vMK, .ref aMt, .int vMB, .ref aMn, .ref aMl, .ref aMs, .int vMD, .ref aMd, .int vME, .ref aMe, .int vMO, .ref aMo, .int vMF, .int vMS, .ref aMw, .ref aMu, .int vMX, .int vMW])), (aMh, .inl (cA, 24, .inl (upd vMh vMP.toNatClampNeg p0))), (aMi, .inl (cA, 72, .inl (upd (upd (upd vMi (3 * vMP).toNatClampNeg p1) ((3 * vMP) + 1).toNatClampNeg p2) ((3 * vMP) + 2).toNatClampNeg p3))), (aMc, .inl (cA, 24, .inl (upd vMc vMP.toNatClampNeg p4))), (aMs, .inl (cZ, 100, .inl (vMs)))] := hD
      refine lv_aload_n hx hb qd_M_production_201 rfl (lv_at hl 2 rfl) ?_
      refine lv_dup hx hb qd_M_production_202 rfl ?_
      refine va_get (D := (dC, dI)) (ci := 7) (v := .int vMP) (C := qR_M) (T := qT_M) (N := 23) hx hb hg qi_M hown hK hP 0 rfl rfl 1 (by decide) (hg _ mw_575) (fun _ h9 => h9) rfl qd_M_production_203 ?_
      refine lv_iconst (v := 1) hx hb qd_M_production_206 (by decide) ?_
      refine lv_iadd hx hb qd_M_production_207 ?_
      refine va_put (D := (dC, dI)) (ci := 7) (v := .int (vMP + 1)) (ty := .int) (C := qR_M) (T := qT_M) (N := 23) hx hb hg qi_M qt_M qk_M qn_M hown hK hP hD hS 0 rfl rfl 1 (by decide) (hg _ mw_575) (fun _ h9 => h9) rfl (by decide +kernel) rfl rfl (Nat.le_of_ble_eq_true rfl) qd_M_production_208 (fun H locs hP hD hS => ?_)
      have hP : va_P (dC, dI) vwCl [(aM, .inr (7, [.int u_131.2, .int (vMP + 1), .ref aMh, .ref aMi, .ref aMc, .int vMK, .ref aMt, .int vMB, .ref aMn, .ref aMl, .ref aMs, .int vMD, .ref aMd, .int vME, .ref aMe, .int vMO, .ref aMo, .int vMF, .int vMS, .ref aMw, .ref aMu, .int vMX, .int vMW])), (aMh, .inl (cA, 24, .inl (upd vMh vMP.toNatClampNeg p0))), (aMi, .inl (cA, 72, .inl (upd (upd (upd vMi (3 * vMP).toNatClampNeg p1) ((3 * vMP) + 1).toNatClampNeg p2) ((3 * vMP) + 2).toNatClampNeg p3))), (aMc, .inl (cA, 24, .inl (upd vMc vMP.toNatClampNeg p4))), (aMs, .inl (cZ, 100, .inl (vMs)))] H := hP
      have hD : va_D A [(aM, .inr (7, [.int u_131.2, .int (vMP + 1), .ref aMh, .ref aMi, .ref aMc, .int vMK, .ref aMt, .int vMB, .ref aMn, .ref aMl, .ref aMs, .int vMD, .ref aMd, .int vME, .ref aMe, .int vMO, .ref aMo, .int vMF, .int vMS, .ref aMw, .ref aMu, .int vMX, .int vMW])), (aMh, .inl (cA, 24, .inl (upd vMh vMP.toNatClampNeg p0))), (aMi, .inl (cA, 72, .inl (upd (upd (upd vMi (3 * vMP).toNatClampNeg p1) ((3 * vMP) + 1).toNatClampNeg p2) ((3 * vMP) + 2).toNatClampNeg p3))), (aMc, .inl (cA, 24, .inl (upd vMc vMP.toNatClampNeg p4))), (aMs, .inl (cZ, 100, .inl (vMs)))] := hD
      refine lv_aload_n hx hb qd_M_production_211 rfl (lv_at hl 2 rfl) ?_
      refine lv_iconst (v := 0) hx hb qd_M_production_212 (by decide) ?_
      refine va_put (D := (dC, dI)) (ci := 7) (v := .int 0) (ty := .boolean) (C := qR_M) (T := qT_M) (N := 23) hx hb hg qi_M qt_M qk_M qn_M hown hK hP hD hS 0 rfl rfl 7 (by decide) (hg _ mw_581) (fun _ h9 => h9) rfl (by decide +kernel) rfl rfl (Nat.le_of_ble_eq_true rfl) qd_M_production_213 (fun H locs hP hD hS => ?_)
      have hP : va_P (dC, dI) vwCl [(aM, .inr (7, [.int u_131.2, .int (vMP + 1), .ref aMh, .ref aMi, .ref aMc, .int vMK, .ref aMt, .int 0, .ref aMn, .ref aMl, .ref aMs, .int vMD, .ref aMd, .int vME, .ref aMe, .int vMO, .ref aMo, .int vMF, .int vMS, .ref aMw, .ref aMu, .int vMX, .int vMW])), (aMh, .inl (cA, 24, .inl (upd vMh vMP.toNatClampNeg p0))), (aMi, .inl (cA, 72, .inl (upd (upd (upd vMi (3 * vMP).toNatClampNeg p1) ((3 * vMP) + 1).toNatClampNeg p2) ((3 * vMP) + 2).toNatClampNeg p3))), (aMc, .inl (cA, 24, .inl (upd vMc vMP.toNatClampNeg p4))), (aMs, .inl (cZ, 100, .inl (vMs)))] H := hP
      have hD : va_D A [(aM, .inr (7, [.int u_131.2, .int (vMP + 1), .ref aMh, .ref aMi, .ref aMc, .int vMK, .ref aMt, .int 0, .ref aMn, .ref aMl, .ref aMs, .int vMD, .ref aMd, .int vME, .ref aMe, .int vMO, .ref aMo, .int vMF, .int vMS, .ref aMw, .ref aMu, .int vMX, .int vMW])), (aMh, .inl (cA, 24, .inl (upd vMh vMP.toNatClampNeg p0))), (aMi, .inl (cA, 72, .inl (upd (upd (upd vMi (3 * vMP).toNatClampNeg p1) ((3 * vMP) + 1).toNatClampNeg p2) ((3 * vMP) + 2).toNatClampNeg p3))), (aMc, .inl (cA, 24, .inl (upd vMc vMP.toNatClampNeg p4))), (aMs, .inl (cZ, 100, .inl (vMs)))] := hD
      refine lv_aload_n hx hb qd_M_production_216 rfl (lv_at hl 2 rfl) ?_
      refine va_get (D := (dC, dI)) (ci := 7) (v := .int (vMP + 1)) (C := qR_M) (T := qT_M) (N := 23) hx hb hg qi_M hown hK hP 0 rfl rfl 1 (by decide) (hg _ mw_575) (fun _ h9 => h9) rfl qd_M_production_217 ?_
      refine lv_iconst (v := 1) hx hb qd_M_production_220 (by decide) ?_
      refine lv_isub hx hb qd_M_production_221 ?_
      exact W.iret (v := (vMP + 1) - 1) hx hb hr (fun t ht hW => ⟨⟨_, ((vMP + 1) - 1, u_131.2, vMP + 1, 0, upd vMh vMP.toNatClampNeg p0, upd (upd (upd vMi (3 * vMP).toNatClampNeg p1) ((3 * vMP) + 1).toNatClampNeg p2) ((3 * vMP) + 2).toNatClampNeg p3, upd vMc vMP.toNatClampNeg p4, vMs), rfl, ⟨hres.symm, rfl⟩, ⟨by rw [ht]; exact hP, va_K.moved hW.alike hK, x_N hN hW⟩, hD⟩, hS.F ht⟩) hS.2.2 qd_M_production_222
    have hres := hres.trans (if_neg c_134)
    have ho := (if_neg c_134).mp ho
    refine lv_iconst (v := 0) hx hb qd_M_production_137 (by decide) ?_
    exact W.iret (v := 0) hx hb hr (fun t ht hW => ⟨⟨_, (0, u_131.2, vMP, vMB, vMh, vMi, vMc, vMs), rfl, ⟨hres.symm, rfl⟩, ⟨by rw [ht]; exact hP, va_K.moved hW.alike hK, x_N hN hW⟩, hD⟩, hS.F ht⟩) hS.2.2 qd_M_production_138
  have hres := hres.trans (if_neg c_75)
  have ho := (if_neg c_75).mp ho
  refine lv_iload_n hx hb qd_M_production_78 rfl (lv_at hl 4 rfl) ?_
  refine lv_iconst (v := (-1)) hx hb qd_M_production_79 (by decide) ?_
  refine lv_icmp_ne (tgt := 96) hx hb qd_M_production_80 (by decide) (fun c_80 => ?_) (fun c_80 => ?_)
  rotate_left
  · exact absurd c_80 c_19
  refine lv_iconst (v := 0) hx hb qd_M_production_96 (by decide) ?_
  refine lv_istore (lv' := [(7, .int 0), (6, .int 1), (0, .ref aM), (1, .int p0), (2, .int p1), (3, .int p2), (4, .int p3), (5, .int p4)]) hx hb qd_M_production_97 hl (by decide) rfl (fun ls hl => ?_)
  refine lv_aload_n hx hb qd_M_production_99 rfl (lv_at hl 2 rfl) ?_
  refine lv_iload hx hb qd_M_production_100 (lv_at hl 1 rfl) ?_
  refine lv_if_ne (tgt := 109) hx hb qd_M_production_102 (by decide) (fun c_102 => ?_) (fun c_102 => ?_)
  rotate_left
  · exact absurd c_102 (by decide)
  refine lv_iconst (v := 0) hx hb qd_M_production_109 (by decide) ?_
  refine lv_iload hx hb qd_M_production_110 (lv_at hl 1 rfl) ?_
  refine lv_if_eq (tgt := 128) hx hb qd_M_production_112 (by decide) (fun c_112 => ?_) (fun c_112 => ?_)
  · exact absurd c_112 (by decide)
  refine lv_aload_n hx hb qd_M_production_115 rfl (lv_at hl 2 rfl) ?_
  refine va_get (D := (dC, dI)) (ci := 7) (v := .int vMP) (C := qR_M) (T := qT_M) (N := 23) hx hb hg qi_M hown hK hP 0 rfl rfl 1 (by decide) (hg _ mw_575) (fun _ h9 => h9) rfl qd_M_production_116 ?_
  refine lv_bipush (v := 24) hx hb qd_M_production_119 (by decide) ?_
  refine lv_icmp_ne (tgt := 128) hx hb qd_M_production_121 (by decide) (fun c_121 => ?_) (fun c_121 => ?_)
  · have hres := hres.trans (if_neg c_121)
    have ho := (if_neg c_121).mp ho
    refine lv_iconst (v := 0) hx hb qd_M_production_128 (by decide) ?_
    refine lv_iload hx hb qd_M_production_129 (lv_at hl 0 rfl) ?_
    refine xm_Vi (As := [.int 0, .int 0, .int 0]) (rest := []) (w1 := fun (u_131 : Int32 × Int32) => [(aM, .inr (7, [.int u_131.2, .int vMP, .ref aMh, .ref aMi, .ref aMc, .int vMK, .ref aMt, .int vMB, .ref aMn, .ref aMl, .ref aMs, .int vMD, .ref aMd, .int vME, .ref aMe, .int vMO, .ref aMo, .int vMF, .int vMS, .ref aMw, .ref aMu, .int vMX, .int vMW]))]) (w2 := fun (u_131 : Int32 × Int32) => [(aM, .inr (7, [.int u_131.2, .int vMP, .ref aMh, .ref aMi, .ref aMc, .int vMK, .ref aMt, .int vMB, .ref aMn, .ref aMl, .ref aMs, .int vMD, .ref aMd, .int vME, .ref aMe, .int vMO, .ref aMo, .int vMF, .int vMS, .ref aMw, .ref aMu, .int vMX, .int vMW])), (aMh, .inl (cA, 24, .inl (vMh))), (aMi, .inl (cA, 72, .inl (vMi))), (aMc, .inl (cA, 24, .inl (vMc))), (aMs, .inl (cZ, 100, .inl (vMs)))]) ⟨hx, hb, hml, hown, hg⟩ (c_M_refuse l dC dI cA cZ aM aMh aMi aMc aMt aMn aMl aMs aMd aMe aMo aMw aMu _ vMT vMP vMK vMB vMD vME vMO vMF vMS vMX vMW 0 0 0) (cwV 3 hg (q_gV mw_642 mw_643 mw_771 mw_8 mw_644) rfl rfl rfl qh_M_refuse ⟨Nat.le_of_ble_eq_true rfl, Nat.le_of_ble_eq_true rfl⟩) hN hK hP hD hS hA [0] [1, 2, 3, 4] rfl rfl (by decide) (by decide) (by decide) [4, 0, 1, 2, 3] (fun _ => rfl) (by decide) 0 7 rfl rfl rfl hl.1 rfl (Nat.le_of_ble_eq_true rfl) qd_M_production_131 ⟨Nat.zero_le _, Nat.zero_le _⟩ (fun u_131 H locs w_131 hP hD hS => ?_)
    have hP : va_P (dC, dI) vwCl [(aM, .inr (7, [.int u_131.2, .int vMP, .ref aMh, .ref aMi, .ref aMc, .int vMK, .ref aMt, .int vMB, .ref aMn, .ref aMl, .ref aMs, .int vMD, .ref aMd, .int vME, .ref aMe, .int vMO, .ref aMo, .int vMF, .int vMS, .ref aMw, .ref aMu, .int vMX, .int vMW])), (aMh, .inl (cA, 24, .inl (vMh))), (aMi, .inl (cA, 72, .inl (vMi))), (aMc, .inl (cA, 24, .inl (vMc))), (aMs, .inl (cZ, 100, .inl (vMs)))] H := hP
    have hD : va_D A [(aM, .inr (7, [.int u_131.2, .int vMP, .ref aMh, .ref aMi, .ref aMc, .int vMK, .ref aMt, .int vMB, .ref aMn, .ref aMl, .ref aMs, .int vMD, .ref aMd, .int vME, .ref aMe, .int vMO, .ref aMo, .int vMF, .int vMS, .ref aMw, .ref aMu, .int vMX, .int vMW])), (aMh, .inl (cA, 24, .inl (vMh))), (aMi, .inl (cA, 72, .inl (vMi))), (aMc, .inl (cA, 24, .inl (vMc))), (aMs, .inl (cZ, 100, .inl (vMs)))] := hD
    have hres := hres.trans (bd_eq w_131)
    have ho := (bd_eq w_131).mp ho
    refine lv_if_eq (tgt := 139) hx hb qd_M_production_134 (by decide) (fun c_134 => ?_) (fun c_134 => ?_)
    · have hres := hres.trans (if_pos c_134)
      have ho := (if_pos c_134).mp ho
      refine lv_aload_n hx hb qd_M_production_139 rfl (lv_at hl 2 rfl) ?_
      refine va_get (D := (dC, dI)) (ci := 7) (v := .ref aMh) (C := qR_M) (T := qT_M) (N := 23) hx hb hg qi_M hown hK hP 0 rfl rfl 2 (by decide) (hg _ mw_576) (fun _ h9 => h9) rfl qd_M_production_140 ?_
      refine lv_aload_n hx hb qd_M_production_143 rfl (lv_at hl 2 rfl) ?_
      refine va_get (D := (dC, dI)) (ci := 7) (v := .int vMP) (C := qR_M) (T := qT_M) (N := 23) hx hb hg qi_M hown hK hP 0 rfl rfl 1 (by decide) (hg _ mw_575) (fun _ h9 => h9) rfl qd_M_production_144 ?_
      refine lv_iload_n hx hb qd_M_production_147 rfl (lv_at hl 3 rfl) ?_
      obtain ⟨g_148, ho⟩ := ho
      refine va_iast hx hb hK hP hD hS 1 0 rfl rfl g_148 qd_M_production_148 (fun H locs hP hD hS => ?_)
      have hP : va_P (dC, dI) vwCl [(aM, .inr (7, [.int u_131.2, .int vMP, .ref aMh, .ref aMi, .ref aMc, .int vMK, .ref aMt, .int vMB, .ref aMn, .ref aMl, .ref aMs, .int vMD, .ref aMd, .int vME, .ref aMe, .int vMO, .ref aMo, .int vMF, .int vMS, .ref aMw, .ref aMu, .int vMX, .int vMW])), (aMh, .inl (cA, 24, .inl (upd vMh vMP.toNatClampNeg p0))), (aMi, .inl (cA, 72, .inl (vMi))), (aMc, .inl (cA, 24, .inl (vMc))), (aMs, .inl (cZ, 100, .inl (vMs)))] H := hP
      have hD : va_D A [(aM, .inr (7, [.int u_131.2, .int vMP, .ref aMh, .ref aMi, .ref aMc, .int vMK, .ref aMt, .int vMB, .ref aMn, .ref aMl, .ref aMs, .int vMD, .ref aMd, .int vME, .ref aMe, .int vMO, .ref aMo, .int vMF, .int vMS, .ref aMw, .ref aMu, .int vMX, .int vMW])), (aMh, .inl (cA, 24, .inl (upd vMh vMP.toNatClampNeg p0))), (aMi, .inl (cA, 72, .inl (vMi))), (aMc, .inl (cA, 24, .inl (vMc))), (aMs, .inl (cZ, 100, .inl (vMs)))] := hD
      refine lv_aload_n hx hb qd_M_production_149 rfl (lv_at hl 2 rfl) ?_
      refine va_get (D := (dC, dI)) (ci := 7) (v := .ref aMi) (C := qR_M) (T := qT_M) (N := 23) hx hb hg qi_M hown hK hP 0 rfl rfl 3 (by decide) (hg _ mw_577) (fun _ h9 => h9) rfl qd_M_production_150 ?_
      refine lv_iconst (v := 3) hx hb qd_M_production_153 (by decide) ?_
      refine lv_aload_n hx hb qd_M_production_154 rfl (lv_at hl 2 rfl) ?_
      refine va_get (D := (dC, dI)) (ci := 7) (v := .int vMP) (C := qR_M) (T := qT_M) (N := 23) hx hb hg qi_M hown hK hP 0 rfl rfl 1 (by decide) (hg _ mw_575) (fun _ h9 => h9) rfl qd_M_production_155 ?_
      refine lv_imul hx hb qd_M_production_158 ?_
      refine lv_iload_n hx hb qd_M_production_159 rfl (lv_at hl 4 rfl) ?_
      obtain ⟨g_160, ho⟩ := ho
      refine va_iast hx hb hK hP hD hS 2 0 rfl rfl g_160 qd_M_production_160 (fun H locs hP hD hS => ?_)
      have hP : va_P (dC, dI) vwCl [(aM, .inr (7, [.int u_131.2, .int vMP, .ref aMh, .ref aMi, .ref aMc, .int vMK, .ref aMt, .int vMB, .ref aMn, .ref aMl, .ref aMs, .int vMD, .ref aMd, .int vME, .ref aMe, .int vMO, .ref aMo, .int vMF, .int vMS, .ref aMw, .ref aMu, .int vMX, .int vMW])), (aMh, .inl (cA, 24, .inl (upd vMh vMP.toNatClampNeg p0))), (aMi, .inl (cA, 72, .inl (upd vMi (3 * vMP).toNatClampNeg p1))), (aMc, .inl (cA, 24, .inl (vMc))), (aMs, .inl (cZ, 100, .inl (vMs)))] H := hP
      have hD : va_D A [(aM, .inr (7, [.int u_131.2, .int vMP, .ref aMh, .ref aMi, .ref aMc, .int vMK, .ref aMt, .int vMB, .ref aMn, .ref aMl, .ref aMs, .int vMD, .ref aMd, .int vME, .ref aMe, .int vMO, .ref aMo, .int vMF, .int vMS, .ref aMw, .ref aMu, .int vMX, .int vMW])), (aMh, .inl (cA, 24, .inl (upd vMh vMP.toNatClampNeg p0))), (aMi, .inl (cA, 72, .inl (upd vMi (3 * vMP).toNatClampNeg p1))), (aMc, .inl (cA, 24, .inl (vMc))), (aMs, .inl (cZ, 100, .inl (vMs)))] := hD
      refine lv_aload_n hx hb qd_M_production_161 rfl (lv_at hl 2 rfl) ?_
      refine va_get (D := (dC, dI)) (ci := 7) (v := .ref aMi) (C := qR_M) (T := qT_M) (N := 23) hx hb hg qi_M hown hK hP 0 rfl rfl 3 (by decide) (hg _ mw_577) (fun _ h9 => h9) rfl qd_M_production_162 ?_
      refine lv_iconst (v := 3) hx hb qd_M_production_165 (by decide) ?_
      refine lv_aload_n hx hb qd_M_production_166 rfl (lv_at hl 2 rfl) ?_
      refine va_get (D := (dC, dI)) (ci := 7) (v := .int vMP) (C := qR_M) (T := qT_M) (N := 23) hx hb hg qi_M hown hK hP 0 rfl rfl 1 (by decide) (hg _ mw_575) (fun _ h9 => h9) rfl qd_M_production_167 ?_
      refine lv_imul hx hb qd_M_production_170 ?_
      refine lv_iconst (v := 1) hx hb qd_M_production_171 (by decide) ?_
      refine lv_iadd hx hb qd_M_production_172 ?_
      refine lv_iload_n hx hb qd_M_production_173 rfl (lv_at hl 5 rfl) ?_
      obtain ⟨g_174, ho⟩ := ho
      refine va_iast hx hb hK hP hD hS 2 0 rfl rfl g_174 qd_M_production_174 (fun H locs hP hD hS => ?_)
      have hP : va_P (dC, dI) vwCl [(aM, .inr (7, [.int u_131.2, .int vMP, .ref aMh, .ref aMi, .ref aMc, .int vMK, .ref aMt, .int vMB, .ref aMn, .ref aMl, .ref aMs, .int vMD, .ref aMd, .int vME, .ref aMe, .int vMO, .ref aMo, .int vMF, .int vMS, .ref aMw, .ref aMu, .int vMX, .int vMW])), (aMh, .inl (cA, 24, .inl (upd vMh vMP.toNatClampNeg p0))), (aMi, .inl (cA, 72, .inl (upd (upd vMi (3 * vMP).toNatClampNeg p1) ((3 * vMP) + 1).toNatClampNeg p2))), (aMc, .inl (cA, 24, .inl (vMc))), (aMs, .inl (cZ, 100, .inl (vMs)))] H := hP
      have hD : va_D A [(aM, .inr (7, [.int u_131.2, .int vMP, .ref aMh, .ref aMi, .ref aMc, .int vMK, .ref aMt, .int vMB, .ref aMn, .ref aMl, .ref aMs, .int vMD, .ref aMd, .int vME, .ref aMe, .int vMO, .ref aMo, .int vMF, .int vMS, .ref aMw, .ref aMu, .int vMX, .int vMW])), (aMh, .inl (cA, 24, .inl (upd vMh vMP.toNatClampNeg p0))), (aMi, .inl (cA, 72, .inl (upd (upd vMi (3 * vMP).toNatClampNeg p1) ((3 * vMP) + 1).toNatClampNeg p2))), (aMc, .inl (cA, 24, .inl (vMc))), (aMs, .inl (cZ, 100, .inl (vMs)))] := hD
      refine lv_aload_n hx hb qd_M_production_175 rfl (lv_at hl 2 rfl) ?_
      refine va_get (D := (dC, dI)) (ci := 7) (v := .ref aMi) (C := qR_M) (T := qT_M) (N := 23) hx hb hg qi_M hown hK hP 0 rfl rfl 3 (by decide) (hg _ mw_577) (fun _ h9 => h9) rfl qd_M_production_176 ?_
      refine lv_iconst (v := 3) hx hb qd_M_production_179 (by decide) ?_
      refine lv_aload_n hx hb qd_M_production_180 rfl (lv_at hl 2 rfl) ?_
      refine va_get (D := (dC, dI)) (ci := 7) (v := .int vMP) (C := qR_M) (T := qT_M) (N := 23) hx hb hg qi_M hown hK hP 0 rfl rfl 1 (by decide) (hg _ mw_575) (fun _ h9 => h9) rfl qd_M_production_181 ?_
      refine lv_imul hx hb qd_M_production_184 ?_
      refine lv_iconst (v := 2) hx hb qd_M_production_185 (by decide) ?_
      refine lv_iadd hx hb qd_M_production_186 ?_
      refine lv_iload hx hb qd_M_production_187 (lv_at hl 6 rfl) ?_
      obtain ⟨g_189, ho⟩ := ho
      refine va_iast hx hb hK hP hD hS 2 0 rfl rfl g_189 qd_M_production_189 (fun H locs hP hD hS => ?_)
      have hP : va_P (dC, dI) vwCl [(aM, .inr (7, [.int u_131.2, .int vMP, .ref aMh, .ref aMi, .ref aMc, .int vMK, .ref aMt, .int vMB, .ref aMn, .ref aMl, .ref aMs, .int vMD, .ref aMd, .int vME, .ref aMe, .int vMO, .ref aMo, .int vMF, .int vMS, .ref aMw, .ref aMu, .int vMX, .int vMW])), (aMh, .inl (cA, 24, .inl (upd vMh vMP.toNatClampNeg p0))), (aMi, .inl (cA, 72, .inl (upd (upd (upd vMi (3 * vMP).toNatClampNeg p1) ((3 * vMP) + 1).toNatClampNeg p2) ((3 * vMP) + 2).toNatClampNeg p3))), (aMc, .inl (cA, 24, .inl (vMc))), (aMs, .inl (cZ, 100, .inl (vMs)))] H := hP
      have hD : va_D A [(aM, .inr (7, [.int u_131.2, .int vMP, .ref aMh, .ref aMi, .ref aMc, .int vMK, .ref aMt, .int vMB, .ref aMn, .ref aMl, .ref aMs, .int vMD, .ref aMd, .int vME, .ref aMe, .int vMO, .ref aMo, .int vMF, .int vMS, .ref aMw, .ref aMu, .int vMX, .int vMW])), (aMh, .inl (cA, 24, .inl (upd vMh vMP.toNatClampNeg p0))), (aMi, .inl (cA, 72, .inl (upd (upd (upd vMi (3 * vMP).toNatClampNeg p1) ((3 * vMP) + 1).toNatClampNeg p2) ((3 * vMP) + 2).toNatClampNeg p3))), (aMc, .inl (cA, 24, .inl (vMc))), (aMs, .inl (cZ, 100, .inl (vMs)))] := hD
      refine lv_aload_n hx hb qd_M_production_190 rfl (lv_at hl 2 rfl) ?_
      refine va_get (D := (dC, dI)) (ci := 7) (v := .ref aMc) (C := qR_M) (T := qT_M) (N := 23) hx hb hg qi_M hown hK hP 0 rfl rfl 4 (by decide) (hg _ mw_578) (fun _ h9 => h9) rfl qd_M_production_191 ?_
      refine lv_aload_n hx hb qd_M_production_194 rfl (lv_at hl 2 rfl) ?_
      refine va_get (D := (dC, dI)) (ci := 7) (v := .int vMP) (C := qR_M) (T := qT_M) (N := 23) hx hb hg qi_M hown hK hP 0 rfl rfl 1 (by decide) (hg _ mw_575) (fun _ h9 => h9) rfl qd_M_production_195 ?_
      refine lv_iload hx hb qd_M_production_198 (lv_at hl 7 rfl) ?_
      obtain ⟨g_200, ho⟩ := ho
      refine va_iast hx hb hK hP hD hS 3 0 rfl rfl g_200 qd_M_production_200 (fun H locs hP hD hS => ?_)
      have hP : va_P (dC, dI) vwCl [(aM, .inr (7, [.int u_131.2, .int vMP, .ref aMh, .ref aMi, .ref aMc, .int vMK, .ref aMt, .int vMB, .ref aMn, .ref aMl, .ref aMs, .int vMD, .ref aMd, .int vME, .ref aMe, .int vMO, .ref aMo, .int vMF, .int vMS, .ref aMw, .ref aMu, .int vMX, .int vMW])), (aMh, .inl (cA, 24, .inl (upd vMh vMP.toNatClampNeg p0))), (aMi, .inl (cA, 72, .inl (upd (upd (upd vMi (3 * vMP).toNatClampNeg p1) ((3 * vMP) + 1).toNatClampNeg p2) ((3 * vMP) + 2).toNatClampNeg p3))), (aMc, .inl (cA, 24, .inl (upd vMc vMP.toNatClampNeg p4))), (aMs, .inl (cZ, 100, .inl (vMs)))] H := hP
      have hD : va_D A [(aM, .inr (7, [.int u_131.2, .int vMP, .ref aMh, .ref aMi, .ref aMc, .int vMK, .ref aMt, .int vMB, .ref aMn, .ref aMl, .ref aMs, .int vMD, .ref aMd, .int vME, .ref aMe, .int vMO, .ref aMo, .int vMF, .int vMS, .ref aMw, .ref aMu, .int vMX, .int vMW])), (aMh, .inl (cA, 24, .inl (upd vMh vMP.toNatClampNeg p0))), (aMi, .inl (cA, 72, .inl (upd (upd (upd vMi (3 * vMP).toNatClampNeg p1) ((3 * vMP) + 1).toNatClampNeg p2) ((3 * vMP) + 2).toNatClampNeg p3))), (aMc, .inl (cA, 24, .inl (upd vMc vMP.toNatClampNeg p4))), (aMs, .inl (cZ, 100, .inl (vMs)))] := hD
      refine lv_aload_n hx hb qd_M_production_201 rfl (lv_at hl 2 rfl) ?_
      refine lv_dup hx hb qd_M_production_202 rfl ?_
      refine va_get (D := (dC, dI)) (ci := 7) (v := .int vMP) (C := qR_M) (T := qT_M) (N := 23) hx hb hg qi_M hown hK hP 0 rfl rfl 1 (by decide) (hg _ mw_575) (fun _ h9 => h9) rfl qd_M_production_203 ?_
      refine lv_iconst (v := 1) hx hb qd_M_production_206 (by decide) ?_
      refine lv_iadd hx hb qd_M_production_207 ?_
      refine va_put (D := (dC, dI)) (ci := 7) (v := .int (vMP + 1)) (ty := .int) (C := qR_M) (T := qT_M) (N := 23) hx hb hg qi_M qt_M qk_M qn_M hown hK hP hD hS 0 rfl rfl 1 (by decide) (hg _ mw_575) (fun _ h9 => h9) rfl (by decide +kernel) rfl rfl (Nat.le_of_ble_eq_true rfl) qd_M_production_208 (fun H locs hP hD hS => ?_)
      have hP : va_P (dC, dI) vwCl [(aM, .inr (7, [.int u_131.2, .int (vMP + 1), .ref aMh, .ref aMi, .ref aMc, .int vMK, .ref aMt, .int vMB, .ref aMn, .ref aMl, .ref aMs, .int vMD, .ref aMd, .int vME, .ref aMe, .int vMO, .ref aMo, .int vMF, .int vMS, .ref aMw, .ref aMu, .int vMX, .int vMW])), (aMh, .inl (cA, 24, .inl (upd vMh vMP.toNatClampNeg p0))), (aMi, .inl (cA, 72, .inl (upd (upd (upd vMi (3 * vMP).toNatClampNeg p1) ((3 * vMP) + 1).toNatClampNeg p2) ((3 * vMP) + 2).toNatClampNeg p3))), (aMc, .inl (cA, 24, .inl (upd vMc vMP.toNatClampNeg p4))), (aMs, .inl (cZ, 100, .inl (vMs)))] H := hP
      have hD : va_D A [(aM, .inr (7, [.int u_131.2, .int (vMP + 1), .ref aMh, .ref aMi, .ref aMc, .int vMK, .ref aMt, .int vMB, .ref aMn, .ref aMl, .ref aMs, .int vMD, .ref aMd, .int vME, .ref aMe, .int vMO, .ref aMo, .int vMF, .int vMS, .ref aMw, .ref aMu, .int vMX, .int vMW])), (aMh, .inl (cA, 24, .inl (upd vMh vMP.toNatClampNeg p0))), (aMi, .inl (cA, 72, .inl (upd (upd (upd vMi (3 * vMP).toNatClampNeg p1) ((3 * vMP) + 1).toNatClampNeg p2) ((3 * vMP) + 2).toNatClampNeg p3))), (aMc, .inl (cA, 24, .inl (upd vMc vMP.toNatClampNeg p4))), (aMs, .inl (cZ, 100, .inl (vMs)))] := hD
      refine lv_aload_n hx hb qd_M_production_211 rfl (lv_at hl 2 rfl) ?_
      refine lv_iconst (v := 0) hx hb qd_M_production_212 (by decide) ?_
      refine va_put (D := (dC, dI)) (ci := 7) (v := .int 0) (ty := .boolean) (C := qR_M) (T := qT_M) (N := 23) hx hb hg qi_M qt_M qk_M qn_M hown hK hP hD hS 0 rfl rfl 7 (by decide) (hg _ mw_581) (fun _ h9 => h9) rfl (by decide +kernel) rfl rfl (Nat.le_of_ble_eq_true rfl) qd_M_production_213 (fun H locs hP hD hS => ?_)
      have hP : va_P (dC, dI) vwCl [(aM, .inr (7, [.int u_131.2, .int (vMP + 1), .ref aMh, .ref aMi, .ref aMc, .int vMK, .ref aMt, .int 0, .ref aMn, .ref aMl, .ref aMs, .int vMD, .ref aMd, .int vME, .ref aMe, .int vMO, .ref aMo, .int vMF, .int vMS, .ref aMw, .ref aMu, .int vMX, .int vMW])), (aMh, .inl (cA, 24, .inl (upd vMh vMP.toNatClampNeg p0))), (aMi, .inl (cA, 72, .inl (upd (upd (upd vMi (3 * vMP).toNatClampNeg p1) ((3 * vMP) + 1).toNatClampNeg p2) ((3 * vMP) + 2).toNatClampNeg p3))), (aMc, .inl (cA, 24, .inl (upd vMc vMP.toNatClampNeg p4))), (aMs, .inl (cZ, 100, .inl (vMs)))] H := hP
      have hD : va_D A [(aM, .inr (7, [.int u_131.2, .int (vMP + 1), .ref aMh, .ref aMi, .ref aMc, .int vMK, .ref aMt, .int 0, .ref aMn, .ref aMl, .ref aMs, .int vMD, .ref aMd, .int vME, .ref aMe, .int vMO, .ref aMo, .int vMF, .int vMS, .ref aMw, .ref aMu, .int vMX, .int vMW])), (aMh, .inl (cA, 24, .inl (upd vMh vMP.toNatClampNeg p0))), (aMi, .inl (cA, 72, .inl (upd (upd (upd vMi (3 * vMP).toNatClampNeg p1) ((3 * vMP) + 1).toNatClampNeg p2) ((3 * vMP) + 2).toNatClampNeg p3))), (aMc, .inl (cA, 24, .inl (upd vMc vMP.toNatClampNeg p4))), (aMs, .inl (cZ, 100, .inl (vMs)))] := hD
      refine lv_aload_n hx hb qd_M_production_216 rfl (lv_at hl 2 rfl) ?_
      refine va_get (D := (dC, dI)) (ci := 7) (v := .int (vMP + 1)) (C := qR_M) (T := qT_M) (N := 23) hx hb hg qi_M hown hK hP 0 rfl rfl 1 (by decide) (hg _ mw_575) (fun _ h9 => h9) rfl qd_M_production_217 ?_
      refine lv_iconst (v := 1) hx hb qd_M_production_220 (by decide) ?_
      refine lv_isub hx hb qd_M_production_221 ?_
      exact W.iret (v := (vMP + 1) - 1) hx hb hr (fun t ht hW => ⟨⟨_, ((vMP + 1) - 1, u_131.2, vMP + 1, 0, upd vMh vMP.toNatClampNeg p0, upd (upd (upd vMi (3 * vMP).toNatClampNeg p1) ((3 * vMP) + 1).toNatClampNeg p2) ((3 * vMP) + 2).toNatClampNeg p3, upd vMc vMP.toNatClampNeg p4, vMs), rfl, ⟨hres.symm, rfl⟩, ⟨by rw [ht]; exact hP, va_K.moved hW.alike hK, x_N hN hW⟩, hD⟩, hS.F ht⟩) hS.2.2 qd_M_production_222
    have hres := hres.trans (if_neg c_134)
    have ho := (if_neg c_134).mp ho
    refine lv_iconst (v := 0) hx hb qd_M_production_137 (by decide) ?_
    exact W.iret (v := 0) hx hb hr (fun t ht hW => ⟨⟨_, (0, u_131.2, vMP, vMB, vMh, vMi, vMc, vMs), rfl, ⟨hres.symm, rfl⟩, ⟨by rw [ht]; exact hP, va_K.moved hW.alike hK, x_N hN hW⟩, hD⟩, hS.F ht⟩) hS.2.2 qd_M_production_138
  have hres := hres.trans (if_pos c_121)
  have ho := (if_pos c_121).mp ho
  refine lv_iconst (v := 1) hx hb qd_M_production_124 (by decide) ?_
  refine lv_goto (tgt := 129) hx hb qd_M_production_125 (by decide) ?_
  refine lv_iload hx hb qd_M_production_129 (lv_at hl 0 rfl) ?_
  refine xm_Vi (As := [.int 0, .int 1, .int 0]) (rest := []) (w1 := fun (u_131 : Int32 × Int32) => [(aM, .inr (7, [.int u_131.2, .int vMP, .ref aMh, .ref aMi, .ref aMc, .int vMK, .ref aMt, .int vMB, .ref aMn, .ref aMl, .ref aMs, .int vMD, .ref aMd, .int vME, .ref aMe, .int vMO, .ref aMo, .int vMF, .int vMS, .ref aMw, .ref aMu, .int vMX, .int vMW]))]) (w2 := fun (u_131 : Int32 × Int32) => [(aM, .inr (7, [.int u_131.2, .int vMP, .ref aMh, .ref aMi, .ref aMc, .int vMK, .ref aMt, .int vMB, .ref aMn, .ref aMl, .ref aMs, .int vMD, .ref aMd, .int vME, .ref aMe, .int vMO, .ref aMo, .int vMF, .int vMS, .ref aMw, .ref aMu, .int vMX, .int vMW])), (aMh, .inl (cA, 24, .inl (vMh))), (aMi, .inl (cA, 72, .inl (vMi))), (aMc, .inl (cA, 24, .inl (vMc))), (aMs, .inl (cZ, 100, .inl (vMs)))]) ⟨hx, hb, hml, hown, hg⟩ (c_M_refuse l dC dI cA cZ aM aMh aMi aMc aMt aMn aMl aMs aMd aMe aMo aMw aMu _ vMT vMP vMK vMB vMD vME vMO vMF vMS vMX vMW 0 1 0) (cwV 3 hg (q_gV mw_642 mw_643 mw_771 mw_8 mw_644) rfl rfl rfl qh_M_refuse ⟨Nat.le_of_ble_eq_true rfl, Nat.le_of_ble_eq_true rfl⟩) hN hK hP hD hS hA [0] [1, 2, 3, 4] rfl rfl (by decide) (by decide) (by decide) [4, 0, 1, 2, 3] (fun _ => rfl) (by decide) 0 7 rfl rfl rfl hl.1 rfl (Nat.le_of_ble_eq_true rfl) qd_M_production_131 ⟨Nat.zero_le _, Nat.zero_le _⟩ (fun u_131 H locs w_131 hP hD hS => ?_)
  have hP : va_P (dC, dI) vwCl [(aM, .inr (7, [.int u_131.2, .int vMP, .ref aMh, .ref aMi, .ref aMc, .int vMK, .ref aMt, .int vMB, .ref aMn, .ref aMl, .ref aMs, .int vMD, .ref aMd, .int vME, .ref aMe, .int vMO, .ref aMo, .int vMF, .int vMS, .ref aMw, .ref aMu, .int vMX, .int vMW])), (aMh, .inl (cA, 24, .inl (vMh))), (aMi, .inl (cA, 72, .inl (vMi))), (aMc, .inl (cA, 24, .inl (vMc))), (aMs, .inl (cZ, 100, .inl (vMs)))] H := hP
  have hD : va_D A [(aM, .inr (7, [.int u_131.2, .int vMP, .ref aMh, .ref aMi, .ref aMc, .int vMK, .ref aMt, .int vMB, .ref aMn, .ref aMl, .ref aMs, .int vMD, .ref aMd, .int vME, .ref aMe, .int vMO, .ref aMo, .int vMF, .int vMS, .ref aMw, .ref aMu, .int vMX, .int vMW])), (aMh, .inl (cA, 24, .inl (vMh))), (aMi, .inl (cA, 72, .inl (vMi))), (aMc, .inl (cA, 24, .inl (vMc))), (aMs, .inl (cZ, 100, .inl (vMs)))] := hD
  have hres := hres.trans (bd_eq w_131)
  have ho := (bd_eq w_131).mp ho
  refine lv_if_eq (tgt := 139) hx hb qd_M_production_134 (by decide) (fun c_134 => ?_) (fun c_134 => ?_)
  · have hres := hres.trans (if_pos c_134)
    have ho := (if_pos c_134).mp ho
    refine lv_aload_n hx hb qd_M_production_139 rfl (lv_at hl 2 rfl) ?_
    refine va_get (D := (dC, dI)) (ci := 7) (v := .ref aMh) (C := qR_M) (T := qT_M) (N := 23) hx hb hg qi_M hown hK hP 0 rfl rfl 2 (by decide) (hg _ mw_576) (fun _ h9 => h9) rfl qd_M_production_140 ?_
    refine lv_aload_n hx hb qd_M_production_143 rfl (lv_at hl 2 rfl) ?_
    refine va_get (D := (dC, dI)) (ci := 7) (v := .int vMP) (C := qR_M) (T := qT_M) (N := 23) hx hb hg qi_M hown hK hP 0 rfl rfl 1 (by decide) (hg _ mw_575) (fun _ h9 => h9) rfl qd_M_production_144 ?_
    refine lv_iload_n hx hb qd_M_production_147 rfl (lv_at hl 3 rfl) ?_
    obtain ⟨g_148, ho⟩ := ho
    refine va_iast hx hb hK hP hD hS 1 0 rfl rfl g_148 qd_M_production_148 (fun H locs hP hD hS => ?_)
    have hP : va_P (dC, dI) vwCl [(aM, .inr (7, [.int u_131.2, .int vMP, .ref aMh, .ref aMi, .ref aMc, .int vMK, .ref aMt, .int vMB, .ref aMn, .ref aMl, .ref aMs, .int vMD, .ref aMd, .int vME, .ref aMe, .int vMO, .ref aMo, .int vMF, .int vMS, .ref aMw, .ref aMu, .int vMX, .int vMW])), (aMh, .inl (cA, 24, .inl (upd vMh vMP.toNatClampNeg p0))), (aMi, .inl (cA, 72, .inl (vMi))), (aMc, .inl (cA, 24, .inl (vMc))), (aMs, .inl (cZ, 100, .inl (vMs)))] H := hP
    have hD : va_D A [(aM, .inr (7, [.int u_131.2, .int vMP, .ref aMh, .ref aMi, .ref aMc, .int vMK, .ref aMt, .int vMB, .ref aMn, .ref aMl, .ref aMs, .int vMD, .ref aMd, .int vME, .ref aMe, .int vMO, .ref aMo, .int vMF, .int vMS, .ref aMw, .ref aMu, .int vMX, .int vMW])), (aMh, .inl (cA, 24, .inl (upd vMh vMP.toNatClampNeg p0))), (aMi, .inl (cA, 72, .inl (vMi))), (aMc, .inl (cA, 24, .inl (vMc))), (aMs, .inl (cZ, 100, .inl (vMs)))] := hD
    refine lv_aload_n hx hb qd_M_production_149 rfl (lv_at hl 2 rfl) ?_
    refine va_get (D := (dC, dI)) (ci := 7) (v := .ref aMi) (C := qR_M) (T := qT_M) (N := 23) hx hb hg qi_M hown hK hP 0 rfl rfl 3 (by decide) (hg _ mw_577) (fun _ h9 => h9) rfl qd_M_production_150 ?_
    refine lv_iconst (v := 3) hx hb qd_M_production_153 (by decide) ?_
    refine lv_aload_n hx hb qd_M_production_154 rfl (lv_at hl 2 rfl) ?_
    refine va_get (D := (dC, dI)) (ci := 7) (v := .int vMP) (C := qR_M) (T := qT_M) (N := 23) hx hb hg qi_M hown hK hP 0 rfl rfl 1 (by decide) (hg _ mw_575) (fun _ h9 => h9) rfl qd_M_production_155 ?_
    refine lv_imul hx hb qd_M_production_158 ?_
    refine lv_iload_n hx hb qd_M_production_159 rfl (lv_at hl 4 rfl) ?_
    obtain ⟨g_160, ho⟩ := ho
    refine va_iast hx hb hK hP hD hS 2 0 rfl rfl g_160 qd_M_production_160 (fun H locs hP hD hS => ?_)
    have hP : va_P (dC, dI) vwCl [(aM, .inr (7, [.int u_131.2, .int vMP, .ref aMh, .ref aMi, .ref aMc, .int vMK, .ref aMt, .int vMB, .ref aMn, .ref aMl, .ref aMs, .int vMD, .ref aMd, .int vME, .ref aMe, .int vMO, .ref aMo, .int vMF, .int vMS, .ref aMw, .ref aMu, .int vMX, .int vMW])), (aMh, .inl (cA, 24, .inl (upd vMh vMP.toNatClampNeg p0))), (aMi, .inl (cA, 72, .inl (upd vMi (3 * vMP).toNatClampNeg p1))), (aMc, .inl (cA, 24, .inl (vMc))), (aMs, .inl (cZ, 100, .inl (vMs)))] H := hP
    have hD : va_D A [(aM, .inr (7, [.int u_131.2, .int vMP, .ref aMh, .ref aMi, .ref aMc, .int vMK, .ref aMt, .int vMB, .ref aMn, .ref aMl, .ref aMs, .int vMD, .ref aMd, .int vME, .ref aMe, .int vMO, .ref aMo, .int vMF, .int vMS, .ref aMw, .ref aMu, .int vMX, .int vMW])), (aMh, .inl (cA, 24, .inl (upd vMh vMP.toNatClampNeg p0))), (aMi, .inl (cA, 72, .inl (upd vMi (3 * vMP).toNatClampNeg p1))), (aMc, .inl (cA, 24, .inl (vMc))), (aMs, .inl (cZ, 100, .inl (vMs)))] := hD
    refine lv_aload_n hx hb qd_M_production_161 rfl (lv_at hl 2 rfl) ?_
    refine va_get (D := (dC, dI)) (ci := 7) (v := .ref aMi) (C := qR_M) (T := qT_M) (N := 23) hx hb hg qi_M hown hK hP 0 rfl rfl 3 (by decide) (hg _ mw_577) (fun _ h9 => h9) rfl qd_M_production_162 ?_
    refine lv_iconst (v := 3) hx hb qd_M_production_165 (by decide) ?_
    refine lv_aload_n hx hb qd_M_production_166 rfl (lv_at hl 2 rfl) ?_
    refine va_get (D := (dC, dI)) (ci := 7) (v := .int vMP) (C := qR_M) (T := qT_M) (N := 23) hx hb hg qi_M hown hK hP 0 rfl rfl 1 (by decide) (hg _ mw_575) (fun _ h9 => h9) rfl qd_M_production_167 ?_
    refine lv_imul hx hb qd_M_production_170 ?_
    refine lv_iconst (v := 1) hx hb qd_M_production_171 (by decide) ?_
    refine lv_iadd hx hb qd_M_production_172 ?_
    refine lv_iload_n hx hb qd_M_production_173 rfl (lv_at hl 5 rfl) ?_
    obtain ⟨g_174, ho⟩ := ho
    refine va_iast hx hb hK hP hD hS 2 0 rfl rfl g_174 qd_M_production_174 (fun H locs hP hD hS => ?_)
    have hP : va_P (dC, dI) vwCl [(aM, .inr (7, [.int u_131.2, .int vMP, .ref aMh, .ref aMi, .ref aMc, .int vMK, .ref aMt, .int vMB, .ref aMn, .ref aMl, .ref aMs, .int vMD, .ref aMd, .int vME, .ref aMe, .int vMO, .ref aMo, .int vMF, .int vMS, .ref aMw, .ref aMu, .int vMX, .int vMW])), (aMh, .inl (cA, 24, .inl (upd vMh vMP.toNatClampNeg p0))), (aMi, .inl (cA, 72, .inl (upd (upd vMi (3 * vMP).toNatClampNeg p1) ((3 * vMP) + 1).toNatClampNeg p2))), (aMc, .inl (cA, 24, .inl (vMc))), (aMs, .inl (cZ, 100, .inl (vMs)))] H := hP
    have hD : va_D A [(aM, .inr (7, [.int u_131.2, .int vMP, .ref aMh, .ref aMi, .ref aMc, .int vMK, .ref aMt, .int vMB, .ref aMn, .ref aMl, .ref aMs, .int vMD, .ref aMd, .int vME, .ref aMe, .int vMO, .ref aMo, .int vMF, .int vMS, .ref aMw, .ref aMu, .int vMX, .int vMW])), (aMh, .inl (cA, 24, .inl (upd vMh vMP.toNatClampNeg p0))), (aMi, .inl (cA, 72, .inl (upd (upd vMi (3 * vMP).toNatClampNeg p1) ((3 * vMP) + 1).toNatClampNeg p2))), (aMc, .inl (cA, 24, .inl (vMc))), (aMs, .inl (cZ, 100, .inl (vMs)))] := hD
    refine lv_aload_n hx hb qd_M_production_175 rfl (lv_at hl 2 rfl) ?_
    refine va_get (D := (dC, dI)) (ci := 7) (v := .ref aMi) (C := qR_M) (T := qT_M) (N := 23) hx hb hg qi_M hown hK hP 0 rfl rfl 3 (by decide) (hg _ mw_577) (fun _ h9 => h9) rfl qd_M_production_176 ?_
    refine lv_iconst (v := 3) hx hb qd_M_production_179 (by decide) ?_
    refine lv_aload_n hx hb qd_M_production_180 rfl (lv_at hl 2 rfl) ?_
    refine va_get (D := (dC, dI)) (ci := 7) (v := .int vMP) (C := qR_M) (T := qT_M) (N := 23) hx hb hg qi_M hown hK hP 0 rfl rfl 1 (by decide) (hg _ mw_575) (fun _ h9 => h9) rfl qd_M_production_181 ?_
    refine lv_imul hx hb qd_M_production_184 ?_
    refine lv_iconst (v := 2) hx hb qd_M_production_185 (by decide) ?_
    refine lv_iadd hx hb qd_M_production_186 ?_
    refine lv_iload hx hb qd_M_production_187 (lv_at hl 6 rfl) ?_
    obtain ⟨g_189, ho⟩ := ho
    refine va_iast hx hb hK hP hD hS 2 0 rfl rfl g_189 qd_M_production_189 (fun H locs hP hD hS => ?_)
    have hP : va_P (dC, dI) vwCl [(aM, .inr (7, [.int u_131.2, .int vMP, .ref aMh, .ref aMi, .ref aMc, .int vMK, .ref aMt, .int vMB, .ref aMn, .ref aMl, .ref aMs, .int vMD, .ref aMd, .int vME, .ref aMe, .int vMO, .ref aMo, .int vMF, .int vMS, .ref aMw, .ref aMu, .int vMX, .int vMW])), (aMh, .inl (cA, 24, .inl (upd vMh vMP.toNatClampNeg p0))), (aMi, .inl (cA, 72, .inl (upd (upd (upd vMi (3 * vMP).toNatClampNeg p1) ((3 * vMP) + 1).toNatClampNeg p2) ((3 * vMP) + 2).toNatClampNeg p3))), (aMc, .inl (cA, 24, .inl (vMc))), (aMs, .inl (cZ, 100, .inl (vMs)))] H := hP
    have hD : va_D A [(aM, .inr (7, [.int u_131.2, .int vMP, .ref aMh, .ref aMi, .ref aMc, .int vMK, .ref aMt, .int vMB, .ref aMn, .ref aMl, .ref aMs, .int vMD, .ref aMd, .int vME, .ref aMe, .int vMO, .ref aMo, .int vMF, .int vMS, .ref aMw, .ref aMu, .int vMX, .int vMW])), (aMh, .inl (cA, 24, .inl (upd vMh vMP.toNatClampNeg p0))), (aMi, .inl (cA, 72, .inl (upd (upd (upd vMi (3 * vMP).toNatClampNeg p1) ((3 * vMP) + 1).toNatClampNeg p2) ((3 * vMP) + 2).toNatClampNeg p3))), (aMc, .inl (cA, 24, .inl (vMc))), (aMs, .inl (cZ, 100, .inl (vMs)))] := hD
    refine lv_aload_n hx hb qd_M_production_190 rfl (lv_at hl 2 rfl) ?_
    refine va_get (D := (dC, dI)) (ci := 7) (v := .ref aMc) (C := qR_M) (T := qT_M) (N := 23) hx hb hg qi_M hown hK hP 0 rfl rfl 4 (by decide) (hg _ mw_578) (fun _ h9 => h9) rfl qd_M_production_191 ?_
    refine lv_aload_n hx hb qd_M_production_194 rfl (lv_at hl 2 rfl) ?_
    refine va_get (D := (dC, dI)) (ci := 7) (v := .int vMP) (C := qR_M) (T := qT_M) (N := 23) hx hb hg qi_M hown hK hP 0 rfl rfl 1 (by decide) (hg _ mw_575) (fun _ h9 => h9) rfl qd_M_production_195 ?_
    refine lv_iload hx hb qd_M_production_198 (lv_at hl 7 rfl) ?_
    obtain ⟨g_200, ho⟩ := ho
    refine va_iast hx hb hK hP hD hS 3 0 rfl rfl g_200 qd_M_production_200 (fun H locs hP hD hS => ?_)
    have hP : va_P (dC, dI) vwCl [(aM, .inr (7, [.int u_131.2, .int vMP, .ref aMh, .ref aMi, .ref aMc, .int vMK, .ref aMt, .int vMB, .ref aMn, .ref aMl, .ref aMs, .int vMD, .ref aMd, .int vME, .ref aMe, .int vMO, .ref aMo, .int vMF, .int vMS, .ref aMw, .ref aMu, .int vMX, .int vMW])), (aMh, .inl (cA, 24, .inl (upd vMh vMP.toNatClampNeg p0))), (aMi, .inl (cA, 72, .inl (upd (upd (upd vMi (3 * vMP).toNatClampNeg p1) ((3 * vMP) + 1).toNatClampNeg p2) ((3 * vMP) + 2).toNatClampNeg p3))), (aMc, .inl (cA, 24, .inl (upd vMc vMP.toNatClampNeg p4))), (aMs, .inl (cZ, 100, .inl (vMs)))] H := hP
    have hD : va_D A [(aM, .inr (7, [.int u_131.2, .int vMP, .ref aMh, .ref aMi, .ref aMc, .int vMK, .ref aMt, .int vMB, .ref aMn, .ref aMl, .ref aMs, .int vMD, .ref aMd, .int vME, .ref aMe, .int vMO, .ref aMo, .int vMF, .int vMS, .ref aMw, .ref aMu, .int vMX, .int vMW])), (aMh, .inl (cA, 24, .inl (upd vMh vMP.toNatClampNeg p0))), (aMi, .inl (cA, 72, .inl (upd (upd (upd vMi (3 * vMP).toNatClampNeg p1) ((3 * vMP) + 1).toNatClampNeg p2) ((3 * vMP) + 2).toNatClampNeg p3))), (aMc, .inl (cA, 24, .inl (upd vMc vMP.toNatClampNeg p4))), (aMs, .inl (cZ, 100, .inl (vMs)))] := hD
    refine lv_aload_n hx hb qd_M_production_201 rfl (lv_at hl 2 rfl) ?_
    refine lv_dup hx hb qd_M_production_202 rfl ?_
    refine va_get (D := (dC, dI)) (ci := 7) (v := .int vMP) (C := qR_M) (T := qT_M) (N := 23) hx hb hg qi_M hown hK hP 0 rfl rfl 1 (by decide) (hg _ mw_575) (fun _ h9 => h9) rfl qd_M_production_203 ?_
    refine lv_iconst (v := 1) hx hb qd_M_production_206 (by decide) ?_
    refine lv_iadd hx hb qd_M_production_207 ?_
    refine va_put (D := (dC, dI)) (ci := 7) (v := .int (vMP + 1)) (ty := .int) (C := qR_M) (T := qT_M) (N := 23) hx hb hg qi_M qt_M qk_M qn_M hown hK hP hD hS 0 rfl rfl 1 (by decide) (hg _ mw_575) (fun _ h9 => h9) rfl (by decide +kernel) rfl rfl (Nat.le_of_ble_eq_true rfl) qd_M_production_208 (fun H locs hP hD hS => ?_)
    have hP : va_P (dC, dI) vwCl [(aM, .inr (7, [.int u_131.2, .int (vMP + 1), .ref aMh, .ref aMi, .ref aMc, .int vMK, .ref aMt, .int vMB, .ref aMn, .ref aMl, .ref aMs, .int vMD, .ref aMd, .int vME, .ref aMe, .int vMO, .ref aMo, .int vMF, .int vMS, .ref aMw, .ref aMu, .int vMX, .int vMW])), (aMh, .inl (cA, 24, .inl (upd vMh vMP.toNatClampNeg p0))), (aMi, .inl (cA, 72, .inl (upd (upd (upd vMi (3 * vMP).toNatClampNeg p1) ((3 * vMP) + 1).toNatClampNeg p2) ((3 * vMP) + 2).toNatClampNeg p3))), (aMc, .inl (cA, 24, .inl (upd vMc vMP.toNatClampNeg p4))), (aMs, .inl (cZ, 100, .inl (vMs)))] H := hP
    have hD : va_D A [(aM, .inr (7, [.int u_131.2, .int (vMP + 1), .ref aMh, .ref aMi, .ref aMc, .int vMK, .ref aMt, .int vMB, .ref aMn, .ref aMl, .ref aMs, .int vMD, .ref aMd, .int vME, .ref aMe, .int vMO, .ref aMo, .int vMF, .int vMS, .ref aMw, .ref aMu, .int vMX, .int vMW])), (aMh, .inl (cA, 24, .inl (upd vMh vMP.toNatClampNeg p0))), (aMi, .inl (cA, 72, .inl (upd (upd (upd vMi (3 * vMP).toNatClampNeg p1) ((3 * vMP) + 1).toNatClampNeg p2) ((3 * vMP) + 2).toNatClampNeg p3))), (aMc, .inl (cA, 24, .inl (upd vMc vMP.toNatClampNeg p4))), (aMs, .inl (cZ, 100, .inl (vMs)))] := hD
    refine lv_aload_n hx hb qd_M_production_211 rfl (lv_at hl 2 rfl) ?_
    refine lv_iconst (v := 0) hx hb qd_M_production_212 (by decide) ?_
    refine va_put (D := (dC, dI)) (ci := 7) (v := .int 0) (ty := .boolean) (C := qR_M) (T := qT_M) (N := 23) hx hb hg qi_M qt_M qk_M qn_M hown hK hP hD hS 0 rfl rfl 7 (by decide) (hg _ mw_581) (fun _ h9 => h9) rfl (by decide +kernel) rfl rfl (Nat.le_of_ble_eq_true rfl) qd_M_production_213 (fun H locs hP hD hS => ?_)
    have hP : va_P (dC, dI) vwCl [(aM, .inr (7, [.int u_131.2, .int (vMP + 1), .ref aMh, .ref aMi, .ref aMc, .int vMK, .ref aMt, .int 0, .ref aMn, .ref aMl, .ref aMs, .int vMD, .ref aMd, .int vME, .ref aMe, .int vMO, .ref aMo, .int vMF, .int vMS, .ref aMw, .ref aMu, .int vMX, .int vMW])), (aMh, .inl (cA, 24, .inl (upd vMh vMP.toNatClampNeg p0))), (aMi, .inl (cA, 72, .inl (upd (upd (upd vMi (3 * vMP).toNatClampNeg p1) ((3 * vMP) + 1).toNatClampNeg p2) ((3 * vMP) + 2).toNatClampNeg p3))), (aMc, .inl (cA, 24, .inl (upd vMc vMP.toNatClampNeg p4))), (aMs, .inl (cZ, 100, .inl (vMs)))] H := hP
    have hD : va_D A [(aM, .inr (7, [.int u_131.2, .int (vMP + 1), .ref aMh, .ref aMi, .ref aMc, .int vMK, .ref aMt, .int 0, .ref aMn, .ref aMl, .ref aMs, .int vMD, .ref aMd, .int vME, .ref aMe, .int vMO, .ref aMo, .int vMF, .int vMS, .ref aMw, .ref aMu, .int vMX, .int vMW])), (aMh, .inl (cA, 24, .inl (upd vMh vMP.toNatClampNeg p0))), (aMi, .inl (cA, 72, .inl (upd (upd (upd vMi (3 * vMP).toNatClampNeg p1) ((3 * vMP) + 1).toNatClampNeg p2) ((3 * vMP) + 2).toNatClampNeg p3))), (aMc, .inl (cA, 24, .inl (upd vMc vMP.toNatClampNeg p4))), (aMs, .inl (cZ, 100, .inl (vMs)))] := hD
    refine lv_aload_n hx hb qd_M_production_216 rfl (lv_at hl 2 rfl) ?_
    refine va_get (D := (dC, dI)) (ci := 7) (v := .int (vMP + 1)) (C := qR_M) (T := qT_M) (N := 23) hx hb hg qi_M hown hK hP 0 rfl rfl 1 (by decide) (hg _ mw_575) (fun _ h9 => h9) rfl qd_M_production_217 ?_
    refine lv_iconst (v := 1) hx hb qd_M_production_220 (by decide) ?_
    refine lv_isub hx hb qd_M_production_221 ?_
    exact W.iret (v := (vMP + 1) - 1) hx hb hr (fun t ht hW => ⟨⟨_, ((vMP + 1) - 1, u_131.2, vMP + 1, 0, upd vMh vMP.toNatClampNeg p0, upd (upd (upd vMi (3 * vMP).toNatClampNeg p1) ((3 * vMP) + 1).toNatClampNeg p2) ((3 * vMP) + 2).toNatClampNeg p3, upd vMc vMP.toNatClampNeg p4, vMs), rfl, ⟨hres.symm, rfl⟩, ⟨by rw [ht]; exact hP, va_K.moved hW.alike hK, x_N hN hW⟩, hD⟩, hS.F ht⟩) hS.2.2 qd_M_production_222
  have hres := hres.trans (if_neg c_134)
  have ho := (if_neg c_134).mp ho
  refine lv_iconst (v := 0) hx hb qd_M_production_137 (by decide) ?_
  exact W.iret (v := 0) hx hb hr (fun t ht hW => ⟨⟨_, (0, u_131.2, vMP, vMB, vMh, vMi, vMc, vMs), rfl, ⟨hres.symm, rfl⟩, ⟨by rw [ht]; exact hP, va_K.moved hW.alike hK, x_N hN hW⟩, hD⟩, hS.F ht⟩) hS.2.2 qd_M_production_138
