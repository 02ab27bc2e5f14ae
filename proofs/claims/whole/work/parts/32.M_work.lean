theorem qd_M_work_0 : decode qc_M_work 0 = .ok (.iconst 0, 1) := by decide +kernel
theorem qd_M_work_1 : decode qc_M_work 1 = .ok (.istore_n 3, 1) := by decide +kernel
theorem qd_M_work_2 : decode qc_M_work 2 = .ok (.iconst 0, 1) := by decide +kernel
theorem qd_M_work_3 : decode qc_M_work 3 = .ok (.istore 4, 2) := by decide +kernel
theorem qd_M_work_5 : decode qc_M_work 5 = .ok (.iload 4, 2) := by decide +kernel
theorem qd_M_work_7 : decode qc_M_work 7 = .ok (.bipush 10, 2) := by decide +kernel
theorem qd_M_work_9 : decode qc_M_work 9 = .ok (.if_icmp .ge 240, 3) := by decide +kernel
theorem qd_M_work_12 : decode qc_M_work 12 = .ok (.iconst 0, 1) := by decide +kernel
theorem qd_M_work_13 : decode qc_M_work 13 = .ok (.istore 5, 2) := by decide +kernel
theorem qd_M_work_15 : decode qc_M_work 15 = .ok (.ldc 84, 2) := by decide +kernel
theorem qd_M_work_17 : decode qc_M_work 17 = .ok (.istore 6, 2) := by decide +kernel
theorem qd_M_work_19 : decode qc_M_work 19 = .ok (.iconst 0, 1) := by decide +kernel
theorem qd_M_work_20 : decode qc_M_work 20 = .ok (.istore 7, 2) := by decide +kernel
theorem qd_M_work_22 : decode qc_M_work 22 = .ok (.iload 7, 2) := by decide +kernel
theorem qd_M_work_24 : decode qc_M_work 24 = .ok (.aload_n 0, 1) := by decide +kernel
theorem qd_M_work_25 : decode qc_M_work 25 = .ok (.getfield 51, 3) := by decide +kernel
theorem qd_M_work_28 : decode qc_M_work 28 = .ok (.if_icmp .ge 143, 3) := by decide +kernel
theorem qd_M_work_31 : decode qc_M_work 31 = .ok (.aload_n 0, 1) := by decide +kernel
theorem qd_M_work_32 : decode qc_M_work 32 = .ok (.getfield 7, 3) := by decide +kernel
theorem qd_M_work_35 : decode qc_M_work 35 = .ok (.iload 7, 2) := by decide +kernel
theorem qd_M_work_37 : decode qc_M_work 37 = .ok (.iaload, 1) := by decide +kernel
theorem qd_M_work_38 : decode qc_M_work 38 = .ok (.iload 4, 2) := by decide +kernel
theorem qd_M_work_40 : decode qc_M_work 40 = .ok (.if_icmp .eq 6, 3) := by decide +kernel
theorem qd_M_work_43 : decode qc_M_work 43 = .ok (.goto 122, 3) := by decide +kernel
theorem qd_M_work_46 : decode qc_M_work 46 = .ok (.aload_n 0, 1) := by decide +kernel
theorem qd_M_work_47 : decode qc_M_work 47 = .ok (.iload 7, 2) := by decide +kernel
theorem qd_M_work_49 : decode qc_M_work 49 = .ok (.iload_n 1, 1) := by decide +kernel
theorem qd_M_work_50 : decode qc_M_work 50 = .ok (.iload_n 2, 1) := by decide +kernel
theorem qd_M_work_51 : decode qc_M_work 51 = .ok (.invokevirtual 111, 3) := by decide +kernel
theorem qd_M_work_54 : decode qc_M_work 54 = .ok (.aload_n 0, 1) := by decide +kernel
theorem qd_M_work_55 : decode qc_M_work 55 = .ok (.iload 7, 2) := by decide +kernel
theorem qd_M_work_57 : decode qc_M_work 57 = .ok (.iload_n 1, 1) := by decide +kernel
theorem qd_M_work_58 : decode qc_M_work 58 = .ok (.iload_n 2, 1) := by decide +kernel
theorem qd_M_work_59 : decode qc_M_work 59 = .ok (.invokevirtual 115, 3) := by decide +kernel
theorem qd_M_work_62 : decode qc_M_work 62 = .ok (.istore 8, 2) := by decide +kernel
theorem qd_M_work_64 : decode qc_M_work 64 = .ok (.iload 8, 2) := by decide +kernel
theorem qd_M_work_66 : decode qc_M_work 66 = .ok (.ifCond .eq 99, 3) := by decide +kernel
theorem qd_M_work_69 : decode qc_M_work 69 = .ok (.iload 5, 2) := by decide +kernel
theorem qd_M_work_71 : decode qc_M_work 71 = .ok (.aload_n 0, 1) := by decide +kernel
theorem qd_M_work_72 : decode qc_M_work 72 = .ok (.iload 7, 2) := by decide +kernel
theorem qd_M_work_74 : decode qc_M_work 74 = .ok (.iload_n 1, 1) := by decide +kernel
theorem qd_M_work_75 : decode qc_M_work 75 = .ok (.aload_n 0, 1) := by decide +kernel
theorem qd_M_work_76 : decode qc_M_work 76 = .ok (.getfield 105, 3) := by decide +kernel
theorem qd_M_work_79 : decode qc_M_work 79 = .ok (.aload_n 0, 1) := by decide +kernel
theorem qd_M_work_80 : decode qc_M_work 80 = .ok (.getfield 108, 3) := by decide +kernel
theorem qd_M_work_83 : decode qc_M_work 83 = .ok (.iload_n 2, 1) := by decide +kernel
theorem qd_M_work_84 : decode qc_M_work 84 = .ok (.invokevirtual 118, 3) := by decide +kernel
theorem qd_M_work_87 : decode qc_M_work 87 = .ok (.invokestatic 122, 3) := by decide +kernel
theorem qd_M_work_90 : decode qc_M_work 90 = .ok (.istore 5, 2) := by decide +kernel
theorem qd_M_work_92 : decode qc_M_work 92 = .ok (.aload_n 0, 1) := by decide +kernel
theorem qd_M_work_93 : decode qc_M_work 93 = .ok (.iload 7, 2) := by decide +kernel
theorem qd_M_work_95 : decode qc_M_work 95 = .ok (.iload_n 1, 1) := by decide +kernel
theorem qd_M_work_96 : decode qc_M_work 96 = .ok (.aload_n 0, 1) := by decide +kernel
theorem qd_M_work_97 : decode qc_M_work 97 = .ok (.getfield 105, 3) := by decide +kernel
theorem qd_M_work_100 : decode qc_M_work 100 = .ok (.aload_n 0, 1) := by decide +kernel
theorem qd_M_work_101 : decode qc_M_work 101 = .ok (.getfield 108, 3) := by decide +kernel
theorem qd_M_work_104 : decode qc_M_work 104 = .ok (.iload_n 2, 1) := by decide +kernel
theorem qd_M_work_105 : decode qc_M_work 105 = .ok (.invokevirtual 125, 3) := by decide +kernel
theorem qd_M_work_108 : decode qc_M_work 108 = .ok (.istore 9, 2) := by decide +kernel
theorem qd_M_work_110 : decode qc_M_work 110 = .ok (.iload 9, 2) := by decide +kernel
theorem qd_M_work_112 : decode qc_M_work 112 = .ok (.iload 6, 2) := by decide +kernel
theorem qd_M_work_114 : decode qc_M_work 114 = .ok (.if_icmp .ge 8, 3) := by decide +kernel
theorem qd_M_work_117 : decode qc_M_work 117 = .ok (.iload 9, 2) := by decide +kernel
theorem qd_M_work_119 : decode qc_M_work 119 = .ok (.goto 5, 3) := by decide +kernel
theorem qd_M_work_122 : decode qc_M_work 122 = .ok (.iload 6, 2) := by decide +kernel
theorem qd_M_work_124 : decode qc_M_work 124 = .ok (.istore 6, 2) := by decide +kernel
theorem qd_M_work_126 : decode qc_M_work 126 = .ok (.aload_n 0, 1) := by decide +kernel
theorem qd_M_work_127 : decode qc_M_work 127 = .ok (.iload 7, 2) := by decide +kernel
theorem qd_M_work_129 : decode qc_M_work 129 = .ok (.iload_n 1, 1) := by decide +kernel
theorem qd_M_work_130 : decode qc_M_work 130 = .ok (.iload_n 2, 1) := by decide +kernel
theorem qd_M_work_131 : decode qc_M_work 131 = .ok (.invokevirtual 128, 3) := by decide +kernel
theorem qd_M_work_134 : decode qc_M_work 134 = .ok (.aload_n 0, 1) := by decide +kernel
theorem qd_M_work_135 : decode qc_M_work 135 = .ok (.iload 7, 2) := by decide +kernel
theorem qd_M_work_137 : decode qc_M_work 137 = .ok (.invokevirtual 91, 3) := by decide +kernel
theorem qd_M_work_140 : decode qc_M_work 140 = .ok (.iconst 1, 1) := by decide +kernel
theorem qd_M_work_141 : decode qc_M_work 141 = .ok (.if_icmp .le 18, 3) := by decide +kernel
theorem qd_M_work_144 : decode qc_M_work 144 = .ok (.aload_n 0, 1) := by decide +kernel
theorem qd_M_work_145 : decode qc_M_work 145 = .ok (.iload 7, 2) := by decide +kernel
theorem qd_M_work_147 : decode qc_M_work 147 = .ok (.iload_n 1, 1) := by decide +kernel
theorem qd_M_work_148 : decode qc_M_work 148 = .ok (.iload_n 2, 1) := by decide +kernel
theorem qd_M_work_149 : decode qc_M_work 149 = .ok (.invokevirtual 115, 3) := by decide +kernel
theorem qd_M_work_152 : decode qc_M_work 152 = .ok (.ifCond .eq 7, 3) := by decide +kernel
theorem qd_M_work_155 : decode qc_M_work 155 = .ok (.iconst 1, 1) := by decide +kernel
theorem qd_M_work_156 : decode qc_M_work 156 = .ok (.goto 4, 3) := by decide +kernel
theorem qd_M_work_159 : decode qc_M_work 159 = .ok (.iconst 0, 1) := by decide +kernel
theorem qd_M_work_160 : decode qc_M_work 160 = .ok (.istore 8, 2) := by decide +kernel
theorem qd_M_work_162 : decode qc_M_work 162 = .ok (.goto (-98), 3) := by decide +kernel
theorem qd_M_work_165 : decode qc_M_work 165 = .ok (.iinc 7 1, 3) := by decide +kernel
theorem qd_M_work_168 : decode qc_M_work 168 = .ok (.goto (-146), 3) := by decide +kernel
theorem qd_M_work_171 : decode qc_M_work 171 = .ok (.iload_n 3, 1) := by decide +kernel
theorem qd_M_work_172 : decode qc_M_work 172 = .ok (.ifCond .ne 37, 3) := by decide +kernel
theorem qd_M_work_175 : decode qc_M_work 175 = .ok (.aload_n 0, 1) := by decide +kernel
theorem qd_M_work_176 : decode qc_M_work 176 = .ok (.getfield 22, 3) := by decide +kernel
theorem qd_M_work_179 : decode qc_M_work 179 = .ok (.iload 4, 2) := by decide +kernel
theorem qd_M_work_181 : decode qc_M_work 181 = .ok (.iload_n 1, 1) := by decide +kernel
theorem qd_M_work_182 : decode qc_M_work 182 = .ok (.iload_n 2, 1) := by decide +kernel
theorem qd_M_work_183 : decode qc_M_work 183 = .ok (.invokestatic 80, 3) := by decide +kernel
theorem qd_M_work_186 : decode qc_M_work 186 = .ok (.iaload, 1) := by decide +kernel
theorem qd_M_work_187 : decode qc_M_work 187 = .ok (.iload 5, 2) := by decide +kernel
theorem qd_M_work_189 : decode qc_M_work 189 = .ok (.if_icmp .ne 20, 3) := by decide +kernel
theorem qd_M_work_192 : decode qc_M_work 192 = .ok (.aload_n 0, 1) := by decide +kernel
theorem qd_M_work_193 : decode qc_M_work 193 = .ok (.getfield 25, 3) := by decide +kernel
theorem qd_M_work_196 : decode qc_M_work 196 = .ok (.iload 4, 2) := by decide +kernel
theorem qd_M_work_198 : decode qc_M_work 198 = .ok (.iload_n 1, 1) := by decide +kernel
theorem qd_M_work_199 : decode qc_M_work 199 = .ok (.iload_n 2, 1) := by decide +kernel
theorem qd_M_work_200 : decode qc_M_work 200 = .ok (.invokestatic 80, 3) := by decide +kernel
theorem qd_M_work_203 : decode qc_M_work 203 = .ok (.iaload, 1) := by decide +kernel
theorem qd_M_work_204 : decode qc_M_work 204 = .ok (.iload 6, 2) := by decide +kernel
theorem qd_M_work_206 : decode qc_M_work 206 = .ok (.if_icmp .eq 7, 3) := by decide +kernel
theorem qd_M_work_209 : decode qc_M_work 209 = .ok (.iconst 1, 1) := by decide +kernel
theorem qd_M_work_210 : decode qc_M_work 210 = .ok (.goto 4, 3) := by decide +kernel
theorem qd_M_work_213 : decode qc_M_work 213 = .ok (.iconst 0, 1) := by decide +kernel
theorem qd_M_work_214 : decode qc_M_work 214 = .ok (.istore_n 3, 1) := by decide +kernel
theorem qd_M_work_215 : decode qc_M_work 215 = .ok (.aload_n 0, 1) := by decide +kernel
theorem qd_M_work_216 : decode qc_M_work 216 = .ok (.getfield 22, 3) := by decide +kernel
theorem qd_M_work_219 : decode qc_M_work 219 = .ok (.iload 4, 2) := by decide +kernel
theorem qd_M_work_221 : decode qc_M_work 221 = .ok (.iload_n 1, 1) := by decide +kernel
theorem qd_M_work_222 : decode qc_M_work 222 = .ok (.iload_n 2, 1) := by decide +kernel
theorem qd_M_work_223 : decode qc_M_work 223 = .ok (.invokestatic 80, 3) := by decide +kernel
theorem qd_M_work_226 : decode qc_M_work 226 = .ok (.iload 5, 2) := by decide +kernel
theorem qd_M_work_228 : decode qc_M_work 228 = .ok (.iastore, 1) := by decide +kernel
theorem qd_M_work_229 : decode qc_M_work 229 = .ok (.aload_n 0, 1) := by decide +kernel
theorem qd_M_work_230 : decode qc_M_work 230 = .ok (.getfield 25, 3) := by decide +kernel
theorem qd_M_work_233 : decode qc_M_work 233 = .ok (.iload 4, 2) := by decide +kernel
theorem qd_M_work_235 : decode qc_M_work 235 = .ok (.iload_n 1, 1) := by decide +kernel
theorem qd_M_work_236 : decode qc_M_work 236 = .ok (.iload_n 2, 1) := by decide +kernel
theorem qd_M_work_237 : decode qc_M_work 237 = .ok (.invokestatic 80, 3) := by decide +kernel
theorem qd_M_work_240 : decode qc_M_work 240 = .ok (.iload 6, 2) := by decide +kernel
theorem qd_M_work_242 : decode qc_M_work 242 = .ok (.iastore, 1) := by decide +kernel
theorem qd_M_work_243 : decode qc_M_work 243 = .ok (.iinc 4 1, 3) := by decide +kernel
theorem qd_M_work_246 : decode qc_M_work 246 = .ok (.goto (-241), 3) := by decide +kernel
theorem qd_M_work_249 : decode qc_M_work 249 = .ok (.iload_n 3, 1) := by decide +kernel
theorem qd_M_work_250 : decode qc_M_work 250 = .ok (.ireturn, 1) := by decide +kernel
set_option maxHeartbeats 4000000 in
set_option maxRecDepth 100000 in
theorem c_M_work (l : Launch) (dC : Nat → ClassId) (dI : Nat → Nat → Nat) (cA cZ : ClassId) (N_ : Nat) (aM aMh aMi aMc aMt aMn aMl aMs aMd aMe aMo aMw aMu : Nat) (sz : Nat) (vMT : Int32) (vMP : Int32) (vMK : Int32) (vMB : Int32) (vMD : Int32) (vME : Int32) (vMO : Int32) (vMF : Int32) (vMS : Int32) (vMX : Int32) (vMW : Int32) (vMh : (Nat → Int32)) (vMi : (Nat → Int32)) (vMc : (Nat → Int32)) (vMt : (Nat → Int32)) (vMn : (Nat → Int32)) (vMl : (Nat → Int32)) (p0 : Int32) (p1 : Int32) (ho : o_M_work N_ vMP vMF vMS vMh vMi vMc vMt vMn vMl p0 p1) : Met l qy_M_work qw_M_work ({ frames := 3, cells := 0, slots := 0, locals := 71 }) (va_Pc [.ref aM, .int p0, .int p1] (fun U => U.heap.size = sz ∧ xP (dC, dI) [(cA, .int), (cZ, .boolean)] [(aM, .inr (7, [.int vMT, .int vMP, .ref aMh, .ref aMi, .ref aMc, .int vMK, .ref aMt, .int vMB, .ref aMn, .ref aMl, .ref aMs, .int vMD, .ref aMd, .int vME, .ref aMe, .int vMO, .ref aMo, .int vMF, .int vMS, .ref aMw, .ref aMu, .int vMX, .int vMW])), (aMh, .inl (cA, 24, .inl (vMh))), (aMi, .inl (cA, 72, .inl (vMi))), (aMc, .inl (cA, 24, .inl (vMc))), (aMt, .inl (cA, 24, .inl (vMt))), (aMn, .inl (cA, 6250, .inl (vMn))), (aMl, .inl (cA, 6250, .inl (vMl)))] nestN U ∧ va_D (fun _ => True) [(aM, .inr (7, [.int vMT, .int vMP, .ref aMh, .ref aMi, .ref aMc, .int vMK, .ref aMt, .int vMB, .ref aMn, .ref aMl, .ref aMs, .int vMD, .ref aMd, .int vME, .ref aMe, .int vMO, .ref aMo, .int vMF, .int vMS, .ref aMw, .ref aMu, .int vMX, .int vMW])), (aMh, .inl (cA, 24, .inl (vMh))), (aMi, .inl (cA, 72, .inl (vMi))), (aMc, .inl (cA, 24, .inl (vMc))), (aMt, .inl (cA, 24, .inl (vMt))), (aMn, .inl (cA, 6250, .inl (vMn))), (aMl, .inl (cA, 6250, .inl (vMl)))])) (va_Qi (fun r (u : Int32 × Int32 × Int32 × (Nat → Int32) × (Nat → Int32)) => u = f_M_work N_ vMP vMF vMS vMh vMi vMc vMt vMn vMl p0 p1 ∧ r = u.1) (fun (u : Int32 × Int32 × Int32 × (Nat → Int32) × (Nat → Int32)) t => xP (dC, dI) [(cA, .int), (cZ, .boolean)] [(aM, .inr (7, [.int vMT, .int vMP, .ref aMh, .ref aMi, .ref aMc, .int vMK, .ref aMt, .int vMB, .ref aMn, .ref aMl, .ref aMs, .int vMD, .ref aMd, .int vME, .ref aMe, .int vMO, .ref aMo, .int u.2.1, .int u.2.2.1, .ref aMw, .ref aMu, .int vMX, .int vMW])), (aMh, .inl (cA, 24, .inl (vMh))), (aMi, .inl (cA, 72, .inl (vMi))), (aMc, .inl (cA, 24, .inl (vMc))), (aMt, .inl (cA, 24, .inl (vMt))), (aMn, .inl (cA, 6250, .inl (u.2.2.2.1))), (aMl, .inl (cA, 6250, .inl (u.2.2.2.2)))] nestN t ∧ va_D (va_A [(aM, .inr (7, [.int vMT, .int vMP, .ref aMh, .ref aMi, .ref aMc, .int vMK, .ref aMt, .int vMB, .ref aMn, .ref aMl, .ref aMs, .int vMD, .ref aMd, .int vME, .ref aMe, .int vMO, .ref aMo, .int vMF, .int vMS, .ref aMw, .ref aMu, .int vMX, .int vMW])), (aMh, .inl (cA, 24, .inl (vMh))), (aMi, .inl (cA, 72, .inl (vMi))), (aMc, .inl (cA, 24, .inl (vMc))), (aMt, .inl (cA, 24, .inl (vMt))), (aMn, .inl (cA, 6250, .inl (vMn))), (aMl, .inl (cA, 6250, .inl (vMl)))] sz) [(aM, .inr (7, [.int vMT, .int vMP, .ref aMh, .ref aMi, .ref aMc, .int vMK, .ref aMt, .int vMB, .ref aMn, .ref aMl, .ref aMs, .int vMD, .ref aMd, .int vME, .ref aMe, .int vMO, .ref aMo, .int u.2.1, .int u.2.2.1, .ref aMw, .ref aMu, .int vMX, .int vMW])), (aMh, .inl (cA, 24, .inl (vMh))), (aMi, .inl (cA, 72, .inl (vMi))), (aMc, .inl (cA, 24, .inl (vMc))), (aMt, .inl (cA, 24, .inl (vMt))), (aMn, .inl (cA, 6250, .inl (u.2.2.2.1))), (aMl, .inl (cA, 6250, .inl (u.2.2.2.2)))]) (va_A [(aM, .inr (7, [.int vMT, .int vMP, .ref aMh, .ref aMi, .ref aMc, .int vMK, .ref aMt, .int vMB, .ref aMn, .ref aMl, .ref aMs, .int vMD, .ref aMd, .int vME, .ref aMe, .int vMO, .ref aMo, .int vMF, .int vMS, .ref aMw, .ref aMu, .int vMX, .int vMW])), (aMh, .inl (cA, 24, .inl (vMh))), (aMi, .inl (cA, 72, .inl (vMi))), (aMc, .inl (cA, 24, .inl (vMc))), (aMt, .inl (cA, 24, .inl (vMt))), (aMn, .inl (cA, 6250, .inl (vMn))), (aMl, .inl (cA, 6250, .inl (vMl)))] sz)) 0 0 (va_A [(aM, .inr (7, [.int vMT, .int vMP, .ref aMh, .ref aMi, .ref aMc, .int vMK, .ref aMt, .int vMB, .ref aMn, .ref aMl, .ref aMs, .int vMD, .ref aMd, .int vME, .ref aMe, .int vMO, .ref aMo, .int vMF, .int vMS, .ref aMw, .ref aMu, .int vMX, .int vMW])), (aMh, .inl (cA, 24, .inl (vMh))), (aMi, .inl (cA, 72, .inl (vMi))), (aMc, .inl (cA, 24, .inl (vMc))), (aMt, .inl (cA, 24, .inl (vMt))), (aMn, .inl (cA, 6250, .inl (vMn))), (aMl, .inl (cA, 6250, .inl (vMl)))] sz) := by
  refine Met.ofW (cc := qc_M_work) (maxL := 10) (ret := (some .boolean)) (by decide) rfl ?_
  intro p e s m args below meth c s₁ B hml hv
  obtain ⟨rfl, hsz, ⟨hP, hK, hN⟩, hD0⟩ := hv
  have hx := B.exec
  have hb := B.bytes
  have hr := B.returns
  have hts := atoms_spec (ws := qw_M_work) B.pre
  have hg : ∀ w ∈ gG, w.before _ s = true := fun w h => hts w (List.mem_cons_of_mem _ h)
  have hown : s.vm.findClass qR_M = some m.cls := findClass_of_methodNamed B.named
  have hlocks := B.notSynchronized
  subst hsz
  have hD := hD0.self (sz := s.heap.size)
  generalize hAe : va_A [(aM, .inr (7, [.int vMT, .int vMP, .ref aMh, .ref aMi, .ref aMc, .int vMK, .ref aMt, .int vMB, .ref aMn, .ref aMl, .ref aMs, .int vMD, .ref aMd, .int vME, .ref aMe, .int vMO, .ref aMo, .int vMF, .int vMS, .ref aMw, .ref aMu, .int vMX, .int vMW])), (aMh, .inl (cA, 24, .inl (vMh))), (aMi, .inl (cA, 72, .inl (vMi))), (aMc, .inl (cA, 24, .inl (vMc))), (aMt, .inl (cA, 24, .inl (vMt))), (aMn, .inl (cA, 6250, .inl (vMn))), (aMl, .inl (cA, 6250, .inl (vMl)))] s.heap.size = A at hD ⊢
  have hA : ∀ q : Nat, s.heap.size ≤ q → A q := fun q h => by rw [← hAe]; exact Or.inr h
  have hS : va_S A s.heap s.heap [] := va_S.rf
  have hP : va_P (dC, dI) vwCl [(aM, .inr (7, [.int vMT, .int vMP, .ref aMh, .ref aMi, .ref aMc, .int vMK, .ref aMt, .int vMB, .ref aMn, .ref aMl, .ref aMs, .int vMD, .ref aMd, .int vME, .ref aMe, .int vMO, .ref aMo, .int vMF, .int vMS, .ref aMw, .ref aMu, .int vMX, .int vMW])), (aMh, .inl (cA, 24, .inl (vMh))), (aMi, .inl (cA, 72, .inl (vMi))), (aMc, .inl (cA, 24, .inl (vMc))), (aMt, .inl (cA, 24, .inl (vMt))), (aMn, .inl (cA, 6250, .inl (vMn))), (aMl, .inl (cA, 6250, .inl (vMl)))] s.heap := hP
  have hl := lv_entry ([.ref aM, .int p0, .int p1]) (n := 10) (Nat.le_of_ble_eq_true rfl)
  rw [lg_entry_eq]
  generalize (lg_sl ([.ref aM, .int p0, .int p1]) ++ List.replicate (10 - (lg_sl ([.ref aM, .int p0, .int p1])).length) Slot.unset).toArray = ls at hl ⊢
  have hl : lv_has ls 10 [(0, .ref aM), (1, .int p0), (2, .int p1)] := hl
  generalize hF : f_M_work N_ vMP vMF vMS vMh vMi vMc vMt vMn vMl p0 p1 = Fv
  have hres : Fv = f_M_work N_ vMP vMF vMS vMh vMi vMc vMt vMn vMl p0 p1 := hF.symm
  unfold f_M_work at hres
  unfold o_M_work at ho
  generalize hQ : MQ _ _ _ _ _ _ _ = Qg
  refine lv_iconst (v := 0) hx hb qd_M_work_0 (by decide) ?_
  refine lv_istore_n (lv' := [(3, .int 0), (0, .ref aM), (1, .int p0), (2, .int p1)]) hx hb qd_M_work_1 rfl hl (by decide) rfl (fun ls hl => ?_)
  refine lv_iconst (v := 0) hx hb qd_M_work_2 (by decide) ?_
  refine lv_istore (lv' := [(4, .int 0), (3, .int 0), (0, .ref aM), (1, .int p0), (2, .int p1)]) hx hb qd_M_work_3 hl (by decide) rfl (fun ls hl => ?_)
  have L_5 : ∀ (K_ : Int32 → Int32 → Int32 → Int32 → (Nat → Int32) → (Nat → Int32) → Int32 × Int32 × Int32 × (Nat → Int32) × (Nat → Int32)) (Ko_ : Int32 → Int32 → Int32 → Int32 → (Nat → Int32) → (Nat → Int32) → Prop) (hk : ∀ (x3_5 : Int32) (x4_5 : Int32) (vMF_5 : Int32) (vMS_5 : Int32) (vMn_5 : (Nat → Int32)) (vMl_5 : (Nat → Int32)) (H : Heap) (locs : List Loc) (ls : Array Slot), va_P (dC, dI) vwCl [(aM, .inr (7, [.int vMT, .int vMP, .ref aMh, .ref aMi, .ref aMc, .int vMK, .ref aMt, .int vMB, .ref aMn, .ref aMl, .ref aMs, .int vMD, .ref aMd, .int vME, .ref aMe, .int vMO, .ref aMo, .int vMF_5, .int vMS_5, .ref aMw, .ref aMu, .int vMX, .int vMW])), (aMh, .inl (cA, 24, .inl (vMh))), (aMi, .inl (cA, 72, .inl (vMi))), (aMc, .inl (cA, 24, .inl (vMc))), (aMt, .inl (cA, 24, .inl (vMt))), (aMn, .inl (cA, 6250, .inl (vMn_5))), (aMl, .inl (cA, 6250, .inl (vMl_5)))] H → va_D A [(aM, .inr (7, [.int vMT, .int vMP, .ref aMh, .ref aMi, .ref aMc, .int vMK, .ref aMt, .int vMB, .ref aMn, .ref aMl, .ref aMs, .int vMD, .ref aMd, .int vME, .ref aMe, .int vMO, .ref aMo, .int vMF_5, .int vMS_5, .ref aMw, .ref aMu, .int vMX, .int vMW])), (aMh, .inl (cA, 24, .inl (vMh))), (aMi, .inl (cA, 72, .inl (vMi))), (aMc, .inl (cA, 24, .inl (vMc))), (aMt, .inl (cA, 24, .inl (vMt))), (aMn, .inl (cA, 6250, .inl (vMn_5))), (aMl, .inl (cA, 6250, .inl (vMl_5)))] → va_S A s.heap H locs → lv_has ls 10 [(4, .int x4_5), (3, .int x3_5), (0, .ref aM), (1, .int p0), (2, .int p1)] → Fv = K_ x3_5 x4_5 vMF_5 vMS_5 vMn_5 vMl_5 → Ko_ x3_5 x4_5 vMF_5 vMS_5 vMn_5 vMl_5 → W p l e ({ frames := 3, cells := 0, slots := 0, locals := 71 } : Room) s m (([.ref aM, .int p0, .int p1] : List Value).toArray) below meth c H locs 0 0 Qg (F0 m 249 ls [])) (n : Nat) (x3_5 : Int32) (x4_5 : Int32) (vMF_5 : Int32) (vMS_5 : Int32) (vMn_5 : (Nat → Int32)) (vMl_5 : (Nat → Int32)) (H : Heap) (locs : List Loc) (ls : Array Slot), va_P (dC, dI) vwCl [(aM, .inr (7, [.int vMT, .int vMP, .ref aMh, .ref aMi, .ref aMc, .int vMK, .ref aMt, .int vMB, .ref aMn, .ref aMl, .ref aMs, .int vMD, .ref aMd, .int vME, .ref aMe, .int vMO, .ref aMo, .int vMF_5, .int vMS_5, .ref aMw, .ref aMu, .int vMX, .int vMW])), (aMh, .inl (cA, 24, .inl (vMh))), (aMi, .inl (cA, 72, .inl (vMi))), (aMc, .inl (cA, 24, .inl (vMc))), (aMt, .inl (cA, 24, .inl (vMt))), (aMn, .inl (cA, 6250, .inl (vMn_5))), (aMl, .inl (cA, 6250, .inl (vMl_5)))] H → va_D A [(aM, .inr (7, [.int vMT, .int vMP, .ref aMh, .ref aMi, .ref aMc, .int vMK, .ref aMt, .int vMB, .ref aMn, .ref aMl, .ref aMs, .int vMD, .ref aMd, .int vME, .ref aMe, .int vMO, .ref aMo, .int vMF_5, .int vMS_5, .ref aMw, .ref aMu, .int vMX, .int vMW])), (aMh, .inl (cA, 24, .inl (vMh))), (aMi, .inl (cA, 72, .inl (vMi))), (aMc, .inl (cA, 24, .inl (vMc))), (aMt, .inl (cA, 24, .inl (vMt))), (aMn, .inl (cA, 6250, .inl (vMn_5))), (aMl, .inl (cA, 6250, .inl (vMl_5)))] → va_S A s.heap H locs → lv_has ls 10 [(4, .int x4_5), (3, .int x3_5), (0, .ref aM), (1, .int p0), (2, .int p1)] → Fv = l_M_work_5 N_ p0 p1 vMP vMh vMi vMc vMt K_ n x3_5 x4_5 vMF_5 vMS_5 vMn_5 vMl_5 → ol_M_work_5 N_ p0 p1 vMP vMh vMi vMc vMt Ko_ n x3_5 x4_5 vMF_5 vMS_5 vMn_5 vMl_5 → W p l e ({ frames := 3, cells := 0, slots := 0, locals := 71 } : Room) s m (([.ref aM, .int p0, .int p1] : List Value).toArray) below meth c H locs 0 0 Qg (F0 m 5 ls []) := by
    intro K_ Ko_ hk n
    induction n with
    | zero => intro x3_5 x4_5 vMF_5 vMS_5 vMn_5 vMl_5 H locs ls hP hD hS hl hres ho; exact ho.elim
    | succ n ih =>
      intro x3_5 x4_5 vMF_5 vMS_5 vMn_5 vMl_5 H locs ls hP hD hS hl hres ho
      rw [l_M_work_5, s_M_work_5] at hres
      rw [ol_M_work_5, os_M_work_5] at ho
      refine lv_iload hx hb qd_M_work_5 (lv_at hl 0 rfl) ?_
      refine lv_bipush (v := 10) hx hb qd_M_work_7 (by decide) ?_
      refine lv_icmp_ge (tgt := 249) hx hb qd_M_work_9 (by decide) (fun c_9 => ?_) (fun c_9 => ?_)
      · have hres := hres.trans (if_pos c_9)
        have ho := (if_pos c_9).mp ho
        exact hk x3_5 x4_5 vMF_5 vMS_5 vMn_5 vMl_5 H locs ls hP hD hS (lv_sub hl [0, 1, 2, 3, 4] rfl) hres ho
      have hres := hres.trans (if_neg c_9)
      have ho := (if_neg c_9).mp ho
      refine lv_iconst (v := 0) hx hb qd_M_work_12 (by decide) ?_
      refine lv_istore (lv' := [(5, .int 0), (4, .int x4_5), (3, .int x3_5), (0, .ref aM), (1, .int p0), (2, .int p1)]) hx hb qd_M_work_13 hl (by decide) rfl (fun ls hl => ?_)
      refine lv_ldc (v := 2000000000) hx hb hown (hg _ mw_666) qd_M_work_15 ?_
      refine lv_istore (lv' := [(6, .int 2000000000), (5, .int 0), (4, .int x4_5), (3, .int x3_5), (0, .ref aM), (1, .int p0), (2, .int p1)]) hx hb qd_M_work_17 hl (by decide) rfl (fun ls hl => ?_)
      refine lv_iconst (v := 0) hx hb qd_M_work_19 (by decide) ?_
      refine lv_istore (lv' := [(7, .int 0), (6, .int 2000000000), (5, .int 0), (4, .int x4_5), (3, .int x3_5), (0, .ref aM), (1, .int p0), (2, .int p1)]) hx hb qd_M_work_20 hl (by decide) rfl (fun ls hl => ?_)
      have L_22 : ∀ (K_ : Int32 → Int32 → Int32 → Int32 → Int32 → Int32 × Int32 × Int32 × (Nat → Int32) × (Nat → Int32)) (Ko_ : Int32 → Int32 → Int32 → Int32 → Int32 → Prop) (hk : ∀ (x5_22 : Int32) (x6_22 : Int32) (x7_22 : Int32) (vMF_22 : Int32) (vMS_22 : Int32) (H : Heap) (locs : List Loc) (ls : Array Slot), va_P (dC, dI) vwCl [(aM, .inr (7, [.int vMT, .int vMP, .ref aMh, .ref aMi, .ref aMc, .int vMK, .ref aMt, .int vMB, .ref aMn, .ref aMl, .ref aMs, .int vMD, .ref aMd, .int vME, .ref aMe, .int vMO, .ref aMo, .int vMF_22, .int vMS_22, .ref aMw, .ref aMu, .int vMX, .int vMW])), (aMh, .inl (cA, 24, .inl (vMh))), (aMi, .inl (cA, 72, .inl (vMi))), (aMc, .inl (cA, 24, .inl (vMc))), (aMt, .inl (cA, 24, .inl (vMt))), (aMn, .inl (cA, 6250, .inl (vMn_5))), (aMl, .inl (cA, 6250, .inl (vMl_5)))] H → va_D A [(aM, .inr (7, [.int vMT, .int vMP, .ref aMh, .ref aMi, .ref aMc, .int vMK, .ref aMt, .int vMB, .ref aMn, .ref aMl, .ref aMs, .int vMD, .ref aMd, .int vME, .ref aMe, .int vMO, .ref aMo, .int vMF_22, .int vMS_22, .ref aMw, .ref aMu, .int vMX, .int vMW])), (aMh, .inl (cA, 24, .inl (vMh))), (aMi, .inl (cA, 72, .inl (vMi))), (aMc, .inl (cA, 24, .inl (vMc))), (aMt, .inl (cA, 24, .inl (vMt))), (aMn, .inl (cA, 6250, .inl (vMn_5))), (aMl, .inl (cA, 6250, .inl (vMl_5)))] → va_S A s.heap H locs → lv_has ls 10 [(7, .int x7_22), (6, .int x6_22), (5, .int x5_22), (4, .int x4_5), (3, .int x3_5), (0, .ref aM), (1, .int p0), (2, .int p1)] → Fv = K_ x5_22 x6_22 x7_22 vMF_22 vMS_22 → Ko_ x5_22 x6_22 x7_22 vMF_22 vMS_22 → W p l e ({ frames := 3, cells := 0, slots := 0, locals := 71 } : Room) s m (([.ref aM, .int p0, .int p1] : List Value).toArray) below meth c H locs 0 0 Qg (F0 m 171 ls [])) (n : Nat) (x5_22 : Int32) (x6_22 : Int32) (x7_22 : Int32) (vMF_22 : Int32) (vMS_22 : Int32) (H : Heap) (locs : List Loc) (ls : Array Slot), va_P (dC, dI) vwCl [(aM, .inr (7, [.int vMT, .int vMP, .ref aMh, .ref aMi, .ref aMc, .int vMK, .ref aMt, .int vMB, .ref aMn, .ref aMl, .ref aMs, .int vMD, .ref aMd, .int vME, .ref aMe, .int vMO, .ref aMo, .int vMF_22, .int vMS_22, .ref aMw, .ref aMu, .int vMX, .int vMW])), (aMh, .inl (cA, 24, .inl (vMh))), (aMi, .inl (cA, 72, .inl (vMi))), (aMc, .inl (cA, 24, .inl (vMc))), (aMt, .inl (cA, 24, .inl (vMt))), (aMn, .inl (cA, 6250, .inl (vMn_5))), (aMl, .inl (cA, 6250, .inl (vMl_5)))] H → va_D A [(aM, .inr (7, [.int vMT, .int vMP, .ref aMh, .ref aMi, .ref aMc, .int vMK, .ref aMt, .int vMB, .ref aMn, .ref aMl, .ref aMs, .int vMD, .ref aMd, .int vME, .ref aMe, .int vMO, .ref aMo, .int vMF_22, .int vMS_22, .ref aMw, .ref aMu, .int vMX, .int vMW])), (aMh, .inl (cA, 24, .inl (vMh))), (aMi, .inl (cA, 72, .inl (vMi))), (aMc, .inl (cA, 24, .inl (vMc))), (aMt, .inl (cA, 24, .inl (vMt))), (aMn, .inl (cA, 6250, .inl (vMn_5))), (aMl, .inl (cA, 6250, .inl (vMl_5)))] → va_S A s.heap H locs → lv_has ls 10 [(7, .int x7_22), (6, .int x6_22), (5, .int x5_22), (4, .int x4_5), (3, .int x3_5), (0, .ref aM), (1, .int p0), (2, .int p1)] → Fv = l_M_work_22 N_ p0 p1 x4_5 vMP vMh vMi vMc vMt vMn_5 vMl_5 K_ n x5_22 x6_22 x7_22 vMF_22 vMS_22 → ol_M_work_22 N_ p0 p1 x4_5 vMP vMh vMi vMc vMt vMn_5 vMl_5 Ko_ n x5_22 x6_22 x7_22 vMF_22 vMS_22 → W p l e ({ frames := 3, cells := 0, slots := 0, locals := 71 } : Room) s m (([.ref aM, .int p0, .int p1] : List Value).toArray) below meth c H locs 0 0 Qg (F0 m 22 ls []) := by
        intro K_ Ko_ hk n
        induction n with
        | zero => intro x5_22 x6_22 x7_22 vMF_22 vMS_22 H locs ls hP hD hS hl hres ho; exact ho.elim
        | succ n ih =>
          intro x5_22 x6_22 x7_22 vMF_22 vMS_22 H locs ls hP hD hS hl hres ho
          rw [l_M_work_22, s_M_work_22] at hres
          rw [ol_M_work_22, os_M_work_22] at ho
          refine lv_iload hx hb qd_M_work_22 (lv_at hl 0 rfl) ?_
          refine lv_aload_n hx hb qd_M_work_24 rfl (lv_at hl 5 rfl) ?_
          refine va_get (D := (dC, dI)) (ci := 7) (v := .int vMP) (C := qR_M) (T := qT_M) (N := 23) hx hb hg qi_M hown hK hP 0 rfl rfl 1 (by decide) (hg _ mw_575) (fun _ h9 => h9) rfl qd_M_work_25 ?_
          refine lv_icmp_ge (tgt := 171) hx hb qd_M_work_28 (by decide) (fun c_28 => ?_) (fun c_28 => ?_)
          · have hres := hres.trans (if_pos c_28)
            have ho := (if_pos c_28).mp ho
            exact hk x5_22 x6_22 x7_22 vMF_22 vMS_22 H locs ls hP hD hS (lv_sub hl [0, 1, 2, 3, 4, 5, 6, 7] rfl) hres ho
          have hres := hres.trans (if_neg c_28)
          have ho := (if_neg c_28).mp ho
          refine lv_aload_n hx hb qd_M_work_31 rfl (lv_at hl 5 rfl) ?_
          refine va_get (D := (dC, dI)) (ci := 7) (v := .ref aMh) (C := qR_M) (T := qT_M) (N := 23) hx hb hg qi_M hown hK hP 0 rfl rfl 2 (by decide) (hg _ mw_576) (fun _ h9 => h9) rfl qd_M_work_32 ?_
          refine lv_iload hx hb qd_M_work_35 (lv_at hl 0 rfl) ?_
          obtain ⟨g_37, ho⟩ := ho
          refine va_iald hx hb hK hP 1 0 rfl rfl g_37 qd_M_work_37 ?_
          refine lv_iload hx hb qd_M_work_38 (lv_at hl 3 rfl) ?_
          refine lv_icmp_eq (tgt := 46) hx hb qd_M_work_40 (by decide) (fun c_40 => ?_) (fun c_40 => ?_)
          · have hres := hres.trans (if_pos c_40)
            have ho := (if_pos c_40).mp ho
            refine lv_aload_n hx hb qd_M_work_46 rfl (lv_at hl 5 rfl) ?_
            refine lv_iload hx hb qd_M_work_47 (lv_at hl 0 rfl) ?_
            refine lv_iload_n hx hb qd_M_work_49 rfl (lv_at hl 6 rfl) ?_
            refine lv_iload_n hx hb qd_M_work_50 rfl (lv_at hl 7 rfl) ?_
            obtain ⟨g_51, ho⟩ := ho
            refine xm_Vv (As := [.int x7_22, .int p0, .int p1]) (rest := []) (w1 := fun (u_51 : Int32 × Int32) => [(aM, .inr (7, [.int vMT, .int vMP, .ref aMh, .ref aMi, .ref aMc, .int vMK, .ref aMt, .int vMB, .ref aMn, .ref aMl, .ref aMs, .int vMD, .ref aMd, .int vME, .ref aMe, .int vMO, .ref aMo, .int u_51.1, .int u_51.2, .ref aMw, .ref aMu, .int vMX, .int vMW])), (aMi, .inl (cA, 72, .inl (vMi)))]) (w2 := fun (u_51 : Int32 × Int32) => [(aM, .inr (7, [.int vMT, .int vMP, .ref aMh, .ref aMi, .ref aMc, .int vMK, .ref aMt, .int vMB, .ref aMn, .ref aMl, .ref aMs, .int vMD, .ref aMd, .int vME, .ref aMe, .int vMO, .ref aMo, .int u_51.1, .int u_51.2, .ref aMw, .ref aMu, .int vMX, .int vMW])), (aMh, .inl (cA, 24, .inl (vMh))), (aMi, .inl (cA, 72, .inl (vMi))), (aMc, .inl (cA, 24, .inl (vMc))), (aMt, .inl (cA, 24, .inl (vMt))), (aMn, .inl (cA, 6250, .inl (vMn_5))), (aMl, .inl (cA, 6250, .inl (vMl_5)))]) ⟨hx, hb, hml, hown, hg⟩ (c_M_begin l dC dI cA cZ aM aMh aMi aMc aMt aMn aMl aMs aMd aMe aMo aMw aMu _ vMT vMP vMK vMB vMD vME vMO vMF_22 vMS_22 vMX vMW vMi x7_22 p0 p1 g_51) (cwV 3 hg (q_gV mw_670 mw_671 mw_775 mw_8 mw_672) rfl rfl rfl qh_M_begin ⟨Nat.le_of_ble_eq_true rfl, Nat.le_of_ble_eq_true rfl⟩) hN hK hP hD hS hA [0, 2] [1, 3, 4, 5, 6] rfl rfl (by decide) (by decide) (by decide) [5, 0, 6, 1, 2, 3, 4] (fun _ => rfl) (by decide) 0 7 rfl rfl rfl hl.1 rfl (Nat.le_of_ble_eq_true rfl) qd_M_work_51 ⟨Nat.zero_le _, Nat.zero_le _⟩ (fun u_51 H locs w_51 hP hD hS => ?_)
            have hP : va_P (dC, dI) vwCl [(aM, .inr (7, [.int vMT, .int vMP, .ref aMh, .ref aMi, .ref aMc, .int vMK, .ref aMt, .int vMB, .ref aMn, .ref aMl, .ref aMs, .int vMD, .ref aMd, .int vME, .ref aMe, .int vMO, .ref aMo, .int u_51.1, .int u_51.2, .ref aMw, .ref aMu, .int vMX, .int vMW])), (aMh, .inl (cA, 24, .inl (vMh))), (aMi, .inl (cA, 72, .inl (vMi))), (aMc, .inl (cA, 24, .inl (vMc))), (aMt, .inl (cA, 24, .inl (vMt))), (aMn, .inl (cA, 6250, .inl (vMn_5))), (aMl, .inl (cA, 6250, .inl (vMl_5)))] H := hP
            have hD : va_D A [(aM, .inr (7, [.int vMT, .int vMP, .ref aMh, .ref aMi, .ref aMc, .int vMK, .ref aMt, .int vMB, .ref aMn, .ref aMl, .ref aMs, .int vMD, .ref aMd, .int vME, .ref aMe, .int vMO, .ref aMo, .int u_51.1, .int u_51.2, .ref aMw, .ref aMu, .int vMX, .int vMW])), (aMh, .inl (cA, 24, .inl (vMh))), (aMi, .inl (cA, 72, .inl (vMi))), (aMc, .inl (cA, 24, .inl (vMc))), (aMt, .inl (cA, 24, .inl (vMt))), (aMn, .inl (cA, 6250, .inl (vMn_5))), (aMl, .inl (cA, 6250, .inl (vMl_5)))] := hD
            have hres := hres.trans (bd_eq w_51)
            have ho := (bd_eq w_51).mp ho
            refine lv_aload_n hx hb qd_M_work_54 rfl (lv_at hl 5 rfl) ?_
            refine lv_iload hx hb qd_M_work_55 (lv_at hl 0 rfl) ?_
            refine lv_iload_n hx hb qd_M_work_57 rfl (lv_at hl 6 rfl) ?_
            refine lv_iload_n hx hb qd_M_work_58 rfl (lv_at hl 7 rfl) ?_
            obtain ⟨g_59, ho⟩ := ho
            refine xc_V (As := [.int x7_22, .int p0, .int p1]) (rest := []) ⟨hx, hb, hml, hown, hg⟩ (c_M_isParted l dC dI cA cZ aM aMh aMi aMc aMt aMn aMl aMs aMd aMe aMo aMw aMu vMT vMP vMK vMB vMD vME vMO u_51.1 u_51.2 vMX vMW vMi x7_22 p0 p1 g_59) (cwV 3 hg (q_gV mw_676 mw_677 mw_777 mw_8 mw_678) rfl rfl rfl qh_M_isParted ⟨Nat.le_of_ble_eq_true rfl, Nat.le_of_ble_eq_true rfl⟩) hN hK hP [0, 2] rfl 0 7 rfl rfl rfl hl.1 rfl (Nat.le_of_ble_eq_true rfl) qd_M_work_59 ⟨Nat.zero_le _, Nat.zero_le _⟩ ?_
            refine lv_topi (fun r_59 w_59 => ?_)
            have hres := hres.trans (bd_eq w_59)
            have ho := (bd_eq w_59).mp ho
            refine lv_istore (lv' := [(8, .int r_59), (7, .int x7_22), (6, .int x6_22), (5, .int x5_22), (4, .int x4_5), (3, .int x3_5), (0, .ref aM), (1, .int p0), (2, .int p1)]) hx hb qd_M_work_62 hl (by decide) rfl (fun ls hl => ?_)
            have L_64 : ∀ (K_ : Int32 → Int32 → Int32 → Int32 → Int32 → Int32 × Int32 × Int32 × (Nat → Int32) × (Nat → Int32)) (Ko_ : Int32 → Int32 → Int32 → Int32 → Int32 → Prop) (hk : ∀ (x5_64 : Int32) (x6_64 : Int32) (x8_64 : Int32) (vMF_64 : Int32) (vMS_64 : Int32) (H : Heap) (locs : List Loc) (ls : Array Slot), va_P (dC, dI) vwCl [(aM, .inr (7, [.int vMT, .int vMP, .ref aMh, .ref aMi, .ref aMc, .int vMK, .ref aMt, .int vMB, .ref aMn, .ref aMl, .ref aMs, .int vMD, .ref aMd, .int vME, .ref aMe, .int vMO, .ref aMo, .int vMF_64, .int vMS_64, .ref aMw, .ref aMu, .int vMX, .int vMW])), (aMh, .inl (cA, 24, .inl (vMh))), (aMi, .inl (cA, 72, .inl (vMi))), (aMc, .inl (cA, 24, .inl (vMc))), (aMt, .inl (cA, 24, .inl (vMt))), (aMn, .inl (cA, 6250, .inl (vMn_5))), (aMl, .inl (cA, 6250, .inl (vMl_5)))] H → va_D A [(aM, .inr (7, [.int vMT, .int vMP, .ref aMh, .ref aMi, .ref aMc, .int vMK, .ref aMt, .int vMB, .ref aMn, .ref aMl, .ref aMs, .int vMD, .ref aMd, .int vME, .ref aMe, .int vMO, .ref aMo, .int vMF_64, .int vMS_64, .ref aMw, .ref aMu, .int vMX, .int vMW])), (aMh, .inl (cA, 24, .inl (vMh))), (aMi, .inl (cA, 72, .inl (vMi))), (aMc, .inl (cA, 24, .inl (vMc))), (aMt, .inl (cA, 24, .inl (vMt))), (aMn, .inl (cA, 6250, .inl (vMn_5))), (aMl, .inl (cA, 6250, .inl (vMl_5)))] → va_S A s.heap H locs → lv_has ls 10 [(8, .int x8_64), (7, .int x7_22), (6, .int x6_64), (5, .int x5_64), (4, .int x4_5), (3, .int x3_5), (0, .ref aM), (1, .int p0), (2, .int p1)] → Fv = K_ x5_64 x6_64 x8_64 vMF_64 vMS_64 → Ko_ x5_64 x6_64 x8_64 vMF_64 vMS_64 → W p l e ({ frames := 3, cells := 0, slots := 0, locals := 71 } : Room) s m (([.ref aM, .int p0, .int p1] : List Value).toArray) below meth c H locs 0 0 Qg (F0 m 165 ls [])) (n : Nat) (x5_64 : Int32) (x6_64 : Int32) (x8_64 : Int32) (vMF_64 : Int32) (vMS_64 : Int32) (H : Heap) (locs : List Loc) (ls : Array Slot), va_P (dC, dI) vwCl [(aM, .inr (7, [.int vMT, .int vMP, .ref aMh, .ref aMi, .ref aMc, .int vMK, .ref aMt, .int vMB, .ref aMn, .ref aMl, .ref aMs, .int vMD, .ref aMd, .int vME, .ref aMe, .int vMO, .ref aMo, .int vMF_64, .int vMS_64, .ref aMw, .ref aMu, .int vMX, .int vMW])), (aMh, .inl (cA, 24, .inl (vMh))), (aMi, .inl (cA, 72, .inl (vMi))), (aMc, .inl (cA, 24, .inl (vMc))), (aMt, .inl (cA, 24, .inl (vMt))), (aMn, .inl (cA, 6250, .inl (vMn_5))), (aMl, .inl (cA, 6250, .inl (vMl_5)))] H → va_D A [(aM, .inr (7, [.int vMT, .int vMP, .ref aMh, .ref aMi, .ref aMc, .int vMK, .ref aMt, .int vMB, .ref aMn, .ref aMl, .ref aMs, .int vMD, .ref aMd, .int vME, .ref aMe, .int vMO, .ref aMo, .int vMF_64, .int vMS_64, .ref aMw, .ref aMu, .int vMX, .int vMW])), (aMh, .inl (cA, 24, .inl (vMh))), (aMi, .inl (cA, 72, .inl (vMi))), (aMc, .inl (cA, 24, .inl (vMc))), (aMt, .inl (cA, 24, .inl (vMt))), (aMn, .inl (cA, 6250, .inl (vMn_5))), (aMl, .inl (cA, 6250, .inl (vMl_5)))] → va_S A s.heap H locs → lv_has ls 10 [(8, .int x8_64), (7, .int x7_22), (6, .int x6_64), (5, .int x5_64), (4, .int x4_5), (3, .int x3_5), (0, .ref aM), (1, .int p0), (2, .int p1)] → Fv = l_M_work_64 p0 p1 x7_22 vMi vMc vMt vMn_5 vMl_5 K_ n x5_64 x6_64 x8_64 vMF_64 vMS_64 → ol_M_work_64 p0 p1 x7_22 vMi vMc vMt vMn_5 vMl_5 Ko_ n x5_64 x6_64 x8_64 vMF_64 vMS_64 → W p l e ({ frames := 3, cells := 0, slots := 0, locals := 71 } : Room) s m (([.ref aM, .int p0, .int p1] : List Value).toArray) below meth c H locs 0 0 Qg (F0 m 64 ls []) := by
              intro K_ Ko_ hk n
              induction n with
              | zero => intro x5_64 x6_64 x8_64 vMF_64 vMS_64 H locs ls hP hD hS hl hres ho; exact ho.elim
              | succ n ih =>
                intro x5_64 x6_64 x8_64 vMF_64 vMS_64 H locs ls hP hD hS hl hres ho
                rw [l_M_work_64, s_M_work_64] at hres
                rw [ol_M_work_64, os_M_work_64] at ho
                refine lv_iload hx hb qd_M_work_64 (lv_at hl 0 rfl) ?_
                refine lv_if_eq (tgt := 165) hx hb qd_M_work_66 (by decide) (fun c_66 => ?_) (fun c_66 => ?_)
                · have hres := hres.trans (if_pos c_66)
                  have ho := (if_pos c_66).mp ho
                  exact hk x5_64 x6_64 x8_64 vMF_64 vMS_64 H locs ls hP hD hS (lv_sub hl [0, 1, 2, 3, 4, 5, 6, 7, 8] rfl) hres ho
                have hres := hres.trans (if_neg c_66)
                have ho := (if_neg c_66).mp ho
                refine lv_iload hx hb qd_M_work_69 (lv_at hl 3 rfl) ?_
                refine lv_aload_n hx hb qd_M_work_71 rfl (lv_at hl 6 rfl) ?_
                refine lv_iload hx hb qd_M_work_72 (lv_at hl 1 rfl) ?_
                refine lv_iload_n hx hb qd_M_work_74 rfl (lv_at hl 7 rfl) ?_
                refine lv_aload_n hx hb qd_M_work_75 rfl (lv_at hl 6 rfl) ?_
                refine va_get (D := (dC, dI)) (ci := 7) (v := .int vMF_64) (C := qR_M) (T := qT_M) (N := 23) hx hb hg qi_M hown hK hP 0 rfl rfl 17 (by decide) (hg _ mw_591) (fun _ h9 => h9) rfl qd_M_work_76 ?_
                refine lv_aload_n hx hb qd_M_work_79 rfl (lv_at hl 6 rfl) ?_
                refine va_get (D := (dC, dI)) (ci := 7) (v := .int vMS_64) (C := qR_M) (T := qT_M) (N := 23) hx hb hg qi_M hown hK hP 0 rfl rfl 18 (by decide) (hg _ mw_592) (fun _ h9 => h9) rfl qd_M_work_80 ?_
                refine lv_iload_n hx hb qd_M_work_83 rfl (lv_at hl 8 rfl) ?_
                obtain ⟨g_84, ho⟩ := ho
                refine xc_V (As := [.int x7_22, .int p0, .int vMF_64, .int vMS_64, .int p1]) (rest := [.int x5_64]) ⟨hx, hb, hml, hown, hg⟩ (c_M_ways l dC dI cA cZ aM aMh aMi aMc aMt aMn aMl aMs aMd aMe aMo aMw aMu vMT vMP vMK vMB vMD vME vMO vMF_64 vMS_64 vMX vMW vMi vMt vMn_5 x7_22 p0 vMF_64 vMS_64 p1 g_84) (cwV 5 hg (q_gV mw_679 mw_680 mw_778 mw_8 mw_681) rfl rfl rfl qh_M_ways ⟨Nat.le_of_ble_eq_true rfl, Nat.le_of_ble_eq_true rfl⟩) hN hK hP [0, 2, 4, 5] rfl 0 7 rfl rfl rfl hl.1 rfl (Nat.le_of_ble_eq_true rfl) qd_M_work_84 ⟨Nat.zero_le _, Nat.zero_le _⟩ ?_
                refine lv_topi (fun r_84 w_84 => ?_)
                have hres := hres.trans (bd_eq w_84)
                have ho := (bd_eq w_84).mp ho
                refine xc_S (As := [.int x5_64, .int r_84]) (rest := []) ⟨hx, hb, hml, hown, hg⟩ (c_M_plus l dC dI cA cZ x5_64 r_84) (va_cwS 2 hg (q_gS mw_690 mw_691 mw_8 mw_692) rfl rfl rfl qh_M_plus.2 ⟨Nat.le_of_ble_eq_true rfl, Nat.le_of_ble_eq_true rfl⟩) hN hK hP [] rfl rfl hl.1 rfl (Nat.le_of_ble_eq_true rfl) qd_M_work_87 ⟨Nat.zero_le _, Nat.zero_le _⟩ ?_
                refine lv_topi (fun r_87 w_87 => ?_)
                have hres := hres.trans (bd_eq w_87)
                have ho := (bd_eq w_87).mp ho
                refine lv_istore (lv' := [(5, .int r_87), (8, .int x8_64), (7, .int x7_22), (6, .int x6_64), (4, .int x4_5), (3, .int x3_5), (0, .ref aM), (1, .int p0), (2, .int p1)]) hx hb qd_M_work_90 hl (by decide) rfl (fun ls hl => ?_)
                refine lv_aload_n hx hb qd_M_work_92 rfl (lv_at hl 6 rfl) ?_
                refine lv_iload hx hb qd_M_work_93 (lv_at hl 2 rfl) ?_
                refine lv_iload_n hx hb qd_M_work_95 rfl (lv_at hl 7 rfl) ?_
                refine lv_aload_n hx hb qd_M_work_96 rfl (lv_at hl 6 rfl) ?_
                refine va_get (D := (dC, dI)) (ci := 7) (v := .int vMF_64) (C := qR_M) (T := qT_M) (N := 23) hx hb hg qi_M hown hK hP 0 rfl rfl 17 (by decide) (hg _ mw_591) (fun _ h9 => h9) rfl qd_M_work_97 ?_
                refine lv_aload_n hx hb qd_M_work_100 rfl (lv_at hl 6 rfl) ?_
                refine va_get (D := (dC, dI)) (ci := 7) (v := .int vMS_64) (C := qR_M) (T := qT_M) (N := 23) hx hb hg qi_M hown hK hP 0 rfl rfl 18 (by decide) (hg _ mw_592) (fun _ h9 => h9) rfl qd_M_work_101 ?_
                refine lv_iload_n hx hb qd_M_work_104 rfl (lv_at hl 8 rfl) ?_
                obtain ⟨g_105, ho⟩ := ho
                refine xc_V (As := [.int x7_22, .int p0, .int vMF_64, .int vMS_64, .int p1]) (rest := []) ⟨hx, hb, hml, hown, hg⟩ (c_M_price l dC dI cA cZ aM aMh aMi aMc aMt aMn aMl aMs aMd aMe aMo aMw aMu vMT vMP vMK vMB vMD vME vMO vMF_64 vMS_64 vMX vMW vMi vMc vMt vMl_5 x7_22 p0 vMF_64 vMS_64 p1 g_105) (cwV 5 hg (q_gV mw_693 mw_694 mw_780 mw_8 mw_695) rfl rfl rfl qh_M_price ⟨Nat.le_of_ble_eq_true rfl, Nat.le_of_ble_eq_true rfl⟩) hN hK hP [0, 2, 3, 4, 6] rfl 0 7 rfl rfl rfl hl.1 rfl (Nat.le_of_ble_eq_true rfl) qd_M_work_105 ⟨Nat.zero_le _, Nat.zero_le _⟩ ?_
                refine lv_topi (fun r_105 w_105 => ?_)
                have hres := hres.trans (bd_eq w_105)
                have ho := (bd_eq w_105).mp ho
                refine lv_istore (lv' := [(9, .int r_105), (5, .int r_87), (8, .int x8_64), (7, .int x7_22), (6, .int x6_64), (4, .int x4_5), (3, .int x3_5), (0, .ref aM), (1, .int p0), (2, .int p1)]) hx hb qd_M_work_108 hl (by decide) rfl (fun ls hl => ?_)
                refine lv_iload hx hb qd_M_work_110 (lv_at hl 0 rfl) ?_
                refine lv_iload hx hb qd_M_work_112 (lv_at hl 4 rfl) ?_
                refine lv_icmp_ge (tgt := 122) hx hb qd_M_work_114 (by decide) (fun c_114 => ?_) (fun c_114 => ?_)
                · have hres := hres.trans (if_pos c_114)
                  have ho := (if_pos c_114).mp ho
                  refine lv_iload hx hb qd_M_work_122 (lv_at hl 4 rfl) ?_
                  refine lv_istore (lv' := [(6, .int x6_64), (9, .int r_105), (5, .int r_87), (8, .int x8_64), (7, .int x7_22), (4, .int x4_5), (3, .int x3_5), (0, .ref aM), (1, .int p0), (2, .int p1)]) hx hb qd_M_work_124 hl (by decide) rfl (fun ls hl => ?_)
                  refine lv_aload_n hx hb qd_M_work_126 rfl (lv_at hl 7 rfl) ?_
                  refine lv_iload hx hb qd_M_work_127 (lv_at hl 4 rfl) ?_
                  refine lv_iload_n hx hb qd_M_work_129 rfl (lv_at hl 8 rfl) ?_
                  refine lv_iload_n hx hb qd_M_work_130 rfl (lv_at hl 9 rfl) ?_
                  obtain ⟨g_131, ho⟩ := ho
                  refine xm_Vv (As := [.int x7_22, .int p0, .int p1]) (rest := []) (w1 := fun (u_131 : Int32 × Int32) => [(aM, .inr (7, [.int vMT, .int vMP, .ref aMh, .ref aMi, .ref aMc, .int vMK, .ref aMt, .int vMB, .ref aMn, .ref aMl, .ref aMs, .int vMD, .ref aMd, .int vME, .ref aMe, .int vMO, .ref aMo, .int u_131.1, .int u_131.2, .ref aMw, .ref aMu, .int vMX, .int vMW])), (aMi, .inl (cA, 72, .inl (vMi)))]) (w2 := fun (u_131 : Int32 × Int32) => [(aM, .inr (7, [.int vMT, .int vMP, .ref aMh, .ref aMi, .ref aMc, .int vMK, .ref aMt, .int vMB, .ref aMn, .ref aMl, .ref aMs, .int vMD, .ref aMd, .int vME, .ref aMe, .int vMO, .ref aMo, .int u_131.1, .int u_131.2, .ref aMw, .ref aMu, .int vMX, .int vMW])), (aMh, .inl (cA, 24, .inl (vMh))), (aMi, .inl (cA, 72, .inl (vMi))), (aMc, .inl (cA, 24, .inl (vMc))), (aMt, .inl (cA, 24, .inl (vMt))), (aMn, .inl (cA, 6250, .inl (vMn_5))), (aMl, .inl (cA, 6250, .inl (vMl_5)))]) ⟨hx, hb, hml, hown, hg⟩ (c_M_goOn l dC dI cA cZ aM aMh aMi aMc aMt aMn aMl aMs aMd aMe aMo aMw aMu _ vMT vMP vMK vMB vMD vME vMO vMF_64 vMS_64 vMX vMW vMi x7_22 p0 p1 g_131) (cwV 3 hg (q_gV mw_702 mw_703 mw_782 mw_8 mw_704) rfl rfl rfl qh_M_goOn ⟨Nat.le_of_ble_eq_true rfl, Nat.le_of_ble_eq_true rfl⟩) hN hK hP hD hS hA [0, 2] [1, 3, 4, 5, 6] rfl rfl (by decide) (by decide) (by decide) [5, 0, 6, 1, 2, 3, 4] (fun _ => rfl) (by decide) 0 7 rfl rfl rfl hl.1 rfl (Nat.le_of_ble_eq_true rfl) qd_M_work_131 ⟨Nat.zero_le _, Nat.zero_le _⟩ (fun u_131 H locs w_131 hP hD hS => ?_)
                  have hP : va_P (dC, dI) vwCl [(aM, .inr (7, [.int vMT, .int vMP, .ref aMh, .ref aMi, .ref aMc, .int vMK, .ref aMt, .int vMB, .ref aMn, .ref aMl, .ref aMs, .int vMD, .ref aMd, .int vME, .ref aMe, .int vMO, .ref aMo, .int u_131.1, .int u_131.2, .ref aMw, .ref aMu, .int vMX, .int vMW])), (aMh, .inl (cA, 24, .inl (vMh))), (aMi, .inl (cA, 72, .inl (vMi))), (aMc, .inl (cA, 24, .inl (vMc))), (aMt, .inl (cA, 24, .inl (vMt))), (aMn, .inl (cA, 6250, .inl (vMn_5))), (aMl, .inl (cA, 6250, .inl (vMl_5)))] H := hP
                  have hD : va_D A [(aM, .inr (7, [.int vMT, .int vMP, .ref aMh, .ref aMi, .ref aMc, .int vMK, .ref aMt, .int vMB, .ref aMn, .ref aMl, .ref aMs, .int vMD, .ref aMd, .int vME, .ref aMe, .int vMO, .ref aMo, .int u_131.1, .int u_131.2, .ref aMw, .ref aMu, .int vMX, .int vMW])), (aMh, .inl (cA, 24, .inl (vMh))), (aMi, .inl (cA, 72, .inl (vMi))), (aMc, .inl (cA, 24, .inl (vMc))), (aMt, .inl (cA, 24, .inl (vMt))), (aMn, .inl (cA, 6250, .inl (vMn_5))), (aMl, .inl (cA, 6250, .inl (vMl_5)))] := hD
                  have hres := hres.trans (bd_eq w_131)
                  have ho := (bd_eq w_131).mp ho
                  refine lv_aload_n hx hb qd_M_work_134 rfl (lv_at hl 7 rfl) ?_
                  refine lv_iload hx hb qd_M_work_135 (lv_at hl 4 rfl) ?_
                  obtain ⟨g_137, ho⟩ := ho
                  refine xc_V (As := [.int x7_22]) (rest := []) ⟨hx, hb, hml, hown, hg⟩ (c_M_length l dC dI cA cZ aM aMh aMi aMc aMt aMn aMl aMs aMd aMe aMo aMw aMu vMT vMP vMK vMB vMD vME vMO u_131.1 u_131.2 vMX vMW vMi x7_22 g_137) (cwV 1 hg (q_gV mw_673 mw_674 mw_776 mw_8 mw_675) rfl rfl rfl qh_M_length ⟨Nat.le_of_ble_eq_true rfl, Nat.le_of_ble_eq_true rfl⟩) hN hK hP [0, 2] rfl 0 7 rfl rfl rfl hl.1 rfl (Nat.le_of_ble_eq_true rfl) qd_M_work_137 ⟨Nat.zero_le _, Nat.zero_le _⟩ ?_
                  refine lv_topi (fun r_137 w_137 => ?_)
                  have hres := hres.trans (bd_eq w_137)
                  have ho := (bd_eq w_137).mp ho
                  refine lv_iconst (v := 1) hx hb qd_M_work_140 (by decide) ?_
                  refine lv_icmp_le (tgt := 159) hx hb qd_M_work_141 (by decide) (fun c_141 => ?_) (fun c_141 => ?_)
                  · have hres := hres.trans (if_pos c_141)
                    have ho := (if_pos c_141).mp ho
                    refine lv_iconst (v := 0) hx hb qd_M_work_159 (by decide) ?_
                    refine lv_istore (lv' := [(8, .int 0), (6, .int x6_64), (9, .int r_105), (5, .int r_87), (7, .int x7_22), (4, .int x4_5), (3, .int x3_5), (0, .ref aM), (1, .int p0), (2, .int p1)]) hx hb qd_M_work_160 hl (by decide) rfl (fun ls hl => ?_)
                    refine lv_goto (tgt := 64) hx hb qd_M_work_162 (by decide) ?_
                    exact ih r_87 x6_64 0 u_131.1 u_131.2 H locs ls hP hD hS (lv_sub hl [0, 4, 1, 3, 5, 6, 7, 8, 9] rfl) hres ho
                  have hres := hres.trans (if_neg c_141)
                  have ho := (if_neg c_141).mp ho
                  refine lv_aload_n hx hb qd_M_work_144 rfl (lv_at hl 7 rfl) ?_
                  refine lv_iload hx hb qd_M_work_145 (lv_at hl 4 rfl) ?_
                  refine lv_iload_n hx hb qd_M_work_147 rfl (lv_at hl 8 rfl) ?_
                  refine lv_iload_n hx hb qd_M_work_148 rfl (lv_at hl 9 rfl) ?_
                  obtain ⟨g_149, ho⟩ := ho
                  refine xc_V (As := [.int x7_22, .int p0, .int p1]) (rest := []) ⟨hx, hb, hml, hown, hg⟩ (c_M_isParted l dC dI cA cZ aM aMh aMi aMc aMt aMn aMl aMs aMd aMe aMo aMw aMu vMT vMP vMK vMB vMD vME vMO u_131.1 u_131.2 vMX vMW vMi x7_22 p0 p1 g_149) (cwV 3 hg (q_gV mw_676 mw_677 mw_777 mw_8 mw_678) rfl rfl rfl qh_M_isParted ⟨Nat.le_of_ble_eq_true rfl, Nat.le_of_ble_eq_true rfl⟩) hN hK hP [0, 2] rfl 0 7 rfl rfl rfl hl.1 rfl (Nat.le_of_ble_eq_true rfl) qd_M_work_149 ⟨Nat.zero_le _, Nat.zero_le _⟩ ?_
                  refine lv_topi (fun r_149 w_149 => ?_)
                  have hres := hres.trans (bd_eq w_149)
                  have ho := (bd_eq w_149).mp ho
                  refine lv_if_eq (tgt := 159) hx hb qd_M_work_152 (by decide) (fun c_152 => ?_) (fun c_152 => ?_)
                  · have hres := hres.trans (if_pos c_152)
                    have ho := (if_pos c_152).mp ho
                    refine lv_iconst (v := 0) hx hb qd_M_work_159 (by decide) ?_
                    refine lv_istore (lv' := [(8, .int 0), (6, .int x6_64), (9, .int r_105), (5, .int r_87), (7, .int x7_22), (4, .int x4_5), (3, .int x3_5), (0, .ref aM), (1, .int p0), (2, .int p1)]) hx hb qd_M_work_160 hl (by decide) rfl (fun ls hl => ?_)
                    refine lv_goto (tgt := 64) hx hb qd_M_work_162 (by decide) ?_
                    exact ih r_87 x6_64 0 u_131.1 u_131.2 H locs ls hP hD hS (lv_sub hl [0, 4, 1, 3, 5, 6, 7, 8, 9] rfl) hres ho
                  have hres := hres.trans (if_neg c_152)
                  have ho := (if_neg c_152).mp ho
                  refine lv_iconst (v := 1) hx hb qd_M_work_155 (by decide) ?_
                  refine lv_goto (tgt := 160) hx hb qd_M_work_156 (by decide) ?_
                  refine lv_istore (lv' := [(8, .int 1), (6, .int x6_64), (9, .int r_105), (5, .int r_87), (7, .int x7_22), (4, .int x4_5), (3, .int x3_5), (0, .ref aM), (1, .int p0), (2, .int p1)]) hx hb qd_M_work_160 hl (by decide) rfl (fun ls hl => ?_)
                  refine lv_goto (tgt := 64) hx hb qd_M_work_162 (by decide) ?_
                  exact ih r_87 x6_64 1 u_131.1 u_131.2 H locs ls hP hD hS (lv_sub hl [0, 4, 1, 3, 5, 6, 7, 8, 9] rfl) hres ho
                have hres := hres.trans (if_neg c_114)
                have ho := (if_neg c_114).mp ho
                refine lv_iload hx hb qd_M_work_117 (lv_at hl 0 rfl) ?_
                refine lv_goto (tgt := 124) hx hb qd_M_work_119 (by decide) ?_
                refine lv_istore (lv' := [(6, .int r_105), (9, .int r_105), (5, .int r_87), (8, .int x8_64), (7, .int x7_22), (4, .int x4_5), (3, .int x3_5), (0, .ref aM), (1, .int p0), (2, .int p1)]) hx hb qd_M_work_124 hl (by decide) rfl (fun ls hl => ?_)
                refine lv_aload_n hx hb qd_M_work_126 rfl (lv_at hl 7 rfl) ?_
                refine lv_iload hx hb qd_M_work_127 (lv_at hl 4 rfl) ?_
                refine lv_iload_n hx hb qd_M_work_129 rfl (lv_at hl 8 rfl) ?_
                refine lv_iload_n hx hb qd_M_work_130 rfl (lv_at hl 9 rfl) ?_
                obtain ⟨g_131, ho⟩ := ho
                refine xm_Vv (As := [.int x7_22, .int p0, .int p1]) (rest := []) (w1 := fun (u_131 : Int32 × Int32) => [(aM, .inr (7, [.int vMT, .int vMP, .ref aMh, .ref aMi, .ref aMc, .int vMK, .ref aMt, .int vMB, .ref aMn, .ref aMl, .ref aMs, .int vMD, .ref aMd, .int vME, .ref aMe, .int vMO, .ref aMo, .int u_131.1, .int u_131.2, .ref aMw, .ref aMu, .int vMX, .int vMW])), (aMi, .inl (cA, 72, .inl (vMi)))]) (w2 := fun (u_131 : Int32 × Int32) => [(aM, .inr (7, [.int vMT, .int vMP, .ref aMh, .ref aMi, .ref aMc, .int vMK, .ref aMt, .int vMB, .ref aMn, .ref aMl, .ref aMs, .int vMD, .ref aMd, .int vME, .ref aMe, .int vMO, .ref aMo, .int u_131.1, .int u_131.2, .ref aMw, .ref aMu, .int vMX, .int vMW])), (aMh, .inl (cA, 24, .inl (vMh))), (aMi, .inl (cA, 72, .inl (vMi))), (aMc, .inl (cA, 24, .inl (vMc))), (aMt, .inl (cA, 24, .inl (vMt))), (aMn, .inl (cA, 6250, .inl (vMn_5))), (aMl, .inl (cA, 6250, .inl (vMl_5)))]) ⟨hx, hb, hml, hown, hg⟩ (c_M_goOn l dC dI cA cZ aM aMh aMi aMc aMt aMn aMl aMs aMd aMe aMo aMw aMu _ vMT vMP vMK vMB vMD vME vMO vMF_64 vMS_64 vMX vMW vMi x7_22 p0 p1 g_131) (cwV 3 hg (q_gV mw_702 mw_703 mw_782 mw_8 mw_704) rfl rfl rfl qh_M_goOn ⟨Nat.le_of_ble_eq_true rfl, Nat.le_of_ble_eq_true rfl⟩) hN hK hP hD hS hA [0, 2] [1, 3, 4, 5, 6] rfl rfl (by decide) (by decide) (by decide) [5, 0, 6, 1, 2, 3, 4] (fun _ => rfl) (by decide) 0 7 rfl rfl rfl hl.1 rfl (Nat.le_of_ble_eq_true rfl) qd_M_work_131 ⟨Nat.zero_le _, Nat.zero_le _⟩ (fun u_131 H locs w_131 hP hD hS => ?_)
                have hP : va_P (dC, dI) vwCl [(aM, .inr (7, [.int vMT, .int vMP, .ref aMh, .ref aMi, .ref aMc, .int vMK, .ref aMt, .int vMB, .ref aMn, .ref aMl, .ref aMs, .int vMD, .ref aMd, .int vME, .ref aMe, .int vMO, .ref aMo, .int u_131.1, .int u_131.2, .ref aMw, .ref aMu, .int vMX, .int vMW])), (aMh, .inl (cA, 24, .inl (vMh))), (aMi, .inl (cA, 72, .inl (vMi))), (aMc, .inl (cA, 24, .inl (vMc))), (aMt, .inl (cA, 24, .inl (vMt))), (aMn, .inl (cA, 6250, .inl (vMn_5))), (aMl, .inl (cA, 6250, .inl (vMl_5)))] H := hP
                have hD : va_D A [(aM, .inr (7, [.int vMT, .int vMP, .ref aMh, .ref aMi, .ref aMc, .int vMK, .ref aMt, .int vMB, .ref aMn, .ref aMl, .ref aMs, .int vMD, .ref aMd, .int vME, .ref aMe, .int vMO, .ref aMo, .int u_131.1, .int u_131.2, .ref aMw, .ref aMu, .int vMX, .int vMW])), (aMh, .inl (cA, 24, .inl (vMh))), (aMi, .inl (cA, 72, .inl (vMi))), (aMc, .inl (cA, 24, .inl (vMc))), (aMt, .inl (cA, 24, .inl (vMt))), (aMn, .inl (cA, 6250, .inl (vMn_5))), (aMl, .inl (cA, 6250, .inl (vMl_5)))] := hD
                have hres := hres.trans (bd_eq w_131)
                have ho := (bd_eq w_131).mp ho
                refine lv_aload_n hx hb qd_M_work_134 rfl (lv_at hl 7 rfl) ?_
                refine lv_iload hx hb qd_M_work_135 (lv_at hl 4 rfl) ?_
                obtain ⟨g_137, ho⟩ := ho
                refine xc_V (As := [.int x7_22]) (rest := []) ⟨hx, hb, hml, hown, hg⟩ (c_M_length l dC dI cA cZ aM aMh aMi aMc aMt aMn aMl aMs aMd aMe aMo aMw aMu vMT vMP vMK vMB vMD vME vMO u_131.1 u_131.2 vMX vMW vMi x7_22 g_137) (cwV 1 hg (q_gV mw_673 mw_674 mw_776 mw_8 mw_675) rfl rfl rfl qh_M_length ⟨Nat.le_of_ble_eq_true rfl, Nat.le_of_ble_eq_true rfl⟩) hN hK hP [0, 2] rfl 0 7 rfl rfl rfl hl.1 rfl (Nat.le_of_ble_eq_true rfl) qd_M_work_137 ⟨Nat.zero_le _, Nat.zero_le _⟩ ?_
                refine lv_topi (fun r_137 w_137 => ?_)
                have hres := hres.trans (bd_eq w_137)
                have ho := (bd_eq w_137).mp ho
                refine lv_iconst (v := 1) hx hb qd_M_work_140 (by decide) ?_
                refine lv_icmp_le (tgt := 159) hx hb qd_M_work_141 (by decide) (fun c_141 => ?_) (fun c_141 => ?_)
                · have hres := hres.trans (if_pos c_141)
                  have ho := (if_pos c_141).mp ho
                  refine lv_iconst (v := 0) hx hb qd_M_work_159 (by decide) ?_
                  refine lv_istore (lv' := [(8, .int 0), (6, .int r_105), (9, .int r_105), (5, .int r_87), (7, .int x7_22), (4, .int x4_5), (3, .int x3_5), (0, .ref aM), (1, .int p0), (2, .int p1)]) hx hb qd_M_work_160 hl (by decide) rfl (fun ls hl => ?_)
                  refine lv_goto (tgt := 64) hx hb qd_M_work_162 (by decide) ?_
                  exact ih r_87 r_105 0 u_131.1 u_131.2 H locs ls hP hD hS (lv_sub hl [0, 4, 1, 3, 5, 6, 7, 8, 9] rfl) hres ho
                have hres := hres.trans (if_neg c_141)
                have ho := (if_neg c_141).mp ho
                refine lv_aload_n hx hb qd_M_work_144 rfl (lv_at hl 7 rfl) ?_
                refine lv_iload hx hb qd_M_work_145 (lv_at hl 4 rfl) ?_
                refine lv_iload_n hx hb qd_M_work_147 rfl (lv_at hl 8 rfl) ?_
                refine lv_iload_n hx hb qd_M_work_148 rfl (lv_at hl 9 rfl) ?_
                obtain ⟨g_149, ho⟩ := ho
                refine xc_V (As := [.int x7_22, .int p0, .int p1]) (rest := []) ⟨hx, hb, hml, hown, hg⟩ (c_M_isParted l dC dI cA cZ aM aMh aMi aMc aMt aMn aMl aMs aMd aMe aMo aMw aMu vMT vMP vMK vMB vMD vME vMO u_131.1 u_131.2 vMX vMW vMi x7_22 p0 p1 g_149) (cwV 3 hg (q_gV mw_676 mw_677 mw_777 mw_8 mw_678) rfl rfl rfl qh_M_isParted ⟨Nat.le_of_ble_eq_true rfl, Nat.le_of_ble_eq_true rfl⟩) hN hK hP [0, 2] rfl 0 7 rfl rfl rfl hl.1 rfl (Nat.le_of_ble_eq_true rfl) qd_M_work_149 ⟨Nat.zero_le _, Nat.zero_le _⟩ ?_
                refine lv_topi (fun r_149 w_149 => ?_)
                have hres := hres.trans (bd_eq w_149)
                have ho := (bd_eq w_149).mp ho
                refine lv_if_eq (tgt := 159) hx hb qd_M_work_152 (by decide) (fun c_152 => ?_) (fun c_152 => ?_)
                · have hres := hres.trans (if_pos c_152)
                  have ho := (if_pos c_152).mp ho
                  refine lv_iconst (v := 0) hx hb qd_M_work_159 (by decide) ?_
                  refine lv_istore (lv' := [(8, .int 0), (6, .int r_105), (9, .int r_105), (5, .int r_87), (7, .int x7_22), (4, .int x4_5), (3, .int x3_5), (0, .ref aM), (1, .int p0), (2, .int p1)]) hx hb qd_M_work_160 hl (by decide) rfl (fun ls hl => ?_)
                  refine lv_goto (tgt := 64) hx hb qd_M_work_162 (by decide) ?_
                  exact ih r_87 r_105 0 u_131.1 u_131.2 H locs ls hP hD hS (lv_sub hl [0, 4, 1, 3, 5, 6, 7, 8, 9] rfl) hres ho
                have hres := hres.trans (if_neg c_152)
                have ho := (if_neg c_152).mp ho
                refine lv_iconst (v := 1) hx hb qd_M_work_155 (by decide) ?_
                refine lv_goto (tgt := 160) hx hb qd_M_work_156 (by decide) ?_
                refine lv_istore (lv' := [(8, .int 1), (6, .int r_105), (9, .int r_105), (5, .int r_87), (7, .int x7_22), (4, .int x4_5), (3, .int x3_5), (0, .ref aM), (1, .int p0), (2, .int p1)]) hx hb qd_M_work_160 hl (by decide) rfl (fun ls hl => ?_)
                refine lv_goto (tgt := 64) hx hb qd_M_work_162 (by decide) ?_
                exact ih r_87 r_105 1 u_131.1 u_131.2 H locs ls hP hD hS (lv_sub hl [0, 4, 1, 3, 5, 6, 7, 8, 9] rfl) hres ho
            refine L_64 _ _ (fun x5_64 x6_64 x8_64 vMF_64 vMS_64 H locs ls hP hD hS hl hres ho => ?_) _ _ _ _ _ _ _ _ ls hP hD hS hl hres ho
            refine lv_iinc (v := x7_22 + 1) (lv' := [(7, .int (x7_22 + 1)), (8, .int x8_64), (6, .int x6_64), (5, .int x5_64), (4, .int x4_5), (3, .int x3_5), (0, .ref aM), (1, .int p0), (2, .int p1)]) hx hb qd_M_work_165 hl (k := 1) rfl (congrArg (fun z => _ + z) (by decide)) (by decide) rfl (fun ls hl => ?_)
            refine lv_goto (tgt := 22) hx hb qd_M_work_168 (by decide) ?_
            exact ih x5_64 x6_64 (x7_22 + 1) vMF_64 vMS_64 H locs ls hP hD hS (lv_sub hl [0, 2, 3, 4, 5, 6, 7, 8] rfl) hres ho
          have hres := hres.trans (if_neg c_40)
          have ho := (if_neg c_40).mp ho
          refine lv_goto (tgt := 165) hx hb qd_M_work_43 (by decide) ?_
          refine lv_iinc (v := x7_22 + 1) (lv' := [(7, .int (x7_22 + 1)), (6, .int x6_22), (5, .int x5_22), (4, .int x4_5), (3, .int x3_5), (0, .ref aM), (1, .int p0), (2, .int p1)]) hx hb qd_M_work_165 hl (k := 0) rfl (congrArg (fun z => _ + z) (by decide)) (by decide) rfl (fun ls hl => ?_)
          refine lv_goto (tgt := 22) hx hb qd_M_work_168 (by decide) ?_
          exact ih x5_22 x6_22 (x7_22 + 1) vMF_22 vMS_22 H locs ls hP hD hS (lv_sub hl [0, 1, 2, 3, 4, 5, 6, 7] rfl) hres ho
      refine L_22 _ _ (fun x5_22 x6_22 x7_22 vMF_22 vMS_22 H locs ls hP hD hS hl hres ho => ?_) _ _ _ _ _ _ _ _ ls hP hD hS hl hres ho
      refine lv_iload_n hx hb qd_M_work_171 rfl (lv_at hl 4 rfl) ?_
      refine lv_if_ne (tgt := 209) hx hb qd_M_work_172 (by decide) (fun c_172 => ?_) (fun c_172 => ?_)
      · have hres := hres.trans (if_neg c_172)
        have ho := (if_neg c_172).mp ho
        refine lv_iconst (v := 1) hx hb qd_M_work_209 (by decide) ?_
        refine lv_goto (tgt := 214) hx hb qd_M_work_210 (by decide) ?_
        refine lv_istore_n (lv' := [(3, .int 1), (7, .int x7_22), (6, .int x6_22), (5, .int x5_22), (4, .int x4_5), (0, .ref aM), (1, .int p0), (2, .int p1)]) hx hb qd_M_work_214 rfl hl (by decide) rfl (fun ls hl => ?_)
        refine lv_aload_n hx hb qd_M_work_215 rfl (lv_at hl 5 rfl) ?_
        refine va_get (D := (dC, dI)) (ci := 7) (v := .ref aMn) (C := qR_M) (T := qT_M) (N := 23) hx hb hg qi_M hown hK hP 0 rfl rfl 8 (by decide) (hg _ mw_582) (fun _ h9 => h9) rfl qd_M_work_216 ?_
        refine lv_iload hx hb qd_M_work_219 (lv_at hl 4 rfl) ?_
        refine lv_iload_n hx hb qd_M_work_221 rfl (lv_at hl 6 rfl) ?_
        refine lv_iload_n hx hb qd_M_work_222 rfl (lv_at hl 7 rfl) ?_
        refine xc_S (As := [.int x4_5, .int p0, .int p1]) (rest := [.ref aMn]) ⟨hx, hb, hml, hown, hg⟩ (c_M_at l dC dI cA cZ x4_5 p0 p1) (va_cwS 3 hg (q_gS mw_663 mw_664 mw_8 mw_665) rfl rfl rfl qh_M_at.2 ⟨Nat.le_of_ble_eq_true rfl, Nat.le_of_ble_eq_true rfl⟩) hN hK hP [] rfl rfl hl.1 rfl (Nat.le_of_ble_eq_true rfl) qd_M_work_223 ⟨Nat.zero_le _, Nat.zero_le _⟩ ?_
        refine lv_topi (fun r_223 w_223 => ?_)
        have hres := hres.trans (bd_eq w_223)
        have ho := (bd_eq w_223).mp ho
        refine lv_iload hx hb qd_M_work_226 (lv_at hl 3 rfl) ?_
        obtain ⟨g_228, ho⟩ := ho
        refine va_iast hx hb hK hP hD hS 5 0 rfl rfl g_228 qd_M_work_228 (fun H locs hP hD hS => ?_)
        have hP : va_P (dC, dI) vwCl [(aM, .inr (7, [.int vMT, .int vMP, .ref aMh, .ref aMi, .ref aMc, .int vMK, .ref aMt, .int vMB, .ref aMn, .ref aMl, .ref aMs, .int vMD, .ref aMd, .int vME, .ref aMe, .int vMO, .ref aMo, .int vMF_22, .int vMS_22, .ref aMw, .ref aMu, .int vMX, .int vMW])), (aMh, .inl (cA, 24, .inl (vMh))), (aMi, .inl (cA, 72, .inl (vMi))), (aMc, .inl (cA, 24, .inl (vMc))), (aMt, .inl (cA, 24, .inl (vMt))), (aMn, .inl (cA, 6250, .inl (upd vMn_5 r_223.toNatClampNeg x5_22))), (aMl, .inl (cA, 6250, .inl (vMl_5)))] H := hP
        have hD : va_D A [(aM, .inr (7, [.int vMT, .int vMP, .ref aMh, .ref aMi, .ref aMc, .int vMK, .ref aMt, .int vMB, .ref aMn, .ref aMl, .ref aMs, .int vMD, .ref aMd, .int vME, .ref aMe, .int vMO, .ref aMo, .int vMF_22, .int vMS_22, .ref aMw, .ref aMu, .int vMX, .int vMW])), (aMh, .inl (cA, 24, .inl (vMh))), (aMi, .inl (cA, 72, .inl (vMi))), (aMc, .inl (cA, 24, .inl (vMc))), (aMt, .inl (cA, 24, .inl (vMt))), (aMn, .inl (cA, 6250, .inl (upd vMn_5 r_223.toNatClampNeg x5_22))), (aMl, .inl (cA, 6250, .inl (vMl_5)))] := hD
        refine lv_aload_n hx hb qd_M_work_229 rfl (lv_at hl 5 rfl) ?_
        refine va_get (D := (dC, dI)) (ci := 7) (v := .ref aMl) (C := qR_M) (T := qT_M) (N := 23) hx hb hg qi_M hown hK hP 0 rfl rfl 9 (by decide) (hg _ mw_583) (fun _ h9 => h9) rfl qd_M_work_230 ?_
        refine lv_iload hx hb qd_M_work_233 (lv_at hl 4 rfl) ?_
        refine lv_iload_n hx hb qd_M_work_235 rfl (lv_at hl 6 rfl) ?_
        refine lv_iload_n hx hb qd_M_work_236 rfl (lv_at hl 7 rfl) ?_
        refine xc_S (As := [.int x4_5, .int p0, .int p1]) (rest := [.ref aMl]) ⟨hx, hb, hml, hown, hg⟩ (c_M_at l dC dI cA cZ x4_5 p0 p1) (va_cwS 3 hg (q_gS mw_663 mw_664 mw_8 mw_665) rfl rfl rfl qh_M_at.2 ⟨Nat.le_of_ble_eq_true rfl, Nat.le_of_ble_eq_true rfl⟩) hN hK hP [] rfl rfl hl.1 rfl (Nat.le_of_ble_eq_true rfl) qd_M_work_237 ⟨Nat.zero_le _, Nat.zero_le _⟩ ?_
        refine lv_topi (fun r_237 w_237 => ?_)
        have hres := hres.trans (bd_eq w_237)
        have ho := (bd_eq w_237).mp ho
        refine lv_iload hx hb qd_M_work_240 (lv_at hl 2 rfl) ?_
        obtain ⟨g_242, ho⟩ := ho
        refine va_iast hx hb hK hP hD hS 6 0 rfl rfl g_242 qd_M_work_242 (fun H locs hP hD hS => ?_)
        have hP : va_P (dC, dI) vwCl [(aM, .inr (7, [.int vMT, .int vMP, .ref aMh, .ref aMi, .ref aMc, .int vMK, .ref aMt, .int vMB, .ref aMn, .ref aMl, .ref aMs, .int vMD, .ref aMd, .int vME, .ref aMe, .int vMO, .ref aMo, .int vMF_22, .int vMS_22, .ref aMw, .ref aMu, .int vMX, .int vMW])), (aMh, .inl (cA, 24, .inl (vMh))), (aMi, .inl (cA, 72, .inl (vMi))), (aMc, .inl (cA, 24, .inl (vMc))), (aMt, .inl (cA, 24, .inl (vMt))), (aMn, .inl (cA, 6250, .inl (upd vMn_5 r_223.toNatClampNeg x5_22))), (aMl, .inl (cA, 6250, .inl (upd vMl_5 r_237.toNatClampNeg x6_22)))] H := hP
        have hD : va_D A [(aM, .inr (7, [.int vMT, .int vMP, .ref aMh, .ref aMi, .ref aMc, .int vMK, .ref aMt, .int vMB, .ref aMn, .ref aMl, .ref aMs, .int vMD, .ref aMd, .int vME, .ref aMe, .int vMO, .ref aMo, .int vMF_22, .int vMS_22, .ref aMw, .ref aMu, .int vMX, .int vMW])), (aMh, .inl (cA, 24, .inl (vMh))), (aMi, .inl (cA, 72, .inl (vMi))), (aMc, .inl (cA, 24, .inl (vMc))), (aMt, .inl (cA, 24, .inl (vMt))), (aMn, .inl (cA, 6250, .inl (upd vMn_5 r_223.toNatClampNeg x5_22))), (aMl, .inl (cA, 6250, .inl (upd vMl_5 r_237.toNatClampNeg x6_22)))] := hD
        refine lv_iinc (v := x4_5 + 1) (lv' := [(4, .int (x4_5 + 1)), (3, .int 1), (7, .int x7_22), (6, .int x6_22), (5, .int x5_22), (0, .ref aM), (1, .int p0), (2, .int p1)]) hx hb qd_M_work_243 hl (k := 4) rfl (congrArg (fun z => _ + z) (by decide)) (by decide) rfl (fun ls hl => ?_)
        refine lv_goto (tgt := 5) hx hb qd_M_work_246 (by decide) ?_
        exact ih 1 (x4_5 + 1) vMF_22 vMS_22 (upd vMn_5 r_223.toNatClampNeg x5_22) (upd vMl_5 r_237.toNatClampNeg x6_22) H locs ls hP hD hS (lv_sub hl [0, 1, 5, 6, 7] rfl) hres ho
      have hres := hres.trans (if_pos c_172)
      have ho := (if_pos c_172).mp ho
      refine lv_aload_n hx hb qd_M_work_175 rfl (lv_at hl 5 rfl) ?_
      refine va_get (D := (dC, dI)) (ci := 7) (v := .ref aMn) (C := qR_M) (T := qT_M) (N := 23) hx hb hg qi_M hown hK hP 0 rfl rfl 8 (by decide) (hg _ mw_582) (fun _ h9 => h9) rfl qd_M_work_176 ?_
      refine lv_iload hx hb qd_M_work_179 (lv_at hl 3 rfl) ?_
      refine lv_iload_n hx hb qd_M_work_181 rfl (lv_at hl 6 rfl) ?_
      refine lv_iload_n hx hb qd_M_work_182 rfl (lv_at hl 7 rfl) ?_
      refine xc_S (As := [.int x4_5, .int p0, .int p1]) (rest := [.ref aMn]) ⟨hx, hb, hml, hown, hg⟩ (c_M_at l dC dI cA cZ x4_5 p0 p1) (va_cwS 3 hg (q_gS mw_663 mw_664 mw_8 mw_665) rfl rfl rfl qh_M_at.2 ⟨Nat.le_of_ble_eq_true rfl, Nat.le_of_ble_eq_true rfl⟩) hN hK hP [] rfl rfl hl.1 rfl (Nat.le_of_ble_eq_true rfl) qd_M_work_183 ⟨Nat.zero_le _, Nat.zero_le _⟩ ?_
      refine lv_topi (fun r_183 w_183 => ?_)
      have hres := hres.trans (bd_eq w_183)
      have ho := (bd_eq w_183).mp ho
      obtain ⟨g_186, ho⟩ := ho
      refine va_iald hx hb hK hP 5 0 rfl rfl g_186 qd_M_work_186 ?_
      refine lv_iload hx hb qd_M_work_187 (lv_at hl 2 rfl) ?_
      refine lv_icmp_ne (tgt := 209) hx hb qd_M_work_189 (by decide) (fun c_189 => ?_) (fun c_189 => ?_)
      · have hres := hres.trans (if_neg c_189)
        have ho := (if_neg c_189).mp ho
        refine lv_iconst (v := 1) hx hb qd_M_work_209 (by decide) ?_
        refine lv_goto (tgt := 214) hx hb qd_M_work_210 (by decide) ?_
        refine lv_istore_n (lv' := [(3, .int 1), (7, .int x7_22), (6, .int x6_22), (5, .int x5_22), (4, .int x4_5), (0, .ref aM), (1, .int p0), (2, .int p1)]) hx hb qd_M_work_214 rfl hl (by decide) rfl (fun ls hl => ?_)
        refine lv_aload_n hx hb qd_M_work_215 rfl (lv_at hl 5 rfl) ?_
        refine va_get (D := (dC, dI)) (ci := 7) (v := .ref aMn) (C := qR_M) (T := qT_M) (N := 23) hx hb hg qi_M hown hK hP 0 rfl rfl 8 (by decide) (hg _ mw_582) (fun _ h9 => h9) rfl qd_M_work_216 ?_
        refine lv_iload hx hb qd_M_work_219 (lv_at hl 4 rfl) ?_
        refine lv_iload_n hx hb qd_M_work_221 rfl (lv_at hl 6 rfl) ?_
        refine lv_iload_n hx hb qd_M_work_222 rfl (lv_at hl 7 rfl) ?_
        refine xc_S (As := [.int x4_5, .int p0, .int p1]) (rest := [.ref aMn]) ⟨hx, hb, hml, hown, hg⟩ (c_M_at l dC dI cA cZ x4_5 p0 p1) (va_cwS 3 hg (q_gS mw_663 mw_664 mw_8 mw_665) rfl rfl rfl qh_M_at.2 ⟨Nat.le_of_ble_eq_true rfl, Nat.le_of_ble_eq_true rfl⟩) hN hK hP [] rfl rfl hl.1 rfl (Nat.le_of_ble_eq_true rfl) qd_M_work_223 ⟨Nat.zero_le _, Nat.zero_le _⟩ ?_
        refine lv_topi (fun r_223 w_223 => ?_)
        have hres := hres.trans (bd_eq w_223)
        have ho := (bd_eq w_223).mp ho
        refine lv_iload hx hb qd_M_work_226 (lv_at hl 3 rfl) ?_
        obtain ⟨g_228, ho⟩ := ho
        refine va_iast hx hb hK hP hD hS 5 0 rfl rfl g_228 qd_M_work_228 (fun H locs hP hD hS => ?_)
        have hP : va_P (dC, dI) vwCl [(aM, .inr (7, [.int vMT, .int vMP, .ref aMh, .ref aMi, .ref aMc, .int vMK, .ref aMt, .int vMB, .ref aMn, .ref aMl, .ref aMs, .int vMD, .ref aMd, .int vME, .ref aMe, .int vMO, .ref aMo, .int vMF_22, .int vMS_22, .ref aMw, .ref aMu, .int vMX, .int vMW])), (aMh, .inl (cA, 24, .inl (vMh))), (aMi, .inl (cA, 72, .inl (vMi))), (aMc, .inl (cA, 24, .inl (vMc))), (aMt, .inl (cA, 24, .inl (vMt))), (aMn, .inl (cA, 6250, .inl (upd vMn_5 r_223.toNatClampNeg x5_22))), (aMl, .inl (cA, 6250, .inl (vMl_5)))] H := hP
        have hD : va_D A [(aM, .inr (7, [.int vMT, .int vMP, .ref aMh, .ref aMi, .ref aMc, .int vMK, .ref aMt, .int vMB, .ref aMn, .ref aMl, .ref aMs, .int vMD, .ref aMd, .int vME, .ref aMe, .int vMO, .ref aMo, .int vMF_22, .int vMS_22, .ref aMw, .ref aMu, .int vMX, .int vMW])), (aMh, .inl (cA, 24, .inl (vMh))), (aMi, .inl (cA, 72, .inl (vMi))), (aMc, .inl (cA, 24, .inl (vMc))), (aMt, .inl (cA, 24, .inl (vMt))), (aMn, .inl (cA, 6250, .inl (upd vMn_5 r_223.toNatClampNeg x5_22))), (aMl, .inl (cA, 6250, .inl (vMl_5)))] := hD
        refine lv_aload_n hx hb qd_M_work_229 rfl (lv_at hl 5 rfl) ?_
        refine va_get (D := (dC, dI)) (ci := 7) (v := .ref aMl) (C := qR_M) (T := qT_M) (N := 23) hx hb hg qi_M hown hK hP 0 rfl rfl 9 (by decide) (hg _ mw_583) (fun _ h9 => h9) rfl qd_M_work_230 ?_
        refine lv_iload hx hb qd_M_work_233 (lv_at hl 4 rfl) ?_
        refine lv_iload_n hx hb qd_M_work_235 rfl (lv_at hl 6 rfl) ?_
        refine lv_iload_n hx hb qd_M_work_236 rfl (lv_at hl 7 rfl) ?_
        refine xc_S (As := [.int x4_5, .int p0, .int p1]) (rest := [.ref aMl]) ⟨hx, hb, hml, hown, hg⟩ (c_M_at l dC dI cA cZ x4_5 p0 p1) (va_cwS 3 hg (q_gS mw_663 mw_664 mw_8 mw_665) rfl rfl rfl qh_M_at.2 ⟨Nat.le_of_ble_eq_true rfl, Nat.le_of_ble_eq_true rfl⟩) hN hK hP [] rfl rfl hl.1 rfl (Nat.le_of_ble_eq_true rfl) qd_M_work_237 ⟨Nat.zero_le _, Nat.zero_le _⟩ ?_
        refine lv_topi (fun r_237 w_237 => ?_)
        have hres := hres.trans (bd_eq w_237)
        have ho := (bd_eq w_237).mp ho
        refine lv_iload hx hb qd_M_work_240 (lv_at hl 2 rfl) ?_
        obtain ⟨g_242, ho⟩ := ho
        refine va_iast hx hb hK hP hD hS 6 0 rfl rfl g_242 qd_M_work_242 (fun H locs hP hD hS => ?_)
        have hP : va_P (dC, dI) vwCl [(aM, .inr (7, [.int vMT, .int vMP, .ref aMh, .ref aMi, .ref aMc, .int vMK, .ref aMt, .int vMB, .ref aMn, .ref aMl, .ref aMs, .int vMD, .ref aMd, .int vME, .ref aMe, .int vMO, .ref aMo, .int vMF_22, .int vMS_22, .ref aMw, .ref aMu, .int vMX, .int vMW])), (aMh, .inl (cA, 24, .inl (vMh))), (aMi, .inl (cA, 72, .inl (vMi))), (aMc, .inl (cA, 24, .inl (vMc))), (aMt, .inl (cA, 24, .inl (vMt))), (aMn, .inl (cA, 6250, .inl (upd vMn_5 r_223.toNatClampNeg x5_22))), (aMl, .inl (cA, 6250, .inl (upd vMl_5 r_237.toNatClampNeg x6_22)))] H := hP
        have hD : va_D A [(aM, .inr (7, [.int vMT, .int vMP, .ref aMh, .ref aMi, .ref aMc, .int vMK, .ref aMt, .int vMB, .ref aMn, .ref aMl, .ref aMs, .int vMD, .ref aMd, .int vME, .ref aMe, .int vMO, .ref aMo, .int vMF_22, .int vMS_22, .ref aMw, .ref aMu, .int vMX, .int vMW])), (aMh, .inl (cA, 24, .inl (vMh))), (aMi, .inl (cA, 72, .inl (vMi))), (aMc, .inl (cA, 24, .inl (vMc))), (aMt, .inl (cA, 24, .inl (vMt))), (aMn, .inl (cA, 6250, .inl (upd vMn_5 r_223.toNatClampNeg x5_22))), (aMl, .inl (cA, 6250, .inl (upd vMl_5 r_237.toNatClampNeg x6_22)))] := hD
        refine lv_iinc (v := x4_5 + 1) (lv' := [(4, .int (x4_5 + 1)), (3, .int 1), (7, .int x7_22), (6, .int x6_22), (5, .int x5_22), (0, .ref aM), (1, .int p0), (2, .int p1)]) hx hb qd_M_work_243 hl (k := 4) rfl (congrArg (fun z => _ + z) (by decide)) (by decide) rfl (fun ls hl => ?_)
        refine lv_goto (tgt := 5) hx hb qd_M_work_246 (by decide) ?_
        exact ih 1 (x4_5 + 1) vMF_22 vMS_22 (upd vMn_5 r_223.toNatClampNeg x5_22) (upd vMl_5 r_237.toNatClampNeg x6_22) H locs ls hP hD hS (lv_sub hl [0, 1, 5, 6, 7] rfl) hres ho
      have hres := hres.trans (if_pos c_189)
      have ho := (if_pos c_189).mp ho
      refine lv_aload_n hx hb qd_M_work_192 rfl (lv_at hl 5 rfl) ?_
      refine va_get (D := (dC, dI)) (ci := 7) (v := .ref aMl) (C := qR_M) (T := qT_M) (N := 23) hx hb hg qi_M hown hK hP 0 rfl rfl 9 (by decide) (hg _ mw_583) (fun _ h9 => h9) rfl qd_M_work_193 ?_
      refine lv_iload hx hb qd_M_work_196 (lv_at hl 3 rfl) ?_
      refine lv_iload_n hx hb qd_M_work_198 rfl (lv_at hl 6 rfl) ?_
      refine lv_iload_n hx hb qd_M_work_199 rfl (lv_at hl 7 rfl) ?_
      refine xc_S (As := [.int x4_5, .int p0, .int p1]) (rest := [.ref aMl]) ⟨hx, hb, hml, hown, hg⟩ (c_M_at l dC dI cA cZ x4_5 p0 p1) (va_cwS 3 hg (q_gS mw_663 mw_664 mw_8 mw_665) rfl rfl rfl qh_M_at.2 ⟨Nat.le_of_ble_eq_true rfl, Nat.le_of_ble_eq_true rfl⟩) hN hK hP [] rfl rfl hl.1 rfl (Nat.le_of_ble_eq_true rfl) qd_M_work_200 ⟨Nat.zero_le _, Nat.zero_le _⟩ ?_
      refine lv_topi (fun r_200 w_200 => ?_)
      have hres := hres.trans (bd_eq w_200)
      have ho := (bd_eq w_200).mp ho
      obtain ⟨g_203, ho⟩ := ho
      refine va_iald hx hb hK hP 6 0 rfl rfl g_203 qd_M_work_203 ?_
      refine lv_iload hx hb qd_M_work_204 (lv_at hl 1 rfl) ?_
      refine lv_icmp_eq (tgt := 213) hx hb qd_M_work_206 (by decide) (fun c_206 => ?_) (fun c_206 => ?_)
      · have hres := hres.trans (if_pos c_206)
        have ho := (if_pos c_206).mp ho
        refine lv_iconst (v := 0) hx hb qd_M_work_213 (by decide) ?_
        refine lv_istore_n (lv' := [(3, .int 0), (7, .int x7_22), (6, .int x6_22), (5, .int x5_22), (4, .int x4_5), (0, .ref aM), (1, .int p0), (2, .int p1)]) hx hb qd_M_work_214 rfl hl (by decide) rfl (fun ls hl => ?_)
        refine lv_aload_n hx hb qd_M_work_215 rfl (lv_at hl 5 rfl) ?_
        refine va_get (D := (dC, dI)) (ci := 7) (v := .ref aMn) (C := qR_M) (T := qT_M) (N := 23) hx hb hg qi_M hown hK hP 0 rfl rfl 8 (by decide) (hg _ mw_582) (fun _ h9 => h9) rfl qd_M_work_216 ?_
        refine lv_iload hx hb qd_M_work_219 (lv_at hl 4 rfl) ?_
        refine lv_iload_n hx hb qd_M_work_221 rfl (lv_at hl 6 rfl) ?_
        refine lv_iload_n hx hb qd_M_work_222 rfl (lv_at hl 7 rfl) ?_
        refine xc_S (As := [.int x4_5, .int p0, .int p1]) (rest := [.ref aMn]) ⟨hx, hb, hml, hown, hg⟩ (c_M_at l dC dI cA cZ x4_5 p0 p1) (va_cwS 3 hg (q_gS mw_663 mw_664 mw_8 mw_665) rfl rfl rfl qh_M_at.2 ⟨Nat.le_of_ble_eq_true rfl, Nat.le_of_ble_eq_true rfl⟩) hN hK hP [] rfl rfl hl.1 rfl (Nat.le_of_ble_eq_true rfl) qd_M_work_223 ⟨Nat.zero_le _, Nat.zero_le _⟩ ?_
        refine lv_topi (fun r_223 w_223 => ?_)
        have hres := hres.trans (bd_eq w_223)
        have ho := (bd_eq w_223).mp ho
        refine lv_iload hx hb qd_M_work_226 (lv_at hl 3 rfl) ?_
        obtain ⟨g_228, ho⟩ := ho
        refine va_iast hx hb hK hP hD hS 5 0 rfl rfl g_228 qd_M_work_228 (fun H locs hP hD hS => ?_)
        have hP : va_P (dC, dI) vwCl [(aM, .inr (7, [.int vMT, .int vMP, .ref aMh, .ref aMi, .ref aMc, .int vMK, .ref aMt, .int vMB, .ref aMn, .ref aMl, .ref aMs, .int vMD, .ref aMd, .int vME, .ref aMe, .int vMO, .ref aMo, .int vMF_22, .int vMS_22, .ref aMw, .ref aMu, .int vMX, .int vMW])), (aMh, .inl (cA, 24, .inl (vMh))), (aMi, .inl (cA, 72, .inl (vMi))), (aMc, .inl (cA, 24, .inl (vMc))), (aMt, .inl (cA, 24, .inl (vMt))), (aMn, .inl (cA, 6250, .inl (upd vMn_5 r_223.toNatClampNeg x5_22))), (aMl, .inl (cA, 6250, .inl (vMl_5)))] H := hP
        have hD : va_D A [(aM, .inr (7, [.int vMT, .int vMP, .ref aMh, .ref aMi, .ref aMc, .int vMK, .ref aMt, .int vMB, .ref aMn, .ref aMl, .ref aMs, .int vMD, .ref aMd, .int vME, .ref aMe, .int vMO, .ref aMo, .int vMF_22, .int vMS_22, .ref aMw, .ref aMu, .int vMX, .int vMW])), (aMh, .inl (cA, 24, .inl (vMh))), (aMi, .inl (cA, 72, .inl (vMi))), (aMc, .inl (cA, 24, .inl (vMc))), (aMt, .inl (cA, 24, .inl (vMt))), (aMn, .inl (cA, 6250, .inl (upd vMn_5 r_223.toNatClampNeg x5_22))), (aMl, .inl (cA, 6250, .inl (vMl_5)))] := hD
        refine lv_aload_n hx hb qd_M_work_229 rfl (lv_at hl 5 rfl) ?_
        refine va_get (D := (dC, dI)) (ci := 7) (v := .ref aMl) (C := qR_M) (T := qT_M) (N := 23) hx hb hg qi_M hown hK hP 0 rfl rfl 9 (by decide) (hg _ mw_583) (fun _ h9 => h9) rfl qd_M_work_230 ?_
        refine lv_iload hx hb qd_M_work_233 (lv_at hl 4 rfl) ?_
        refine lv_iload_n hx hb qd_M_work_235 rfl (lv_at hl 6 rfl) ?_
        refine lv_iload_n hx hb qd_M_work_236 rfl (lv_at hl 7 rfl) ?_
        refine xc_S (As := [.int x4_5, .int p0, .int p1]) (rest := [.ref aMl]) ⟨hx, hb, hml, hown, hg⟩ (c_M_at l dC dI cA cZ x4_5 p0 p1) (va_cwS 3 hg (q_gS mw_663 mw_664 mw_8 mw_665) rfl rfl rfl qh_M_at.2 ⟨Nat.le_of_ble_eq_true rfl, Nat.le_of_ble_eq_true rfl⟩) hN hK hP [] rfl rfl hl.1 rfl (Nat.le_of_ble_eq_true rfl) qd_M_work_237 ⟨Nat.zero_le _, Nat.zero_le _⟩ ?_
        refine lv_topi (fun r_237 w_237 => ?_)
        have hres := hres.trans (bd_eq w_237)
        have ho := (bd_eq w_237).mp ho
        refine lv_iload hx hb qd_M_work_240 (lv_at hl 2 rfl) ?_
        obtain ⟨g_242, ho⟩ := ho
        refine va_iast hx hb hK hP hD hS 6 0 rfl rfl g_242 qd_M_work_242 (fun H locs hP hD hS => ?_)
        have hP : va_P (dC, dI) vwCl [(aM, .inr (7, [.int vMT, .int vMP, .ref aMh, .ref aMi, .ref aMc, .int vMK, .ref aMt, .int vMB, .ref aMn, .ref aMl, .ref aMs, .int vMD, .ref aMd, .int vME, .ref aMe, .int vMO, .ref aMo, .int vMF_22, .int vMS_22, .ref aMw, .ref aMu, .int vMX, .int vMW])), (aMh, .inl (cA, 24, .inl (vMh))), (aMi, .inl (cA, 72, .inl (vMi))), (aMc, .inl (cA, 24, .inl (vMc))), (aMt, .inl (cA, 24, .inl (vMt))), (aMn, .inl (cA, 6250, .inl (upd vMn_5 r_223.toNatClampNeg x5_22))), (aMl, .inl (cA, 6250, .inl (upd vMl_5 r_237.toNatClampNeg x6_22)))] H := hP
        have hD : va_D A [(aM, .inr (7, [.int vMT, .int vMP, .ref aMh, .ref aMi, .ref aMc, .int vMK, .ref aMt, .int vMB, .ref aMn, .ref aMl, .ref aMs, .int vMD, .ref aMd, .int vME, .ref aMe, .int vMO, .ref aMo, .int vMF_22, .int vMS_22, .ref aMw, .ref aMu, .int vMX, .int vMW])), (aMh, .inl (cA, 24, .inl (vMh))), (aMi, .inl (cA, 72, .inl (vMi))), (aMc, .inl (cA, 24, .inl (vMc))), (aMt, .inl (cA, 24, .inl (vMt))), (aMn, .inl (cA, 6250, .inl (upd vMn_5 r_223.toNatClampNeg x5_22))), (aMl, .inl (cA, 6250, .inl (upd vMl_5 r_237.toNatClampNeg x6_22)))] := hD
        refine lv_iinc (v := x4_5 + 1) (lv' := [(4, .int (x4_5 + 1)), (3, .int 0), (7, .int x7_22), (6, .int x6_22), (5, .int x5_22), (0, .ref aM), (1, .int p0), (2, .int p1)]) hx hb qd_M_work_243 hl (k := 4) rfl (congrArg (fun z => _ + z) (by decide)) (by decide) rfl (fun ls hl => ?_)
        refine lv_goto (tgt := 5) hx hb qd_M_work_246 (by decide) ?_
        exact ih 0 (x4_5 + 1) vMF_22 vMS_22 (upd vMn_5 r_223.toNatClampNeg x5_22) (upd vMl_5 r_237.toNatClampNeg x6_22) H locs ls hP hD hS (lv_sub hl [0, 1, 5, 6, 7] rfl) hres ho
      have hres := hres.trans (if_neg c_206)
      have ho := (if_neg c_206).mp ho
      refine lv_iconst (v := 1) hx hb qd_M_work_209 (by decide) ?_
      refine lv_goto (tgt := 214) hx hb qd_M_work_210 (by decide) ?_
      refine lv_istore_n (lv' := [(3, .int 1), (7, .int x7_22), (6, .int x6_22), (5, .int x5_22), (4, .int x4_5), (0, .ref aM), (1, .int p0), (2, .int p1)]) hx hb qd_M_work_214 rfl hl (by decide) rfl (fun ls hl => ?_)
      refine lv_aload_n hx hb qd_M_work_215 rfl (lv_at hl 5 rfl) ?_
      refine va_get (D := (dC, dI)) (ci := 7) (v := .ref aMn) (C := qR_M) (T := qT_M) (N := 23) hx hb hg qi_M hown hK hP 0 rfl rfl 8 (by decide) (hg _ mw_582) (fun _ h9 => h9) rfl qd_M_work_216 ?_
      refine lv_iload hx hb qd_M_work_219 (lv_at hl 4 rfl) ?_
      refine lv_iload_n hx hb qd_M_work_221 rfl (lv_at hl 6 rfl) ?_
      refine lv_iload_n hx hb qd_M_work_222 rfl (lv_at hl 7 rfl) ?_
      refine xc_S (As := [.int x4_5, .int p0, .int p1]) (rest := [.ref aMn]) ⟨hx, hb, hml, hown, hg⟩ (c_M_at l dC dI cA cZ x4_5 p0 p1) (va_cwS 3 hg (q_gS mw_663 mw_664 mw_8 mw_665) rfl rfl rfl qh_M_at.2 ⟨Nat.le_of_ble_eq_true rfl, Nat.le_of_ble_eq_true rfl⟩) hN hK hP [] rfl rfl hl.1 rfl (Nat.le_of_ble_eq_true rfl) qd_M_work_223 ⟨Nat.zero_le _, Nat.zero_le _⟩ ?_
      refine lv_topi (fun r_223 w_223 => ?_)
      have hres := hres.trans (bd_eq w_223)
      have ho := (bd_eq w_223).mp ho
      refine lv_iload hx hb qd_M_work_226 (lv_at hl 3 rfl) ?_
      obtain ⟨g_228, ho⟩ := ho
      refine va_iast hx hb hK hP hD hS 5 0 rfl rfl g_228 qd_M_work_228 (fun H locs hP hD hS => ?_)
      have hP : va_P (dC, dI) vwCl [(aM, .inr (7, [.int vMT, .int vMP, .ref aMh, .ref aMi, .ref aMc, .int vMK, .ref aMt, .int vMB, .ref aMn, .ref aMl, .ref aMs, .int vMD, .ref aMd, .int vME, .ref aMe, .int vMO, .ref aMo, .int vMF_22, .int vMS_22, .ref aMw, .ref aMu, .int vMX, .int vMW])), (aMh, .inl (cA, 24, .inl (vMh))), (aMi, .inl (cA, 72, .inl (vMi))), (aMc, .inl (cA, 24, .inl (vMc))), (aMt, .inl (cA, 24, .inl (vMt))), (aMn, .inl (cA, 6250, .inl (upd vMn_5 r_223.toNatClampNeg x5_22))), (aMl, .inl (cA, 6250, .inl (vMl_5)))] H := hP
      have hD : va_D A [(aM, .inr (7, [.int vMT, .int vMP, .ref aMh, .ref aMi, .ref aMc, .int vMK, .ref aMt, .int vMB, .ref aMn, .ref aMl, .ref aMs, .int vMD, .ref aMd, .int vME, .ref aMe, .int vMO, .ref aMo, .int vMF_22, .int vMS_22, .ref aMw, .ref aMu, .int vMX, .int vMW])), (aMh, .inl (cA, 24, .inl (vMh))), (aMi, .inl (cA, 72, .inl (vMi))), (aMc, .inl (cA, 24, .inl (vMc))), (aMt, .inl (cA, 24, .inl (vMt))), (aMn, .inl (cA, 6250, .inl (upd vMn_5 r_223.toNatClampNeg x5_22))), (aMl, .inl (cA, 6250, .inl (vMl_5)))] := hD
      refine lv_aload_n hx hb qd_M_work_229 rfl (lv_at hl 5 rfl) ?_
      refine va_get (D := (dC, dI)) (ci := 7) (v := .ref aMl) (C := qR_M) (T := qT_M) (N := 23) hx hb hg qi_M hown hK hP 0 rfl rfl 9 (by decide) (hg _ mw_583) (fun _ h9 => h9) rfl qd_M_work_230 ?_
      refine lv_iload hx hb qd_M_work_233 (lv_at hl 4 rfl) ?_
      refine lv_iload_n hx hb qd_M_work_235 rfl (lv_at hl 6 rfl) ?_
      refine lv_iload_n hx hb qd_M_work_236 rfl (lv_at hl 7 rfl) ?_
      refine xc_S (As := [.int x4_5, .int p0, .int p1]) (rest := [.ref aMl]) ⟨hx, hb, hml, hown, hg⟩ (c_M_at l dC dI cA cZ x4_5 p0 p1) (va_cwS 3 hg (q_gS mw_663 mw_664 mw_8 mw_665) rfl rfl rfl qh_M_at.2 ⟨Nat.le_of_ble_eq_true rfl, Nat.le_of_ble_eq_true rfl⟩) hN hK hP [] rfl rfl hl.1 rfl (Nat.le_of_ble_eq_true rfl) qd_M_work_237 ⟨Nat.zero_le _, Nat.zero_le _⟩ ?_
      refine lv_topi (fun r_237 w_237 => ?_)
      have hres := hres.trans (bd_eq w_237)
      have ho := (bd_eq w_237).mp ho
      refine lv_iload hx hb qd_M_work_240 (lv_at hl 2 rfl) ?_
      obtain ⟨g_242, ho⟩ := ho
      refine va_iast hx hb hK hP hD hS 6 0 rfl rfl g_242 qd_M_work_242 (fun H locs hP hD hS => ?_)
      have hP : va_P (dC, dI) vwCl [(aM, .inr (7, [.int vMT, .int vMP, .ref aMh, .ref aMi, .ref aMc, .int vMK, .ref aMt, .int vMB, .ref aMn, .ref aMl, .ref aMs, .int vMD, .ref aMd, .int vME, .ref aMe, .int vMO, .ref aMo, .int vMF_22, .int vMS_22, .ref aMw, .ref aMu, .int vMX, .int vMW])), (aMh, .inl (cA, 24, .inl (vMh))), (aMi, .inl (cA, 72, .inl (vMi))), (aMc, .inl (cA, 24, .inl (vMc))), (aMt, .inl (cA, 24, .inl (vMt))), (aMn, .inl (cA, 6250, .inl (upd vMn_5 r_223.toNatClampNeg x5_22))), (aMl, .inl (cA, 6250, .inl (upd vMl_5 r_237.toNatClampNeg x6_22)))] H := hP
      have hD : va_D A [(aM, .inr (7, [.int vMT, .int vMP, .ref aMh, .ref aMi, .ref aMc, .int vMK, .ref aMt, .int vMB, .ref aMn, .ref aMl, .ref aMs, .int vMD, .ref aMd, .int vME, .ref aMe, .int vMO, .ref aMo, .int vMF_22, .int vMS_22, .ref aMw, .ref aMu, .int vMX, .int vMW])), (aMh, .inl (cA, 24, .inl (vMh))), (aMi, .inl (cA, 72, .inl (vMi))), (aMc, .inl (cA, 24, .inl (vMc))), (aMt, .inl (cA, 24, .inl (vMt))), (aMn, .inl (cA, 6250, .inl (upd vMn_5 r_223.toNatClampNeg x5_22))), (aMl, .inl (cA, 6250, .inl (upd vMl_5 r_237.toNatClampNeg x6_22)))] := hD
      refine lv_iinc (v := x4_5 + 1) (lv' := [(4, .int (x4_5 + 1)), (3, .int 1), (7, .int x7_22), (6, .int x6_22), (5, .int x5_22), (0, .ref aM), (1, .int p0), (2, .int p1)]) hx hb qd_M_work_243 hl (k := 4) rfl (congrArg (fun z => _ + z) (by decide)) (by decide) rfl (fun ls hl => ?_)
      refine lv_goto (tgt := 5) hx hb qd_M_work_246 (by decide) ?_
      exact ih 1 (x4_5 + 1) vMF_22 vMS_22 (upd vMn_5 r_223.toNatClampNeg x5_22) (upd vMl_5 r_237.toNatClampNeg x6_22) H locs ls hP hD hS (lv_sub hl [0, 1, 5, 6, 7] rfl) hres ho
  refine L_5 _ _ (fun x3_5 x4_5 vMF_5 vMS_5 vMn_5 vMl_5 H locs ls hP hD hS hl hres ho => ?_) _ _ _ _ _ _ _ _ _ ls hP hD hS hl hres ho
  refine lv_iload_n hx hb qd_M_work_249 rfl (lv_at hl 1 rfl) ?_
  subst hQ
  exact W.zret (v := x3_5) (ty := .boolean) hx hb hr (x_nz ho.1) (fun t ht hW => ⟨⟨_, (x3_5, vMF_5, vMS_5, vMn_5, vMl_5), rfl, ⟨hres.symm, rfl⟩, ⟨by rw [ht]; exact hP, va_K.moved hW.alike hK, x_N hN hW⟩, hD⟩, hS.F ht⟩) hS.2.2 qd_M_work_250
