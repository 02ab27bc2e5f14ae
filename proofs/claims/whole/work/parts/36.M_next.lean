theorem qd_M_next_0 : decode qc_M_next 0 = .ok (.aload_n 0, 1) := by decide +kernel
theorem qd_M_next_1 : decode qc_M_next 1 = .ok (.iload_n 1, 1) := by decide +kernel
theorem qd_M_next_2 : decode qc_M_next 2 = .ok (.iconst 0, 1) := by decide +kernel
theorem qd_M_next_3 : decode qc_M_next 3 = .ok (.aload_n 0, 1) := by decide +kernel
theorem qd_M_next_4 : decode qc_M_next 4 = .ok (.getfield 54, 3) := by decide +kernel
theorem qd_M_next_7 : decode qc_M_next 7 = .ok (.invokestatic 64, 3) := by decide +kernel
theorem qd_M_next_10 : decode qc_M_next 10 = .ok (.ifCond .ne 7, 3) := by decide +kernel
theorem qd_M_next_13 : decode qc_M_next 13 = .ok (.iconst 1, 1) := by decide +kernel
theorem qd_M_next_14 : decode qc_M_next 14 = .ok (.goto 4, 3) := by decide +kernel
theorem qd_M_next_17 : decode qc_M_next 17 = .ok (.iconst 0, 1) := by decide +kernel
theorem qd_M_next_18 : decode qc_M_next 18 = .ok (.iconst 0, 1) := by decide +kernel
theorem qd_M_next_19 : decode qc_M_next 19 = .ok (.iconst 0, 1) := by decide +kernel
theorem qd_M_next_20 : decode qc_M_next 20 = .ok (.invokevirtual 76, 3) := by decide +kernel
theorem qd_M_next_23 : decode qc_M_next 23 = .ok (.ifCond .eq 5, 3) := by decide +kernel
theorem qd_M_next_26 : decode qc_M_next 26 = .ok (.iconst 0, 1) := by decide +kernel
theorem qd_M_next_27 : decode qc_M_next 27 = .ok (.ireturn, 1) := by decide +kernel
theorem qd_M_next_28 : decode qc_M_next 28 = .ok (.aload_n 0, 1) := by decide +kernel
theorem qd_M_next_29 : decode qc_M_next 29 = .ok (.invokevirtual 137, 3) := by decide +kernel
theorem qd_M_next_32 : decode qc_M_next 32 = .ok (.aload_n 0, 1) := by decide +kernel
theorem qd_M_next_33 : decode qc_M_next 33 = .ok (.invokevirtual 169, 3) := by decide +kernel
theorem qd_M_next_36 : decode qc_M_next 36 = .ok (.aload_n 0, 1) := by decide +kernel
theorem qd_M_next_37 : decode qc_M_next 37 = .ok (.iconst 0, 1) := by decide +kernel
theorem qd_M_next_38 : decode qc_M_next 38 = .ok (.putfield 160, 3) := by decide +kernel
theorem qd_M_next_41 : decode qc_M_next 41 = .ok (.iconst 0, 1) := by decide +kernel
theorem qd_M_next_42 : decode qc_M_next 42 = .ok (.istore_n 2, 1) := by decide +kernel
theorem qd_M_next_43 : decode qc_M_next 43 = .ok (.iload_n 2, 1) := by decide +kernel
theorem qd_M_next_44 : decode qc_M_next 44 = .ok (.sipush 250, 3) := by decide +kernel
theorem qd_M_next_47 : decode qc_M_next 47 = .ok (.if_icmp .ge 24, 3) := by decide +kernel
theorem qd_M_next_50 : decode qc_M_next 50 = .ok (.aload_n 0, 1) := by decide +kernel
theorem qd_M_next_51 : decode qc_M_next 51 = .ok (.getfield 41, 3) := by decide +kernel
theorem qd_M_next_54 : decode qc_M_next 54 = .ok (.iload_n 2, 1) := by decide +kernel
theorem qd_M_next_55 : decode qc_M_next 55 = .ok (.iload_n 2, 1) := by decide +kernel
theorem qd_M_next_56 : decode qc_M_next 56 = .ok (.ifCond .ne 7, 3) := by decide +kernel
theorem qd_M_next_59 : decode qc_M_next 59 = .ok (.iconst 1, 1) := by decide +kernel
theorem qd_M_next_60 : decode qc_M_next 60 = .ok (.goto 4, 3) := by decide +kernel
theorem qd_M_next_63 : decode qc_M_next 63 = .ok (.iconst 0, 1) := by decide +kernel
theorem qd_M_next_64 : decode qc_M_next 64 = .ok (.bastore, 1) := by decide +kernel
theorem qd_M_next_65 : decode qc_M_next 65 = .ok (.iinc 2 1, 3) := by decide +kernel
theorem qd_M_next_68 : decode qc_M_next 68 = .ok (.goto (-25), 3) := by decide +kernel
theorem qd_M_next_71 : decode qc_M_next 71 = .ok (.aload_n 0, 1) := by decide +kernel
theorem qd_M_next_72 : decode qc_M_next 72 = .ok (.iconst 1, 1) := by decide +kernel
theorem qd_M_next_73 : decode qc_M_next 73 = .ok (.putfield 163, 3) := by decide +kernel
theorem qd_M_next_76 : decode qc_M_next 76 = .ok (.aload_n 0, 1) := by decide +kernel
theorem qd_M_next_77 : decode qc_M_next 77 = .ok (.getfield 163, 3) := by decide +kernel
theorem qd_M_next_80 : decode qc_M_next 80 = .ok (.ifCond .eq 127, 3) := by decide +kernel
theorem qd_M_next_83 : decode qc_M_next 83 = .ok (.aload_n 0, 1) := by decide +kernel
theorem qd_M_next_84 : decode qc_M_next 84 = .ok (.iconst 0, 1) := by decide +kernel
theorem qd_M_next_85 : decode qc_M_next 85 = .ok (.putfield 163, 3) := by decide +kernel
theorem qd_M_next_88 : decode qc_M_next 88 = .ok (.iconst 0, 1) := by decide +kernel
theorem qd_M_next_89 : decode qc_M_next 89 = .ok (.istore_n 2, 1) := by decide +kernel
theorem qd_M_next_90 : decode qc_M_next 90 = .ok (.iload_n 2, 1) := by decide +kernel
theorem qd_M_next_91 : decode qc_M_next 91 = .ok (.iload_n 1, 1) := by decide +kernel
theorem qd_M_next_92 : decode qc_M_next 92 = .ok (.if_icmp .gt 112, 3) := by decide +kernel
theorem qd_M_next_95 : decode qc_M_next 95 = .ok (.iconst 0, 1) := by decide +kernel
theorem qd_M_next_96 : decode qc_M_next 96 = .ok (.istore_n 3, 1) := by decide +kernel
theorem qd_M_next_97 : decode qc_M_next 97 = .ok (.iload_n 3, 1) := by decide +kernel
theorem qd_M_next_98 : decode qc_M_next 98 = .ok (.aload_n 0, 1) := by decide +kernel
theorem qd_M_next_99 : decode qc_M_next 99 = .ok (.getfield 51, 3) := by decide +kernel
theorem qd_M_next_102 : decode qc_M_next 102 = .ok (.if_icmp .ge 96, 3) := by decide +kernel
theorem qd_M_next_105 : decode qc_M_next 105 = .ok (.aload_n 0, 1) := by decide +kernel
theorem qd_M_next_106 : decode qc_M_next 106 = .ok (.getfield 41, 3) := by decide +kernel
theorem qd_M_next_109 : decode qc_M_next 109 = .ok (.bipush 10, 2) := by decide +kernel
theorem qd_M_next_111 : decode qc_M_next 111 = .ok (.iload_n 2, 1) := by decide +kernel
theorem qd_M_next_112 : decode qc_M_next 112 = .ok (.imul, 1) := by decide +kernel
theorem qd_M_next_113 : decode qc_M_next 113 = .ok (.aload_n 0, 1) := by decide +kernel
theorem qd_M_next_114 : decode qc_M_next 114 = .ok (.getfield 7, 3) := by decide +kernel
theorem qd_M_next_117 : decode qc_M_next 117 = .ok (.iload_n 3, 1) := by decide +kernel
theorem qd_M_next_118 : decode qc_M_next 118 = .ok (.iaload, 1) := by decide +kernel
theorem qd_M_next_119 : decode qc_M_next 119 = .ok (.iadd, 1) := by decide +kernel
theorem qd_M_next_120 : decode qc_M_next 120 = .ok (.baload, 1) := by decide +kernel
theorem qd_M_next_121 : decode qc_M_next 121 = .ok (.ifCond .eq 56, 3) := by decide +kernel
theorem qd_M_next_124 : decode qc_M_next 124 = .ok (.aload_n 0, 1) := by decide +kernel
theorem qd_M_next_125 : decode qc_M_next 125 = .ok (.aload_n 0, 1) := by decide +kernel
theorem qd_M_next_126 : decode qc_M_next 126 = .ok (.getfield 13, 3) := by decide +kernel
theorem qd_M_next_129 : decode qc_M_next 129 = .ok (.iconst 3, 1) := by decide +kernel
theorem qd_M_next_130 : decode qc_M_next 130 = .ok (.iload_n 3, 1) := by decide +kernel
theorem qd_M_next_131 : decode qc_M_next 131 = .ok (.imul, 1) := by decide +kernel
theorem qd_M_next_132 : decode qc_M_next 132 = .ok (.iaload, 1) := by decide +kernel
theorem qd_M_next_133 : decode qc_M_next 133 = .ok (.invokevirtual 157, 3) := by decide +kernel
theorem qd_M_next_136 : decode qc_M_next 136 = .ok (.ifCond .eq 41, 3) := by decide +kernel
theorem qd_M_next_139 : decode qc_M_next 139 = .ok (.aload_n 0, 1) := by decide +kernel
theorem qd_M_next_140 : decode qc_M_next 140 = .ok (.aload_n 0, 1) := by decide +kernel
theorem qd_M_next_141 : decode qc_M_next 141 = .ok (.getfield 13, 3) := by decide +kernel
theorem qd_M_next_144 : decode qc_M_next 144 = .ok (.iconst 3, 1) := by decide +kernel
theorem qd_M_next_145 : decode qc_M_next 145 = .ok (.iload_n 3, 1) := by decide +kernel
theorem qd_M_next_146 : decode qc_M_next 146 = .ok (.imul, 1) := by decide +kernel
theorem qd_M_next_147 : decode qc_M_next 147 = .ok (.iconst 1, 1) := by decide +kernel
theorem qd_M_next_148 : decode qc_M_next 148 = .ok (.iadd, 1) := by decide +kernel
theorem qd_M_next_149 : decode qc_M_next 149 = .ok (.iaload, 1) := by decide +kernel
theorem qd_M_next_150 : decode qc_M_next 150 = .ok (.invokevirtual 157, 3) := by decide +kernel
theorem qd_M_next_153 : decode qc_M_next 153 = .ok (.ifCond .eq 24, 3) := by decide +kernel
theorem qd_M_next_156 : decode qc_M_next 156 = .ok (.aload_n 0, 1) := by decide +kernel
theorem qd_M_next_157 : decode qc_M_next 157 = .ok (.aload_n 0, 1) := by decide +kernel
theorem qd_M_next_158 : decode qc_M_next 158 = .ok (.getfield 13, 3) := by decide +kernel
theorem qd_M_next_161 : decode qc_M_next 161 = .ok (.iconst 3, 1) := by decide +kernel
theorem qd_M_next_162 : decode qc_M_next 162 = .ok (.iload_n 3, 1) := by decide +kernel
theorem qd_M_next_163 : decode qc_M_next 163 = .ok (.imul, 1) := by decide +kernel
theorem qd_M_next_164 : decode qc_M_next 164 = .ok (.iconst 2, 1) := by decide +kernel
theorem qd_M_next_165 : decode qc_M_next 165 = .ok (.iadd, 1) := by decide +kernel
theorem qd_M_next_166 : decode qc_M_next 166 = .ok (.iaload, 1) := by decide +kernel
theorem qd_M_next_167 : decode qc_M_next 167 = .ok (.invokevirtual 157, 3) := by decide +kernel
theorem qd_M_next_170 : decode qc_M_next 170 = .ok (.ifCond .eq 7, 3) := by decide +kernel
theorem qd_M_next_173 : decode qc_M_next 173 = .ok (.iconst 1, 1) := by decide +kernel
theorem qd_M_next_174 : decode qc_M_next 174 = .ok (.goto 4, 3) := by decide +kernel
theorem qd_M_next_177 : decode qc_M_next 177 = .ok (.iconst 0, 1) := by decide +kernel
theorem qd_M_next_178 : decode qc_M_next 178 = .ok (.istore 4, 2) := by decide +kernel
theorem qd_M_next_180 : decode qc_M_next 180 = .ok (.iload 4, 2) := by decide +kernel
theorem qd_M_next_182 : decode qc_M_next 182 = .ok (.ifCond .eq 10, 3) := by decide +kernel
theorem qd_M_next_185 : decode qc_M_next 185 = .ok (.aload_n 0, 1) := by decide +kernel
theorem qd_M_next_186 : decode qc_M_next 186 = .ok (.iload_n 3, 1) := by decide +kernel
theorem qd_M_next_187 : decode qc_M_next 187 = .ok (.iload_n 2, 1) := by decide +kernel
theorem qd_M_next_188 : decode qc_M_next 188 = .ok (.iload_n 1, 1) := by decide +kernel
theorem qd_M_next_189 : decode qc_M_next 189 = .ok (.invokevirtual 172, 3) := by decide +kernel
theorem qd_M_next_192 : decode qc_M_next 192 = .ok (.iinc 3 1, 3) := by decide +kernel
theorem qd_M_next_195 : decode qc_M_next 195 = .ok (.goto (-98), 3) := by decide +kernel
theorem qd_M_next_198 : decode qc_M_next 198 = .ok (.iinc 2 1, 3) := by decide +kernel
theorem qd_M_next_201 : decode qc_M_next 201 = .ok (.goto (-111), 3) := by decide +kernel
theorem qd_M_next_204 : decode qc_M_next 204 = .ok (.goto (-128), 3) := by decide +kernel
theorem qd_M_next_207 : decode qc_M_next 207 = .ok (.iload_n 1, 1) := by decide +kernel
theorem qd_M_next_208 : decode qc_M_next 208 = .ok (.ifCond .le 28, 3) := by decide +kernel
theorem qd_M_next_211 : decode qc_M_next 211 = .ok (.aload_n 0, 1) := by decide +kernel
theorem qd_M_next_212 : decode qc_M_next 212 = .ok (.getfield 22, 3) := by decide +kernel
theorem qd_M_next_215 : decode qc_M_next 215 = .ok (.iconst 0, 1) := by decide +kernel
theorem qd_M_next_216 : decode qc_M_next 216 = .ok (.iconst 0, 1) := by decide +kernel
theorem qd_M_next_217 : decode qc_M_next 217 = .ok (.iload_n 1, 1) := by decide +kernel
theorem qd_M_next_218 : decode qc_M_next 218 = .ok (.invokestatic 80, 3) := by decide +kernel
theorem qd_M_next_221 : decode qc_M_next 221 = .ok (.iaload, 1) := by decide +kernel
theorem qd_M_next_222 : decode qc_M_next 222 = .ok (.ifCond .le 14, 3) := by decide +kernel
theorem qd_M_next_225 : decode qc_M_next 225 = .ok (.aload_n 0, 1) := by decide +kernel
theorem qd_M_next_226 : decode qc_M_next 226 = .ok (.getfield 160, 3) := by decide +kernel
theorem qd_M_next_229 : decode qc_M_next 229 = .ok (.sipush 1024, 3) := by decide +kernel
theorem qd_M_next_232 : decode qc_M_next 232 = .ok (.ior, 1) := by decide +kernel
theorem qd_M_next_233 : decode qc_M_next 233 = .ok (.goto 7, 3) := by decide +kernel
theorem qd_M_next_236 : decode qc_M_next 236 = .ok (.aload_n 0, 1) := by decide +kernel
theorem qd_M_next_237 : decode qc_M_next 237 = .ok (.getfield 160, 3) := by decide +kernel
theorem qd_M_next_240 : decode qc_M_next 240 = .ok (.ireturn, 1) := by decide +kernel
set_option maxHeartbeats 4000000 in
set_option maxRecDepth 100000 in
theorem c_M_next (l : Launch) (dC : Nat → ClassId) (dI : Nat → Nat → Nat) (cA cZ : ClassId) (N_ : Nat) (aM aMh aMi aMc aMt aMn aMl aMs aMd aMe aMo aMw aMu : Nat) (sz : Nat) (vMT : Int32) (vMP : Int32) (vMK : Int32) (vMB : Int32) (vMD : Int32) (vME : Int32) (vMO : Int32) (vMF : Int32) (vMS : Int32) (vMX : Int32) (vMW : Int32) (vMh : (Nat → Int32)) (vMi : (Nat → Int32)) (vMc : (Nat → Int32)) (vMt : (Nat → Int32)) (vMn : (Nat → Int32)) (vMl : (Nat → Int32)) (vMw : (Nat → Int32)) (vMu : (Nat → Int32)) (p0 : Int32) (ho : o_M_next N_ vMT vMP vMK vMB vMF vMS vMX vMW vMh vMi vMc vMt vMn vMl vMw vMu p0) : Met l qy_M_next qw_M_next ({ frames := 5, cells := 0, slots := 0, locals := 123 }) (va_Pc [.ref aM, .int p0] (fun U => U.heap.size = sz ∧ xP (dC, dI) [(cA, .int), (cZ, .boolean)] [(aM, .inr (7, [.int vMT, .int vMP, .ref aMh, .ref aMi, .ref aMc, .int vMK, .ref aMt, .int vMB, .ref aMn, .ref aMl, .ref aMs, .int vMD, .ref aMd, .int vME, .ref aMe, .int vMO, .ref aMo, .int vMF, .int vMS, .ref aMw, .ref aMu, .int vMX, .int vMW])), (aMh, .inl (cA, 24, .inl (vMh))), (aMi, .inl (cA, 72, .inl (vMi))), (aMc, .inl (cA, 24, .inl (vMc))), (aMt, .inl (cA, 24, .inl (vMt))), (aMn, .inl (cA, 6250, .inl (vMn))), (aMl, .inl (cA, 6250, .inl (vMl))), (aMw, .inl (cZ, 250, .inl (vMw))), (aMu, .inl (cZ, 10, .inl (vMu)))] nestN U ∧ va_D (fun _ => True) [(aM, .inr (7, [.int vMT, .int vMP, .ref aMh, .ref aMi, .ref aMc, .int vMK, .ref aMt, .int vMB, .ref aMn, .ref aMl, .ref aMs, .int vMD, .ref aMd, .int vME, .ref aMe, .int vMO, .ref aMo, .int vMF, .int vMS, .ref aMw, .ref aMu, .int vMX, .int vMW])), (aMh, .inl (cA, 24, .inl (vMh))), (aMi, .inl (cA, 72, .inl (vMi))), (aMc, .inl (cA, 24, .inl (vMc))), (aMt, .inl (cA, 24, .inl (vMt))), (aMn, .inl (cA, 6250, .inl (vMn))), (aMl, .inl (cA, 6250, .inl (vMl))), (aMw, .inl (cZ, 250, .inl (vMw))), (aMu, .inl (cZ, 10, .inl (vMu)))])) (va_Qi (fun r (u : Int32 × Int32 × Int32 × Int32 × Int32 × Int32 × Int32 × (Nat → Int32) × (Nat → Int32) × (Nat → Int32) × (Nat → Int32)) => u = f_M_next N_ vMT vMP vMK vMB vMF vMS vMX vMW vMh vMi vMc vMt vMn vMl vMw vMu p0 ∧ r = u.1) (fun (u : Int32 × Int32 × Int32 × Int32 × Int32 × Int32 × Int32 × (Nat → Int32) × (Nat → Int32) × (Nat → Int32) × (Nat → Int32)) t => xP (dC, dI) [(cA, .int), (cZ, .boolean)] [(aM, .inr (7, [.int u.2.1, .int vMP, .ref aMh, .ref aMi, .ref aMc, .int vMK, .ref aMt, .int u.2.2.1, .ref aMn, .ref aMl, .ref aMs, .int vMD, .ref aMd, .int vME, .ref aMe, .int vMO, .ref aMo, .int u.2.2.2.1, .int u.2.2.2.2.1, .ref aMw, .ref aMu, .int u.2.2.2.2.2.1, .int u.2.2.2.2.2.2.1])), (aMh, .inl (cA, 24, .inl (vMh))), (aMi, .inl (cA, 72, .inl (vMi))), (aMc, .inl (cA, 24, .inl (vMc))), (aMt, .inl (cA, 24, .inl (vMt))), (aMn, .inl (cA, 6250, .inl (u.2.2.2.2.2.2.2.1))), (aMl, .inl (cA, 6250, .inl (u.2.2.2.2.2.2.2.2.1))), (aMw, .inl (cZ, 250, .inl (u.2.2.2.2.2.2.2.2.2.1))), (aMu, .inl (cZ, 10, .inl (u.2.2.2.2.2.2.2.2.2.2)))] nestN t ∧ va_D (va_A [(aM, .inr (7, [.int vMT, .int vMP, .ref aMh, .ref aMi, .ref aMc, .int vMK, .ref aMt, .int vMB, .ref aMn, .ref aMl, .ref aMs, .int vMD, .ref aMd, .int vME, .ref aMe, .int vMO, .ref aMo, .int vMF, .int vMS, .ref aMw, .ref aMu, .int vMX, .int vMW])), (aMh, .inl (cA, 24, .inl (vMh))), (aMi, .inl (cA, 72, .inl (vMi))), (aMc, .inl (cA, 24, .inl (vMc))), (aMt, .inl (cA, 24, .inl (vMt))), (aMn, .inl (cA, 6250, .inl (vMn))), (aMl, .inl (cA, 6250, .inl (vMl))), (aMw, .inl (cZ, 250, .inl (vMw))), (aMu, .inl (cZ, 10, .inl (vMu)))] sz) [(aM, .inr (7, [.int u.2.1, .int vMP, .ref aMh, .ref aMi, .ref aMc, .int vMK, .ref aMt, .int u.2.2.1, .ref aMn, .ref aMl, .ref aMs, .int vMD, .ref aMd, .int vME, .ref aMe, .int vMO, .ref aMo, .int u.2.2.2.1, .int u.2.2.2.2.1, .ref aMw, .ref aMu, .int u.2.2.2.2.2.1, .int u.2.2.2.2.2.2.1])), (aMh, .inl (cA, 24, .inl (vMh))), (aMi, .inl (cA, 72, .inl (vMi))), (aMc, .inl (cA, 24, .inl (vMc))), (aMt, .inl (cA, 24, .inl (vMt))), (aMn, .inl (cA, 6250, .inl (u.2.2.2.2.2.2.2.1))), (aMl, .inl (cA, 6250, .inl (u.2.2.2.2.2.2.2.2.1))), (aMw, .inl (cZ, 250, .inl (u.2.2.2.2.2.2.2.2.2.1))), (aMu, .inl (cZ, 10, .inl (u.2.2.2.2.2.2.2.2.2.2)))]) (va_A [(aM, .inr (7, [.int vMT, .int vMP, .ref aMh, .ref aMi, .ref aMc, .int vMK, .ref aMt, .int vMB, .ref aMn, .ref aMl, .ref aMs, .int vMD, .ref aMd, .int vME, .ref aMe, .int vMO, .ref aMo, .int vMF, .int vMS, .ref aMw, .ref aMu, .int vMX, .int vMW])), (aMh, .inl (cA, 24, .inl (vMh))), (aMi, .inl (cA, 72, .inl (vMi))), (aMc, .inl (cA, 24, .inl (vMc))), (aMt, .inl (cA, 24, .inl (vMt))), (aMn, .inl (cA, 6250, .inl (vMn))), (aMl, .inl (cA, 6250, .inl (vMl))), (aMw, .inl (cZ, 250, .inl (vMw))), (aMu, .inl (cZ, 10, .inl (vMu)))] sz)) 0 0 (va_A [(aM, .inr (7, [.int vMT, .int vMP, .ref aMh, .ref aMi, .ref aMc, .int vMK, .ref aMt, .int vMB, .ref aMn, .ref aMl, .ref aMs, .int vMD, .ref aMd, .int vME, .ref aMe, .int vMO, .ref aMo, .int vMF, .int vMS, .ref aMw, .ref aMu, .int vMX, .int vMW])), (aMh, .inl (cA, 24, .inl (vMh))), (aMi, .inl (cA, 72, .inl (vMi))), (aMc, .inl (cA, 24, .inl (vMc))), (aMt, .inl (cA, 24, .inl (vMt))), (aMn, .inl (cA, 6250, .inl (vMn))), (aMl, .inl (cA, 6250, .inl (vMl))), (aMw, .inl (cZ, 250, .inl (vMw))), (aMu, .inl (cZ, 10, .inl (vMu)))] sz) := by
  refine Met.ofW (cc := qc_M_next) (maxL := 5) (ret := (some .int)) (by decide) rfl ?_
  intro p e s m args below meth c s₁ B hml hv
  obtain ⟨rfl, hsz, ⟨hP, hK, hN⟩, hD0⟩ := hv
  have hx := B.exec
  have hb := B.bytes
  have hr := B.returns
  have hts := atoms_spec (ws := qw_M_next) B.pre
  have hg : ∀ w ∈ gG, w.before _ s = true := fun w h => hts w (List.mem_cons_of_mem _ h)
  have hown : s.vm.findClass qR_M = some m.cls := findClass_of_methodNamed B.named
  have hlocks := B.notSynchronized
  subst hsz
  have hD := hD0.self (sz := s.heap.size)
  generalize hAe : va_A [(aM, .inr (7, [.int vMT, .int vMP, .ref aMh, .ref aMi, .ref aMc, .int vMK, .ref aMt, .int vMB, .ref aMn, .ref aMl, .ref aMs, .int vMD, .ref aMd, .int vME, .ref aMe, .int vMO, .ref aMo, .int vMF, .int vMS, .ref aMw, .ref aMu, .int vMX, .int vMW])), (aMh, .inl (cA, 24, .inl (vMh))), (aMi, .inl (cA, 72, .inl (vMi))), (aMc, .inl (cA, 24, .inl (vMc))), (aMt, .inl (cA, 24, .inl (vMt))), (aMn, .inl (cA, 6250, .inl (vMn))), (aMl, .inl (cA, 6250, .inl (vMl))), (aMw, .inl (cZ, 250, .inl (vMw))), (aMu, .inl (cZ, 10, .inl (vMu)))] s.heap.size = A at hD ⊢
  have hA : ∀ q : Nat, s.heap.size ≤ q → A q := fun q h => by rw [← hAe]; exact Or.inr h
  have hS : va_S A s.heap s.heap [] := va_S.rf
  have hP : va_P (dC, dI) vwCl [(aM, .inr (7, [.int vMT, .int vMP, .ref aMh, .ref aMi, .ref aMc, .int vMK, .ref aMt, .int vMB, .ref aMn, .ref aMl, .ref aMs, .int vMD, .ref aMd, .int vME, .ref aMe, .int vMO, .ref aMo, .int vMF, .int vMS, .ref aMw, .ref aMu, .int vMX, .int vMW])), (aMh, .inl (cA, 24, .inl (vMh))), (aMi, .inl (cA, 72, .inl (vMi))), (aMc, .inl (cA, 24, .inl (vMc))), (aMt, .inl (cA, 24, .inl (vMt))), (aMn, .inl (cA, 6250, .inl (vMn))), (aMl, .inl (cA, 6250, .inl (vMl))), (aMw, .inl (cZ, 250, .inl (vMw))), (aMu, .inl (cZ, 10, .inl (vMu)))] s.heap := hP
  have hl := lv_entry ([.ref aM, .int p0]) (n := 5) (Nat.le_of_ble_eq_true rfl)
  rw [lg_entry_eq]
  generalize (lg_sl ([.ref aM, .int p0]) ++ List.replicate (5 - (lg_sl ([.ref aM, .int p0])).length) Slot.unset).toArray = ls at hl ⊢
  have hl : lv_has ls 5 [(0, .ref aM), (1, .int p0)] := hl
  generalize hF : f_M_next N_ vMT vMP vMK vMB vMF vMS vMX vMW vMh vMi vMc vMt vMn vMl vMw vMu p0 = Fv
  have hres : Fv = f_M_next N_ vMT vMP vMK vMB vMF vMS vMX vMW vMh vMi vMc vMt vMn vMl vMw vMu p0 := hF.symm
  unfold f_M_next at hres
  unfold o_M_next at ho
  generalize hQ : MQ _ _ _ _ _ _ _ = Qg
  refine lv_aload_n hx hb qd_M_next_0 rfl (lv_at hl 0 rfl) ?_
  refine lv_iload_n hx hb qd_M_next_1 rfl (lv_at hl 1 rfl) ?_
  refine lv_iconst (v := 0) hx hb qd_M_next_2 (by decide) ?_
  refine lv_aload_n hx hb qd_M_next_3 rfl (lv_at hl 0 rfl) ?_
  refine va_get (D := (dC, dI)) (ci := 7) (v := .int vMK) (C := qR_M) (T := qT_M) (N := 23) hx hb hg qi_M hown hK hP 0 rfl rfl 5 (by decide) (hg _ mw_579) (fun _ h9 => h9) rfl qd_M_next_4 ?_
  refine xc_S (As := [.int p0, .int 0, .int vMK]) (rest := [.ref aM]) ⟨hx, hb, hml, hown, hg⟩ (c_M_in l dC dI cA cZ p0 0 vMK) (va_cwS 3 hg (q_gS mw_633 mw_634 mw_8 mw_635) rfl rfl rfl qh_M_in.2 ⟨Nat.le_of_ble_eq_true rfl, Nat.le_of_ble_eq_true rfl⟩) hN hK hP [] rfl rfl hl.1 rfl (Nat.le_of_ble_eq_true rfl) qd_M_next_7 ⟨Nat.zero_le _, Nat.zero_le _⟩ ?_
  refine lv_topi (fun r_7 w_7 => ?_)
  have hres := hres.trans (bd_eq w_7)
  have ho := (bd_eq w_7).mp ho
  refine lv_if_ne (tgt := 17) hx hb qd_M_next_10 (by decide) (fun c_10 => ?_) (fun c_10 => ?_)
  · have hres := hres.trans (if_neg c_10)
    have ho := (if_neg c_10).mp ho
    refine lv_iconst (v := 0) hx hb qd_M_next_17 (by decide) ?_
    refine lv_iconst (v := 0) hx hb qd_M_next_18 (by decide) ?_
    refine lv_iconst (v := 0) hx hb qd_M_next_19 (by decide) ?_
    refine xm_Vi (As := [.int 0, .int 0, .int 0]) (rest := []) (w1 := fun (u_20 : Int32 × Int32) => [(aM, .inr (7, [.int u_20.2, .int vMP, .ref aMh, .ref aMi, .ref aMc, .int vMK, .ref aMt, .int vMB, .ref aMn, .ref aMl, .ref aMs, .int vMD, .ref aMd, .int vME, .ref aMe, .int vMO, .ref aMo, .int vMF, .int vMS, .ref aMw, .ref aMu, .int vMX, .int vMW]))]) (w2 := fun (u_20 : Int32 × Int32) => [(aM, .inr (7, [.int u_20.2, .int vMP, .ref aMh, .ref aMi, .ref aMc, .int vMK, .ref aMt, .int vMB, .ref aMn, .ref aMl, .ref aMs, .int vMD, .ref aMd, .int vME, .ref aMe, .int vMO, .ref aMo, .int vMF, .int vMS, .ref aMw, .ref aMu, .int vMX, .int vMW])), (aMh, .inl (cA, 24, .inl (vMh))), (aMi, .inl (cA, 72, .inl (vMi))), (aMc, .inl (cA, 24, .inl (vMc))), (aMt, .inl (cA, 24, .inl (vMt))), (aMn, .inl (cA, 6250, .inl (vMn))), (aMl, .inl (cA, 6250, .inl (vMl))), (aMw, .inl (cZ, 250, .inl (vMw))), (aMu, .inl (cZ, 10, .inl (vMu)))]) ⟨hx, hb, hml, hown, hg⟩ (c_M_refuse l dC dI cA cZ aM aMh aMi aMc aMt aMn aMl aMs aMd aMe aMo aMw aMu _ vMT vMP vMK vMB vMD vME vMO vMF vMS vMX vMW 0 0 0) (cwV 3 hg (q_gV mw_642 mw_643 mw_771 mw_8 mw_644) rfl rfl rfl qh_M_refuse ⟨Nat.le_of_ble_eq_true rfl, Nat.le_of_ble_eq_true rfl⟩) hN hK hP hD hS hA [0] [1, 2, 3, 4, 5, 6, 7, 8] rfl rfl (by decide) (by decide) (by decide) [8, 0, 1, 2, 3, 4, 5, 6, 7] (fun _ => rfl) (by decide) 0 7 rfl rfl rfl hl.1 rfl (Nat.le_of_ble_eq_true rfl) qd_M_next_20 ⟨Nat.zero_le _, Nat.zero_le _⟩ (fun u_20 H locs w_20 hP hD hS => ?_)
    have hP : va_P (dC, dI) vwCl [(aM, .inr (7, [.int u_20.2, .int vMP, .ref aMh, .ref aMi, .ref aMc, .int vMK, .ref aMt, .int vMB, .ref aMn, .ref aMl, .ref aMs, .int vMD, .ref aMd, .int vME, .ref aMe, .int vMO, .ref aMo, .int vMF, .int vMS, .ref aMw, .ref aMu, .int vMX, .int vMW])), (aMh, .inl (cA, 24, .inl (vMh))), (aMi, .inl (cA, 72, .inl (vMi))), (aMc, .inl (cA, 24, .inl (vMc))), (aMt, .inl (cA, 24, .inl (vMt))), (aMn, .inl (cA, 6250, .inl (vMn))), (aMl, .inl (cA, 6250, .inl (vMl))), (aMw, .inl (cZ, 250, .inl (vMw))), (aMu, .inl (cZ, 10, .inl (vMu)))] H := hP
    have hD : va_D A [(aM, .inr (7, [.int u_20.2, .int vMP, .ref aMh, .ref aMi, .ref aMc, .int vMK, .ref aMt, .int vMB, .ref aMn, .ref aMl, .ref aMs, .int vMD, .ref aMd, .int vME, .ref aMe, .int vMO, .ref aMo, .int vMF, .int vMS, .ref aMw, .ref aMu, .int vMX, .int vMW])), (aMh, .inl (cA, 24, .inl (vMh))), (aMi, .inl (cA, 72, .inl (vMi))), (aMc, .inl (cA, 24, .inl (vMc))), (aMt, .inl (cA, 24, .inl (vMt))), (aMn, .inl (cA, 6250, .inl (vMn))), (aMl, .inl (cA, 6250, .inl (vMl))), (aMw, .inl (cZ, 250, .inl (vMw))), (aMu, .inl (cZ, 10, .inl (vMu)))] := hD
    have hres := hres.trans (bd_eq w_20)
    have ho := (bd_eq w_20).mp ho
    refine lv_if_eq (tgt := 28) hx hb qd_M_next_23 (by decide) (fun c_23 => ?_) (fun c_23 => ?_)
    · have hres := hres.trans (if_pos c_23)
      have ho := (if_pos c_23).mp ho
      refine lv_aload_n hx hb qd_M_next_28 rfl (lv_at hl 0 rfl) ?_
      obtain ⟨g_29, ho⟩ := ho
      refine xm_Vv (As := []) (rest := []) (w1 := fun (u_29 : Int32 × Int32 × Int32 × (Nat → Int32) × (Nat → Int32)) => [(aM, .inr (7, [.int u_20.2, .int vMP, .ref aMh, .ref aMi, .ref aMc, .int vMK, .ref aMt, .int u_29.1, .ref aMn, .ref aMl, .ref aMs, .int vMD, .ref aMd, .int vME, .ref aMe, .int vMO, .ref aMo, .int u_29.2.1, .int u_29.2.2.1, .ref aMw, .ref aMu, .int vMX, .int vMW])), (aMh, .inl (cA, 24, .inl (vMh))), (aMi, .inl (cA, 72, .inl (vMi))), (aMc, .inl (cA, 24, .inl (vMc))), (aMt, .inl (cA, 24, .inl (vMt))), (aMn, .inl (cA, 6250, .inl (u_29.2.2.2.1))), (aMl, .inl (cA, 6250, .inl (u_29.2.2.2.2)))]) (w2 := fun (u_29 : Int32 × Int32 × Int32 × (Nat → Int32) × (Nat → Int32)) => [(aM, .inr (7, [.int u_20.2, .int vMP, .ref aMh, .ref aMi, .ref aMc, .int vMK, .ref aMt, .int u_29.1, .ref aMn, .ref aMl, .ref aMs, .int vMD, .ref aMd, .int vME, .ref aMe, .int vMO, .ref aMo, .int u_29.2.1, .int u_29.2.2.1, .ref aMw, .ref aMu, .int vMX, .int vMW])), (aMh, .inl (cA, 24, .inl (vMh))), (aMi, .inl (cA, 72, .inl (vMi))), (aMc, .inl (cA, 24, .inl (vMc))), (aMt, .inl (cA, 24, .inl (vMt))), (aMn, .inl (cA, 6250, .inl (u_29.2.2.2.1))), (aMl, .inl (cA, 6250, .inl (u_29.2.2.2.2))), (aMw, .inl (cZ, 250, .inl (vMw))), (aMu, .inl (cZ, 10, .inl (vMu)))]) ⟨hx, hb, hml, hown, hg⟩ (c_M_know l dC dI cA cZ N_ aM aMh aMi aMc aMt aMn aMl aMs aMd aMe aMo aMw aMu _ u_20.2 vMP vMK vMB vMD vME vMO vMF vMS vMX vMW vMh vMi vMc vMt vMn vMl g_29) (cwV 0 hg (q_gV mw_660 mw_661 mw_773 mw_8 mw_662) rfl rfl rfl qh_M_know ⟨Nat.le_of_ble_eq_true rfl, Nat.le_of_ble_eq_true rfl⟩) hN hK hP hD hS hA [0, 1, 2, 3, 4, 5, 6] [7, 8] rfl rfl (by decide) (by decide) (by decide) [2, 3, 4, 5, 6, 7, 8, 0, 1] (fun _ => rfl) (by decide) 0 7 rfl rfl rfl hl.1 rfl (Nat.le_of_ble_eq_true rfl) qd_M_next_29 ⟨Nat.zero_le _, Nat.zero_le _⟩ (fun u_29 H locs w_29 hP hD hS => ?_)
      have hP : va_P (dC, dI) vwCl [(aM, .inr (7, [.int u_20.2, .int vMP, .ref aMh, .ref aMi, .ref aMc, .int vMK, .ref aMt, .int u_29.1, .ref aMn, .ref aMl, .ref aMs, .int vMD, .ref aMd, .int vME, .ref aMe, .int vMO, .ref aMo, .int u_29.2.1, .int u_29.2.2.1, .ref aMw, .ref aMu, .int vMX, .int vMW])), (aMh, .inl (cA, 24, .inl (vMh))), (aMi, .inl (cA, 72, .inl (vMi))), (aMc, .inl (cA, 24, .inl (vMc))), (aMt, .inl (cA, 24, .inl (vMt))), (aMn, .inl (cA, 6250, .inl (u_29.2.2.2.1))), (aMl, .inl (cA, 6250, .inl (u_29.2.2.2.2))), (aMw, .inl (cZ, 250, .inl (vMw))), (aMu, .inl (cZ, 10, .inl (vMu)))] H := hP
      have hD : va_D A [(aM, .inr (7, [.int u_20.2, .int vMP, .ref aMh, .ref aMi, .ref aMc, .int vMK, .ref aMt, .int u_29.1, .ref aMn, .ref aMl, .ref aMs, .int vMD, .ref aMd, .int vME, .ref aMe, .int vMO, .ref aMo, .int u_29.2.1, .int u_29.2.2.1, .ref aMw, .ref aMu, .int vMX, .int vMW])), (aMh, .inl (cA, 24, .inl (vMh))), (aMi, .inl (cA, 72, .inl (vMi))), (aMc, .inl (cA, 24, .inl (vMc))), (aMt, .inl (cA, 24, .inl (vMt))), (aMn, .inl (cA, 6250, .inl (u_29.2.2.2.1))), (aMl, .inl (cA, 6250, .inl (u_29.2.2.2.2))), (aMw, .inl (cZ, 250, .inl (vMw))), (aMu, .inl (cZ, 10, .inl (vMu)))] := hD
      have hres := hres.trans (bd_eq w_29)
      have ho := (bd_eq w_29).mp ho
      refine lv_aload_n hx hb qd_M_next_32 rfl (lv_at hl 0 rfl) ?_
      obtain ⟨g_33, ho⟩ := ho
      refine xm_Vv (As := []) (rest := []) (w1 := fun (u_33 : (Nat → Int32)) => [(aM, .inr (7, [.int u_20.2, .int vMP, .ref aMh, .ref aMi, .ref aMc, .int vMK, .ref aMt, .int u_29.1, .ref aMn, .ref aMl, .ref aMs, .int vMD, .ref aMd, .int vME, .ref aMe, .int vMO, .ref aMo, .int u_29.2.1, .int u_29.2.2.1, .ref aMw, .ref aMu, .int vMX, .int vMW])), (aMh, .inl (cA, 24, .inl (vMh))), (aMi, .inl (cA, 72, .inl (vMi))), (aMu, .inl (cZ, 10, .inl (u_33)))]) (w2 := fun (u_33 : (Nat → Int32)) => [(aM, .inr (7, [.int u_20.2, .int vMP, .ref aMh, .ref aMi, .ref aMc, .int vMK, .ref aMt, .int u_29.1, .ref aMn, .ref aMl, .ref aMs, .int vMD, .ref aMd, .int vME, .ref aMe, .int vMO, .ref aMo, .int u_29.2.1, .int u_29.2.2.1, .ref aMw, .ref aMu, .int vMX, .int vMW])), (aMh, .inl (cA, 24, .inl (vMh))), (aMi, .inl (cA, 72, .inl (vMi))), (aMc, .inl (cA, 24, .inl (vMc))), (aMt, .inl (cA, 24, .inl (vMt))), (aMn, .inl (cA, 6250, .inl (u_29.2.2.2.1))), (aMl, .inl (cA, 6250, .inl (u_29.2.2.2.2))), (aMw, .inl (cZ, 250, .inl (vMw))), (aMu, .inl (cZ, 10, .inl (u_33)))]) ⟨hx, hb, hml, hown, hg⟩ (c_M_findUseful l dC dI cA cZ N_ aM aMh aMi aMc aMt aMn aMl aMs aMd aMe aMo aMw aMu _ u_20.2 vMP vMK u_29.1 vMD vME vMO u_29.2.1 u_29.2.2.1 vMX vMW vMh vMi vMu g_33) (cwV 0 hg (q_gV mw_731 mw_732 mw_786 mw_8 mw_733) rfl rfl rfl qh_M_findUseful ⟨Nat.le_of_ble_eq_true rfl, Nat.le_of_ble_eq_true rfl⟩) hN hK hP hD hS hA [0, 1, 2, 8] [3, 4, 5, 6, 7] rfl rfl (by decide) (by decide) (by decide) [5, 6, 7, 0, 1, 2, 3, 4, 8] (fun _ => rfl) (by decide) 0 7 rfl rfl rfl hl.1 rfl (Nat.le_of_ble_eq_true rfl) qd_M_next_33 ⟨Nat.zero_le _, Nat.zero_le _⟩ (fun u_33 H locs w_33 hP hD hS => ?_)
      have hP : va_P (dC, dI) vwCl [(aM, .inr (7, [.int u_20.2, .int vMP, .ref aMh, .ref aMi, .ref aMc, .int vMK, .ref aMt, .int u_29.1, .ref aMn, .ref aMl, .ref aMs, .int vMD, .ref aMd, .int vME, .ref aMe, .int vMO, .ref aMo, .int u_29.2.1, .int u_29.2.2.1, .ref aMw, .ref aMu, .int vMX, .int vMW])), (aMh, .inl (cA, 24, .inl (vMh))), (aMi, .inl (cA, 72, .inl (vMi))), (aMc, .inl (cA, 24, .inl (vMc))), (aMt, .inl (cA, 24, .inl (vMt))), (aMn, .inl (cA, 6250, .inl (u_29.2.2.2.1))), (aMl, .inl (cA, 6250, .inl (u_29.2.2.2.2))), (aMw, .inl (cZ, 250, .inl (vMw))), (aMu, .inl (cZ, 10, .inl (u_33)))] H := hP
      have hD : va_D A [(aM, .inr (7, [.int u_20.2, .int vMP, .ref aMh, .ref aMi, .ref aMc, .int vMK, .ref aMt, .int u_29.1, .ref aMn, .ref aMl, .ref aMs, .int vMD, .ref aMd, .int vME, .ref aMe, .int vMO, .ref aMo, .int u_29.2.1, .int u_29.2.2.1, .ref aMw, .ref aMu, .int vMX, .int vMW])), (aMh, .inl (cA, 24, .inl (vMh))), (aMi, .inl (cA, 72, .inl (vMi))), (aMc, .inl (cA, 24, .inl (vMc))), (aMt, .inl (cA, 24, .inl (vMt))), (aMn, .inl (cA, 6250, .inl (u_29.2.2.2.1))), (aMl, .inl (cA, 6250, .inl (u_29.2.2.2.2))), (aMw, .inl (cZ, 250, .inl (vMw))), (aMu, .inl (cZ, 10, .inl (u_33)))] := hD
      have hres := hres.trans (bd_eq w_33)
      have ho := (bd_eq w_33).mp ho
      refine lv_aload_n hx hb qd_M_next_36 rfl (lv_at hl 0 rfl) ?_
      refine lv_iconst (v := 0) hx hb qd_M_next_37 (by decide) ?_
      refine va_put (D := (dC, dI)) (ci := 7) (v := .int 0) (ty := .int) (C := qR_M) (T := qT_M) (N := 23) hx hb hg qi_M qt_M qk_M qn_M hown hK hP hD hS 0 rfl rfl 21 (by decide) (hg _ mw_595) (fun _ h9 => h9) rfl (by decide +kernel) rfl rfl (Nat.le_of_ble_eq_true rfl) qd_M_next_38 (fun H locs hP hD hS => ?_)
      have hP : va_P (dC, dI) vwCl [(aM, .inr (7, [.int u_20.2, .int vMP, .ref aMh, .ref aMi, .ref aMc, .int vMK, .ref aMt, .int u_29.1, .ref aMn, .ref aMl, .ref aMs, .int vMD, .ref aMd, .int vME, .ref aMe, .int vMO, .ref aMo, .int u_29.2.1, .int u_29.2.2.1, .ref aMw, .ref aMu, .int 0, .int vMW])), (aMh, .inl (cA, 24, .inl (vMh))), (aMi, .inl (cA, 72, .inl (vMi))), (aMc, .inl (cA, 24, .inl (vMc))), (aMt, .inl (cA, 24, .inl (vMt))), (aMn, .inl (cA, 6250, .inl (u_29.2.2.2.1))), (aMl, .inl (cA, 6250, .inl (u_29.2.2.2.2))), (aMw, .inl (cZ, 250, .inl (vMw))), (aMu, .inl (cZ, 10, .inl (u_33)))] H := hP
      have hD : va_D A [(aM, .inr (7, [.int u_20.2, .int vMP, .ref aMh, .ref aMi, .ref aMc, .int vMK, .ref aMt, .int u_29.1, .ref aMn, .ref aMl, .ref aMs, .int vMD, .ref aMd, .int vME, .ref aMe, .int vMO, .ref aMo, .int u_29.2.1, .int u_29.2.2.1, .ref aMw, .ref aMu, .int 0, .int vMW])), (aMh, .inl (cA, 24, .inl (vMh))), (aMi, .inl (cA, 72, .inl (vMi))), (aMc, .inl (cA, 24, .inl (vMc))), (aMt, .inl (cA, 24, .inl (vMt))), (aMn, .inl (cA, 6250, .inl (u_29.2.2.2.1))), (aMl, .inl (cA, 6250, .inl (u_29.2.2.2.2))), (aMw, .inl (cZ, 250, .inl (vMw))), (aMu, .inl (cZ, 10, .inl (u_33)))] := hD
      refine lv_iconst (v := 0) hx hb qd_M_next_41 (by decide) ?_
      refine lv_istore_n (lv' := [(2, .int 0), (0, .ref aM), (1, .int p0)]) hx hb qd_M_next_42 rfl hl (by decide) rfl (fun ls hl => ?_)
      have L_43 : ∀ (K_ : Int32 → (Nat → Int32) → Int32 × Int32 × Int32 × Int32 × Int32 × Int32 × Int32 × (Nat → Int32) × (Nat → Int32) × (Nat → Int32) × (Nat → Int32)) (Ko_ : Int32 → (Nat → Int32) → Prop) (hk : ∀ (x2_43 : Int32) (vMw_43 : (Nat → Int32)) (H : Heap) (locs : List Loc) (ls : Array Slot), va_P (dC, dI) vwCl [(aM, .inr (7, [.int u_20.2, .int vMP, .ref aMh, .ref aMi, .ref aMc, .int vMK, .ref aMt, .int u_29.1, .ref aMn, .ref aMl, .ref aMs, .int vMD, .ref aMd, .int vME, .ref aMe, .int vMO, .ref aMo, .int u_29.2.1, .int u_29.2.2.1, .ref aMw, .ref aMu, .int 0, .int vMW])), (aMh, .inl (cA, 24, .inl (vMh))), (aMi, .inl (cA, 72, .inl (vMi))), (aMc, .inl (cA, 24, .inl (vMc))), (aMt, .inl (cA, 24, .inl (vMt))), (aMn, .inl (cA, 6250, .inl (u_29.2.2.2.1))), (aMl, .inl (cA, 6250, .inl (u_29.2.2.2.2))), (aMw, .inl (cZ, 250, .inl (vMw_43))), (aMu, .inl (cZ, 10, .inl (u_33)))] H → va_D A [(aM, .inr (7, [.int u_20.2, .int vMP, .ref aMh, .ref aMi, .ref aMc, .int vMK, .ref aMt, .int u_29.1, .ref aMn, .ref aMl, .ref aMs, .int vMD, .ref aMd, .int vME, .ref aMe, .int vMO, .ref aMo, .int u_29.2.1, .int u_29.2.2.1, .ref aMw, .ref aMu, .int 0, .int vMW])), (aMh, .inl (cA, 24, .inl (vMh))), (aMi, .inl (cA, 72, .inl (vMi))), (aMc, .inl (cA, 24, .inl (vMc))), (aMt, .inl (cA, 24, .inl (vMt))), (aMn, .inl (cA, 6250, .inl (u_29.2.2.2.1))), (aMl, .inl (cA, 6250, .inl (u_29.2.2.2.2))), (aMw, .inl (cZ, 250, .inl (vMw_43))), (aMu, .inl (cZ, 10, .inl (u_33)))] → va_S A s.heap H locs → lv_has ls 5 [(2, .int x2_43), (0, .ref aM), (1, .int p0)] → Fv = K_ x2_43 vMw_43 → Ko_ x2_43 vMw_43 → W p l e ({ frames := 5, cells := 0, slots := 0, locals := 123 } : Room) s m (([.ref aM, .int p0] : List Value).toArray) below meth c H locs 0 0 Qg (F0 m 71 ls [])) (n : Nat) (x2_43 : Int32) (vMw_43 : (Nat → Int32)) (H : Heap) (locs : List Loc) (ls : Array Slot), va_P (dC, dI) vwCl [(aM, .inr (7, [.int u_20.2, .int vMP, .ref aMh, .ref aMi, .ref aMc, .int vMK, .ref aMt, .int u_29.1, .ref aMn, .ref aMl, .ref aMs, .int vMD, .ref aMd, .int vME, .ref aMe, .int vMO, .ref aMo, .int u_29.2.1, .int u_29.2.2.1, .ref aMw, .ref aMu, .int 0, .int vMW])), (aMh, .inl (cA, 24, .inl (vMh))), (aMi, .inl (cA, 72, .inl (vMi))), (aMc, .inl (cA, 24, .inl (vMc))), (aMt, .inl (cA, 24, .inl (vMt))), (aMn, .inl (cA, 6250, .inl (u_29.2.2.2.1))), (aMl, .inl (cA, 6250, .inl (u_29.2.2.2.2))), (aMw, .inl (cZ, 250, .inl (vMw_43))), (aMu, .inl (cZ, 10, .inl (u_33)))] H → va_D A [(aM, .inr (7, [.int u_20.2, .int vMP, .ref aMh, .ref aMi, .ref aMc, .int vMK, .ref aMt, .int u_29.1, .ref aMn, .ref aMl, .ref aMs, .int vMD, .ref aMd, .int vME, .ref aMe, .int vMO, .ref aMo, .int u_29.2.1, .int u_29.2.2.1, .ref aMw, .ref aMu, .int 0, .int vMW])), (aMh, .inl (cA, 24, .inl (vMh))), (aMi, .inl (cA, 72, .inl (vMi))), (aMc, .inl (cA, 24, .inl (vMc))), (aMt, .inl (cA, 24, .inl (vMt))), (aMn, .inl (cA, 6250, .inl (u_29.2.2.2.1))), (aMl, .inl (cA, 6250, .inl (u_29.2.2.2.2))), (aMw, .inl (cZ, 250, .inl (vMw_43))), (aMu, .inl (cZ, 10, .inl (u_33)))] → va_S A s.heap H locs → lv_has ls 5 [(2, .int x2_43), (0, .ref aM), (1, .int p0)] → Fv = l_M_next_43 K_ n x2_43 vMw_43 → ol_M_next_43 Ko_ n x2_43 vMw_43 → W p l e ({ frames := 5, cells := 0, slots := 0, locals := 123 } : Room) s m (([.ref aM, .int p0] : List Value).toArray) below meth c H locs 0 0 Qg (F0 m 43 ls []) := by
        intro K_ Ko_ hk n
        induction n with
        | zero => intro x2_43 vMw_43 H locs ls hP hD hS hl hres ho; exact ho.elim
        | succ n ih =>
          intro x2_43 vMw_43 H locs ls hP hD hS hl hres ho
          rw [l_M_next_43, s_M_next_43] at hres
          rw [ol_M_next_43, os_M_next_43] at ho
          refine lv_iload_n hx hb qd_M_next_43 rfl (lv_at hl 0 rfl) ?_
          refine lv_sipush (v := 250) hx hb qd_M_next_44 (by decide) ?_
          refine lv_icmp_ge (tgt := 71) hx hb qd_M_next_47 (by decide) (fun c_47 => ?_) (fun c_47 => ?_)
          · have hres := hres.trans (if_pos c_47)
            have ho := (if_pos c_47).mp ho
            exact hk x2_43 vMw_43 H locs ls hP hD hS (lv_sub hl [0, 1, 2] rfl) hres ho
          have hres := hres.trans (if_neg c_47)
          have ho := (if_neg c_47).mp ho
          refine lv_aload_n hx hb qd_M_next_50 rfl (lv_at hl 1 rfl) ?_
          refine va_get (D := (dC, dI)) (ci := 7) (v := .ref aMw) (C := qR_M) (T := qT_M) (N := 23) hx hb hg qi_M hown hK hP 0 rfl rfl 19 (by decide) (hg _ mw_593) (fun _ h9 => h9) rfl qd_M_next_51 ?_
          refine lv_iload_n hx hb qd_M_next_54 rfl (lv_at hl 0 rfl) ?_
          refine lv_iload_n hx hb qd_M_next_55 rfl (lv_at hl 0 rfl) ?_
          refine lv_if_ne (tgt := 63) hx hb qd_M_next_56 (by decide) (fun c_56 => ?_) (fun c_56 => ?_)
          · have hres := hres.trans (if_neg c_56)
            have ho := (if_neg c_56).mp ho
            refine lv_iconst (v := 0) hx hb qd_M_next_63 (by decide) ?_
            obtain ⟨g_64, ho⟩ := ho
            refine va_zast hx hb hK hP hD hS 7 1 rfl rfl g_64 qd_M_next_64 (fun H locs hP hD hS => ?_)
            have hP : va_P (dC, dI) vwCl [(aM, .inr (7, [.int u_20.2, .int vMP, .ref aMh, .ref aMi, .ref aMc, .int vMK, .ref aMt, .int u_29.1, .ref aMn, .ref aMl, .ref aMs, .int vMD, .ref aMd, .int vME, .ref aMe, .int vMO, .ref aMo, .int u_29.2.1, .int u_29.2.2.1, .ref aMw, .ref aMu, .int 0, .int vMW])), (aMh, .inl (cA, 24, .inl (vMh))), (aMi, .inl (cA, 72, .inl (vMi))), (aMc, .inl (cA, 24, .inl (vMc))), (aMt, .inl (cA, 24, .inl (vMt))), (aMn, .inl (cA, 6250, .inl (u_29.2.2.2.1))), (aMl, .inl (cA, 6250, .inl (u_29.2.2.2.2))), (aMw, .inl (cZ, 250, .inl (upd vMw_43 x2_43.toNatClampNeg (vp_nar .boolean 0)))), (aMu, .inl (cZ, 10, .inl (u_33)))] H := hP
            have hD : va_D A [(aM, .inr (7, [.int u_20.2, .int vMP, .ref aMh, .ref aMi, .ref aMc, .int vMK, .ref aMt, .int u_29.1, .ref aMn, .ref aMl, .ref aMs, .int vMD, .ref aMd, .int vME, .ref aMe, .int vMO, .ref aMo, .int u_29.2.1, .int u_29.2.2.1, .ref aMw, .ref aMu, .int 0, .int vMW])), (aMh, .inl (cA, 24, .inl (vMh))), (aMi, .inl (cA, 72, .inl (vMi))), (aMc, .inl (cA, 24, .inl (vMc))), (aMt, .inl (cA, 24, .inl (vMt))), (aMn, .inl (cA, 6250, .inl (u_29.2.2.2.1))), (aMl, .inl (cA, 6250, .inl (u_29.2.2.2.2))), (aMw, .inl (cZ, 250, .inl (upd vMw_43 x2_43.toNatClampNeg (vp_nar .boolean 0)))), (aMu, .inl (cZ, 10, .inl (u_33)))] := hD
            refine lv_iinc (v := x2_43 + 1) (lv' := [(2, .int (x2_43 + 1)), (0, .ref aM), (1, .int p0)]) hx hb qd_M_next_65 hl (k := 0) rfl (congrArg (fun z => _ + z) (by decide)) (by decide) rfl (fun ls hl => ?_)
            refine lv_goto (tgt := 43) hx hb qd_M_next_68 (by decide) ?_
            exact ih (x2_43 + 1) (upd vMw_43 x2_43.toNatClampNeg (vp_nar .boolean 0)) H locs ls hP hD hS (lv_sub hl [0, 1, 2] rfl) hres ho
          have hres := hres.trans (if_pos c_56)
          have ho := (if_pos c_56).mp ho
          refine lv_iconst (v := 1) hx hb qd_M_next_59 (by decide) ?_
          refine lv_goto (tgt := 64) hx hb qd_M_next_60 (by decide) ?_
          obtain ⟨g_64, ho⟩ := ho
          refine va_zast hx hb hK hP hD hS 7 1 rfl rfl g_64 qd_M_next_64 (fun H locs hP hD hS => ?_)
          have hP : va_P (dC, dI) vwCl [(aM, .inr (7, [.int u_20.2, .int vMP, .ref aMh, .ref aMi, .ref aMc, .int vMK, .ref aMt, .int u_29.1, .ref aMn, .ref aMl, .ref aMs, .int vMD, .ref aMd, .int vME, .ref aMe, .int vMO, .ref aMo, .int u_29.2.1, .int u_29.2.2.1, .ref aMw, .ref aMu, .int 0, .int vMW])), (aMh, .inl (cA, 24, .inl (vMh))), (aMi, .inl (cA, 72, .inl (vMi))), (aMc, .inl (cA, 24, .inl (vMc))), (aMt, .inl (cA, 24, .inl (vMt))), (aMn, .inl (cA, 6250, .inl (u_29.2.2.2.1))), (aMl, .inl (cA, 6250, .inl (u_29.2.2.2.2))), (aMw, .inl (cZ, 250, .inl (upd vMw_43 x2_43.toNatClampNeg (vp_nar .boolean 1)))), (aMu, .inl (cZ, 10, .inl (u_33)))] H := hP
          have hD : va_D A [(aM, .inr (7, [.int u_20.2, .int vMP, .ref aMh, .ref aMi, .ref aMc, .int vMK, .ref aMt, .int u_29.1, .ref aMn, .ref aMl, .ref aMs, .int vMD, .ref aMd, .int vME, .ref aMe, .int vMO, .ref aMo, .int u_29.2.1, .int u_29.2.2.1, .ref aMw, .ref aMu, .int 0, .int vMW])), (aMh, .inl (cA, 24, .inl (vMh))), (aMi, .inl (cA, 72, .inl (vMi))), (aMc, .inl (cA, 24, .inl (vMc))), (aMt, .inl (cA, 24, .inl (vMt))), (aMn, .inl (cA, 6250, .inl (u_29.2.2.2.1))), (aMl, .inl (cA, 6250, .inl (u_29.2.2.2.2))), (aMw, .inl (cZ, 250, .inl (upd vMw_43 x2_43.toNatClampNeg (vp_nar .boolean 1)))), (aMu, .inl (cZ, 10, .inl (u_33)))] := hD
          refine lv_iinc (v := x2_43 + 1) (lv' := [(2, .int (x2_43 + 1)), (0, .ref aM), (1, .int p0)]) hx hb qd_M_next_65 hl (k := 0) rfl (congrArg (fun z => _ + z) (by decide)) (by decide) rfl (fun ls hl => ?_)
          refine lv_goto (tgt := 43) hx hb qd_M_next_68 (by decide) ?_
          exact ih (x2_43 + 1) (upd vMw_43 x2_43.toNatClampNeg (vp_nar .boolean 1)) H locs ls hP hD hS (lv_sub hl [0, 1, 2] rfl) hres ho
      refine L_43 _ _ (fun x2_43 vMw_43 H locs ls hP hD hS hl hres ho => ?_) _ _ _ _ _ ls hP hD hS hl hres ho
      refine lv_aload_n hx hb qd_M_next_71 rfl (lv_at hl 1 rfl) ?_
      refine lv_iconst (v := 1) hx hb qd_M_next_72 (by decide) ?_
      refine va_put (D := (dC, dI)) (ci := 7) (v := .int 1) (ty := .boolean) (C := qR_M) (T := qT_M) (N := 23) hx hb hg qi_M qt_M qk_M qn_M hown hK hP hD hS 0 rfl rfl 22 (by decide) (hg _ mw_596) (fun _ h9 => h9) rfl (by decide +kernel) rfl rfl (Nat.le_of_ble_eq_true rfl) qd_M_next_73 (fun H locs hP hD hS => ?_)
      have hP : va_P (dC, dI) vwCl [(aM, .inr (7, [.int u_20.2, .int vMP, .ref aMh, .ref aMi, .ref aMc, .int vMK, .ref aMt, .int u_29.1, .ref aMn, .ref aMl, .ref aMs, .int vMD, .ref aMd, .int vME, .ref aMe, .int vMO, .ref aMo, .int u_29.2.1, .int u_29.2.2.1, .ref aMw, .ref aMu, .int 0, .int 1])), (aMh, .inl (cA, 24, .inl (vMh))), (aMi, .inl (cA, 72, .inl (vMi))), (aMc, .inl (cA, 24, .inl (vMc))), (aMt, .inl (cA, 24, .inl (vMt))), (aMn, .inl (cA, 6250, .inl (u_29.2.2.2.1))), (aMl, .inl (cA, 6250, .inl (u_29.2.2.2.2))), (aMw, .inl (cZ, 250, .inl (vMw_43))), (aMu, .inl (cZ, 10, .inl (u_33)))] H := hP
      have hD : va_D A [(aM, .inr (7, [.int u_20.2, .int vMP, .ref aMh, .ref aMi, .ref aMc, .int vMK, .ref aMt, .int u_29.1, .ref aMn, .ref aMl, .ref aMs, .int vMD, .ref aMd, .int vME, .ref aMe, .int vMO, .ref aMo, .int u_29.2.1, .int u_29.2.2.1, .ref aMw, .ref aMu, .int 0, .int 1])), (aMh, .inl (cA, 24, .inl (vMh))), (aMi, .inl (cA, 72, .inl (vMi))), (aMc, .inl (cA, 24, .inl (vMc))), (aMt, .inl (cA, 24, .inl (vMt))), (aMn, .inl (cA, 6250, .inl (u_29.2.2.2.1))), (aMl, .inl (cA, 6250, .inl (u_29.2.2.2.2))), (aMw, .inl (cZ, 250, .inl (vMw_43))), (aMu, .inl (cZ, 10, .inl (u_33)))] := hD
      have L_76 : ∀ (K_ : Int32 → Int32 → Int32 → (Nat → Int32) → Int32 × Int32 × Int32 × Int32 × Int32 × Int32 × Int32 × (Nat → Int32) × (Nat → Int32) × (Nat → Int32) × (Nat → Int32)) (Ko_ : Int32 → Int32 → Int32 → (Nat → Int32) → Prop) (hk : ∀ (x2_76 : Int32) (vMX_76 : Int32) (vMW_76 : Int32) (vMw_76 : (Nat → Int32)) (H : Heap) (locs : List Loc) (ls : Array Slot), va_P (dC, dI) vwCl [(aM, .inr (7, [.int u_20.2, .int vMP, .ref aMh, .ref aMi, .ref aMc, .int vMK, .ref aMt, .int u_29.1, .ref aMn, .ref aMl, .ref aMs, .int vMD, .ref aMd, .int vME, .ref aMe, .int vMO, .ref aMo, .int u_29.2.1, .int u_29.2.2.1, .ref aMw, .ref aMu, .int vMX_76, .int vMW_76])), (aMh, .inl (cA, 24, .inl (vMh))), (aMi, .inl (cA, 72, .inl (vMi))), (aMc, .inl (cA, 24, .inl (vMc))), (aMt, .inl (cA, 24, .inl (vMt))), (aMn, .inl (cA, 6250, .inl (u_29.2.2.2.1))), (aMl, .inl (cA, 6250, .inl (u_29.2.2.2.2))), (aMw, .inl (cZ, 250, .inl (vMw_76))), (aMu, .inl (cZ, 10, .inl (u_33)))] H → va_D A [(aM, .inr (7, [.int u_20.2, .int vMP, .ref aMh, .ref aMi, .ref aMc, .int vMK, .ref aMt, .int u_29.1, .ref aMn, .ref aMl, .ref aMs, .int vMD, .ref aMd, .int vME, .ref aMe, .int vMO, .ref aMo, .int u_29.2.1, .int u_29.2.2.1, .ref aMw, .ref aMu, .int vMX_76, .int vMW_76])), (aMh, .inl (cA, 24, .inl (vMh))), (aMi, .inl (cA, 72, .inl (vMi))), (aMc, .inl (cA, 24, .inl (vMc))), (aMt, .inl (cA, 24, .inl (vMt))), (aMn, .inl (cA, 6250, .inl (u_29.2.2.2.1))), (aMl, .inl (cA, 6250, .inl (u_29.2.2.2.2))), (aMw, .inl (cZ, 250, .inl (vMw_76))), (aMu, .inl (cZ, 10, .inl (u_33)))] → va_S A s.heap H locs → lv_has ls 5 [(2, .int x2_76), (0, .ref aM), (1, .int p0)] → Fv = K_ x2_76 vMX_76 vMW_76 vMw_76 → Ko_ x2_76 vMX_76 vMW_76 vMw_76 → W p l e ({ frames := 5, cells := 0, slots := 0, locals := 123 } : Room) s m (([.ref aM, .int p0] : List Value).toArray) below meth c H locs 0 0 Qg (F0 m 207 ls [])) (n : Nat) (x2_76 : Int32) (vMX_76 : Int32) (vMW_76 : Int32) (vMw_76 : (Nat → Int32)) (H : Heap) (locs : List Loc) (ls : Array Slot), va_P (dC, dI) vwCl [(aM, .inr (7, [.int u_20.2, .int vMP, .ref aMh, .ref aMi, .ref aMc, .int vMK, .ref aMt, .int u_29.1, .ref aMn, .ref aMl, .ref aMs, .int vMD, .ref aMd, .int vME, .ref aMe, .int vMO, .ref aMo, .int u_29.2.1, .int u_29.2.2.1, .ref aMw, .ref aMu, .int vMX_76, .int vMW_76])), (aMh, .inl (cA, 24, .inl (vMh))), (aMi, .inl (cA, 72, .inl (vMi))), (aMc, .inl (cA, 24, .inl (vMc))), (aMt, .inl (cA, 24, .inl (vMt))), (aMn, .inl (cA, 6250, .inl (u_29.2.2.2.1))), (aMl, .inl (cA, 6250, .inl (u_29.2.2.2.2))), (aMw, .inl (cZ, 250, .inl (vMw_76))), (aMu, .inl (cZ, 10, .inl (u_33)))] H → va_D A [(aM, .inr (7, [.int u_20.2, .int vMP, .ref aMh, .ref aMi, .ref aMc, .int vMK, .ref aMt, .int u_29.1, .ref aMn, .ref aMl, .ref aMs, .int vMD, .ref aMd, .int vME, .ref aMe, .int vMO, .ref aMo, .int u_29.2.1, .int u_29.2.2.1, .ref aMw, .ref aMu, .int vMX_76, .int vMW_76])), (aMh, .inl (cA, 24, .inl (vMh))), (aMi, .inl (cA, 72, .inl (vMi))), (aMc, .inl (cA, 24, .inl (vMc))), (aMt, .inl (cA, 24, .inl (vMt))), (aMn, .inl (cA, 6250, .inl (u_29.2.2.2.1))), (aMl, .inl (cA, 6250, .inl (u_29.2.2.2.2))), (aMw, .inl (cZ, 250, .inl (vMw_76))), (aMu, .inl (cZ, 10, .inl (u_33)))] → va_S A s.heap H locs → lv_has ls 5 [(2, .int x2_76), (0, .ref aM), (1, .int p0)] → Fv = l_M_next_76 N_ p0 vMP vMh vMi vMt u_29.2.2.2.1 u_33 K_ n x2_76 vMX_76 vMW_76 vMw_76 → ol_M_next_76 N_ p0 vMP vMh vMi vMt u_29.2.2.2.1 u_33 Ko_ n x2_76 vMX_76 vMW_76 vMw_76 → W p l e ({ frames := 5, cells := 0, slots := 0, locals := 123 } : Room) s m (([.ref aM, .int p0] : List Value).toArray) below meth c H locs 0 0 Qg (F0 m 76 ls []) := by
        intro K_ Ko_ hk n
        induction n with
        | zero => intro x2_76 vMX_76 vMW_76 vMw_76 H locs ls hP hD hS hl hres ho; exact ho.elim
        | succ n ih =>
          intro x2_76 vMX_76 vMW_76 vMw_76 H locs ls hP hD hS hl hres ho
          rw [l_M_next_76, s_M_next_76] at hres
          rw [ol_M_next_76, os_M_next_76] at ho
          refine lv_aload_n hx hb qd_M_next_76 rfl (lv_at hl 1 rfl) ?_
          refine va_get (D := (dC, dI)) (ci := 7) (v := .int vMW_76) (C := qR_M) (T := qT_M) (N := 23) hx hb hg qi_M hown hK hP 0 rfl rfl 22 (by decide) (hg _ mw_596) (fun _ h9 => h9) rfl qd_M_next_77 ?_
          refine lv_if_eq (tgt := 207) hx hb qd_M_next_80 (by decide) (fun c_80 => ?_) (fun c_80 => ?_)
          · have hres := hres.trans (if_pos c_80)
            have ho := (if_pos c_80).mp ho
            exact hk x2_76 vMX_76 vMW_76 vMw_76 H locs ls hP hD hS (lv_sub hl [0, 1, 2] rfl) hres ho
          have hres := hres.trans (if_neg c_80)
          have ho := (if_neg c_80).mp ho
          refine lv_aload_n hx hb qd_M_next_83 rfl (lv_at hl 1 rfl) ?_
          refine lv_iconst (v := 0) hx hb qd_M_next_84 (by decide) ?_
          refine va_put (D := (dC, dI)) (ci := 7) (v := .int 0) (ty := .boolean) (C := qR_M) (T := qT_M) (N := 23) hx hb hg qi_M qt_M qk_M qn_M hown hK hP hD hS 0 rfl rfl 22 (by decide) (hg _ mw_596) (fun _ h9 => h9) rfl (by decide +kernel) rfl rfl (Nat.le_of_ble_eq_true rfl) qd_M_next_85 (fun H locs hP hD hS => ?_)
          have hP : va_P (dC, dI) vwCl [(aM, .inr (7, [.int u_20.2, .int vMP, .ref aMh, .ref aMi, .ref aMc, .int vMK, .ref aMt, .int u_29.1, .ref aMn, .ref aMl, .ref aMs, .int vMD, .ref aMd, .int vME, .ref aMe, .int vMO, .ref aMo, .int u_29.2.1, .int u_29.2.2.1, .ref aMw, .ref aMu, .int vMX_76, .int 0])), (aMh, .inl (cA, 24, .inl (vMh))), (aMi, .inl (cA, 72, .inl (vMi))), (aMc, .inl (cA, 24, .inl (vMc))), (aMt, .inl (cA, 24, .inl (vMt))), (aMn, .inl (cA, 6250, .inl (u_29.2.2.2.1))), (aMl, .inl (cA, 6250, .inl (u_29.2.2.2.2))), (aMw, .inl (cZ, 250, .inl (vMw_76))), (aMu, .inl (cZ, 10, .inl (u_33)))] H := hP
          have hD : va_D A [(aM, .inr (7, [.int u_20.2, .int vMP, .ref aMh, .ref aMi, .ref aMc, .int vMK, .ref aMt, .int u_29.1, .ref aMn, .ref aMl, .ref aMs, .int vMD, .ref aMd, .int vME, .ref aMe, .int vMO, .ref aMo, .int u_29.2.1, .int u_29.2.2.1, .ref aMw, .ref aMu, .int vMX_76, .int 0])), (aMh, .inl (cA, 24, .inl (vMh))), (aMi, .inl (cA, 72, .inl (vMi))), (aMc, .inl (cA, 24, .inl (vMc))), (aMt, .inl (cA, 24, .inl (vMt))), (aMn, .inl (cA, 6250, .inl (u_29.2.2.2.1))), (aMl, .inl (cA, 6250, .inl (u_29.2.2.2.2))), (aMw, .inl (cZ, 250, .inl (vMw_76))), (aMu, .inl (cZ, 10, .inl (u_33)))] := hD
          refine lv_iconst (v := 0) hx hb qd_M_next_88 (by decide) ?_
          refine lv_istore_n (lv' := [(2, .int 0), (0, .ref aM), (1, .int p0)]) hx hb qd_M_next_89 rfl hl (by decide) rfl (fun ls hl => ?_)
          have L_90 : ∀ (K_ : Int32 → Int32 → Int32 → (Nat → Int32) → Int32 × Int32 × Int32 × Int32 × Int32 × Int32 × Int32 × (Nat → Int32) × (Nat → Int32) × (Nat → Int32) × (Nat → Int32)) (Ko_ : Int32 → Int32 → Int32 → (Nat → Int32) → Prop) (hk : ∀ (x2_90 : Int32) (vMX_90 : Int32) (vMW_90 : Int32) (vMw_90 : (Nat → Int32)) (H : Heap) (locs : List Loc) (ls : Array Slot), va_P (dC, dI) vwCl [(aM, .inr (7, [.int u_20.2, .int vMP, .ref aMh, .ref aMi, .ref aMc, .int vMK, .ref aMt, .int u_29.1, .ref aMn, .ref aMl, .ref aMs, .int vMD, .ref aMd, .int vME, .ref aMe, .int vMO, .ref aMo, .int u_29.2.1, .int u_29.2.2.1, .ref aMw, .ref aMu, .int vMX_90, .int vMW_90])), (aMh, .inl (cA, 24, .inl (vMh))), (aMi, .inl (cA, 72, .inl (vMi))), (aMc, .inl (cA, 24, .inl (vMc))), (aMt, .inl (cA, 24, .inl (vMt))), (aMn, .inl (cA, 6250, .inl (u_29.2.2.2.1))), (aMl, .inl (cA, 6250, .inl (u_29.2.2.2.2))), (aMw, .inl (cZ, 250, .inl (vMw_90))), (aMu, .inl (cZ, 10, .inl (u_33)))] H → va_D A [(aM, .inr (7, [.int u_20.2, .int vMP, .ref aMh, .ref aMi, .ref aMc, .int vMK, .ref aMt, .int u_29.1, .ref aMn, .ref aMl, .ref aMs, .int vMD, .ref aMd, .int vME, .ref aMe, .int vMO, .ref aMo, .int u_29.2.1, .int u_29.2.2.1, .ref aMw, .ref aMu, .int vMX_90, .int vMW_90])), (aMh, .inl (cA, 24, .inl (vMh))), (aMi, .inl (cA, 72, .inl (vMi))), (aMc, .inl (cA, 24, .inl (vMc))), (aMt, .inl (cA, 24, .inl (vMt))), (aMn, .inl (cA, 6250, .inl (u_29.2.2.2.1))), (aMl, .inl (cA, 6250, .inl (u_29.2.2.2.2))), (aMw, .inl (cZ, 250, .inl (vMw_90))), (aMu, .inl (cZ, 10, .inl (u_33)))] → va_S A s.heap H locs → lv_has ls 5 [(2, .int x2_90), (0, .ref aM), (1, .int p0)] → Fv = K_ x2_90 vMX_90 vMW_90 vMw_90 → Ko_ x2_90 vMX_90 vMW_90 vMw_90 → W p l e ({ frames := 5, cells := 0, slots := 0, locals := 123 } : Room) s m (([.ref aM, .int p0] : List Value).toArray) below meth c H locs 0 0 Qg (F0 m 204 ls [])) (n : Nat) (x2_90 : Int32) (vMX_90 : Int32) (vMW_90 : Int32) (vMw_90 : (Nat → Int32)) (H : Heap) (locs : List Loc) (ls : Array Slot), va_P (dC, dI) vwCl [(aM, .inr (7, [.int u_20.2, .int vMP, .ref aMh, .ref aMi, .ref aMc, .int vMK, .ref aMt, .int u_29.1, .ref aMn, .ref aMl, .ref aMs, .int vMD, .ref aMd, .int vME, .ref aMe, .int vMO, .ref aMo, .int u_29.2.1, .int u_29.2.2.1, .ref aMw, .ref aMu, .int vMX_90, .int vMW_90])), (aMh, .inl (cA, 24, .inl (vMh))), (aMi, .inl (cA, 72, .inl (vMi))), (aMc, .inl (cA, 24, .inl (vMc))), (aMt, .inl (cA, 24, .inl (vMt))), (aMn, .inl (cA, 6250, .inl (u_29.2.2.2.1))), (aMl, .inl (cA, 6250, .inl (u_29.2.2.2.2))), (aMw, .inl (cZ, 250, .inl (vMw_90))), (aMu, .inl (cZ, 10, .inl (u_33)))] H → va_D A [(aM, .inr (7, [.int u_20.2, .int vMP, .ref aMh, .ref aMi, .ref aMc, .int vMK, .ref aMt, .int u_29.1, .ref aMn, .ref aMl, .ref aMs, .int vMD, .ref aMd, .int vME, .ref aMe, .int vMO, .ref aMo, .int u_29.2.1, .int u_29.2.2.1, .ref aMw, .ref aMu, .int vMX_90, .int vMW_90])), (aMh, .inl (cA, 24, .inl (vMh))), (aMi, .inl (cA, 72, .inl (vMi))), (aMc, .inl (cA, 24, .inl (vMc))), (aMt, .inl (cA, 24, .inl (vMt))), (aMn, .inl (cA, 6250, .inl (u_29.2.2.2.1))), (aMl, .inl (cA, 6250, .inl (u_29.2.2.2.2))), (aMw, .inl (cZ, 250, .inl (vMw_90))), (aMu, .inl (cZ, 10, .inl (u_33)))] → va_S A s.heap H locs → lv_has ls 5 [(2, .int x2_90), (0, .ref aM), (1, .int p0)] → Fv = l_M_next_90 N_ p0 vMP vMh vMi vMt u_29.2.2.2.1 u_33 K_ n x2_90 vMX_90 vMW_90 vMw_90 → ol_M_next_90 N_ p0 vMP vMh vMi vMt u_29.2.2.2.1 u_33 Ko_ n x2_90 vMX_90 vMW_90 vMw_90 → W p l e ({ frames := 5, cells := 0, slots := 0, locals := 123 } : Room) s m (([.ref aM, .int p0] : List Value).toArray) below meth c H locs 0 0 Qg (F0 m 90 ls []) := by
            intro K_ Ko_ hk n
            induction n with
            | zero => intro x2_90 vMX_90 vMW_90 vMw_90 H locs ls hP hD hS hl hres ho; exact ho.elim
            | succ n ih =>
              intro x2_90 vMX_90 vMW_90 vMw_90 H locs ls hP hD hS hl hres ho
              rw [l_M_next_90, s_M_next_90] at hres
              rw [ol_M_next_90, os_M_next_90] at ho
              refine lv_iload_n hx hb qd_M_next_90 rfl (lv_at hl 0 rfl) ?_
              refine lv_iload_n hx hb qd_M_next_91 rfl (lv_at hl 2 rfl) ?_
              refine lv_icmp_gt (tgt := 204) hx hb qd_M_next_92 (by decide) (fun c_92 => ?_) (fun c_92 => ?_)
              · have hres := hres.trans (if_pos c_92)
                have ho := (if_pos c_92).mp ho
                exact hk x2_90 vMX_90 vMW_90 vMw_90 H locs ls hP hD hS (lv_sub hl [0, 1, 2] rfl) hres ho
              have hres := hres.trans (if_neg c_92)
              have ho := (if_neg c_92).mp ho
              refine lv_iconst (v := 0) hx hb qd_M_next_95 (by decide) ?_
              refine lv_istore_n (lv' := [(3, .int 0), (2, .int x2_90), (0, .ref aM), (1, .int p0)]) hx hb qd_M_next_96 rfl hl (by decide) rfl (fun ls hl => ?_)
              have L_97 : ∀ (K_ : Int32 → Int32 → Int32 → (Nat → Int32) → Int32 × Int32 × Int32 × Int32 × Int32 × Int32 × Int32 × (Nat → Int32) × (Nat → Int32) × (Nat → Int32) × (Nat → Int32)) (Ko_ : Int32 → Int32 → Int32 → (Nat → Int32) → Prop) (hk : ∀ (x3_97 : Int32) (vMX_97 : Int32) (vMW_97 : Int32) (vMw_97 : (Nat → Int32)) (H : Heap) (locs : List Loc) (ls : Array Slot), va_P (dC, dI) vwCl [(aM, .inr (7, [.int u_20.2, .int vMP, .ref aMh, .ref aMi, .ref aMc, .int vMK, .ref aMt, .int u_29.1, .ref aMn, .ref aMl, .ref aMs, .int vMD, .ref aMd, .int vME, .ref aMe, .int vMO, .ref aMo, .int u_29.2.1, .int u_29.2.2.1, .ref aMw, .ref aMu, .int vMX_97, .int vMW_97])), (aMh, .inl (cA, 24, .inl (vMh))), (aMi, .inl (cA, 72, .inl (vMi))), (aMc, .inl (cA, 24, .inl (vMc))), (aMt, .inl (cA, 24, .inl (vMt))), (aMn, .inl (cA, 6250, .inl (u_29.2.2.2.1))), (aMl, .inl (cA, 6250, .inl (u_29.2.2.2.2))), (aMw, .inl (cZ, 250, .inl (vMw_97))), (aMu, .inl (cZ, 10, .inl (u_33)))] H → va_D A [(aM, .inr (7, [.int u_20.2, .int vMP, .ref aMh, .ref aMi, .ref aMc, .int vMK, .ref aMt, .int u_29.1, .ref aMn, .ref aMl, .ref aMs, .int vMD, .ref aMd, .int vME, .ref aMe, .int vMO, .ref aMo, .int u_29.2.1, .int u_29.2.2.1, .ref aMw, .ref aMu, .int vMX_97, .int vMW_97])), (aMh, .inl (cA, 24, .inl (vMh))), (aMi, .inl (cA, 72, .inl (vMi))), (aMc, .inl (cA, 24, .inl (vMc))), (aMt, .inl (cA, 24, .inl (vMt))), (aMn, .inl (cA, 6250, .inl (u_29.2.2.2.1))), (aMl, .inl (cA, 6250, .inl (u_29.2.2.2.2))), (aMw, .inl (cZ, 250, .inl (vMw_97))), (aMu, .inl (cZ, 10, .inl (u_33)))] → va_S A s.heap H locs → lv_has ls 5 [(3, .int x3_97), (2, .int x2_90), (0, .ref aM), (1, .int p0)] → Fv = K_ x3_97 vMX_97 vMW_97 vMw_97 → Ko_ x3_97 vMX_97 vMW_97 vMw_97 → W p l e ({ frames := 5, cells := 0, slots := 0, locals := 123 } : Room) s m (([.ref aM, .int p0] : List Value).toArray) below meth c H locs 0 0 Qg (F0 m 198 ls [])) (n : Nat) (x3_97 : Int32) (vMX_97 : Int32) (vMW_97 : Int32) (vMw_97 : (Nat → Int32)) (H : Heap) (locs : List Loc) (ls : Array Slot), va_P (dC, dI) vwCl [(aM, .inr (7, [.int u_20.2, .int vMP, .ref aMh, .ref aMi, .ref aMc, .int vMK, .ref aMt, .int u_29.1, .ref aMn, .ref aMl, .ref aMs, .int vMD, .ref aMd, .int vME, .ref aMe, .int vMO, .ref aMo, .int u_29.2.1, .int u_29.2.2.1, .ref aMw, .ref aMu, .int vMX_97, .int vMW_97])), (aMh, .inl (cA, 24, .inl (vMh))), (aMi, .inl (cA, 72, .inl (vMi))), (aMc, .inl (cA, 24, .inl (vMc))), (aMt, .inl (cA, 24, .inl (vMt))), (aMn, .inl (cA, 6250, .inl (u_29.2.2.2.1))), (aMl, .inl (cA, 6250, .inl (u_29.2.2.2.2))), (aMw, .inl (cZ, 250, .inl (vMw_97))), (aMu, .inl (cZ, 10, .inl (u_33)))] H → va_D A [(aM, .inr (7, [.int u_20.2, .int vMP, .ref aMh, .ref aMi, .ref aMc, .int vMK, .ref aMt, .int u_29.1, .ref aMn, .ref aMl, .ref aMs, .int vMD, .ref aMd, .int vME, .ref aMe, .int vMO, .ref aMo, .int u_29.2.1, .int u_29.2.2.1, .ref aMw, .ref aMu, .int vMX_97, .int vMW_97])), (aMh, .inl (cA, 24, .inl (vMh))), (aMi, .inl (cA, 72, .inl (vMi))), (aMc, .inl (cA, 24, .inl (vMc))), (aMt, .inl (cA, 24, .inl (vMt))), (aMn, .inl (cA, 6250, .inl (u_29.2.2.2.1))), (aMl, .inl (cA, 6250, .inl (u_29.2.2.2.2))), (aMw, .inl (cZ, 250, .inl (vMw_97))), (aMu, .inl (cZ, 10, .inl (u_33)))] → va_S A s.heap H locs → lv_has ls 5 [(3, .int x3_97), (2, .int x2_90), (0, .ref aM), (1, .int p0)] → Fv = l_M_next_97 N_ p0 x2_90 vMP vMh vMi vMt u_29.2.2.2.1 u_33 K_ n x3_97 vMX_97 vMW_97 vMw_97 → ol_M_next_97 N_ p0 x2_90 vMP vMh vMi vMt u_29.2.2.2.1 u_33 Ko_ n x3_97 vMX_97 vMW_97 vMw_97 → W p l e ({ frames := 5, cells := 0, slots := 0, locals := 123 } : Room) s m (([.ref aM, .int p0] : List Value).toArray) below meth c H locs 0 0 Qg (F0 m 97 ls []) := by
                intro K_ Ko_ hk n
                induction n with
                | zero => intro x3_97 vMX_97 vMW_97 vMw_97 H locs ls hP hD hS hl hres ho; exact ho.elim
                | succ n ih =>
                  intro x3_97 vMX_97 vMW_97 vMw_97 H locs ls hP hD hS hl hres ho
                  rw [l_M_next_97, s_M_next_97] at hres
                  rw [ol_M_next_97, os_M_next_97] at ho
                  refine lv_iload_n hx hb qd_M_next_97 rfl (lv_at hl 0 rfl) ?_
                  refine lv_aload_n hx hb qd_M_next_98 rfl (lv_at hl 2 rfl) ?_
                  refine va_get (D := (dC, dI)) (ci := 7) (v := .int vMP) (C := qR_M) (T := qT_M) (N := 23) hx hb hg qi_M hown hK hP 0 rfl rfl 1 (by decide) (hg _ mw_575) (fun _ h9 => h9) rfl qd_M_next_99 ?_
                  refine lv_icmp_ge (tgt := 198) hx hb qd_M_next_102 (by decide) (fun c_102 => ?_) (fun c_102 => ?_)
                  · have hres := hres.trans (if_pos c_102)
                    have ho := (if_pos c_102).mp ho
                    exact hk x3_97 vMX_97 vMW_97 vMw_97 H locs ls hP hD hS (lv_sub hl [0, 1, 2, 3] rfl) hres ho
                  have hres := hres.trans (if_neg c_102)
                  have ho := (if_neg c_102).mp ho
                  refine lv_aload_n hx hb qd_M_next_105 rfl (lv_at hl 2 rfl) ?_
                  refine va_get (D := (dC, dI)) (ci := 7) (v := .ref aMw) (C := qR_M) (T := qT_M) (N := 23) hx hb hg qi_M hown hK hP 0 rfl rfl 19 (by decide) (hg _ mw_593) (fun _ h9 => h9) rfl qd_M_next_106 ?_
                  refine lv_bipush (v := 10) hx hb qd_M_next_109 (by decide) ?_
                  refine lv_iload_n hx hb qd_M_next_111 rfl (lv_at hl 1 rfl) ?_
                  refine lv_imul hx hb qd_M_next_112 ?_
                  refine lv_aload_n hx hb qd_M_next_113 rfl (lv_at hl 2 rfl) ?_
                  refine va_get (D := (dC, dI)) (ci := 7) (v := .ref aMh) (C := qR_M) (T := qT_M) (N := 23) hx hb hg qi_M hown hK hP 0 rfl rfl 2 (by decide) (hg _ mw_576) (fun _ h9 => h9) rfl qd_M_next_114 ?_
                  refine lv_iload_n hx hb qd_M_next_117 rfl (lv_at hl 0 rfl) ?_
                  obtain ⟨g_118, ho⟩ := ho
                  refine va_iald hx hb hK hP 1 0 rfl rfl g_118 qd_M_next_118 ?_
                  refine lv_iadd hx hb qd_M_next_119 ?_
                  obtain ⟨g_120, ho⟩ := ho
                  refine va_zald hx hb hK hP 7 1 rfl rfl g_120 qd_M_next_120 ?_
                  refine lv_if_eq (tgt := 177) hx hb qd_M_next_121 (by decide) (fun c_121 => ?_) (fun c_121 => ?_)
                  · have hres := hres.trans (if_pos c_121)
                    have ho := (if_pos c_121).mp ho
                    refine lv_iconst (v := 0) hx hb qd_M_next_177 (by decide) ?_
                    refine lv_istore (lv' := [(4, .int 0), (3, .int x3_97), (2, .int x2_90), (0, .ref aM), (1, .int p0)]) hx hb qd_M_next_178 hl (by decide) rfl (fun ls hl => ?_)
                    refine lv_iload hx hb qd_M_next_180 (lv_at hl 0 rfl) ?_
                    refine lv_if_eq (tgt := 192) hx hb qd_M_next_182 (by decide) (fun c_182 => ?_) (fun c_182 => ?_)
                    rotate_left
                    · exact absurd (by decide) c_182
                    refine lv_iinc (v := x3_97 + 1) (lv' := [(3, .int (x3_97 + 1)), (4, .int 0), (2, .int x2_90), (0, .ref aM), (1, .int p0)]) hx hb qd_M_next_192 hl (k := 1) rfl (congrArg (fun z => _ + z) (by decide)) (by decide) rfl (fun ls hl => ?_)
                    refine lv_goto (tgt := 97) hx hb qd_M_next_195 (by decide) ?_
                    exact ih (x3_97 + 1) vMX_97 vMW_97 vMw_97 H locs ls hP hD hS (lv_sub hl [0, 2, 3, 4] rfl) hres ho
                  have hres := hres.trans (if_neg c_121)
                  have ho := (if_neg c_121).mp ho
                  refine lv_aload_n hx hb qd_M_next_124 rfl (lv_at hl 2 rfl) ?_
                  refine lv_aload_n hx hb qd_M_next_125 rfl (lv_at hl 2 rfl) ?_
                  refine va_get (D := (dC, dI)) (ci := 7) (v := .ref aMi) (C := qR_M) (T := qT_M) (N := 23) hx hb hg qi_M hown hK hP 0 rfl rfl 3 (by decide) (hg _ mw_577) (fun _ h9 => h9) rfl qd_M_next_126 ?_
                  refine lv_iconst (v := 3) hx hb qd_M_next_129 (by decide) ?_
                  refine lv_iload_n hx hb qd_M_next_130 rfl (lv_at hl 0 rfl) ?_
                  refine lv_imul hx hb qd_M_next_131 ?_
                  obtain ⟨g_132, ho⟩ := ho
                  refine va_iald hx hb hK hP 2 0 rfl rfl g_132 qd_M_next_132 ?_
                  obtain ⟨g_133, ho⟩ := ho
                  refine xc_V (As := [.int (vMi (3 * x3_97).toNatClampNeg)]) (rest := []) ⟨hx, hb, hml, hown, hg⟩ (c_M_isUseful l dC dI cA cZ aM aMh aMi aMc aMt aMn aMl aMs aMd aMe aMo aMw aMu u_20.2 vMP vMK u_29.1 vMD vME vMO u_29.2.1 u_29.2.2.1 vMX_97 vMW_97 u_33 (vMi (3 * x3_97).toNatClampNeg) g_133) (cwV 1 hg (q_gV mw_734 mw_735 mw_787 mw_8 mw_736) rfl rfl rfl qh_M_isUseful ⟨Nat.le_of_ble_eq_true rfl, Nat.le_of_ble_eq_true rfl⟩) hN hK hP [0, 8] rfl 0 7 rfl rfl rfl hl.1 rfl (Nat.le_of_ble_eq_true rfl) qd_M_next_133 ⟨Nat.zero_le _, Nat.zero_le _⟩ ?_
                  refine lv_topi (fun r_133 w_133 => ?_)
                  have hres := hres.trans (bd_eq w_133)
                  have ho := (bd_eq w_133).mp ho
                  refine lv_if_eq (tgt := 177) hx hb qd_M_next_136 (by decide) (fun c_136 => ?_) (fun c_136 => ?_)
                  · have hres := hres.trans (if_pos c_136)
                    have ho := (if_pos c_136).mp ho
                    refine lv_iconst (v := 0) hx hb qd_M_next_177 (by decide) ?_
                    refine lv_istore (lv' := [(4, .int 0), (3, .int x3_97), (2, .int x2_90), (0, .ref aM), (1, .int p0)]) hx hb qd_M_next_178 hl (by decide) rfl (fun ls hl => ?_)
                    refine lv_iload hx hb qd_M_next_180 (lv_at hl 0 rfl) ?_
                    refine lv_if_eq (tgt := 192) hx hb qd_M_next_182 (by decide) (fun c_182 => ?_) (fun c_182 => ?_)
                    rotate_left
                    · exact absurd (by decide) c_182
                    refine lv_iinc (v := x3_97 + 1) (lv' := [(3, .int (x3_97 + 1)), (4, .int 0), (2, .int x2_90), (0, .ref aM), (1, .int p0)]) hx hb qd_M_next_192 hl (k := 1) rfl (congrArg (fun z => _ + z) (by decide)) (by decide) rfl (fun ls hl => ?_)
                    refine lv_goto (tgt := 97) hx hb qd_M_next_195 (by decide) ?_
                    exact ih (x3_97 + 1) vMX_97 vMW_97 vMw_97 H locs ls hP hD hS (lv_sub hl [0, 2, 3, 4] rfl) hres ho
                  have hres := hres.trans (if_neg c_136)
                  have ho := (if_neg c_136).mp ho
                  refine lv_aload_n hx hb qd_M_next_139 rfl (lv_at hl 2 rfl) ?_
                  refine lv_aload_n hx hb qd_M_next_140 rfl (lv_at hl 2 rfl) ?_
                  refine va_get (D := (dC, dI)) (ci := 7) (v := .ref aMi) (C := qR_M) (T := qT_M) (N := 23) hx hb hg qi_M hown hK hP 0 rfl rfl 3 (by decide) (hg _ mw_577) (fun _ h9 => h9) rfl qd_M_next_141 ?_
                  refine lv_iconst (v := 3) hx hb qd_M_next_144 (by decide) ?_
                  refine lv_iload_n hx hb qd_M_next_145 rfl (lv_at hl 0 rfl) ?_
                  refine lv_imul hx hb qd_M_next_146 ?_
                  refine lv_iconst (v := 1) hx hb qd_M_next_147 (by decide) ?_
                  refine lv_iadd hx hb qd_M_next_148 ?_
                  obtain ⟨g_149, ho⟩ := ho
                  refine va_iald hx hb hK hP 2 0 rfl rfl g_149 qd_M_next_149 ?_
                  obtain ⟨g_150, ho⟩ := ho
                  refine xc_V (As := [.int (vMi ((3 * x3_97) + 1).toNatClampNeg)]) (rest := []) ⟨hx, hb, hml, hown, hg⟩ (c_M_isUseful l dC dI cA cZ aM aMh aMi aMc aMt aMn aMl aMs aMd aMe aMo aMw aMu u_20.2 vMP vMK u_29.1 vMD vME vMO u_29.2.1 u_29.2.2.1 vMX_97 vMW_97 u_33 (vMi ((3 * x3_97) + 1).toNatClampNeg) g_150) (cwV 1 hg (q_gV mw_734 mw_735 mw_787 mw_8 mw_736) rfl rfl rfl qh_M_isUseful ⟨Nat.le_of_ble_eq_true rfl, Nat.le_of_ble_eq_true rfl⟩) hN hK hP [0, 8] rfl 0 7 rfl rfl rfl hl.1 rfl (Nat.le_of_ble_eq_true rfl) qd_M_next_150 ⟨Nat.zero_le _, Nat.zero_le _⟩ ?_
                  refine lv_topi (fun r_150 w_150 => ?_)
                  have hres := hres.trans (bd_eq w_150)
                  have ho := (bd_eq w_150).mp ho
                  refine lv_if_eq (tgt := 177) hx hb qd_M_next_153 (by decide) (fun c_153 => ?_) (fun c_153 => ?_)
                  · have hres := hres.trans (if_pos c_153)
                    have ho := (if_pos c_153).mp ho
                    refine lv_iconst (v := 0) hx hb qd_M_next_177 (by decide) ?_
                    refine lv_istore (lv' := [(4, .int 0), (3, .int x3_97), (2, .int x2_90), (0, .ref aM), (1, .int p0)]) hx hb qd_M_next_178 hl (by decide) rfl (fun ls hl => ?_)
                    refine lv_iload hx hb qd_M_next_180 (lv_at hl 0 rfl) ?_
                    refine lv_if_eq (tgt := 192) hx hb qd_M_next_182 (by decide) (fun c_182 => ?_) (fun c_182 => ?_)
                    rotate_left
                    · exact absurd (by decide) c_182
                    refine lv_iinc (v := x3_97 + 1) (lv' := [(3, .int (x3_97 + 1)), (4, .int 0), (2, .int x2_90), (0, .ref aM), (1, .int p0)]) hx hb qd_M_next_192 hl (k := 1) rfl (congrArg (fun z => _ + z) (by decide)) (by decide) rfl (fun ls hl => ?_)
                    refine lv_goto (tgt := 97) hx hb qd_M_next_195 (by decide) ?_
                    exact ih (x3_97 + 1) vMX_97 vMW_97 vMw_97 H locs ls hP hD hS (lv_sub hl [0, 2, 3, 4] rfl) hres ho
                  have hres := hres.trans (if_neg c_153)
                  have ho := (if_neg c_153).mp ho
                  refine lv_aload_n hx hb qd_M_next_156 rfl (lv_at hl 2 rfl) ?_
                  refine lv_aload_n hx hb qd_M_next_157 rfl (lv_at hl 2 rfl) ?_
                  refine va_get (D := (dC, dI)) (ci := 7) (v := .ref aMi) (C := qR_M) (T := qT_M) (N := 23) hx hb hg qi_M hown hK hP 0 rfl rfl 3 (by decide) (hg _ mw_577) (fun _ h9 => h9) rfl qd_M_next_158 ?_
                  refine lv_iconst (v := 3) hx hb qd_M_next_161 (by decide) ?_
                  refine lv_iload_n hx hb qd_M_next_162 rfl (lv_at hl 0 rfl) ?_
                  refine lv_imul hx hb qd_M_next_163 ?_
                  refine lv_iconst (v := 2) hx hb qd_M_next_164 (by decide) ?_
                  refine lv_iadd hx hb qd_M_next_165 ?_
                  obtain ⟨g_166, ho⟩ := ho
                  refine va_iald hx hb hK hP 2 0 rfl rfl g_166 qd_M_next_166 ?_
                  obtain ⟨g_167, ho⟩ := ho
                  refine xc_V (As := [.int (vMi ((3 * x3_97) + 2).toNatClampNeg)]) (rest := []) ⟨hx, hb, hml, hown, hg⟩ (c_M_isUseful l dC dI cA cZ aM aMh aMi aMc aMt aMn aMl aMs aMd aMe aMo aMw aMu u_20.2 vMP vMK u_29.1 vMD vME vMO u_29.2.1 u_29.2.2.1 vMX_97 vMW_97 u_33 (vMi ((3 * x3_97) + 2).toNatClampNeg) g_167) (cwV 1 hg (q_gV mw_734 mw_735 mw_787 mw_8 mw_736) rfl rfl rfl qh_M_isUseful ⟨Nat.le_of_ble_eq_true rfl, Nat.le_of_ble_eq_true rfl⟩) hN hK hP [0, 8] rfl 0 7 rfl rfl rfl hl.1 rfl (Nat.le_of_ble_eq_true rfl) qd_M_next_167 ⟨Nat.zero_le _, Nat.zero_le _⟩ ?_
                  refine lv_topi (fun r_167 w_167 => ?_)
                  have hres := hres.trans (bd_eq w_167)
                  have ho := (bd_eq w_167).mp ho
                  refine lv_if_eq (tgt := 177) hx hb qd_M_next_170 (by decide) (fun c_170 => ?_) (fun c_170 => ?_)
                  · have hres := hres.trans (if_pos c_170)
                    have ho := (if_pos c_170).mp ho
                    refine lv_iconst (v := 0) hx hb qd_M_next_177 (by decide) ?_
                    refine lv_istore (lv' := [(4, .int 0), (3, .int x3_97), (2, .int x2_90), (0, .ref aM), (1, .int p0)]) hx hb qd_M_next_178 hl (by decide) rfl (fun ls hl => ?_)
                    refine lv_iload hx hb qd_M_next_180 (lv_at hl 0 rfl) ?_
                    refine lv_if_eq (tgt := 192) hx hb qd_M_next_182 (by decide) (fun c_182 => ?_) (fun c_182 => ?_)
                    rotate_left
                    · exact absurd (by decide) c_182
                    refine lv_iinc (v := x3_97 + 1) (lv' := [(3, .int (x3_97 + 1)), (4, .int 0), (2, .int x2_90), (0, .ref aM), (1, .int p0)]) hx hb qd_M_next_192 hl (k := 1) rfl (congrArg (fun z => _ + z) (by decide)) (by decide) rfl (fun ls hl => ?_)
                    refine lv_goto (tgt := 97) hx hb qd_M_next_195 (by decide) ?_
                    exact ih (x3_97 + 1) vMX_97 vMW_97 vMw_97 H locs ls hP hD hS (lv_sub hl [0, 2, 3, 4] rfl) hres ho
                  have hres := hres.trans (if_neg c_170)
                  have ho := (if_neg c_170).mp ho
                  refine lv_iconst (v := 1) hx hb qd_M_next_173 (by decide) ?_
                  refine lv_goto (tgt := 178) hx hb qd_M_next_174 (by decide) ?_
                  refine lv_istore (lv' := [(4, .int 1), (3, .int x3_97), (2, .int x2_90), (0, .ref aM), (1, .int p0)]) hx hb qd_M_next_178 hl (by decide) rfl (fun ls hl => ?_)
                  refine lv_iload hx hb qd_M_next_180 (lv_at hl 0 rfl) ?_
                  refine lv_if_eq (tgt := 192) hx hb qd_M_next_182 (by decide) (fun c_182 => ?_) (fun c_182 => ?_)
                  · exact absurd c_182 (by decide)
                  refine lv_aload_n hx hb qd_M_next_185 rfl (lv_at hl 3 rfl) ?_
                  refine lv_iload_n hx hb qd_M_next_186 rfl (lv_at hl 1 rfl) ?_
                  refine lv_iload_n hx hb qd_M_next_187 rfl (lv_at hl 2 rfl) ?_
                  refine lv_iload_n hx hb qd_M_next_188 rfl (lv_at hl 4 rfl) ?_
                  obtain ⟨g_189, ho⟩ := ho
                  refine xm_Vv (As := [.int x3_97, .int x2_90, .int p0]) (rest := []) (w1 := fun (u_189 : Int32 × Int32 × (Nat → Int32)) => [(aM, .inr (7, [.int u_20.2, .int vMP, .ref aMh, .ref aMi, .ref aMc, .int vMK, .ref aMt, .int u_29.1, .ref aMn, .ref aMl, .ref aMs, .int vMD, .ref aMd, .int vME, .ref aMe, .int vMO, .ref aMo, .int u_29.2.1, .int u_29.2.2.1, .ref aMw, .ref aMu, .int u_189.1, .int u_189.2.1])), (aMi, .inl (cA, 72, .inl (vMi))), (aMt, .inl (cA, 24, .inl (vMt))), (aMn, .inl (cA, 6250, .inl (u_29.2.2.2.1))), (aMw, .inl (cZ, 250, .inl (u_189.2.2)))]) (w2 := fun (u_189 : Int32 × Int32 × (Nat → Int32)) => [(aM, .inr (7, [.int u_20.2, .int vMP, .ref aMh, .ref aMi, .ref aMc, .int vMK, .ref aMt, .int u_29.1, .ref aMn, .ref aMl, .ref aMs, .int vMD, .ref aMd, .int vME, .ref aMe, .int vMO, .ref aMo, .int u_29.2.1, .int u_29.2.2.1, .ref aMw, .ref aMu, .int u_189.1, .int u_189.2.1])), (aMh, .inl (cA, 24, .inl (vMh))), (aMi, .inl (cA, 72, .inl (vMi))), (aMc, .inl (cA, 24, .inl (vMc))), (aMt, .inl (cA, 24, .inl (vMt))), (aMn, .inl (cA, 6250, .inl (u_29.2.2.2.1))), (aMl, .inl (cA, 6250, .inl (u_29.2.2.2.2))), (aMw, .inl (cZ, 250, .inl (u_189.2.2))), (aMu, .inl (cZ, 10, .inl (u_33)))]) ⟨hx, hb, hml, hown, hg⟩ (c_M_wants l dC dI cA cZ N_ aM aMh aMi aMc aMt aMn aMl aMs aMd aMe aMo aMw aMu _ u_20.2 vMP vMK u_29.1 vMD vME vMO u_29.2.1 u_29.2.2.1 vMX_97 vMW_97 vMi vMt u_29.2.2.2.1 vMw_97 x3_97 x2_90 p0 g_189) (cwV 3 hg (q_gV mw_737 mw_738 mw_788 mw_8 mw_739) rfl rfl rfl qh_M_wants ⟨Nat.le_of_ble_eq_true rfl, Nat.le_of_ble_eq_true rfl⟩) hN hK hP hD hS hA [0, 2, 4, 5, 7] [1, 3, 6, 8] rfl rfl (by decide) (by decide) (by decide) [4, 0, 5, 1, 6, 7, 2, 8, 3] (fun _ => rfl) (by decide) 0 7 rfl rfl rfl hl.1 rfl (Nat.le_of_ble_eq_true rfl) qd_M_next_189 ⟨Nat.zero_le _, Nat.zero_le _⟩ (fun u_189 H locs w_189 hP hD hS => ?_)
                  have hP : va_P (dC, dI) vwCl [(aM, .inr (7, [.int u_20.2, .int vMP, .ref aMh, .ref aMi, .ref aMc, .int vMK, .ref aMt, .int u_29.1, .ref aMn, .ref aMl, .ref aMs, .int vMD, .ref aMd, .int vME, .ref aMe, .int vMO, .ref aMo, .int u_29.2.1, .int u_29.2.2.1, .ref aMw, .ref aMu, .int u_189.1, .int u_189.2.1])), (aMh, .inl (cA, 24, .inl (vMh))), (aMi, .inl (cA, 72, .inl (vMi))), (aMc, .inl (cA, 24, .inl (vMc))), (aMt, .inl (cA, 24, .inl (vMt))), (aMn, .inl (cA, 6250, .inl (u_29.2.2.2.1))), (aMl, .inl (cA, 6250, .inl (u_29.2.2.2.2))), (aMw, .inl (cZ, 250, .inl (u_189.2.2))), (aMu, .inl (cZ, 10, .inl (u_33)))] H := hP
                  have hD : va_D A [(aM, .inr (7, [.int u_20.2, .int vMP, .ref aMh, .ref aMi, .ref aMc, .int vMK, .ref aMt, .int u_29.1, .ref aMn, .ref aMl, .ref aMs, .int vMD, .ref aMd, .int vME, .ref aMe, .int vMO, .ref aMo, .int u_29.2.1, .int u_29.2.2.1, .ref aMw, .ref aMu, .int u_189.1, .int u_189.2.1])), (aMh, .inl (cA, 24, .inl (vMh))), (aMi, .inl (cA, 72, .inl (vMi))), (aMc, .inl (cA, 24, .inl (vMc))), (aMt, .inl (cA, 24, .inl (vMt))), (aMn, .inl (cA, 6250, .inl (u_29.2.2.2.1))), (aMl, .inl (cA, 6250, .inl (u_29.2.2.2.2))), (aMw, .inl (cZ, 250, .inl (u_189.2.2))), (aMu, .inl (cZ, 10, .inl (u_33)))] := hD
                  have hres := hres.trans (bd_eq w_189)
                  have ho := (bd_eq w_189).mp ho
                  refine lv_iinc (v := x3_97 + 1) (lv' := [(3, .int (x3_97 + 1)), (4, .int 1), (2, .int x2_90), (0, .ref aM), (1, .int p0)]) hx hb qd_M_next_192 hl (k := 1) rfl (congrArg (fun z => _ + z) (by decide)) (by decide) rfl (fun ls hl => ?_)
                  refine lv_goto (tgt := 97) hx hb qd_M_next_195 (by decide) ?_
                  exact ih (x3_97 + 1) u_189.1 u_189.2.1 u_189.2.2 H locs ls hP hD hS (lv_sub hl [0, 2, 3, 4] rfl) hres ho
              refine L_97 _ _ (fun x3_97 vMX_97 vMW_97 vMw_97 H locs ls hP hD hS hl hres ho => ?_) _ _ _ _ _ _ _ ls hP hD hS hl hres ho
              refine lv_iinc (v := x2_90 + 1) (lv' := [(2, .int (x2_90 + 1)), (3, .int x3_97), (0, .ref aM), (1, .int p0)]) hx hb qd_M_next_198 hl (k := 1) rfl (congrArg (fun z => _ + z) (by decide)) (by decide) rfl (fun ls hl => ?_)
              refine lv_goto (tgt := 90) hx hb qd_M_next_201 (by decide) ?_
              exact ih (x2_90 + 1) vMX_97 vMW_97 vMw_97 H locs ls hP hD hS (lv_sub hl [0, 2, 3] rfl) hres ho
          refine L_90 _ _ (fun x2_90 vMX_90 vMW_90 vMw_90 H locs ls hP hD hS hl hres ho => ?_) _ _ _ _ _ _ _ ls hP hD hS hl hres ho
          refine lv_goto (tgt := 76) hx hb qd_M_next_204 (by decide) ?_
          exact ih x2_90 vMX_90 vMW_90 vMw_90 H locs ls hP hD hS (lv_sub hl [0, 1, 2] rfl) hres ho
      refine L_76 _ _ (fun x2_76 vMX_76 vMW_76 vMw_76 H locs ls hP hD hS hl hres ho => ?_) _ _ _ _ _ _ _ ls hP hD hS hl hres ho
      refine lv_iload_n hx hb qd_M_next_207 rfl (lv_at hl 2 rfl) ?_
      refine lv_if_le (tgt := 236) hx hb qd_M_next_208 (by decide) (fun c_208 => ?_) (fun c_208 => ?_)
      · have hres := hres.trans (if_pos c_208)
        have ho := (if_pos c_208).mp ho
        refine lv_aload_n hx hb qd_M_next_236 rfl (lv_at hl 1 rfl) ?_
        refine va_get (D := (dC, dI)) (ci := 7) (v := .int vMX_76) (C := qR_M) (T := qT_M) (N := 23) hx hb hg qi_M hown hK hP 0 rfl rfl 21 (by decide) (hg _ mw_595) (fun _ h9 => h9) rfl qd_M_next_237 ?_
        subst hQ
        exact W.iret (v := vMX_76) hx hb hr (fun t ht hW => ⟨⟨_, (vMX_76, u_20.2, u_29.1, u_29.2.1, u_29.2.2.1, vMX_76, vMW_76, u_29.2.2.2.1, u_29.2.2.2.2, vMw_76, u_33), rfl, ⟨hres.symm, rfl⟩, ⟨by rw [ht]; exact hP, va_K.moved hW.alike hK, x_N hN hW⟩, hD⟩, hS.F ht⟩) hS.2.2 qd_M_next_240
      have hres := hres.trans (if_neg c_208)
      have ho := (if_neg c_208).mp ho
      refine lv_aload_n hx hb qd_M_next_211 rfl (lv_at hl 1 rfl) ?_
      refine va_get (D := (dC, dI)) (ci := 7) (v := .ref aMn) (C := qR_M) (T := qT_M) (N := 23) hx hb hg qi_M hown hK hP 0 rfl rfl 8 (by decide) (hg _ mw_582) (fun _ h9 => h9) rfl qd_M_next_212 ?_
      refine lv_iconst (v := 0) hx hb qd_M_next_215 (by decide) ?_
      refine lv_iconst (v := 0) hx hb qd_M_next_216 (by decide) ?_
      refine lv_iload_n hx hb qd_M_next_217 rfl (lv_at hl 2 rfl) ?_
      refine xc_S (As := [.int 0, .int 0, .int p0]) (rest := [.ref aMn]) ⟨hx, hb, hml, hown, hg⟩ (c_M_at l dC dI cA cZ 0 0 p0) (va_cwS 3 hg (q_gS mw_663 mw_664 mw_8 mw_665) rfl rfl rfl qh_M_at.2 ⟨Nat.le_of_ble_eq_true rfl, Nat.le_of_ble_eq_true rfl⟩) hN hK hP [] rfl rfl hl.1 rfl (Nat.le_of_ble_eq_true rfl) qd_M_next_218 ⟨Nat.zero_le _, Nat.zero_le _⟩ ?_
      refine lv_topi (fun r_218 w_218 => ?_)
      have hres := hres.trans (bd_eq w_218)
      have ho := (bd_eq w_218).mp ho
      obtain ⟨g_221, ho⟩ := ho
      refine va_iald hx hb hK hP 5 0 rfl rfl g_221 qd_M_next_221 ?_
      refine lv_if_le (tgt := 236) hx hb qd_M_next_222 (by decide) (fun c_222 => ?_) (fun c_222 => ?_)
      · have hres := hres.trans (if_pos c_222)
        have ho := (if_pos c_222).mp ho
        refine lv_aload_n hx hb qd_M_next_236 rfl (lv_at hl 1 rfl) ?_
        refine va_get (D := (dC, dI)) (ci := 7) (v := .int vMX_76) (C := qR_M) (T := qT_M) (N := 23) hx hb hg qi_M hown hK hP 0 rfl rfl 21 (by decide) (hg _ mw_595) (fun _ h9 => h9) rfl qd_M_next_237 ?_
        subst hQ
        exact W.iret (v := vMX_76) hx hb hr (fun t ht hW => ⟨⟨_, (vMX_76, u_20.2, u_29.1, u_29.2.1, u_29.2.2.1, vMX_76, vMW_76, u_29.2.2.2.1, u_29.2.2.2.2, vMw_76, u_33), rfl, ⟨hres.symm, rfl⟩, ⟨by rw [ht]; exact hP, va_K.moved hW.alike hK, x_N hN hW⟩, hD⟩, hS.F ht⟩) hS.2.2 qd_M_next_240
      have hres := hres.trans (if_neg c_222)
      have ho := (if_neg c_222).mp ho
      refine lv_aload_n hx hb qd_M_next_225 rfl (lv_at hl 1 rfl) ?_
      refine va_get (D := (dC, dI)) (ci := 7) (v := .int vMX_76) (C := qR_M) (T := qT_M) (N := 23) hx hb hg qi_M hown hK hP 0 rfl rfl 21 (by decide) (hg _ mw_595) (fun _ h9 => h9) rfl qd_M_next_226 ?_
      refine lv_sipush (v := 1024) hx hb qd_M_next_229 (by decide) ?_
      refine lv_ior hx hb qd_M_next_232 ?_
      refine lv_goto (tgt := 240) hx hb qd_M_next_233 (by decide) ?_
      subst hQ
      exact W.iret (v := vMX_76 ||| 1024) hx hb hr (fun t ht hW => ⟨⟨_, (vMX_76 ||| 1024, u_20.2, u_29.1, u_29.2.1, u_29.2.2.1, vMX_76, vMW_76, u_29.2.2.2.1, u_29.2.2.2.2, vMw_76, u_33), rfl, ⟨hres.symm, rfl⟩, ⟨by rw [ht]; exact hP, va_K.moved hW.alike hK, x_N hN hW⟩, hD⟩, hS.F ht⟩) hS.2.2 qd_M_next_240
    have hres := hres.trans (if_neg c_23)
    have ho := (if_neg c_23).mp ho
    refine lv_iconst (v := 0) hx hb qd_M_next_26 (by decide) ?_
    subst hQ
    exact W.iret (v := 0) hx hb hr (fun t ht hW => ⟨⟨_, (0, u_20.2, vMB, vMF, vMS, vMX, vMW, vMn, vMl, vMw, vMu), rfl, ⟨hres.symm, rfl⟩, ⟨by rw [ht]; exact hP, va_K.moved hW.alike hK, x_N hN hW⟩, hD⟩, hS.F ht⟩) hS.2.2 qd_M_next_27
  have hres := hres.trans (if_pos c_10)
  have ho := (if_pos c_10).mp ho
  refine lv_iconst (v := 1) hx hb qd_M_next_13 (by decide) ?_
  refine lv_goto (tgt := 18) hx hb qd_M_next_14 (by decide) ?_
  refine lv_iconst (v := 0) hx hb qd_M_next_18 (by decide) ?_
  refine lv_iconst (v := 0) hx hb qd_M_next_19 (by decide) ?_
  refine xm_Vi (As := [.int 1, .int 0, .int 0]) (rest := []) (w1 := fun (u_20 : Int32 × Int32) => [(aM, .inr (7, [.int u_20.2, .int vMP, .ref aMh, .ref aMi, .ref aMc, .int vMK, .ref aMt, .int vMB, .ref aMn, .ref aMl, .ref aMs, .int vMD, .ref aMd, .int vME, .ref aMe, .int vMO, .ref aMo, .int vMF, .int vMS, .ref aMw, .ref aMu, .int vMX, .int vMW]))]) (w2 := fun (u_20 : Int32 × Int32) => [(aM, .inr (7, [.int u_20.2, .int vMP, .ref aMh, .ref aMi, .ref aMc, .int vMK, .ref aMt, .int vMB, .ref aMn, .ref aMl, .ref aMs, .int vMD, .ref aMd, .int vME, .ref aMe, .int vMO, .ref aMo, .int vMF, .int vMS, .ref aMw, .ref aMu, .int vMX, .int vMW])), (aMh, .inl (cA, 24, .inl (vMh))), (aMi, .inl (cA, 72, .inl (vMi))), (aMc, .inl (cA, 24, .inl (vMc))), (aMt, .inl (cA, 24, .inl (vMt))), (aMn, .inl (cA, 6250, .inl (vMn))), (aMl, .inl (cA, 6250, .inl (vMl))), (aMw, .inl (cZ, 250, .inl (vMw))), (aMu, .inl (cZ, 10, .inl (vMu)))]) ⟨hx, hb, hml, hown, hg⟩ (c_M_refuse l dC dI cA cZ aM aMh aMi aMc aMt aMn aMl aMs aMd aMe aMo aMw aMu _ vMT vMP vMK vMB vMD vME vMO vMF vMS vMX vMW 1 0 0) (cwV 3 hg (q_gV mw_642 mw_643 mw_771 mw_8 mw_644) rfl rfl rfl qh_M_refuse ⟨Nat.le_of_ble_eq_true rfl, Nat.le_of_ble_eq_true rfl⟩) hN hK hP hD hS hA [0] [1, 2, 3, 4, 5, 6, 7, 8] rfl rfl (by decide) (by decide) (by decide) [8, 0, 1, 2, 3, 4, 5, 6, 7] (fun _ => rfl) (by decide) 0 7 rfl rfl rfl hl.1 rfl (Nat.le_of_ble_eq_true rfl) qd_M_next_20 ⟨Nat.zero_le _, Nat.zero_le _⟩ (fun u_20 H locs w_20 hP hD hS => ?_)
  have hP : va_P (dC, dI) vwCl [(aM, .inr (7, [.int u_20.2, .int vMP, .ref aMh, .ref aMi, .ref aMc, .int vMK, .ref aMt, .int vMB, .ref aMn, .ref aMl, .ref aMs, .int vMD, .ref aMd, .int vME, .ref aMe, .int vMO, .ref aMo, .int vMF, .int vMS, .ref aMw, .ref aMu, .int vMX, .int vMW])), (aMh, .inl (cA, 24, .inl (vMh))), (aMi, .inl (cA, 72, .inl (vMi))), (aMc, .inl (cA, 24, .inl (vMc))), (aMt, .inl (cA, 24, .inl (vMt))), (aMn, .inl (cA, 6250, .inl (vMn))), (aMl, .inl (cA, 6250, .inl (vMl))), (aMw, .inl (cZ, 250, .inl (vMw))), (aMu, .inl (cZ, 10, .inl (vMu)))] H := hP
  have hD : va_D A [(aM, .inr (7, [.int u_20.2, .int vMP, .ref aMh, .ref aMi, .ref aMc, .int vMK, .ref aMt, .int vMB, .ref aMn, .ref aMl, .ref aMs, .int vMD, .ref aMd, .int vME, .ref aMe, .int vMO, .ref aMo, .int vMF, .int vMS, .ref aMw, .ref aMu, .int vMX, .int vMW])), (aMh, .inl (cA, 24, .inl (vMh))), (aMi, .inl (cA, 72, .inl (vMi))), (aMc, .inl (cA, 24, .inl (vMc))), (aMt, .inl (cA, 24, .inl (vMt))), (aMn, .inl (cA, 6250, .inl (vMn))), (aMl, .inl (cA, 6250, .inl (vMl))), (aMw, .inl (cZ, 250, .inl (vMw))), (aMu, .inl (cZ, 10, .inl (vMu)))] := hD
  have hres := hres.trans (bd_eq w_20)
  have ho := (bd_eq w_20).mp ho
  refine lv_if_eq (tgt := 28) hx hb qd_M_next_23 (by decide) (fun c_23 => ?_) (fun c_23 => ?_)
  · have hres := hres.trans (if_pos c_23)
    have ho := (if_pos c_23).mp ho
    refine lv_aload_n hx hb qd_M_next_28 rfl (lv_at hl 0 rfl) ?_
    obtain ⟨g_29, ho⟩ := ho
    refine xm_Vv (As := []) (rest := []) (w1 := fun (u_29 : Int32 × Int32 × Int32 × (Nat → Int32) × (Nat → Int32)) => [(aM, .inr (7, [.int u_20.2, .int vMP, .ref aMh, .ref aMi, .ref aMc, .int vMK, .ref aMt, .int u_29.1, .ref aMn, .ref aMl, .ref aMs, .int vMD, .ref aMd, .int vME, .ref aMe, .int vMO, .ref aMo, .int u_29.2.1, .int u_29.2.2.1, .ref aMw, .ref aMu, .int vMX, .int vMW])), (aMh, .inl (cA, 24, .inl (vMh))), (aMi, .inl (cA, 72, .inl (vMi))), (aMc, .inl (cA, 24, .inl (vMc))), (aMt, .inl (cA, 24, .inl (vMt))), (aMn, .inl (cA, 6250, .inl (u_29.2.2.2.1))), (aMl, .inl (cA, 6250, .inl (u_29.2.2.2.2)))]) (w2 := fun (u_29 : Int32 × Int32 × Int32 × (Nat → Int32) × (Nat → Int32)) => [(aM, .inr (7, [.int u_20.2, .int vMP, .ref aMh, .ref aMi, .ref aMc, .int vMK, .ref aMt, .int u_29.1, .ref aMn, .ref aMl, .ref aMs, .int vMD, .ref aMd, .int vME, .ref aMe, .int vMO, .ref aMo, .int u_29.2.1, .int u_29.2.2.1, .ref aMw, .ref aMu, .int vMX, .int vMW])), (aMh, .inl (cA, 24, .inl (vMh))), (aMi, .inl (cA, 72, .inl (vMi))), (aMc, .inl (cA, 24, .inl (vMc))), (aMt, .inl (cA, 24, .inl (vMt))), (aMn, .inl (cA, 6250, .inl (u_29.2.2.2.1))), (aMl, .inl (cA, 6250, .inl (u_29.2.2.2.2))), (aMw, .inl (cZ, 250, .inl (vMw))), (aMu, .inl (cZ, 10, .inl (vMu)))]) ⟨hx, hb, hml, hown, hg⟩ (c_M_know l dC dI cA cZ N_ aM aMh aMi aMc aMt aMn aMl aMs aMd aMe aMo aMw aMu _ u_20.2 vMP vMK vMB vMD vME vMO vMF vMS vMX vMW vMh vMi vMc vMt vMn vMl g_29) (cwV 0 hg (q_gV mw_660 mw_661 mw_773 mw_8 mw_662) rfl rfl rfl qh_M_know ⟨Nat.le_of_ble_eq_true rfl, Nat.le_of_ble_eq_true rfl⟩) hN hK hP hD hS hA [0, 1, 2, 3, 4, 5, 6] [7, 8] rfl rfl (by decide) (by decide) (by decide) [2, 3, 4, 5, 6, 7, 8, 0, 1] (fun _ => rfl) (by decide) 0 7 rfl rfl rfl hl.1 rfl (Nat.le_of_ble_eq_true rfl) qd_M_next_29 ⟨Nat.zero_le _, Nat.zero_le _⟩ (fun u_29 H locs w_29 hP hD hS => ?_)
    have hP : va_P (dC, dI) vwCl [(aM, .inr (7, [.int u_20.2, .int vMP, .ref aMh, .ref aMi, .ref aMc, .int vMK, .ref aMt, .int u_29.1, .ref aMn, .ref aMl, .ref aMs, .int vMD, .ref aMd, .int vME, .ref aMe, .int vMO, .ref aMo, .int u_29.2.1, .int u_29.2.2.1, .ref aMw, .ref aMu, .int vMX, .int vMW])), (aMh, .inl (cA, 24, .inl (vMh))), (aMi, .inl (cA, 72, .inl (vMi))), (aMc, .inl (cA, 24, .inl (vMc))), (aMt, .inl (cA, 24, .inl (vMt))), (aMn, .inl (cA, 6250, .inl (u_29.2.2.2.1))), (aMl, .inl (cA, 6250, .inl (u_29.2.2.2.2))), (aMw, .inl (cZ, 250, .inl (vMw))), (aMu, .inl (cZ, 10, .inl (vMu)))] H := hP
    have hD : va_D A [(aM, .inr (7, [.int u_20.2, .int vMP, .ref aMh, .ref aMi, .ref aMc, .int vMK, .ref aMt, .int u_29.1, .ref aMn, .ref aMl, .ref aMs, .int vMD, .ref aMd, .int vME, .ref aMe, .int vMO, .ref aMo, .int u_29.2.1, .int u_29.2.2.1, .ref aMw, .ref aMu, .int vMX, .int vMW])), (aMh, .inl (cA, 24, .inl (vMh))), (aMi, .inl (cA, 72, .inl (vMi))), (aMc, .inl (cA, 24, .inl (vMc))), (aMt, .inl (cA, 24, .inl (vMt))), (aMn, .inl (cA, 6250, .inl (u_29.2.2.2.1))), (aMl, .inl (cA, 6250, .inl (u_29.2.2.2.2))), (aMw, .inl (cZ, 250, .inl (vMw))), (aMu, .inl (cZ, 10, .inl (vMu)))] := hD
    have hres := hres.trans (bd_eq w_29)
    have ho := (bd_eq w_29).mp ho
    refine lv_aload_n hx hb qd_M_next_32 rfl (lv_at hl 0 rfl) ?_
    obtain ⟨g_33, ho⟩ := ho
    refine xm_Vv (As := []) (rest := []) (w1 := fun (u_33 : (Nat → Int32)) => [(aM, .inr (7, [.int u_20.2, .int vMP, .ref aMh, .ref aMi, .ref aMc, .int vMK, .ref aMt, .int u_29.1, .ref aMn, .ref aMl, .ref aMs, .int vMD, .ref aMd, .int vME, .ref aMe, .int vMO, .ref aMo, .int u_29.2.1, .int u_29.2.2.1, .ref aMw, .ref aMu, .int vMX, .int vMW])), (aMh, .inl (cA, 24, .inl (vMh))), (aMi, .inl (cA, 72, .inl (vMi))), (aMu, .inl (cZ, 10, .inl (u_33)))]) (w2 := fun (u_33 : (Nat → Int32)) => [(aM, .inr (7, [.int u_20.2, .int vMP, .ref aMh, .ref aMi, .ref aMc, .int vMK, .ref aMt, .int u_29.1, .ref aMn, .ref aMl, .ref aMs, .int vMD, .ref aMd, .int vME, .ref aMe, .int vMO, .ref aMo, .int u_29.2.1, .int u_29.2.2.1, .ref aMw, .ref aMu, .int vMX, .int vMW])), (aMh, .inl (cA, 24, .inl (vMh))), (aMi, .inl (cA, 72, .inl (vMi))), (aMc, .inl (cA, 24, .inl (vMc))), (aMt, .inl (cA, 24, .inl (vMt))), (aMn, .inl (cA, 6250, .inl (u_29.2.2.2.1))), (aMl, .inl (cA, 6250, .inl (u_29.2.2.2.2))), (aMw, .inl (cZ, 250, .inl (vMw))), (aMu, .inl (cZ, 10, .inl (u_33)))]) ⟨hx, hb, hml, hown, hg⟩ (c_M_findUseful l dC dI cA cZ N_ aM aMh aMi aMc aMt aMn aMl aMs aMd aMe aMo aMw aMu _ u_20.2 vMP vMK u_29.1 vMD vME vMO u_29.2.1 u_29.2.2.1 vMX vMW vMh vMi vMu g_33) (cwV 0 hg (q_gV mw_731 mw_732 mw_786 mw_8 mw_733) rfl rfl rfl qh_M_findUseful ⟨Nat.le_of_ble_eq_true rfl, Nat.le_of_ble_eq_true rfl⟩) hN hK hP hD hS hA [0, 1, 2, 8] [3, 4, 5, 6, 7] rfl rfl (by decide) (by decide) (by decide) [5, 6, 7, 0, 1, 2, 3, 4, 8] (fun _ => rfl) (by decide) 0 7 rfl rfl rfl hl.1 rfl (Nat.le_of_ble_eq_true rfl) qd_M_next_33 ⟨Nat.zero_le _, Nat.zero_le _⟩ (fun u_33 H locs w_33 hP hD hS => ?_)
    have hP : va_P (dC, dI) vwCl [(aM, .inr (7, [.int u_20.2, .int vMP, .ref aMh, .ref aMi, .ref aMc, .int vMK, .ref aMt, .int u_29.1, .ref aMn, .ref aMl, .ref aMs, .int vMD, .ref aMd, .int vME, .ref aMe, .int vMO, .ref aMo, .int u_29.2.1, .int u_29.2.2.1, .ref aMw, .ref aMu, .int vMX, .int vMW])), (aMh, .inl (cA, 24, .inl (vMh))), (aMi, .inl (cA, 72, .inl (vMi))), (aMc, .inl (cA, 24, .inl (vMc))), (aMt, .inl (cA, 24, .inl (vMt))), (aMn, .inl (cA, 6250, .inl (u_29.2.2.2.1))), (aMl, .inl (cA, 6250, .inl (u_29.2.2.2.2))), (aMw, .inl (cZ, 250, .inl (vMw))), (aMu, .inl (cZ, 10, .inl (u_33)))] H := hP
    have hD : va_D A [(aM, .inr (7, [.int u_20.2, .int vMP, .ref aMh, .ref aMi, .ref aMc, .int vMK, .ref aMt, .int u_29.1, .ref aMn, .ref aMl, .ref aMs, .int vMD, .ref aMd, .int vME, .ref aMe, .int vMO, .ref aMo, .int u_29.2.1, .int u_29.2.2.1, .ref aMw, .ref aMu, .int vMX, .int vMW])), (aMh, .inl (cA, 24, .inl (vMh))), (aMi, .inl (cA, 72, .inl (vMi))), (aMc, .inl (cA, 24, .inl (vMc))), (aMt, .inl (cA, 24, .inl (vMt))), (aMn, .inl (cA, 6250, .inl (u_29.2.2.2.1))), (aMl, .inl (cA, 6250, .inl (u_29.2.2.2.2))), (aMw, .inl (cZ, 250, .inl (vMw))), (aMu, .inl (cZ, 10, .inl (u_33)))] := hD
    have hres := hres.trans (bd_eq w_33)
    have ho := (bd_eq w_33).mp ho
    refine lv_aload_n hx hb qd_M_next_36 rfl (lv_at hl 0 rfl) ?_
    refine lv_iconst (v := 0) hx hb qd_M_next_37 (by decide) ?_
    refine va_put (D := (dC, dI)) (ci := 7) (v := .int 0) (ty := .int) (C := qR_M) (T := qT_M) (N := 23) hx hb hg qi_M qt_M qk_M qn_M hown hK hP hD hS 0 rfl rfl 21 (by decide) (hg _ mw_595) (fun _ h9 => h9) rfl (by decide +kernel) rfl rfl (Nat.le_of_ble_eq_true rfl) qd_M_next_38 (fun H locs hP hD hS => ?_)
    have hP : va_P (dC, dI) vwCl [(aM, .inr (7, [.int u_20.2, .int vMP, .ref aMh, .ref aMi, .ref aMc, .int vMK, .ref aMt, .int u_29.1, .ref aMn, .ref aMl, .ref aMs, .int vMD, .ref aMd, .int vME, .ref aMe, .int vMO, .ref aMo, .int u_29.2.1, .int u_29.2.2.1, .ref aMw, .ref aMu, .int 0, .int vMW])), (aMh, .inl (cA, 24, .inl (vMh))), (aMi, .inl (cA, 72, .inl (vMi))), (aMc, .inl (cA, 24, .inl (vMc))), (aMt, .inl (cA, 24, .inl (vMt))), (aMn, .inl (cA, 6250, .inl (u_29.2.2.2.1))), (aMl, .inl (cA, 6250, .inl (u_29.2.2.2.2))), (aMw, .inl (cZ, 250, .inl (vMw))), (aMu, .inl (cZ, 10, .inl (u_33)))] H := hP
    have hD : va_D A [(aM, .inr (7, [.int u_20.2, .int vMP, .ref aMh, .ref aMi, .ref aMc, .int vMK, .ref aMt, .int u_29.1, .ref aMn, .ref aMl, .ref aMs, .int vMD, .ref aMd, .int vME, .ref aMe, .int vMO, .ref aMo, .int u_29.2.1, .int u_29.2.2.1, .ref aMw, .ref aMu, .int 0, .int vMW])), (aMh, .inl (cA, 24, .inl (vMh))), (aMi, .inl (cA, 72, .inl (vMi))), (aMc, .inl (cA, 24, .inl (vMc))), (aMt, .inl (cA, 24, .inl (vMt))), (aMn, .inl (cA, 6250, .inl (u_29.2.2.2.1))), (aMl, .inl (cA, 6250, .inl (u_29.2.2.2.2))), (aMw, .inl (cZ, 250, .inl (vMw))), (aMu, .inl (cZ, 10, .inl (u_33)))] := hD
    refine lv_iconst (v := 0) hx hb qd_M_next_41 (by decide) ?_
    refine lv_istore_n (lv' := [(2, .int 0), (0, .ref aM), (1, .int p0)]) hx hb qd_M_next_42 rfl hl (by decide) rfl (fun ls hl => ?_)
    have L_43 : ∀ (K_ : Int32 → (Nat → Int32) → Int32 × Int32 × Int32 × Int32 × Int32 × Int32 × Int32 × (Nat → Int32) × (Nat → Int32) × (Nat → Int32) × (Nat → Int32)) (Ko_ : Int32 → (Nat → Int32) → Prop) (hk : ∀ (x2_43 : Int32) (vMw_43 : (Nat → Int32)) (H : Heap) (locs : List Loc) (ls : Array Slot), va_P (dC, dI) vwCl [(aM, .inr (7, [.int u_20.2, .int vMP, .ref aMh, .ref aMi, .ref aMc, .int vMK, .ref aMt, .int u_29.1, .ref aMn, .ref aMl, .ref aMs, .int vMD, .ref aMd, .int vME, .ref aMe, .int vMO, .ref aMo, .int u_29.2.1, .int u_29.2.2.1, .ref aMw, .ref aMu, .int 0, .int vMW])), (aMh, .inl (cA, 24, .inl (vMh))), (aMi, .inl (cA, 72, .inl (vMi))), (aMc, .inl (cA, 24, .inl (vMc))), (aMt, .inl (cA, 24, .inl (vMt))), (aMn, .inl (cA, 6250, .inl (u_29.2.2.2.1))), (aMl, .inl (cA, 6250, .inl (u_29.2.2.2.2))), (aMw, .inl (cZ, 250, .inl (vMw_43))), (aMu, .inl (cZ, 10, .inl (u_33)))] H → va_D A [(aM, .inr (7, [.int u_20.2, .int vMP, .ref aMh, .ref aMi, .ref aMc, .int vMK, .ref aMt, .int u_29.1, .ref aMn, .ref aMl, .ref aMs, .int vMD, .ref aMd, .int vME, .ref aMe, .int vMO, .ref aMo, .int u_29.2.1, .int u_29.2.2.1, .ref aMw, .ref aMu, .int 0, .int vMW])), (aMh, .inl (cA, 24, .inl (vMh))), (aMi, .inl (cA, 72, .inl (vMi))), (aMc, .inl (cA, 24, .inl (vMc))), (aMt, .inl (cA, 24, .inl (vMt))), (aMn, .inl (cA, 6250, .inl (u_29.2.2.2.1))), (aMl, .inl (cA, 6250, .inl (u_29.2.2.2.2))), (aMw, .inl (cZ, 250, .inl (vMw_43))), (aMu, .inl (cZ, 10, .inl (u_33)))] → va_S A s.heap H locs → lv_has ls 5 [(2, .int x2_43), (0, .ref aM), (1, .int p0)] → Fv = K_ x2_43 vMw_43 → Ko_ x2_43 vMw_43 → W p l e ({ frames := 5, cells := 0, slots := 0, locals := 123 } : Room) s m (([.ref aM, .int p0] : List Value).toArray) below meth c H locs 0 0 Qg (F0 m 71 ls [])) (n : Nat) (x2_43 : Int32) (vMw_43 : (Nat → Int32)) (H : Heap) (locs : List Loc) (ls : Array Slot), va_P (dC, dI) vwCl [(aM, .inr (7, [.int u_20.2, .int vMP, .ref aMh, .ref aMi, .ref aMc, .int vMK, .ref aMt, .int u_29.1, .ref aMn, .ref aMl, .ref aMs, .int vMD, .ref aMd, .int vME, .ref aMe, .int vMO, .ref aMo, .int u_29.2.1, .int u_29.2.2.1, .ref aMw, .ref aMu, .int 0, .int vMW])), (aMh, .inl (cA, 24, .inl (vMh))), (aMi, .inl (cA, 72, .inl (vMi))), (aMc, .inl (cA, 24, .inl (vMc))), (aMt, .inl (cA, 24, .inl (vMt))), (aMn, .inl (cA, 6250, .inl (u_29.2.2.2.1))), (aMl, .inl (cA, 6250, .inl (u_29.2.2.2.2))), (aMw, .inl (cZ, 250, .inl (vMw_43))), (aMu, .inl (cZ, 10, .inl (u_33)))] H → va_D A [(aM, .inr (7, [.int u_20.2, .int vMP, .ref aMh, .ref aMi, .ref aMc, .int vMK, .ref aMt, .int u_29.1, .ref aMn, .ref aMl, .ref aMs, .int vMD, .ref aMd, .int vME, .ref aMe, .int vMO, .ref aMo, .int u_29.2.1, .int u_29.2.2.1, .ref aMw, .ref aMu, .int 0, .int vMW])), (aMh, .inl (cA, 24, .inl (vMh))), (aMi, .inl (cA, 72, .inl (vMi))), (aMc, .inl (cA, 24, .inl (vMc))), (aMt, .inl (cA, 24, .inl (vMt))), (aMn, .inl (cA, 6250, .inl (u_29.2.2.2.1))), (aMl, .inl (cA, 6250, .inl (u_29.2.2.2.2))), (aMw, .inl (cZ, 250, .inl (vMw_43))), (aMu, .inl (cZ, 10, .inl (u_33)))] → va_S A s.heap H locs → lv_has ls 5 [(2, .int x2_43), (0, .ref aM), (1, .int p0)] → Fv = l_M_next_43 K_ n x2_43 vMw_43 → ol_M_next_43 Ko_ n x2_43 vMw_43 → W p l e ({ frames := 5, cells := 0, slots := 0, locals := 123 } : Room) s m (([.ref aM, .int p0] : List Value).toArray) below meth c H locs 0 0 Qg (F0 m 43 ls []) := by
      intro K_ Ko_ hk n
      induction n with
      | zero => intro x2_43 vMw_43 H locs ls hP hD hS hl hres ho; exact ho.elim
      | succ n ih =>
        intro x2_43 vMw_43 H locs ls hP hD hS hl hres ho
        rw [l_M_next_43, s_M_next_43] at hres
        rw [ol_M_next_43, os_M_next_43] at ho
        refine lv_iload_n hx hb qd_M_next_43 rfl (lv_at hl 0 rfl) ?_
        refine lv_sipush (v := 250) hx hb qd_M_next_44 (by decide) ?_
        refine lv_icmp_ge (tgt := 71) hx hb qd_M_next_47 (by decide) (fun c_47 => ?_) (fun c_47 => ?_)
        · have hres := hres.trans (if_pos c_47)
          have ho := (if_pos c_47).mp ho
          exact hk x2_43 vMw_43 H locs ls hP hD hS (lv_sub hl [0, 1, 2] rfl) hres ho
        have hres := hres.trans (if_neg c_47)
        have ho := (if_neg c_47).mp ho
        refine lv_aload_n hx hb qd_M_next_50 rfl (lv_at hl 1 rfl) ?_
        refine va_get (D := (dC, dI)) (ci := 7) (v := .ref aMw) (C := qR_M) (T := qT_M) (N := 23) hx hb hg qi_M hown hK hP 0 rfl rfl 19 (by decide) (hg _ mw_593) (fun _ h9 => h9) rfl qd_M_next_51 ?_
        refine lv_iload_n hx hb qd_M_next_54 rfl (lv_at hl 0 rfl) ?_
        refine lv_iload_n hx hb qd_M_next_55 rfl (lv_at hl 0 rfl) ?_
        refine lv_if_ne (tgt := 63) hx hb qd_M_next_56 (by decide) (fun c_56 => ?_) (fun c_56 => ?_)
        · have hres := hres.trans (if_neg c_56)
          have ho := (if_neg c_56).mp ho
          refine lv_iconst (v := 0) hx hb qd_M_next_63 (by decide) ?_
          obtain ⟨g_64, ho⟩ := ho
          refine va_zast hx hb hK hP hD hS 7 1 rfl rfl g_64 qd_M_next_64 (fun H locs hP hD hS => ?_)
          have hP : va_P (dC, dI) vwCl [(aM, .inr (7, [.int u_20.2, .int vMP, .ref aMh, .ref aMi, .ref aMc, .int vMK, .ref aMt, .int u_29.1, .ref aMn, .ref aMl, .ref aMs, .int vMD, .ref aMd, .int vME, .ref aMe, .int vMO, .ref aMo, .int u_29.2.1, .int u_29.2.2.1, .ref aMw, .ref aMu, .int 0, .int vMW])), (aMh, .inl (cA, 24, .inl (vMh))), (aMi, .inl (cA, 72, .inl (vMi))), (aMc, .inl (cA, 24, .inl (vMc))), (aMt, .inl (cA, 24, .inl (vMt))), (aMn, .inl (cA, 6250, .inl (u_29.2.2.2.1))), (aMl, .inl (cA, 6250, .inl (u_29.2.2.2.2))), (aMw, .inl (cZ, 250, .inl (upd vMw_43 x2_43.toNatClampNeg (vp_nar .boolean 0)))), (aMu, .inl (cZ, 10, .inl (u_33)))] H := hP
          have hD : va_D A [(aM, .inr (7, [.int u_20.2, .int vMP, .ref aMh, .ref aMi, .ref aMc, .int vMK, .ref aMt, .int u_29.1, .ref aMn, .ref aMl, .ref aMs, .int vMD, .ref aMd, .int vME, .ref aMe, .int vMO, .ref aMo, .int u_29.2.1, .int u_29.2.2.1, .ref aMw, .ref aMu, .int 0, .int vMW])), (aMh, .inl (cA, 24, .inl (vMh))), (aMi, .inl (cA, 72, .inl (vMi))), (aMc, .inl (cA, 24, .inl (vMc))), (aMt, .inl (cA, 24, .inl (vMt))), (aMn, .inl (cA, 6250, .inl (u_29.2.2.2.1))), (aMl, .inl (cA, 6250, .inl (u_29.2.2.2.2))), (aMw, .inl (cZ, 250, .inl (upd vMw_43 x2_43.toNatClampNeg (vp_nar .boolean 0)))), (aMu, .inl (cZ, 10, .inl (u_33)))] := hD
          refine lv_iinc (v := x2_43 + 1) (lv' := [(2, .int (x2_43 + 1)), (0, .ref aM), (1, .int p0)]) hx hb qd_M_next_65 hl (k := 0) rfl (congrArg (fun z => _ + z) (by decide)) (by decide) rfl (fun ls hl => ?_)
          refine lv_goto (tgt := 43) hx hb qd_M_next_68 (by decide) ?_
          exact ih (x2_43 + 1) (upd vMw_43 x2_43.toNatClampNeg (vp_nar .boolean 0)) H locs ls hP hD hS (lv_sub hl [0, 1, 2] rfl) hres ho
        have hres := hres.trans (if_pos c_56)
        have ho := (if_pos c_56).mp ho
        refine lv_iconst (v := 1) hx hb qd_M_next_59 (by decide) ?_
        refine lv_goto (tgt := 64) hx hb qd_M_next_60 (by decide) ?_
        obtain ⟨g_64, ho⟩ := ho
        refine va_zast hx hb hK hP hD hS 7 1 rfl rfl g_64 qd_M_next_64 (fun H locs hP hD hS => ?_)
        have hP : va_P (dC, dI) vwCl [(aM, .inr (7, [.int u_20.2, .int vMP, .ref aMh, .ref aMi, .ref aMc, .int vMK, .ref aMt, .int u_29.1, .ref aMn, .ref aMl, .ref aMs, .int vMD, .ref aMd, .int vME, .ref aMe, .int vMO, .ref aMo, .int u_29.2.1, .int u_29.2.2.1, .ref aMw, .ref aMu, .int 0, .int vMW])), (aMh, .inl (cA, 24, .inl (vMh))), (aMi, .inl (cA, 72, .inl (vMi))), (aMc, .inl (cA, 24, .inl (vMc))), (aMt, .inl (cA, 24, .inl (vMt))), (aMn, .inl (cA, 6250, .inl (u_29.2.2.2.1))), (aMl, .inl (cA, 6250, .inl (u_29.2.2.2.2))), (aMw, .inl (cZ, 250, .inl (upd vMw_43 x2_43.toNatClampNeg (vp_nar .boolean 1)))), (aMu, .inl (cZ, 10, .inl (u_33)))] H := hP
        have hD : va_D A [(aM, .inr (7, [.int u_20.2, .int vMP, .ref aMh, .ref aMi, .ref aMc, .int vMK, .ref aMt, .int u_29.1, .ref aMn, .ref aMl, .ref aMs, .int vMD, .ref aMd, .int vME, .ref aMe, .int vMO, .ref aMo, .int u_29.2.1, .int u_29.2.2.1, .ref aMw, .ref aMu, .int 0, .int vMW])), (aMh, .inl (cA, 24, .inl (vMh))), (aMi, .inl (cA, 72, .inl (vMi))), (aMc, .inl (cA, 24, .inl (vMc))), (aMt, .inl (cA, 24, .inl (vMt))), (aMn, .inl (cA, 6250, .inl (u_29.2.2.2.1))), (aMl, .inl (cA, 6250, .inl (u_29.2.2.2.2))), (aMw, .inl (cZ, 250, .inl (upd vMw_43 x2_43.toNatClampNeg (vp_nar .boolean 1)))), (aMu, .inl (cZ, 10, .inl (u_33)))] := hD
        refine lv_iinc (v := x2_43 + 1) (lv' := [(2, .int (x2_43 + 1)), (0, .ref aM), (1, .int p0)]) hx hb qd_M_next_65 hl (k := 0) rfl (congrArg (fun z => _ + z) (by decide)) (by decide) rfl (fun ls hl => ?_)
        refine lv_goto (tgt := 43) hx hb qd_M_next_68 (by decide) ?_
        exact ih (x2_43 + 1) (upd vMw_43 x2_43.toNatClampNeg (vp_nar .boolean 1)) H locs ls hP hD hS (lv_sub hl [0, 1, 2] rfl) hres ho
    refine L_43 _ _ (fun x2_43 vMw_43 H locs ls hP hD hS hl hres ho => ?_) _ _ _ _ _ ls hP hD hS hl hres ho
    refine lv_aload_n hx hb qd_M_next_71 rfl (lv_at hl 1 rfl) ?_
    refine lv_iconst (v := 1) hx hb qd_M_next_72 (by decide) ?_
    refine va_put (D := (dC, dI)) (ci := 7) (v := .int 1) (ty := .boolean) (C := qR_M) (T := qT_M) (N := 23) hx hb hg qi_M qt_M qk_M qn_M hown hK hP hD hS 0 rfl rfl 22 (by decide) (hg _ mw_596) (fun _ h9 => h9) rfl (by decide +kernel) rfl rfl (Nat.le_of_ble_eq_true rfl) qd_M_next_73 (fun H locs hP hD hS => ?_)
    have hP : va_P (dC, dI) vwCl [(aM, .inr (7, [.int u_20.2, .int vMP, .ref aMh, .ref aMi, .ref aMc, .int vMK, .ref aMt, .int u_29.1, .ref aMn, .ref aMl, .ref aMs, .int vMD, .ref aMd, .int vME, .ref aMe, .int vMO, .ref aMo, .int u_29.2.1, .int u_29.2.2.1, .ref aMw, .ref aMu, .int 0, .int 1])), (aMh, .inl (cA, 24, .inl (vMh))), (aMi, .inl (cA, 72, .inl (vMi))), (aMc, .inl (cA, 24, .inl (vMc))), (aMt, .inl (cA, 24, .inl (vMt))), (aMn, .inl (cA, 6250, .inl (u_29.2.2.2.1))), (aMl, .inl (cA, 6250, .inl (u_29.2.2.2.2))), (aMw, .inl (cZ, 250, .inl (vMw_43))), (aMu, .inl (cZ, 10, .inl (u_33)))] H := hP
    have hD : va_D A [(aM, .inr (7, [.int u_20.2, .int vMP, .ref aMh, .ref aMi, .ref aMc, .int vMK, .ref aMt, .int u_29.1, .ref aMn, .ref aMl, .ref aMs, .int vMD, .ref aMd, .int vME, .ref aMe, .int vMO, .ref aMo, .int u_29.2.1, .int u_29.2.2.1, .ref aMw, .ref aMu, .int 0, .int 1])), (aMh, .inl (cA, 24, .inl (vMh))), (aMi, .inl (cA, 72, .inl (vMi))), (aMc, .inl (cA, 24, .inl (vMc))), (aMt, .inl (cA, 24, .inl (vMt))), (aMn, .inl (cA, 6250, .inl (u_29.2.2.2.1))), (aMl, .inl (cA, 6250, .inl (u_29.2.2.2.2))), (aMw, .inl (cZ, 250, .inl (vMw_43))), (aMu, .inl (cZ, 10, .inl (u_33)))] := hD
    have L_76 : ∀ (K_ : Int32 → Int32 → Int32 → (Nat → Int32) → Int32 × Int32 × Int32 × Int32 × Int32 × Int32 × Int32 × (Nat → Int32) × (Nat → Int32) × (Nat → Int32) × (Nat → Int32)) (Ko_ : Int32 → Int32 → Int32 → (Nat → Int32) → Prop) (hk : ∀ (x2_76 : Int32) (vMX_76 : Int32) (vMW_76 : Int32) (vMw_76 : (Nat → Int32)) (H : Heap) (locs : List Loc) (ls : Array Slot), va_P (dC, dI) vwCl [(aM, .inr (7, [.int u_20.2, .int vMP, .ref aMh, .ref aMi, .ref aMc, .int vMK, .ref aMt, .int u_29.1, .ref aMn, .ref aMl, .ref aMs, .int vMD, .ref aMd, .int vME, .ref aMe, .int vMO, .ref aMo, .int u_29.2.1, .int u_29.2.2.1, .ref aMw, .ref aMu, .int vMX_76, .int vMW_76])), (aMh, .inl (cA, 24, .inl (vMh))), (aMi, .inl (cA, 72, .inl (vMi))), (aMc, .inl (cA, 24, .inl (vMc))), (aMt, .inl (cA, 24, .inl (vMt))), (aMn, .inl (cA, 6250, .inl (u_29.2.2.2.1))), (aMl, .inl (cA, 6250, .inl (u_29.2.2.2.2))), (aMw, .inl (cZ, 250, .inl (vMw_76))), (aMu, .inl (cZ, 10, .inl (u_33)))] H → va_D A [(aM, .inr (7, [.int u_20.2, .int vMP, .ref aMh, .ref aMi, .ref aMc, .int vMK, .ref aMt, .int u_29.1, .ref aMn, .ref aMl, .ref aMs, .int vMD, .ref aMd, .int vME, .ref aMe, .int vMO, .ref aMo, .int u_29.2.1, .int u_29.2.2.1, .ref aMw, .ref aMu, .int vMX_76, .int vMW_76])), (aMh, .inl (cA, 24, .inl (vMh))), (aMi, .inl (cA, 72, .inl (vMi))), (aMc, .inl (cA, 24, .inl (vMc))), (aMt, .inl (cA, 24, .inl (vMt))), (aMn, .inl (cA, 6250, .inl (u_29.2.2.2.1))), (aMl, .inl (cA, 6250, .inl (u_29.2.2.2.2))), (aMw, .inl (cZ, 250, .inl (vMw_76))), (aMu, .inl (cZ, 10, .inl (u_33)))] → va_S A s.heap H locs → lv_has ls 5 [(2, .int x2_76), (0, .ref aM), (1, .int p0)] → Fv = K_ x2_76 vMX_76 vMW_76 vMw_76 → Ko_ x2_76 vMX_76 vMW_76 vMw_76 → W p l e ({ frames := 5, cells := 0, slots := 0, locals := 123 } : Room) s m (([.ref aM, .int p0] : List Value).toArray) below meth c H locs 0 0 Qg (F0 m 207 ls [])) (n : Nat) (x2_76 : Int32) (vMX_76 : Int32) (vMW_76 : Int32) (vMw_76 : (Nat → Int32)) (H : Heap) (locs : List Loc) (ls : Array Slot), va_P (dC, dI) vwCl [(aM, .inr (7, [.int u_20.2, .int vMP, .ref aMh, .ref aMi, .ref aMc, .int vMK, .ref aMt, .int u_29.1, .ref aMn, .ref aMl, .ref aMs, .int vMD, .ref aMd, .int vME, .ref aMe, .int vMO, .ref aMo, .int u_29.2.1, .int u_29.2.2.1, .ref aMw, .ref aMu, .int vMX_76, .int vMW_76])), (aMh, .inl (cA, 24, .inl (vMh))), (aMi, .inl (cA, 72, .inl (vMi))), (aMc, .inl (cA, 24, .inl (vMc))), (aMt, .inl (cA, 24, .inl (vMt))), (aMn, .inl (cA, 6250, .inl (u_29.2.2.2.1))), (aMl, .inl (cA, 6250, .inl (u_29.2.2.2.2))), (aMw, .inl (cZ, 250, .inl (vMw_76))), (aMu, .inl (cZ, 10, .inl (u_33)))] H → va_D A [(aM, .inr (7, [.int u_20.2, .int vMP, .ref aMh, .ref aMi, .ref aMc, .int vMK, .ref aMt, .int u_29.1, .ref aMn, .ref aMl, .ref aMs, .int vMD, .ref aMd, .int vME, .ref aMe, .int vMO, .ref aMo, .int u_29.2.1, .int u_29.2.2.1, .ref aMw, .ref aMu, .int vMX_76, .int vMW_76])), (aMh, .inl (cA, 24, .inl (vMh))), (aMi, .inl (cA, 72, .inl (vMi))), (aMc, .inl (cA, 24, .inl (vMc))), (aMt, .inl (cA, 24, .inl (vMt))), (aMn, .inl (cA, 6250, .inl (u_29.2.2.2.1))), (aMl, .inl (cA, 6250, .inl (u_29.2.2.2.2))), (aMw, .inl (cZ, 250, .inl (vMw_76))), (aMu, .inl (cZ, 10, .inl (u_33)))] → va_S A s.heap H locs → lv_has ls 5 [(2, .int x2_76), (0, .ref aM), (1, .int p0)] → Fv = l_M_next_76 N_ p0 vMP vMh vMi vMt u_29.2.2.2.1 u_33 K_ n x2_76 vMX_76 vMW_76 vMw_76 → ol_M_next_76 N_ p0 vMP vMh vMi vMt u_29.2.2.2.1 u_33 Ko_ n x2_76 vMX_76 vMW_76 vMw_76 → W p l e ({ frames := 5, cells := 0, slots := 0, locals := 123 } : Room) s m (([.ref aM, .int p0] : List Value).toArray) below meth c H locs 0 0 Qg (F0 m 76 ls []) := by
      intro K_ Ko_ hk n
      induction n with
      | zero => intro x2_76 vMX_76 vMW_76 vMw_76 H locs ls hP hD hS hl hres ho; exact ho.elim
      | succ n ih =>
        intro x2_76 vMX_76 vMW_76 vMw_76 H locs ls hP hD hS hl hres ho
        rw [l_M_next_76, s_M_next_76] at hres
        rw [ol_M_next_76, os_M_next_76] at ho
        refine lv_aload_n hx hb qd_M_next_76 rfl (lv_at hl 1 rfl) ?_
        refine va_get (D := (dC, dI)) (ci := 7) (v := .int vMW_76) (C := qR_M) (T := qT_M) (N := 23) hx hb hg qi_M hown hK hP 0 rfl rfl 22 (by decide) (hg _ mw_596) (fun _ h9 => h9) rfl qd_M_next_77 ?_
        refine lv_if_eq (tgt := 207) hx hb qd_M_next_80 (by decide) (fun c_80 => ?_) (fun c_80 => ?_)
        · have hres := hres.trans (if_pos c_80)
          have ho := (if_pos c_80).mp ho
          exact hk x2_76 vMX_76 vMW_76 vMw_76 H locs ls hP hD hS (lv_sub hl [0, 1, 2] rfl) hres ho
        have hres := hres.trans (if_neg c_80)
        have ho := (if_neg c_80).mp ho
        refine lv_aload_n hx hb qd_M_next_83 rfl (lv_at hl 1 rfl) ?_
        refine lv_iconst (v := 0) hx hb qd_M_next_84 (by decide) ?_
        refine va_put (D := (dC, dI)) (ci := 7) (v := .int 0) (ty := .boolean) (C := qR_M) (T := qT_M) (N := 23) hx hb hg qi_M qt_M qk_M qn_M hown hK hP hD hS 0 rfl rfl 22 (by decide) (hg _ mw_596) (fun _ h9 => h9) rfl (by decide +kernel) rfl rfl (Nat.le_of_ble_eq_true rfl) qd_M_next_85 (fun H locs hP hD hS => ?_)
        have hP : va_P (dC, dI) vwCl [(aM, .inr (7, [.int u_20.2, .int vMP, .ref aMh, .ref aMi, .ref aMc, .int vMK, .ref aMt, .int u_29.1, .ref aMn, .ref aMl, .ref aMs, .int vMD, .ref aMd, .int vME, .ref aMe, .int vMO, .ref aMo, .int u_29.2.1, .int u_29.2.2.1, .ref aMw, .ref aMu, .int vMX_76, .int 0])), (aMh, .inl (cA, 24, .inl (vMh))), (aMi, .inl (cA, 72, .inl (vMi))), (aMc, .inl (cA, 24, .inl (vMc))), (aMt, .inl (cA, 24, .inl (vMt))), (aMn, .inl (cA, 6250, .inl (u_29.2.2.2.1))), (aMl, .inl (cA, 6250, .inl (u_29.2.2.2.2))), (aMw, .inl (cZ, 250, .inl (vMw_76))), (aMu, .inl (cZ, 10, .inl (u_33)))] H := hP
        have hD : va_D A [(aM, .inr (7, [.int u_20.2, .int vMP, .ref aMh, .ref aMi, .ref aMc, .int vMK, .ref aMt, .int u_29.1, .ref aMn, .ref aMl, .ref aMs, .int vMD, .ref aMd, .int vME, .ref aMe, .int vMO, .ref aMo, .int u_29.2.1, .int u_29.2.2.1, .ref aMw, .ref aMu, .int vMX_76, .int 0])), (aMh, .inl (cA, 24, .inl (vMh))), (aMi, .inl (cA, 72, .inl (vMi))), (aMc, .inl (cA, 24, .inl (vMc))), (aMt, .inl (cA, 24, .inl (vMt))), (aMn, .inl (cA, 6250, .inl (u_29.2.2.2.1))), (aMl, .inl (cA, 6250, .inl (u_29.2.2.2.2))), (aMw, .inl (cZ, 250, .inl (vMw_76))), (aMu, .inl (cZ, 10, .inl (u_33)))] := hD
        refine lv_iconst (v := 0) hx hb qd_M_next_88 (by decide) ?_
        refine lv_istore_n (lv' := [(2, .int 0), (0, .ref aM), (1, .int p0)]) hx hb qd_M_next_89 rfl hl (by decide) rfl (fun ls hl => ?_)
        have L_90 : ∀ (K_ : Int32 → Int32 → Int32 → (Nat → Int32) → Int32 × Int32 × Int32 × Int32 × Int32 × Int32 × Int32 × (Nat → Int32) × (Nat → Int32) × (Nat → Int32) × (Nat → Int32)) (Ko_ : Int32 → Int32 → Int32 → (Nat → Int32) → Prop) (hk : ∀ (x2_90 : Int32) (vMX_90 : Int32) (vMW_90 : Int32) (vMw_90 : (Nat → Int32)) (H : Heap) (locs : List Loc) (ls : Array Slot), va_P (dC, dI) vwCl [(aM, .inr (7, [.int u_20.2, .int vMP, .ref aMh, .ref aMi, .ref aMc, .int vMK, .ref aMt, .int u_29.1, .ref aMn, .ref aMl, .ref aMs, .int vMD, .ref aMd, .int vME, .ref aMe, .int vMO, .ref aMo, .int u_29.2.1, .int u_29.2.2.1, .ref aMw, .ref aMu, .int vMX_90, .int vMW_90])), (aMh, .inl (cA, 24, .inl (vMh))), (aMi, .inl (cA, 72, .inl (vMi))), (aMc, .inl (cA, 24, .inl (vMc))), (aMt, .inl (cA, 24, .inl (vMt))), (aMn, .inl (cA, 6250, .inl (u_29.2.2.2.1))), (aMl, .inl (cA, 6250, .inl (u_29.2.2.2.2))), (aMw, .inl (cZ, 250, .inl (vMw_90))), (aMu, .inl (cZ, 10, .inl (u_33)))] H → va_D A [(aM, .inr (7, [.int u_20.2, .int vMP, .ref aMh, .ref aMi, .ref aMc, .int vMK, .ref aMt, .int u_29.1, .ref aMn, .ref aMl, .ref aMs, .int vMD, .ref aMd, .int vME, .ref aMe, .int vMO, .ref aMo, .int u_29.2.1, .int u_29.2.2.1, .ref aMw, .ref aMu, .int vMX_90, .int vMW_90])), (aMh, .inl (cA, 24, .inl (vMh))), (aMi, .inl (cA, 72, .inl (vMi))), (aMc, .inl (cA, 24, .inl (vMc))), (aMt, .inl (cA, 24, .inl (vMt))), (aMn, .inl (cA, 6250, .inl (u_29.2.2.2.1))), (aMl, .inl (cA, 6250, .inl (u_29.2.2.2.2))), (aMw, .inl (cZ, 250, .inl (vMw_90))), (aMu, .inl (cZ, 10, .inl (u_33)))] → va_S A s.heap H locs → lv_has ls 5 [(2, .int x2_90), (0, .ref aM), (1, .int p0)] → Fv = K_ x2_90 vMX_90 vMW_90 vMw_90 → Ko_ x2_90 vMX_90 vMW_90 vMw_90 → W p l e ({ frames := 5, cells := 0, slots := 0, locals := 123 } : Room) s m (([.ref aM, .int p0] : List Value).toArray) below meth c H locs 0 0 Qg (F0 m 204 ls [])) (n : Nat) (x2_90 : Int32) (vMX_90 : Int32) (vMW_90 : Int32) (vMw_90 : (Nat → Int32)) (H : Heap) (locs : List Loc) (ls : Array Slot), va_P (dC, dI) vwCl [(aM, .inr (7, [.int u_20.2, .int vMP, .ref aMh, .ref aMi, .ref aMc, .int vMK, .ref aMt, .int u_29.1, .ref aMn, .ref aMl, .ref aMs, .int vMD, .ref aMd, .int vME, .ref aMe, .int vMO, .ref aMo, .int u_29.2.1, .int u_29.2.2.1, .ref aMw, .ref aMu, .int vMX_90, .int vMW_90])), (aMh, .inl (cA, 24, .inl (vMh))), (aMi, .inl (cA, 72, .inl (vMi))), (aMc, .inl (cA, 24, .inl (vMc))), (aMt, .inl (cA, 24, .inl (vMt))), (aMn, .inl (cA, 6250, .inl (u_29.2.2.2.1))), (aMl, .inl (cA, 6250, .inl (u_29.2.2.2.2))), (aMw, .inl (cZ, 250, .inl (vMw_90))), (aMu, .inl (cZ, 10, .inl (u_33)))] H → va_D A [(aM, .inr (7, [.int u_20.2, .int vMP, .ref aMh, .ref aMi, .ref aMc, .int vMK, .ref aMt, .int u_29.1, .ref aMn, .ref aMl, .ref aMs, .int vMD, .ref aMd, .int vME, .ref aMe, .int vMO, .ref aMo, .int u_29.2.1, .int u_29.2.2.1, .ref aMw, .ref aMu, .int vMX_90, .int vMW_90])), (aMh, .inl (cA, 24, .inl (vMh))), (aMi, .inl (cA, 72, .inl (vMi))), (aMc, .inl (cA, 24, .inl (vMc))), (aMt, .inl (cA, 24, .inl (vMt))), (aMn, .inl (cA, 6250, .inl (u_29.2.2.2.1))), (aMl, .inl (cA, 6250, .inl (u_29.2.2.2.2))), (aMw, .inl (cZ, 250, .inl (vMw_90))), (aMu, .inl (cZ, 10, .inl (u_33)))] → va_S A s.heap H locs → lv_has ls 5 [(2, .int x2_90), (0, .ref aM), (1, .int p0)] → Fv = l_M_next_90 N_ p0 vMP vMh vMi vMt u_29.2.2.2.1 u_33 K_ n x2_90 vMX_90 vMW_90 vMw_90 → ol_M_next_90 N_ p0 vMP vMh vMi vMt u_29.2.2.2.1 u_33 Ko_ n x2_90 vMX_90 vMW_90 vMw_90 → W p l e ({ frames := 5, cells := 0, slots := 0, locals := 123 } : Room) s m (([.ref aM, .int p0] : List Value).toArray) below meth c H locs 0 0 Qg (F0 m 90 ls []) := by
          intro K_ Ko_ hk n
          induction n with
          | zero => intro x2_90 vMX_90 vMW_90 vMw_90 H locs ls hP hD hS hl hres ho; exact ho.elim
          | succ n ih =>
            intro x2_90 vMX_90 vMW_90 vMw_90 H locs ls hP hD hS hl hres ho
            rw [l_M_next_90, s_M_next_90] at hres
            rw [ol_M_next_90, os_M_next_90] at ho
            refine lv_iload_n hx hb qd_M_next_90 rfl (lv_at hl 0 rfl) ?_
            refine lv_iload_n hx hb qd_M_next_91 rfl (lv_at hl 2 rfl) ?_
            refine lv_icmp_gt (tgt := 204) hx hb qd_M_next_92 (by decide) (fun c_92 => ?_) (fun c_92 => ?_)
            · have hres := hres.trans (if_pos c_92)
              have ho := (if_pos c_92).mp ho
              exact hk x2_90 vMX_90 vMW_90 vMw_90 H locs ls hP hD hS (lv_sub hl [0, 1, 2] rfl) hres ho
            have hres := hres.trans (if_neg c_92)
            have ho := (if_neg c_92).mp ho
            refine lv_iconst (v := 0) hx hb qd_M_next_95 (by decide) ?_
            refine lv_istore_n (lv' := [(3, .int 0), (2, .int x2_90), (0, .ref aM), (1, .int p0)]) hx hb qd_M_next_96 rfl hl (by decide) rfl (fun ls hl => ?_)
            have L_97 : ∀ (K_ : Int32 → Int32 → Int32 → (Nat → Int32) → Int32 × Int32 × Int32 × Int32 × Int32 × Int32 × Int32 × (Nat → Int32) × (Nat → Int32) × (Nat → Int32) × (Nat → Int32)) (Ko_ : Int32 → Int32 → Int32 → (Nat → Int32) → Prop) (hk : ∀ (x3_97 : Int32) (vMX_97 : Int32) (vMW_97 : Int32) (vMw_97 : (Nat → Int32)) (H : Heap) (locs : List Loc) (ls : Array Slot), va_P (dC, dI) vwCl [(aM, .inr (7, [.int u_20.2, .int vMP, .ref aMh, .ref aMi, .ref aMc, .int vMK, .ref aMt, .int u_29.1, .ref aMn, .ref aMl, .ref aMs, .int vMD, .ref aMd, .int vME, .ref aMe, .int vMO, .ref aMo, .int u_29.2.1, .int u_29.2.2.1, .ref aMw, .ref aMu, .int vMX_97, .int vMW_97])), (aMh, .inl (cA, 24, .inl (vMh))), (aMi, .inl (cA, 72, .inl (vMi))), (aMc, .inl (cA, 24, .inl (vMc))), (aMt, .inl (cA, 24, .inl (vMt))), (aMn, .inl (cA, 6250, .inl (u_29.2.2.2.1))), (aMl, .inl (cA, 6250, .inl (u_29.2.2.2.2))), (aMw, .inl (cZ, 250, .inl (vMw_97))), (aMu, .inl (cZ, 10, .inl (u_33)))] H → va_D A [(aM, .inr (7, [.int u_20.2, .int vMP, .ref aMh, .ref aMi, .ref aMc, .int vMK, .ref aMt, .int u_29.1, .ref aMn, .ref aMl, .ref aMs, .int vMD, .ref aMd, .int vME, .ref aMe, .int vMO, .ref aMo, .int u_29.2.1, .int u_29.2.2.1, .ref aMw, .ref aMu, .int vMX_97, .int vMW_97])), (aMh, .inl (cA, 24, .inl (vMh))), (aMi, .inl (cA, 72, .inl (vMi))), (aMc, .inl (cA, 24, .inl (vMc))), (aMt, .inl (cA, 24, .inl (vMt))), (aMn, .inl (cA, 6250, .inl (u_29.2.2.2.1))), (aMl, .inl (cA, 6250, .inl (u_29.2.2.2.2))), (aMw, .inl (cZ, 250, .inl (vMw_97))), (aMu, .inl (cZ, 10, .inl (u_33)))] → va_S A s.heap H locs → lv_has ls 5 [(3, .int x3_97), (2, .int x2_90), (0, .ref aM), (1, .int p0)] → Fv = K_ x3_97 vMX_97 vMW_97 vMw_97 → Ko_ x3_97 vMX_97 vMW_97 vMw_97 → W p l e ({ frames := 5, cells := 0, slots := 0, locals := 123 } : Room) s m (([.ref aM, .int p0] : List Value).toArray) below meth c H locs 0 0 Qg (F0 m 198 ls [])) (n : Nat) (x3_97 : Int32) (vMX_97 : Int32) (vMW_97 : Int32) (vMw_97 : (Nat → Int32)) (H : Heap) (locs : List Loc) (ls : Array Slot), va_P (dC, dI) vwCl [(aM, .inr (7, [.int u_20.2, .int vMP, .ref aMh, .ref aMi, .ref aMc, .int vMK, .ref aMt, .int u_29.1, .ref aMn, .ref aMl, .ref aMs, .int vMD, .ref aMd, .int vME, .ref aMe, .int vMO, .ref aMo, .int u_29.2.1, .int u_29.2.2.1, .ref aMw, .ref aMu, .int vMX_97, .int vMW_97])), (aMh, .inl (cA, 24, .inl (vMh))), (aMi, .inl (cA, 72, .inl (vMi))), (aMc, .inl (cA, 24, .inl (vMc))), (aMt, .inl (cA, 24, .inl (vMt))), (aMn, .inl (cA, 6250, .inl (u_29.2.2.2.1))), (aMl, .inl (cA, 6250, .inl (u_29.2.2.2.2))), (aMw, .inl (cZ, 250, .inl (vMw_97))), (aMu, .inl (cZ, 10, .inl (u_33)))] H → va_D A [(aM, .inr (7, [.int u_20.2, .int vMP, .ref aMh, .ref aMi, .ref aMc, .int vMK, .ref aMt, .int u_29.1, .ref aMn, .ref aMl, .ref aMs, .int vMD, .ref aMd, .int vME, .ref aMe, .int vMO, .ref aMo, .int u_29.2.1, .int u_29.2.2.1, .ref aMw, .ref aMu, .int vMX_97, .int vMW_97])), (aMh, .inl (cA, 24, .inl (vMh))), (aMi, .inl (cA, 72, .inl (vMi))), (aMc, .inl (cA, 24, .inl (vMc))), (aMt, .inl (cA, 24, .inl (vMt))), (aMn, .inl (cA, 6250, .inl (u_29.2.2.2.1))), (aMl, .inl (cA, 6250, .inl (u_29.2.2.2.2))), (aMw, .inl (cZ, 250, .inl (vMw_97))), (aMu, .inl (cZ, 10, .inl (u_33)))] → va_S A s.heap H locs → lv_has ls 5 [(3, .int x3_97), (2, .int x2_90), (0, .ref aM), (1, .int p0)] → Fv = l_M_next_97 N_ p0 x2_90 vMP vMh vMi vMt u_29.2.2.2.1 u_33 K_ n x3_97 vMX_97 vMW_97 vMw_97 → ol_M_next_97 N_ p0 x2_90 vMP vMh vMi vMt u_29.2.2.2.1 u_33 Ko_ n x3_97 vMX_97 vMW_97 vMw_97 → W p l e ({ frames := 5, cells := 0, slots := 0, locals := 123 } : Room) s m (([.ref aM, .int p0] : List Value).toArray) below meth c H locs 0 0 Qg (F0 m 97 ls []) := by
              intro K_ Ko_ hk n
              induction n with
              | zero => intro x3_97 vMX_97 vMW_97 vMw_97 H locs ls hP hD hS hl hres ho; exact ho.elim
              | succ n ih =>
                intro x3_97 vMX_97 vMW_97 vMw_97 H locs ls hP hD hS hl hres ho
                rw [l_M_next_97, s_M_next_97] at hres
                rw [ol_M_next_97, os_M_next_97] at ho
                refine lv_iload_n hx hb qd_M_next_97 rfl (lv_at hl 0 rfl) ?_
                refine lv_aload_n hx hb qd_M_next_98 rfl (lv_at hl 2 rfl) ?_
                refine va_get (D := (dC, dI)) (ci := 7) (v := .int vMP) (C := qR_M) (T := qT_M) (N := 23) hx hb hg qi_M hown hK hP 0 rfl rfl 1 (by decide) (hg _ mw_575) (fun _ h9 => h9) rfl qd_M_next_99 ?_
                refine lv_icmp_ge (tgt := 198) hx hb qd_M_next_102 (by decide) (fun c_102 => ?_) (fun c_102 => ?_)
                · have hres := hres.trans (if_pos c_102)
                  have ho := (if_pos c_102).mp ho
                  exact hk x3_97 vMX_97 vMW_97 vMw_97 H locs ls hP hD hS (lv_sub hl [0, 1, 2, 3] rfl) hres ho
                have hres := hres.trans (if_neg c_102)
                have ho := (if_neg c_102).mp ho
                refine lv_aload_n hx hb qd_M_next_105 rfl (lv_at hl 2 rfl) ?_
                refine va_get (D := (dC, dI)) (ci := 7) (v := .ref aMw) (C := qR_M) (T := qT_M) (N := 23) hx hb hg qi_M hown hK hP 0 rfl rfl 19 (by decide) (hg _ mw_593) (fun _ h9 => h9) rfl qd_M_next_106 ?_
                refine lv_bipush (v := 10) hx hb qd_M_next_109 (by decide) ?_
                refine lv_iload_n hx hb qd_M_next_111 rfl (lv_at hl 1 rfl) ?_
                refine lv_imul hx hb qd_M_next_112 ?_
                refine lv_aload_n hx hb qd_M_next_113 rfl (lv_at hl 2 rfl) ?_
                refine va_get (D := (dC, dI)) (ci := 7) (v := .ref aMh) (C := qR_M) (T := qT_M) (N := 23) hx hb hg qi_M hown hK hP 0 rfl rfl 2 (by decide) (hg _ mw_576) (fun _ h9 => h9) rfl qd_M_next_114 ?_
                refine lv_iload_n hx hb qd_M_next_117 rfl (lv_at hl 0 rfl) ?_
                obtain ⟨g_118, ho⟩ := ho
                refine va_iald hx hb hK hP 1 0 rfl rfl g_118 qd_M_next_118 ?_
                refine lv_iadd hx hb qd_M_next_119 ?_
                obtain ⟨g_120, ho⟩ := ho
                refine va_zald hx hb hK hP 7 1 rfl rfl g_120 qd_M_next_120 ?_
                refine lv_if_eq (tgt := 177) hx hb qd_M_next_121 (by decide) (fun c_121 => ?_) (fun c_121 => ?_)
                · have hres := hres.trans (if_pos c_121)
                  have ho := (if_pos c_121).mp ho
                  refine lv_iconst (v := 0) hx hb qd_M_next_177 (by decide) ?_
                  refine lv_istore (lv' := [(4, .int 0), (3, .int x3_97), (2, .int x2_90), (0, .ref aM), (1, .int p0)]) hx hb qd_M_next_178 hl (by decide) rfl (fun ls hl => ?_)
                  refine lv_iload hx hb qd_M_next_180 (lv_at hl 0 rfl) ?_
                  refine lv_if_eq (tgt := 192) hx hb qd_M_next_182 (by decide) (fun c_182 => ?_) (fun c_182 => ?_)
                  rotate_left
                  · exact absurd (by decide) c_182
                  refine lv_iinc (v := x3_97 + 1) (lv' := [(3, .int (x3_97 + 1)), (4, .int 0), (2, .int x2_90), (0, .ref aM), (1, .int p0)]) hx hb qd_M_next_192 hl (k := 1) rfl (congrArg (fun z => _ + z) (by decide)) (by decide) rfl (fun ls hl => ?_)
                  refine lv_goto (tgt := 97) hx hb qd_M_next_195 (by decide) ?_
                  exact ih (x3_97 + 1) vMX_97 vMW_97 vMw_97 H locs ls hP hD hS (lv_sub hl [0, 2, 3, 4] rfl) hres ho
                have hres := hres.trans (if_neg c_121)
                have ho := (if_neg c_121).mp ho
                refine lv_aload_n hx hb qd_M_next_124 rfl (lv_at hl 2 rfl) ?_
                refine lv_aload_n hx hb qd_M_next_125 rfl (lv_at hl 2 rfl) ?_
                refine va_get (D := (dC, dI)) (ci := 7) (v := .ref aMi) (C := qR_M) (T := qT_M) (N := 23) hx hb hg qi_M hown hK hP 0 rfl rfl 3 (by decide) (hg _ mw_577) (fun _ h9 => h9) rfl qd_M_next_126 ?_
                refine lv_iconst (v := 3) hx hb qd_M_next_129 (by decide) ?_
                refine lv_iload_n hx hb qd_M_next_130 rfl (lv_at hl 0 rfl) ?_
                refine lv_imul hx hb qd_M_next_131 ?_
                obtain ⟨g_132, ho⟩ := ho
                refine va_iald hx hb hK hP 2 0 rfl rfl g_132 qd_M_next_132 ?_
                obtain ⟨g_133, ho⟩ := ho
                refine xc_V (As := [.int (vMi (3 * x3_97).toNatClampNeg)]) (rest := []) ⟨hx, hb, hml, hown, hg⟩ (c_M_isUseful l dC dI cA cZ aM aMh aMi aMc aMt aMn aMl aMs aMd aMe aMo aMw aMu u_20.2 vMP vMK u_29.1 vMD vME vMO u_29.2.1 u_29.2.2.1 vMX_97 vMW_97 u_33 (vMi (3 * x3_97).toNatClampNeg) g_133) (cwV 1 hg (q_gV mw_734 mw_735 mw_787 mw_8 mw_736) rfl rfl rfl qh_M_isUseful ⟨Nat.le_of_ble_eq_true rfl, Nat.le_of_ble_eq_true rfl⟩) hN hK hP [0, 8] rfl 0 7 rfl rfl rfl hl.1 rfl (Nat.le_of_ble_eq_true rfl) qd_M_next_133 ⟨Nat.zero_le _, Nat.zero_le _⟩ ?_
                refine lv_topi (fun r_133 w_133 => ?_)
                have hres := hres.trans (bd_eq w_133)
                have ho := (bd_eq w_133).mp ho
                refine lv_if_eq (tgt := 177) hx hb qd_M_next_136 (by decide) (fun c_136 => ?_) (fun c_136 => ?_)
                · have hres := hres.trans (if_pos c_136)
                  have ho := (if_pos c_136).mp ho
                  refine lv_iconst (v := 0) hx hb qd_M_next_177 (by decide) ?_
                  refine lv_istore (lv' := [(4, .int 0), (3, .int x3_97), (2, .int x2_90), (0, .ref aM), (1, .int p0)]) hx hb qd_M_next_178 hl (by decide) rfl (fun ls hl => ?_)
                  refine lv_iload hx hb qd_M_next_180 (lv_at hl 0 rfl) ?_
                  refine lv_if_eq (tgt := 192) hx hb qd_M_next_182 (by decide) (fun c_182 => ?_) (fun c_182 => ?_)
                  rotate_left
                  · exact absurd (by decide) c_182
                  refine lv_iinc (v := x3_97 + 1) (lv' := [(3, .int (x3_97 + 1)), (4, .int 0), (2, .int x2_90), (0, .ref aM), (1, .int p0)]) hx hb qd_M_next_192 hl (k := 1) rfl (congrArg (fun z => _ + z) (by decide)) (by decide) rfl (fun ls hl => ?_)
                  refine lv_goto (tgt := 97) hx hb qd_M_next_195 (by decide) ?_
                  exact ih (x3_97 + 1) vMX_97 vMW_97 vMw_97 H locs ls hP hD hS (lv_sub hl [0, 2, 3, 4] rfl) hres ho
                have hres := hres.trans (if_neg c_136)
                have ho := (if_neg c_136).mp ho
                refine lv_aload_n hx hb qd_M_next_139 rfl (lv_at hl 2 rfl) ?_
                refine lv_aload_n hx hb qd_M_next_140 rfl (lv_at hl 2 rfl) ?_
                refine va_get (D := (dC, dI)) (ci := 7) (v := .ref aMi) (C := qR_M) (T := qT_M) (N := 23) hx hb hg qi_M hown hK hP 0 rfl rfl 3 (by decide) (hg _ mw_577) (fun _ h9 => h9) rfl qd_M_next_141 ?_
                refine lv_iconst (v := 3) hx hb qd_M_next_144 (by decide) ?_
                refine lv_iload_n hx hb qd_M_next_145 rfl (lv_at hl 0 rfl) ?_
                refine lv_imul hx hb qd_M_next_146 ?_
                refine lv_iconst (v := 1) hx hb qd_M_next_147 (by decide) ?_
                refine lv_iadd hx hb qd_M_next_148 ?_
                obtain ⟨g_149, ho⟩ := ho
                refine va_iald hx hb hK hP 2 0 rfl rfl g_149 qd_M_next_149 ?_
                obtain ⟨g_150, ho⟩ := ho
                refine xc_V (As := [.int (vMi ((3 * x3_97) + 1).toNatClampNeg)]) (rest := []) ⟨hx, hb, hml, hown, hg⟩ (c_M_isUseful l dC dI cA cZ aM aMh aMi aMc aMt aMn aMl aMs aMd aMe aMo aMw aMu u_20.2 vMP vMK u_29.1 vMD vME vMO u_29.2.1 u_29.2.2.1 vMX_97 vMW_97 u_33 (vMi ((3 * x3_97) + 1).toNatClampNeg) g_150) (cwV 1 hg (q_gV mw_734 mw_735 mw_787 mw_8 mw_736) rfl rfl rfl qh_M_isUseful ⟨Nat.le_of_ble_eq_true rfl, Nat.le_of_ble_eq_true rfl⟩) hN hK hP [0, 8] rfl 0 7 rfl rfl rfl hl.1 rfl (Nat.le_of_ble_eq_true rfl) qd_M_next_150 ⟨Nat.zero_le _, Nat.zero_le _⟩ ?_
                refine lv_topi (fun r_150 w_150 => ?_)
                have hres := hres.trans (bd_eq w_150)
                have ho := (bd_eq w_150).mp ho
                refine lv_if_eq (tgt := 177) hx hb qd_M_next_153 (by decide) (fun c_153 => ?_) (fun c_153 => ?_)
                · have hres := hres.trans (if_pos c_153)
                  have ho := (if_pos c_153).mp ho
                  refine lv_iconst (v := 0) hx hb qd_M_next_177 (by decide) ?_
                  refine lv_istore (lv' := [(4, .int 0), (3, .int x3_97), (2, .int x2_90), (0, .ref aM), (1, .int p0)]) hx hb qd_M_next_178 hl (by decide) rfl (fun ls hl => ?_)
                  refine lv_iload hx hb qd_M_next_180 (lv_at hl 0 rfl) ?_
                  refine lv_if_eq (tgt := 192) hx hb qd_M_next_182 (by decide) (fun c_182 => ?_) (fun c_182 => ?_)
                  rotate_left
                  · exact absurd (by decide) c_182
                  refine lv_iinc (v := x3_97 + 1) (lv' := [(3, .int (x3_97 + 1)), (4, .int 0), (2, .int x2_90), (0, .ref aM), (1, .int p0)]) hx hb qd_M_next_192 hl (k := 1) rfl (congrArg (fun z => _ + z) (by decide)) (by decide) rfl (fun ls hl => ?_)
                  refine lv_goto (tgt := 97) hx hb qd_M_next_195 (by decide) ?_
                  exact ih (x3_97 + 1) vMX_97 vMW_97 vMw_97 H locs ls hP hD hS (lv_sub hl [0, 2, 3, 4] rfl) hres ho
                have hres := hres.trans (if_neg c_153)
                have ho := (if_neg c_153).mp ho
                refine lv_aload_n hx hb qd_M_next_156 rfl (lv_at hl 2 rfl) ?_
                refine lv_aload_n hx hb qd_M_next_157 rfl (lv_at hl 2 rfl) ?_
                refine va_get (D := (dC, dI)) (ci := 7) (v := .ref aMi) (C := qR_M) (T := qT_M) (N := 23) hx hb hg qi_M hown hK hP 0 rfl rfl 3 (by decide) (hg _ mw_577) (fun _ h9 => h9) rfl qd_M_next_158 ?_
                refine lv_iconst (v := 3) hx hb qd_M_next_161 (by decide) ?_
                refine lv_iload_n hx hb qd_M_next_162 rfl (lv_at hl 0 rfl) ?_
                refine lv_imul hx hb qd_M_next_163 ?_
                refine lv_iconst (v := 2) hx hb qd_M_next_164 (by decide) ?_
                refine lv_iadd hx hb qd_M_next_165 ?_
                obtain ⟨g_166, ho⟩ := ho
                refine va_iald hx hb hK hP 2 0 rfl rfl g_166 qd_M_next_166 ?_
                obtain ⟨g_167, ho⟩ := ho
                refine xc_V (As := [.int (vMi ((3 * x3_97) + 2).toNatClampNeg)]) (rest := []) ⟨hx, hb, hml, hown, hg⟩ (c_M_isUseful l dC dI cA cZ aM aMh aMi aMc aMt aMn aMl aMs aMd aMe aMo aMw aMu u_20.2 vMP vMK u_29.1 vMD vME vMO u_29.2.1 u_29.2.2.1 vMX_97 vMW_97 u_33 (vMi ((3 * x3_97) + 2).toNatClampNeg) g_167) (cwV 1 hg (q_gV mw_734 mw_735 mw_787 mw_8 mw_736) rfl rfl rfl qh_M_isUseful ⟨Nat.le_of_ble_eq_true rfl, Nat.le_of_ble_eq_true rfl⟩) hN hK hP [0, 8] rfl 0 7 rfl rfl rfl hl.1 rfl (Nat.le_of_ble_eq_true rfl) qd_M_next_167 ⟨Nat.zero_le _, Nat.zero_le _⟩ ?_
                refine lv_topi (fun r_167 w_167 => ?_)
                have hres := hres.trans (bd_eq w_167)
                have ho := (bd_eq w_167).mp ho
                refine lv_if_eq (tgt := 177) hx hb qd_M_next_170 (by decide) (fun c_170 => ?_) (fun c_170 => ?_)
                · have hres := hres.trans (if_pos c_170)
                  have ho := (if_pos c_170).mp ho
                  refine lv_iconst (v := 0) hx hb qd_M_next_177 (by decide) ?_
                  refine lv_istore (lv' := [(4, .int 0), (3, .int x3_97), (2, .int x2_90), (0, .ref aM), (1, .int p0)]) hx hb qd_M_next_178 hl (by decide) rfl (fun ls hl => ?_)
                  refine lv_iload hx hb qd_M_next_180 (lv_at hl 0 rfl) ?_
                  refine lv_if_eq (tgt := 192) hx hb qd_M_next_182 (by decide) (fun c_182 => ?_) (fun c_182 => ?_)
                  rotate_left
                  · exact absurd (by decide) c_182
                  refine lv_iinc (v := x3_97 + 1) (lv' := [(3, .int (x3_97 + 1)), (4, .int 0), (2, .int x2_90), (0, .ref aM), (1, .int p0)]) hx hb qd_M_next_192 hl (k := 1) rfl (congrArg (fun z => _ + z) (by decide)) (by decide) rfl (fun ls hl => ?_)
                  refine lv_goto (tgt := 97) hx hb qd_M_next_195 (by decide) ?_
                  exact ih (x3_97 + 1) vMX_97 vMW_97 vMw_97 H locs ls hP hD hS (lv_sub hl [0, 2, 3, 4] rfl) hres ho
                have hres := hres.trans (if_neg c_170)
                have ho := (if_neg c_170).mp ho
                refine lv_iconst (v := 1) hx hb qd_M_next_173 (by decide) ?_
                refine lv_goto (tgt := 178) hx hb qd_M_next_174 (by decide) ?_
                refine lv_istore (lv' := [(4, .int 1), (3, .int x3_97), (2, .int x2_90), (0, .ref aM), (1, .int p0)]) hx hb qd_M_next_178 hl (by decide) rfl (fun ls hl => ?_)
                refine lv_iload hx hb qd_M_next_180 (lv_at hl 0 rfl) ?_
                refine lv_if_eq (tgt := 192) hx hb qd_M_next_182 (by decide) (fun c_182 => ?_) (fun c_182 => ?_)
                · exact absurd c_182 (by decide)
                refine lv_aload_n hx hb qd_M_next_185 rfl (lv_at hl 3 rfl) ?_
                refine lv_iload_n hx hb qd_M_next_186 rfl (lv_at hl 1 rfl) ?_
                refine lv_iload_n hx hb qd_M_next_187 rfl (lv_at hl 2 rfl) ?_
                refine lv_iload_n hx hb qd_M_next_188 rfl (lv_at hl 4 rfl) ?_
                obtain ⟨g_189, ho⟩ := ho
                refine xm_Vv (As := [.int x3_97, .int x2_90, .int p0]) (rest := []) (w1 := fun (u_189 : Int32 × Int32 × (Nat → Int32)) => [(aM, .inr (7, [.int u_20.2, .int vMP, .ref aMh, .ref aMi, .ref aMc, .int vMK, .ref aMt, .int u_29.1, .ref aMn, .ref aMl, .ref aMs, .int vMD, .ref aMd, .int vME, .ref aMe, .int vMO, .ref aMo, .int u_29.2.1, .int u_29.2.2.1, .ref aMw, .ref aMu, .int u_189.1, .int u_189.2.1])), (aMi, .inl (cA, 72, .inl (vMi))), (aMt, .inl (cA, 24, .inl (vMt))), (aMn, .inl (cA, 6250, .inl (u_29.2.2.2.1))), (aMw, .inl (cZ, 250, .inl (u_189.2.2)))]) (w2 := fun (u_189 : Int32 × Int32 × (Nat → Int32)) => [(aM, .inr (7, [.int u_20.2, .int vMP, .ref aMh, .ref aMi, .ref aMc, .int vMK, .ref aMt, .int u_29.1, .ref aMn, .ref aMl, .ref aMs, .int vMD, .ref aMd, .int vME, .ref aMe, .int vMO, .ref aMo, .int u_29.2.1, .int u_29.2.2.1, .ref aMw, .ref aMu, .int u_189.1, .int u_189.2.1])), (aMh, .inl (cA, 24, .inl (vMh))), (aMi, .inl (cA, 72, .inl (vMi))), (aMc, .inl (cA, 24, .inl (vMc))), (aMt, .inl (cA, 24, .inl (vMt))), (aMn, .inl (cA, 6250, .inl (u_29.2.2.2.1))), (aMl, .inl (cA, 6250, .inl (u_29.2.2.2.2))), (aMw, .inl (cZ, 250, .inl (u_189.2.2))), (aMu, .inl (cZ, 10, .inl (u_33)))]) ⟨hx, hb, hml, hown, hg⟩ (c_M_wants l dC dI cA cZ N_ aM aMh aMi aMc aMt aMn aMl aMs aMd aMe aMo aMw aMu _ u_20.2 vMP vMK u_29.1 vMD vME vMO u_29.2.1 u_29.2.2.1 vMX_97 vMW_97 vMi vMt u_29.2.2.2.1 vMw_97 x3_97 x2_90 p0 g_189) (cwV 3 hg (q_gV mw_737 mw_738 mw_788 mw_8 mw_739) rfl rfl rfl qh_M_wants ⟨Nat.le_of_ble_eq_true rfl, Nat.le_of_ble_eq_true rfl⟩) hN hK hP hD hS hA [0, 2, 4, 5, 7] [1, 3, 6, 8] rfl rfl (by decide) (by decide) (by decide) [4, 0, 5, 1, 6, 7, 2, 8, 3] (fun _ => rfl) (by decide) 0 7 rfl rfl rfl hl.1 rfl (Nat.le_of_ble_eq_true rfl) qd_M_next_189 ⟨Nat.zero_le _, Nat.zero_le _⟩ (fun u_189 H locs w_189 hP hD hS => ?_)
                have hP : va_P (dC, dI) vwCl [(aM, .inr (7, [.int u_20.2, .int vMP, .ref aMh, .ref aMi, .ref aMc, .int vMK, .ref aMt, .int u_29.1, .ref aMn, .ref aMl, .ref aMs, .int vMD, .ref aMd, .int vME, .ref aMe, .int vMO, .ref aMo, .int u_29.2.1, .int u_29.2.2.1, .ref aMw, .ref aMu, .int u_189.1, .int u_189.2.1])), (aMh, .inl (cA, 24, .inl (vMh))), (aMi, .inl (cA, 72, .inl (vMi))), (aMc, .inl (cA, 24, .inl (vMc))), (aMt, .inl (cA, 24, .inl (vMt))), (aMn, .inl (cA, 6250, .inl (u_29.2.2.2.1))), (aMl, .inl (cA, 6250, .inl (u_29.2.2.2.2))), (aMw, .inl (cZ, 250, .inl (u_189.2.2))), (aMu, .inl (cZ, 10, .inl (u_33)))] H := hP
                have hD : va_D A [(aM, .inr (7, [.int u_20.2, .int vMP, .ref aMh, .ref aMi, .ref aMc, .int vMK, .ref aMt, .int u_29.1, .ref aMn, .ref aMl, .ref aMs, .int vMD, .ref aMd, .int vME, .ref aMe, .int vMO, .ref aMo, .int u_29.2.1, .int u_29.2.2.1, .ref aMw, .ref aMu, .int u_189.1, .int u_189.2.1])), (aMh, .inl (cA, 24, .inl (vMh))), (aMi, .inl (cA, 72, .inl (vMi))), (aMc, .inl (cA, 24, .inl (vMc))), (aMt, .inl (cA, 24, .inl (vMt))), (aMn, .inl (cA, 6250, .inl (u_29.2.2.2.1))), (aMl, .inl (cA, 6250, .inl (u_29.2.2.2.2))), (aMw, .inl (cZ, 250, .inl (u_189.2.2))), (aMu, .inl (cZ, 10, .inl (u_33)))] := hD
                have hres := hres.trans (bd_eq w_189)
                have ho := (bd_eq w_189).mp ho
                refine lv_iinc (v := x3_97 + 1) (lv' := [(3, .int (x3_97 + 1)), (4, .int 1), (2, .int x2_90), (0, .ref aM), (1, .int p0)]) hx hb qd_M_next_192 hl (k := 1) rfl (congrArg (fun z => _ + z) (by decide)) (by decide) rfl (fun ls hl => ?_)
                refine lv_goto (tgt := 97) hx hb qd_M_next_195 (by decide) ?_
                exact ih (x3_97 + 1) u_189.1 u_189.2.1 u_189.2.2 H locs ls hP hD hS (lv_sub hl [0, 2, 3, 4] rfl) hres ho
            refine L_97 _ _ (fun x3_97 vMX_97 vMW_97 vMw_97 H locs ls hP hD hS hl hres ho => ?_) _ _ _ _ _ _ _ ls hP hD hS hl hres ho
            refine lv_iinc (v := x2_90 + 1) (lv' := [(2, .int (x2_90 + 1)), (3, .int x3_97), (0, .ref aM), (1, .int p0)]) hx hb qd_M_next_198 hl (k := 1) rfl (congrArg (fun z => _ + z) (by decide)) (by decide) rfl (fun ls hl => ?_)
            refine lv_goto (tgt := 90) hx hb qd_M_next_201 (by decide) ?_
            exact ih (x2_90 + 1) vMX_97 vMW_97 vMw_97 H locs ls hP hD hS (lv_sub hl [0, 2, 3] rfl) hres ho
        refine L_90 _ _ (fun x2_90 vMX_90 vMW_90 vMw_90 H locs ls hP hD hS hl hres ho => ?_) _ _ _ _ _ _ _ ls hP hD hS hl hres ho
        refine lv_goto (tgt := 76) hx hb qd_M_next_204 (by decide) ?_
        exact ih x2_90 vMX_90 vMW_90 vMw_90 H locs ls hP hD hS (lv_sub hl [0, 1, 2] rfl) hres ho
    refine L_76 _ _ (fun x2_76 vMX_76 vMW_76 vMw_76 H locs ls hP hD hS hl hres ho => ?_) _ _ _ _ _ _ _ ls hP hD hS hl hres ho
    refine lv_iload_n hx hb qd_M_next_207 rfl (lv_at hl 2 rfl) ?_
    refine lv_if_le (tgt := 236) hx hb qd_M_next_208 (by decide) (fun c_208 => ?_) (fun c_208 => ?_)
    · have hres := hres.trans (if_pos c_208)
      have ho := (if_pos c_208).mp ho
      refine lv_aload_n hx hb qd_M_next_236 rfl (lv_at hl 1 rfl) ?_
      refine va_get (D := (dC, dI)) (ci := 7) (v := .int vMX_76) (C := qR_M) (T := qT_M) (N := 23) hx hb hg qi_M hown hK hP 0 rfl rfl 21 (by decide) (hg _ mw_595) (fun _ h9 => h9) rfl qd_M_next_237 ?_
      subst hQ
      exact W.iret (v := vMX_76) hx hb hr (fun t ht hW => ⟨⟨_, (vMX_76, u_20.2, u_29.1, u_29.2.1, u_29.2.2.1, vMX_76, vMW_76, u_29.2.2.2.1, u_29.2.2.2.2, vMw_76, u_33), rfl, ⟨hres.symm, rfl⟩, ⟨by rw [ht]; exact hP, va_K.moved hW.alike hK, x_N hN hW⟩, hD⟩, hS.F ht⟩) hS.2.2 qd_M_next_240
    have hres := hres.trans (if_neg c_208)
    have ho := (if_neg c_208).mp ho
    refine lv_aload_n hx hb qd_M_next_211 rfl (lv_at hl 1 rfl) ?_
    refine va_get (D := (dC, dI)) (ci := 7) (v := .ref aMn) (C := qR_M) (T := qT_M) (N := 23) hx hb hg qi_M hown hK hP 0 rfl rfl 8 (by decide) (hg _ mw_582) (fun _ h9 => h9) rfl qd_M_next_212 ?_
    refine lv_iconst (v := 0) hx hb qd_M_next_215 (by decide) ?_
    refine lv_iconst (v := 0) hx hb qd_M_next_216 (by decide) ?_
    refine lv_iload_n hx hb qd_M_next_217 rfl (lv_at hl 2 rfl) ?_
    refine xc_S (As := [.int 0, .int 0, .int p0]) (rest := [.ref aMn]) ⟨hx, hb, hml, hown, hg⟩ (c_M_at l dC dI cA cZ 0 0 p0) (va_cwS 3 hg (q_gS mw_663 mw_664 mw_8 mw_665) rfl rfl rfl qh_M_at.2 ⟨Nat.le_of_ble_eq_true rfl, Nat.le_of_ble_eq_true rfl⟩) hN hK hP [] rfl rfl hl.1 rfl (Nat.le_of_ble_eq_true rfl) qd_M_next_218 ⟨Nat.zero_le _, Nat.zero_le _⟩ ?_
    refine lv_topi (fun r_218 w_218 => ?_)
    have hres := hres.trans (bd_eq w_218)
    have ho := (bd_eq w_218).mp ho
    obtain ⟨g_221, ho⟩ := ho
    refine va_iald hx hb hK hP 5 0 rfl rfl g_221 qd_M_next_221 ?_
    refine lv_if_le (tgt := 236) hx hb qd_M_next_222 (by decide) (fun c_222 => ?_) (fun c_222 => ?_)
    · have hres := hres.trans (if_pos c_222)
      have ho := (if_pos c_222).mp ho
      refine lv_aload_n hx hb qd_M_next_236 rfl (lv_at hl 1 rfl) ?_
      refine va_get (D := (dC, dI)) (ci := 7) (v := .int vMX_76) (C := qR_M) (T := qT_M) (N := 23) hx hb hg qi_M hown hK hP 0 rfl rfl 21 (by decide) (hg _ mw_595) (fun _ h9 => h9) rfl qd_M_next_237 ?_
      subst hQ
      exact W.iret (v := vMX_76) hx hb hr (fun t ht hW => ⟨⟨_, (vMX_76, u_20.2, u_29.1, u_29.2.1, u_29.2.2.1, vMX_76, vMW_76, u_29.2.2.2.1, u_29.2.2.2.2, vMw_76, u_33), rfl, ⟨hres.symm, rfl⟩, ⟨by rw [ht]; exact hP, va_K.moved hW.alike hK, x_N hN hW⟩, hD⟩, hS.F ht⟩) hS.2.2 qd_M_next_240
    have hres := hres.trans (if_neg c_222)
    have ho := (if_neg c_222).mp ho
    refine lv_aload_n hx hb qd_M_next_225 rfl (lv_at hl 1 rfl) ?_
    refine va_get (D := (dC, dI)) (ci := 7) (v := .int vMX_76) (C := qR_M) (T := qT_M) (N := 23) hx hb hg qi_M hown hK hP 0 rfl rfl 21 (by decide) (hg _ mw_595) (fun _ h9 => h9) rfl qd_M_next_226 ?_
    refine lv_sipush (v := 1024) hx hb qd_M_next_229 (by decide) ?_
    refine lv_ior hx hb qd_M_next_232 ?_
    refine lv_goto (tgt := 240) hx hb qd_M_next_233 (by decide) ?_
    subst hQ
    exact W.iret (v := vMX_76 ||| 1024) hx hb hr (fun t ht hW => ⟨⟨_, (vMX_76 ||| 1024, u_20.2, u_29.1, u_29.2.1, u_29.2.2.1, vMX_76, vMW_76, u_29.2.2.2.1, u_29.2.2.2.2, vMw_76, u_33), rfl, ⟨hres.symm, rfl⟩, ⟨by rw [ht]; exact hP, va_K.moved hW.alike hK, x_N hN hW⟩, hD⟩, hS.F ht⟩) hS.2.2 qd_M_next_240
  have hres := hres.trans (if_neg c_23)
  have ho := (if_neg c_23).mp ho
  refine lv_iconst (v := 0) hx hb qd_M_next_26 (by decide) ?_
  subst hQ
  exact W.iret (v := 0) hx hb hr (fun t ht hW => ⟨⟨_, (0, u_20.2, vMB, vMF, vMS, vMX, vMW, vMn, vMl, vMw, vMu), rfl, ⟨hres.symm, rfl⟩, ⟨by rw [ht]; exact hP, va_K.moved hW.alike hK, x_N hN hW⟩, hD⟩, hS.F ht⟩) hS.2.2 qd_M_next_27
