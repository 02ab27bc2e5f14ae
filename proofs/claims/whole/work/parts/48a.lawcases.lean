set_option maxHeartbeats 4000000 in
set_option maxRecDepth 100000 in
theorem lc_production {p : Program} {l : Launch} {e : Env} {s : State} {m : MethodId} {below : List Frame} {meth : Method} {c : Code} {dC : Nat → ClassId} {dI : Nat → Nat → Nat} {cA cZ cJ : ClassId} {b L : Nat} {xs : Nat → Int32} {aH aF aFs aFf aFt aFn aFd aO aOn aT aTf aC aCn aCc aCr aCs aG aGh aGi aGc aGo aGr aR aRt aU aM aMh aMi aMc aMt aMn aMl aMs aMd aMe aMo aMw aMu : Nat} {Q : State → Prop} {N_ : Nat} {Rel : Int32 → (Nat → Int32) → Int32 → (Nat → Int32) → (Nat → Int32) → Int32 → Int32 → (Nat → Int32) → (Nat → Int32) → (Nat → Int32) → (Nat → Int32) → (Nat → Int32) → Int32 → (Nat → Int32) → Int32 → Int32 → Int32 → Int32 → (Nat → Int32) → (Nat → Int32) → (Nat → Int32) → (Nat → Int32) → (Nat → Int32) → (Nat → Int32) → (Nat → Int32) → Prop} {cells slots : Nat} {x4 : Int32} (h_1 : vp_in (x4 + 1) L) (h_2 : vp_in (x4 + 2) L) (h_3 : vp_in (x4 + 3) L) (h_4 : vp_in (x4 + 4) L) (h_5 : vp_in (x4 + 5) L) (fit : fit_production N_ Rel) (O : lawOK p l s m c dC dI cA cZ cJ b L xs) (hc9 : cells + 2 ≤ 1074) (hs9 : slots + 12 ≤ 54482)
    (k : lawAt Rel p l e s m below meth c dC dI cA cZ cJ b aH aF aFs aFf aFt aFn aFd aO aOn aT aTf aC aCn aCc aCr aCs aG aGh aGi aGc aGo aGr aR aRt aU aM aMh aMi aMc aMt aMn aMl aMs aMd aMe aMo aMw aMu x4 (cells + 2) (slots + 12) 675 Q) : lawAt Rel p l e s m below meth c dC dI cA cZ cJ b aH aF aFs aFf aFt aFn aFd aO aOn aT aTf aC aCn aCc aCr aCs aG aGh aGi aGc aGo aGr aR aRt aU aM aMh aMi aMc aMt aMn aMl aMs aMd aMe aMo aMw aMu x4 cells slots 103 Q := by
  obtain ⟨hx, hb, hml, hown, hg, hX, hbl, hN, hT, hNc, hK, hl9⟩ := O
  have hA : ∀ q : Nat, s.heap.size ≤ q → (fun q : Nat => s.heap.size ≤ q) q := fun _ h => h
  have hbA : ¬ (fun q : Nat => s.heap.size ≤ q) b := Nat.not_le.mpr hbl
  intro vU vFW vFB vFE vFN vFL vFX vFY vFs vFf vFt vFn vFd vOE vOn vTS vTf vCF vCn vCc vCr vCs vGF vGS vGh vGi vGc vGo vGr vRL vRt vMT vMP vMK vMB vMD vME vMO vMF vMS vMX vMW vMh vMi vMc vMt vMn vMl vMs vMd vMe vMo vMw vMu H locs ls hR hP hD hS hl
  obtain ⟨ho1, ho2, hfit⟩ := fit vU vFW vFB vFE vFN vFL vFX vFY vFs vFf vFt vFn vFd vOE vOn vTS vTf vCF vCn vCc vCr vCs vGF vGS vGh vGi vGc vGo vGr vRL vRt vMT vMP vMK vMB vMD vME vMO vMF vMS vMX vMW vMh vMi vMc vMt vMn vMl vMs vMd vMe vMo vMw vMu (xs (x4 + 1).toNatClampNeg) (xs (x4 + 2).toNatClampNeg) (xs (x4 + 3).toNatClampNeg) (xs (x4 + 4).toNatClampNeg) (xs (x4 + 5).toNatClampNeg) hR
  refine lv_aload_n hx hb qd_law_103 rfl (lv_at hl 1 rfl) ?_
  refine lv_aload_n hx hb qd_law_104 rfl (lv_at hl 0 rfl) ?_
  refine lv_iload hx hb qd_law_105 (lv_at hl 4 rfl) ?_
  refine lv_iconst (v := 1) hx hb qd_law_107 (by decide) ?_
  refine lv_iadd hx hb qd_law_108 ?_
  refine va_sld hx hb hX hbl hbA hS h_1 qd_law_109 ?_
  refine lv_aload_n hx hb qd_law_110 rfl (lv_at hl 0 rfl) ?_
  refine lv_iload hx hb qd_law_111 (lv_at hl 4 rfl) ?_
  refine lv_iconst (v := 2) hx hb qd_law_113 (by decide) ?_
  refine lv_iadd hx hb qd_law_114 ?_
  refine va_sld hx hb hX hbl hbA hS h_2 qd_law_115 ?_
  refine lv_aload_n hx hb qd_law_116 rfl (lv_at hl 0 rfl) ?_
  refine lv_iload hx hb qd_law_117 (lv_at hl 4 rfl) ?_
  refine lv_iconst (v := 3) hx hb qd_law_119 (by decide) ?_
  refine lv_iadd hx hb qd_law_120 ?_
  refine va_sld hx hb hX hbl hbA hS h_3 qd_law_121 ?_
  refine lv_aload_n hx hb qd_law_122 rfl (lv_at hl 0 rfl) ?_
  refine lv_iload hx hb qd_law_123 (lv_at hl 4 rfl) ?_
  refine lv_iconst (v := 4) hx hb qd_law_125 (by decide) ?_
  refine lv_iadd hx hb qd_law_126 ?_
  refine va_sld hx hb hX hbl hbA hS h_4 qd_law_127 ?_
  refine lv_aload_n hx hb qd_law_128 rfl (lv_at hl 0 rfl) ?_
  refine lv_iload hx hb qd_law_129 (lv_at hl 4 rfl) ?_
  refine lv_iconst (v := 5) hx hb qd_law_131 (by decide) ?_
  refine lv_iadd hx hb qd_law_132 ?_
  refine va_sld hx hb hX hbl hbA hS h_5 qd_law_133 ?_
  refine lv_aload_n hx hb qd_law_134 rfl (lv_at hl 3 rfl) ?_
  refine xl_S (As := [.ref aH, .int (xs (x4 + 1).toNatClampNeg), .int (xs (x4 + 2).toNatClampNeg), .int (xs (x4 + 3).toNatClampNeg), .int (xs (x4 + 4).toNatClampNeg), .int (xs (x4 + 5).toNatClampNeg), .ref aU]) (rest := []) (rr := fun (u : Int32 × (Nat → Int64) × Int32 × Int32 × Int32 × (Nat → Int32) × (Nat → Int32) × (Nat → Int32) × (Nat → Int32) × (Nat → Int32)) => u.1) (w1 := fun (u : Int32 × (Nat → Int64) × Int32 × Int32 × Int32 × (Nat → Int32) × (Nat → Int32) × (Nat → Int32) × (Nat → Int32) × (Nat → Int32)) => [(aU, .inl (cJ, 1, .inr (.inl u.2.1))), (aH, .inr (6, [.ref aG, .ref aR, .ref aC, .ref aT, .ref aF, .ref aO])), (aC, .inr (0, [.ref aG, .ref aR, .ref aCn, .ref aCc, .ref aCr, .ref aCs, .int u.2.2.1])), (aG, .inr (2, [.ref aGh, .ref aGi, .ref aGc, .ref aGo, .ref aGr, .int u.2.2.2.1, .int u.2.2.2.2.1])), (aGh, .inl (cA, 24, .inl u.2.2.2.2.2.1)), (aGi, .inl (cA, 72, .inl u.2.2.2.2.2.2.1)), (aGc, .inl (cA, 24, .inl u.2.2.2.2.2.2.2.1)), (aGo, .inl (cA, 24, .inl u.2.2.2.2.2.2.2.2.1)), (aGr, .inl (cA, 10, .inl u.2.2.2.2.2.2.2.2.2))]) (w2 := fun (u : Int32 × (Nat → Int64) × Int32 × Int32 × Int32 × (Nat → Int32) × (Nat → Int32) × (Nat → Int32) × (Nat → Int32) × (Nat → Int32)) => (lwW cA cZ cJ aH aF aFs aFf aFt aFn aFd aO aOn aT aTf aC aCn aCc aCr aCs aG aGh aGi aGc aGo aGr aR aRt aU aM aMh aMi aMc aMt aMn aMl aMs aMd aMe aMo aMw aMu u.2.1 vFW vFB vFE vFN vFL vFX vFY vFs vFf vFt vFn vFd vOE vOn vTS vTf u.2.2.1 vCn vCc vCr vCs u.2.2.2.1 u.2.2.2.2.1 u.2.2.2.2.2.1 u.2.2.2.2.2.2.1 u.2.2.2.2.2.2.2.1 u.2.2.2.2.2.2.2.2.1 u.2.2.2.2.2.2.2.2.2 vRL vRt vMT vMP vMK vMB vMD vME vMO vMF vMS vMX vMW vMh vMi vMc vMt vMn vMl vMs vMd vMe vMo vMw vMu)) ⟨hx, hb, hml, hown, hg⟩ (c_L_production l hl9 dC dI cA cJ N_ aU aH aF aO aT aC aCn aCc aCr aCs aG aGh aGi aGc aGo aGr aR _ vU vCF vGF vGS vGh vGi vGc vGo vGr (xs (x4 + 1).toNatClampNeg) (xs (x4 + 2).toNatClampNeg) (xs (x4 + 3).toNatClampNeg) (xs (x4 + 4).toNatClampNeg) (xs (x4 + 5).toNatClampNeg) ho1) (vx_cwSW 7 hg (q_gS mw_168 mw_169 mw_0 mw_170) rfl rfl rfl qh_L_production.2 ⟨Nat.le_of_ble_eq_true rfl, Nat.le_of_ble_eq_true rfl⟩) hN hT hNc (hK.sub [0, 2] rfl) hP hD hS hA [24, 0, 11, 16, 17, 18, 19, 20, 21] [1, 2, 3, 4, 5, 6, 7, 8, 9, 10, 12, 13, 14, 15, 22, 23, 25, 26, 27, 28, 29, 30, 31, 32, 33, 34, 35, 36, 37] rfl rfl (by decide) (by decide) (by decide) [30, 0, 1, 2, 3, 4, 5, 6, 7, 8, 9, 31, 10, 11, 12, 13, 32, 33, 34, 35, 36, 37, 14, 15, 29, 16, 17, 18, 19, 20, 21, 22, 23, 24, 25, 26, 27, 28] (fun _ => rfl) (by decide) rfl hl.1 rfl (Nat.le_of_ble_eq_true rfl) qd_law_135 ⟨by show cells + 1 ≤ 1074; omega, by show slots + 6 ≤ 54482; omega⟩ (fun u H locs eu hP hD hS => ?_)
  have hfit := (bd_eq eu).mp hfit
  have hP : va_P (dC, dI) vwCl (lwW cA cZ cJ aH aF aFs aFf aFt aFn aFd aO aOn aT aTf aC aCn aCc aCr aCs aG aGh aGi aGc aGo aGr aR aRt aU aM aMh aMi aMc aMt aMn aMl aMs aMd aMe aMo aMw aMu u.2.1 vFW vFB vFE vFN vFL vFX vFY vFs vFf vFt vFn vFd vOE vOn vTS vTf u.2.2.1 vCn vCc vCr vCs u.2.2.2.1 u.2.2.2.2.1 u.2.2.2.2.2.1 u.2.2.2.2.2.2.1 u.2.2.2.2.2.2.2.1 u.2.2.2.2.2.2.2.2.1 u.2.2.2.2.2.2.2.2.2 vRL vRt vMT vMP vMK vMB vMD vME vMO vMF vMS vMX vMW vMh vMi vMc vMt vMn vMl vMs vMd vMe vMo vMw vMu) H := hP
  have hD : va_D (fun q : Nat => s.heap.size ≤ q) (lwW cA cZ cJ aH aF aFs aFf aFt aFn aFd aO aOn aT aTf aC aCn aCc aCr aCs aG aGh aGi aGc aGo aGr aR aRt aU aM aMh aMi aMc aMt aMn aMl aMs aMd aMe aMo aMw aMu u.2.1 vFW vFB vFE vFN vFL vFX vFY vFs vFf vFt vFn vFd vOE vOn vTS vTf u.2.2.1 vCn vCc vCr vCs u.2.2.2.1 u.2.2.2.2.1 u.2.2.2.2.2.1 u.2.2.2.2.2.2.1 u.2.2.2.2.2.2.2.1 u.2.2.2.2.2.2.2.2.1 u.2.2.2.2.2.2.2.2.2 vRL vRt vMT vMP vMK vMB vMD vME vMO vMF vMS vMX vMW vMh vMi vMc vMt vMn vMl vMs vMd vMe vMo vMw vMu) := hD
  refine lv_istore (lv' := [(5, .int u.1), (0, .ref b), (1, .ref aH), (2, .ref aM), (3, .ref aU), (4, .int x4)]) hx hb qd_law_138 hl (by decide) rfl (fun ls hl => ?_)
  refine lv_aload_n hx hb qd_law_140 rfl (lv_at hl 3 rfl) ?_
  refine lv_aload_n hx hb qd_law_141 rfl (lv_at hl 1 rfl) ?_
  refine lv_iload hx hb qd_law_142 (lv_at hl 5 rfl) ?_
  refine lv_iconst (v := 1) hx hb qd_law_144 (by decide) ?_
  refine lv_iadd hx hb qd_law_145 ?_
  refine va_sld hx hb hX hbl hbA hS h_1 qd_law_146 ?_
  refine lv_aload_n hx hb qd_law_147 rfl (lv_at hl 1 rfl) ?_
  refine lv_iload hx hb qd_law_148 (lv_at hl 5 rfl) ?_
  refine lv_iconst (v := 2) hx hb qd_law_150 (by decide) ?_
  refine lv_iadd hx hb qd_law_151 ?_
  refine va_sld hx hb hX hbl hbA hS h_2 qd_law_152 ?_
  refine lv_aload_n hx hb qd_law_153 rfl (lv_at hl 1 rfl) ?_
  refine lv_iload hx hb qd_law_154 (lv_at hl 5 rfl) ?_
  refine lv_iconst (v := 3) hx hb qd_law_156 (by decide) ?_
  refine lv_iadd hx hb qd_law_157 ?_
  refine va_sld hx hb hX hbl hbA hS h_3 qd_law_158 ?_
  refine lv_aload_n hx hb qd_law_159 rfl (lv_at hl 1 rfl) ?_
  refine lv_iload hx hb qd_law_160 (lv_at hl 5 rfl) ?_
  refine lv_iconst (v := 4) hx hb qd_law_162 (by decide) ?_
  refine lv_iadd hx hb qd_law_163 ?_
  refine va_sld hx hb hX hbl hbA hS h_4 qd_law_164 ?_
  refine lv_aload_n hx hb qd_law_165 rfl (lv_at hl 1 rfl) ?_
  refine lv_iload hx hb qd_law_166 (lv_at hl 5 rfl) ?_
  refine lv_iconst (v := 5) hx hb qd_law_168 (by decide) ?_
  refine lv_iadd hx hb qd_law_169 ?_
  refine va_sld hx hb hX hbl hbA hS h_5 qd_law_170 ?_
  refine xm_Vi (As := [.int (xs (x4 + 1).toNatClampNeg), .int (xs (x4 + 2).toNatClampNeg), .int (xs (x4 + 3).toNatClampNeg), .int (xs (x4 + 4).toNatClampNeg), .int (xs (x4 + 5).toNatClampNeg)]) (rest := []) (w1 := fun (w : Int32 × Int32 × Int32 × Int32 × (Nat → Int32) × (Nat → Int32) × (Nat → Int32) × (Nat → Int32)) => [(aM, .inr (7, [.int w.2.1, .int w.2.2.1, .ref aMh, .ref aMi, .ref aMc, .int vMK, .ref aMt, .int w.2.2.2.1, .ref aMn, .ref aMl, .ref aMs, .int vMD, .ref aMd, .int vME, .ref aMe, .int vMO, .ref aMo, .int vMF, .int vMS, .ref aMw, .ref aMu, .int vMX, .int vMW])), (aMh, .inl (cA, 24, .inl w.2.2.2.2.1)), (aMi, .inl (cA, 72, .inl w.2.2.2.2.2.1)), (aMc, .inl (cA, 24, .inl w.2.2.2.2.2.2.1)), (aMs, .inl (cZ, 100, .inl w.2.2.2.2.2.2.2))]) (w2 := fun (w : Int32 × Int32 × Int32 × Int32 × (Nat → Int32) × (Nat → Int32) × (Nat → Int32) × (Nat → Int32)) => (lwW cA cZ cJ aH aF aFs aFf aFt aFn aFd aO aOn aT aTf aC aCn aCc aCr aCs aG aGh aGi aGc aGo aGr aR aRt aU aM aMh aMi aMc aMt aMn aMl aMs aMd aMe aMo aMw aMu u.2.1 vFW vFB vFE vFN vFL vFX vFY vFs vFf vFt vFn vFd vOE vOn vTS vTf u.2.2.1 vCn vCc vCr vCs u.2.2.2.1 u.2.2.2.2.1 u.2.2.2.2.2.1 u.2.2.2.2.2.2.1 u.2.2.2.2.2.2.2.1 u.2.2.2.2.2.2.2.2.1 u.2.2.2.2.2.2.2.2.2 vRL vRt w.2.1 w.2.2.1 vMK w.2.2.2.1 vMD vME vMO vMF vMS vMX vMW w.2.2.2.2.1 w.2.2.2.2.2.1 w.2.2.2.2.2.2.1 vMt vMn vMl w.2.2.2.2.2.2.2 vMd vMe vMo vMw vMu)) ⟨hx, hb, hml, hown, hg⟩ (c_M_production l dC dI cA cZ N_ aM aMh aMi aMc aMt aMn aMl aMs aMd aMe aMo aMw aMu _ vMT vMP vMK vMB vMD vME vMO vMF vMS vMX vMW vMh vMi vMc vMs (xs (x4 + 1).toNatClampNeg) (xs (x4 + 2).toNatClampNeg) (xs (x4 + 3).toNatClampNeg) (xs (x4 + 4).toNatClampNeg) (xs (x4 + 5).toNatClampNeg) ho2) (cwV 5 hg (q_gV mw_629 mw_630 mw_631 mw_8 mw_632) rfl rfl rfl qh_M_production ⟨Nat.le_of_ble_eq_true rfl, Nat.le_of_ble_eq_true rfl⟩) hN (hK.sub [0, 1] rfl) hP hD hS hA [25, 26, 27, 28, 32] [0, 1, 2, 3, 4, 5, 6, 7, 8, 9, 10, 11, 12, 13, 14, 15, 16, 17, 18, 19, 20, 21, 22, 23, 24, 29, 30, 31, 33, 34, 35, 36, 37] rfl rfl (by decide) (by decide) (by decide) [0, 1, 2, 3, 4, 5, 6, 7, 8, 9, 10, 11, 12, 13, 14, 15, 16, 17, 18, 19, 20, 21, 22, 23, 24, 33, 34, 35, 36, 25, 26, 27, 37, 28, 29, 30, 31, 32] (fun _ => rfl) (by decide) 0 7 rfl rfl rfl hl.1 rfl (Nat.le_of_ble_eq_true rfl) qd_law_171 ⟨by show cells + 1 + 0 ≤ 1074; omega, by show slots + 6 + 0 ≤ 54482; omega⟩ (fun w H locs ew hP hD hS => ?_)
  have hfit := (bd_eq ew).mp hfit
  have hP : va_P (dC, dI) vwCl (lwW cA cZ cJ aH aF aFs aFf aFt aFn aFd aO aOn aT aTf aC aCn aCc aCr aCs aG aGh aGi aGc aGo aGr aR aRt aU aM aMh aMi aMc aMt aMn aMl aMs aMd aMe aMo aMw aMu u.2.1 vFW vFB vFE vFN vFL vFX vFY vFs vFf vFt vFn vFd vOE vOn vTS vTf u.2.2.1 vCn vCc vCr vCs u.2.2.2.1 u.2.2.2.2.1 u.2.2.2.2.2.1 u.2.2.2.2.2.2.1 u.2.2.2.2.2.2.2.1 u.2.2.2.2.2.2.2.2.1 u.2.2.2.2.2.2.2.2.2 vRL vRt w.2.1 w.2.2.1 vMK w.2.2.2.1 vMD vME vMO vMF vMS vMX vMW w.2.2.2.2.1 w.2.2.2.2.2.1 w.2.2.2.2.2.2.1 vMt vMn vMl w.2.2.2.2.2.2.2 vMd vMe vMo vMw vMu) H := hP
  have hD : va_D (fun q : Nat => s.heap.size ≤ q) (lwW cA cZ cJ aH aF aFs aFf aFt aFn aFd aO aOn aT aTf aC aCn aCc aCr aCs aG aGh aGi aGc aGo aGr aR aRt aU aM aMh aMi aMc aMt aMn aMl aMs aMd aMe aMo aMw aMu u.2.1 vFW vFB vFE vFN vFL vFX vFY vFs vFf vFt vFn vFd vOE vOn vTS vTf u.2.2.1 vCn vCc vCr vCs u.2.2.2.1 u.2.2.2.2.1 u.2.2.2.2.2.1 u.2.2.2.2.2.2.1 u.2.2.2.2.2.2.2.1 u.2.2.2.2.2.2.2.2.1 u.2.2.2.2.2.2.2.2.2 vRL vRt w.2.1 w.2.2.1 vMK w.2.2.2.1 vMD vME vMO vMF vMS vMX vMW w.2.2.2.2.1 w.2.2.2.2.2.1 w.2.2.2.2.2.2.1 vMt vMn vMl w.2.2.2.2.2.2.2 vMd vMe vMo vMw vMu) := hD
  refine lv_istore (lv' := [(6, .int w.1), (5, .int u.1), (0, .ref b), (1, .ref aH), (2, .ref aM), (3, .ref aU), (4, .int x4)]) hx hb qd_law_174 hl (by decide) rfl (fun ls hl => ?_)
  refine lv_aload_n hx hb qd_law_176 rfl (lv_at hl 4 rfl) ?_
  refine xc_V (As := []) (rest := []) ⟨hx, hb, hml, hown, hg⟩ (c_M_thrown l dC dI cA cZ aM aMh aMi aMc aMt aMn aMl aMs aMd aMe aMo aMw aMu w.2.1 w.2.2.1 vMK w.2.2.2.1 vMD vME vMO vMF vMS vMX vMW) (cwV 0 hg (q_gV mw_621 mw_622 mw_623 mw_8 mw_624) rfl rfl rfl qh_M_thrown ⟨Nat.le_of_ble_eq_true rfl, Nat.le_of_ble_eq_true rfl⟩) hN (hK.sub [0, 1] rfl) hP [25] rfl 0 7 rfl rfl rfl hl.1 rfl (Nat.le_of_ble_eq_true rfl) qd_law_177 ⟨by show cells + 1 + 0 ≤ 1074; omega, by show slots + 6 + 0 ≤ 54482; omega⟩ ?_
  refine lv_iload hx hb qd_law_180 (lv_at hl 1 rfl) ?_
  refine lv_icmp_eq (tgt := 187) hx hb qd_law_182 (by decide) (fun _ => ?_) (fun q9 => absurd hfit.1 q9)
  refine lv_iload hx hb qd_law_187 (lv_at hl 1 rfl) ?_
  refine lv_if_ne (tgt := 204) hx hb qd_law_189 (by decide) (fun _ => ?_) (fun q8 => ?_)
  · skip
    refine lv_goto (tgt := 675) hx hb qd_law_204 (by decide) ?_
    refine W.widen (k := cells + 2) (n := slots + 12) (by omega) (by omega) ?_
    exact k u.2.1 vFW vFB vFE vFN vFL vFX vFY vFs vFf vFt vFn vFd vOE vOn vTS vTf u.2.2.1 vCn vCc vCr vCs u.2.2.2.1 u.2.2.2.2.1 u.2.2.2.2.2.1 u.2.2.2.2.2.2.1 u.2.2.2.2.2.2.2.1 u.2.2.2.2.2.2.2.2.1 u.2.2.2.2.2.2.2.2.2 vRL vRt w.2.1 w.2.2.1 vMK w.2.2.2.1 vMD vME vMO vMF vMS vMX vMW w.2.2.2.2.1 w.2.2.2.2.2.1 w.2.2.2.2.2.2.1 vMt vMn vMl w.2.2.2.2.2.2.2 vMd vMe vMo vMw vMu H locs ls hfit.2.2 hP hD hS (lv_sub hl [2, 3, 4, 5, 6] rfl)
  refine lv_aload_n hx hb qd_law_192 rfl (lv_at hl 5 rfl) ?_
  refine lv_iconst (v := 0) hx hb qd_law_193 (by decide) ?_
  refine va_lald hx hb hK hP 24 2 rfl rfl (vp_in_iff.mpr ⟨by decide, by decide⟩) qd_law_194 ?_
  refine lv_iload hx hb qd_law_195 (lv_at hl 0 rfl) ?_
  refine lv_i2l hx hb qd_law_197 rfl ?_
  refine W.lcmp hx hb qd_law_198 ?_
  refine lv_if_eq (tgt := 204) hx hb qd_law_199 (by decide) (fun _ => ?_) (fun q7 => absurd (lw_same (hfit.2.1 q8)) q7)
  refine lv_goto (tgt := 675) hx hb qd_law_204 (by decide) ?_
  refine W.widen (k := cells + 2) (n := slots + 12) (by omega) (by omega) ?_
  exact k u.2.1 vFW vFB vFE vFN vFL vFX vFY vFs vFf vFt vFn vFd vOE vOn vTS vTf u.2.2.1 vCn vCc vCr vCs u.2.2.2.1 u.2.2.2.2.1 u.2.2.2.2.2.1 u.2.2.2.2.2.2.1 u.2.2.2.2.2.2.2.1 u.2.2.2.2.2.2.2.2.1 u.2.2.2.2.2.2.2.2.2 vRL vRt w.2.1 w.2.2.1 vMK w.2.2.2.1 vMD vME vMO vMF vMS vMX vMW w.2.2.2.2.1 w.2.2.2.2.2.1 w.2.2.2.2.2.2.1 vMt vMn vMl w.2.2.2.2.2.2.2 vMd vMe vMo vMw vMu H locs ls hfit.2.2 hP hD hS (lv_sub hl [2, 3, 4, 5, 6] rfl)
set_option maxHeartbeats 4000000 in
set_option maxRecDepth 100000 in
theorem lc_count {p : Program} {l : Launch} {e : Env} {s : State} {m : MethodId} {below : List Frame} {meth : Method} {c : Code} {dC : Nat → ClassId} {dI : Nat → Nat → Nat} {cA cZ cJ : ClassId} {b L : Nat} {xs : Nat → Int32} {aH aF aFs aFf aFt aFn aFd aO aOn aT aTf aC aCn aCc aCr aCs aG aGh aGi aGc aGo aGr aR aRt aU aM aMh aMi aMc aMt aMn aMl aMs aMd aMe aMo aMw aMu : Nat} {Q : State → Prop} {N_ : Nat} {Rel : Int32 → (Nat → Int32) → Int32 → (Nat → Int32) → (Nat → Int32) → Int32 → Int32 → (Nat → Int32) → (Nat → Int32) → (Nat → Int32) → (Nat → Int32) → (Nat → Int32) → Int32 → (Nat → Int32) → Int32 → Int32 → Int32 → Int32 → (Nat → Int32) → (Nat → Int32) → (Nat → Int32) → (Nat → Int32) → (Nat → Int32) → (Nat → Int32) → (Nat → Int32) → Prop} {cells slots : Nat} {x4 : Int32} (h_1 : vp_in (x4 + 1) L) (h_2 : vp_in (x4 + 2) L) (h_3 : vp_in (x4 + 3) L) (fit : fit_count N_ Rel) (O : lawOK p l s m c dC dI cA cZ cJ b L xs) (hc9 : cells + 2 ≤ 1074) (hs9 : slots + 12 ≤ 54482)
    (k : lawAt Rel p l e s m below meth c dC dI cA cZ cJ b aH aF aFs aFf aFt aFn aFd aO aOn aT aTf aC aCn aCc aCr aCs aG aGh aGi aGc aGo aGr aR aRt aU aM aMh aMi aMc aMt aMn aMl aMs aMd aMe aMo aMw aMu x4 (cells + 2) (slots + 12) 675 Q) : lawAt Rel p l e s m below meth c dC dI cA cZ cJ b aH aF aFs aFf aFt aFn aFd aO aOn aT aTf aC aCn aCc aCr aCs aG aGh aGi aGc aGo aGr aR aRt aU aM aMh aMi aMc aMt aMn aMl aMs aMd aMe aMo aMw aMu x4 cells slots 299 Q := by
  obtain ⟨hx, hb, hml, hown, hg, hX, hbl, hN, hT, hNc, hK, hl9⟩ := O
  have hA : ∀ q : Nat, s.heap.size ≤ q → (fun q : Nat => s.heap.size ≤ q) q := fun _ h => h
  have hbA : ¬ (fun q : Nat => s.heap.size ≤ q) b := Nat.not_le.mpr hbl
  intro vU vFW vFB vFE vFN vFL vFX vFY vFs vFf vFt vFn vFd vOE vOn vTS vTf vCF vCn vCc vCr vCs vGF vGS vGh vGi vGc vGo vGr vRL vRt vMT vMP vMK vMB vMD vME vMO vMF vMS vMX vMW vMh vMi vMc vMt vMn vMl vMs vMd vMe vMo vMw vMu H locs ls hR hP hD hS hl
  obtain ⟨ho1, ho2, hfit⟩ := fit vU vFW vFB vFE vFN vFL vFX vFY vFs vFf vFt vFn vFd vOE vOn vTS vTf vCF vCn vCc vCr vCs vGF vGS vGh vGi vGc vGo vGr vRL vRt vMT vMP vMK vMB vMD vME vMO vMF vMS vMX vMW vMh vMi vMc vMt vMn vMl vMs vMd vMe vMo vMw vMu (xs (x4 + 1).toNatClampNeg) (xs (x4 + 2).toNatClampNeg) (xs (x4 + 3).toNatClampNeg) hR
  refine lv_aload_n hx hb qd_law_299 rfl (lv_at hl 1 rfl) ?_
  refine lv_aload_n hx hb qd_law_300 rfl (lv_at hl 0 rfl) ?_
  refine lv_iload hx hb qd_law_301 (lv_at hl 4 rfl) ?_
  refine lv_iconst (v := 1) hx hb qd_law_303 (by decide) ?_
  refine lv_iadd hx hb qd_law_304 ?_
  refine va_sld hx hb hX hbl hbA hS h_1 qd_law_305 ?_
  refine lv_aload_n hx hb qd_law_306 rfl (lv_at hl 0 rfl) ?_
  refine lv_iload hx hb qd_law_307 (lv_at hl 4 rfl) ?_
  refine lv_iconst (v := 2) hx hb qd_law_309 (by decide) ?_
  refine lv_iadd hx hb qd_law_310 ?_
  refine va_sld hx hb hX hbl hbA hS h_2 qd_law_311 ?_
  refine lv_aload_n hx hb qd_law_312 rfl (lv_at hl 0 rfl) ?_
  refine lv_iload hx hb qd_law_313 (lv_at hl 4 rfl) ?_
  refine lv_iconst (v := 3) hx hb qd_law_315 (by decide) ?_
  refine lv_iadd hx hb qd_law_316 ?_
  refine va_sld hx hb hX hbl hbA hS h_3 qd_law_317 ?_
  refine lv_aload_n hx hb qd_law_318 rfl (lv_at hl 3 rfl) ?_
  refine xl_S (As := [.ref aH, .int (xs (x4 + 1).toNatClampNeg), .int (xs (x4 + 2).toNatClampNeg), .int (xs (x4 + 3).toNatClampNeg), .ref aU]) (rest := []) (rr := fun (u : Int32 × (Nat → Int64) × Int32 × (Nat → Int32) × (Nat → Int32) × (Nat → Int32) × (Nat → Int32)) => u.1) (w1 := fun (u : Int32 × (Nat → Int64) × Int32 × (Nat → Int32) × (Nat → Int32) × (Nat → Int32) × (Nat → Int32)) => [(aU, .inl (cJ, 1, .inr (.inl u.2.1))), (aH, .inr (6, [.ref aG, .ref aR, .ref aC, .ref aT, .ref aF, .ref aO])), (aC, .inr (0, [.ref aG, .ref aR, .ref aCn, .ref aCc, .ref aCr, .ref aCs, .int u.2.2.1])), (aCn, .inl (cA, 5760, .inl u.2.2.2.1)), (aCc, .inl (cA, 5760, .inl u.2.2.2.2.1)), (aCr, .inl (cA, 600, .inl u.2.2.2.2.2.1)), (aCs, .inl (cA, 600, .inl u.2.2.2.2.2.2)), (aG, .inr (2, [.ref aGh, .ref aGi, .ref aGc, .ref aGo, .ref aGr, .int vGF, .int vGS])), (aGh, .inl (cA, 24, .inl vGh)), (aGi, .inl (cA, 72, .inl vGi)), (aGc, .inl (cA, 24, .inl vGc)), (aGo, .inl (cA, 24, .inl vGo)), (aR, .inr (4, [.ref aRt, .int vRL])), (aRt, .inl (cA, 24, .inl vRt))]) (w2 := fun (u : Int32 × (Nat → Int64) × Int32 × (Nat → Int32) × (Nat → Int32) × (Nat → Int32) × (Nat → Int32)) => (lwW cA cZ cJ aH aF aFs aFf aFt aFn aFd aO aOn aT aTf aC aCn aCc aCr aCs aG aGh aGi aGc aGo aGr aR aRt aU aM aMh aMi aMc aMt aMn aMl aMs aMd aMe aMo aMw aMu u.2.1 vFW vFB vFE vFN vFL vFX vFY vFs vFf vFt vFn vFd vOE vOn vTS vTf u.2.2.1 u.2.2.2.1 u.2.2.2.2.1 u.2.2.2.2.2.1 u.2.2.2.2.2.2 vGF vGS vGh vGi vGc vGo vGr vRL vRt vMT vMP vMK vMB vMD vME vMO vMF vMS vMX vMW vMh vMi vMc vMt vMn vMl vMs vMd vMe vMo vMw vMu)) ⟨hx, hb, hml, hown, hg⟩ (c_L_count l hl9 dC dI cA cJ N_ aU aH aF aO aT aC aCn aCc aCr aCs aG aGh aGi aGc aGo aGr aR aRt _ vU vCF vCn vCc vCr vCs vGF vGS vGh vGi vGc vGo vRL vRt (xs (x4 + 1).toNatClampNeg) (xs (x4 + 2).toNatClampNeg) (xs (x4 + 3).toNatClampNeg) ho1) (vx_cwSW 5 hg (q_gS mw_334 mw_335 mw_0 mw_336) rfl rfl rfl qh_L_count.2 ⟨Nat.le_of_ble_eq_true rfl, Nat.le_of_ble_eq_true rfl⟩) hN hT hNc (hK.sub [0, 2] rfl) hP hD hS hA [24, 0, 11, 12, 13, 14, 15, 16, 17, 18, 19, 20, 22, 23] [1, 2, 3, 4, 5, 6, 7, 8, 9, 10, 21, 25, 26, 27, 28, 29, 30, 31, 32, 33, 34, 35, 36, 37] rfl rfl (by decide) (by decide) (by decide) [25, 0, 1, 2, 3, 4, 5, 6, 7, 8, 9, 26, 27, 28, 29, 30, 31, 32, 33, 34, 35, 10, 36, 37, 24, 11, 12, 13, 14, 15, 16, 17, 18, 19, 20, 21, 22, 23] (fun _ => rfl) (by decide) rfl hl.1 rfl (Nat.le_of_ble_eq_true rfl) qd_law_319 ⟨by show cells + 1 ≤ 1074; omega, by show slots + 6 ≤ 54482; omega⟩ (fun u H locs eu hP hD hS => ?_)
  have hfit := (bd_eq eu).mp hfit
  have hP : va_P (dC, dI) vwCl (lwW cA cZ cJ aH aF aFs aFf aFt aFn aFd aO aOn aT aTf aC aCn aCc aCr aCs aG aGh aGi aGc aGo aGr aR aRt aU aM aMh aMi aMc aMt aMn aMl aMs aMd aMe aMo aMw aMu u.2.1 vFW vFB vFE vFN vFL vFX vFY vFs vFf vFt vFn vFd vOE vOn vTS vTf u.2.2.1 u.2.2.2.1 u.2.2.2.2.1 u.2.2.2.2.2.1 u.2.2.2.2.2.2 vGF vGS vGh vGi vGc vGo vGr vRL vRt vMT vMP vMK vMB vMD vME vMO vMF vMS vMX vMW vMh vMi vMc vMt vMn vMl vMs vMd vMe vMo vMw vMu) H := hP
  have hD : va_D (fun q : Nat => s.heap.size ≤ q) (lwW cA cZ cJ aH aF aFs aFf aFt aFn aFd aO aOn aT aTf aC aCn aCc aCr aCs aG aGh aGi aGc aGo aGr aR aRt aU aM aMh aMi aMc aMt aMn aMl aMs aMd aMe aMo aMw aMu u.2.1 vFW vFB vFE vFN vFL vFX vFY vFs vFf vFt vFn vFd vOE vOn vTS vTf u.2.2.1 u.2.2.2.1 u.2.2.2.2.1 u.2.2.2.2.2.1 u.2.2.2.2.2.2 vGF vGS vGh vGi vGc vGo vGr vRL vRt vMT vMP vMK vMB vMD vME vMO vMF vMS vMX vMW vMh vMi vMc vMt vMn vMl vMs vMd vMe vMo vMw vMu) := hD
  refine lv_istore (lv' := [(5, .int u.1), (0, .ref b), (1, .ref aH), (2, .ref aM), (3, .ref aU), (4, .int x4)]) hx hb qd_law_322 hl (by decide) rfl (fun ls hl => ?_)
  refine lv_aload_n hx hb qd_law_324 rfl (lv_at hl 3 rfl) ?_
  refine lv_aload_n hx hb qd_law_325 rfl (lv_at hl 1 rfl) ?_
  refine lv_iload hx hb qd_law_326 (lv_at hl 5 rfl) ?_
  refine lv_iconst (v := 1) hx hb qd_law_328 (by decide) ?_
  refine lv_iadd hx hb qd_law_329 ?_
  refine va_sld hx hb hX hbl hbA hS h_1 qd_law_330 ?_
  refine lv_aload_n hx hb qd_law_331 rfl (lv_at hl 1 rfl) ?_
  refine lv_iload hx hb qd_law_332 (lv_at hl 5 rfl) ?_
  refine lv_iconst (v := 2) hx hb qd_law_334 (by decide) ?_
  refine lv_iadd hx hb qd_law_335 ?_
  refine va_sld hx hb hX hbl hbA hS h_2 qd_law_336 ?_
  refine lv_aload_n hx hb qd_law_337 rfl (lv_at hl 1 rfl) ?_
  refine lv_iload hx hb qd_law_338 (lv_at hl 5 rfl) ?_
  refine lv_iconst (v := 3) hx hb qd_law_340 (by decide) ?_
  refine lv_iadd hx hb qd_law_341 ?_
  refine va_sld hx hb hX hbl hbA hS h_3 qd_law_342 ?_
  refine xm_Vi (As := [.int (xs (x4 + 1).toNatClampNeg), .int (xs (x4 + 2).toNatClampNeg), .int (xs (x4 + 3).toNatClampNeg)]) (rest := []) (w1 := fun (w : Int32 × Int32 × Int32 × Int32 × Int32 × (Nat → Int32) × (Nat → Int32)) => [(aM, .inr (7, [.int w.2.1, .int vMP, .ref aMh, .ref aMi, .ref aMc, .int vMK, .ref aMt, .int w.2.2.1, .ref aMn, .ref aMl, .ref aMs, .int vMD, .ref aMd, .int vME, .ref aMe, .int vMO, .ref aMo, .int w.2.2.2.1, .int w.2.2.2.2.1, .ref aMw, .ref aMu, .int vMX, .int vMW])), (aMh, .inl (cA, 24, .inl vMh)), (aMi, .inl (cA, 72, .inl vMi)), (aMc, .inl (cA, 24, .inl vMc)), (aMt, .inl (cA, 24, .inl vMt)), (aMn, .inl (cA, 6250, .inl w.2.2.2.2.2.1)), (aMl, .inl (cA, 6250, .inl w.2.2.2.2.2.2))]) (w2 := fun (w : Int32 × Int32 × Int32 × Int32 × Int32 × (Nat → Int32) × (Nat → Int32)) => (lwW cA cZ cJ aH aF aFs aFf aFt aFn aFd aO aOn aT aTf aC aCn aCc aCr aCs aG aGh aGi aGc aGo aGr aR aRt aU aM aMh aMi aMc aMt aMn aMl aMs aMd aMe aMo aMw aMu u.2.1 vFW vFB vFE vFN vFL vFX vFY vFs vFf vFt vFn vFd vOE vOn vTS vTf u.2.2.1 u.2.2.2.1 u.2.2.2.2.1 u.2.2.2.2.2.1 u.2.2.2.2.2.2 vGF vGS vGh vGi vGc vGo vGr vRL vRt w.2.1 vMP vMK w.2.2.1 vMD vME vMO w.2.2.2.1 w.2.2.2.2.1 vMX vMW vMh vMi vMc vMt w.2.2.2.2.2.1 w.2.2.2.2.2.2 vMs vMd vMe vMo vMw vMu)) ⟨hx, hb, hml, hown, hg⟩ (c_M_count l dC dI cA cZ N_ aM aMh aMi aMc aMt aMn aMl aMs aMd aMe aMo aMw aMu _ vMT vMP vMK vMB vMD vME vMO vMF vMS vMX vMW vMh vMi vMc vMt vMn vMl (xs (x4 + 1).toNatClampNeg) (xs (x4 + 2).toNatClampNeg) (xs (x4 + 3).toNatClampNeg) ho2) (cwV 3 hg (q_gV mw_653 mw_654 mw_655 mw_8 mw_656) rfl rfl rfl qh_M_count ⟨Nat.le_of_ble_eq_true rfl, Nat.le_of_ble_eq_true rfl⟩) hN (hK.sub [0, 1] rfl) hP hD hS hA [25, 26, 27, 28, 29, 30, 31] [0, 1, 2, 3, 4, 5, 6, 7, 8, 9, 10, 11, 12, 13, 14, 15, 16, 17, 18, 19, 20, 21, 22, 23, 24, 32, 33, 34, 35, 36, 37] rfl rfl (by decide) (by decide) (by decide) [0, 1, 2, 3, 4, 5, 6, 7, 8, 9, 10, 11, 12, 13, 14, 15, 16, 17, 18, 19, 20, 21, 22, 23, 24, 31, 32, 33, 34, 35, 36, 37, 25, 26, 27, 28, 29, 30] (fun _ => rfl) (by decide) 0 7 rfl rfl rfl hl.1 rfl (Nat.le_of_ble_eq_true rfl) qd_law_343 ⟨by show cells + 1 + 0 ≤ 1074; omega, by show slots + 6 + 0 ≤ 54482; omega⟩ (fun w H locs ew hP hD hS => ?_)
  have hfit := (bd_eq ew).mp hfit
  have hP : va_P (dC, dI) vwCl (lwW cA cZ cJ aH aF aFs aFf aFt aFn aFd aO aOn aT aTf aC aCn aCc aCr aCs aG aGh aGi aGc aGo aGr aR aRt aU aM aMh aMi aMc aMt aMn aMl aMs aMd aMe aMo aMw aMu u.2.1 vFW vFB vFE vFN vFL vFX vFY vFs vFf vFt vFn vFd vOE vOn vTS vTf u.2.2.1 u.2.2.2.1 u.2.2.2.2.1 u.2.2.2.2.2.1 u.2.2.2.2.2.2 vGF vGS vGh vGi vGc vGo vGr vRL vRt w.2.1 vMP vMK w.2.2.1 vMD vME vMO w.2.2.2.1 w.2.2.2.2.1 vMX vMW vMh vMi vMc vMt w.2.2.2.2.2.1 w.2.2.2.2.2.2 vMs vMd vMe vMo vMw vMu) H := hP
  have hD : va_D (fun q : Nat => s.heap.size ≤ q) (lwW cA cZ cJ aH aF aFs aFf aFt aFn aFd aO aOn aT aTf aC aCn aCc aCr aCs aG aGh aGi aGc aGo aGr aR aRt aU aM aMh aMi aMc aMt aMn aMl aMs aMd aMe aMo aMw aMu u.2.1 vFW vFB vFE vFN vFL vFX vFY vFs vFf vFt vFn vFd vOE vOn vTS vTf u.2.2.1 u.2.2.2.1 u.2.2.2.2.1 u.2.2.2.2.2.1 u.2.2.2.2.2.2 vGF vGS vGh vGi vGc vGo vGr vRL vRt w.2.1 vMP vMK w.2.2.1 vMD vME vMO w.2.2.2.1 w.2.2.2.2.1 vMX vMW vMh vMi vMc vMt w.2.2.2.2.2.1 w.2.2.2.2.2.2 vMs vMd vMe vMo vMw vMu) := hD
  refine lv_istore (lv' := [(6, .int w.1), (5, .int u.1), (0, .ref b), (1, .ref aH), (2, .ref aM), (3, .ref aU), (4, .int x4)]) hx hb qd_law_346 hl (by decide) rfl (fun ls hl => ?_)
  refine lv_aload_n hx hb qd_law_348 rfl (lv_at hl 4 rfl) ?_
  refine xc_V (As := []) (rest := []) ⟨hx, hb, hml, hown, hg⟩ (c_M_thrown l dC dI cA cZ aM aMh aMi aMc aMt aMn aMl aMs aMd aMe aMo aMw aMu w.2.1 vMP vMK w.2.2.1 vMD vME vMO w.2.2.2.1 w.2.2.2.2.1 vMX vMW) (cwV 0 hg (q_gV mw_621 mw_622 mw_623 mw_8 mw_624) rfl rfl rfl qh_M_thrown ⟨Nat.le_of_ble_eq_true rfl, Nat.le_of_ble_eq_true rfl⟩) hN (hK.sub [0, 1] rfl) hP [25] rfl 0 7 rfl rfl rfl hl.1 rfl (Nat.le_of_ble_eq_true rfl) qd_law_349 ⟨by show cells + 1 + 0 ≤ 1074; omega, by show slots + 6 + 0 ≤ 54482; omega⟩ ?_
  refine lv_iload hx hb qd_law_352 (lv_at hl 1 rfl) ?_
  refine lv_icmp_eq (tgt := 359) hx hb qd_law_354 (by decide) (fun _ => ?_) (fun q9 => absurd hfit.1 q9)
  refine lv_iload hx hb qd_law_359 (lv_at hl 1 rfl) ?_
  refine lv_if_ne (tgt := 376) hx hb qd_law_361 (by decide) (fun _ => ?_) (fun q8 => ?_)
  · skip
    refine lv_goto (tgt := 675) hx hb qd_law_376 (by decide) ?_
    refine W.widen (k := cells + 2) (n := slots + 12) (by omega) (by omega) ?_
    exact k u.2.1 vFW vFB vFE vFN vFL vFX vFY vFs vFf vFt vFn vFd vOE vOn vTS vTf u.2.2.1 u.2.2.2.1 u.2.2.2.2.1 u.2.2.2.2.2.1 u.2.2.2.2.2.2 vGF vGS vGh vGi vGc vGo vGr vRL vRt w.2.1 vMP vMK w.2.2.1 vMD vME vMO w.2.2.2.1 w.2.2.2.2.1 vMX vMW vMh vMi vMc vMt w.2.2.2.2.2.1 w.2.2.2.2.2.2 vMs vMd vMe vMo vMw vMu H locs ls hfit.2.2 hP hD hS (lv_sub hl [2, 3, 4, 5, 6] rfl)
  refine lv_aload_n hx hb qd_law_364 rfl (lv_at hl 5 rfl) ?_
  refine lv_iconst (v := 0) hx hb qd_law_365 (by decide) ?_
  refine va_lald hx hb hK hP 24 2 rfl rfl (vp_in_iff.mpr ⟨by decide, by decide⟩) qd_law_366 ?_
  refine lv_iload hx hb qd_law_367 (lv_at hl 0 rfl) ?_
  refine lv_i2l hx hb qd_law_369 rfl ?_
  refine W.lcmp hx hb qd_law_370 ?_
  refine lv_if_eq (tgt := 376) hx hb qd_law_371 (by decide) (fun _ => ?_) (fun q7 => absurd (lw_same (hfit.2.1 q8)) q7)
  refine lv_goto (tgt := 675) hx hb qd_law_376 (by decide) ?_
  refine W.widen (k := cells + 2) (n := slots + 12) (by omega) (by omega) ?_
  exact k u.2.1 vFW vFB vFE vFN vFL vFX vFY vFs vFf vFt vFn vFd vOE vOn vTS vTf u.2.2.1 u.2.2.2.1 u.2.2.2.2.1 u.2.2.2.2.2.1 u.2.2.2.2.2.2 vGF vGS vGh vGi vGc vGo vGr vRL vRt w.2.1 vMP vMK w.2.2.1 vMD vME vMO w.2.2.2.1 w.2.2.2.2.1 vMX vMW vMh vMi vMc vMt w.2.2.2.2.2.1 w.2.2.2.2.2.2 vMs vMd vMe vMo vMw vMu H locs ls hfit.2.2 hP hD hS (lv_sub hl [2, 3, 4, 5, 6] rfl)
set_option maxHeartbeats 4000000 in
set_option maxRecDepth 100000 in
theorem lc_cost {p : Program} {l : Launch} {e : Env} {s : State} {m : MethodId} {below : List Frame} {meth : Method} {c : Code} {dC : Nat → ClassId} {dI : Nat → Nat → Nat} {cA cZ cJ : ClassId} {b L : Nat} {xs : Nat → Int32} {aH aF aFs aFf aFt aFn aFd aO aOn aT aTf aC aCn aCc aCr aCs aG aGh aGi aGc aGo aGr aR aRt aU aM aMh aMi aMc aMt aMn aMl aMs aMd aMe aMo aMw aMu : Nat} {Q : State → Prop} {N_ : Nat} {Rel : Int32 → (Nat → Int32) → Int32 → (Nat → Int32) → (Nat → Int32) → Int32 → Int32 → (Nat → Int32) → (Nat → Int32) → (Nat → Int32) → (Nat → Int32) → (Nat → Int32) → Int32 → (Nat → Int32) → Int32 → Int32 → Int32 → Int32 → (Nat → Int32) → (Nat → Int32) → (Nat → Int32) → (Nat → Int32) → (Nat → Int32) → (Nat → Int32) → (Nat → Int32) → Prop} {cells slots : Nat} {x4 : Int32} (h_1 : vp_in (x4 + 1) L) (h_2 : vp_in (x4 + 2) L) (h_3 : vp_in (x4 + 3) L) (fit : fit_cost N_ Rel) (O : lawOK p l s m c dC dI cA cZ cJ b L xs) (hc9 : cells + 2 ≤ 1074) (hs9 : slots + 12 ≤ 54482)
    (k : lawAt Rel p l e s m below meth c dC dI cA cZ cJ b aH aF aFs aFf aFt aFn aFd aO aOn aT aTf aC aCn aCc aCr aCs aG aGh aGi aGc aGo aGr aR aRt aU aM aMh aMi aMc aMt aMn aMl aMs aMd aMe aMo aMw aMu x4 (cells + 2) (slots + 12) 675 Q) : lawAt Rel p l e s m below meth c dC dI cA cZ cJ b aH aF aFs aFf aFt aFn aFd aO aOn aT aTf aC aCn aCc aCr aCs aG aGh aGi aGc aGo aGr aR aRt aU aM aMh aMi aMc aMt aMn aMl aMs aMd aMe aMo aMw aMu x4 cells slots 379 Q := by
  obtain ⟨hx, hb, hml, hown, hg, hX, hbl, hN, hT, hNc, hK, hl9⟩ := O
  have hA : ∀ q : Nat, s.heap.size ≤ q → (fun q : Nat => s.heap.size ≤ q) q := fun _ h => h
  have hbA : ¬ (fun q : Nat => s.heap.size ≤ q) b := Nat.not_le.mpr hbl
  intro vU vFW vFB vFE vFN vFL vFX vFY vFs vFf vFt vFn vFd vOE vOn vTS vTf vCF vCn vCc vCr vCs vGF vGS vGh vGi vGc vGo vGr vRL vRt vMT vMP vMK vMB vMD vME vMO vMF vMS vMX vMW vMh vMi vMc vMt vMn vMl vMs vMd vMe vMo vMw vMu H locs ls hR hP hD hS hl
  obtain ⟨ho1, ho2, hfit⟩ := fit vU vFW vFB vFE vFN vFL vFX vFY vFs vFf vFt vFn vFd vOE vOn vTS vTf vCF vCn vCc vCr vCs vGF vGS vGh vGi vGc vGo vGr vRL vRt vMT vMP vMK vMB vMD vME vMO vMF vMS vMX vMW vMh vMi vMc vMt vMn vMl vMs vMd vMe vMo vMw vMu (xs (x4 + 1).toNatClampNeg) (xs (x4 + 2).toNatClampNeg) (xs (x4 + 3).toNatClampNeg) hR
  refine lv_aload_n hx hb qd_law_379 rfl (lv_at hl 1 rfl) ?_
  refine lv_aload_n hx hb qd_law_380 rfl (lv_at hl 0 rfl) ?_
  refine lv_iload hx hb qd_law_381 (lv_at hl 4 rfl) ?_
  refine lv_iconst (v := 1) hx hb qd_law_383 (by decide) ?_
  refine lv_iadd hx hb qd_law_384 ?_
  refine va_sld hx hb hX hbl hbA hS h_1 qd_law_385 ?_
  refine lv_aload_n hx hb qd_law_386 rfl (lv_at hl 0 rfl) ?_
  refine lv_iload hx hb qd_law_387 (lv_at hl 4 rfl) ?_
  refine lv_iconst (v := 2) hx hb qd_law_389 (by decide) ?_
  refine lv_iadd hx hb qd_law_390 ?_
  refine va_sld hx hb hX hbl hbA hS h_2 qd_law_391 ?_
  refine lv_aload_n hx hb qd_law_392 rfl (lv_at hl 0 rfl) ?_
  refine lv_iload hx hb qd_law_393 (lv_at hl 4 rfl) ?_
  refine lv_iconst (v := 3) hx hb qd_law_395 (by decide) ?_
  refine lv_iadd hx hb qd_law_396 ?_
  refine va_sld hx hb hX hbl hbA hS h_3 qd_law_397 ?_
  refine lv_aload_n hx hb qd_law_398 rfl (lv_at hl 3 rfl) ?_
  refine xl_S (As := [.ref aH, .int (xs (x4 + 1).toNatClampNeg), .int (xs (x4 + 2).toNatClampNeg), .int (xs (x4 + 3).toNatClampNeg), .ref aU]) (rest := []) (rr := fun (u : Int32 × (Nat → Int64) × Int32 × (Nat → Int32) × (Nat → Int32) × (Nat → Int32) × (Nat → Int32)) => u.1) (w1 := fun (u : Int32 × (Nat → Int64) × Int32 × (Nat → Int32) × (Nat → Int32) × (Nat → Int32) × (Nat → Int32)) => [(aU, .inl (cJ, 1, .inr (.inl u.2.1))), (aH, .inr (6, [.ref aG, .ref aR, .ref aC, .ref aT, .ref aF, .ref aO])), (aC, .inr (0, [.ref aG, .ref aR, .ref aCn, .ref aCc, .ref aCr, .ref aCs, .int u.2.2.1])), (aCn, .inl (cA, 5760, .inl u.2.2.2.1)), (aCc, .inl (cA, 5760, .inl u.2.2.2.2.1)), (aCr, .inl (cA, 600, .inl u.2.2.2.2.2.1)), (aCs, .inl (cA, 600, .inl u.2.2.2.2.2.2)), (aG, .inr (2, [.ref aGh, .ref aGi, .ref aGc, .ref aGo, .ref aGr, .int vGF, .int vGS])), (aGh, .inl (cA, 24, .inl vGh)), (aGi, .inl (cA, 72, .inl vGi)), (aGc, .inl (cA, 24, .inl vGc)), (aGo, .inl (cA, 24, .inl vGo)), (aR, .inr (4, [.ref aRt, .int vRL])), (aRt, .inl (cA, 24, .inl vRt))]) (w2 := fun (u : Int32 × (Nat → Int64) × Int32 × (Nat → Int32) × (Nat → Int32) × (Nat → Int32) × (Nat → Int32)) => (lwW cA cZ cJ aH aF aFs aFf aFt aFn aFd aO aOn aT aTf aC aCn aCc aCr aCs aG aGh aGi aGc aGo aGr aR aRt aU aM aMh aMi aMc aMt aMn aMl aMs aMd aMe aMo aMw aMu u.2.1 vFW vFB vFE vFN vFL vFX vFY vFs vFf vFt vFn vFd vOE vOn vTS vTf u.2.2.1 u.2.2.2.1 u.2.2.2.2.1 u.2.2.2.2.2.1 u.2.2.2.2.2.2 vGF vGS vGh vGi vGc vGo vGr vRL vRt vMT vMP vMK vMB vMD vME vMO vMF vMS vMX vMW vMh vMi vMc vMt vMn vMl vMs vMd vMe vMo vMw vMu)) ⟨hx, hb, hml, hown, hg⟩ (c_L_cost l hl9 dC dI cA cJ N_ aU aH aF aO aT aC aCn aCc aCr aCs aG aGh aGi aGc aGo aGr aR aRt _ vU vCF vCn vCc vCr vCs vGF vGS vGh vGi vGc vGo vRL vRt (xs (x4 + 1).toNatClampNeg) (xs (x4 + 2).toNatClampNeg) (xs (x4 + 3).toNatClampNeg) ho1) (vx_cwSW 5 hg (q_gS mw_442 mw_443 mw_0 mw_444) rfl rfl rfl qh_L_cost.2 ⟨Nat.le_of_ble_eq_true rfl, Nat.le_of_ble_eq_true rfl⟩) hN hT hNc (hK.sub [0, 2] rfl) hP hD hS hA [24, 0, 11, 12, 13, 14, 15, 16, 17, 18, 19, 20, 22, 23] [1, 2, 3, 4, 5, 6, 7, 8, 9, 10, 21, 25, 26, 27, 28, 29, 30, 31, 32, 33, 34, 35, 36, 37] rfl rfl (by decide) (by decide) (by decide) [25, 0, 1, 2, 3, 4, 5, 6, 7, 8, 9, 26, 27, 28, 29, 30, 31, 32, 33, 34, 35, 10, 36, 37, 24, 11, 12, 13, 14, 15, 16, 17, 18, 19, 20, 21, 22, 23] (fun _ => rfl) (by decide) rfl hl.1 rfl (Nat.le_of_ble_eq_true rfl) qd_law_399 ⟨by show cells + 1 ≤ 1074; omega, by show slots + 6 ≤ 54482; omega⟩ (fun u H locs eu hP hD hS => ?_)
  have hfit := (bd_eq eu).mp hfit
  have hP : va_P (dC, dI) vwCl (lwW cA cZ cJ aH aF aFs aFf aFt aFn aFd aO aOn aT aTf aC aCn aCc aCr aCs aG aGh aGi aGc aGo aGr aR aRt aU aM aMh aMi aMc aMt aMn aMl aMs aMd aMe aMo aMw aMu u.2.1 vFW vFB vFE vFN vFL vFX vFY vFs vFf vFt vFn vFd vOE vOn vTS vTf u.2.2.1 u.2.2.2.1 u.2.2.2.2.1 u.2.2.2.2.2.1 u.2.2.2.2.2.2 vGF vGS vGh vGi vGc vGo vGr vRL vRt vMT vMP vMK vMB vMD vME vMO vMF vMS vMX vMW vMh vMi vMc vMt vMn vMl vMs vMd vMe vMo vMw vMu) H := hP
  have hD : va_D (fun q : Nat => s.heap.size ≤ q) (lwW cA cZ cJ aH aF aFs aFf aFt aFn aFd aO aOn aT aTf aC aCn aCc aCr aCs aG aGh aGi aGc aGo aGr aR aRt aU aM aMh aMi aMc aMt aMn aMl aMs aMd aMe aMo aMw aMu u.2.1 vFW vFB vFE vFN vFL vFX vFY vFs vFf vFt vFn vFd vOE vOn vTS vTf u.2.2.1 u.2.2.2.1 u.2.2.2.2.1 u.2.2.2.2.2.1 u.2.2.2.2.2.2 vGF vGS vGh vGi vGc vGo vGr vRL vRt vMT vMP vMK vMB vMD vME vMO vMF vMS vMX vMW vMh vMi vMc vMt vMn vMl vMs vMd vMe vMo vMw vMu) := hD
  refine lv_istore (lv' := [(5, .int u.1), (0, .ref b), (1, .ref aH), (2, .ref aM), (3, .ref aU), (4, .int x4)]) hx hb qd_law_402 hl (by decide) rfl (fun ls hl => ?_)
  refine lv_aload_n hx hb qd_law_404 rfl (lv_at hl 3 rfl) ?_
  refine lv_aload_n hx hb qd_law_405 rfl (lv_at hl 1 rfl) ?_
  refine lv_iload hx hb qd_law_406 (lv_at hl 5 rfl) ?_
  refine lv_iconst (v := 1) hx hb qd_law_408 (by decide) ?_
  refine lv_iadd hx hb qd_law_409 ?_
  refine va_sld hx hb hX hbl hbA hS h_1 qd_law_410 ?_
  refine lv_aload_n hx hb qd_law_411 rfl (lv_at hl 1 rfl) ?_
  refine lv_iload hx hb qd_law_412 (lv_at hl 5 rfl) ?_
  refine lv_iconst (v := 2) hx hb qd_law_414 (by decide) ?_
  refine lv_iadd hx hb qd_law_415 ?_
  refine va_sld hx hb hX hbl hbA hS h_2 qd_law_416 ?_
  refine lv_aload_n hx hb qd_law_417 rfl (lv_at hl 1 rfl) ?_
  refine lv_iload hx hb qd_law_418 (lv_at hl 5 rfl) ?_
  refine lv_iconst (v := 3) hx hb qd_law_420 (by decide) ?_
  refine lv_iadd hx hb qd_law_421 ?_
  refine va_sld hx hb hX hbl hbA hS h_3 qd_law_422 ?_
  refine xm_Vi (As := [.int (xs (x4 + 1).toNatClampNeg), .int (xs (x4 + 2).toNatClampNeg), .int (xs (x4 + 3).toNatClampNeg)]) (rest := []) (w1 := fun (w : Int32 × Int32 × Int32 × Int32 × Int32 × (Nat → Int32) × (Nat → Int32)) => [(aM, .inr (7, [.int w.2.1, .int vMP, .ref aMh, .ref aMi, .ref aMc, .int vMK, .ref aMt, .int w.2.2.1, .ref aMn, .ref aMl, .ref aMs, .int vMD, .ref aMd, .int vME, .ref aMe, .int vMO, .ref aMo, .int w.2.2.2.1, .int w.2.2.2.2.1, .ref aMw, .ref aMu, .int vMX, .int vMW])), (aMh, .inl (cA, 24, .inl vMh)), (aMi, .inl (cA, 72, .inl vMi)), (aMc, .inl (cA, 24, .inl vMc)), (aMt, .inl (cA, 24, .inl vMt)), (aMn, .inl (cA, 6250, .inl w.2.2.2.2.2.1)), (aMl, .inl (cA, 6250, .inl w.2.2.2.2.2.2))]) (w2 := fun (w : Int32 × Int32 × Int32 × Int32 × Int32 × (Nat → Int32) × (Nat → Int32)) => (lwW cA cZ cJ aH aF aFs aFf aFt aFn aFd aO aOn aT aTf aC aCn aCc aCr aCs aG aGh aGi aGc aGo aGr aR aRt aU aM aMh aMi aMc aMt aMn aMl aMs aMd aMe aMo aMw aMu u.2.1 vFW vFB vFE vFN vFL vFX vFY vFs vFf vFt vFn vFd vOE vOn vTS vTf u.2.2.1 u.2.2.2.1 u.2.2.2.2.1 u.2.2.2.2.2.1 u.2.2.2.2.2.2 vGF vGS vGh vGi vGc vGo vGr vRL vRt w.2.1 vMP vMK w.2.2.1 vMD vME vMO w.2.2.2.1 w.2.2.2.2.1 vMX vMW vMh vMi vMc vMt w.2.2.2.2.2.1 w.2.2.2.2.2.2 vMs vMd vMe vMo vMw vMu)) ⟨hx, hb, hml, hown, hg⟩ (c_M_cost l dC dI cA cZ N_ aM aMh aMi aMc aMt aMn aMl aMs aMd aMe aMo aMw aMu _ vMT vMP vMK vMB vMD vME vMO vMF vMS vMX vMW vMh vMi vMc vMt vMn vMl (xs (x4 + 1).toNatClampNeg) (xs (x4 + 2).toNatClampNeg) (xs (x4 + 3).toNatClampNeg) ho2) (cwV 3 hg (q_gV mw_705 mw_706 mw_707 mw_8 mw_708) rfl rfl rfl qh_M_cost ⟨Nat.le_of_ble_eq_true rfl, Nat.le_of_ble_eq_true rfl⟩) hN (hK.sub [0, 1] rfl) hP hD hS hA [25, 26, 27, 28, 29, 30, 31] [0, 1, 2, 3, 4, 5, 6, 7, 8, 9, 10, 11, 12, 13, 14, 15, 16, 17, 18, 19, 20, 21, 22, 23, 24, 32, 33, 34, 35, 36, 37] rfl rfl (by decide) (by decide) (by decide) [0, 1, 2, 3, 4, 5, 6, 7, 8, 9, 10, 11, 12, 13, 14, 15, 16, 17, 18, 19, 20, 21, 22, 23, 24, 31, 32, 33, 34, 35, 36, 37, 25, 26, 27, 28, 29, 30] (fun _ => rfl) (by decide) 0 7 rfl rfl rfl hl.1 rfl (Nat.le_of_ble_eq_true rfl) qd_law_423 ⟨by show cells + 1 + 0 ≤ 1074; omega, by show slots + 6 + 0 ≤ 54482; omega⟩ (fun w H locs ew hP hD hS => ?_)
  have hfit := (bd_eq ew).mp hfit
  have hP : va_P (dC, dI) vwCl (lwW cA cZ cJ aH aF aFs aFf aFt aFn aFd aO aOn aT aTf aC aCn aCc aCr aCs aG aGh aGi aGc aGo aGr aR aRt aU aM aMh aMi aMc aMt aMn aMl aMs aMd aMe aMo aMw aMu u.2.1 vFW vFB vFE vFN vFL vFX vFY vFs vFf vFt vFn vFd vOE vOn vTS vTf u.2.2.1 u.2.2.2.1 u.2.2.2.2.1 u.2.2.2.2.2.1 u.2.2.2.2.2.2 vGF vGS vGh vGi vGc vGo vGr vRL vRt w.2.1 vMP vMK w.2.2.1 vMD vME vMO w.2.2.2.1 w.2.2.2.2.1 vMX vMW vMh vMi vMc vMt w.2.2.2.2.2.1 w.2.2.2.2.2.2 vMs vMd vMe vMo vMw vMu) H := hP
  have hD : va_D (fun q : Nat => s.heap.size ≤ q) (lwW cA cZ cJ aH aF aFs aFf aFt aFn aFd aO aOn aT aTf aC aCn aCc aCr aCs aG aGh aGi aGc aGo aGr aR aRt aU aM aMh aMi aMc aMt aMn aMl aMs aMd aMe aMo aMw aMu u.2.1 vFW vFB vFE vFN vFL vFX vFY vFs vFf vFt vFn vFd vOE vOn vTS vTf u.2.2.1 u.2.2.2.1 u.2.2.2.2.1 u.2.2.2.2.2.1 u.2.2.2.2.2.2 vGF vGS vGh vGi vGc vGo vGr vRL vRt w.2.1 vMP vMK w.2.2.1 vMD vME vMO w.2.2.2.1 w.2.2.2.2.1 vMX vMW vMh vMi vMc vMt w.2.2.2.2.2.1 w.2.2.2.2.2.2 vMs vMd vMe vMo vMw vMu) := hD
  refine lv_istore (lv' := [(6, .int w.1), (5, .int u.1), (0, .ref b), (1, .ref aH), (2, .ref aM), (3, .ref aU), (4, .int x4)]) hx hb qd_law_426 hl (by decide) rfl (fun ls hl => ?_)
  refine lv_aload_n hx hb qd_law_428 rfl (lv_at hl 4 rfl) ?_
  refine xc_V (As := []) (rest := []) ⟨hx, hb, hml, hown, hg⟩ (c_M_thrown l dC dI cA cZ aM aMh aMi aMc aMt aMn aMl aMs aMd aMe aMo aMw aMu w.2.1 vMP vMK w.2.2.1 vMD vME vMO w.2.2.2.1 w.2.2.2.2.1 vMX vMW) (cwV 0 hg (q_gV mw_621 mw_622 mw_623 mw_8 mw_624) rfl rfl rfl qh_M_thrown ⟨Nat.le_of_ble_eq_true rfl, Nat.le_of_ble_eq_true rfl⟩) hN (hK.sub [0, 1] rfl) hP [25] rfl 0 7 rfl rfl rfl hl.1 rfl (Nat.le_of_ble_eq_true rfl) qd_law_429 ⟨by show cells + 1 + 0 ≤ 1074; omega, by show slots + 6 + 0 ≤ 54482; omega⟩ ?_
  refine lv_iload hx hb qd_law_432 (lv_at hl 1 rfl) ?_
  refine lv_icmp_eq (tgt := 439) hx hb qd_law_434 (by decide) (fun _ => ?_) (fun q9 => absurd hfit.1 q9)
  refine lv_iload hx hb qd_law_439 (lv_at hl 1 rfl) ?_
  refine lv_if_ne (tgt := 456) hx hb qd_law_441 (by decide) (fun _ => ?_) (fun q8 => ?_)
  · skip
    refine lv_goto (tgt := 675) hx hb qd_law_456 (by decide) ?_
    refine W.widen (k := cells + 2) (n := slots + 12) (by omega) (by omega) ?_
    exact k u.2.1 vFW vFB vFE vFN vFL vFX vFY vFs vFf vFt vFn vFd vOE vOn vTS vTf u.2.2.1 u.2.2.2.1 u.2.2.2.2.1 u.2.2.2.2.2.1 u.2.2.2.2.2.2 vGF vGS vGh vGi vGc vGo vGr vRL vRt w.2.1 vMP vMK w.2.2.1 vMD vME vMO w.2.2.2.1 w.2.2.2.2.1 vMX vMW vMh vMi vMc vMt w.2.2.2.2.2.1 w.2.2.2.2.2.2 vMs vMd vMe vMo vMw vMu H locs ls hfit.2.2 hP hD hS (lv_sub hl [2, 3, 4, 5, 6] rfl)
  refine lv_aload_n hx hb qd_law_444 rfl (lv_at hl 5 rfl) ?_
  refine lv_iconst (v := 0) hx hb qd_law_445 (by decide) ?_
  refine va_lald hx hb hK hP 24 2 rfl rfl (vp_in_iff.mpr ⟨by decide, by decide⟩) qd_law_446 ?_
  refine lv_iload hx hb qd_law_447 (lv_at hl 0 rfl) ?_
  refine lv_i2l hx hb qd_law_449 rfl ?_
  refine W.lcmp hx hb qd_law_450 ?_
  refine lv_if_eq (tgt := 456) hx hb qd_law_451 (by decide) (fun _ => ?_) (fun q7 => absurd (lw_same (hfit.2.1 q8)) q7)
  refine lv_goto (tgt := 675) hx hb qd_law_456 (by decide) ?_
  refine W.widen (k := cells + 2) (n := slots + 12) (by omega) (by omega) ?_
  exact k u.2.1 vFW vFB vFE vFN vFL vFX vFY vFs vFf vFt vFn vFd vOE vOn vTS vTf u.2.2.1 u.2.2.2.1 u.2.2.2.2.1 u.2.2.2.2.2.1 u.2.2.2.2.2.2 vGF vGS vGh vGi vGc vGo vGr vRL vRt w.2.1 vMP vMK w.2.2.1 vMD vME vMO w.2.2.2.1 w.2.2.2.2.1 vMX vMW vMh vMi vMc vMt w.2.2.2.2.2.1 w.2.2.2.2.2.2 vMs vMd vMe vMo vMw vMu H locs ls hfit.2.2 hP hD hS (lv_sub hl [2, 3, 4, 5, 6] rfl)
