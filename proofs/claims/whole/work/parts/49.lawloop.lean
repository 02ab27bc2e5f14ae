/-! THE CLAIM OUT OF ONE WALK OF THE LAW'S BODY. Your part is whole_start (and what it stands on); all else here is the same for every law, but numbers. -/
def R_law : String := "ForestHouseLaw"
def lw_P (b : Addr) (xs : List Int32) (args : Array Value) (s : State) : Prop := args = #[.ref b] ∧ s.IntsAt b xs ∧ xs.length ≤ 3072 ∧ (Jvm.Cond.and given_1 narrow_1).before args s = true
def lw_Q (_ : Array Value) (s : State) (o : Outcome) (t : State) : Prop := o = .returned (some (.int 1)) ∧ Framed s o t [] 1074 54482
def lw_Z (below : List Frame) (a : Array Value) (s : State) : State → Prop := fun t => ∃ o, t.status = .running ∧ Ended t below o ∧ lw_Q a s o t
/-- the law's own end, with 1 on the stack, nothing written that was there before, its room as the claim has it -/
theorem lw_ret {p : Program} {l : Launch} {e : Env} {s : State} {m : MethodId} {below : List Frame} {meth : Method} {c : Code} {b : Nat} (hx : p.tables.exec = Jvm.exec) (hb : c.code = code) (hr : meth.sig.returnType = ret) (hlocks : meth.locks = false) {pc : Nat} {H : Heap} {ls : Array Slot} (hdg : decode code pc = .ok (.ireturn, 1)) : W p l e room_1 s m #[Value.ref b] below meth c H [] 1074 54482 (lw_Z below #[Value.ref b] s) (F0 m pc ls [.int 1]) := by
  intro T hT X
  obtain ⟨fs, hret, hrun, hended, hW, hframe⟩ := X.leave (v := some (.int 1)) (hlocks := hlocks) (fun h => by rw [hr] at h; cases h)
  have hmeth' : T.vm.method? m = some meth := X.method'
  refine ⟨T.setFrames fs, ?_, .returned (some (.int 1)), hrun, hended, rfl, ⟨_, rfl⟩, hW, hframe⟩
  jvm_step X.here [X.here.top, hx, hb, hdg, hmeth', hr, ret, narrow_b1]
  (try refine ⟨rfl, ?_⟩); (try refine ⟨rfl, ?_⟩)
  first | (intro acts; rw [hret _ acts rfl rfl rfl]) | rw [hret _ _ rfl rfl rfl]
  exact Steps.refl _
/-- what holds at the law's entry: the machine, the code, the tables' words (any of lw_tbl by 'hts w (by decide +kernel)'), the script of L ints xs at the cell b, what the Statement gives of the start (any of its parts by flat_of_before) -/
def lw_At (p : Program) (s : State) (m : MethodId) (meth : Method) (c : Code) (b L : Nat) (xs : Nat → Int32) : Prop :=
  p.tables.exec = Jvm.exec ∧ c.code = code ∧ meth.sig.returnType = ret ∧ c.maxLocals = 7 ∧ s.vm.findClass R_law = some m.cls ∧ (∀ w ∈ lw_tbl, w.before #[Value.ref b] s = true) ∧ va_X b L xs s s.heap ∧ b < s.heap.size ∧ meth.locks = false ∧ (Jvm.Cond.and given_1 narrow_1).before #[Value.ref b] s = true
def lawFits (N_ : Nat) (Rel : Int32 → (Nat → Int32) → Int32 → (Nat → Int32) → (Nat → Int32) → Int32 → Int32 → (Nat → Int32) → (Nat → Int32) → (Nat → Int32) → (Nat → Int32) → (Nat → Int32) → Int32 → (Nat → Int32) → Int32 → Int32 → Int32 → Int32 → (Nat → Int32) → (Nat → Int32) → (Nat → Int32) → (Nat → Int32) → (Nat → Int32) → (Nat → Int32) → (Nat → Int32) → Prop) : Prop := fit_clear N_ Rel ∧ fit_production N_ Rel ∧ fit_put N_ Rel ∧ fit_cut N_ Rel ∧ fit_count N_ Rel ∧ fit_cost N_ Rel ∧ fit_tree N_ Rel ∧ fit_node N_ Rel ∧ fit_next N_ Rel
theorem x_c {k : Int32} {n : Int} (h : k.toInt = n) {t : Int32} (q : ¬ t = k) : ¬ t.toInt = n := fun e => q (Int32.toInt_inj.mp (e.trans h.symm))
set_option maxHeartbeats 4000000 in
set_option maxRecDepth 100000 in
theorem law_loop {p : Program} {l : Launch} {e : Env} {s : State} {m : MethodId} {below : List Frame} {meth : Method} {c : Code} {dC : Nat → ClassId} {dI : Nat → Nat → Nat} {cA cZ cJ : ClassId} {b L : Nat} {xs : Nat → Int32} {aH aF aFs aFf aFt aFn aFd aO aOn aT aTf aC aCn aCc aCr aCs aG aGh aGi aGc aGo aGr aR aRt aU aM aMh aMi aMc aMt aMn aMl aMs aMd aMe aMo aMw aMu : Nat} {N_ : Nat} {Rel : Int32 → (Nat → Int32) → Int32 → (Nat → Int32) → (Nat → Int32) → Int32 → Int32 → (Nat → Int32) → (Nat → Int32) → (Nat → Int32) → (Nat → Int32) → (Nat → Int32) → Int32 → (Nat → Int32) → Int32 → Int32 → Int32 → Int32 → (Nat → Int32) → (Nat → Int32) → (Nat → Int32) → (Nat → Int32) → (Nat → Int32) → (Nat → Int32) → (Nat → Int32) → Prop} (fits : lawFits N_ Rel) (O : lawOK p l s m c dC dI cA cZ cJ b L xs) (hL : L ≤ 3072) (hr : meth.sig.returnType = ret) (hlocks : meth.locks = false) : ∀ (n j : Nat) (x4 : Int32), x4.toInt = 6 * (j : Int) → j ≤ 512 → 512 < j + n → lawAt Rel p l e s m below meth c dC dI cA cZ cJ b aH aF aFs aFf aFt aFn aFd aO aOn aT aTf aC aCn aCc aCr aCs aG aGh aGi aGc aGo aGr aR aRt aU aM aMh aMi aMc aMt aMn aMl aMs aMd aMe aMo aMw aMu x4 (38 + 2 * j) (46218 + 12 * j) 23 (lw_Z below #[Value.ref b] s) := by
  intro n
  induction n with
  | zero => intro j x4 h1 h2 h3; omega
  | succ n ih =>
    intro j x4 h4 hj hn
    have hk : j < 512 → lawAt Rel p l e s m below meth c dC dI cA cZ cJ b aH aF aFs aFf aFt aFn aFd aO aOn aT aTf aC aCn aCc aCr aCs aG aGh aGi aGc aGo aGr aR aRt aU aM aMh aMi aMc aMt aMn aMl aMs aMd aMe aMo aMw aMu x4 (38 + 2 * j + 2) (46218 + 12 * j + 12) 675 (lw_Z below #[Value.ref b] s) := by
      obtain ⟨hx, hb, hml, hown, hg, hX, hbl, hN, hT, hNc, hK, hl9⟩ := O
      intro hj5 vU vFW vFB vFE vFN vFL vFX vFY vFs vFf vFt vFn vFd vOE vOn vTS vTf vCF vCn vCc vCr vCs vGF vGS vGh vGi vGc vGo vGr vRL vRt vMT vMP vMK vMB vMD vME vMO vMF vMS vMX vMW vMh vMi vMc vMt vMn vMl vMs vMd vMe vMo vMw vMu H locs ls hR hP hD hS hl
      refine lv_iinc (v := x4 + 6) (lv' := [(4, .int (x4 + 6)), (0, .ref b), (1, .ref aH), (2, .ref aM), (3, .ref aU)]) hx hb qd_law_675 hl (k := 4) rfl (congrArg (fun z => _ + z) (by decide)) (by decide) rfl (fun ls hl => ?_)
      refine lv_goto (tgt := 23) hx hb qd_law_678 (by decide) ?_
      refine W.widen (k := 38 + 2 * (j + 1)) (n := 46218 + 12 * (j + 1)) (by omega) (by omega) ?_
      have e6 : (6 : Int32).toInt = 6 := by decide
      have h6 : (x4 + 6).toInt = 6 * ((j + 1 : Nat) : Int) := by
        rw [x_add (by omega) (by omega), h4, e6]; omega
      exact ih (j + 1) (x4 + 6) h6 (by omega) (by omega) vU vFW vFB vFE vFN vFL vFX vFY vFs vFf vFt vFn vFd vOE vOn vTS vTf vCF vCn vCc vCr vCs vGF vGS vGh vGi vGc vGo vGr vRL vRt vMT vMP vMK vMB vMD vME vMO vMF vMS vMX vMW vMh vMi vMc vMt vMn vMl vMs vMd vMe vMo vMw vMu H locs ls hR hP hD hS (lv_sub hl [1, 2, 3, 4, 0] rfl)
    intro vU vFW vFB vFE vFN vFL vFX vFY vFs vFf vFt vFn vFd vOE vOn vTS vTf vCF vCn vCc vCr vCs vGF vGS vGh vGi vGc vGo vGr vRL vRt vMT vMP vMK vMB vMD vME vMO vMF vMS vMX vMW vMh vMi vMc vMt vMn vMl vMs vMd vMe vMo vMw vMu H locs ls hR hP hD hS hl
    obtain ⟨hx, hb, hml, hown, hg, hX, hbl, hN, hT, hNc, hK, hl9⟩ := id O
    have hbA : ¬ (fun q : Nat => s.heap.size ≤ q) b := Nat.not_le.mpr hbl
    refine lv_iload hx hb qd_law_23 (lv_at hl 4 rfl) ?_
    refine lv_aload_n hx hb qd_law_25 rfl (lv_at hl 0 rfl) ?_
    refine va_slen hx hb hX hbl hbA hS qd_law_26 ?_
    refine lv_bipush (v := 6) hx hb qd_law_27 (by decide) ?_
    refine lv_isub hx hb qd_law_29 ?_
    have e6 : (6 : Int32).toInt = 6 := by decide
    have eL : (Int32.ofNat L).toInt = (L : Int) := nI_toInt (by omega)
    have eS : (Int32.ofNat L - 6).toInt = (L : Int) - 6 := by rw [x_sub (by omega) (by omega), eL, e6]
    refine lv_icmp_gt (tgt := 681) hx hb qd_law_30 (by decide) (fun _ => ?_) (fun q9 => ?_)
    · refine lv_iconst (v := 1) hx hb qd_law_681 (by decide) ?_
      refine va_forget (fun q hq => hS.2.2 q hq) ?_
      refine W.widen (k := 1074) (n := 54482) (by omega) (by omega) ?_
      exact lw_ret hx hb hr hlocks qd_law_682
    have q8 := x_nlt q9
    rw [eS] at q8
    have h_0 : vp_in x4 L := vp_in_iff.mpr (by omega)
    have e9 : (1 : Int32).toInt = 1 := by decide
    have f9 := x_add (a := x4) (b := 1) (by omega) (by omega)
    have h_1 : vp_in (x4 + 1) L := vp_in_iff.mpr (by omega)
    have e9 : (2 : Int32).toInt = 2 := by decide
    have f9 := x_add (a := x4) (b := 2) (by omega) (by omega)
    have h_2 : vp_in (x4 + 2) L := vp_in_iff.mpr (by omega)
    have e9 : (3 : Int32).toInt = 3 := by decide
    have f9 := x_add (a := x4) (b := 3) (by omega) (by omega)
    have h_3 : vp_in (x4 + 3) L := vp_in_iff.mpr (by omega)
    have e9 : (4 : Int32).toInt = 4 := by decide
    have f9 := x_add (a := x4) (b := 4) (by omega) (by omega)
    have h_4 : vp_in (x4 + 4) L := vp_in_iff.mpr (by omega)
    have e9 : (5 : Int32).toInt = 5 := by decide
    have f9 := x_add (a := x4) (b := 5) (by omega) (by omega)
    have h_5 : vp_in (x4 + 5) L := vp_in_iff.mpr (by omega)
    refine lv_aload_n hx hb qd_law_33 rfl (lv_at hl 0 rfl) ?_
    refine lv_iload hx hb qd_law_34 (lv_at hl 4 rfl) ?_
    refine va_sld hx hb hX hbl hbA hS h_0 qd_law_36 ?_
    refine lv_bipush (v := 15) hx hb qd_law_37 (by decide) ?_
    refine lv_iand hx hb qd_law_39 ?_
    refine lv_topi (fun t et => ?_)
    by_cases q0 : t = 0
    · subst q0
      refine lv_tableIn (tgt := 92) hx hb qd_law_40 (by decide) (by decide) rfl (by decide) ?_
      exact lc_clear (fits.1) O (by omega) (by omega) (hk (by omega)) vU vFW vFB vFE vFN vFL vFX vFY vFs vFf vFt vFn vFd vOE vOn vTS vTf vCF vCn vCc vCr vCs vGF vGS vGh vGi vGc vGo vGr vRL vRt vMT vMP vMK vMB vMD vME vMO vMF vMS vMX vMW vMh vMi vMc vMt vMn vMl vMs vMd vMe vMo vMw vMu H locs ls hR hP hD hS hl
    by_cases q1 : t = 1
    · subst q1
      refine lv_tableIn (tgt := 103) hx hb qd_law_40 (by decide) (by decide) rfl (by decide) ?_
      exact lc_production h_1 h_2 h_3 h_4 h_5 (fits.2.1) O (by omega) (by omega) (hk (by omega)) vU vFW vFB vFE vFN vFL vFX vFY vFs vFf vFt vFn vFd vOE vOn vTS vTf vCF vCn vCc vCr vCs vGF vGS vGh vGi vGc vGo vGr vRL vRt vMT vMP vMK vMB vMD vME vMO vMF vMS vMX vMW vMh vMi vMc vMt vMn vMl vMs vMd vMe vMo vMw vMu H locs ls hR hP hD hS hl
    by_cases q2 : t = 2
    · subst q2
      refine lv_tableIn (tgt := 207) hx hb qd_law_40 (by decide) (by decide) rfl (by decide) ?_
      exact lc_put h_1 (fits.2.2.1) O (by omega) (by omega) (hk (by omega)) vU vFW vFB vFE vFN vFL vFX vFY vFs vFf vFt vFn vFd vOE vOn vTS vTf vCF vCn vCc vCr vCs vGF vGS vGh vGi vGc vGo vGr vRL vRt vMT vMP vMK vMB vMD vME vMO vMF vMS vMX vMW vMh vMi vMc vMt vMn vMl vMs vMd vMe vMo vMw vMu H locs ls hR hP hD hS hl
    by_cases q3 : t = 3
    · subst q3
      refine lv_tableIn (tgt := 263) hx hb qd_law_40 (by decide) (by decide) rfl (by decide) ?_
      exact lc_cut h_1 (fits.2.2.2.1) O (by omega) (by omega) (hk (by omega)) vU vFW vFB vFE vFN vFL vFX vFY vFs vFf vFt vFn vFd vOE vOn vTS vTf vCF vCn vCc vCr vCs vGF vGS vGh vGi vGc vGo vGr vRL vRt vMT vMP vMK vMB vMD vME vMO vMF vMS vMX vMW vMh vMi vMc vMt vMn vMl vMs vMd vMe vMo vMw vMu H locs ls hR hP hD hS hl
    by_cases q4 : t = 4
    · subst q4
      refine lv_tableIn (tgt := 299) hx hb qd_law_40 (by decide) (by decide) rfl (by decide) ?_
      exact lc_count h_1 h_2 h_3 (fits.2.2.2.2.1) O (by omega) (by omega) (hk (by omega)) vU vFW vFB vFE vFN vFL vFX vFY vFs vFf vFt vFn vFd vOE vOn vTS vTf vCF vCn vCc vCr vCs vGF vGS vGh vGi vGc vGo vGr vRL vRt vMT vMP vMK vMB vMD vME vMO vMF vMS vMX vMW vMh vMi vMc vMt vMn vMl vMs vMd vMe vMo vMw vMu H locs ls hR hP hD hS hl
    by_cases q5 : t = 5
    · subst q5
      refine lv_tableIn (tgt := 379) hx hb qd_law_40 (by decide) (by decide) rfl (by decide) ?_
      exact lc_cost h_1 h_2 h_3 (fits.2.2.2.2.2.1) O (by omega) (by omega) (hk (by omega)) vU vFW vFB vFE vFN vFL vFX vFY vFs vFf vFt vFn vFd vOE vOn vTS vTf vCF vCn vCc vCr vCs vGF vGS vGh vGi vGc vGo vGr vRL vRt vMT vMP vMK vMB vMD vME vMO vMF vMS vMX vMW vMh vMi vMc vMt vMn vMl vMs vMd vMe vMo vMw vMu H locs ls hR hP hD hS hl
    by_cases q6 : t = 6
    · subst q6
      refine lv_tableIn (tgt := 459) hx hb qd_law_40 (by decide) (by decide) rfl (by decide) ?_
      exact lc_tree h_1 h_2 h_3 h_4 (fits.2.2.2.2.2.2.1) O (by omega) (by omega) (hk (by omega)) vU vFW vFB vFE vFN vFL vFX vFY vFs vFf vFt vFn vFd vOE vOn vTS vTf vCF vCn vCc vCr vCs vGF vGS vGh vGi vGc vGo vGr vRL vRt vMT vMP vMK vMB vMD vME vMO vMF vMS vMX vMW vMh vMi vMc vMt vMn vMl vMs vMd vMe vMo vMw vMu H locs ls hR hP hD hS hl
    by_cases q7 : t = 7
    · subst q7
      refine lv_tableIn (tgt := 551) hx hb qd_law_40 (by decide) (by decide) rfl (by decide) ?_
      exact lc_node h_1 h_2 (fits.2.2.2.2.2.2.2.1) O (by omega) (by omega) (hk (by omega)) vU vFW vFB vFE vFN vFL vFX vFY vFs vFf vFt vFn vFd vOE vOn vTS vTf vCF vCn vCc vCr vCs vGF vGS vGh vGi vGc vGo vGr vRL vRt vMT vMP vMK vMB vMD vME vMO vMF vMS vMX vMW vMh vMi vMc vMt vMn vMl vMs vMd vMe vMo vMw vMu H locs ls hR hP hD hS hl
    by_cases q8 : t = 8
    · subst q8
      refine lv_tableIn (tgt := 619) hx hb qd_law_40 (by decide) (by decide) rfl (by decide) ?_
      exact lc_next h_1 (fits.2.2.2.2.2.2.2.2) O (by omega) (by omega) (hk (by omega)) vU vFW vFB vFE vFN vFL vFX vFY vFs vFf vFt vFn vFd vOE vOn vTS vTf vCF vCn vCc vCr vCs vGF vGS vGh vGi vGc vGo vGr vRL vRt vMT vMP vMK vMB vMD vME vMO vMF vMS vMX vMW vMh vMi vMc vMt vMn vMl vMs vMd vMe vMo vMw vMu H locs ls hR hP hD hS hl
    have q0 := x_c (n := 0) (by decide) q0
    have q1 := x_c (n := 1) (by decide) q1
    have q2 := x_c (n := 2) (by decide) q2
    have q3 := x_c (n := 3) (by decide) q3
    have q4 := x_c (n := 4) (by decide) q4
    have q5 := x_c (n := 5) (by decide) q5
    have q6 := x_c (n := 6) (by decide) q6
    have q7 := x_c (n := 7) (by decide) q7
    have q8 := x_c (n := 8) (by decide) q8
    refine lv_tableOut (tgt := 675) hx hb qd_law_40 (by omega) (by decide) ?_
    refine W.widen (k := 38 + 2 * j + 2) (n := 46218 + 12 * j + 12) (by omega) (by omega) ?_
    exact hk (by omega) vU vFW vFB vFE vFN vFL vFX vFY vFs vFf vFt vFn vFd vOE vOn vTS vTf vCF vCn vCc vCr vCs vGF vGS vGh vGi vGc vGo vGr vRL vRt vMT vMP vMK vMB vMD vME vMO vMF vMS vMX vMW vMh vMi vMc vMt vMn vMl vMs vMd vMe vMo vMw vMu H locs ls hR hP hD hS hl
