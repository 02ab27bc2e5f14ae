def trR (R : Nat × (Nat → Int32)) (T B : Int32) (Mn Ml : Nat → Int32) (u : Int32 × Int32 × Int32 × Int32 × Int32 × Int32 × Int32 × Int32 × (Nat → Int32) × (Nat → Int32) × (Nat → Int32) × (Nat → Int32) × (Nat → Int32)) : Prop := u.1 = nI R.1 ∧ u.2.1 = T ∧ u.2.2.1 = B ∧ u.2.2.2.1 = nI R.1 ∧ u.2.2.2.2.2.2.2.2.1 = Mn ∧ u.2.2.2.2.2.2.2.2.2.1 = Ml ∧ ∀ y, y < 4 * R.1 → u.2.2.2.2.2.2.2.2.2.2.1 y = R.2 y
theorem q_t151 {N_ c : Nat} {me md : Nat → Int32} (hN : 2000 ≤ N_) (hc : c ≤ 470)
    (Kf : Int32 → (Nat → Int32) → Int32 × Int32 × Int32 × Int32 × Int32 × Int32 × Int32 × Int32 × (Nat → Int32) × (Nat → Int32) × (Nat → Int32) × (Nat → Int32) × (Nat → Int32)) (Ko : Int32 → (Nat → Int32) → Prop) (Ph : (Int32 × Int32 × Int32 × Int32 × Int32 × Int32 × Int32 × Int32 × (Nat → Int32) × (Nat → Int32) × (Nat → Int32) × (Nat → Int32) × (Nat → Int32)) → Prop)
    (hK : ∀ x md, (∀ y, y < 4 * c → md y = me y) → Ph (Kf x md) ∧ Ko x md) :
    Ph (l_M_tree_151 (nI c) me Kf N_ 0 md) ∧ ol_M_tree_151 (nI c) me Ko N_ 0 md := by
  refine rj_M_tree_151 (nI c) me Kf Ko (fun x _ => 1990 - x.toNatClampNeg) (fun x md => ∃ z, z ≤ 4 * c ∧ x = nI z ∧ ∀ y, y < z → md y = me y) Ph ?_ N_ _ _ ?_ ?_
  · intro rec reco x md hI ih
    obtain ⟨z, hz, rfl, h⟩ := hI
    unfold s_M_tree_151 os_M_tree_151
    simp (disch := omega) only [n_4x, n_le, n_clamp, n_1]
    by_cases c1 : 4 * c ≤ z
    · simp only [if_pos c1]
      exact hK _ _ (fun y hy => h y (by omega))
    · simp only [if_neg c1]
      have hv : vp_in (nI z) 4000 := n_in (by omega) (by omega)
      have := ih (nI (z + 1)) (upd md z (me z)) ⟨z + 1, by omega, rfl, fun y hy => by
        rw [n_upd]
        split
        · rename_i e; rw [e]
        · exact h y (by omega)⟩ (by
        show 1990 - (nI (z + 1)).toNatClampNeg < 1990 - (nI z).toNatClampNeg
        rw [n_clamp (by omega), n_clamp (by omega)]; omega)
      exact ⟨this.1, hv, hv, this.2⟩
  · show 1990 - (0 : Int32).toNatClampNeg < N_
    omega
  · exact ⟨0, Nat.zero_le _, rfl, fun y hy => absurd hy (Nat.not_lt_zero y)⟩
theorem q_t126 {N_ n rl s i j : Nat} {gh gi gc rt vMn vMl mo me v0 : Nat → Int32} {lv : Nat → Nat} {k : Option Nat} {W F G : Int32} (hN : 2000 ≤ N_) (hg : gOK n gh gi gc) (hl : lvOK n gh gi lv) (hr : rl ≤ 24) (hM : mOK n rl gh gi gc rt (fun _ _ => True) vMn vMl) (hs : s < 10) (hij : i < j) (hj : j ≤ rl) (hk : thr n gh gi gc rt s i j k) (hE : enM (sB s i j k) (W, mo))
    (Kf : Int32 → Int32 → Int32 → Int32 → (Nat → Int32) → (Nat → Int32) → Int32 × Int32 × Int32 × Int32 × Int32 × Int32 × Int32 × Int32 × (Nat → Int32) × (Nat → Int32) × (Nat → Int32) × (Nat → Int32) × (Nat → Int32)) (Ko : Int32 → Int32 → Int32 → Int32 → (Nat → Int32) → (Nat → Int32) → Prop) (Ph : (Int32 × Int32 × Int32 × Int32 × Int32 × Int32 × Int32 × Int32 × (Nat → Int32) × (Nat → Int32) × (Nat → Int32) × (Nat → Int32) × (Nat → Int32)) → Prop)
    (R : Nat × (Nat → Int32)) (hR : run n gh gi gc rt 470 (sB s i j k) 0 v0 = R)
    (hK : ∀ W F G me mo, R.1 ≤ 470 → (∀ y, y < 4 * R.1 → me y = R.2 y) → Ph (Kf (nI R.1) W F G me mo) ∧ Ko (nI R.1) W F G me mo) :
    Ph (l_M_tree_126 N_ (nI n) gh gi gc rt vMn vMl Kf N_ 0 W F G me mo) ∧ ol_M_tree_126 N_ (nI n) gh gi gc rt vMn vMl Ko N_ 0 W F G me mo := by
  have hsO := sB_ok (to := rl) (gc := gc) (rt := rt) hl hs hij hj (by omega) hk
  refine rj_M_tree_126 N_ (nI n) gh gi gc rt vMn vMl Kf Ko (fun x _ _ _ _ _ => 500 - x.toNatClampNeg) (fun x W _ _ me mo => ∃ S c v, x = nI c ∧ enM S (W, mo) ∧ sOK n gh gi gc rt lv rl c S ∧ (∀ y, y < 4 * c → me y = v y) ∧ run n gh gi gc rt (470 - c) S c v = R) Ph ?_ N_ _ _ _ _ _ _ ?_ ?_
  · intro rec reco x W F G me mo hI ih
    obtain ⟨S, c, v, rfl, hE, hS, hv, hQ⟩ := hI
    have hc470 : c ≤ 470 := by have := hS.2.2; omega
    have eW : W = nI S.1 := hE.1
    subst eW
    unfold s_M_tree_126 os_M_tree_126
    simp only [bd_def]
    by_cases h0 : S.1 = 0
    · have cW : nI S.1 ≤ 0 := by rw [h0]; decide
      rw [run_0 h0] at hQ
      subst hQ
      simp only [if_pos cW]
      exact hK _ _ _ _ _ hc470 hv
    · generalize he : S.2 (S.1 - 1) = e
      obtain ⟨s', i', j', k', d'⟩ := e
      obtain ⟨⟨a1, a2, a3, a4⟩, a5, a6, p, f, q, k'', c0, b1, b2, b3, b4, b5, b6, b7, b8, b9, b10⟩ := stp_ok hg hl hr hS h0 he
      have cW : ¬ nI S.1 ≤ 0 := by rw [q_0, n_le (by omega) (by omega)]; omega
      simp only [if_neg cW]
      obtain ⟨⟨r1, r2, r3⟩, r4⟩ := q_one (F := F) (G := G) hN hg hl hr hM hE h0 he a1 a2 a3 a4 a5 a6 b1 b2 b3 b4 b5 b6 b7 b9 b10 hv
      have := ih _ _ (f_M_one N_ (nI n) (nI c) (nI S.1) F G gh gi gc rt vMn vMl me mo).2.2.1 (f_M_one N_ (nI n) (nI c) (nI S.1) F G gh gi gc rt vMn vMl me mo).2.2.2.1 _ _ ⟨stp n gh gi gc rt i' j' d' p f q k'' (S.1 - 1, S.2), c + 1, nodU v c p i' j' d', r1, r2, b8, r3, (by
          rw [show 470 - c = (470 - (c + 1)) + 1 by omega] at hQ
          unfold run at hQ
          rw [if_neg h0, he] at hQ
          simp only [b1] at hQ
          exact hQ)⟩ (by
        show 500 - (f_M_one N_ (nI n) (nI c) (nI S.1) F G gh gi gc rt vMn vMl me mo).1.toNatClampNeg < 500 - (nI c).toNatClampNeg
        rw [r1, n_clamp (by omega), n_clamp (by omega)]; omega)
      exact ⟨this.1, r4, this.2⟩
  · show 500 - (0 : Int32).toNatClampNeg < N_
    omega
  · exact ⟨sB s i j k, 0, v0, rfl, hE, hsO, fun y hy => absurd hy (Nat.not_lt_zero y), hR⟩
theorem q_treeG {N_ n rl s i j : Nat} {gh gi gc rt vMn vMl mo me md v0 : Nat → Int32} {lv : Nat → Nat} {k : Option Nat} {F G T B : Int32} (hN : 2000 ≤ N_) (hg : gOK n gh gi gc) (hl : lvOK n gh gi lv) (hr : rl ≤ 24) (hM : mOK n rl gh gi gc rt (fun _ _ => True) vMn vMl) (hs : s < 10) (hij : i < j) (hj : j ≤ rl) (hk : thr n gh gi gc rt s i j k) :
    trR (run n gh gi gc rt 470 (sB s i j k) 0 v0) T B vMn vMl (l_M_tree_126 N_ (nI n) gh gi gc rt vMn vMl (fun vME vMO vMF vMS vMe vMo => (l_M_tree_151 vME vMe (fun x8 vMd => (vME, T, B, vME, vME, vMO, vMF, vMS, vMn, vMl, vMd, vMe, vMo)) N_ 0 md)) N_ 0 (f_M_asks 0 mo (nI s) (nI i) (nI j) (kI k) 0).1 F G me (f_M_asks 0 mo (nI s) (nI i) (nI j) (kI k) 0).2) ∧
    (o_M_asks 0 mo (nI s) (nI i) (nI j) (kI k) 0 ∧ ol_M_tree_126 N_ (nI n) gh gi gc rt vMn vMl (fun vME vMO vMF vMS vMe vMo => (ol_M_tree_151 vME vMe (fun x8 vMd => True) N_ 0 md)) N_ 0 (f_M_asks 0 mo (nI s) (nI i) (nI j) (kI k) 0).1 F G me (f_M_asks 0 mo (nI s) (nI i) (nI j) (kI k) 0).2) := by
  generalize hR : run n gh gi gc rt 470 (sB s i j k) 0 v0 = R
  obtain ⟨p1, p2⟩ := q_asks (w := 0) (i := i) (j := j) (d := 0) (k := k) (mo := mo) (S := (0, fun _ => (s, i, j, k, 0))) hs (by show 0 < 1999; omega) ⟨rfl, fun y hy => absurd hy (Nat.not_lt_zero y)⟩
  rw [pu_yes hs] at p1
  have p1 : enM (sB s i j k) (f_M_asks 0 mo (nI s) (nI i) (nI j) (kI k) 0) := by
    refine ⟨p1.1, fun y hy => ?_⟩
    have := p1.2 y hy
    have hy : y < 1 := hy
    have ey : y = 0 := by omega
    subst ey
    exact this
  refine And.imp id (fun h => ⟨p2, h⟩) ?_
  refine q_t126 hN hg hl hr hM hs hij hj hk p1 _ _ (trR R T B vMn vMl) R hR ?_
  intro W F G me mo h1 h2
  refine q_t151 hN h1 _ _ (trR R T B vMn vMl) ?_
  intro x md h3
  exact ⟨⟨rfl, rfl, rfl, rfl, rfl, rfl, fun y hy => (h3 y hy).trans (h2 y hy)⟩, trivial⟩
theorem d_999 : (999999 : Int32).toInt = 999999 := by decide
theorem fits_tree : fit_tree 10000 relM := by
  intro vU vFW vFB vFE vFN vFL vFX vFY vFs vFf vFt vFn vFd vOE vOn vTS vTf vCF vCn vCc vCr vCs vGF vGS vGh vGi vGc vGo vGr vRL vRt vMT vMP vMK vMB vMD vME vMO vMF vMS vMX vMW vMh vMi vMc vMt vMn vMl vMs vMd vMe vMo vMw vMu p0 p1 p2 p3 hR
  obtain ⟨n, rl, fl, nd, ⟨rfl, rfl, rfl, rfl, hrl, rfl, hfl, rfl, rfl, hnd⟩, ⟨rfl, rfl, rfl, rfl⟩, hg, ht, htr, hre, hor, hfe, hco, hmo⟩ := hR
  obtain ⟨lv, hl⟩ := relM_lv hg hre
  obtain ⟨m1, m2, m3, m4⟩ := m10
  have m5 : ¬ (5 : Int32) = 0 := by decide
  have m54 : ¬ (5 : Int32) = 4 := by decide
  have m51 : ¬ (5 : Int32) = 1 := by decide
  have m14 : ¬ (1 : Int32) = 4 := by decide
  obtain ⟨⟨q1, q2⟩, q3⟩ := q_know (N_ := 10000) (F := vMF) (S := vMS) (vMB := vMB) (vMn := vMn) (vMl := vMl) (by omega) hg hl hrl hmo
  unfold o_L_tree f_L_tree o_H_tree f_H_tree o_M_tree f_M_tree
  simp only [bd_def]
  generalize f_M_know 10000 (nI n) (nI rl) vMB vMF vMS vGh vGi vGc vRt vMn vMl = w at *
  have hrel0 : relM (nI nd) vTf (nI fl) vCn vCc vGF (nI n) vGh vGi vGc vGo vGr (nI rl) vRt (nI n) (nI rl) w.1 (nI nd) vGh vGi vGc vRt w.2.2.2.1 w.2.2.2.2 vMd := ⟨n, rl, fl, nd, ⟨rfl, rfl, rfl, rfl, hrl, rfl, hfl, rfl, rfl, hnd⟩, ⟨rfl, rfl, rfl, rfl⟩, hg, ht, htr, hre, hor, hfe, hco, Or.inr ⟨q1, q2⟩⟩
  rcases w_part (a := p0) (b := p1) (c := p2) hrl with ⟨⟨s, i, j, hs, hij, hj, rfl, rfl, rfl⟩, h2, h3⟩ | ⟨h1, h2, h3⟩
  · obtain ⟨⟨k1, k2⟩, k3⟩ := k_fill (vCr := vCr) (vCs := vCs) (N_ := 10000) (by omega) hg hl hor hrl (to := j) hj hfl hco
    simp only [h2, h3, ↓if_true, ↓if_neg m1]
    generalize f_C_fill 10000 (nI fl) vCn vCc vCr vCs (nI n) vGh vGi vGc vGo (nI rl) vRt (nI j) = u at *
    have hmx : j ≤ maxN fl j ∧ maxN fl j ≤ rl := by unfold maxN; split <;> omega
    have hV := k2 s i j hs hij hmx.1
    obtain ⟨t1, t2⟩ := k_trees (rt := vRt) (x := nI s) (tb := vV n vGh vGi vGc vRt) (vCn := u.2.1) (i := i) (j := j) (Or.inr ⟨by rw [n_tI (by omega)]; omega, by rw [n_tI (by omega)]; omega⟩) hrl hj (by omega) (fun s' hs' e _ => by rw [n_eq (by omega) (by omega)] at e; subst e; exact hV.1)
    have eit : itE vRt (vV n vGh vGi vGc vRt) (nI s) i j = vV n vGh vGi vGc vRt s i j := by
      unfold itE
      rw [if_neg (by rw [n_lit, n_eqm (by omega)]; exact id), if_pos (by rw [q_10, n_lt (by omega) (by omega)]; exact hs), if_pos hij, n_clamp (by omega)]
    rw [eit] at t1
    have hcl : (nI (aN s i j)).toNatClampNeg = aN s i j := by unfold aN; exact n_clamp (by omega)
    have hin : vp_in (nI (aN s i j)) 6250 := by unfold aN; exact n_in (by omega) (by omega)
    have hM := (q2 s i j hs hij hj trivial).1
    have hsat : (vV n vGh vGi vGc vRt s i j).1 ≤ 1000000000 := vV_sat
    have hrel1 : relM (nI nd) vTf u.1 u.2.1 u.2.2.1 vGF (nI n) vGh vGi vGc vGo vGr (nI rl) vRt (nI n) (nI rl) w.1 (nI nd) vGh vGi vGc vRt w.2.2.2.1 w.2.2.2.2 vMd := ⟨n, rl, maxN fl j, nd, ⟨rfl, rfl, rfl, rfl, hrl, k1, hmx.2, rfl, rfl, hnd⟩, ⟨rfl, rfl, rfl, rfl⟩, hg, ht, htr, hre, hor, hfe, k2, Or.inr ⟨q1, q2⟩⟩
    simp only [q_at, hcl, hM, t1]
    have good : ∀ k, thr n vGh vGi vGc vRt s i j k → p3 = kI k →
        (o_F_find 10000 vFW vFB vFE vFN vFL vFX vFY vFs vFf vFt vFn vFd (nI nd) vTf u.2.1 u.2.2.1 (nI n) vGh vGi vGc (nI rl) vRt (nI s) (nI i) (nI j) p3) ∧ ∃ R : Nat × (Nat → Int32), fnR R (f_F_find 10000 vFW vFB vFE vFN vFL vFX vFY vFs vFf vFt vFn vFd (nI nd) vTf u.2.1 u.2.2.1 (nI n) vGh vGi vGc (nI rl) vRt (nI s) (nI i) (nI j) p3) ∧
        trR R 0 w.1 w.2.2.2.1 w.2.2.2.2 (l_M_tree_126 10000 (nI n) vGh vGi vGc vRt w.2.2.2.1 w.2.2.2.2 (fun vME vMO vMF vMS vMe vMo => (l_M_tree_151 vME vMe (fun x8 vMd => (vME, 0, w.1, vME, vME, vMO, vMF, vMS, w.2.2.2.1, w.2.2.2.2, vMd, vMe, vMo)) 10000 0 vMd)) 10000 0 (f_M_asks 0 vMo (nI s) (nI i) (nI j) p3 0).1 w.2.1 w.2.2.1 vMe (f_M_asks 0 vMo (nI s) (nI i) (nI j) p3 0).2) ∧
        (o_M_asks 0 vMo (nI s) (nI i) (nI j) p3 0 ∧ ol_M_tree_126 10000 (nI n) vGh vGi vGc vRt w.2.2.2.1 w.2.2.2.2 (fun vME vMO vMF vMS vMe vMo => (ol_M_tree_151 vME vMe (fun x8 vMd => True) 10000 0 vMd)) 10000 0 (f_M_asks 0 vMo (nI s) (nI i) (nI j) p3 0).1 w.2.1 w.2.2.1 vMe (f_M_asks 0 vMo (nI s) (nI i) (nI j) p3 0).2) := by
      intro k hk ek
      subst ek
      obtain ⟨f1, f2⟩ := k_find (N_ := 10000) (W := vFW) (B := vFB) (E := vFE) (Nn := vFN) (L := vFL) (X := vFX) (Y := vFY) (TS := nI nd) (fs := vFs) (ff := vFf) (ft := vFt) (fn := vFn) (fd := vFd) (Tf := vTf) (v0 := vTf) (by omega) hg hl hrl hmx.2 hmx.1 k2 hs hij hk
      obtain ⟨g1, g2⟩ := q_treeG (N_ := 10000) (mo := vMo) (me := vMe) (md := vMd) (v0 := vTf) (F := w.2.1) (G := w.2.2.1) (T := 0) (B := w.1) (by omega) hg hl hrl q2 hs hij hj hk
      exact ⟨f2, _, f1, g1, g2⟩
    have relG : ∀ (R : Nat × (Nat → Int32)) u1 w1, fnR R u1 → trR R 0 w.1 w.2.2.2.1 w.2.2.2.2 w1 → relM u1.2.2.2.2.2.2.2.2.2.2.2.2.1 u1.2.2.2.2.2.2.2.2.2.2.2.2.2 u.1 u.2.1 u.2.2.1 vGF (nI n) vGh vGi vGc vGo vGr (nI rl) vRt (nI n) (nI rl) w1.2.2.1 w1.2.2.2.1 vGh vGi vGc vRt w1.2.2.2.2.2.2.2.2.1 w1.2.2.2.2.2.2.2.2.2.1 w1.2.2.2.2.2.2.2.2.2.2.1 := by
      intro R u1 w1 ⟨a1, a2, a3⟩ ⟨b1, b2, b3, b4, b5, b6, b7⟩
      refine ⟨n, rl, maxN fl j, R.1, ⟨rfl, rfl, rfl, rfl, hrl, k1, hmx.2, a2, b4, a1⟩, ⟨rfl, rfl, rfl, rfl⟩, hg, ht, fun y hy => (a3 y hy).trans (b7 y hy).symm, hre, hor, hfe, k2, Or.inr ⟨?_, ?_⟩⟩
      · rw [b3]; exact q1
      · rw [b5, b6]; exact q2
    by_cases c1 : p3 = -1
    · have r14 : f_M_in p3 (-1) 999999 = 1 := by rw [c1]; decide
      simp only [↓if_pos c1, r14, ↓if_neg m1]
      by_cases c2 : (vV n vGh vGi vGc vRt s i j).1 = 0
      · have c3 : ¬ (1 : Int32) ≤ nI (vV n vGh vGi vGc vRt s i j).1 := by rw [c2]; decide
        have c4 : nI (vV n vGh vGi vGc vRt s i j).1 = 0 := by rw [c2]; rfl
        simp only [↓if_neg c3, ↓if_pos c4, w_ref3, ↓if_neg m1, ↓if_neg m5, ↓if_neg m54, ↓if_neg m51]
        exact ⟨⟨⟨k3, t2, trivial⟩, Or.inr (Or.inr (Or.inr trivial))⟩, ⟨q3, hin, trivial⟩, trivial, fun q => absurd q m4, hrel1⟩
      · have c3 : (1 : Int32) ≤ nI (vV n vGh vGi vGc vRt s i j).1 := by rw [q_1, n_le (by omega) (by omega)]; omega
        have c4 : ¬ nI (vV n vGh vGi vGc vRt s i j).1 = 0 := by rw [q_0, n_eq (by omega) (by omega)]; exact c2
        have c5 : p3 < nI (vV n vGh vGi vGc vRt s i j).1 := by rw [c1, Int32.lt_iff_toInt_lt, n_tI (by omega), x_m1]; omega
        obtain ⟨f2, R, f1, g1, g2⟩ := good none ⟨c2, fun m h => by cases h⟩ c1
        simp only [↓if_pos c3, ↓if_neg c4, ↓if_pos c5, w_ref0, ↓if_true]
        have hrel := relG R _ _ f1 g1
        refine ⟨⟨⟨k3, t2, f2, trivial⟩, Or.inl trivial⟩, ⟨q3, hin, g2⟩, g1.2.1, fun _ => ?_, hrel⟩
        rw [w_U, f1.2.1, g1.1]
    · simp only [↓if_neg c1]
      by_cases c6 : p3 < 0
      · have r14 : f_M_in p3 (-1) 999999 = 0 := by
          rw [w_in, x_m1, d_999, if_neg]
          have := x_lt c6; rw [d_0] at this
          have := x_ne c1; rw [x_m1] at this
          omega
        simp only [↓if_pos c6, r14, ↓if_true, w_ref2, ↓if_neg m1, ↓if_neg m14]
        exact ⟨⟨trivial, Or.inr (Or.inr (Or.inl trivial))⟩, ⟨q3, hin, trivial⟩, trivial, fun q => absurd q m3, hrel0⟩
      · have hp0 := x_nlt c6; rw [d_0] at hp0
        by_cases c7 : p3 ≤ 999999
        · have hp1 := x_le c7; rw [d_999] at hp1
          have r14 : f_M_in p3 (-1) 999999 = 1 := by rw [w_in, x_m1, d_999, if_pos (by omega)]
          obtain ⟨m, rfl, em, -⟩ := n_of hp0
          have hm : m ≤ 999999 := by omega
          simp only [↓if_neg c6, ↓if_pos c7, r14, ↓if_neg m1, n_1]
          by_cases c8 : m < (vV n vGh vGi vGc vRt s i j).1
          · have c3 : nI (m + 1) ≤ nI (vV n vGh vGi vGc vRt s i j).1 := by rw [n_le (by omega) (by omega)]; omega
            have c4 : ¬ nI (vV n vGh vGi vGc vRt s i j).1 = 0 := by rw [q_0, n_eq (by omega) (by omega)]; omega
            have c5 : nI m < nI (vV n vGh vGi vGc vRt s i j).1 := by rw [n_lt (by omega) (by omega)]; exact c8
            obtain ⟨f2, R, f1, g1, g2⟩ := good (some m) ⟨by omega, fun m' h => by have := Option.some.inj h; omega⟩ rfl
            simp only [↓if_pos c3, ↓if_neg c4, ↓if_pos c5, w_ref0, ↓if_true]
            have hrel := relG R _ _ f1 g1
            refine ⟨⟨⟨k3, t2, f2, trivial⟩, Or.inl trivial⟩, ⟨q3, hin, g2⟩, g1.2.1, fun _ => ?_, hrel⟩
            rw [w_U, f1.2.1, g1.1]
          · have c3 : ¬ nI (m + 1) ≤ nI (vV n vGh vGi vGc vRt s i j).1 := by rw [n_le (by omega) (by omega)]; omega
            have c5 : ¬ nI m < nI (vV n vGh vGi vGc vRt s i j).1 := by rw [n_lt (by omega) (by omega)]; exact c8
            by_cases c4 : nI (vV n vGh vGi vGc vRt s i j).1 = 0
            · simp only [↓if_neg c3, ↓if_pos c4, w_ref3, ↓if_neg m1, ↓if_neg m5, ↓if_neg m54, ↓if_neg m51]
              exact ⟨⟨⟨k3, t2, trivial⟩, Or.inr (Or.inr (Or.inr trivial))⟩, ⟨q3, hin, trivial⟩, trivial, fun q => absurd q m4, hrel1⟩
            · simp only [↓if_neg c3, ↓if_neg c4, ↓if_neg c5, w_ref3, ↓if_neg m1, ↓if_neg m5, ↓if_neg m54, ↓if_neg m51]
              exact ⟨⟨⟨k3, t2, trivial⟩, Or.inr (Or.inr (Or.inr trivial))⟩, ⟨q3, hin, trivial⟩, trivial, fun q => absurd q m4, hrel1⟩
        · have hp1 := x_nle c7; rw [d_999] at hp1
          have r14 : f_M_in p3 (-1) 999999 = 0 := by rw [w_in, x_m1, d_999, if_neg (by omega)]
          simp only [↓if_neg c6, ↓if_neg c7, r14, ↓if_true, w_ref2, ↓if_neg m1, ↓if_neg m14]
          exact ⟨⟨trivial, Or.inr (Or.inr (Or.inl trivial))⟩, ⟨q3, hin, trivial⟩, trivial, fun q => absurd q m3, hrel0⟩
  · simp only [h2, h3, w_ref1, ↓if_neg m1, ↓if_neg m2, ↓if_true]
    exact ⟨⟨trivial, Or.inr (Or.inl trivial)⟩, ⟨q3, trivial⟩, trivial, fun q => absurd q m1, hrel0⟩
