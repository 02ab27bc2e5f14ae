/-! The calls that only look: count, cost, node; and put, cut, clear -/
theorem relM_lv {n : Nat} {gh gi gc vGr : Nat → Int32} (hg : gOK n gh gi gc) (h : reOK n gh gi vGr) : ∃ lv, lvOK n gh gi lv := ⟨_, reOK_lv hg h⟩
theorem w_U {vU : Nat → Int64} {x : Int32} : vp_updL vU (0 : Int32).toNatClampNeg x.toInt64 0 = x.toInt64 := by
  unfold vp_updL; rw [if_pos (by decide)]
theorem w_ref1 {vMT : Int32} : f_M_refuse vMT 1 0 0 = (1, 1) := by
  unfold f_M_refuse; rw [if_neg (by decide)]
theorem w_ref2 {vMT : Int32} : f_M_refuse vMT 0 1 0 = (1, 2) := by
  unfold f_M_refuse; rw [if_pos (by decide), if_neg (by decide)]
theorem w_ref3 {vMT : Int32} : f_M_refuse vMT 0 0 1 = (1, 3) := by
  unfold f_M_refuse; rw [if_pos (by decide), if_pos (by decide), if_neg (by decide)]
theorem w_ref0 {vMT : Int32} : f_M_refuse vMT 0 0 0 = (0, 0) := by
  unfold f_M_refuse; rw [if_pos (by decide), if_pos (by decide), if_pos (by decide)]
theorem w_i {k : Int32} {n : Int} (h : k.toInt = n) (a : Int32) : (a < k) = (a.toInt < n) := by
  rw [← h]; exact propext Int32.lt_iff_toInt_lt
theorem w_in {x lo hi : Int32} : f_M_in x lo hi = if lo.toInt ≤ x.toInt ∧ x.toInt ≤ hi.toInt then 1 else 0 := by
  unfold f_M_in
  by_cases c1 : x < lo
  · rw [if_pos c1, if_neg (by have := x_lt c1; omega)]
  · rw [if_neg c1]
    have h1 := x_nlt c1
    by_cases c2 : hi < x
    · rw [if_pos c2, if_neg (by have := x_lt c2; omega)]
    · rw [if_neg c2, if_pos (by have := x_nlt c2; omega)]
theorem d_0 : (0 : Int32).toInt = 0 := by decide
theorem d_9 : (9 : Int32).toInt = 9 := by decide
theorem d_10 : (10 : Int32).toInt = 10 := by decide
theorem d_20 : (20 : Int32).toInt = 20 := by decide
theorem w_sym {x : Int32} : f_H_isSymbol x = if 0 ≤ x.toInt ∧ x.toInt < 10 then 1 else 0 := by
  unfold f_H_isSymbol
  by_cases c1 : x < 0
  · rw [if_pos c1, if_neg (by have := x_lt c1; rw [d_0] at this; omega)]
  · rw [if_neg c1]
    have h1 := x_nlt c1
    rw [d_0] at h1
    by_cases c2 : (10 : Int32) ≤ x
    · rw [if_pos c2, if_neg (by have := x_le c2; rw [d_10] at this; omega)]
    · rw [if_neg c2, if_pos (by have := x_nle c2; rw [d_10] at this; omega)]
/-- a symbol and a part of the row: both sides ask the same -/
def isPt (rl : Nat) (a b c : Int32) : Prop := ∃ s i j : Nat, s < 10 ∧ i < j ∧ j ≤ rl ∧ a = nI s ∧ b = nI i ∧ c = nI j
theorem w_part {rl : Nat} {a b c : Int32} (hr : rl ≤ 24) : (isPt rl a b c ∧ f_H_checkPart (nI rl) a b c = 0 ∧ f_M_isPart (nI rl) a b c = 1) ∨ (¬ isPt rl a b c ∧ f_H_checkPart (nI rl) a b c = 4 ∧ f_M_isPart (nI rl) a b c = 0) := by
  unfold f_H_checkPart f_M_isPart
  simp only [bd_def]
  rw [w_sym, w_in, d_0, d_9]
  have er := n_tI (a := rl) (by omega)
  by_cases c1 : 0 ≤ a.toInt ∧ a.toInt < 10
  · rw [if_pos c1, if_pos (show 0 ≤ a.toInt ∧ a.toInt ≤ 9 by omega)]
    simp only [show ¬ (1 : Int32) = 0 by decide, if_false]
    by_cases c2 : b < 0
    · right
      simp only [if_pos c2]
      refine ⟨fun ⟨s, i, j, _, _, _, _, e, _⟩ => ?_, trivial, trivial⟩
      have := x_lt c2; rw [e, n_tI (by omega), d_0] at this; omega
    · simp only [if_neg c2]
      have h2 := x_nlt c2; rw [d_0] at h2
      by_cases c3 : c ≤ b
      · right
        simp only [if_pos c3]
        refine ⟨fun ⟨s, i, j, _, h, _, _, e, e2⟩ => ?_, trivial, ?_⟩
        · rw [e, e2, n_le (by omega) (by omega)] at c3; omega
        · split <;> rfl
      · simp only [if_neg c3]
        have h3 := x_nle c3
        by_cases c4 : nI rl < c
        · right
          have h4 := x_lt c4
          rw [if_neg (by intro q; have := x_le q; omega), if_pos c4]
          refine ⟨fun ⟨s, i, j, _, h, h', _, e, e2⟩ => ?_, rfl, rfl⟩
          have e9 := n_tI (a := j) (by omega)
          rw [e2] at h4; omega
        · left
          have h4 := x_nlt c4
          rw [if_pos (Int32.le_iff_toInt_le.mpr h4), if_neg c4]
          obtain ⟨s, e1, e2, e3⟩ := n_of c1.1
          obtain ⟨i, e4, e5, e6⟩ := n_of h2
          obtain ⟨j, e7, e8, e9⟩ := n_of (x := c) (by omega)
          exact ⟨⟨s, i, j, by omega, by omega, by omega, e1, e4, e7⟩, rfl, rfl⟩
  · right
    rw [if_neg c1, if_neg (show ¬ (0 ≤ a.toInt ∧ a.toInt ≤ 9) by omega)]
    refine ⟨fun ⟨s, i, j, h, _, _, e, _, _⟩ => c1 ?_, rfl, rfl⟩
    rw [e, n_tI (by omega)]; omega
theorem m10 : ¬ (1 : Int32) = 0 ∧ ¬ (4 : Int32) = 0 ∧ ¬ (2 : Int32) = 0 ∧ ¬ (3 : Int32) = 0 := by decide
theorem mI_cI {o : Option Nat} (h : ∀ c, o = some c → c < 2000000000) : (if mI o = 2000000000 then (-1 : Int32) else mI o) = cI o := by
  cases o with
  | none => exact if_pos rfl
  | some c =>
    have := h c rfl
    show (if nI c = nI 2000000000 then (-1 : Int32) else nI c) = nI c
    rw [if_neg (by rw [n_eq (by omega) (by omega)]; omega)]
set_option maxHeartbeats 1000000 in
theorem fits_count : fit_count 10000 relM := by
  intro vU vFW vFB vFE vFN vFL vFX vFY vFs vFf vFt vFn vFd vOE vOn vTS vTf vCF vCn vCc vCr vCs vGF vGS vGh vGi vGc vGo vGr vRL vRt vMT vMP vMK vMB vMD vME vMO vMF vMS vMX vMW vMh vMi vMc vMt vMn vMl vMs vMd vMe vMo vMw vMu p0 p1 p2 hR
  obtain ⟨n, rl, fl, nd, ⟨rfl, rfl, rfl, rfl, hrl, rfl, hfl, rfl, rfl, hnd⟩, ⟨rfl, rfl, rfl, rfl⟩, hg, ht, htr, hre, hor, hfe, hco, hmo⟩ := hR
  obtain ⟨lv, hl⟩ := relM_lv hg hre
  unfold o_L_count f_L_count o_H_count f_H_count o_M_count f_M_count
  simp only [bd_def]
  obtain ⟨m1, m2, m3, m4⟩ := m10
  rcases w_part (a := p0) (b := p1) (c := p2) hrl with ⟨⟨s, i, j, hs, hij, hj, rfl, rfl, rfl⟩, h2, h3⟩ | ⟨h1, h2, h3⟩
  · obtain ⟨⟨k1, k2⟩, k3⟩ := k_fill (vCr := vCr) (vCs := vCs) (N_ := 10000) (by omega) hg hl hor hrl (to := j) hj hfl hco
    obtain ⟨⟨q1, q2⟩, q3⟩ := q_know (N_ := 10000) (F := vMF) (S := vMS) (vMB := vMB) (vMn := vMn) (vMl := vMl) (by omega) hg hl hrl hmo
    simp only [h2, h3, w_ref0, if_true, if_neg m1]
    generalize f_C_fill 10000 (nI fl) vCn vCc vCr vCs (nI n) vGh vGi vGc vGo (nI rl) vRt (nI j) = u at *
    generalize f_M_know 10000 (nI n) (nI rl) vMB vMF vMS vGh vGi vGc vRt vMn vMl = w at *
    have hmx : j ≤ maxN fl j ∧ maxN fl j ≤ rl := by unfold maxN; split <;> omega
    have hV := k2 s i j hs hij hmx.1
    obtain ⟨t1, t2⟩ := k_trees (rt := vRt) (x := nI s) (tb := vV n vGh vGi vGc vRt) (vCn := u.2.1) (i := i) (j := j) (Or.inr ⟨by rw [n_tI (by omega)]; omega, by rw [n_tI (by omega)]; omega⟩) hrl hj (by omega) (fun s' hs' e _ => by rw [n_eq (by omega) (by omega)] at e; subst e; exact hV.1)
    have eit : itE vRt (vV n vGh vGi vGc vRt) (nI s) i j = vV n vGh vGi vGc vRt s i j := by
      unfold itE
      rw [if_neg (by rw [n_lit, n_eqm (by omega)]; exact id), if_pos (by rw [q_10, n_lt (by omega) (by omega)]; exact hs), if_pos hij, n_clamp (by omega)]
    rw [eit] at t1
    have hcl : (nI (aN s i j)).toNatClampNeg = aN s i j := by unfold aN; exact n_clamp (by omega)
    have hM := q2 s i j hs hij hj trivial
    rw [q_at, hcl, hM.1, t1]
    refine ⟨⟨⟨k3, t2, trivial⟩, Or.inl trivial⟩, ⟨q3, by unfold aN; exact n_in (by omega) (by omega), trivial⟩, trivial, fun _ => w_U, ?_⟩
    exact ⟨n, rl, maxN fl j, nd, ⟨rfl, rfl, rfl, rfl, hrl, k1, hmx.2, rfl, rfl, hnd⟩, ⟨rfl, rfl, rfl, rfl⟩, hg, ht, htr, hre, hor, hfe, k2, Or.inr ⟨q1, q2⟩⟩
  · simp only [h2, h3, w_ref1, if_neg m1, if_neg m2, if_true]
    refine ⟨⟨trivial, Or.inr trivial⟩, trivial, trivial, fun q => absurd q m1, ?_⟩
    exact ⟨n, rl, fl, nd, ⟨rfl, rfl, rfl, rfl, hrl, rfl, hfl, rfl, rfl, hnd⟩, ⟨rfl, rfl, rfl, rfl⟩, hg, ht, htr, hre, hor, hfe, hco, hmo⟩
