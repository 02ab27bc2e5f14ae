set_option maxHeartbeats 1000000 in
theorem fits_cost : fit_cost 10000 relM := by
  intro vU vFW vFB vFE vFN vFL vFX vFY vFs vFf vFt vFn vFd vOE vOn vTS vTf vCF vCn vCc vCr vCs vGF vGS vGh vGi vGc vGo vGr vRL vRt vMT vMP vMK vMB vMD vME vMO vMF vMS vMX vMW vMh vMi vMc vMt vMn vMl vMs vMd vMe vMo vMw vMu p0 p1 p2 hR
  obtain ⟨n, rl, fl, nd, ⟨rfl, rfl, rfl, rfl, hrl, rfl, hfl, rfl, rfl, hnd⟩, ⟨rfl, rfl, rfl, rfl⟩, hg, ht, htr, hre, hor, hfe, hco, hmo⟩ := hR
  obtain ⟨lv, hl⟩ := relM_lv hg hre
  unfold o_L_cost f_L_cost o_H_cost f_H_cost o_M_cost f_M_cost
  simp only [bd_def]
  obtain ⟨m1, m2, m3, m4⟩ := m10
  rcases w_part (a := p0) (b := p1) (c := p2) hrl with ⟨⟨s, i, j, hs, hij, hj, rfl, rfl, rfl⟩, h2, h3⟩ | ⟨h1, h2, h3⟩
  · obtain ⟨⟨k1, k2⟩, k3⟩ := k_fill (vCr := vCr) (vCs := vCs) (N_ := 10000) (by omega) hg hl hor hrl (to := j) hj hfl hco
    obtain ⟨⟨q1, q2⟩, q3⟩ := q_know (N_ := 10000) (F := vMF) (S := vMS) (vMB := vMB) (vMn := vMn) (vMl := vMl) (by omega) hg hl hrl hmo
    simp only [h2, h3, w_ref0, if_true, if_neg m1]
    generalize f_C_fill 10000 (nI fl) vCn vCc vCr vCs (nI n) vGh vGi vGc vGo (nI rl) vRt (nI j) = u at *
    generalize f_M_know 10000 (nI n) (nI rl) vMB vMF vMS vGh vGi vGc vRt vMn vMl = w at *
    have hmx : j ≤ maxN fl j ∧ maxN fl j ≤ rl := by unfold maxN; split <;> omega
    have hV := k2 s i j hs hij hmx.1
    obtain ⟨ec, ec2⟩ := k_cell hs hij (j := j) (by omega)
    have t1 : f_C_leastCost u.2.2.1 (nI s) (nI i) (nI j) = cI (vV n vGh vGi vGc vRt s i j).2 ∧ o_C_leastCost u.2.2.1 (nI s) (nI i) (nI j) := by
      unfold f_C_leastCost o_C_leastCost
      simp (disch := omega) only [bd_def, ec, n_lit, n_eqm, n_lt, n_le, n_clamp, if_false]
      rw [if_pos hs, if_pos hs, if_neg (by omega), if_neg (by omega), if_neg (by omega), if_neg (by omega)]
      exact ⟨hV.2, n_in (by omega) (by omega), trivial⟩
    have hcl : (nI (aN s i j)).toNatClampNeg = aN s i j := by unfold aN; exact n_clamp (by omega)
    have hM := q2 s i j hs hij hj trivial
    have hb : ∀ c, (vV n vGh vGi vGc vRt s i j).2 = some c → c < 2000000000 := fun c hc => by
      have := (vV_g (rt := vRt) hg hl hs hij).2 c hc
      have := hl.1 s
      unfold lim at *; omega
    have e5 := mI_cI hb
    rw [q_at, hcl, hM.2, t1.1]
    have hin : vp_in (nI (aN s i j)) 6250 := by unfold aN; exact n_in (by omega) (by omega)
    have hrel : relM (nI nd) vTf u.1 u.2.1 u.2.2.1 vGF (nI n) vGh vGi vGc vGo vGr (nI rl) vRt (nI n) (nI rl) w.1 (nI nd) vGh vGi vGc vRt w.2.2.2.1 w.2.2.2.2 vMd := ⟨n, rl, maxN fl j, nd, ⟨rfl, rfl, rfl, rfl, hrl, k1, hmx.2, rfl, rfl, hnd⟩, ⟨rfl, rfl, rfl, rfl⟩, hg, ht, htr, hre, hor, hfe, k2, Or.inr ⟨q1, q2⟩⟩
    refine ⟨⟨⟨k3, t1.2, trivial⟩, Or.inl trivial⟩, ?_⟩
    by_cases c : mI (vV n vGh vGi vGc vRt s i j).2 = 2000000000
    · simp only [if_pos c] at e5 ⊢
      exact ⟨⟨q3, hin, trivial⟩, trivial, fun _ => by rw [← e5]; exact w_U, hrel⟩
    · simp only [if_neg c] at e5 ⊢
      exact ⟨⟨q3, hin, hin, trivial⟩, trivial, fun _ => by rw [e5]; exact w_U, hrel⟩
  · simp only [h2, h3, w_ref1, if_neg m1, if_neg m2, if_true]
    refine ⟨⟨trivial, Or.inr trivial⟩, trivial, trivial, fun q => absurd q m1, ?_⟩
    exact ⟨n, rl, fl, nd, ⟨rfl, rfl, rfl, rfl, hrl, rfl, hfl, rfl, rfl, hnd⟩, ⟨rfl, rfl, rfl, rfl⟩, hg, ht, htr, hre, hor, hfe, hco, hmo⟩
theorem d_24 : (24 : Int32) = nI 24 := rfl
theorem fits_put : fit_put 10000 relM := by
  intro vU vFW vFB vFE vFN vFL vFX vFY vFs vFf vFt vFn vFd vOE vOn vTS vTf vCF vCn vCc vCr vCs vGF vGS vGh vGi vGc vGo vGr vRL vRt vMT vMP vMK vMB vMD vME vMO vMF vMS vMX vMW vMh vMi vMc vMt vMn vMl vMs vMd vMe vMo vMw vMu p0 hR
  obtain ⟨n, rl, fl, nd, ⟨rfl, rfl, rfl, rfl, hrl, rfl, hfl, rfl, rfl, hnd⟩, ⟨rfl, rfl, rfl, rfl⟩, hg, ht, htr, hre, hor, hfe, hco, hmo⟩ := hR
  obtain ⟨lv, hl⟩ := relM_lv hg hre
  have hrel : relM (nI nd) vTf (nI fl) vCn vCc vGF (nI n) vGh vGi vGc vGo vGr (nI rl) vRt (nI n) (nI rl) vMB (nI nd) vGh vGi vGc vRt vMn vMl vMd := ⟨n, rl, fl, nd, ⟨rfl, rfl, rfl, rfl, hrl, rfl, hfl, rfl, rfl, hnd⟩, ⟨rfl, rfl, rfl, rfl⟩, hg, ht, htr, hre, hor, hfe, hco, hmo⟩
  obtain ⟨m1, m2, m3, m4⟩ := m10
  unfold o_L_put f_L_put o_H_put f_H_put o_M_put f_M_put
  simp only [bd_def, w_in, d_0, d_9]
  by_cases c1 : p0 < 0
  · have h1 := x_lt c1; rw [d_0] at h1
    have h2 : ¬ (0 ≤ p0.toInt ∧ p0.toInt ≤ 9) := by omega
    simp only [if_pos c1, if_neg h2, w_ref1, if_neg m1, if_true]
    exact ⟨⟨trivial, Or.inr (Or.inl trivial)⟩, trivial, trivial, fun q => absurd q m1, hrel⟩
  · have h1 := x_nlt c1; rw [d_0] at h1
    by_cases c2 : p0 < 10
    · have h2 := x_lt c2; rw [d_10] at h2
      have h3 : 0 ≤ p0.toInt ∧ p0.toInt ≤ 9 := by omega
      unfold f_R_isFull
      simp (disch := omega) only [if_neg c1, if_pos c2, if_pos h3, d_24, n_lt, n_eq, if_neg m1]
      by_cases c3 : rl < 24
      · have c4 : ¬ rl = 24 := by omega
        unfold f_R_lengthen o_R_lengthen f_R_isFull
        simp (disch := omega) only [if_pos c3, if_neg c4, w_ref0, bd_def, d_24, n_lt, if_true, n_clamp, n_1]
        have hv : vp_in (nI rl) 24 := n_in (by omega) (by omega)
        refine ⟨⟨⟨⟨hv, trivial⟩, trivial⟩, Or.inl trivial⟩, ⟨hv, trivial⟩, trivial, fun _ => w_U, ?_⟩
        refine ⟨n, rl + 1, fl, nd, ⟨rfl, rfl, rfl, rfl, by omega, rfl, by omega, rfl, rfl, hnd⟩, ⟨rfl, rfl, rfl, rfl⟩, hg, ?_, htr, hre, hor, hfe, ?_, Or.inl rfl⟩
        · intro i hi
          rw [n_upd]
          split
          · omega
          · exact ht i (by omega)
        · intro s a b q1 q2 q3
          have := hco s a b q1 q2 q3
          unfold hcs at *
          rw [vV_row hg hl (rt := upd vRt rl p0) (rt' := vRt) (m := fl) (fun k hk => by rw [n_upd, if_neg (by omega)]) q1 q2 q3]
          exact this
      · have c4 : rl = 24 := by omega
        simp only [if_neg c3, if_pos c4, w_ref2, if_neg m1, if_neg m3]
        refine ⟨⟨trivial, Or.inr (Or.inr trivial)⟩, trivial, by decide, fun q => absurd q (by decide), hrel⟩
    · have h2 := x_nlt c2; rw [d_10] at h2
      have h3 : ¬ (0 ≤ p0.toInt ∧ p0.toInt ≤ 9) := by omega
      simp only [if_neg c1, if_neg c2, if_neg h3, w_ref1, if_neg m1, if_true]
      exact ⟨⟨trivial, Or.inr (Or.inl trivial)⟩, trivial, trivial, fun q => absurd q m1, hrel⟩
theorem fits_cut : fit_cut 10000 relM := by
  intro vFW vFB vFE vFN vFL vFX vFY vFs vFf vFt vFn vFd vOE vOn vTS vTf vCF vCn vCc vCr vCs vGF vGS vGh vGi vGc vGo vGr vRL vRt vMT vMP vMK vMB vMD vME vMO vMF vMS vMX vMW vMh vMi vMc vMt vMn vMl vMs vMd vMe vMo vMw vMu p0 hR
  obtain ⟨n, rl, fl, nd, ⟨rfl, rfl, rfl, rfl, hrl, rfl, hfl, rfl, rfl, hnd⟩, ⟨rfl, rfl, rfl, rfl⟩, hg, ht, htr, hre, hor, hfe, hco, hmo⟩ := hR
  have hrel : relM (nI nd) vTf (nI fl) vCn vCc vGF (nI n) vGh vGi vGc vGo vGr (nI rl) vRt (nI n) (nI rl) vMB (nI nd) vGh vGi vGc vRt vMn vMl vMd := ⟨n, rl, fl, nd, ⟨rfl, rfl, rfl, rfl, hrl, rfl, hfl, rfl, rfl, hnd⟩, ⟨rfl, rfl, rfl, rfl⟩, hg, ht, htr, hre, hor, hfe, hco, hmo⟩
  obtain ⟨m1, m2, m3, m4⟩ := m10
  have er := n_tI (a := rl) (by omega)
  unfold o_L_cut f_L_cut f_H_cut f_M_cut
  simp only [bd_def, w_in, d_0, er]
  by_cases c1 : p0 < 0
  · have h1 := x_lt c1; rw [d_0] at h1
    have h2 : ¬ (0 ≤ p0.toInt ∧ p0.toInt ≤ (rl : Int)) := by omega
    simp only [if_pos c1, if_neg h2, w_ref1, if_neg m1, if_true]
    exact ⟨Or.inr trivial, trivial, trivial, hrel⟩
  · have h1 := x_nlt c1; rw [d_0] at h1
    obtain ⟨k, rfl, e1, e2⟩ := n_of h1
    rw [← e1] at h1 ⊢
    by_cases c2 : k ≤ rl
    · have c3 : nI k ≤ nI rl := by rw [n_le (by omega) (by omega)]; exact c2
      have h2 : 0 ≤ (k : Int) ∧ (k : Int) ≤ (rl : Int) := by omega
      unfold f_R_shorten f_C_forgetBehind
      simp (disch := omega) only [if_neg c1, if_pos h2, w_ref0, if_true, if_neg m1, n_le, n_lt, if_pos c2]
      refine ⟨Or.inl trivial, trivial, trivial, ?_⟩
      have e5 : (if rl ≤ k then nI rl else nI k) = nI k := by
        split
        · congr 1; omega
        · rfl
      have e6 : (if k < fl then nI k else nI fl) = nI (if k < fl then k else fl) := by split <;> rfl
      rw [e5, e6]
      refine ⟨n, k, if k < fl then k else fl, nd, ⟨rfl, rfl, rfl, rfl, by omega, rfl, by split <;> omega, rfl, rfl, hnd⟩, ⟨rfl, rfl, rfl, rfl⟩, hg, fun i hi => ht i (by omega), htr, hre, hor, hfe, fun s a b q1 q2 q3 => hco s a b q1 q2 (by split at q3 <;> omega), Or.inl rfl⟩
    · have c3 : ¬ nI k ≤ nI rl := by rw [n_le (by omega) (by omega)]; exact c2
      have h2 : ¬ (0 ≤ (k : Int) ∧ (k : Int) ≤ (rl : Int)) := by omega
      simp only [if_neg c1, if_neg c3, if_neg h2, w_ref1, if_neg m1, if_true]
      exact ⟨Or.inr trivial, trivial, trivial, hrel⟩
theorem d_3 : (3 : Int32).toInt = 3 := by decide
theorem d_4 : (4 : Int32).toInt = 4 := by decide
theorem fits_node : fit_node 10000 relM := by
  intro vU vFW vFB vFE vFN vFL vFX vFY vFs vFf vFt vFn vFd vOE vOn vTS vTf vCF vCn vCc vCr vCs vGF vGS vGh vGi vGc vGo vGr vRL vRt vMT vMP vMK vMB vMD vME vMO vMF vMS vMX vMW vMh vMi vMc vMt vMn vMl vMs vMd vMe vMo vMw vMu p0 p1 hR
  have hrel := hR
  obtain ⟨n, rl, fl, nd, ⟨rfl, rfl, rfl, rfl, hrl, rfl, hfl, rfl, rfl, hnd⟩, ⟨rfl, rfl, rfl, rfl⟩, hg, ht, htr, hre, hor, hfe, hco, hmo⟩ := hR
  obtain ⟨m1, m2, m3, m4⟩ := m10
  have ed := n_tI (a := nd) (by omega)
  have ed1 : (nI nd - 1).toInt = (nd : Int) - 1 := by
    rw [x_sub (by rw [ed, x_1]; omega) (by rw [ed, x_1]; omega), ed, x_1]
  have m5 : ¬ (4 : Int32) = 1 ∧ (1 : Int32) ≠ 4 := by decide
  unfold o_L_node f_L_node o_H_node f_H_node o_M_node f_M_node
  simp only [bd_def, w_in, d_0, d_3, ed1]
  by_cases c1 : p0 < 0
  · have h1 := x_lt c1; rw [d_0] at h1
    have h2 : ¬ (0 ≤ p0.toInt ∧ p0.toInt ≤ (nd : Int) - 1) := by omega
    simp only [if_pos c1, if_neg h2, w_ref1, if_neg m1, if_neg m2, if_true]
    exact ⟨⟨trivial, Or.inr (Or.inl trivial)⟩, trivial, trivial, fun q => absurd q m1, hrel⟩
  · have h1 := x_nlt c1; rw [d_0] at h1
    obtain ⟨k, rfl, e1, e2⟩ := n_of h1
    rw [← e1] at h1 ⊢
    by_cases c2 : k < nd
    · have c3 : nI k < nI nd := by rw [n_lt (by omega) (by omega)]; exact c2
      have h2 : 0 ≤ (k : Int) ∧ (k : Int) ≤ (nd : Int) - 1 := by omega
      by_cases c4 : p1 < 0
      · have h4 := x_lt c4; rw [d_0] at h4
        have h5 : ¬ (0 ≤ p1.toInt ∧ p1.toInt ≤ 3) := by omega
        simp only [if_neg c1, if_pos c3, if_pos h2, if_pos c4, if_neg h5, w_ref2, if_neg m1, if_true, if_neg m5.2]
        exact ⟨⟨trivial, Or.inr (Or.inr trivial)⟩, trivial, trivial, fun q => absurd q m3, hrel⟩
      · have h4 := x_nlt c4; rw [d_0] at h4
        obtain ⟨w, rfl, f1, f2⟩ := n_of h4
        rw [← f1] at h4 ⊢
        by_cases c5 : w < 4
        · have c6 : nI w < 4 := by show nI w < nI 4; rw [n_lt (by omega) (by omega)]; exact c5
          have h5 : 0 ≤ (w : Int) ∧ (w : Int) ≤ 3 := by omega
          have e7 : f_T_fact (nI nd) vTf (nI k) (nI w) = vTf (k * 4 + w) ∧ o_T_fact (nI nd) vTf (nI k) (nI w) := by
            have y1 : ¬ nd ≤ k := by omega
            have y2 : ¬ 470 ≤ k := by omega
            have y3 : ¬ 4 ≤ w := by omega
            have y4 : ¬ k < 0 := by omega
            have y5 : ¬ w < 0 := by omega
            unfold f_T_fact o_T_fact
            simp (disch := omega) only [n_lit, n_lt, n_le, n_mul, n_add, n_clamp, if_neg y1, if_neg y2, if_neg y3, if_neg y4, if_neg y5]
            exact ⟨trivial, n_in (by omega) (by omega), trivial⟩
          have e9 : (4 : Int32) * nI k + nI w = nI (k * 4 + w) := by
            show nI 4 * nI k + nI w = _
            rw [n_mul, n_add, Nat.mul_comm]
          simp (disch := omega) only [if_neg c1, if_pos c3, if_pos h2, if_neg c4, if_pos c6, if_pos h5, if_neg m1, w_ref0, e7.1, e9, n_clamp, if_true]
          have e8 := htr (k * 4 + w) (by omega)
          refine ⟨⟨⟨e7.2, trivial⟩, Or.inl trivial⟩, ⟨n_in (by omega) (by omega), trivial⟩, trivial, fun _ => ?_, hrel⟩
          rw [← e8]; exact w_U
        · have c6 : ¬ nI w < 4 := by show ¬ nI w < nI 4; rw [n_lt (by omega) (by omega)]; exact c5
          have h5 : ¬ (0 ≤ (w : Int) ∧ (w : Int) ≤ 3) := by omega
          simp only [if_neg c1, if_pos c3, if_pos h2, if_neg c4, if_neg c6, if_neg h5, w_ref2, if_neg m1, if_true, if_neg m5.2]
          exact ⟨⟨trivial, Or.inr (Or.inr trivial)⟩, trivial, trivial, fun q => absurd q m3, hrel⟩
    · have c3 : ¬ nI k < nI nd := by rw [n_lt (by omega) (by omega)]; exact c2
      have h2 : ¬ (0 ≤ (k : Int) ∧ (k : Int) ≤ (nd : Int) - 1) := by omega
      simp only [if_neg c1, if_neg c3, if_neg h2, w_ref1, if_neg m1, if_neg m2, if_true]
      exact ⟨⟨trivial, Or.inr (Or.inl trivial)⟩, trivial, trivial, fun q => absurd q m1, hrel⟩

theorem fits_clear : fit_clear 10000 relM := by
  intro vFW vFB vFE vFN vFL vFX vFY vFs vFf vFt vFn vFd vOE vOn vTS vTf vCF vCn vCc vCr vCs vGF vGS vGh vGi vGc vGo vGr vRL vRt vMT vMP vMK vMB vMD vME vMO vMF vMS vMX vMW vMh vMi vMc vMt vMn vMl vMs vMd vMe vMo vMw vMu hR
  obtain ⟨n, rl, fl, nd, ⟨rfl, rfl, rfl, rfl, hrl, rfl, hfl, rfl, rfl, hnd⟩, ⟨rfl, rfl, rfl, rfl⟩, hg, ht, htr, hre, hor, hfe, hco, hmo⟩ := hR
  have key : (fun u : Int32 × Int32 × (Nat → Int32) => u.1 = 0 ∧ u.2.1 = 0 ∧ ∀ s, s < 10 → u.2.2 s = 0) (f_G_forget 10000 vGF (nI n) vGr) ∧ o_G_forget 10000 vGF (nI n) vGr := by
    unfold f_G_forget o_G_forget
    refine rj_G_forget_2 _ _ (fun x _ => 100 - x.toNatClampNeg) (fun x r => ∃ s, s ≤ 10 ∧ x = nI s ∧ ∀ s', s' < s → r s' = 0) (fun u : Int32 × Int32 × (Nat → Int32) => u.1 = 0 ∧ u.2.1 = 0 ∧ ∀ s, s < 10 → u.2.2 s = 0) ?_ 10000 0 vGr ?_ ⟨0, by omega, rfl, fun s' h => absurd h (Nat.not_lt_zero _)⟩
    · intro rec reco x r ⟨s, hs, ex, h1⟩ ih
      unfold s_G_forget_2 os_G_forget_2
      have e10 : ((10 : Int32) ≤ x) = (s = 10) := n_cnt (n := 10) ex hs (by omega)
      simp only [e10]
      by_cases c0 : s = 10
      · simp only [if_pos c0]; exact ⟨⟨trivial, trivial, fun s' hs' => h1 s' (by omega)⟩, trivial⟩
      · subst ex
        simp only [if_neg c0]
        rw [n_clamp (by omega)]
        have := ih (nI s + 1) (upd r s 0) ⟨s + 1, by omega, n_1, fun s' hs' => by rw [n_upd]; split; rfl; exact h1 s' (by omega)⟩ (by rw [n_1, n_clamp (by omega), n_clamp (by omega)]; omega)
        exact ⟨this.1, n_in (by omega) (by omega), this.2⟩
    · show 100 - (nI 0).toNatClampNeg < 10000
      rw [n_clamp (by omega)]; omega
  obtain ⟨⟨k1, k2, k3⟩, k4⟩ := key
  unfold o_H_clear f_H_clear f_M_clear
  simp only [bd_def]
  generalize f_G_forget 10000 vGF (nI n) vGr = u at *
  refine ⟨⟨k4, trivial⟩, 0, 0, 0, 0, ⟨k2, rfl, ?_, rfl, by omega, ?_, by omega, rfl, rfl, by omega⟩, ⟨rfl, rfl, rfl, rfl⟩, ⟨by omega, fun p h => absurd h (Nat.not_lt_zero _)⟩, fun i h => absurd h (Nat.not_lt_zero _), fun i h => absurd h (Nat.not_lt_zero _), ⟨?_, ?_, ?_, fun p h => absurd h (Nat.not_lt_zero _), ?_⟩, ⟨[], ⟨rfl, fun q h => absurd h (Nat.not_lt_zero _), fun _ _ => rfl, fun q h => absurd h (Nat.not_lt_zero _)⟩, fun q h => absurd h (Nat.not_lt_zero _)⟩, ⟨?_, fun p h => absurd h (Nat.not_lt_zero _), ?_⟩, fun s a b _ h1 h2 => by omega, Or.inl rfl⟩
  · unfold f_R_shorten
    rw [if_neg (by decide)]
    by_cases c : rl = 0
    · subst c; rw [if_pos (by decide)]
    · rw [if_neg (by rw [n_le0 (by omega)]; exact c)]; rfl
  · unfold f_C_forgetBehind
    by_cases c : fl = 0
    · subst c; rw [if_neg (by decide)]
    · rw [if_pos (by show nI 0 < nI fl; rw [n_lt (by omega) (by omega)]; omega)]; rfl
  · intro s k h1 _ _; rw [k3 s h1, bt_0]
  · intro s t w h1 _ _ h; rw [k3 s h1, bt_0] at h; exact absurd h (by decide)
  · intro s h1; rw [k3 s h1, bt_0]
  · intro Q _ _ s t h1 _ h; rw [k3 s h1, bt_0] at h; exact absurd h (by decide)
  · intro k _ _; rw [k1, bt_0]
  · intro Q _ s _ h; rw [k1, bt_0] at h; exact absurd h (by decide)
theorem rel_start : relM 0 (fun _ => 0) 0 (fun _ => 0) (fun _ => 0) 0 0 (fun _ => 0) (fun _ => 0) (fun _ => 0) (fun _ => 0) (fun _ => 0) 0 (fun _ => 0) 0 0 0 0 (fun _ => 0) (fun _ => 0) (fun _ => 0) (fun _ => 0) (fun _ => 0) (fun _ => 0) (fun _ => 0) := by
  refine ⟨0, 0, 0, 0, ⟨rfl, rfl, rfl, rfl, by omega, rfl, by omega, rfl, rfl, by omega⟩, ⟨rfl, rfl, rfl, rfl⟩, ⟨by omega, fun p h => absurd h (Nat.not_lt_zero _)⟩, fun i h => absurd h (Nat.not_lt_zero _), fun i h => absurd h (Nat.not_lt_zero _), ⟨?_, ?_, ?_, fun p h => absurd h (Nat.not_lt_zero _), ?_⟩, ⟨[], ⟨rfl, fun q h => absurd h (Nat.not_lt_zero _), fun _ _ => rfl, fun q h => absurd h (Nat.not_lt_zero _)⟩, fun q h => absurd h (Nat.not_lt_zero _)⟩, ⟨?_, fun p h => absurd h (Nat.not_lt_zero _), ?_⟩, fun s a b _ h1 h2 => by omega, Or.inl rfl⟩
  · intro s k _ _ _; exact bt_0
  · intro s t w _ _ _ h; rw [bt_0] at h; exact absurd h (by decide)
  · intro s _; exact bt_0
  · intro Q _ _ s t _ _ h; rw [bt_0] at h; exact absurd h (by decide)
  · intro k _ _; exact bt_0
  · intro Q _ s _ h; rw [bt_0] at h; exact absurd h (by decide)
