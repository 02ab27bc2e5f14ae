/-! The class's chart: rests -/
/-- the chart holds the table over a part -/
def hcs (vCn vCc : Nat → Int32) (tb : Nat → Nat → Nat → vE) (s i j : Nat) : Prop := vCn (cN s i j) = nI (tb s i j).1 ∧ vCc (cN s i j) = cI (tb s i j).2
theorem gOK_it {n : Nat} {gh gi gc : Nat → Int32} (hg : gOK n gh gi gc) {p : Nat} (hp : p < n) : isIt1 (gi (3 * p)) ∧ isIt1 (gi (3 * p + 1)) ∧ isIt1 (gi (3 * p + 2)) := by
  obtain ⟨-, i0, i12, -⟩ := hg.2 p hp
  refine ⟨Or.inr i0, ?_⟩
  rcases i12 with q | q
  · exact ⟨Or.inl q.1, Or.inl q.2⟩
  · exact ⟨Or.inr q.1, q.2⟩
theorem itE_G {n : Nat} {gh gi gc rt : Nat → Int32} {lv : Nat → Nat} (hg : gOK n gh gi gc) (hl : lvOK n gh gi lv) {x : Int32} (hx : isIt1 x) {i j : Nat} (hj : j ≤ 24) : eG 480000 (itE rt (vV n gh gi gc rt) x i j) ∧ (itE rt (vV n gh gi gc rt) x i j).1 ≤ 1000000000 := by
  refine ⟨itE_g (fun q1 q2 q3 => ?_), ?_⟩
  · have hx : isIt x := by
      rcases hx with q | q
      · exact absurd q q2
      · exact q
    obtain ⟨k, hk, rfl⟩ := isIt_sym hx q1
    rw [n_clamp (by omega)]
    have := hl.1 k
    exact eG_w (vV_g hg hl hk q3) (by unfold lim; omega)
  · unfold itE
    repeat' split
    all_goals first | exact vV_sat | decide
theorem k_ends2 {n p k j : Nat} {gi : Nat → Int32} (hn : n ≤ 24) (hp : p < n) (hj : j ≤ 24) (hj0 : 1 ≤ j) : f_G_lastSecondEnd (nI n) gi (nI p) (nI j) = nI (if gi (3 * p + 2) = -1 then j else j - 1) ∧ o_G_lastSecondEnd (nI n) gi (nI p) (nI j) ∧ f_G_leastSecondEnd (nI n) gi (nI p) (nI k) (nI j) = nI (sLo gi p k j) ∧ o_G_leastSecondEnd (nI n) gi (nI p) (nI k) (nI j) := by
  obtain ⟨e1, e2⟩ := k_item2 (gi := gi) hn hp
  unfold f_G_lastSecondEnd o_G_lastSecondEnd f_G_leastSecondEnd o_G_leastSecondEnd sLo
  simp only [bd_def, e1]
  by_cases c : gi (3 * p + 2) = -1
  · simp only [if_pos c]; exact ⟨trivial, ⟨e2, trivial⟩, trivial, e2, trivial⟩
  · simp only [if_neg c]
    exact ⟨by rw [n_lit, n_sub hj0], ⟨e2, trivial⟩, by rw [n_1], e2, trivial⟩
set_option maxHeartbeats 1000000 in
/-- a production's rest behind a place -/
theorem k_fillRest {N_ n rl p k j : Nat} {gh gi gc rt vCn vCc vCr vCs : Nat → Int32} {lv : Nat → Nat} (hN : 1000 ≤ N_) (hg : gOK n gh gi gc) (hl : lvOK n gh gi lv) (hp : p < n) (hr : rl ≤ 24) (hj : j ≤ rl) (hj0 : 1 ≤ j) (hk : k ≤ j)
    (hc : ∀ s a b, s < 10 → k ≤ a → a < b → b ≤ j → hcs vCn vCc (vV n gh gi gc rt) s a b) :
    f_C_fillRest N_ vCn vCc vCr vCs (nI n) gi (nI rl) rt (nI p) (nI k) (nI j) = (upd vCr (25 * p + k) (nI (eS (rst gi rt (vV n gh gi gc rt) p k j)).1), upd vCs (25 * p + k) (cI (rst gi rt (vV n gh gi gc rt) p k j).2)) ∧ o_C_fillRest N_ vCn vCc vCr vCs (nI n) gi (nI rl) rt (nI p) (nI k) (nI j) := by
  have hn := hg.1
  obtain ⟨e1, o1⟩ := k_item1 (gi := gi) hn hp
  obtain ⟨e2, o2⟩ := k_item2 (gi := gi) hn hp
  obtain ⟨e3, o3, e4, o4⟩ := k_ends2 (k := k) (gi := gi) hn hp (j := j) (by omega) hj0
  obtain ⟨-, x1, x2⟩ := gOK_it hg hp
  unfold f_C_fillRest o_C_fillRest
  simp only [bd_def, e1, e2, e3, e4]
  have hrc : f_C_restCell (nI p) (nI k) = nI (25 * p + k) := by
    unfold f_C_restCell
    simp (disch := omega) only [n_lit, n_lt, n_le, n_mul, n_add]
    rw [if_neg (by omega), if_neg (by omega), if_neg (by omega), if_neg (by omega), Nat.mul_comm]
  simp only [hrc]
  suffices h : _ ∧ _ from ⟨h.1, o1, o2, o3, o4, h.2⟩
  refine rj_C_fillRest_51 (nI k) (nI j) (gi (3 * p + 1)) (gi (3 * p + 2)) (nI (if gi (3 * p + 2) = -1 then j else j - 1)) vCn vCc (nI rl) rt _ _ (fun _ _ x => 100 - x.toNatClampNeg)
    (fun x6 x7 x9 => ∃ t, t ≤ sNo gi p k j ∧ x9 = nI (sLo gi p k j + t) ∧ x6 = nI (eS (sm (fun q => eM (itE rt (vV n gh gi gc rt) (gi (3 * p + 1)) k q) (itE rt (vV n gh gi gc rt) (gi (3 * p + 2)) q j)) (sLo gi p k j) t)).1 ∧ x7 = cI (sm (fun q => eM (itE rt (vV n gh gi gc rt) (gi (3 * p + 1)) k q) (itE rt (vV n gh gi gc rt) (gi (3 * p + 2)) q j)) (sLo gi p k j) t).2)
    (fun r => r = (upd vCr (25 * p + k) (nI (eS (rst gi rt (vV n gh gi gc rt) p k j)).1), upd vCs (25 * p + k) (cI (rst gi rt (vV n gh gi gc rt) p k j).2))) ?_ N_ 0 (-1) (nI (sLo gi p k j)) ?_ ⟨0, by omega, rfl, rfl, rfl⟩
  · intro rec reco x6 x7 x9 ⟨t, ht, e9, e6, e7⟩ ih
    have hlo : sLo gi p k j + t ≤ 30 ∧ k ≤ sLo gi p k j ∧ (t < sNo gi p k j → sLo gi p k j + t ≤ j) ∧ (((if gi (3 * p + 2) = -1 then j else j - 1) < sLo gi p k j + t) ↔ t = sNo gi p k j) := by
      unfold sLo sNo at *
      by_cases c : gi (3 * p + 2) = -1
      · simp only [if_pos c] at *; omega
      · simp only [if_neg c] at *; omega
    obtain ⟨b1, b2, b3, b4⟩ := hlo
    subst e9
    unfold s_C_fillRest_51 os_C_fillRest_51
    have hcond : (nI (if gi (3 * p + 2) = -1 then j else j - 1) < nI (sLo gi p k j + t)) = (t = sNo gi p k j) := by
      rw [n_lt (by split <;> omega) (by omega)]; exact propext b4
    simp only [hcond]
    by_cases c : t = sNo gi p k j
    · simp (disch := omega) only [if_pos c, n_lit, n_lt, n_le, n_clamp]
      rw [if_neg (by omega), if_neg (by omega), if_neg (by omega), if_neg (by omega)]
      subst e6; subst e7
      rw [c]
      exact ⟨rfl, n_in (by omega) (by omega), n_in (by omega) (by omega), trivial⟩
    · have htl : t < sNo gi p k j := by omega
      have hq := b3 htl
      simp only [if_neg c, bd_def]
      generalize hq0 : sLo gi p k j + t = q at *
      obtain ⟨t1, u1⟩ := k_trees (rt := rt) (i := k) (j := q) x1 hr (by omega) (by omega) (tb := vV n gh gi gc rt) (vCn := vCn) (fun s hs _ hkq => (hc s k q hs (by omega) hkq (by omega)).1)
      obtain ⟨t2, u2⟩ := k_trees (rt := rt) (i := q) (j := j) x2 hr (by omega) (by omega) (tb := vV n gh gi gc rt) (vCn := vCn) (fun s hs _ hkq => (hc s q j hs (by omega) hkq (by omega)).1)
      obtain ⟨t3, u3⟩ := k_cost (rt := rt) (i := k) (j := q) x1 (by omega) (by omega) (tb := vV n gh gi gc rt) (vCc := vCc) (fun s hs _ hkq => (hc s k q hs (by omega) hkq (by omega)).2)
      obtain ⟨t4, u4⟩ := k_cost (rt := rt) (i := q) (j := j) x2 (by omega) (by omega) (tb := vV n gh gi gc rt) (vCc := vCc) (fun s hs _ hkq => (hc s q j hs (by omega) hkq (by omega)).2)
      have hnx : sm (fun q => eM (itE rt (vV n gh gi gc rt) (gi (3 * p + 1)) k q) (itE rt (vV n gh gi gc rt) (gi (3 * p + 2)) q j)) (sLo gi p k j) (t + 1) = eA (sm (fun q => eM (itE rt (vV n gh gi gc rt) (gi (3 * p + 1)) k q) (itE rt (vV n gh gi gc rt) (gi (3 * p + 2)) q j)) (sLo gi p k j) t) (eM (itE rt (vV n gh gi gc rt) (gi (3 * p + 1)) k q) (itE rt (vV n gh gi gc rt) (gi (3 * p + 2)) q j)) := by
        rw [sm_1, hq0]
      have hgs : eG 960000 (sm (fun q => eM (itE rt (vV n gh gi gc rt) (gi (3 * p + 1)) k q) (itE rt (vV n gh gi gc rt) (gi (3 * p + 2)) q j)) (sLo gi p k j) t) := eG_sm (fun z z1 z2 => eG_w (eG_M (itE_G hg hl x1 (by omega)).1 (itE_G hg hl x2 (by omega)).1) (by omega))
      obtain ⟨ga, gA⟩ := itE_G (rt := rt) hg hl x1 (i := k) (j := q) (by omega)
      obtain ⟨gb, gB⟩ := itE_G (rt := rt) hg hl x2 (i := q) (j := j) (by omega)
      generalize sm (fun q => eM (itE rt (vV n gh gi gc rt) (gi (3 * p + 1)) k q) (itE rt (vV n gh gi gc rt) (gi (3 * p + 2)) q j)) (sLo gi p k j) t = acc at *
      generalize itE rt (vV n gh gi gc rt) (gi (3 * p + 1)) k q = a at *
      generalize itE rt (vV n gh gi gc rt) (gi (3 * p + 2)) q j = b at *
      simp (disch := omega) only [t1, t2, n_le0]
      have hmu : ∀ (y6 y7 : Int32), 100 - (nI q + 1).toNatClampNeg < 100 - (nI q).toNatClampNeg := by
        intro _ _
        rw [n_1, n_clamp (by omega), n_clamp (by omega)]; omega
      by_cases za : a.1 = 0
      · simp only [if_pos za]
        have hz : a = eZ := eG_zero ga za
        have := ih x6 x7 (nI q + 1) ⟨t + 1, by omega, by rw [n_1]; congr 1; omega, by rw [hnx, hz, eZ_M, eA_z, e6], by rw [hnx, hz, eZ_M, eA_z, e7]⟩ (hmu 0 0)
        exact ⟨this.1, u1, this.2⟩
      · simp only [if_neg za]
        by_cases zb : b.1 = 0
        · simp only [if_pos zb]
          have hz : b = eZ := eG_zero gb zb
          have := ih x6 x7 (nI q + 1) ⟨t + 1, by omega, by rw [n_1]; congr 1; omega, by rw [hnx, hz, eM_z, eA_z, e6], by rw [hnx, hz, eM_z, eA_z, e7]⟩ (hmu 0 0)
          exact ⟨this.1, u1, u2, this.2⟩
        · simp only [if_neg zb]
          obtain ⟨ca, a2, a3⟩ := eG_some ga za
          obtain ⟨cb, b5, b6⟩ := eG_some gb zb
          have f1 : f_H_atMostMany (x6.toInt64 + (nI a.1).toInt64 * (nI b.1).toInt64) = nI (eS (eA acc (eM a b))).1 := by
            rw [e6, k_many eS1 gA gB]; show nI (satN (satN acc.1 + a.1 * b.1)) = nI (satN (acc.1 + a.1 * b.1)); rw [sat_a]
          have f2 : f_C_cheaper x7 (f_C_leastCost vCc (gi (3 * p + 1)) (nI k) (nI q) + f_C_leastCost vCc (gi (3 * p + 2)) (nI q) (nI j)) = cI (eA acc (eM a b)).2 := by
            rw [t3 za, t4 zb, a2, b5, e7]
            show f_C_cheaper (cI acc.2) (nI ca + nI cb) = cI (oMin acc.2 (oAdd a.2 b.2))
            rw [n_add, k_cheaper (by omega) (fun z hz => by have := hgs.2 z hz; omega), a2, b5]; rfl
          simp only [f1, f2]
          have := ih (nI (eS (eA acc (eM a b))).1) (cI (eA acc (eM a b)).2) (nI q + 1) ⟨t + 1, by omega, by rw [n_1]; congr 1; omega, by rw [hnx], by rw [hnx]⟩ (hmu 0 0)
          exact ⟨this.1, u1, u2, u3, u4, this.2⟩
  · have : sLo gi p k j ≤ 30 := by unfold sLo; split <;> omega
    show 100 - (nI (sLo gi p k j)).toNatClampNeg < N_
    rw [n_clamp (by omega)]; unfold sLo; split <;> omega
