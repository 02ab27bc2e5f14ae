/-! The class's chart: a production is added to a part -/
theorem rst_G {n : Nat} {gh gi gc rt : Nat → Int32} {lv : Nat → Nat} (hg : gOK n gh gi gc) (hl : lvOK n gh gi lv) {p f j : Nat} (hp : p < n) (hf : f ≤ j) (hj : j ≤ 24) : eG 960000 (rst gi rt (vV n gh gi gc rt) p f j) := by
  obtain ⟨-, x1, x2⟩ := gOK_it hg hp
  unfold rst
  refine eG_sm (fun q h1 h2 => ?_)
  have hq : q ≤ j := by
    unfold sLo sNo at h2
    by_cases c : gi (3 * p + 2) = -1
    · rw [if_pos c, if_pos c] at h2; omega
    · rw [if_neg c, if_neg c] at h2
      unfold sLo at h1; rw [if_neg c] at h1; omega
  exact eG_w (eG_M (itE_G hg hl x1 (by omega)).1 (itE_G hg hl x2 (by omega)).1) (by omega)
theorem own_G {n : Nat} {gh gi gc : Nat → Int32} (hg : gOK n gh gi gc) {p : Nat} (hp : p < n) : ∃ c, c ≤ 1000 ∧ gc p = nI c ∧ own gc p = (1, some c) ∧ eG 1000 (own gc p) := by
  obtain ⟨-, -, -, c0, c9⟩ := hg.2 p hp
  obtain ⟨k, e, e2, e3⟩ := n_of c0
  have e4 : own gc p = (1, some k) := by unfold own; rw [e, n_clamp e3]
  refine ⟨k, by omega, e, e4, ?_⟩
  rw [e4]
  exact ⟨by simp, fun c hc => by simp at hc; omega⟩
theorem fst_in {gi : Nat → Int32} {p i j t : Nat} (hij : i < j) (ht : t < fNo gi p i j) : i < fLo gi p i j + t ∧ fLo gi p i j + t ≤ j ∧ (fLo gi p i j + t = j → gi (3 * p + 1) = -1) := by
  unfold fLo fNo at *
  by_cases c : gi (3 * p + 1) = -1
  · simp only [if_pos c] at *; exact ⟨by omega, by omega, fun _ => c⟩
  · simp only [if_neg c] at *
    by_cases c2 : gi (3 * p + 2) = -1
    · simp only [if_pos c2] at *; exact ⟨by omega, by omega, fun _ => by omega⟩
    · simp only [if_neg c2] at *; exact ⟨by omega, by omega, fun _ => by omega⟩
theorem k_restCell {p f : Nat} (hp : p < 24) (hf : f ≤ 24) : f_C_restCell (nI p) (nI f) = nI (25 * p + f) := by
  unfold f_C_restCell
  simp (disch := omega) only [n_lit, n_lt, n_le, n_mul, n_add]
  rw [if_neg (by omega), if_neg (by omega), if_neg (by omega), if_neg (by omega), Nat.mul_comm]
/-- the sum over a production's first ends, with its own cost -/
def sF (gi gc rt : Nat → Int32) (tb : Nat → Nat → Nat → vE) (p i j t : Nat) : vE := sm (fun f => eM (own gc p) (eM (itE rt tb (gi (3 * p)) i f) (rst gi rt tb p f j))) (fLo gi p i j) t
theorem sF_all {gi gc rt : Nat → Int32} {tb : Nat → Nat → Nat → vE} {p i j : Nat} : sF gi gc rt tb p i j (fNo gi p i j) = eM (own gc p) (prd gi rt tb p i j) := by
  unfold prd sF; rw [sm_M]
set_option maxHeartbeats 1000000 in
theorem k_addP {N_ n rl p i j : Nat} {gh gi gc rt vCn vCc vCr vCs : Nat → Int32} {lv : Nat → Nat} {acc : vE} (hN : 1000 ≤ N_) (hg : gOK n gh gi gc) (hl : lvOK n gh gi lv) (hp : p < n) (hr : rl ≤ 24) (hj : j ≤ rl) (hij : i < j)
    (hA : ∀ s a b, s < 10 → i ≤ a → a < b → b ≤ j → b - a < j - i → hcs vCn vCc (vV n gh gi gc rt) s a b)
    (hB : gi (3 * p + 1) = -1 → ∀ s, s < 10 → gi (3 * p) = nI s → hcs vCn vCc (vV n gh gi gc rt) s i j)
    (hR : rOK n j (i + 1) gi rt (vV n gh gi gc rt) vCr vCs) {h : Nat} (hh : h < 10) (eh : gh p = nI h) (ha : eG 2000000 acc) (h1 : vCn (cN h i j) = nI (eS acc).1) (h2 : vCc (cN h i j) = cI acc.2) :
    f_C_addProduction N_ vCn vCc vCr vCs (nI n) gh gi gc (nI rl) rt (nI p) (nI i) (nI j) = (upd vCn (cN h i j) (nI (eS (eA acc (eM (own gc p) (prd gi rt (vV n gh gi gc rt) p i j)))).1), upd vCc (cN h i j) (cI (eA acc (eM (own gc p) (prd gi rt (vV n gh gi gc rt) p i j))).2)) ∧ o_C_addProduction N_ vCn vCc vCr vCs (nI n) gh gi gc (nI rl) rt (nI p) (nI i) (nI j) := by
  have hn := hg.1
  obtain ⟨e0, o0⟩ := k_item0 (gi := gi) hn hp
  obtain ⟨e3, o3⟩ := k_head (gh := gh) hn hp
  obtain ⟨e4, o4, o5, e5⟩ := k_ends1 (gi := gi) hn hp (i := i) (j := j) (by omega) hij
  obtain ⟨x0, -, -⟩ := gOK_it hg hp
  obtain ⟨co, co1, co2, co3, co4⟩ := own_G hg hp
  obtain ⟨e6, o6⟩ := k_own (gc := gc) hn hp
  obtain ⟨ec, ec2⟩ := k_cell hh hij (by omega)
  have t0 : f_C_trees vCn (nI rl) rt (nI h) (nI i) (nI j) = nI (eS acc).1 ∧ o_C_trees vCn (nI rl) rt (nI h) (nI i) (nI j) := by
    unfold f_C_trees o_C_trees
    simp (disch := omega) only [bd_def, ec, n_lit, n_eqm, n_lt, n_le, n_clamp, if_false]
    rw [if_pos hh, if_pos hh, if_neg (by omega), if_neg (by omega), if_neg (by omega), if_neg (by omega)]
    exact ⟨h1, n_in (by omega) (by omega), trivial⟩
  have t1 : f_C_leastCost vCc (nI h) (nI i) (nI j) = cI acc.2 ∧ o_C_leastCost vCc (nI h) (nI i) (nI j) := by
    unfold f_C_leastCost o_C_leastCost
    simp (disch := omega) only [bd_def, ec, n_lit, n_eqm, n_lt, n_le, n_clamp, if_false]
    rw [if_pos hh, if_pos hh, if_neg (by omega), if_neg (by omega), if_neg (by omega), if_neg (by omega)]
    exact ⟨h2, n_in (by omega) (by omega), trivial⟩
  unfold f_C_addProduction o_C_addProduction
  simp only [bd_def, e0, e3, eh, e4, t0.1, t1.1]
  suffices hh : _ ∧ _ from ⟨hh.1, o3, o0, t0.2, t1.2, o5, o4, hh.2⟩
  refine rj_C_addProduction_64 (nI p) (nI i) (gi (3 * p)) (f_G_lastFirstEnd (nI n) gi (nI p) (nI j)) vCn vCc vCr vCs (nI n) gc (nI rl) rt _ _ (fun _ _ x => 100 - x.toNatClampNeg)
    (fun x6 x7 x9 => ∃ t, t ≤ fNo gi p i j ∧ x9 = nI (fLo gi p i j + t) ∧ x6 = nI (eS (eA acc (sF gi gc rt (vV n gh gi gc rt) p i j t))).1 ∧ x7 = cI (eA acc (sF gi gc rt (vV n gh gi gc rt) p i j t)).2)
    (fun r => r = (upd vCn (cN h i j) (nI (eS (eA acc (eM (own gc p) (prd gi rt (vV n gh gi gc rt) p i j)))).1), upd vCc (cN h i j) (cI (eA acc (eM (own gc p) (prd gi rt (vV n gh gi gc rt) p i j))).2))) ?_ N_ _ _ _ ?_ ⟨0, by omega, rfl, by rw [show sF gi gc rt (vV n gh gi gc rt) p i j 0 = eZ from rfl, eA_z], by rw [show sF gi gc rt (vV n gh gi gc rt) p i j 0 = eZ from rfl, eA_z]⟩
  · intro rec reco x6 x7 x9 ⟨t, ht, e9, ex6, ex7⟩ ih
    subst e9
    unfold s_C_addProduction_64 os_C_addProduction_64
    simp only [e5 t ht]
    by_cases c : t = fNo gi p i j
    · simp only [if_pos c]
      unfold f_C_write o_C_write
      simp (disch := omega) only [bd_def, ec, n_lit, n_lt, n_le, n_clamp]
      rw [if_neg (by omega), if_neg (by omega), if_neg (by omega), if_neg (by omega)]
      rw [ex6, ex7, c, sF_all]
      exact ⟨rfl, ⟨n_in (by omega) (by omega), n_in (by omega) (by omega), trivial⟩, trivial⟩
    · have htl : t < fNo gi p i j := by omega
      obtain ⟨f1, f2, f3⟩ := fst_in hij htl
      have hnx : sF gi gc rt (vV n gh gi gc rt) p i j (t + 1) = eA (sF gi gc rt (vV n gh gi gc rt) p i j t) (eM (own gc p) (eM (itE rt (vV n gh gi gc rt) (gi (3 * p)) i (fLo gi p i j + t)) (rst gi rt (vV n gh gi gc rt) p (fLo gi p i j + t) j))) := rfl
      have hgs : eG 2000000 (sF gi gc rt (vV n gh gi gc rt) p i j t) := by
        refine eG_sm (fun z z1 z2 => ?_)
        obtain ⟨-, y2, -⟩ := fst_in (gi := gi) (p := p) hij (t := z - fLo gi p i j) (by omega)
        exact eG_w (eG_M co4 (eG_M (itE_G hg hl x0 (by omega)).1 (rst_G hg hl hp (by omega) (by omega)))) (by omega)
      generalize hq0 : fLo gi p i j + t = q at *
      obtain ⟨t2, u2⟩ := k_trees (rt := rt) (i := i) (j := q) x0 hr (by omega) (by omega) (tb := vV n gh gi gc rt) (vCn := vCn) (fun s hs es hkq => by
        by_cases q9 : q = j
        · subst q9; exact (hB (f3 rfl) s hs es).1
        · exact (hA s i q hs (by omega) hkq (by omega) (by omega)).1)
      obtain ⟨t3, u3⟩ := k_cost (rt := rt) (i := i) (j := q) x0 (by omega) (by omega) (tb := vV n gh gi gc rt) (vCc := vCc) (fun s hs es hkq => by
        by_cases q9 : q = j
        · subst q9; exact (hB (f3 rfl) s hs es).2
        · exact (hA s i q hs (by omega) hkq (by omega) (by omega)).2)
      obtain ⟨r1, r2⟩ := hR p q hp (by omega) f2
      obtain ⟨ga, gA⟩ := itE_G (rt := rt) hg hl x0 (i := i) (j := q) (by omega)
      have gr := rst_G (rt := rt) hg hl hp f2 (j := j) (by omega)
      have y1 : ¬ 25 * p + q < 0 := by omega
      have y2 : ¬ 600 ≤ 25 * p + q := by omega
      simp (disch := omega) only [if_neg c, bd_def, k_restCell, n_lit, n_lt, n_le, n_clamp, n_add, if_neg y1, if_neg y2]
      simp only [r1, r2, t2]
      generalize sF gi gc rt (vV n gh gi gc rt) p i j t = acc2 at *
      generalize itE rt (vV n gh gi gc rt) (gi (3 * p)) i q = a at *
      generalize rst gi rt (vV n gh gi gc rt) p q j = r at *
      have hr1 : (eS r).1 ≤ 1000000000 := eS1
      simp (disch := omega) only [n_le]
      have hmu : 100 - (nI (q + 1)).toNatClampNeg < 100 - (nI q).toNatClampNeg := by
        rw [n_clamp (by omega), n_clamp (by omega)]; omega
      have hin : vp_in (nI (25 * p + q)) 600 := n_in (by omega) (by omega)
      have inv : ∀ {y6 y7 : Int32}, y6 = nI (eS (eA acc (eA acc2 (eM (own gc p) (eM a r))))).1 → y7 = cI (eA acc (eA acc2 (eM (own gc p) (eM a r)))).2 → ∃ t', t' ≤ fNo gi p i j ∧ nI (q + 1) = nI (fLo gi p i j + t') ∧ y6 = nI (eS (eA acc (sF gi gc rt (vV n gh gi gc rt) p i j t'))).1 ∧ y7 = cI (eA acc (sF gi gc rt (vV n gh gi gc rt) p i j t')).2 := fun q1 q2 => ⟨t + 1, by omega, by congr 1; omega, by rw [hnx]; exact q1, by rw [hnx]; exact q2⟩
      by_cases zr : (eS r).1 ≤ 0
      · simp only [if_pos zr]
        have hz : r = eZ := eG_zero gr (sat_0.mp (Nat.le_zero.mp zr))
        have := ih x6 x7 (nI (q + 1)) (inv (by rw [hz, eM_z, eM_z, eA_z, ex6]) (by rw [hz, eM_z, eM_z, eA_z, ex7])) hmu
        exact ⟨this.1, hin, this.2⟩
      · simp only [if_neg zr]
        by_cases za : a.1 ≤ 0
        · simp only [if_pos za]
          have hz : a = eZ := eG_zero ga (Nat.le_zero.mp za)
          have := ih x6 x7 (nI (q + 1)) (inv (by rw [hz, eZ_M, eM_z, eA_z, ex6]) (by rw [hz, eZ_M, eM_z, eA_z, ex7])) hmu
          exact ⟨this.1, hin, u2, this.2⟩
        · simp only [if_neg za]
          have zr' : r.1 ≠ 0 := fun q => zr (by rw [show (eS r).1 = satN r.1 from rfl, q]; decide)
          obtain ⟨ca, a2, a3⟩ := eG_some ga (by omega)
          obtain ⟨cr, b5, b6⟩ := eG_some gr zr'
          have g1 : f_H_atMostMany (x6.toInt64 + (nI a.1).toInt64 * (nI (eS r).1).toInt64) = nI (eS (eA acc (eA acc2 (eM (own gc p) (eM a r))))).1 := by
            rw [ex6, k_many eS1 gA hr1, co3]
            show nI (satN (satN (acc.1 + acc2.1) + a.1 * satN r.1)) = nI (satN (acc.1 + (acc2.1 + 1 * (a.1 * r.1))))
            rw [sat_a, ← sat_a2, sat_m2, sat_a2, Nat.one_mul, Nat.add_assoc]
          have g2 : f_C_cheaper x7 (f_G_ownCost (nI n) gc (nI p) + f_C_leastCost vCc (gi (3 * p)) (nI i) (nI q) + cI r.2) = cI (eA acc (eA acc2 (eM (own gc p) (eM a r)))).2 := by
            rw [t3 (by omega), a2, b5, ex7, e6, co2, co3]
            show f_C_cheaper (cI (oMin acc.2 acc2.2)) (nI co + nI ca + nI cr) = cI (oMin acc.2 (oMin acc2.2 (oAdd (some co) (oAdd a.2 r.2))))
            rw [n_add, n_add, k_cheaper (by omega) (fun z hz => by have := (eG_A ha hgs).2 z hz; omega), a2, b5, oMin_a]
            show cI (oMin acc.2 (oMin acc2.2 (some (co + ca + cr)))) = cI (oMin acc.2 (oMin acc2.2 (some (co + (ca + cr)))))
            rw [Nat.add_assoc]
          simp only [g1, g2]
          have := ih _ _ (nI (q + 1)) (inv rfl rfl) hmu
          exact ⟨this.1, hin, u2, o6, u3, hin, this.2⟩
  · show 100 - (nI (fLo gi p i j)).toNatClampNeg < N_
    omega
