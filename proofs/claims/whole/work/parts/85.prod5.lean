def nwI (gi : Nat → Int32) (n : Nat) (p1 p2 p3 : Int32) : Nat → Int32 := upd (upd (upd gi (3 * n) p1) (3 * n + 1) p2) (3 * n + 2) p3
theorem nw_old {gi : Nat → Int32} {n p : Nat} {p1 p2 p3 : Int32} (h : p < n) : nwI gi n p1 p2 p3 (3 * p) = gi (3 * p) ∧ nwI gi n p1 p2 p3 (3 * p + 1) = gi (3 * p + 1) ∧ nwI gi n p1 p2 p3 (3 * p + 2) = gi (3 * p + 2) := by
  unfold nwI
  simp only [n_upd]
  refine ⟨?_, ?_, ?_⟩ <;> rw [if_neg (by omega), if_neg (by omega), if_neg (by omega)]
theorem nw_new {gi : Nat → Int32} {n : Nat} {p1 p2 p3 : Int32} : nwI gi n p1 p2 p3 (3 * n) = p1 ∧ nwI gi n p1 p2 p3 (3 * n + 1) = p2 ∧ nwI gi n p1 p2 p3 (3 * n + 2) = p3 := by
  unfold nwI
  simp only [n_upd]
  refine ⟨?_, ?_, ?_⟩
  · rw [if_neg (by omega), if_neg (by omega), if_pos trivial]
  · rw [if_neg (by omega), if_pos trivial]
  · rw [if_pos trivial]
theorem nw_ext {n : Nat} {gh gi : Nat → Int32} {p0 p1 p2 p3 : Int32} : extG n gh gi (upd gh n p0) (nwI gi n p1 p2 p3) := by
  intro p hp
  refine ⟨?_, nw_old hp⟩
  rw [n_upd, if_neg (by omega)]
theorem nw_g {n : Nat} {gh gi gc : Nat → Int32} {p0 p1 p2 p3 p4 : Int32} (hg : gOK n gh gi gc) (hn : n < 24) (hv : vld p0 p1 p2 p3 p4) : gOK (n + 1) (upd gh n p0) (nwI gi n p1 p2 p3) (upd gc n p4) := by
  refine ⟨by omega, ?_⟩
  intro p hp
  by_cases c : p = n
  · subst c
    obtain ⟨e1, e2, e3⟩ := nw_new (gi := gi) (n := p) (p1 := p1) (p2 := p2) (p3 := p3)
    rw [e1, e2, e3, n_upd, n_upd, if_pos rfl, if_pos rfl]
    exact ⟨hv.1, hv.2.1.1, hv.2.1.2, hv.2.2⟩
  · obtain ⟨e1, e2, e3⟩ := nw_old (gi := gi) (n := n) (p := p) (p1 := p1) (p2 := p2) (p3 := p3) (by omega)
    rw [e1, e2, e3, n_upd, n_upd, if_neg c, if_neg c]
    exact hg.2 p (by omega)
theorem n_x3 {n : Nat} : nI n * 3 = nI (3 * n) := by
  show nI n * nI 3 = _; rw [n_mul, Nat.mul_comm]
theorem n_3x {n : Nat} : 3 * nI n = nI (3 * n) := by
  show nI 3 * nI n = _; rw [n_mul]
theorem n_p2 {n : Nat} : nI n + 2 = nI (n + 2) := by
  show nI n + nI 2 = _; rw [n_add]
/-- what learning leaves -/
def lrn (n : Nat) (gh gi gc : Nat → Int32) (p0 p1 p2 p3 p4 : Int32) (u : Int32 × Int32 × Int32 × (Nat → Int32) × (Nat → Int32) × (Nat → Int32) × (Nat → Int32) × (Nat → Int32)) : Prop :=
  ∃ F o r, u = (nI n, F, nI (n + 1), upd gh n p0, nwI gi n p1 p2 p3, upd gc n p4, o, r) ∧ feOK (n + 1) (upd gh n p0) (nwI gi n p1 p2 p3) F ∧ ordOK (n + 1) (upd gh n p0) (nwI gi n p1 p2 p3) o ∧ reOK (n + 1) (upd gh n p0) (nwI gi n p1 p2 p3) r
theorem k_learn {N_ n : Nat} {gh gi gc vGo vGr : Nat → Int32} {F p0 p1 p2 p3 p4 : Int32} (hN : 2000 ≤ N_) (hg : gOK n gh gi gc) (hR : reOK n gh gi vGr) (hF : feOK n gh gi F) (hn : n < 24) (hv : vld p0 p1 p2 p3 p4)
    (hs : (f_H_isStep p1 p2 = 0 ∧ ¬ (p1 < 10 ∧ p2 = -1)) ∨ (f_H_isStep p1 p2 = 1 ∧ ∃ h a, h < 10 ∧ a < 10 ∧ p0 = nI h ∧ p1 = nI a ∧ p2 = -1 ∧ h ≠ a ∧ bt (vGr a) h = false)) :
    lrn n gh gi gc p0 p1 p2 p3 p4 (f_G_learn N_ F (nI n) gh gi gc vGo vGr p0 p1 p2 p3 p4) ∧ o_G_learn N_ F (nI n) gh gi gc vGo vGr p0 p1 p2 p3 p4 := by
  have hg' := nw_g hg hn hv
  have he := nw_ext (n := n) (gh := gh) (gi := gi) (p0 := p0) (p1 := p1) (p2 := p2) (p3 := p3)
  obtain ⟨e1, e2, e3⟩ := nw_new (gi := gi) (n := n) (p1 := p1) (p2 := p2) (p3 := p3)
  have hf : f_G_isFull (nI n) = 0 := by unfold f_G_isFull; exact if_pos (by rw [d_24, n_lt (by omega) (by omega)]; exact hn)
  obtain ⟨f1, f2⟩ := k_fert (N_ := N_) (gc := gc) (by omega) hg' he hF
  have v1 : vp_in (nI n) 24 := n_in (by omega) hn
  have v2 : vp_in (nI (3 * n)) 72 := n_in (by omega) (by omega)
  have v3 : vp_in (nI (3 * n + 1)) 72 := n_in (by omega) (by omega)
  have v4 : vp_in (nI (3 * n + 2)) 72 := n_in (by omega) (by omega)
  unfold nwI at f1 f2
  unfold f_G_learn o_G_learn
  simp (disch := omega) only [↓bd_def, hf, ↓if_true, n_x3, n_1, n_p2, n_clamp]
  rcases hs with ⟨s1, s2⟩ | ⟨s1, h, a, hh, ha, rfl, rfl, rfl, c1, c2⟩
  · have hr' : reOK (n + 1) (upd gh n p0) (nwI gi n p1 p2 p3) vGr := re_same hR he (fun q => s2 (by unfold isStp at q; rw [e1, e2] at q; exact q))
    obtain ⟨o1, o2⟩ := k_orderS (N_ := N_) (vGo := vGo) (by omega) hg' hr'
    simp only [s1, ↓if_true, ↓bd_def]
    exact ⟨⟨_, _, _, rfl, f1, o1, hr'⟩, v1, v2, v3, v4, v1, o2, f2, trivial⟩
  · obtain ⟨l1, l2⟩ := k_learnStep (N_ := N_) (vGr := vGr) (by omega) hh ha
    have hr' : reOK (n + 1) (upd gh n (nI h)) (nwI gi n (nI a) (-1) p3) (f_G_learnStep N_ vGr (nI h) (nI a)) := re_step hg hR he hh ha (by rw [n_upd, if_pos rfl]) e1 e2 c1 c2 l1
    obtain ⟨o1, o2⟩ := k_orderS (N_ := N_) (vGo := vGo) (by omega) hg' hr'
    simp only [s1, ↓if_neg m10.1, ↓bd_def]
    exact ⟨⟨_, _, _, rfl, f1, o1, hr'⟩, v1, v2, v3, v4, v1, l2, o2, f2, trivial⟩
theorem k_circle {h a : Nat} {vGr : Nat → Int32} (hh : h < 10) (ha : a < 10) : f_G_wouldCircle vGr (nI h) (nI a) = (if a = h ∨ bt (vGr a) h = true then 1 else 0) ∧ o_G_wouldCircle vGr (nI h) (nI a) := by
  unfold f_G_wouldCircle o_G_wouldCircle
  obtain ⟨r1, r2⟩ := k_reach (vGr := vGr) ha
  simp (disch := omega) only [bd_def, r1, k_has, n_eq]
  by_cases c : h = a
  · rw [if_pos c, if_pos c, if_pos (Or.inl c.symm)]; exact ⟨rfl, trivial⟩
  · rw [if_neg c, if_neg c]
    by_cases c2 : bt (vGr a) h = true
    · rw [if_pos c2, if_pos (Or.inr c2), if_neg m10.1]
      exact ⟨rfl, r2, by split <;> trivial⟩
    · have c3 : ¬ (a = h ∨ bt (vGr a) h = true) := by
        intro q
        rcases q with q | q
        · exact c q.symm
        · exact c2 q
      rw [if_neg c2, if_neg c3, if_pos rfl]
      exact ⟨rfl, r2, by split <;> trivial⟩
theorem q_tail24 {vMT vMB ld : Int32} {gh gi gc ms : Nat → Int32} {p0 p1 p2 p3 p4 : Int32} : qTail vMT (nI 24) vMB gh gi gc p0 p1 p2 p3 p4 ld ms = (0, 2, nI 24, vMB, gh, gi, gc, ms) ∧ oTail vMT (nI 24) ld := by
  unfold qTail oTail f_M_refuse
  simp only [bd_def, if_pos (show nI 24 = (24 : Int32) from rfl), if_true, if_neg m10.1]
  exact ⟨trivial, trivial⟩
theorem q_tailC {n : Nat} {vMT vMB : Int32} {gh gi gc ms : Nat → Int32} {p0 p1 p2 p3 p4 : Int32} (hn : n < 24) : qTail vMT (nI n) vMB gh gi gc p0 p1 p2 p3 p4 1 ms = (0, 3, nI n, vMB, gh, gi, gc, ms) ∧ oTail vMT (nI n) 1 := by
  have c : ¬ nI n = 24 := by rw [d_24, n_eq (by omega) (by omega)]; omega
  unfold qTail oTail f_M_refuse
  simp only [bd_def, if_neg c, if_true, if_neg m10.1]
  exact ⟨trivial, trivial⟩
theorem q_tail0 {n : Nat} {vMT vMB : Int32} {gh gi gc ms : Nat → Int32} {p0 p1 p2 p3 p4 : Int32} (hn : n < 24) : qTail vMT (nI n) vMB gh gi gc p0 p1 p2 p3 p4 0 ms = (nI n, 0, nI (n + 1), 0, upd gh n p0, nwI gi n p1 p2 p3, upd gc n p4, ms) ∧ oTail vMT (nI n) 0 := by
  have c : ¬ nI n = 24 := by rw [d_24, n_eq (by omega) (by omega)]; omega
  have v1 : vp_in (nI n) 24 := n_in (by omega) hn
  have v2 : vp_in (nI (3 * n)) 72 := n_in (by omega) (by omega)
  have v3 : vp_in (nI (3 * n + 1)) 72 := n_in (by omega) (by omega)
  have v4 : vp_in (nI (3 * n + 2)) 72 := n_in (by omega) (by omega)
  have e : nI (n + 1) - 1 = nI n := by show nI (n + 1) - nI 1 = _; rw [n_sub (by omega)]; rfl
  unfold qTail oTail f_M_refuse nwI
  simp (disch := omega) only [bd_def, if_neg c, if_true, n_3x, n_1, n_p2, n_clamp, e]
  exact ⟨trivial, v1, v2, v3, v4, v1, trivial⟩
theorem k_isStep {p1 p2 : Int32} (h : isIt p1) : (p1 < 10 ∧ p2 = -1 → f_H_isStep p1 p2 = 1) ∧ (¬ (p1 < 10 ∧ p2 = -1) → f_H_isStep p1 p2 = 0) := by
  unfold f_H_isStep
  simp only [bd_def]
  constructor
  · intro ⟨q1, q2⟩
    have := x_lt q1; rw [d_10] at this
    rw [(e_s9 ⟨h.1, this⟩).2, if_neg m10.1, if_pos q2]
  · intro q
    by_cases c : p1 < 10
    · have := x_lt c; rw [d_10] at this
      rw [(e_s9 ⟨h.1, this⟩).2, if_neg m10.1, if_neg (fun q2 => q ⟨c, q2⟩)]
    · have := x_nlt c; rw [d_10] at this
      rw [(e_n9 (by omega)).2, if_pos rfl]
theorem fits_production : fit_production 10000 relM := by
  intro vU vFW vFB vFE vFN vFL vFX vFY vFs vFf vFt vFn vFd vOE vOn vTS vTf vCF vCn vCc vCr vCs vGF vGS vGh vGi vGc vGo vGr vRL vRt vMT vMP vMK vMB vMD vME vMO vMF vMS vMX vMW vMh vMi vMc vMt vMn vMl vMs vMd vMe vMo vMw vMu p0 p1 p2 p3 p4 hR
  obtain ⟨n, rl, fl, nd, ⟨rfl, rfl, rfl, rfl, hrl, rfl, hfl, rfl, rfl, hnd⟩, ⟨rfl, rfl, rfl, rfl⟩, hg, ht, htr, hre, hor, hfe, hco, hmo⟩ := hR
  have hrel : relM (nI nd) vTf (nI fl) vCn vCc vGF (nI n) vGh vGi vGc vGo vGr (nI rl) vRt (nI n) (nI rl) vMB (nI nd) vGh vGi vGc vRt vMn vMl vMd := ⟨n, rl, fl, nd, ⟨rfl, rfl, rfl, rfl, hrl, rfl, hfl, rfl, rfl, hnd⟩, ⟨rfl, rfl, rfl, rfl⟩, hg, ht, htr, hre, hor, hfe, hco, hmo⟩
  obtain ⟨m1, m2, m3, m4⟩ := m10
  unfold o_L_production f_L_production
  simp only [bd_def]
  by_cases hv : vld p0 p1 p2 p3 p4
  · have hn24 := hg.1
    by_cases hn : n < 24
    · have hn' : nI n < 24 := by rw [d_24, n_lt (by omega) (by omega)]; exact hn
      have fin : ∀ (hs : (f_H_isStep p1 p2 = 0 ∧ ¬ (p1 < 10 ∧ p2 = -1)) ∨ (f_H_isStep p1 p2 = 1 ∧ ∃ h a, h < 10 ∧ a < 10 ∧ p0 = nI h ∧ p1 = nI a ∧ p2 = -1 ∧ h ≠ a ∧ bt (vGr a) h = false)) (ms : Nat → Int32)
          (hq : f_M_production 10000 vMT (nI n) vMB vGh vGi vGc vMs p0 p1 p2 p3 p4 = qTail vMT (nI n) vMB vGh vGi vGc p0 p1 p2 p3 p4 0 ms ∧ o_M_production 10000 vMT (nI n) vMB vGh vGi vGc vMs p0 p1 p2 p3 p4),
          (o_H_production 10000 (nI fl) vGF (nI n) vGh vGi vGc vGo vGr p0 p1 p2 p3 p4 ∧ ((f_H_production 10000 (nI fl) vGF (nI n) vGh vGi vGc vGo vGr p0 p1 p2 p3 p4).1 = 0)) ∧ ∃ F o r, f_H_production 10000 (nI fl) vGF (nI n) vGh vGi vGc vGo vGr p0 p1 p2 p3 p4 = (0, nI n, nI 0, F, nI (n + 1), upd vGh n p0, nwI vGi n p1 p2 p3, upd vGc n p4, o, r) ∧ f_M_production 10000 vMT (nI n) vMB vGh vGi vGc vMs p0 p1 p2 p3 p4 = (nI n, 0, nI (n + 1), 0, upd vGh n p0, nwI vGi n p1 p2 p3, upd vGc n p4, ms) ∧ relM (nI nd) vTf (nI 0) vCn vCc F (nI (n + 1)) (upd vGh n p0) (nwI vGi n p1 p2 p3) (upd vGc n p4) o r (nI rl) vRt (nI (n + 1)) (nI rl) 0 (nI nd) (upd vGh n p0) (nwI vGi n p1 p2 p3) (upd vGc n p4) vRt vMn vMl vMd := by
        intro hs ms hq
        obtain ⟨⟨F, o, r, l1, l2, l3, l4⟩, l5⟩ := k_learn (N_ := 10000) (vGo := vGo) (by omega) hg hre hfe hn hv hs
        have hs' : f_H_isStep p1 p2 = 0 ∨ f_H_isStep p1 p2 = 1 ∧ o_G_wouldCircle vGr p0 p1 ∧ f_G_wouldCircle vGr p0 p1 = 0 := by
          rcases hs with ⟨s1, s2⟩ | ⟨s1, h, a, hh, ha, rfl, rfl, rfl, c1, c2⟩
          · exact Or.inl s1
          · obtain ⟨w1, w2⟩ := k_circle (vGr := vGr) hh ha
            exact Or.inr ⟨s1, w2, by rw [w1, if_neg (fun q => by rcases q with q | q; exact c1 q.symm; rw [c2] at q; cases q)]⟩
        obtain ⟨g1, g2⟩ := k_pGood (vCF := nI fl) hv hn' hs' l5
        unfold kTail at g1
        simp only [bd_def, l1] at g1
        have hfb : f_C_forgetBehind (nI fl) 0 = nI 0 := by
          unfold f_C_forgetBehind
          simp (disch := omega) only [q_0, n_lt]
          split
          · rfl
          · rename_i c
            have : fl = 0 := by omega
            rw [this]
        rw [hfb] at g1
        refine ⟨⟨g2, by rw [g1]⟩, F, o, r, g1, by rw [hq.1, (q_tail0 hn).1], ?_⟩
        exact ⟨n + 1, rl, 0, nd, ⟨rfl, rfl, rfl, rfl, hrl, rfl, by omega, rfl, rfl, hnd⟩, ⟨rfl, rfl, rfl, rfl⟩, nw_g hg hn hv, ht, htr, l4, l3, l2, fun s a b _ h1 h2 => by omega, Or.inl rfl⟩
      by_cases hs : p1 < 10 ∧ p2 = -1
      · obtain ⟨s1, s2⟩ := hs
        obtain ⟨a, ha, rfl⟩ := isIt_sym hv.2.1.1 s1
        obtain ⟨h, rfl, eh, -⟩ := n_of hv.1.1
        have hh : h < 10 := by have := hv.1.2; omega
        have st := (k_isStep hv.2.1.1).1 ⟨s1, s2⟩
        obtain ⟨w1, w2⟩ := k_circle (vGr := vGr) hh ha
        obtain ⟨r1, r2⟩ := q_leads (N_ := 10000) (vMs := vMs) (by omega) hg hre ha hh
        generalize hu : f_M_leads 10000 (nI n) vGh vGi vMs (nI a) (nI h) = U at r1
        obtain ⟨ld, ms⟩ := U
        have b1 : ¬ (10 : Int32) ≤ nI a := by rw [q_10, n_le (by omega) (by omega)]; omega
        rcases r1 with ⟨q1, q2⟩ | ⟨q1, q2⟩
        · have q1 : ld = 1 := q1
          subst q1
          obtain ⟨g1, g2⟩ := k_pCirc (N_ := 10000) (vCF := nI fl) (vGF := vGF) (vGh := vGh) (vGi := vGi) (vGc := vGc) (vGo := vGo) (vGr := vGr) hv hn' st w2 (by rw [w1, if_pos q2])
          obtain ⟨t1, t2⟩ := q_tailC (n := n) (vMT := vMT) (vMB := vMB) (gh := vGh) (gi := vGi) (gc := vGc) (ms := ms) (p0 := nI h) (p1 := nI a) (p2 := p2) (p3 := p3) (p4 := p4) hn
          obtain ⟨h1, h2⟩ := q_pStep (vMB := vMB) (vMc := vGc) hv b1 s2 r2 hu (Or.inr rfl) t2
          rw [g1, h1, t1]
          have m31 : ¬ (3 : Int32) = 1 := by decide
          have m32 : ¬ (3 : Int32) = 2 := by decide
          simp only [if_neg m4, if_neg m31, if_neg m32]
          exact ⟨⟨g2, Or.inr (Or.inr (Or.inr trivial))⟩, h2, trivial, fun q => absurd q m4, hrel⟩
        · have q1 : ld = 0 := q1
          subst q1
          obtain ⟨t1, t2⟩ := q_tail0 (n := n) (vMT := vMT) (vMB := vMB) (gh := vGh) (gi := vGi) (gc := vGc) (ms := ms) (p0 := nI h) (p1 := nI a) (p2 := p2) (p3 := p3) (p4 := p4) hn
          have hq := q_pStep (vMB := vMB) (vMc := vGc) hv b1 s2 r2 hu (Or.inl rfl) t2
          obtain ⟨⟨f1, f2⟩, F, o, r, f3, f4, f5⟩ := fin (Or.inr ⟨st, h, a, hh, ha, rfl, rfl, s2, fun q => q2 (Or.inl q.symm), by cases q : bt (vGr a) h with | false => rfl | true => exact absurd (Or.inr q) q2⟩) ms hq
          rw [f3, f4]
          simp only [if_true]
          refine ⟨⟨f1, Or.inl trivial⟩, hq.2, trivial, fun _ => w_U, f5⟩
      · have st := (k_isStep (p2 := p2) hv.2.1.1).2 hs
        obtain ⟨t1, t2⟩ := q_tail0 (n := n) (vMT := vMT) (vMB := vMB) (gh := vGh) (gi := vGi) (gc := vGc) (ms := vMs) (p0 := p0) (p1 := p1) (p2 := p2) (p3 := p3) (p4 := p4) hn
        have hq := q_pNo (N_ := 10000) (vMB := vMB) (vMh := vGh) (vMi := vGi) (vMc := vGc) (vMs := vMs) hv (by
          by_cases c : p1 < 10
          · exact Or.inr (fun q => hs ⟨c, q⟩)
          · exact Or.inl (Int32.le_iff_toInt_le.mpr (x_nlt c))) t2
        obtain ⟨⟨f1, f2⟩, F, o, r, f3, f4, f5⟩ := fin (Or.inl ⟨st, hs⟩) vMs hq
        rw [f3, f4]
        simp only [if_true]
        refine ⟨⟨f1, Or.inl trivial⟩, hq.2, trivial, fun _ => w_U, f5⟩
    · have en : n = 24 := by omega
      subst en
      obtain ⟨g1, g2⟩ := k_pFull (N_ := 10000) (vCF := nI fl) (vGF := vGF) (vGS := nI 24) (vGh := vGh) (vGi := vGi) (vGc := vGc) (vGo := vGo) (vGr := vGr) hv (by decide)
      have m21 : ¬ (2 : Int32) = 1 := by decide
      have hq : ∃ ms, f_M_production 10000 vMT (nI 24) vMB vGh vGi vGc vMs p0 p1 p2 p3 p4 = (0, 2, nI 24, vMB, vGh, vGi, vGc, ms) ∧ o_M_production 10000 vMT (nI 24) vMB vGh vGi vGc vMs p0 p1 p2 p3 p4 := by
        by_cases hs : p1 < 10 ∧ p2 = -1
        · obtain ⟨s1, s2⟩ := hs
          obtain ⟨a, ha, rfl⟩ := isIt_sym hv.2.1.1 s1
          obtain ⟨h, rfl, eh, -⟩ := n_of hv.1.1
          have hh : h < 10 := by have := hv.1.2; omega
          obtain ⟨r1, r2⟩ := q_leads (N_ := 10000) (vMs := vMs) (by omega) hg hre ha hh
          generalize hu : f_M_leads 10000 (nI 24) vGh vGi vMs (nI a) (nI h) = U at r1
          obtain ⟨ld, ms⟩ := U
          have b1 : ¬ (10 : Int32) ≤ nI a := by rw [q_10, n_le (by omega) (by omega)]; omega
          obtain ⟨t1, t2⟩ := q_tail24 (vMT := vMT) (vMB := vMB) (ld := ld) (gh := vGh) (gi := vGi) (gc := vGc) (ms := ms) (p0 := nI h) (p1 := nI a) (p2 := p2) (p3 := p3) (p4 := p4)
          obtain ⟨h1, h2⟩ := q_pStep (vMB := vMB) (vMc := vGc) hv b1 s2 r2 hu (by rcases r1 with q | q; exact Or.inr q.1; exact Or.inl q.1) t2
          exact ⟨ms, by rw [h1, t1], h2⟩
        · obtain ⟨t1, t2⟩ := q_tail24 (vMT := vMT) (vMB := vMB) (ld := 0) (gh := vGh) (gi := vGi) (gc := vGc) (ms := vMs) (p0 := p0) (p1 := p1) (p2 := p2) (p3 := p3) (p4 := p4)
          obtain ⟨h1, h2⟩ := q_pNo (N_ := 10000) (vMB := vMB) (vMh := vGh) (vMi := vGi) (vMc := vGc) (vMs := vMs) hv (by
            by_cases c : p1 < 10
            · exact Or.inr (fun q => hs ⟨c, q⟩)
            · exact Or.inl (Int32.le_iff_toInt_le.mpr (x_nlt c))) t2
          exact ⟨vMs, by rw [h1, t1], h2⟩
      obtain ⟨ms, h1, h2⟩ := hq
      rw [g1, h1]
      simp only [if_neg m3, if_neg m21, if_true]
      exact ⟨⟨g2, Or.inr (Or.inr (Or.inl trivial))⟩, h2, trivial, fun q => absurd q m3, hrel⟩
  · obtain ⟨g1, g2⟩ := k_pBad (N_ := 10000) (vCF := nI fl) (vGF := vGF) (vGS := nI n) (vGh := vGh) (vGi := vGi) (vGc := vGc) (vGo := vGo) (vGr := vGr) hv
    obtain ⟨h1, h2⟩ := q_pBad (N_ := 10000) (vMT := vMT) (vMP := nI n) (vMB := vMB) (vMh := vGh) (vMi := vGi) (vMc := vGc) (vMs := vMs) hv
    rw [g1, h1]
    simp only [if_neg m1, if_true]
    exact ⟨⟨g2, Or.inr (Or.inl trivial)⟩, h2, trivial, fun q => absurd q m1, hrel⟩
