/-! The reference's work at a part: all symbols once -/
set_option maxHeartbeats 1000000 in
theorem q_w22 {N_ n s i j : Nat} {gh gi gc rt vMn vMl : Nat → Int32} {tb : Nat → Nat → Nat → vE} {F S : Int32} (hN : 2000 ≤ N_) (hg : gOK n gh gi gc) (hij : i < j) (hj : j ≤ 24) (hT : tOK i j vMn vMl tb)
    (Kf : Int32 → Int32 → Int32 → Int32 → Int32 → Int32 × Int32 × Int32 × (Nat → Int32) × (Nat → Int32)) (Ko : Int32 → Int32 → Int32 → Int32 → Int32 → Prop) (Ph : (Int32 × Int32 × Int32 × (Nat → Int32) × (Nat → Int32)) → Prop)
    (hK : ∀ x7 F S, Ph (Kf (nI (eS (bdy n gh gi gc rt tb s i j)).1) (mI (bdy n gh gi gc rt tb s i j).2) x7 F S) ∧ Ko (nI (eS (bdy n gh gi gc rt tb s i j)).1) (mI (bdy n gh gi gc rt tb s i j).2) x7 F S)
    (hG : ∀ p, p < n → eG 2000000 (trm gh gi gc rt tb s p i j)) :
    Ph (l_M_work_22 N_ (nI i) (nI j) (nI s) (nI n) gh gi gc rt vMn vMl Kf N_ 0 2000000000 0 F S) ∧ ol_M_work_22 N_ (nI i) (nI j) (nI s) (nI n) gh gi gc rt vMn vMl Ko N_ 0 2000000000 0 F S := by
  have hn := hg.1
  refine rj_M_work_22 N_ (nI i) (nI j) (nI s) (nI n) gh gi gc rt vMn vMl Kf Ko (fun _ _ x7 _ _ => 100 - x7.toNatClampNeg)
    (fun x5 x6 x7 _ _ => ∃ p, p ≤ n ∧ x7 = nI p ∧ x5 = nI (eS (sm (fun p => trm gh gi gc rt tb s p i j) 0 p)).1 ∧ x6 = mI (sm (fun p => trm gh gi gc rt tb s p i j) 0 p).2) Ph ?_ N_ 0 2000000000 0 F S ?_ ⟨0, by omega, rfl, rfl, rfl⟩
  · intro rec reco x5 x6 x7 F S ⟨p, hp, e7, e5, e6⟩ ih
    unfold s_M_work_22 os_M_work_22
    simp only [n_cnt e7 hp (by omega)]
    by_cases c0 : p = n
    · simp only [if_pos c0]
      subst e5; subst e6
      rw [c0]
      exact hK x7 F S
    · have hpn : p < n := by omega
      subst e7
      have hsg : eG 2000000 (sm (fun p => trm gh gi gc rt tb s p i j) 0 p) := eG_sm (fun k _ hk => hG k (by omega))
      have hnx : sm (fun p => trm gh gi gc rt tb s p i j) 0 (p + 1) = eA (sm (fun p => trm gh gi gc rt tb s p i j) 0 p) (trm gh gi gc rt tb s p i j) := by rw [sm_1, Nat.zero_add]
      have hmu : 100 - (nI p + 1).toNatClampNeg < 100 - (nI p).toNatClampNeg := by rw [n_1, n_clamp (by omega), n_clamp (by omega)]; omega
      have hv : vp_in (nI p) 24 := n_in (by omega) (by omega)
      simp (disch := omega) only [if_neg c0, n_clamp]
      by_cases c1 : gh p = nI s
      · simp only [if_pos c1]
        obtain ⟨b1, b2, b3, b4⟩ := q_begin (gi := gi) (p := p) (F := F) (S := S) (by omega) hij hj (gOK_2 hg hpn)
        simp only [bd_def, b1, b3]
        have et : trm gh gi gc rt tb s p i j = eM (own gc p) (prd gi rt tb p i j) := if_pos c1
        subst e5; subst e6
        have := q_w64 (rt := rt) (vMn := vMn) (vMl := vMl) hN hg hpn hij hj hT hsg (fun x5 x6 x8 F S => rec x5 x6 (nI p + 1) F S) (fun x5 x6 x8 F S => reco x5 x6 (nI p + 1) F S) Ph
          (fun x8 F S => ih _ _ _ F S ⟨p + 1, by omega, n_1, by rw [hnx, et], by rw [hnx, et]⟩ hmu)
        exact ⟨this.1, hv, b2, b4 _ _, this.2⟩
      · simp only [if_neg c1]
        have et : trm gh gi gc rt tb s p i j = eZ := if_neg c1
        have := ih x5 x6 (nI p + 1) F S ⟨p + 1, by omega, n_1, by rw [hnx, et, eA_z, e5], by rw [hnx, et, eA_z, e6]⟩ hmu
        exact ⟨this.1, hv, this.2⟩
  · show 100 - (nI 0).toNatClampNeg < N_
    rw [n_clamp (by omega)]; omega
theorem aN_inj {s a b s' a' b' : Nat} (h : aN s a b = aN s' a' b') (h1 : a ≤ 24) (h2 : b ≤ 24) (h3 : a' ≤ 24) (h4 : b' ≤ 24) : s = s' ∧ a = a' ∧ b = b' := by
  have h5 : 25 * s + a = 25 * s' + a' ∧ b = b' := by
    unfold aN at h
    have e1 : 625 * s + 25 * a = 25 * (25 * s + a) := by omega
    have e2 : 625 * s' + 25 * a' = 25 * (25 * s' + a') := by omega
    rw [e1, e2] at h
    generalize 25 * s + a = x at *
    generalize 25 * s' + a' = y at *
    omega
  omega
def frM (i j : Nat) (f f' : Nat → Int32) : Prop := ∀ s a b, a ≤ 24 → b ≤ 24 → ¬ (a = i ∧ b = j) → f' (aN s a b) = f (aN s a b)
theorem frM_upd {i j s : Nat} {f f' : Nat → Int32} {x : Int32} (h : frM i j f f') (hij : i < j) (hj : j ≤ 24) : frM i j f (upd f' (aN s i j) x) := by
  intro s' a b h1 h2 h3
  rw [n_upd, if_neg (fun e => h3 (by have := aN_inj e h1 h2 (by omega) hj; exact ⟨this.2.1, this.2.2⟩))]
  exact h s' a b h1 h2 h3
theorem frM_r {i j : Nat} {f : Nat → Int32} : frM i j f f := fun _ _ _ _ _ _ => rfl
theorem frM_t {i j : Nat} {f g h : Nat → Int32} (h1 : frM i j f g) (h2 : frM i j g h) : frM i j f h := fun s a b q1 q2 q3 => (h2 s a b q1 q2 q3).trans (h1 s a b q1 q2 q3)
/-- a table with one value changed -/
def tU (tb : Nat → Nat → Nat → vE) (s i j : Nat) (v : vE) : Nat → Nat → Nat → vE := fun s' a b => if s' = s ∧ a = i ∧ b = j then v else tb s' a b
theorem mI_inj {x y : Option Nat} (hx : ∀ c, x = some c → c < 2000000000) (hy : ∀ c, y = some c → c < 2000000000) (h : mI x = mI y) : x = y := by
  cases x with
  | none => cases y with
    | none => rfl
    | some b =>
      have hb := hy b rfl
      have : nI 2000000000 = nI b := h
      rw [n_eq (by omega) (by omega)] at this; omega
  | some a =>
    have ha := hx a rfl
    cases y with
    | none =>
      have : nI a = nI 2000000000 := h
      rw [n_eq (by omega) (by omega)] at this; omega
    | some b =>
      have hb := hy b rfl
      have : nI a = nI b := h
      rw [n_eq (by omega) (by omega)] at this; rw [this]
/-- what the reference's chart is within a part, at work: good, its smaller parts right, symbols of low levels right -/
def wOK (n : Nat) (gh gi gc rt : Nat → Int32) (lv : Nat → Nat) (i j : Nat) (vMn vMl : Nat → Int32) (tb : Nat → Nat → Nat → vE) : Prop := (∀ s a b, s < 10 → i ≤ a → a < b → b ≤ j → mcs vMn vMl tb s a b ∧ eG (lim (b - a) (lv s)) (tb s a b) ∧ (tb s a b).1 ≤ 1000000000) ∧ ∀ s a b, s < 10 → i ≤ a → a < b → b ≤ j → b - a < j - i → tb s a b = vV n gh gi gc rt s a b
theorem wOK_t {n : Nat} {gh gi gc rt : Nat → Int32} {lv : Nat → Nat} (hl : lvOK n gh gi lv) {i j : Nat} {vMn vMl : Nat → Int32} {tb : Nat → Nat → Nat → vE} (hj : j ≤ 24) (h : wOK n gh gi gc rt lv i j vMn vMl tb) : tOK i j vMn vMl tb := by
  intro s a b h1 h2 h3 h4
  obtain ⟨q1, q2, q3⟩ := h.1 s a b h1 h2 h3 h4
  have := hl.1 s
  exact ⟨q1, eG_w q2 (by unfold lim; omega), q3⟩
/-- one round over the symbols -/
def pOK (n : Nat) (gh gi gc rt : Nat → Int32) (lv : Nat → Nat) (i j k : Nat) (tb0 : Nat → Nat → Nat → vE) (s : Nat) (x3 : Int32) (tb : Nat → Nat → Nat → vE) : Prop :=
  (x3 = 0 ∨ x3 = 1) ∧ (x3 = 0 → tb = tb0 ∧ ∀ s', s' < s → tb0 s' i j = eS (bdy n gh gi gc rt tb0 s' i j)) ∧ (10 ≤ k → x3 = 0) ∧ (∀ s', s' < 10 → lv s' < k → tb s' i j = vV n gh gi gc rt s' i j) ∧ ∀ s', s' < s → lv s' < k + 1 → tb s' i j = vV n gh gi gc rt s' i j
def wRes (n : Nat) (gh gi gc rt : Nat → Int32) (lv : Nat → Nat) (i j k : Nat) (tb0 : Nat → Nat → Nat → vE) (vMn vMl : Nat → Int32) (r : Int32 × Int32 × Int32 × (Nat → Int32) × (Nat → Int32)) : Prop := ∃ tb, wOK n gh gi gc rt lv i j r.2.2.2.1 r.2.2.2.2 tb ∧ pOK n gh gi gc rt lv i j k tb0 10 r.1 tb ∧ frM i j vMn r.2.2.2.1 ∧ frM i j vMl r.2.2.2.2
set_option maxHeartbeats 2000000 in
theorem q_work {N_ n i j k : Nat} {gh gi gc rt vMn vMl : Nat → Int32} {tb0 : Nat → Nat → Nat → vE} {lv : Nat → Nat} {F S : Int32} (hN : 2000 ≤ N_) (hg : gOK n gh gi gc) (hl : lvOK n gh gi lv) (hij : i < j) (hj : j ≤ 24) (hW : wOK n gh gi gc rt lv i j vMn vMl tb0) (hk : ∀ s', s' < 10 → lv s' < k → tb0 s' i j = vV n gh gi gc rt s' i j) :
    (wRes n gh gi gc rt lv i j k tb0 vMn vMl) (f_M_work N_ (nI n) F S gh gi gc rt vMn vMl (nI i) (nI j)) ∧ o_M_work N_ (nI n) F S gh gi gc rt vMn vMl (nI i) (nI j) := by
  have hn := hg.1
  unfold f_M_work o_M_work
  refine rj_M_work_5 N_ (nI i) (nI j) (nI n) gh gi gc rt _ _ (fun _ x4 _ _ _ _ => 100 - x4.toNatClampNeg)
    (fun x3 x4 _ _ r c => ∃ s tb, s ≤ 10 ∧ x4 = nI s ∧ wOK n gh gi gc rt lv i j r c tb ∧ pOK n gh gi gc rt lv i j k tb0 s x3 tb ∧ frM i j vMn r ∧ frM i j vMl c)
    (wRes n gh gi gc rt lv i j k tb0 vMn vMl) ?_ N_ 0 0 F S vMn vMl ?_ ⟨0, tb0, by omega, rfl, hW, ⟨Or.inl rfl, fun _ => ⟨rfl, fun s' h => absurd h (Nat.not_lt_zero _)⟩, fun _ => rfl, hk, fun s' h => absurd h (Nat.not_lt_zero _)⟩, frM_r, frM_r⟩
  · intro rec reco x3 x4 F S r c ⟨s, tb, hs, e4, h1, h2, h3, h4⟩ ih
    unfold s_M_work_5 os_M_work_5
    have e10 : ((10 : Int32) ≤ x4) = (s = 10) := n_cnt (n := 10) e4 hs (by omega)
    simp only [e10]
    by_cases c0 : s = 10
    · simp only [if_pos c0]
      subst c0
      exact ⟨⟨tb, h1, h2, h3, h4⟩, h2.1, trivial⟩
    · have hs10 : s < 10 := by omega
      subst e4
      simp only [if_neg c0]
      have hT := wOK_t hl hj h1
      have hgood := bdy_g (rt := rt) hg hl hs10 hij (tb := tb) (fun s' i' j' q1 q2 q3 q4 _ => (h1.1 s' i' j' q1 q2 q3 q4).2.1)
      refine q_w22 hN hg hij hj hT _ _ (wRes n gh gi gc rt lv i j k tb0 vMn vMl) ?_ ?_
      · intro x7 F S
        have hin : vp_in (nI (aN s i j)) 6250 := by unfold aN; exact n_in (by omega) (by omega)
        have hcl : (nI (aN s i j)).toNatClampNeg = aN s i j := by unfold aN; exact n_clamp (by omega)
        simp only [bd_def, q_at, hcl]
        obtain ⟨⟨v1, v2⟩, v3, v4⟩ := h1.1 s i j hs10 (Nat.le_refl i) hij (Nat.le_refl j)
        have hls := hl.1 s
        have bcur : ∀ c, (tb s i j).2 = some c → c < 2000000000 := fun c hc => by have := v3.2 c hc; unfold lim at this; omega
        have bnew : ∀ c, (bdy n gh gi gc rt tb s i j).2 = some c → c < 2000000000 := fun c hc => by have := hgood.2 c hc; unfold lim at this; omega
        have hsame : (r (aN s i j) = nI (eS (bdy n gh gi gc rt tb s i j)).1 ∧ c (aN s i j) = mI (bdy n gh gi gc rt tb s i j).2) ↔ tb s i j = eS (bdy n gh gi gc rt tb s i j) := by
          rw [v1, v2]
          constructor
          · rintro ⟨q1, q2⟩
            have q3 := mI_inj bcur bnew q2
            rw [n_eq (by omega) (by have := eS1 (e := bdy n gh gi gc rt tb s i j); omega)] at q1
            exact Prod.ext q1 q3
          · intro q; rw [q]; exact ⟨rfl, rfl⟩
        have hlow : lv s < k + 1 → eS (bdy n gh gi gc rt tb s i j) = vV n gh gi gc rt s i j := by
          intro hls
          rw [vV_eq hg hl hs10 hij hj]
          congr 1
          refine bdy_c hg hl hs10 hij (fun _ _ _ => rfl) (fun s' i' j' q1 q2 q3 q4 q5 => ?_)
          rcases q5 with q5 | ⟨rfl, rfl, q5⟩
          · exact h1.2 s' i' j' q1 q2 q3 q4 q5
          · exact h2.2.2.2.1 s' q1 (by omega)
        have hw' : wOK n gh gi gc rt lv i j (upd r (aN s i j) (nI (eS (bdy n gh gi gc rt tb s i j)).1)) (upd c (aN s i j) (mI (bdy n gh gi gc rt tb s i j).2)) (tU tb s i j (eS (bdy n gh gi gc rt tb s i j))) := by
          constructor
          · intro s' a b q1 q2 q3 q4
            unfold mcs tU
            simp only [n_upd]
            by_cases q : s' = s ∧ a = i ∧ b = j
            · obtain ⟨rfl, rfl, rfl⟩ := q
              simp only [and_self, if_true]
              exact ⟨⟨trivial, rfl⟩, eG_S hgood, eS1⟩
            · have q5 : ¬ aN s' a b = aN s i j := fun e => q (aN_inj e (by omega) (by omega) (by omega) hj)
              simp only [if_neg q, if_neg q5]
              exact h1.1 s' a b q1 q2 q3 q4
          · intro s' a b q1 q2 q3 q4 q5
            unfold tU
            rw [if_neg (by omega)]
            exact h1.2 s' a b q1 q2 q3 q4 q5
        have hp' : ∀ y3 : Int32, (y3 = 0 ∨ y3 = 1) → (y3 = 0 → x3 = 0 ∧ tb s i j = eS (bdy n gh gi gc rt tb s i j)) → (10 ≤ k → y3 = 0) → pOK n gh gi gc rt lv i j k tb0 (s + 1) y3 (tU tb s i j (eS (bdy n gh gi gc rt tb s i j))) := by
          intro y3 w1 w2 w3
          refine ⟨w1, fun q => ?_, w3, fun s' q1 q2 => ?_, fun s' q1 q2 => ?_⟩
          · obtain ⟨w4, w5⟩ := w2 q
            obtain ⟨w6, w7⟩ := h2.2.1 w4
            constructor
            · rw [← w5, w6]
              funext s' a b
              unfold tU
              by_cases q : s' = s ∧ a = i ∧ b = j
              · obtain ⟨rfl, rfl, rfl⟩ := q; simp
              · rw [if_neg q]
            · intro s' q1
              by_cases q2 : s' = s
              · subst q2; rw [← w6]; exact w5
              · exact w7 s' (by omega)
          · unfold tU
            by_cases q : s' = s
            · subst q; simp only [and_self, if_true]; exact hlow (by omega)
            · rw [if_neg (fun z => q z.1)]; exact h2.2.2.2.1 s' q1 q2
          · unfold tU
            by_cases q : s' = s
            · subst q; simp only [and_self, if_true]; exact hlow q2
            · rw [if_neg (fun z => q z.1)]; exact h2.2.2.2.2 s' (by omega) q2
        have hmu : 100 - (nI s + 1).toNatClampNeg < 100 - (nI s).toNatClampNeg := by rw [n_1, n_clamp (by omega), n_clamp (by omega)]; omega
        have fin : ∀ y3 : Int32, (y3 = 0 ∨ y3 = 1) → (y3 = 0 → x3 = 0 ∧ tb s i j = eS (bdy n gh gi gc rt tb s i j)) → (10 ≤ k → y3 = 0) → _ := fun y3 w1 w2 w3 => ih y3 (nI s + 1) F S _ _ ⟨s + 1, _, by omega, n_1, hw', hp' y3 w1 w2 w3, frM_upd h3 hij hj, frM_upd h4 hij hj⟩ hmu
        by_cases d0 : x3 = 0
        · simp only [if_pos d0]
          by_cases d1 : r (aN s i j) = nI (eS (bdy n gh gi gc rt tb s i j)).1
          · simp only [if_pos d1]
            by_cases d2 : c (aN s i j) = mI (bdy n gh gi gc rt tb s i j).2
            · simp only [if_pos d2]
              have := fin 0 (Or.inl rfl) (fun _ => ⟨d0, hsame.mp ⟨d1, d2⟩⟩) (fun _ => rfl)
              exact ⟨this.1, hin, hin, hin, hin, this.2⟩
            · simp only [if_neg d2]
              have := fin 1 (Or.inr rfl) (fun q => absurd q (by decide)) (fun q => by
                have := hlow (by omega)
                have q9 := h2.2.2.2.1 s hs10 (by omega)
                exact absurd (hsame.mpr (q9.trans this.symm)).2 d2)
              exact ⟨this.1, hin, hin, hin, hin, this.2⟩
          · simp only [if_neg d1]
            have := fin 1 (Or.inr rfl) (fun q => absurd q (by decide)) (fun q => by
              have := hlow (by omega)
              have q9 := h2.2.2.2.1 s hs10 (by omega)
              exact absurd (hsame.mpr (q9.trans this.symm)).1 d1)
            exact ⟨this.1, hin, hin, hin, this.2⟩
        · simp only [if_neg d0]
          have := fin 1 (Or.inr rfl) (fun q => absurd q (by decide)) (fun q => absurd (h2.2.2.1 q) d0)
          exact ⟨this.1, hin, hin, this.2⟩
      · intro p hp
        unfold trm
        split
        · have hls := hl.1 (gh p).toNatClampNeg
          exact eG_w (prd_g (rt := rt) hg hl hp hij (tb := tb) (fun s' i' j' q1 q2 q3 q4 _ => (h1.1 s' i' j' q1 q2 q3 q4).2.1)) (by unfold lim; omega)
        · exact eG_z
  · show 100 - (nI 0).toNatClampNeg < N_
    rw [n_clamp (by omega)]; omega
