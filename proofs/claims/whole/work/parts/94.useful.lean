/-! The reference's useful symbols are the fertile ones -/
def uOK (u : Nat → Int32) : Prop := ∀ s, s < 10 → u s = 0 ∨ u s = 1
def cntU (u : Nat → Int32) : Nat := cntB (fun s => decide (u s = 1)) 10
theorem q_useful {x : Int32} {u : Nat → Int32} (hx : isIt1 x) (hu : uOK u) : ((f_M_isUseful u x = 1 ∧ itF (fun s => u s = 1) x) ∨ (f_M_isUseful u x = 0 ∧ ¬ itF (fun s => u s = 1) x)) ∧ o_M_isUseful u x := by
  unfold f_M_isUseful o_M_isUseful
  rcases hx with rfl | hx
  · rw [if_pos rfl, if_pos rfl]
    exact ⟨Or.inl ⟨rfl, fun _ h => absurd rfl h⟩, trivial⟩
  · rw [if_neg (isIt_m1 hx), if_neg (isIt_m1 hx)]
    by_cases c : x < 10
    · obtain ⟨k, hk, rfl⟩ := isIt_sym hx c
      have c' : ¬ (10 : Int32) ≤ nI k := by rw [q_10, n_le (by omega) (by omega)]; omega
      rw [if_neg c', if_neg c', n_clamp (by omega)]
      have hv : vp_in (nI k) 10 := n_in (by omega) hk
      rcases hu k hk with h | h
      · rw [if_pos h, if_pos h]
        refine ⟨Or.inr ⟨rfl, fun q => ?_⟩, hv, trivial⟩
        have := q c (isIt_m1 hx)
        rw [n_clamp (by omega), h] at this
        exact absurd this.symm m10.1
      · have h' : ¬ u k = 0 := by rw [h]; exact m10.1
        rw [if_neg h', if_neg h']
        exact ⟨Or.inl ⟨rfl, fun _ _ => by rw [n_clamp (by omega)]; exact h⟩, hv, trivial⟩
    · have c' : (10 : Int32) ≤ x := Int32.le_iff_toInt_le.mpr (x_nlt c)
      rw [if_pos c', if_pos c']
      exact ⟨Or.inl ⟨rfl, fun h => absurd h c⟩, trivial⟩
def paU (n : Nat) (gh gi : Nat → Int32) (F : Int32) (u0 : Nat → Int32) (p : Nat) (x1 : Int32) (u : Nat → Int32) : Prop := (x1 = 0 ∨ x1 = 1) ∧ uOK u ∧ (∀ s, s < 10 → u0 s = 1 → u s = 1) ∧ (x1 = 1 → cntU u0 < cntU u) ∧ (x1 = 0 → (∀ s, s < 10 → u s = u0 s) ∧ ∀ p', p' < p → prF gi (fun s => u0 s = 1) p' → u0 (gh p').toNatClampNeg = 1) ∧ ∀ s, s < 10 → u s = 1 → bt F s = true
theorem q_u31 {N_ n : Nat} {gh gi gc : Nat → Int32} {F : Int32} {u0 : Nat → Int32} (hN : 1000 ≤ N_) (hg : gOK n gh gi gc) (hF : feOK n gh gi F) (h0 : uOK u0) (hs : ∀ s, s < 10 → u0 s = 1 → bt F s = true)
    (Kf : Int32 → Int32 → (Nat → Int32) → (Nat → Int32)) (Ko : Int32 → Int32 → (Nat → Int32) → Prop) (Ph : (Nat → Int32) → Prop) (hK : ∀ x1 x2 u, paU n gh gi F u0 n x1 u → Ph (Kf x1 x2 u) ∧ Ko x1 x2 u) :
    Ph (l_M_findUseful_31 (nI n) gh gi Kf N_ 0 0 u0) ∧ ol_M_findUseful_31 (nI n) gh gi Ko N_ 0 0 u0 := by
  have hn := hg.1
  refine rj_M_findUseful_31 (nI n) gh gi Kf Ko (fun _ x2 _ => 100 - x2.toNatClampNeg) (fun x1 x2 u => ∃ p, p ≤ n ∧ x2 = nI p ∧ paU n gh gi F u0 p x1 u) Ph ?_ N_ _ _ _ ?_ ?_
  · intro rec reco x1 x2 u hI ih
    obtain ⟨p, hp, rfl, h1, h2, h3, h4, h5, h6⟩ := hI
    unfold s_M_findUseful_31 os_M_findUseful_31
    simp (disch := omega) only [n_le, bd_def, n_3x, n_1, n_p2, n_clamp, nar1.1, nar1.2]
    by_cases c : n ≤ p
    · have e : p = n := by omega
      subst e
      simp only [if_pos c]
      exact hK _ _ _ ⟨h1, h2, h3, h4, h5, h6⟩
    · simp only [if_neg c]
      have hp' : p < n := by omega
      obtain ⟨h, hh, eh⟩ := head_lt hg hp'
      obtain ⟨i0, i1, i2⟩ := gOK_it hg hp'
      simp (disch := omega) only [n_clamp, eh]
      have v0 : vp_in (nI (3 * p)) 72 := n_in (by omega) (by omega)
      have v1 : vp_in (nI (3 * p + 1)) 72 := n_in (by omega) (by omega)
      have v2 : vp_in (nI (3 * p + 2)) 72 := n_in (by omega) (by omega)
      have v3 : vp_in (nI p) 24 := n_in (by omega) (by omega)
      have v4 : vp_in (nI h) 10 := n_in (by omega) (by omega)
      have hmu : 100 - (nI (p + 1)).toNatClampNeg < 100 - (nI p).toNatClampNeg := by rw [n_clamp (by omega), n_clamp (by omega)]; omega
      have hup : ∀ v, v = u h → ∀ s, upd u h v s = u s := by
        intro v ev s
        rw [n_upd]; split
        · rename_i e; rw [e, ev]
        · rfl
      have caseA : ∀ v, v = u h → (¬ prF gi (fun s => u s = 1) p ∨ u h = 1) → Ph (rec x1 (nI (p + 1)) (upd u h v)) ∧ reco x1 (nI (p + 1)) (upd u h v) := by
        intro v ev hc
        have e := hup v ev
        have e' : upd u h v = u := funext e
        rw [e']
        refine ih _ _ _ ⟨p + 1, by omega, rfl, h1, h2, h3, h4, ?_, h6⟩ hmu
        intro hx
        obtain ⟨g1, g2⟩ := h5 hx
        refine ⟨g1, ?_⟩
        intro p' hp1 hpr
        by_cases cp : p' = p
        · subst cp
          rw [eh, n_clamp (by omega)]
          rcases hc with hc | hc
          · exact absurd (prF_m hg (fun s hs q => by rw [g1 s hs]; exact q) hp' hpr) hc
          · rw [← g1 h hh]; exact hc
        · exact g2 p' (by omega) hpr
      have caseB : prF gi (fun s => u s = 1) p → u h = 0 → Ph (rec 1 (nI (p + 1)) (upd u h 1)) ∧ reco 1 (nI (p + 1)) (upd u h 1) := by
        intro hpr hc
        have hlt : cntU u < cntU (upd u h 1) := by
          refine cntB_lt (m := h) (fun k hk hb => ?_) hh ?_ ?_
          · simp only [decide_eq_true_eq] at hb ⊢
            rw [n_upd]; split
            · rfl
            · exact hb
          · simp only [decide_eq_false_iff_not]; rw [hc]; exact fun q => m10.1 q.symm
          · simp only [decide_eq_true_eq]; rw [n_upd, if_pos rfl]
        have hle : cntU u0 ≤ cntU u := cntB_le (fun k hk hb => by
          simp only [decide_eq_true_eq] at hb ⊢
          exact h3 k hk hb)
        refine ih _ _ _ ⟨p + 1, by omega, rfl, Or.inr rfl, ?_, ?_, fun _ => by omega, fun q => absurd q m10.1, ?_⟩ hmu
        · intro s hs'
          rw [n_upd]; split
          · exact Or.inr rfl
          · exact h2 s hs'
        · intro s hs' q
          rw [n_upd]; split
          · rfl
          · exact h3 s hs' q
        · intro s hs' q
          rw [n_upd] at q
          split at q
          · rename_i e
            rw [e]
            have := hF.2.1 p hp' (prF_m hg h6 hp' hpr)
            rw [eh, n_clamp (by omega)] at this
            exact this
          · exact h6 s hs' q
      have m1 := m10.1
      obtain ⟨a1, a2⟩ := q_useful i0 h2
      have no : ¬ prF gi (fun s => u s = 1) p → (Ph (if x1 = 0 then (if u h = 0 then rec 0 (nI (p + 1)) (upd u h 0) else rec 0 (nI (p + 1)) (upd u h 1)) else (if u h = 0 then rec 1 (nI (p + 1)) (upd u h 0) else rec 1 (nI (p + 1)) (upd u h 1)))) ∧ (if x1 = 0 then (vp_in (nI p) 24 ∧ (vp_in (nI p) 24 ∧ (vp_in (nI h) 10 ∧ (if u h = 0 then (vp_in (nI h) 10 ∧ reco 0 (nI (p + 1)) (upd u h 0)) else (vp_in (nI h) 10 ∧ reco 0 (nI (p + 1)) (upd u h 1)))))) else (vp_in (nI p) 24 ∧ (vp_in (nI p) 24 ∧ (vp_in (nI h) 10 ∧ (if u h = 0 then (vp_in (nI h) 10 ∧ reco 1 (nI (p + 1)) (upd u h 0)) else (vp_in (nI h) 10 ∧ reco 1 (nI (p + 1)) (upd u h 1))))))) := by
        intro hno
        rcases h1 with e1 | e1 <;> subst e1 <;> rcases h2 h hh with e2 | e2
        · simp only [if_true, if_pos e2]
          have := caseA 0 e2.symm (Or.inl hno)
          exact ⟨this.1, v3, v3, v4, v4, this.2⟩
        · have e2' : ¬ u h = 0 := by rw [e2]; exact m1
          simp only [if_true, if_neg e2']
          have := caseA 1 e2.symm (Or.inl hno)
          exact ⟨this.1, v3, v3, v4, v4, this.2⟩
        · simp only [if_neg m1, if_pos e2]
          have := caseA 0 e2.symm (Or.inl hno)
          exact ⟨this.1, v3, v3, v4, v4, this.2⟩
        · have e2' : ¬ u h = 0 := by rw [e2]; exact m1
          simp only [if_neg m1, if_neg e2']
          have := caseA 1 e2.symm (Or.inl hno)
          exact ⟨this.1, v3, v3, v4, v4, this.2⟩
      rcases a1 with ⟨a1, a3⟩ | ⟨a1, a3⟩
      · simp only [a1, if_neg m1]
        obtain ⟨b1, b2⟩ := q_useful i1 h2
        rcases b1 with ⟨b1, b3⟩ | ⟨b1, b3⟩
        · simp only [b1, if_neg m1]
          obtain ⟨d1, d2⟩ := q_useful i2 h2
          rcases d1 with ⟨d1, d3⟩ | ⟨d1, d3⟩
          · simp only [d1, if_neg m1]
            rcases h1 with e1 | e1 <;> subst e1 <;> rcases h2 h hh with e2 | e2
            · simp only [if_true, if_pos e2]
              have := caseB ⟨a3, b3, d3⟩ e2
              exact ⟨this.1, v0, a2, v1, b2, v2, d2, v3, v4, v3, v3, v4, v4, this.2⟩
            · have e2' : ¬ u h = 0 := by rw [e2]; exact m1
              simp only [if_true, if_neg e2']
              have := caseA 1 e2.symm (Or.inr e2)
              exact ⟨this.1, v0, a2, v1, b2, v2, d2, v3, v4, v3, v3, v4, v4, this.2⟩
            · simp only [if_neg m1, if_pos e2]
              have := caseB ⟨a3, b3, d3⟩ e2
              exact ⟨this.1, v0, a2, v1, b2, v2, d2, v3, v3, v4, v4, this.2⟩
            · have e2' : ¬ u h = 0 := by rw [e2]; exact m1
              simp only [if_neg m1, if_neg e2']
              have := caseA 1 e2.symm (Or.inr e2)
              exact ⟨this.1, v0, a2, v1, b2, v2, d2, v3, v3, v4, v4, this.2⟩
          · simp only [d1, if_true]
            have := no (fun q => d3 q.2.2)
            exact ⟨this.1, v0, a2, v1, b2, v2, d2, this.2⟩
        · simp only [b1, if_true]
          have := no (fun q => b3 q.2.1)
          exact ⟨this.1, v0, a2, v1, b2, this.2⟩
      · simp only [a1, if_true]
        have := no (fun q => a3 q.1)
        exact ⟨this.1, v0, a2, this.2⟩
  · show 100 - (0 : Int32).toNatClampNeg < N_
    omega
  · exact ⟨0, Nat.zero_le _, rfl, Or.inl rfl, h0, fun _ _ h => h, fun q => absurd q.symm m10.1, fun _ => ⟨fun _ _ => rfl, fun p' h => absurd h (Nat.not_lt_zero p')⟩, hs⟩
def usR (F : Int32) (u : Nat → Int32) : Prop := uOK u ∧ ∀ s, s < 10 → (u s = 1 ↔ bt F s = true)
theorem q_findUseful {N_ n : Nat} {gh gi gc : Nat → Int32} {F : Int32} {u : Nat → Int32} (hN : 1000 ≤ N_) (hg : gOK n gh gi gc) (hF : feOK n gh gi F) : usR F (f_M_findUseful N_ (nI n) gh gi u) ∧ o_M_findUseful N_ (nI n) gh gi u := by
  have m1 := m10.1
  unfold f_M_findUseful o_M_findUseful
  refine rj_M_findUseful_2 _ _ (fun x _ => 100 - x.toNatClampNeg) (fun x u => ∃ k, k ≤ 10 ∧ x = nI k ∧ ∀ s, s < k → u s = 0) (usR F) ?_ N_ _ _ ?_ ?_
  · intro rec reco x u hI ih
    obtain ⟨k, hk, rfl, h⟩ := hI
    unfold s_M_findUseful_2 os_M_findUseful_2
    simp (disch := omega) only [q_10, n_le, n_clamp, n_1, nar1.2]
    by_cases c : 10 ≤ k
    · simp only [if_pos c]
      refine rj_M_findUseful_23 N_ (nI n) gh gi _ _ (fun x u => if x = 0 then 0 else 1 + (10 - cntU u)) (fun x u => (x = 0 ∨ x = 1) ∧ uOK u ∧ (∀ s, s < 10 → u s = 1 → bt F s = true) ∧ (x = 0 → ∀ p, p < n → prF gi (fun s => u s = 1) p → u (gh p).toNatClampNeg = 1)) (usR F) ?_ N_ _ _ ?_ ?_
      · intro rec reco x u hI ih
        obtain ⟨h1, h2, h3, h4⟩ := hI
        unfold s_M_findUseful_23 os_M_findUseful_23
        by_cases cx : x = 0
        · simp only [if_pos cx]
          refine ⟨⟨h2, fun s hs => ⟨h3 s hs, fun q => ?_⟩⟩, trivial⟩
          exact hF.2.2 (fun s => u s = 1) (fun p hp hpr => h4 cx p hp hpr) s hs q
        · simp only [if_neg cx]
          refine q_u31 hN hg hF h2 h3 _ _ (usR F) ?_
          intro x1 x2 u' hp
          obtain ⟨p1, p2, p3, p4, p5, p6⟩ := hp
          refine ih _ _ ⟨p1, p2, p6, ?_⟩ ?_
          · intro e
            obtain ⟨g1, g2⟩ := p5 e
            intro p hp hpr
            obtain ⟨h, hh, eh⟩ := head_lt hg hp
            have := g2 p hp (prF_m hg (fun s hs q => by rw [← g1 s hs]; exact q) hp hpr)
            rw [eh, n_clamp (by omega)] at this ⊢
            rw [g1 h hh]; exact this
          · show (if x1 = 0 then 0 else 1 + (10 - cntU u')) < (if x = 0 then 0 else 1 + (10 - cntU u))
            rw [if_neg cx]
            rcases p1 with e | e
            · rw [if_pos e]; omega
            · rw [if_neg (by rw [e]; exact m1)]
              have := p4 e
              have : cntU u' ≤ 10 := cntB_top
              omega
      · show (if (1 : Int32) = 0 then 0 else 1 + (10 - cntU u)) < N_
        rw [if_neg m1]; omega
      · refine ⟨Or.inr rfl, fun s hs => Or.inl (h s (by omega)), fun s hs q => ?_, fun q => absurd q m1⟩
        rw [h s (by omega)] at q
        exact absurd q.symm m1
    · simp only [if_neg c]
      have hv : vp_in (nI k) 10 := n_in (by omega) (by omega)
      have := ih (nI (k + 1)) (upd u k 0) ⟨k + 1, by omega, rfl, fun s hs => by
        rw [n_upd]; split
        · rfl
        · exact h s (by omega)⟩ (by
        show 100 - (nI (k + 1)).toNatClampNeg < 100 - (nI k).toNatClampNeg
        rw [n_clamp (by omega), n_clamp (by omega)]; omega)
      exact ⟨this.1, hv, this.2⟩
  · show 100 - (0 : Int32).toNatClampNeg < N_
    omega
  · exact ⟨0, Nat.zero_le _, rfl, fun s hs => absurd hs (Nat.not_lt_zero s)⟩
