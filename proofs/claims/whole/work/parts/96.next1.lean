theorem q_usefulF {x F : Int32} {u : Nat → Int32} (hx : isIt1 x) (hu : usR F u) : ((f_M_isUseful u x = 1 ∧ itF (fun s => bt F s = true) x) ∨ (f_M_isUseful u x = 0 ∧ ¬ itF (fun s => bt F s = true) x)) ∧ o_M_isUseful u x := by
  obtain ⟨h1, h2⟩ := q_useful hx hu.1
  refine ⟨?_, h2⟩
  rcases h1 with ⟨h1, h3⟩ | ⟨h1, h3⟩
  · exact Or.inl ⟨h1, itF_m (fun s hs q => (hu.2 s hs).mp q) hx h3⟩
  · exact Or.inr ⟨h1, fun q => h3 (itF_m (fun s hs q => (hu.2 s hs).mpr q) hx q)⟩
def dn (n m : Nat) (gh gi : Nat → Int32) (F : Int32) (tr : Int32 → Nat → Nat → Prop) (w0 : Nat → Int32) (X : Int32) (a p : Nat) : Prop := ∀ a' p', a' ≤ m → p' < n → (a' < a ∨ a' = a ∧ p' < p) → ∀ s, s < 10 → gh p' = nI s → w0 (10 * a' + s) = 1 → usP gi F p' → ∀ x b, chd m gi tr p' a' x b → inW m (X, 0, w0) x b
def rnd (n m : Nat) (gh gi : Nat → Int32) (F : Int32) (tr : Int32 → Nat → Nat → Prop) (X0 : Int32) (w0 : Nat → Int32) (a p : Nat) (u : Int32 × Int32 × (Nat → Int32)) : Prop := wSt X0 0 w0 u ∧ wG n m gh gi F tr u ∧ (u.2.1 = 0 → dn n m gh gi F tr w0 u.1 a p)
theorem wSt_0 {X0 W : Int32} {w0 : Nat → Int32} {u : Int32 × Int32 × (Nat → Int32)} (h : wSt X0 W w0 u) (h0 : u.2.1 = 0) : W = 0 ∧ ∀ k, k < 250 → u.2.2 k = w0 k := by
  rcases h.2.2.2 with ⟨h1, h2⟩ | ⟨h1, h2⟩
  · exact ⟨h1.symm.trans h0, h2⟩
  · rw [h0] at h1; exact absurd h1.symm m10.1
theorem q_n97 {N_ n m rl a : Nat} {gh gi gc rt vMn vMl : Nat → Int32} {lv : Nat → Nat} {F X0 X1 W1 : Int32} {w0 w1 us : Nat → Int32} (hN : 1000 ≤ N_) (hg : gOK n gh gi gc) (hl : lvOK n gh gi lv) (hr : rl ≤ 24) (hmr : m ≤ rl) (hM : mOK n rl gh gi gc rt (fun _ _ => True) vMn vMl) (hu : usR F us) (ham : a ≤ m) (h0 : rnd n m gh gi F (tE n gh gi gc rt) X0 w0 a 0 (X1, W1, w1))
    (Kf : Int32 → Int32 → Int32 → (Nat → Int32) → Int32 × Int32 × Int32 × Int32 × Int32 × Int32 × Int32 × (Nat → Int32) × (Nat → Int32) × (Nat → Int32) × (Nat → Int32)) (Ko : Int32 → Int32 → Int32 → (Nat → Int32) → Prop) (Ph : (Int32 × Int32 × Int32 × Int32 × Int32 × Int32 × Int32 × (Nat → Int32) × (Nat → Int32) × (Nat → Int32) × (Nat → Int32)) → Prop)
    (hK : ∀ x X W w, rnd n m gh gi F (tE n gh gi gc rt) X0 w0 a n (X, W, w) → Ph (Kf x X W w) ∧ Ko x X W w) :
    Ph (l_M_next_97 N_ (nI m) (nI a) (nI n) gh gi rt vMn us Kf N_ 0 X1 W1 w1) ∧ ol_M_next_97 N_ (nI m) (nI a) (nI n) gh gi rt vMn us Ko N_ 0 X1 W1 w1 := by
  have hn := hg.1
  have m1 := m10.1
  refine rj_M_next_97 N_ (nI m) (nI a) (nI n) gh gi rt vMn us Kf Ko (fun x _ _ _ => 100 - x.toNatClampNeg) (fun x X W w => ∃ p, p ≤ n ∧ x = nI p ∧ rnd n m gh gi F (tE n gh gi gc rt) X0 w0 a p (X, W, w)) Ph ?_ N_ _ _ _ _ ?_ ?_
  · intro rec reco x X W w hI ih
    obtain ⟨p, hp, rfl, h1, h2, h3⟩ := hI
    unfold s_M_next_97 os_M_next_97
    simp (disch := omega) only [n_le, bd_def, n_3x, n_1, n_p2, n_clamp]
    by_cases c : n ≤ p
    · have e : p = n := by omega
      subst e
      simp only [if_pos c]
      exact hK _ _ _ _ ⟨h1, h2, h3⟩
    · simp only [if_neg c]
      have hp' : p < n := by omega
      obtain ⟨h, hh, eh⟩ := head_lt hg hp'
      obtain ⟨i0, i1, i2⟩ := gOK_it hg hp'
      have v0 : vp_in (nI (3 * p)) 72 := n_in (by omega) (by omega)
      have v1 : vp_in (nI (3 * p + 1)) 72 := n_in (by omega) (by omega)
      have v2 : vp_in (nI (3 * p + 2)) 72 := n_in (by omega) (by omega)
      have v3 : vp_in (nI p) 24 := n_in (by omega) (by omega)
      have v4 : vp_in (nI (10 * a + h)) 250 := n_in (by omega) (by omega)
      have hmu : 100 - (nI (p + 1)).toNatClampNeg < 100 - (nI p).toNatClampNeg := by rw [n_clamp (by omega), n_clamp (by omega)]; omega
      simp only [eh, n_10x]
      rw [n_clamp (show 10 * a + h < 2147483648 by omega)]
      have skip : (w (10 * a + h) = 0 ∨ ¬ usP gi F p) → Ph (rec (nI (p + 1)) X W w) ∧ reco (nI (p + 1)) X W w := by
        intro hc
        refine ih _ _ _ _ ⟨p + 1, by omega, rfl, h1, h2, ?_⟩ hmu
        intro hW a' p' q1 q2 q3 s hs q4 q5 q6
        by_cases cc : a' = a ∧ p' = p
        · obtain ⟨rfl, rfl⟩ := cc
          rcases hc with hc | hc
          · rw [eh, n_eq (by omega) (by omega)] at q4
            subst q4
            rw [← (wSt_0 h1 hW).2 _ (by omega)] at q5
            have q5 : w (10 * a' + h) = 1 := q5
            rw [hc] at q5
            exact absurd q5.symm m1
          · exact absurd q6 hc
        · exact h3 hW a' p' q1 q2 (by omega) s hs q4 q5 q6
      rcases h1.1 (10 * a + h) (by omega) with e | e
      · have e : w (10 * a + h) = 0 := e
        simp only [if_pos e]
        have := skip (Or.inl e)
        exact ⟨this.1, v3, v4, this.2⟩
      · have e : w (10 * a + h) = 1 := e
        have e' : ¬ w (10 * a + h) = 0 := by rw [e]; exact m1
        simp only [if_neg e']
        obtain ⟨a1, a2⟩ := q_usefulF i0 hu
        rcases a1 with ⟨a1, a3⟩ | ⟨a1, a3⟩
        · simp only [a1, if_neg m1]
          obtain ⟨b1, b2⟩ := q_usefulF i1 hu
          rcases b1 with ⟨b1, b3⟩ | ⟨b1, b3⟩
          · simp only [b1, if_neg m1]
            obtain ⟨d1, d2⟩ := q_usefulF i2 hu
            rcases d1 with ⟨d1, d3⟩ | ⟨d1, d3⟩
            · simp only [d1, if_neg m1]
              have hRW := h2.1 a h ham hh e
              obtain ⟨⟨g1, g2, g3⟩, g4⟩ := q_wants (X := X) (W := W) (w := w) hN hg hl hr hmr hM (F := F) (p := p) (a := a) ⟨ham, hp', ⟨a3, b3, d3⟩, h, hh, eh, hRW⟩ h1.1 h2
              generalize f_M_wants N_ X W gi rt vMn w (nI p) (nI a) (nI m) = V at *
              have := ih (nI (p + 1)) _ _ _ ⟨p + 1, by omega, rfl, wSt_t h1 g1, g2, by
                intro hW
                obtain ⟨y1, y2⟩ := wSt_0 g1 hW
                obtain ⟨y3, y4⟩ := wSt_0 h1 y1
                intro a' p' q1 q2 q3 s hs q4 q5 q6 x b hx
                have hb := hx.1
                by_cases cc : a' = a ∧ p' = p
                · obtain ⟨rfl, rfl⟩ := cc
                  obtain ⟨r1, r2⟩ := g3 x b hx
                  exact ⟨fun s' hs' es => by
                    have := r1 s' hs' es
                    rw [y2 _ (by omega)] at this
                    exact (y4 _ (by omega)).symm.trans this, r2⟩
                · obtain ⟨r1, r2⟩ := h3 y1 a' p' q1 q2 (by omega) s hs q4 q5 q6 x b hx
                  exact ⟨r1, fun t ht et eb => g1.2.2.1 t (by omega) (r2 t ht et eb)⟩⟩ hmu
              exact ⟨this.1, v3, v4, v0, a2, v1, b2, v2, d2, g4, this.2⟩
            · simp only [d1, if_true]
              have := skip (Or.inr (fun q => d3 q.2.2))
              exact ⟨this.1, v3, v4, v0, a2, v1, b2, v2, d2, this.2⟩
          · simp only [b1, if_true]
            have := skip (Or.inr (fun q => b3 q.2.1))
            exact ⟨this.1, v3, v4, v0, a2, v1, b2, this.2⟩
        · simp only [a1, if_true]
          have := skip (Or.inr (fun q => a3 q.1))
          exact ⟨this.1, v3, v4, v0, a2, this.2⟩
  · show 100 - (0 : Int32).toNatClampNeg < N_
    omega
  · exact ⟨0, Nat.zero_le _, rfl, h0⟩
theorem q_n90 {N_ n m rl : Nat} {gh gi gc rt vMn vMl : Nat → Int32} {lv : Nat → Nat} {F X0 : Int32} {w0 us : Nat → Int32} (hN : 1000 ≤ N_) (hg : gOK n gh gi gc) (hl : lvOK n gh gi lv) (hr : rl ≤ 24) (hmr : m ≤ rl) (hM : mOK n rl gh gi gc rt (fun _ _ => True) vMn vMl) (hu : usR F us) (hw : wV w0) (hG : wG n m gh gi F (tE n gh gi gc rt) (X0, 0, w0))
    (Kf : Int32 → Int32 → Int32 → (Nat → Int32) → Int32 × Int32 × Int32 × Int32 × Int32 × Int32 × Int32 × (Nat → Int32) × (Nat → Int32) × (Nat → Int32) × (Nat → Int32)) (Ko : Int32 → Int32 → Int32 → (Nat → Int32) → Prop) (Ph : (Int32 × Int32 × Int32 × Int32 × Int32 × Int32 × Int32 × (Nat → Int32) × (Nat → Int32) × (Nat → Int32) × (Nat → Int32)) → Prop)
    (hK : ∀ x X W w, rnd n m gh gi F (tE n gh gi gc rt) X0 w0 (m + 1) 0 (X, W, w) → Ph (Kf x X W w) ∧ Ko x X W w) :
    Ph (l_M_next_90 N_ (nI m) (nI n) gh gi rt vMn us Kf N_ 0 X0 0 w0) ∧ ol_M_next_90 N_ (nI m) (nI n) gh gi rt vMn us Ko N_ 0 X0 0 w0 := by
  refine rj_M_next_90 N_ (nI m) (nI n) gh gi rt vMn us Kf Ko (fun x _ _ _ => 100 - x.toNatClampNeg) (fun x X W w => ∃ a, a ≤ m + 1 ∧ x = nI a ∧ rnd n m gh gi F (tE n gh gi gc rt) X0 w0 a 0 (X, W, w)) Ph ?_ N_ _ _ _ _ ?_ ?_
  · intro rec reco x X W w hI ih
    obtain ⟨a, ha, rfl, h1⟩ := hI
    unfold s_M_next_90 os_M_next_90
    simp (disch := omega) only [n_lt, n_1]
    by_cases c : m < a
    · have e : a = m + 1 := by omega
      subst e
      simp only [if_pos c]
      exact hK _ _ _ _ h1
    · simp only [if_neg c]
      refine q_n97 hN hg hl hr hmr hM hu (by omega) h1 _ _ Ph ?_
      intro x X' W' w' ⟨g1, g2, g3⟩
      refine ih _ _ _ _ ⟨a + 1, by omega, rfl, g1, g2, ?_⟩ (by
        show 100 - (nI (a + 1)).toNatClampNeg < 100 - (nI a).toNatClampNeg
        rw [n_clamp (by omega), n_clamp (by omega)]; omega)
      intro hW a' p' q1 q2 q3
      exact g3 hW a' p' q1 q2 (by omega)
  · show 100 - (0 : Int32).toNatClampNeg < N_
    omega
  · exact ⟨0, Nat.zero_le _, rfl, wSt_r hw, hG, fun _ a' p' _ _ q => by omega⟩
def nxM (n m : Nat) (gh gi : Nat → Int32) (F : Int32) (tr : Int32 → Nat → Nat → Prop) (X : Int32) : Prop := ∀ t, t < 32 → (bt X t = true ↔ nxT n m gh gi F tr t)
theorem q_n76 {N_ n m rl : Nat} {gh gi gc rt vMn vMl : Nat → Int32} {lv : Nat → Nat} {F x0 : Int32} {w0 us : Nat → Int32} (hN : 2000 ≤ N_) (hg : gOK n gh gi gc) (hl : lvOK n gh gi lv) (hr : rl ≤ 24) (hmr : m ≤ rl) (hM : mOK n rl gh gi gc rt (fun _ _ => True) vMn vMl) (hu : usR F us) (hw : ∀ k, k < 250 → w0 k = if k = 0 then 1 else 0)
    (Kf : Int32 → Int32 → Int32 → (Nat → Int32) → Int32 × Int32 × Int32 × Int32 × Int32 × Int32 × Int32 × (Nat → Int32) × (Nat → Int32) × (Nat → Int32) × (Nat → Int32)) (Ko : Int32 → Int32 → Int32 → (Nat → Int32) → Prop) (Ph : (Int32 × Int32 × Int32 × Int32 × Int32 × Int32 × Int32 × (Nat → Int32) × (Nat → Int32) × (Nat → Int32) × (Nat → Int32)) → Prop)
    (hK : ∀ x X W w, nxM n m gh gi F (tE n gh gi gc rt) X → Ph (Kf x X W w) ∧ Ko x X W w) :
    Ph (l_M_next_76 N_ (nI m) (nI n) gh gi rt vMn us Kf N_ x0 0 1 w0) ∧ ol_M_next_76 N_ (nI m) (nI n) gh gi rt vMn us Ko N_ x0 0 1 w0 := by
  have m1 := m10.1
  refine rj_M_next_76 N_ (nI m) (nI n) gh gi rt vMn us Kf Ko (fun _ _ W w => if W = 0 then 0 else 1 + (250 - cntV w)) (fun x X W w => (W = 0 ∨ W = 1) ∧ wV w ∧ w 0 = 1 ∧ wG n m gh gi F (tE n gh gi gc rt) (X, W, w) ∧ (W = 0 → dn n m gh gi F (tE n gh gi gc rt) w X (m + 1) 0)) Ph ?_ N_ _ _ _ _ ?_ ?_
  · intro rec reco x X W w hI ih
    obtain ⟨h1, h2, h3, h4, h5⟩ := hI
    unfold s_M_next_76 os_M_next_76
    by_cases c : W = 0
    · simp only [if_pos c]
      have hd := h5 c
      refine hK _ _ _ _ (fun t ht => ⟨h4.2 t ht, ?_⟩)
      intro ⟨q1, a, s, p, q2, q3, q4, q5, q6, q7, q8⟩
      have hcl : clW n m gh gi F (tE n gh gi gc rt) (fun a s => a ≤ m ∧ s < 10 ∧ w (10 * a + s) = 1) := by
        refine ⟨⟨Nat.zero_le _, by omega, h3⟩, ?_⟩
        intro a s p b s' y1 y2 y3 y4 y5 y6 y7
        exact ⟨y7.1, y6, (hd a p y1 y3 (by omega) s y2.2.1 y4 y2.2.2 y5 _ _ y7).1 s' y6 rfl⟩
      exact (hd a p q2 q5 (by omega) s q3 q6 (q4 _ hcl).2.2 q7 _ _ q8).2 t q1 rfl rfl
    · simp only [if_neg c]
      refine q_n90 (by omega) hg hl hr hmr hM hu h2 h4 _ _ Ph ?_
      intro x' X' W' w' ⟨g1, g2, g3⟩
      have gW : W' = 0 ∨ W' = 1 := by
        rcases g1.2.2.2 with ⟨q, -⟩ | ⟨q, -⟩
        · exact Or.inl q
        · exact Or.inr q
      refine ih _ _ _ _ ⟨gW, g1.1, g1.2.1 0 (by omega) h3, g2, ?_⟩ ?_
      · intro e
        have hww := (wSt_0 g1 e).2
        intro a' p' q1 q2 q3 s hs q4 q5 q6 x b hx
        have hb := hx.1
        have q5 : w' (10 * a' + s) = 1 := q5
        have e5 : w' (10 * a' + s) = w (10 * a' + s) := hww _ (by omega)
        rw [e5] at q5
        obtain ⟨r1, r2⟩ := g3 e a' p' q1 q2 q3 s hs q4 q5 q6 x b hx
        exact ⟨fun s' hs' es => (hww _ (by omega)).trans (r1 s' hs' es), r2⟩
      · show (if W' = 0 then 0 else 1 + (250 - cntV w')) < (if W = 0 then 0 else 1 + (250 - cntV w))
        rw [if_neg c]
        rcases g1.2.2.2 with ⟨q, -⟩ | ⟨q, q2⟩
        · have q : W' = 0 := q
          rw [if_pos q]; omega
        · have q : W' = 1 := q
          rw [if_neg (by rw [q]; exact m1)]
          have : cntV w < cntV w' := q2
          have : cntV w' ≤ 250 := cntB_top
          omega
  · show (if (1 : Int32) = 0 then 0 else 1 + (250 - cntV w0)) < N_
    rw [if_neg m1]; omega
  · refine ⟨Or.inr rfl, fun k hk => ?_, ?_, ⟨?_, ?_⟩, fun q => absurd q m1⟩
    · rw [hw k hk]; split
      · exact Or.inr rfl
      · exact Or.inl rfl
    · rw [hw 0 (by omega), if_pos rfl]
    · intro b s hb hs q
      have q : w0 (10 * b + s) = 1 := q
      rw [hw _ (by omega)] at q
      split at q
      · have e1 : b = 0 := by omega
        have e2 : s = 0 := by omega
        subst e1; subst e2; exact RW_cl.1
      · exact absurd q.symm m1
    · intro t ht q
      have q : bt 0 t = true := q
      rw [bt_0] at q; cases q
theorem q_n43 {N_ : Nat} {w : Nat → Int32} (hN : 1000 ≤ N_)
    (Kf : Int32 → (Nat → Int32) → Int32 × Int32 × Int32 × Int32 × Int32 × Int32 × Int32 × (Nat → Int32) × (Nat → Int32) × (Nat → Int32) × (Nat → Int32)) (Ko : Int32 → (Nat → Int32) → Prop) (Ph : (Int32 × Int32 × Int32 × Int32 × Int32 × Int32 × Int32 × (Nat → Int32) × (Nat → Int32) × (Nat → Int32) × (Nat → Int32)) → Prop)
    (hK : ∀ x w, (∀ k, k < 250 → w k = if k = 0 then 1 else 0) → Ph (Kf x w) ∧ Ko x w) :
    Ph (l_M_next_43 Kf N_ 0 w) ∧ ol_M_next_43 Ko N_ 0 w := by
  refine rj_M_next_43 Kf Ko (fun x _ => 300 - x.toNatClampNeg) (fun x w => ∃ z, z ≤ 250 ∧ x = nI z ∧ ∀ k, k < z → w k = if k = 0 then 1 else 0) Ph ?_ N_ _ _ ?_ ?_
  · intro rec reco x w hI ih
    obtain ⟨z, hz, rfl, h⟩ := hI
    have e250 : (250 : Int32) = nI 250 := rfl
    unfold s_M_next_43 os_M_next_43
    simp (disch := omega) only [e250, q_0, n_le, n_eq, n_clamp, n_1]
    by_cases c : 250 ≤ z
    · simp only [if_pos c]
      exact hK _ _ (fun k hk => h k (by omega))
    · have hv : vp_in (nI z) 250 := n_in (by omega) (by omega)
      simp only [if_neg c]
      have hmu : 300 - (nI (z + 1)).toNatClampNeg < 300 - (nI z).toNatClampNeg := by rw [n_clamp (by omega), n_clamp (by omega)]; omega
      have go : ∀ v : Int32, (v = if z = 0 then 1 else 0) → Ph (rec (nI (z + 1)) (upd w z v)) ∧ reco (nI (z + 1)) (upd w z v) := by
        intro v ev
        refine ih _ _ ⟨z + 1, by omega, rfl, fun k hk => ?_⟩ hmu
        rw [n_upd]
        by_cases ck : k = z
        · subst ck; rw [if_pos rfl, ev]
        · rw [if_neg ck]; exact h k (by omega)
      by_cases cz : z = 0
      · simp only [if_pos cz]
        have := go (vp_nar .boolean 1) (by rw [if_pos cz]; exact nar1.1)
        exact ⟨this.1, hv, this.2⟩
      · simp only [if_neg cz]
        have := go (vp_nar .boolean 0) (by rw [if_neg cz]; exact nar1.2)
        exact ⟨this.1, hv, this.2⟩
  · show 300 - (0 : Int32).toNatClampNeg < N_
    omega
  · exact ⟨0, Nat.zero_le _, rfl, fun k hk => absurd hk (Nat.not_lt_zero k)⟩
