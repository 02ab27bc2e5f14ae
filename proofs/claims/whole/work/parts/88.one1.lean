theorem kI_neg : ¬ (0 : Int32) ≤ -1 := by decide
theorem kI_pos {m : Nat} (h : m < 2147483648) : (0 : Int32) ≤ nI m := by rw [q_0, n_le (by omega) h]; omega
/-- the table of the forest lies in the reference's chart -/
theorem tOK_V {n rl i j : Nat} {gh gi gc rt vMn vMl : Nat → Int32} {lv : Nat → Nat} (hg : gOK n gh gi gc) (hl : lvOK n gh gi lv) (hr : rl ≤ 24) (hj : j ≤ rl) (hM : mOK n rl gh gi gc rt (fun _ _ => True) vMn vMl) : tOK i j vMn vMl (vV n gh gi gc rt) := by
  intro s a b hs h1 h2 h3
  have := hl.1 s
  exact ⟨hM s a b hs h2 (by omega) trivial, eG_w (vV_g hg hl hs h2) (by unfold lim; omega), vV_sat⟩
theorem splE_1 {n p i f q j : Nat} {gh gi gc rt : Nat → Int32} : (eS (spl gi rt (vV n gh gi gc rt) p i f q j)).1 = (eS (splE n gh gi gc rt i j p f q)).1 := by
  show satN _ = satN (1 * _)
  rw [Nat.one_mul]
theorem q_o145 {N_ n p i j c0 : Nat} {gh gi gc rt vMn vMl : Nat → Int32} {k : Option Nat} {x7 : Int32} (hN : 2000 ≤ N_) (hg : gOK n gh gi gc) (hp : p < n) (hij : i < j) (hj : j ≤ 24) (hT : tOK i j vMn vMl (vV n gh gi gc rt)) (hk : kOK k) (hc0 : c0 ≤ 2000000) (h7 : x7 = -1)
    (R : pR) (Kp : Option Nat → pR) (hR : pkF (some c0) (splE n gh gi gc rt i j) gi j p Kp (fNo gi p i j) (fLo gi p i j) k = R)
    (Kf : Int32 → Int32 → Int32 → Int32 → Int32 → Int32 × Int32 × Int32 × Int32 × (Nat → Int32) × (Nat → Int32)) (Ko : Int32 → Int32 → Int32 → Int32 → Int32 → Prop) (Ph : (Int32 × Int32 × Int32 × Int32 × (Nat → Int32) × (Nat → Int32)) → Prop)
    (hK : ∀ k' x9 F S, kOK k' → Kp k' = R → Ph (Kf (kI k') (-1) x9 F S) ∧ Ko (kI k') (-1) x9 F S) (hF : ∀ f q k' x9, R = some (p, f, q, k') → Ph (Kf (kI k') (nI p) x9 (nI f) (nI q)) ∧ Ko (kI k') (nI p) x9 (nI f) (nI q)) :
    Ph (l_M_one_145 (nI i) (nI j) (nI c0) (nI p) gi gc rt vMn vMl Kf N_ (kI k) x7 (if 0 < fNo gi p i j then 1 else 0) (nI (fLo gi p i j)) (nI (sLo gi p (fLo gi p i j) j))) ∧ ol_M_one_145 (nI i) (nI j) (nI c0) (nI p) gi gc rt vMn vMl Ko N_ (kI k) x7 (if 0 < fNo gi p i j then 1 else 0) (nI (fLo gi p i j)) (nI (sLo gi p (fLo gi p i j) j)) := by
  have hn := hg.1
  have h2 := gOK_2 hg hp
  have m1 : (1 : Int32) ≠ 0 := by decide
  subst h7
  refine rj_M_one_145 (nI i) (nI j) (nI c0) (nI p) gi gc rt vMn vMl Kf Ko (fun _ _ x9 F S => if x9 = 0 then 0 else 1 + (1000 - (30 * F.toNatClampNeg + S.toNatClampNeg)))
    (fun x4 x7 x9 F S => (x9 = 0 ∧ ((x7 = -1 ∧ ∃ k', x4 = kI k' ∧ kOK k' ∧ Kp k' = R) ∨ (x7 = nI p ∧ ∃ f q k', x4 = kI k' ∧ F = nI f ∧ S = nI q ∧ R = some (p, f, q, k')))) ∨
      (x9 = 1 ∧ x7 = -1 ∧ ∃ a b k', a < fNo gi p i j ∧ b < sNo gi p (fLo gi p i j + a) j ∧ F = nI (fLo gi p i j + a) ∧ S = nI (sLo gi p (fLo gi p i j + a) j + b) ∧ x4 = kI k' ∧ kOK k' ∧ pkQ (some c0) (splE n gh gi gc rt i j) p (fLo gi p i j + a) (fun k'' => pkF (some c0) (splE n gh gi gc rt i j) gi j p Kp (fNo gi p i j - (a + 1)) (fLo gi p i j + (a + 1)) k'') (sNo gi p (fLo gi p i j + a) j - b) (sLo gi p (fLo gi p i j + a) j + b) k' = R)) Ph ?_ N_ _ _ _ _ _ ?_ ?_
  · intro rec reco x4 x7 x9 F S hI ih
    unfold s_M_one_145 os_M_one_145
    rcases hI with ⟨e9, hI⟩ | ⟨e9, e7, a, b, k', ha1, hb1, rfl, rfl, rfl, hk', hP⟩
    · simp only [if_pos e9]
      rcases hI with ⟨rfl, k', rfl, hk', hP⟩ | ⟨rfl, f, q, k', rfl, rfl, rfl, hP⟩
      · exact hK _ _ _ _ hk' hP
      · exact hF _ _ _ _ hP
    · obtain ⟨hsp, hf1, hs1, hs2⟩ := spl_in hij ha1 hb1 h2
      have h90 : ¬ x9 = 0 := by rw [e9]; decide
      obtain ⟨w1, w2⟩ := q_ways (rt := rt) (vMn := vMn) hg hp hj hT hsp
      obtain ⟨p1, p2, p3⟩ := q_price (rt := rt) (vMl := vMl) hg hp hj hT hsp
      rw [splE_1] at w1
      rw [show sNo gi p (fLo gi p i j + a) j - b = (sNo gi p (fLo gi p i j + a) j - (b + 1)) + 1 by omega] at hP
      unfold pkQ at hP
      have hs : (eS (splE n gh gi gc rt i j p (fLo gi p i j + a) (sLo gi p (fLo gi p i j + a) j + b))).1 ≤ 1000000000 := sat_le
      have fin : ∀ k'', kOK k'' → pkQ (some c0) (splE n gh gi gc rt i j) p (fLo gi p i j + a) (fun k'' => pkF (some c0) (splE n gh gi gc rt i j) gi j p Kp (fNo gi p i j - (a + 1)) (fLo gi p i j + (a + 1)) k'') (sNo gi p (fLo gi p i j + a) j - (b + 1)) (sLo gi p (fLo gi p i j + a) j + b + 1) k'' = R →
          Ph (t64 gi (nI p) (nI i) (nI j) (nI (fLo gi p i j + a)) (nI (sLo gi p (fLo gi p i j + a) j + b)) (fun F S => rec (kI k'') (-1) 0 F S) (fun F S => rec (kI k'') (-1) 1 F S)) ∧ ot64 gi (nI p) (nI i) (nI j) (nI (fLo gi p i j + a)) (nI (sLo gi p (fLo gi p i j + a) j + b)) (fun F S => reco (kI k'') (-1) 0 F S) (fun F S => reco (kI k'') (-1) 1 F S) := by
        intro k'' hk'' hQ
        rcases q_tail (gi := gi) (p := p) (by omega) hij hj h2 ha1 hb1 with ⟨c1, r1, r2⟩ | ⟨c1, c2, r1, r2⟩ | ⟨c1, c2, F, S, r1, r2⟩
        · have := ih (kI k'') (-1) 1 _ _ (Or.inr ⟨rfl, rfl, a, b + 1, k'', ha1, c1, rfl, rfl, rfl, hk'', hQ⟩) (by
            obtain ⟨-, -, z3, -⟩ := spl_in hij ha1 c1 h2
            rw [if_neg m1, if_neg h90, n_clamp (by omega), n_clamp (by omega), n_clamp (by omega)]; omega)
          rw [r1]; exact ⟨this.1, r2 _ _ this.2⟩
        · have z0 := sNo_pos hij c2 h2
          obtain ⟨-, z2, z3, -⟩ := spl_in hij c2 z0 h2
          rw [show sNo gi p (fLo gi p i j + a) j - (b + 1) = 0 by omega] at hQ
          have hQ : pkF (some c0) (splE n gh gi gc rt i j) gi j p Kp (fNo gi p i j - (a + 1)) (fLo gi p i j + (a + 1)) k'' = R := hQ
          rw [show fNo gi p i j - (a + 1) = (fNo gi p i j - (a + 1 + 1)) + 1 by omega] at hQ
          unfold pkF at hQ
          have := ih (kI k'') (-1) 1 _ _ (Or.inr ⟨rfl, rfl, a + 1, 0, k'', c2, z0, rfl, rfl, rfl, hk'', hQ⟩) (by
            rw [if_neg m1, if_neg h90, n_clamp (by omega), n_clamp (by omega), n_clamp (by omega), n_clamp (by omega)]; omega)
          rw [r1]; exact ⟨this.1, r2 _ _ this.2⟩
        · rw [show sNo gi p (fLo gi p i j + a) j - (b + 1) = 0 by omega] at hQ
          have hQ : pkF (some c0) (splE n gh gi gc rt i j) gi j p Kp (fNo gi p i j - (a + 1)) (fLo gi p i j + (a + 1)) k'' = R := hQ
          rw [show fNo gi p i j - (a + 1) = 0 by omega] at hQ
          have := ih (kI k'') (-1) 0 F S (Or.inl ⟨rfl, Or.inl ⟨rfl, k'', rfl, hk'', hQ⟩⟩) (by
            rw [if_pos rfl, if_neg h90]; omega)
          rw [r1]; exact ⟨this.1, r2 _ _ this.2⟩
      have found : chs (some c0) (splE n gh gi gc rt i j p (fLo gi p i j + a) (sLo gi p (fLo gi p i j + a) j + b)) k' = true → Ph (rec (kI k') (nI p) 0 (nI (fLo gi p i j + a)) (nI (sLo gi p (fLo gi p i j + a) j + b))) ∧ reco (kI k') (nI p) 0 (nI (fLo gi p i j + a)) (nI (sLo gi p (fLo gi p i j + a) j + b)) := by
        intro cc
        rw [if_pos cc] at hP
        exact ih _ _ _ _ _ (Or.inl ⟨rfl, Or.inr ⟨rfl, _, _, k', rfl, rfl, rfl, hP.symm⟩⟩) (by
            rw [if_pos rfl, if_neg h90]; omega)
      simp only [if_neg h90, bd_def, w1, p1]
      cases k' with
      | none =>
        have e : kI none = -1 := rfl
        simp only [e, if_neg kI_neg] at *
        by_cases cc : mI (eM (own gc p) (spl gi rt (vV n gh gi gc rt) p i (fLo gi p i j + a) (sLo gi p (fLo gi p i j + a) j + b) j)).2 = nI c0
        · have cc' : (splE n gh gi gc rt i j p (fLo gi p i j + a) (sLo gi p (fLo gi p i j + a) j + b)).2 = some c0 := mI_inj (fun c h => by have := p3.2 c h; omega) (fun c h => by have := Option.some.inj h; omega) cc
          simp only [if_pos cc]
          have := found (by unfold chs; exact decide_eq_true cc')
          exact ⟨this.1, w2, p2, this.2⟩
        · simp only [if_neg cc]
          have cc' : ¬ chs (some c0) (splE n gh gi gc rt i j p (fLo gi p i j + a) (sLo gi p (fLo gi p i j + a) j + b)) none = true := by
            intro q
            unfold chs at q
            have q := of_decide_eq_true q
            exact cc (by show mI (splE n gh gi gc rt i j p (fLo gi p i j + a) (sLo gi p (fLo gi p i j + a) j + b)).2 = _; rw [q]; rfl)
          rw [if_neg cc'] at hP
          have := fin none (fun m h => by cases h) hP
          unfold t64 ot64 at this
          simp only [bd_def, e] at this
          exact ⟨this.1, w2, p2, this.2⟩
      | some m =>
        have hm := hk' m rfl
        have e : kI (some m) = nI m := rfl
        simp only [e, if_pos (kI_pos (show m < 2147483648 by omega))] at *
        simp (disch := omega) only [n_le]
        by_cases cc : (eS (splE n gh gi gc rt i j p (fLo gi p i j + a) (sLo gi p (fLo gi p i j + a) j + b))).1 ≤ m
        · simp only [if_pos cc]
          have cc' : ¬ chs (some c0) (splE n gh gi gc rt i j p (fLo gi p i j + a) (sLo gi p (fLo gi p i j + a) j + b)) (some m) = true := by
            intro q
            unfold chs at q
            have q := of_decide_eq_true q
            omega
          rw [if_neg cc'] at hP
          have := fin _ (kOK_S hk') hP
          have e2 : kI (kS (some m) (eS (splE n gh gi gc rt i j p (fLo gi p i j + a) (sLo gi p (fLo gi p i j + a) j + b))).1) = nI (m - (eS (splE n gh gi gc rt i j p (fLo gi p i j + a) (sLo gi p (fLo gi p i j + a) j + b))).1) := rfl
          unfold t64 ot64 at this
          simp only [bd_def, e2] at this
          rw [n_sub cc]
          exact ⟨this.1, w2, this.2⟩
        · simp only [if_neg cc]
          have := found (by unfold chs; exact decide_eq_true (by omega))
          exact ⟨this.1, w2, this.2⟩
  · exact mu_lt hN
  · by_cases c : 0 < fNo gi p i j
    · right
      rw [if_pos c]
      refine ⟨rfl, rfl, 0, 0, k, c, sNo_pos hij c h2, rfl, rfl, rfl, hk, ?_⟩
      rw [show fNo gi p i j = (fNo gi p i j - 1) + 1 by omega] at hR
      unfold pkF at hR
      exact hR
    · left
      rw [if_neg c]
      rw [show fNo gi p i j = 0 by omega] at hR
      exact ⟨rfl, Or.inl ⟨rfl, k, rfl, hk, hR⟩⟩
theorem q_o99 {N_ n s i j c0 p0 f0 q0 : Nat} {gh gi gc rt vMn vMl : Nat → Int32} {k k0 : Option Nat} {F S : Int32} (hN : 2000 ≤ N_) (hg : gOK n gh gi gc) (hij : i < j) (hj : j ≤ 24) (hT : tOK i j vMn vMl (vV n gh gi gc rt)) (hk : kOK k) (hc0 : c0 ≤ 2000000)
    (hR : pkP (some c0) (splE n gh gi gc rt i j) gh gi s i j n 0 k = some (p0, f0, q0, k0)) (hp0 : p0 < n)
    (Kf : Int32 → Int32 → Int32 → Int32 → Int32 → Int32 × Int32 × Int32 × Int32 × (Nat → Int32) × (Nat → Int32)) (Ko : Int32 → Int32 → Int32 → Int32 → Int32 → Prop) (Ph : (Int32 × Int32 × Int32 × Int32 × (Nat → Int32) × (Nat → Int32)) → Prop)
    (hF : ∀ x8, Ph (Kf (kI k0) (nI p0) x8 (nI f0) (nI q0)) ∧ Ko (kI k0) (nI p0) x8 (nI f0) (nI q0)) :
    Ph (l_M_one_99 N_ (nI s) (nI i) (nI j) (nI c0) (nI n) gh gi gc rt vMn vMl Kf N_ (kI k) (-1) 0 F S) ∧ ol_M_one_99 N_ (nI s) (nI i) (nI j) (nI c0) (nI n) gh gi gc rt vMn vMl Ko N_ (kI k) (-1) 0 F S := by
  have hn := hg.1
  refine rj_M_one_99 N_ (nI s) (nI i) (nI j) (nI c0) (nI n) gh gi gc rt vMn vMl Kf Ko (fun _ x7 x8 _ _ => 100 - x8.toNatClampNeg)
    (fun x4 x7 x8 F S => (x7 = nI p0 ∧ x4 = kI k0 ∧ F = nI f0 ∧ S = nI q0) ∨
      (x7 = -1 ∧ ∃ p k', p ≤ n ∧ x8 = nI p ∧ x4 = kI k' ∧ kOK k' ∧ pkP (some c0) (splE n gh gi gc rt i j) gh gi s i j (n - p) p k' = some (p0, f0, q0, k0))) Ph ?_ N_ _ _ _ _ _ ?_ ?_
  · intro rec reco x4 x7 x8 F S hI ih
    unfold s_M_one_99 os_M_one_99
    rcases hI with ⟨rfl, rfl, rfl, rfl⟩ | ⟨rfl, p, k', hp, rfl, rfl, hk', hP⟩
    · have c7 : (0 : Int32) ≤ nI p0 := kI_pos (by omega)
      by_cases c8 : nI n ≤ x8
      · simp only [if_pos c8]; exact hF x8
      · simp only [if_neg c8, if_pos c7]; exact hF x8
    · simp (disch := omega) only [n_le, if_neg kI_neg, bd_def, n_clamp]
      by_cases c8 : n ≤ p
      · rw [show n - p = 0 by omega] at hP
        cases hP
      · simp only [if_neg c8, n_1]
        have hp' : p < n := by omega
        have hmu : 100 - (nI (p + 1)).toNatClampNeg < 100 - (nI p).toNatClampNeg := by rw [n_clamp (by omega), n_clamp (by omega)]; omega
        have hv : vp_in (nI p) 24 := n_in (by omega) (by omega)
        rw [show n - p = (n - (p + 1)) + 1 by omega] at hP
        unfold pkP at hP
        by_cases cc : gh p = nI s
        · rw [if_pos cc] at hP
          simp only [if_pos cc]
          obtain ⟨b1, b2, b3, b4⟩ := q_begin (gi := gi) (F := F) (S := S) (show p < 24 by omega) hij hj (gOK_2 hg hp')
          rw [b1]
          simp only [b3]
          obtain ⟨r1, r2⟩ := q_o145 (Kf := fun x4_145 x7_145 x9_145 vMF_145 vMS_145 => rec x4_145 x7_145 (nI (p + 1)) vMF_145 vMS_145) (Ko := fun x4_145 x7_145 x9_145 vMF_145 vMS_145 => reco x4_145 x7_145 (nI (p + 1)) vMF_145 vMS_145) hN hg hp' hij hj hT hk' hc0 rfl _ _ hP Ph
            (fun k'' x9 F S hk'' hQ => ih _ _ _ _ _ (Or.inr ⟨rfl, p + 1, k'', by omega, rfl, rfl, hk'', hQ⟩) hmu)
            (fun f q k'' x9 hQ => by
              obtain ⟨rfl, rfl, rfl, rfl⟩ : p0 = p ∧ f0 = f ∧ q0 = q ∧ k0 = k'' := by
                have := Option.some.inj hQ
                simp only [Prod.mk.injEq] at this
                exact this
              exact ih _ _ _ _ _ (Or.inl ⟨rfl, rfl, rfl, rfl⟩) hmu)
          exact ⟨r1, hv, b2, b4 _ _, r2⟩
        · rw [if_neg cc] at hP
          simp only [if_neg cc]
          have := ih (kI k') (-1) (nI (p + 1)) F S (Or.inr ⟨rfl, p + 1, k', by omega, rfl, rfl, hk', hP⟩) hmu
          exact ⟨this.1, hv, this.2⟩
  · show 100 - (0 : Int32).toNatClampNeg < N_
    omega
  · exact Or.inr ⟨rfl, 0, k, Nat.zero_le _, rfl, rfl, hk, hR⟩
