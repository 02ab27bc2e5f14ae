/-! The reference's work at a part: one production, one symbol -/
theorem mu_lt {c : Prop} [Decidable c] {a N : Nat} (h : 2000 ≤ N) : (if c then 0 else 1 + (1000 - a)) < N := by
  split <;> omega
def sG (gi gc rt : Nat → Int32) (tb : Nat → Nat → Nat → vE) (p i f j b : Nat) : vE := sm (fun q => eM (own gc p) (spl gi rt tb p i f q j)) (sLo gi p f j) b
theorem sG_full {gi gc rt : Nat → Int32} {tb : Nat → Nat → Nat → vE} {p i f j : Nat} : sG gi gc rt tb p i f j (sNo gi p f j) = eM (own gc p) (eM (itE rt tb (gi (3 * p)) i f) (rst gi rt tb p f j)) := by
  unfold rst sG spl
  rw [sm_M, sm_M]
theorem sF_s {gi gc rt : Nat → Int32} {tb : Nat → Nat → Nat → vE} {p i j a : Nat} : sF gi gc rt tb p i j (a + 1) = eA (sF gi gc rt tb p i j a) (sG gi gc rt tb p i (fLo gi p i j + a) j (sNo gi p (fLo gi p i j + a) j)) := by
  rw [sG_full]; rfl
theorem gOK_2 {n : Nat} {gh gi gc : Nat → Int32} (hg : gOK n gh gi gc) {p : Nat} (hp : p < n) : gi (3 * p + 1) = -1 → gi (3 * p + 2) = -1 := by
  intro c1
  obtain ⟨-, -, i12, -⟩ := hg.2 p hp
  rcases i12 with z | z
  · exact z.2
  · exact absurd c1 (isIt_m1 z.1)
set_option maxHeartbeats 1000000 in
theorem q_w64 {N_ n p i j : Nat} {gh gi gc rt vMn vMl : Nat → Int32} {tb : Nat → Nat → Nat → vE} {acc : vE} (hN : 2000 ≤ N_) (hg : gOK n gh gi gc) (hp : p < n) (hij : i < j) (hj : j ≤ 24) (hT : tOK i j vMn vMl tb) (ha : eG 2000000 acc)
    (Kf : Int32 → Int32 → Int32 → Int32 → Int32 → Int32 × Int32 × Int32 × (Nat → Int32) × (Nat → Int32)) (Ko : Int32 → Int32 → Int32 → Int32 → Int32 → Prop) (Ph : (Int32 × Int32 × Int32 × (Nat → Int32) × (Nat → Int32)) → Prop)
    (hK : ∀ x8 F S, Ph (Kf (nI (eS (eA acc (eM (own gc p) (prd gi rt tb p i j)))).1) (mI (eA acc (eM (own gc p) (prd gi rt tb p i j))).2) x8 F S) ∧ Ko (nI (eS (eA acc (eM (own gc p) (prd gi rt tb p i j)))).1) (mI (eA acc (eM (own gc p) (prd gi rt tb p i j))).2) x8 F S) :
    Ph (l_M_work_64 (nI i) (nI j) (nI p) gi gc rt vMn vMl Kf N_ (nI (eS acc).1) (mI acc.2) (if 0 < fNo gi p i j then 1 else 0) (nI (fLo gi p i j)) (nI (sLo gi p (fLo gi p i j) j))) ∧ ol_M_work_64 (nI i) (nI j) (nI p) gi gc rt vMn vMl Ko N_ (nI (eS acc).1) (mI acc.2) (if 0 < fNo gi p i j then 1 else 0) (nI (fLo gi p i j)) (nI (sLo gi p (fLo gi p i j) j)) := by
  have hn := hg.1
  have h2 := gOK_2 hg hp
  have hfull : ∀ {x5 x6 x8 F S : Int32}, x5 = nI (eS (eA acc (sF gi gc rt tb p i j (fNo gi p i j)))).1 → x6 = mI (eA acc (sF gi gc rt tb p i j (fNo gi p i j))).2 → Ph (Kf x5 x6 x8 F S) ∧ Ko x5 x6 x8 F S := by
    intro x5 x6 x8 F S e1 e2
    rw [sF_all] at e1 e2
    subst e1; subst e2
    exact hK x8 F S
  refine rj_M_work_64 (nI i) (nI j) (nI p) gi gc rt vMn vMl Kf Ko (fun _ _ x8 F S => if x8 = 0 then 0 else 1 + (1000 - (30 * F.toNatClampNeg + S.toNatClampNeg)))
    (fun x5 x6 x8 F S => (x8 = 0 ∧ x5 = nI (eS (eA acc (sF gi gc rt tb p i j (fNo gi p i j)))).1 ∧ x6 = mI (eA acc (sF gi gc rt tb p i j (fNo gi p i j))).2) ∨
      (x8 = 1 ∧ ∃ a b, a < fNo gi p i j ∧ b < sNo gi p (fLo gi p i j + a) j ∧ F = nI (fLo gi p i j + a) ∧ S = nI (sLo gi p (fLo gi p i j + a) j + b) ∧ x5 = nI (eS (eA acc (eA (sF gi gc rt tb p i j a) (sG gi gc rt tb p i (fLo gi p i j + a) j b)))).1 ∧ x6 = mI (eA acc (eA (sF gi gc rt tb p i j a) (sG gi gc rt tb p i (fLo gi p i j + a) j b))).2)) Ph ?_ N_ _ _ _ _ _ ?_ ?_
  · intro rec reco x5 x6 x8 F S hI ih
    unfold s_M_work_64 os_M_work_64
    rcases hI with ⟨e8, e5, e6⟩ | ⟨e8, a, b, ha1, hb1, eF, eS', e5, e6⟩
    · simp only [if_pos e8]; exact hfull e5 e6
    · obtain ⟨hsp, hf1, hs1, hs2⟩ := spl_in hij ha1 hb1 h2
      have h80 : ¬ x8 = 0 := by rw [e8]; decide
      subst eF; subst eS'
      obtain ⟨w1, w2⟩ := q_ways (rt := rt) (vMn := vMn) hg hp hj hT hsp
      obtain ⟨p1, p2, p3⟩ := q_price (rt := rt) (vMl := vMl) hg hp hj hT hsp
      have hgF : eG 2000000 (sF gi gc rt tb p i j a) ∧ eG 2000000 (sG gi gc rt tb p i (fLo gi p i j + a) j b) := by
        constructor
        · have : ∀ d, d ≤ a → eG 2000000 (sF gi gc rt tb p i j d) := by
            intro d
            induction d with
            | zero => intro _; exact eG_z
            | succ d ihd =>
              intro hd
              rw [sF_s]
              refine eG_A (ihd (by omega)) (eG_sm (fun z z1 z2 => ?_))
              obtain ⟨y1, -⟩ := spl_in (b := z - sLo gi p (fLo gi p i j + d) j) hij (show d < fNo gi p i j by omega) (by omega) h2
              rw [show sLo gi p (fLo gi p i j + d) j + (z - sLo gi p (fLo gi p i j + d) j) = z by omega] at y1
              exact (q_price (rt := rt) (vMl := vMl) hg hp hj hT y1).2.2
          exact this a (Nat.le_refl a)
        · refine eG_sm (fun z z1 z2 => ?_)
          obtain ⟨y1, -⟩ := spl_in (b := z - sLo gi p (fLo gi p i j + a) j) hij ha1 (by omega) h2
          rw [show sLo gi p (fLo gi p i j + a) j + (z - sLo gi p (fLo gi p i j + a) j) = z by omega] at y1
          exact (q_price (rt := rt) (vMl := vMl) hg hp hj hT y1).2.2
      have hgA := eG_A ha (eG_A hgF.1 hgF.2)
      have hnx : sG gi gc rt tb p i (fLo gi p i j + a) j (b + 1) = eA (sG gi gc rt tb p i (fLo gi p i j + a) j b) (eM (own gc p) (spl gi rt tb p i (fLo gi p i j + a) (sLo gi p (fLo gi p i j + a) j + b) j)) := rfl
      obtain ⟨co, co1, co2, co3, co4⟩ := own_G hg hp
      have f5 : f_M_plus x5 (nI (eS (spl gi rt tb p i (fLo gi p i j + a) (sLo gi p (fLo gi p i j + a) j + b) j)).1) = nI (eS (eA acc (eA (sF gi gc rt tb p i j a) (sG gi gc rt tb p i (fLo gi p i j + a) j (b + 1))))).1 := by
        rw [e5, q_plus eS1 eS1, hnx, co3]
        generalize sF gi gc rt tb p i j a = A
        generalize sG gi gc rt tb p i (fLo gi p i j + a) j b = B
        generalize spl gi rt tb p i (fLo gi p i j + a) (sLo gi p (fLo gi p i j + a) j + b) j = D
        show nI (satN (satN (acc.1 + (A.1 + B.1)) + satN D.1)) = nI (satN (acc.1 + (A.1 + (B.1 + 1 * D.1))))
        rw [sat_a, sat_a2, Nat.one_mul]; congr 2; omega
      have f6 : (if x6 ≤ mI (eM (own gc p) (spl gi rt tb p i (fLo gi p i j + a) (sLo gi p (fLo gi p i j + a) j + b) j)).2 then x6 else mI (eM (own gc p) (spl gi rt tb p i (fLo gi p i j + a) (sLo gi p (fLo gi p i j + a) j + b) j)).2) = mI (eA acc (eA (sF gi gc rt tb p i j a) (sG gi gc rt tb p i (fLo gi p i j + a) j (b + 1)))).2 := by
        rw [e6, q_min (fun c h => by have := hgA.2 c h; omega) (fun c h => by have := p3.2 c h; omega), hnx]
        show mI (oMin (oMin acc.2 (oMin _ _)) _) = mI (oMin acc.2 (oMin _ (oMin _ _)))
        rw [oMin_a, oMin_a]
      have fin : ∀ y6, y6 = mI (eA acc (eA (sF gi gc rt tb p i j a) (sG gi gc rt tb p i (fLo gi p i j + a) j (b + 1)))).2 → Ph (t64 gi (nI p) (nI i) (nI j) (nI (fLo gi p i j + a)) (nI (sLo gi p (fLo gi p i j + a) j + b)) (fun F S => rec (nI (eS (eA acc (eA (sF gi gc rt tb p i j a) (sG gi gc rt tb p i (fLo gi p i j + a) j (b + 1))))).1) y6 0 F S) (fun F S => rec (nI (eS (eA acc (eA (sF gi gc rt tb p i j a) (sG gi gc rt tb p i (fLo gi p i j + a) j (b + 1))))).1) y6 1 F S)) ∧ ot64 gi (nI p) (nI i) (nI j) (nI (fLo gi p i j + a)) (nI (sLo gi p (fLo gi p i j + a) j + b)) (fun F S => reco (nI (eS (eA acc (eA (sF gi gc rt tb p i j a) (sG gi gc rt tb p i (fLo gi p i j + a) j (b + 1))))).1) y6 0 F S) (fun F S => reco (nI (eS (eA acc (eA (sF gi gc rt tb p i j a) (sG gi gc rt tb p i (fLo gi p i j + a) j (b + 1))))).1) y6 1 F S) := by
        intro y6 ey6
        have m1 : (1 : Int32) ≠ 0 := by decide
        rcases q_tail (gi := gi) (p := p) (by omega) hij hj h2 ha1 hb1 with ⟨c1, r1, r2⟩ | ⟨c1, c2, r1, r2⟩ | ⟨c1, c2, F, S, r1, r2⟩
        · have := ih _ y6 1 _ _ (Or.inr ⟨rfl, a, b + 1, ha1, c1, rfl, rfl, rfl, ey6⟩) (by
            obtain ⟨-, -, z3, -⟩ := spl_in hij ha1 c1 h2
            rw [if_neg m1, if_neg h80, n_clamp (by omega), n_clamp (by omega), n_clamp (by omega)]; omega)
          rw [r1]; exact ⟨this.1, r2 _ _ this.2⟩
        · have z0 := sNo_pos hij c2 h2
          obtain ⟨-, z2, z3, -⟩ := spl_in hij c2 z0 h2
          have e7 : eA (sF gi gc rt tb p i j a) (sG gi gc rt tb p i (fLo gi p i j + a) j (b + 1)) = eA (sF gi gc rt tb p i j (a + 1)) (sG gi gc rt tb p i (fLo gi p i j + (a + 1)) j 0) := by
            rw [c1, sF_s]; exact eA_z.symm
          rw [e7] at ey6 ⊢
          have := ih (nI (eS (eA acc (eA (sF gi gc rt tb p i j (a + 1)) (sG gi gc rt tb p i (fLo gi p i j + (a + 1)) j 0)))).1) y6 1 _ _ (Or.inr ⟨rfl, a + 1, 0, c2, z0, rfl, rfl, rfl, ey6⟩) (by
            rw [if_neg m1, if_neg h80, n_clamp (by omega), n_clamp (by omega), n_clamp (by omega), n_clamp (by omega)]; omega)
          rw [r1]; exact ⟨this.1, r2 _ _ this.2⟩
        · have e7 : eA (sF gi gc rt tb p i j a) (sG gi gc rt tb p i (fLo gi p i j + a) j (b + 1)) = sF gi gc rt tb p i j (fNo gi p i j) := by
            rw [c1, ← c2, sF_s]
          rw [e7] at ey6 ⊢
          have := ih (nI (eS (eA acc (sF gi gc rt tb p i j (fNo gi p i j)))).1) y6 0 F S (Or.inl ⟨rfl, rfl, ey6⟩) (by
            rw [if_pos rfl, if_neg h80]; omega)
          rw [r1]; exact ⟨this.1, r2 _ _ this.2⟩
      simp only [if_neg h80, bd_def, w1, p1, f5]
      by_cases c : x6 ≤ mI (eM (own gc p) (spl gi rt tb p i (fLo gi p i j + a) (sLo gi p (fLo gi p i j + a) j + b) j)).2
      · rw [if_pos c] at f6
        have := fin x6 f6
        unfold t64 ot64 at this
        simp only [bd_def] at this
        simp only [if_pos c]
        exact ⟨this.1, w2, p2, this.2⟩
      · rw [if_neg c] at f6
        have := fin _ f6
        unfold t64 ot64 at this
        simp only [bd_def] at this
        simp only [if_neg c]
        exact ⟨this.1, w2, p2, this.2⟩
  · exact mu_lt hN
  · by_cases c : 0 < fNo gi p i j
    · right
      rw [if_pos c]
      refine ⟨rfl, 0, 0, c, sNo_pos hij c h2, rfl, rfl, ?_, ?_⟩
      · rw [show sF gi gc rt tb p i j 0 = eZ from rfl, show sG gi gc rt tb p i (fLo gi p i j + 0) j 0 = eZ from rfl, eA_z, eA_z]
      · rw [show sF gi gc rt tb p i j 0 = eZ from rfl, show sG gi gc rt tb p i (fLo gi p i j + 0) j 0 = eZ from rfl, eA_z, eA_z]
    · left
      rw [if_neg c, show fNo gi p i j = 0 by omega]
      exact ⟨rfl, by rw [show sF gi gc rt tb p i j 0 = eZ from rfl, eA_z], by rw [show sF gi gc rt tb p i j 0 = eZ from rfl, eA_z]⟩
