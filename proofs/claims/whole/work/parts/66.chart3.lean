/-! The class's chart: all rests behind a place; a production's own part -/
/-- the rests of a column, from a place on -/
def rOK (n j lo : Nat) (gi rt : Nat → Int32) (tb : Nat → Nat → Nat → vE) (vCr vCs : Nat → Int32) : Prop := ∀ p k, p < n → lo ≤ k → k ≤ j → vCr (25 * p + k) = nI (eS (rst gi rt tb p k j)).1 ∧ vCs (25 * p + k) = cI (rst gi rt tb p k j).2
theorem n_cnt {x : Int32} {p n : Nat} (hx : x = nI p) (hp : p ≤ n) (hn : n ≤ 100) : (nI n ≤ x) = (p = n) := by
  subst hx; rw [n_le (by omega) (by omega)]; apply propext; omega
theorem k_fillRests {N_ n rl k j : Nat} {gh gi gc rt vCn vCc vCr vCs : Nat → Int32} {lv : Nat → Nat} (hN : 1000 ≤ N_) (hg : gOK n gh gi gc) (hl : lvOK n gh gi lv) (hr : rl ≤ 24) (hj : j ≤ rl) (hj0 : 1 ≤ j) (hk : k ≤ j)
    (hc : ∀ s a b, s < 10 → k ≤ a → a < b → b ≤ j → hcs vCn vCc (vV n gh gi gc rt) s a b) (hR : rOK n j (k + 1) gi rt (vV n gh gi gc rt) vCr vCs) :
    rOK n j k gi rt (vV n gh gi gc rt) (f_C_fillRests N_ vCn vCc vCr vCs (nI n) gi (nI rl) rt (nI k) (nI j)).1 (f_C_fillRests N_ vCn vCc vCr vCs (nI n) gi (nI rl) rt (nI k) (nI j)).2 ∧ o_C_fillRests N_ vCn vCc vCr vCs (nI n) gi (nI rl) rt (nI k) (nI j) := by
  have hn := hg.1
  unfold f_C_fillRests o_C_fillRests
  refine rj_C_fillRests_2 N_ (nI k) (nI j) vCn vCc (nI n) gi (nI rl) rt _ _ (fun x _ _ => 100 - x.toNatClampNeg)
    (fun x r c => ∃ p, p ≤ n ∧ x = nI p ∧ rOK n j (k + 1) gi rt (vV n gh gi gc rt) r c ∧ rOK p j k gi rt (vV n gh gi gc rt) r c)
    (fun r => rOK n j k gi rt (vV n gh gi gc rt) r.1 r.2) ?_ N_ 0 vCr vCs ?_ ⟨0, by omega, rfl, hR, fun p _ h => absurd h (Nat.not_lt_zero _)⟩
  · intro rec reco x r c ⟨p, hp, ex, h1, h2⟩ ih
    unfold s_C_fillRests_2 os_C_fillRests_2
    simp only [n_cnt ex hp (by omega)]
    by_cases c0 : p = n
    · simp only [if_pos c0]
      subst c0
      exact ⟨h2, trivial⟩
    · subst ex
      obtain ⟨e1, o1⟩ := k_fillRest (vCr := r) (vCs := c) hN hg hl (p := p) (by omega) hr hj hj0 hk hc
      simp only [if_neg c0, bd_def, e1]
      have := ih (nI p + 1) (upd r (25 * p + k) (nI (eS (rst gi rt (vV n gh gi gc rt) p k j)).1)) (upd c (25 * p + k) (cI (rst gi rt (vV n gh gi gc rt) p k j).2)) ⟨p + 1, by omega, n_1, ?_, ?_⟩ (by rw [n_1, n_clamp (by omega), n_clamp (by omega)]; omega)
      · exact ⟨this.1, o1, this.2⟩
      · intro p' k' q1 q2 q3
        simp only [n_upd]
        rw [if_neg (by omega), if_neg (by omega)]
        exact h1 p' k' q1 q2 q3
      · intro p' k' q1 q2 q3
        simp only [n_upd]
        by_cases q : p' = p ∧ k' = k
        · obtain ⟨rfl, rfl⟩ := q
          rw [if_pos rfl, if_pos rfl]; exact ⟨rfl, rfl⟩
        · rw [if_neg (by omega), if_neg (by omega)]
          by_cases q4 : p' = p
          · exact h1 p' k' (by omega) (by omega) q3
          · exact h2 p' k' (by omega) q2 q3
  · show 100 - (nI 0).toNatClampNeg < N_
    rw [n_clamp (by omega)]; omega
theorem k_head {n p : Nat} {gh : Nat → Int32} (hn : n ≤ 24) (hp : p < n) : f_G_head (nI n) gh (nI p) = gh p ∧ o_G_head (nI n) gh (nI p) := by
  unfold f_G_head o_G_head
  simp (disch := omega) only [n_lit, n_lt, n_le, n_clamp]
  rw [if_neg (by omega), if_neg (by omega), if_neg (by omega), if_neg (by omega), if_neg (by omega), if_neg (by omega)]
  exact ⟨rfl, n_in (by omega) (by omega), trivial⟩
theorem k_own {n p : Nat} {gc : Nat → Int32} (hn : n ≤ 24) (hp : p < n) : f_G_ownCost (nI n) gc (nI p) = gc p ∧ o_G_ownCost (nI n) gc (nI p) := by
  unfold f_G_ownCost o_G_ownCost
  simp (disch := omega) only [n_lit, n_lt, n_le, n_clamp]
  rw [if_neg (by omega), if_neg (by omega), if_neg (by omega), if_neg (by omega), if_neg (by omega), if_neg (by omega)]
  exact ⟨rfl, n_in (by omega) (by omega), trivial⟩
theorem k_ends1 {n p i j : Nat} {gi : Nat → Int32} (hn : n ≤ 24) (hp : p < n) (hj : j ≤ 24) (hij : i < j) : f_G_leastFirstEnd (nI n) gi (nI p) (nI i) (nI j) = nI (fLo gi p i j) ∧ o_G_leastFirstEnd (nI n) gi (nI p) (nI i) (nI j) ∧ o_G_lastFirstEnd (nI n) gi (nI p) (nI j) ∧ ∀ t, t ≤ fNo gi p i j → (f_G_lastFirstEnd (nI n) gi (nI p) (nI j) < nI (fLo gi p i j + t)) = (t = fNo gi p i j) := by
  obtain ⟨e1, o1⟩ := k_item1 (gi := gi) hn hp
  obtain ⟨e2, o2⟩ := k_item2 (gi := gi) hn hp
  unfold f_G_lastFirstEnd o_G_lastFirstEnd f_G_leastFirstEnd o_G_leastFirstEnd fLo fNo
  simp only [bd_def, e1, e2]
  by_cases c : gi (3 * p + 1) = -1
  · simp only [if_pos c]
    exact ⟨trivial, ⟨o1, trivial⟩, ⟨o1, trivial⟩, fun t ht => by rw [n_lt (by omega) (by omega)]; apply propext; omega⟩
  · simp only [if_neg c]
    by_cases c2 : gi (3 * p + 2) = -1
    · simp only [if_pos c2]
      exact ⟨by rw [n_1], ⟨o1, trivial⟩, ⟨o1, o2, trivial⟩, fun t ht => by rw [q_1, n_sub (by omega), n_lt (by omega) (by omega)]; apply propext; omega⟩
    · simp only [if_neg c2]
      refine ⟨by rw [n_1], ⟨o1, trivial⟩, ⟨o1, o2, trivial⟩, fun t ht => ?_⟩
      by_cases j1 : j = 1
      · subst j1
        have e9 : nI 1 - 2 = -1 := by decide
        rw [e9, n_lit, n_mlt (by omega)]
        apply propext; simp; omega
      · rw [q_2, n_sub (by omega), n_lt (by omega) (by omega)]; apply propext; omega
