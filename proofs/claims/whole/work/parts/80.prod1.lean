/-! A production more: reached symbols -/
/-- one production more, the rest as it was -/
def extG (n : Nat) (gh gi gh' gi' : Nat → Int32) : Prop := ∀ p, p < n → gh' p = gh p ∧ gi' (3 * p) = gi (3 * p) ∧ gi' (3 * p + 1) = gi (3 * p + 1) ∧ gi' (3 * p + 2) = gi (3 * p + 2)
theorem ext_stp {n : Nat} {gh gi gh' gi' : Nat → Int32} (h : extG n gh gi gh' gi') {p : Nat} (hp : p < n) : isStp gi' p = isStp gi p := by
  obtain ⟨-, e1, e2, -⟩ := h p hp
  unfold isStp; rw [e1, e2]
theorem re_same {n : Nat} {gh gi gh' gi' vGr : Nat → Int32} (h : reOK n gh gi vGr) (he : extG n gh gi gh' gi') (hn : ¬ isStp gi' n) : reOK (n + 1) gh' gi' vGr := by
  obtain ⟨h1, h2, h3, h4, h5⟩ := h
  refine ⟨h1, h2, h3, fun p hp hs => ?_, fun Q q1 q2 => h5 Q q1 (fun s p hp hs hq => ?_)⟩
  · by_cases c : p = n
    · subst c; exact absurd hs hn
    · rw [ext_stp he (by omega)] at hs
      rw [(he p (by omega)).1, (he p (by omega)).2.1]
      exact h4 p (by omega) hs
  · have := q2 s p (by omega) (by rw [ext_stp he hp]; exact hs)
    rw [(he p hp).1, (he p hp).2.1] at this
    exact this hq
theorem re_step {n h a : Nat} {gh gi gc gh' gi' vGr r : Nat → Int32} (hg : gOK n gh gi gc) (hR : reOK n gh gi vGr) (he : extG n gh gi gh' gi') (hh : h < 10) (ha : a < 10) (eh : gh' n = nI h) (ea : gi' (3 * n) = nI a) (e1 : gi' (3 * n + 1) = -1) (c1 : h ≠ a) (c2 : bt (vGr a) h = false)
    (hr : ∀ s, s < 10 → r s = if s = h ∨ bt (vGr s) h = true then vGr s ||| (bit1 a ||| vGr a) else vGr s) : reOK (n + 1) gh' gi' r := by
  obtain ⟨h1, h2, h3, h4, h5⟩ := hR
  have hb : ∀ s t, s < 10 → t < 32 → (bt (r s) t = true ↔ (bt (vGr s) t = true ∨ ((s = h ∨ bt (vGr s) h = true) ∧ (t = a ∨ bt (vGr a) t = true)))) := by
    intro s t hs ht
    rw [hr s hs]
    by_cases c : s = h ∨ bt (vGr s) h = true
    · rw [if_pos c, bt_or, bt_or, bt_one (by omega) ht]
      simp only [Bool.or_eq_true, decide_eq_true_eq]
      constructor
      · rintro (q | q | q)
        · exact Or.inl q
        · exact Or.inr ⟨c, Or.inl q⟩
        · exact Or.inr ⟨c, Or.inr q⟩
      · rintro (q | ⟨-, q | q⟩)
        · exact Or.inl q
        · exact Or.inr (Or.inl q)
        · exact Or.inr (Or.inr q)
    · rw [if_neg c]
      exact ⟨Or.inl, fun q => q.elim id (fun z => absurd z.1 c)⟩
  have hne : ∀ {x : Bool}, x = false ↔ ¬ x = true := by intro x; cases x <;> simp
  have c2' : ¬ bt (vGr a) h = true := hne.mp c2
  have h3' : ∀ s, s < 10 → ¬ bt (vGr s) s = true := fun s hs => hne.mp (h3 s hs)
  have hmin : ∀ (Q : Nat → Nat → Prop), (∀ s, Q s s) → (∀ s p, p < n + 1 → isStp gi' p → Q s (gh' p).toNatClampNeg → Q s (gi' (3 * p)).toNatClampNeg) → ∀ s t, s < 10 → t < 10 → bt (vGr s) t = true → Q s t := by
    intro Q q1 q2
    refine h5 Q q1 (fun s p hp hs hq => ?_)
    have := q2 s p (by omega) (by rw [ext_stp he hp]; exact hs)
    rw [(he p hp).1, (he p hp).2.1] at this
    exact this hq
  refine ⟨fun s k hs hk hk2 => ?_, fun s t u hs ht hu q1 q2 => ?_, fun s hs => ?_, fun p hp hst => ?_, fun Q q1 q2 s t hs ht q => ?_⟩
  · rw [hne, hb s k hs hk2]
    rintro (q | ⟨-, q | q⟩)
    · exact hne.mp (h1 s k hs hk hk2) q
    · omega
    · exact hne.mp (h1 a k ha hk hk2) q
  · rw [hb s t hs (by omega)] at q1
    rw [hb t u ht (by omega)] at q2
    rw [hb s u hs (by omega)]
    rcases q1 with q1 | ⟨q1, q3⟩
    · rcases q2 with q2 | ⟨q2, q4⟩
      · exact Or.inl (h2 s t u hs ht hu q1 q2)
      · right
        refine ⟨?_, q4⟩
        rcases q2 with q2 | q2
        · subst q2; exact Or.inr q1
        · exact Or.inr (h2 s t h hs ht hh q1 q2)
    · right
      refine ⟨q1, ?_⟩
      rcases q2 with q2 | ⟨-, q4⟩
      · rcases q3 with q3 | q3
        · subst q3; exact Or.inr q2
        · exact Or.inr (h2 a t u ha ht hu q3 q2)
      · exact q4
  · rw [hne, hb s s hs (by omega)]
    rintro (q | ⟨q1, q2⟩)
    · exact h3' s hs q
    · rcases q1 with q1 | q1
      · rcases q2 with q2 | q2
        · omega
        · subst q1; exact c2' q2
      · rcases q2 with q2 | q2
        · subst q2; exact c2' q1
        · exact c2' (h2 a s h ha hs hh q2 q1)
  · by_cases c : p = n
    · subst c
      rw [eh, ea, n_clamp (by omega), n_clamp (by omega), hb h a hh (by omega)]
      exact Or.inr ⟨Or.inl rfl, Or.inl rfl⟩
    · rw [ext_stp he (by omega)] at hst
      have h6 := h4 p (by omega) hst
      rw [(he p (by omega)).1, (he p (by omega)).2.1]
      obtain ⟨g1, g2, -⟩ := hg.2 p (by omega)
      obtain ⟨x, ex, ex2, ex3⟩ := n_of g1.1
      obtain ⟨y, hy, ey⟩ := isIt_sym g2 hst.1
      rw [ex, ey, n_clamp (by omega), n_clamp (by omega)] at h6 ⊢
      rw [hb x y (by omega) (by omega)]; exact Or.inl h6
  · rw [hb s t hs (by omega)] at q
    rcases q with q | ⟨q3, q4⟩
    · exact hmin Q q1 q2 s t hs ht q
    · have w1 : Q s h := by
        rcases q3 with q3 | q3
        · subst q3; exact q1 s
        · exact hmin Q q1 q2 s h hs hh q3
      have w2 := q2 s n (by omega) ⟨by rw [ea, q_10, n_lt (by omega) (by omega)]; exact ha, e1⟩
      rw [eh, ea, n_clamp (by omega), n_clamp (by omega)] at w2
      have w3 := w2 w1
      rcases q4 with q4 | q4
      · subst q4; exact w3
      · exact hmin (fun x y => ∀ s, Q s x → Q s y) (fun _ _ z => z) (fun x p hp hst z s' z2 => q2 s' p hp hst (z s' z2)) a t ha ht q4 s w3
theorem k_reach {vGr : Nat → Int32} {k : Nat} (hk : k < 10) : f_G_reachedFrom vGr (nI k) = vGr k ∧ o_G_reachedFrom vGr (nI k) := by
  unfold f_G_reachedFrom o_G_reachedFrom
  have e := n_tI (a := k) (by omega)
  simp only [bd_def, w_sym, e, if_pos (show (0 : Int) ≤ (k : Int) ∧ (k : Int) < 10 by omega), if_neg m10.1]
  rw [n_clamp (by omega)]
  exact ⟨rfl, n_in (by omega) hk, trivial⟩
theorem k_learnStep {N_ h a : Nat} {vGr : Nat → Int32} (hN : 1000 ≤ N_) (hh : h < 10) (ha : a < 10) : (fun r : Nat → Int32 => ∀ s, s < 10 → r s = if s = h ∨ bt (vGr s) h = true then vGr s ||| (bit1 a ||| vGr a) else vGr s) (f_G_learnStep N_ vGr (nI h) (nI a)) ∧ o_G_learnStep N_ vGr (nI h) (nI a) := by
  obtain ⟨e1, o1⟩ := k_reach (vGr := vGr) ha
  unfold f_G_learnStep o_G_learnStep
  simp only [bd_def, e1]
  suffices hx : _ ∧ _ from ⟨hx.1, o1, hx.2⟩
  refine rj_G_learnStep_13 (nI h) (bit1 a ||| vGr a) _ _ (fun x _ => 100 - x.toNatClampNeg) (fun x r => ∃ s, s ≤ 10 ∧ x = nI s ∧ (∀ s', s' < s → r s' = if s' = h ∨ bt (vGr s') h = true then vGr s' ||| (bit1 a ||| vGr a) else vGr s') ∧ ∀ s', s ≤ s' → r s' = vGr s') (fun r : Nat → Int32 => ∀ s, s < 10 → r s = if s = h ∨ bt (vGr s) h = true then vGr s ||| (bit1 a ||| vGr a) else vGr s) ?_ N_ 0 vGr ?_ ⟨0, by omega, rfl, fun s' h => absurd h (Nat.not_lt_zero _), fun _ _ => rfl⟩
  · intro rec reco x r ⟨s, hs, ex, h1, h2⟩ ih
    unfold s_G_learnStep_13 os_G_learnStep_13
    have e10 : ((10 : Int32) ≤ x) = (s = 10) := n_cnt (n := 10) ex hs (by omega)
    simp only [e10]
    by_cases c0 : s = 10
    · simp only [if_pos c0]; exact ⟨fun s' hs' => h1 s' (by omega), trivial⟩
    · subst ex
      have hv : vp_in (nI s) 10 := n_in (by omega) (by omega)
      have hmu : 100 - (nI s + 1).toNatClampNeg < 100 - (nI s).toNatClampNeg := by rw [n_1, n_clamp (by omega), n_clamp (by omega)]; omega
      have hup : (s = h ∨ bt (vGr s) h = true) → ∃ s', s' ≤ 10 ∧ nI s + 1 = nI s' ∧ (∀ s'', s'' < s' → upd r s (r s ||| (bit1 a ||| vGr a)) s'' = if s'' = h ∨ bt (vGr s'') h = true then vGr s'' ||| (bit1 a ||| vGr a) else vGr s'') ∧ ∀ s'', s' ≤ s'' → upd r s (r s ||| (bit1 a ||| vGr a)) s'' = vGr s'' := by
        intro c
        refine ⟨s + 1, by omega, n_1, fun s' hs' => ?_, fun s' hs' => ?_⟩
        · rw [n_upd]
          by_cases q : s' = s
          · subst q; rw [if_pos rfl, if_pos c, h2 s' (Nat.le_refl _)]
          · rw [if_neg q]; exact h1 s' (by omega)
        · rw [n_upd, if_neg (by omega)]; exact h2 s' (by omega)
      simp (disch := omega) only [if_neg c0, n_clamp, n_eq, bd_def, k_has]
      by_cases c1 : s = h
      · simp only [if_pos c1]
        have := ih (nI s + 1) (upd r s (r s ||| (bit1 a ||| vGr a))) (hup (Or.inl c1)) hmu
        exact ⟨this.1, hv, hv, this.2⟩
      · simp only [if_neg c1, h2 s (Nat.le_refl s)]
        by_cases c2 : bt (vGr s) h = true
        · simp only [c2, if_true, if_neg m10.1]
          have := ih (nI s + 1) (upd r s (r s ||| (bit1 a ||| vGr a))) (hup (Or.inr c2)) hmu
          rw [h2 s (Nat.le_refl s)] at this
          exact ⟨this.1, hv, hv, hv, this.2⟩
        · simp only [c2, if_true]
          have := ih (nI s + 1) r ⟨s + 1, by omega, n_1, fun s' hs' => by
            by_cases q : s' = s
            · subst q; rw [h2 s' (Nat.le_refl _), if_neg (by rintro (z | z); exact c1 z; exact c2 z)]
            · exact h1 s' (by omega), fun s' hs' => h2 s' (by omega)⟩ hmu
          exact ⟨this.1, hv, this.2⟩
  · show 100 - (nI 0).toNatClampNeg < N_
    rw [n_clamp (by omega)]; omega
