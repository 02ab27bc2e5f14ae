/-! A production more: fertile symbols -/
theorem itF_m {Q Q' : Nat → Prop} (h : ∀ s, s < 10 → Q s → Q' s) {x : Int32} (hx : isIt1 x) (q : itF Q x) : itF Q' x := by
  intro h1 h2
  rcases hx with hx | hx
  · exact absurd hx h2
  · have := q h1 h2
    obtain ⟨k, hk, rfl⟩ := isIt_sym hx h1
    rw [n_clamp (by omega)] at this ⊢
    exact h k hk this
theorem prF_m {n : Nat} {gh gi gc : Nat → Int32} (hg : gOK n gh gi gc) {Q Q' : Nat → Prop} (h : ∀ s, s < 10 → Q s → Q' s) {p : Nat} (hp : p < n) (q : prF gi Q p) : prF gi Q' p := by
  obtain ⟨x0, x1, x2⟩ := gOK_it hg hp
  exact ⟨itF_m h x0 q.1, itF_m h x1 q.2.1, itF_m h x2 q.2.2⟩
theorem k_fertile {x F : Int32} (hx : isIt1 x) : (f_G_isFertile F x = 1 ∧ itF (fun s => bt F s = true) x) ∨ (f_G_isFertile F x = 0 ∧ ¬ itF (fun s => bt F s = true) x) := by
  unfold f_G_isFertile
  simp only [bd_def, w_sym]
  rcases hx with rfl | hx
  · left
    exact ⟨by rw [if_neg (show ¬ (0 ≤ (-1 : Int32).toInt ∧ (-1 : Int32).toInt < 10) by decide), if_pos rfl], fun _ h => absurd rfl h⟩
  · by_cases c : x < 10
    · obtain ⟨k, hk, rfl⟩ := isIt_sym hx c
      have e := n_tI (a := k) (by omega)
      rw [e, if_pos (show (0 : Int) ≤ (k : Int) ∧ (k : Int) < 10 by omega), if_neg m10.1, k_has (by omega)]
      by_cases b : bt F k = true
      · left
        rw [if_pos b, if_neg m10.1]
        exact ⟨rfl, fun _ _ => by rw [n_clamp (by omega)]; exact b⟩
      · right
        rw [if_neg b, if_pos rfl]
        exact ⟨rfl, fun h => b (by have := h c (isIt_m1 hx); rw [n_clamp (by omega)] at this; exact this)⟩
    · left
      have := x_nlt c; rw [d_10] at this
      rw [if_neg (show ¬ (0 ≤ x.toInt ∧ x.toInt < 10) by omega), if_pos rfl]
      exact ⟨rfl, fun h => absurd h c⟩
theorem k_usable {n p : Nat} {gh gi gc : Nat → Int32} {F : Int32} (hg : gOK n gh gi gc) (hp : p < n) : ((f_G_isUsable F (nI n) gi (nI p) = 1 ∧ prF gi (fun s => bt F s = true) p) ∨ (f_G_isUsable F (nI n) gi (nI p) = 0 ∧ ¬ prF gi (fun s => bt F s = true) p)) ∧ o_G_isUsable F (nI n) gi (nI p) := by
  have hn := hg.1
  obtain ⟨x0, x1, x2⟩ := gOK_it hg hp
  obtain ⟨e0, o0⟩ := k_item0 (gi := gi) hn hp
  obtain ⟨e1, o1⟩ := k_item1 (gi := gi) hn hp
  obtain ⟨e2, o2⟩ := k_item2 (gi := gi) hn hp
  unfold f_G_isUsable o_G_isUsable prF
  simp only [bd_def, e0, e1, e2]
  rcases k_fertile (F := F) x0 with ⟨a1, a2⟩ | ⟨a1, a2⟩
  · simp only [a1, if_neg m10.1]
    rcases k_fertile (F := F) x1 with ⟨b1, b2⟩ | ⟨b1, b2⟩
    · simp only [b1, if_neg m10.1]
      rcases k_fertile (F := F) x2 with ⟨d1, d2⟩ | ⟨d1, d2⟩
      · simp only [d1, if_neg m10.1]
        exact ⟨Or.inl ⟨trivial, a2, b2, d2⟩, o0, o1, o2, trivial⟩
      · simp only [d1, if_true]
        exact ⟨Or.inr ⟨trivial, fun h => d2 h.2.2⟩, o0, o1, o2, trivial⟩
    · simp only [b1, if_true]
      exact ⟨Or.inr ⟨trivial, fun h => b2 h.2.1⟩, o0, o1, trivial⟩
  · simp only [a1, if_true]
    exact ⟨Or.inr ⟨trivial, fun h => a2 h.1⟩, o0, trivial⟩
def cloF (n : Nat) (gh gi : Nat → Int32) (Q : Nat → Prop) : Prop := ∀ p, p < n → prF gi Q p → Q (gh p).toNatClampNeg
/-- one pass over the productions -/
def pasF (n : Nat) (gh gi : Nat → Int32) (F0 : Int32) (p : Nat) (F : Int32) : Prop := (∀ k, 10 ≤ k → k < 32 → bt F k = false) ∧ (∀ s, s < 10 → bt F0 s = true → bt F s = true) ∧ (∀ p', p' < p → prF gi (fun s => bt F0 s = true) p' → bt F (gh p').toNatClampNeg = true) ∧ ∀ Q : Nat → Prop, cloF n gh gi Q → (∀ s, s < 10 → bt F0 s = true → Q s) → ∀ s, s < 10 → bt F s = true → Q s
theorem k_fert10 {N_ n : Nat} {gh gi gc : Nat → Int32} {F0 : Int32} (hN : 1000 ≤ N_) (hg : gOK n gh gi gc) (h0 : ∀ k, 10 ≤ k → k < 32 → bt F0 k = false) (Kf : Int32 → Int32 → Int32) (Ko : Int32 → Int32 → Prop) (Ph : Int32 → Prop) (hK : ∀ x F, pasF n gh gi F0 n F → Ph (Kf x F) ∧ Ko x F) :
    Ph (l_G_learnFertile_10 (nI n) gh gi Kf N_ 0 F0) ∧ ol_G_learnFertile_10 (nI n) gh gi Ko N_ 0 F0 := by
  have hn := hg.1
  refine rj_G_learnFertile_10 (nI n) gh gi Kf Ko (fun x _ => 100 - x.toNatClampNeg) (fun x F => ∃ p, p ≤ n ∧ x = nI p ∧ pasF n gh gi F0 p F) Ph ?_ N_ 0 F0 ?_ ⟨0, by omega, rfl, h0, fun _ _ h => h, fun _ h => absurd h (Nat.not_lt_zero _), fun Q _ h => h⟩
  · intro rec reco x F ⟨p, hp, ex, h1, h2, h3, h4⟩ ih
    unfold s_G_learnFertile_10 os_G_learnFertile_10
    simp only [n_cnt ex hp (by omega)]
    by_cases c0 : p = n
    · simp only [if_pos c0]
      subst c0
      exact hK x F ⟨h1, h2, h3, h4⟩
    · subst ex
      have hpn : p < n := by omega
      obtain ⟨g1, -⟩ := hg.2 p hpn
      obtain ⟨h, eh, eh2, eh3⟩ := n_of g1.1
      have hh : h < 10 := by omega
      have hmu : 100 - (nI p + 1).toNatClampNeg < 100 - (nI p).toNatClampNeg := by rw [n_1, n_clamp (by omega), n_clamp (by omega)]; omega
      have hbt : ∀ k, k < 32 → (bt (F ||| bit1 h) k = true ↔ (bt F k = true ∨ k = h)) := by
        intro k hk
        rw [bt_or, bt_one (by omega) hk]; simp
      obtain ⟨ku, ko⟩ := k_usable (F := F) hg hpn
      simp (disch := omega) only [if_neg c0, bd_def, n_clamp, eh]
      rcases ku with ⟨u1, u2⟩ | ⟨u1, u2⟩
      · simp only [u1, if_neg m10.1]
        have := ih (nI p + 1) (F ||| bit1 h) ⟨p + 1, by omega, n_1, fun k q1 q2 => ?_, fun s q1 q2 => ?_, fun p' q1 q2 => ?_, fun Q q1 q2 s q3 q4 => ?_⟩ hmu
        · exact ⟨this.1, ko, n_in (by omega) (by omega), this.2⟩
        · rw [Bool.eq_false_iff, Ne, hbt k q2]
          rintro (q | q)
          · exact absurd q (by rw [h1 k q1 q2]; decide)
          · omega
        · exact (hbt s (by omega)).mpr (Or.inl (h2 s q1 q2))
        · by_cases c2 : p' = p
          · subst c2; rw [eh, n_clamp (by omega)]; exact (hbt h (by omega)).mpr (Or.inr rfl)
          · obtain ⟨g1', -⟩ := hg.2 p' (by omega)
            obtain ⟨h', eh', eh2', eh3'⟩ := n_of g1'.1
            have := h3 p' (by omega) q2
            rw [eh', n_clamp (by omega)] at this ⊢
            exact (hbt h' (by omega)).mpr (Or.inl this)
        · rcases (hbt s (by omega)).mp q4 with q | q
          · exact h4 Q q1 q2 s q3 q
          · subst q
            have := q1 p hpn (prF_m hg (fun s z1 z2 => h4 Q q1 q2 s z1 z2) hpn u2)
            rw [eh, n_clamp (by omega)] at this
            exact this
      · simp only [u1, if_true]
        have := ih (nI p + 1) F ⟨p + 1, by omega, n_1, h1, h2, fun p' q1 q2 => ?_, h4⟩ hmu
        · exact ⟨this.1, ko, this.2⟩
        · by_cases c2 : p' = p
          · subst c2; exact absurd (prF_m hg (fun s z1 z2 => h2 s z1 z2) hpn q2) u2
          · exact h3 p' (by omega) q2
  · show 100 - (nI 0).toNatClampNeg < N_
    rw [n_clamp (by omega)]; omega
theorem head_lt {n : Nat} {gh gi gc : Nat → Int32} (hg : gOK n gh gi gc) {p : Nat} (hp : p < n) : ∃ h, h < 10 ∧ gh p = nI h := by
  obtain ⟨g1, -⟩ := hg.2 p hp
  obtain ⟨h, eh, eh2, eh3⟩ := n_of g1.1
  exact ⟨h, by omega, eh⟩
theorem k_fert {N_ n : Nat} {gh gi gc gh' gi' gc' : Nat → Int32} {F0 : Int32} (hN : 1000 ≤ N_) (hg : gOK (n + 1) gh' gi' gc') (he : extG n gh gi gh' gi') (h0 : feOK n gh gi F0) : feOK (n + 1) gh' gi' (f_G_learnFertile N_ F0 (nI (n + 1)) gh' gi') ∧ o_G_learnFertile N_ F0 (nI (n + 1)) gh' gi' := by
  unfold f_G_learnFertile o_G_learnFertile
  have hmin : ∀ Q : Nat → Prop, cloF (n + 1) gh' gi' Q → ∀ s, s < 10 → bt F0 s = true → Q s := by
    intro Q q1
    refine h0.2.2 Q (fun p hp hq => ?_)
    obtain ⟨e0, e1, e2, e3⟩ := he p hp
    have := q1 p (by omega) (by unfold prF; rw [e1, e2, e3]; exact hq)
    rw [e0] at this; exact this
  refine rj_G_learnFertile_2 N_ (nI (n + 1)) gh' gi' _ _ (fun x _ => 100 - x.toNatClampNeg)
    (fun x F => ∃ r, r ≤ 10 ∧ x = nI r ∧ (∀ k, 10 ≤ k → k < 32 → bt F k = false) ∧ (∀ Q : Nat → Prop, cloF (n + 1) gh' gi' Q → ∀ s, s < 10 → bt F s = true → Q s) ∧ (cloF (n + 1) gh' gi' (fun s => bt F s = true) ∨ r ≤ cntB (bt F) 10)) (fun F => feOK (n + 1) gh' gi' F) ?_ N_ 0 F0 ?_ ⟨0, by omega, rfl, h0.1, hmin, Or.inr (Nat.zero_le _)⟩
  · intro rec reco x F ⟨r, hr, ex, h1, h2, h3⟩ ih
    unfold s_G_learnFertile_2 os_G_learnFertile_2
    have e10 : ((10 : Int32) ≤ x) = (r = 10) := n_cnt (n := 10) ex hr (by omega)
    simp only [e10]
    by_cases c0 : r = 10
    · simp only [if_pos c0]
      refine ⟨⟨h1, ?_, h2⟩, trivial⟩
      rcases h3 with h3 | h3
      · exact h3
      · intro p hp _
        obtain ⟨h, hh, eh⟩ := head_lt hg hp
        rw [eh, n_clamp (by omega)]
        by_cases b : bt F h = true
        · exact b
        · have := cntB_lt (f := bt F) (g := fun _ => true) (n := 10) (m := h) (fun _ _ _ => rfl) hh (by simpa using b) rfl
          have e : cntB (fun _ => true) 10 = 10 := by decide
          omega
    · subst ex
      simp only [if_neg c0]
      refine k_fert10 hN hg h1 (fun _ F => rec (nI r + 1) F) (fun _ F => reco (nI r + 1) F) (fun F => feOK (n + 1) gh' gi' F) (fun x F1 hF => ?_)
      obtain ⟨p1, p2, p3, p4⟩ := hF
      have hsame : (∀ s, s < 10 → bt F1 s = true → bt F s = true) → cloF (n + 1) gh' gi' (fun s => bt F1 s = true) := by
        intro q p hp hq
        have := p3 p hp (prF_m hg q hp hq)
        exact this
      refine ih (nI r + 1) F1 ⟨r + 1, by omega, n_1, p1, fun Q q1 => p4 Q q1 (h2 Q q1), ?_⟩ (by rw [n_1, n_clamp (by omega), n_clamp (by omega)]; omega)
      by_cases c1 : ∀ s, s < 10 → bt F1 s = true → bt F s = true
      · exact Or.inl (hsame c1)
      · rcases h3 with h3 | h3
        · exact Or.inl (hsame (p4 (fun s => bt F s = true) h3 (fun _ _ z => z)))
        · right
          have c2 : ∃ s, s < 10 ∧ bt F1 s = true ∧ ¬ bt F s = true := by
            apply Classical.byContradiction
            intro q
            exact c1 (fun s z1 z2 => Classical.byContradiction (fun z3 => q ⟨s, z1, z2, z3⟩))
          obtain ⟨s, z1, z2, z3⟩ := c2
          have := cntB_lt (f := bt F) (g := bt F1) (n := 10) (m := s) (fun k hk hb => p2 k hk hb) z1 (by simpa using z3) z2
          omega
  · show 100 - (nI 0).toNatClampNeg < N_
    rw [n_clamp (by omega)]; omega
