/-! The reference knows its chart -/
theorem v_fix {n i j : Nat} {gh gi gc rt : Nat → Int32} {lv : Nat → Nat} {tb : Nat → Nat → Nat → vE} (hg : gOK n gh gi gc) (hl : lvOK n gh gi lv) (hij : i < j) (hj : j ≤ 24) (h1 : ∀ s a b, s < 10 → i ≤ a → a < b → b ≤ j → b - a < j - i → tb s a b = vV n gh gi gc rt s a b) (h2 : ∀ s, s < 10 → tb s i j = eS (bdy n gh gi gc rt tb s i j)) : ∀ s, s < 10 → tb s i j = vV n gh gi gc rt s i j := by
  have key : ∀ L s, s < 10 → lv s < L → tb s i j = vV n gh gi gc rt s i j := by
    intro L
    induction L with
    | zero => intro s _ h; omega
    | succ L ih =>
      intro s hs hL
      rw [h2 s hs, vV_eq hg hl hs hij hj]
      congr 1
      refine bdy_c hg hl hs hij (fun _ _ _ => rfl) (fun s' i' j' q1 q2 q3 q4 q5 => ?_)
      rcases q5 with q5 | ⟨rfl, rfl, q5⟩
      · exact h1 s' i' j' q1 q2 q3 q4 q5
      · exact ih s' q1 (by omega)
  intro s hs
  exact key 10 s hs (by have := hl.1 s; omega)
abbrev kR : Type := Int32 × Int32 × Int32 × (Nat → Int32) × (Nat → Int32)
theorem q_k75 {N_ n i z : Nat} {gh gi gc rt n0 l0 : Nat → Int32} {lv : Nat → Nat} (hN : 2000 ≤ N_) (hg : gOK n gh gi gc) (hl : lvOK n gh gi lv) (hz : 1 ≤ z) (hj : i + z ≤ 24)
    (Kf : Int32 → Int32 → Int32 → (Nat → Int32) → (Nat → Int32) → kR) (Ko : Int32 → Int32 → Int32 → (Nat → Int32) → (Nat → Int32) → Prop) (Ph : kR → Prop)
    (hK : ∀ x3 F S r c, frM i (i + z) n0 r → frM i (i + z) l0 c → (∀ s, s < 10 → mcs r c (vV n gh gi gc rt) s i (i + z)) → Ph (Kf x3 F S r c) ∧ Ko x3 F S r c) :
    ∀ (d m : Nat) (x3 F S : Int32) (r c : Nat → Int32), d < m → ((x3 = 0 ∧ ∀ s, s < 10 → mcs r c (vV n gh gi gc rt) s i (i + z)) ∨ (x3 = 1 ∧ ∃ k tb, k ≤ 10 ∧ d + k = 11 ∧ wOK n gh gi gc rt lv i (i + z) r c tb ∧ ∀ s', s' < 10 → lv s' < k → tb s' i (i + z) = vV n gh gi gc rt s' i (i + z))) → frM i (i + z) n0 r → frM i (i + z) l0 c →
    Ph (l_M_know_75 N_ (nI z) (nI i) (nI n) gh gi gc rt Kf m x3 F S r c) ∧ ol_M_know_75 N_ (nI z) (nI i) (nI n) gh gi gc rt Ko m x3 F S r c := by
  intro d
  induction d with
  | zero =>
    intro m x3 F S r c hm hI h1 h2
    obtain ⟨m, rfl⟩ : ∃ q, m = q + 1 := ⟨m - 1, by omega⟩
    rcases hI with ⟨e3, h3⟩ | ⟨-, k, -, h3, h4, -⟩
    · show Ph (s_M_know_75 _ N_ (nI z) (nI i) (nI n) gh gi gc rt Kf x3 F S r c) ∧ os_M_know_75 _ N_ (nI z) (nI i) (nI n) gh gi gc rt Ko x3 F S r c
      unfold s_M_know_75 os_M_know_75
      simp only [if_pos e3]
      exact hK x3 F S r c h1 h2 h3
    · omega
  | succ d ih =>
    intro m x3 F S r c hm hI h1 h2
    obtain ⟨m, rfl⟩ : ∃ q, m = q + 1 := ⟨m - 1, by omega⟩
    show Ph (s_M_know_75 (fun w0 w1 w2 w3 w4 => l_M_know_75 N_ (nI z) (nI i) (nI n) gh gi gc rt Kf m w0 w1 w2 w3 w4) N_ (nI z) (nI i) (nI n) gh gi gc rt Kf x3 F S r c) ∧ os_M_know_75 (fun w0 w1 w2 w3 w4 => ol_M_know_75 N_ (nI z) (nI i) (nI n) gh gi gc rt Ko m w0 w1 w2 w3 w4) N_ (nI z) (nI i) (nI n) gh gi gc rt Ko x3 F S r c
    unfold s_M_know_75 os_M_know_75
    rcases hI with ⟨e3, h3⟩ | ⟨e3, k, tb, h3, h4, h5, h6⟩
    · simp only [if_pos e3]
      exact hK x3 F S r c h1 h2 h3
    · have e0 : ¬ x3 = 0 := by rw [e3]; decide
      simp only [if_neg e0, bd_def, n_add]
      obtain ⟨⟨tb', w1, w2, w3, w4⟩, w5⟩ := q_work (F := F) (S := S) hN hg hl (show i < i + z by omega) hj h5 h6
      generalize f_M_work N_ (nI n) F S gh gi gc rt r c (nI i) (nI (i + z)) = u at *
      have := ih m u.1 u.2.1 u.2.2.1 u.2.2.2.1 u.2.2.2.2 (by omega) ?_ (frM_t h1 w3) (frM_t h2 w4)
      · exact ⟨this.1, w5, this.2⟩
      · rcases w2.1 with q | q
        · left
          refine ⟨q, fun s hs => ?_⟩
          obtain ⟨q1, q2⟩ := w2.2.1 q
          have q3 := v_fix hg hl (show i < i + z by omega) hj h5.2 (fun s hs => q2 s hs) s hs
          have q4 := (w1.1 s i (i + z) hs (Nat.le_refl i) (by omega) (Nat.le_refl _)).1
          unfold mcs at *
          rw [q4.1, q4.2, q1, q3]; exact ⟨rfl, rfl⟩
        · right
          have q0 : ¬ 10 ≤ k := fun q9 => by have := w2.2.2.1 q9; rw [q] at this; revert this; decide
          exact ⟨q, k + 1, tb', by omega, by omega, w1, fun s' q1 q2 => w2.2.2.2.2 s' q1 q2⟩
/-- the reference's chart is right where P says -/
def mOK (n rl : Nat) (gh gi gc rt : Nat → Int32) (P : Nat → Nat → Prop) (r c : Nat → Int32) : Prop := ∀ s a b, s < 10 → a < b → b ≤ rl → P a b → mcs r c (vV n gh gi gc rt) s a b
theorem q_k32 {N_ n rl i z : Nat} {gh gi gc rt n0 l0 : Nat → Int32} {lv : Nat → Nat} {F S : Int32} (hN : 2000 ≤ N_) (hg : gOK n gh gi gc) (hl : lvOK n gh gi lv) (hr : rl ≤ 24) (hz : 1 ≤ z) (hj : i + z ≤ rl) (hm : mOK n rl gh gi gc rt (fun a b => b - a < z ∨ (b - a = z ∧ a < i)) n0 l0)
    (rec : Int32 → Int32 → Int32 → (Nat → Int32) → (Nat → Int32) → kR) (reco : Int32 → Int32 → Int32 → (Nat → Int32) → (Nat → Int32) → Prop) (Ph : kR → Prop)
    (hK : ∀ F S r c, mOK n rl gh gi gc rt (fun a b => b - a < z ∨ (b - a = z ∧ a < i + 1)) r c → Ph (rec (nI i + 1) F S r c) ∧ reco (nI i + 1) F S r c) :
    Ph (l_M_know_32 (nI z) (nI i) (fun _ r c => (l_M_know_75 N_ (nI z) (nI i) (nI n) gh gi gc rt (fun _ F S r c => (rec (nI i + 1) F S r c)) N_ 1 F S r c)) N_ 0 n0 l0) ∧ ol_M_know_32 (nI z) (nI i) (fun _ r c => (ol_M_know_75 N_ (nI z) (nI i) (nI n) gh gi gc rt (fun _ F S r c => (reco (nI i + 1) F S r c)) N_ 1 F S r c)) N_ 0 n0 l0 := by
  refine rj_M_know_32 (nI z) (nI i) _ _ (fun x _ _ => 100 - x.toNatClampNeg)
    (fun x r c => ∃ s, s ≤ 10 ∧ x = nI s ∧ frM i (i + z) n0 r ∧ frM i (i + z) l0 c ∧ ∀ s', s' < s → r (aN s' i (i + z)) = nI 0 ∧ c (aN s' i (i + z)) = nI 2000000000) Ph ?_ N_ 0 n0 l0 ?_ ⟨0, by omega, rfl, frM_r, frM_r, fun s' h => absurd h (Nat.not_lt_zero _)⟩
  · intro rec' reco' x r c ⟨s, hs, ex, h1, h2, h3⟩ ih
    unfold s_M_know_32 os_M_know_32
    have e10 : ((10 : Int32) ≤ x) = (s = 10) := n_cnt (n := 10) ex hs (by omega)
    simp only [e10]
    by_cases c0 : s = 10
    · simp only [if_pos c0]
      refine q_k75 (lv := lv) hN hg hl hz (by omega) _ _ Ph ?_ 11 N_ 1 F S r c (by omega) (Or.inr ⟨rfl, 0, fun s a b => if a = i ∧ b = i + z then eZ else vV n gh gi gc rt s a b, by omega, by omega, ⟨?_, ?_⟩, fun s' _ h => by omega⟩) h1 h2
      · intro x3 F S r c w1 w2 w3
        refine hK F S r c (fun s a b q1 q2 q3 q4 => ?_)
        by_cases q5 : a = i ∧ b = i + z
        · obtain ⟨rfl, rfl⟩ := q5; exact w3 s q1
        · have := hm s a b q1 q2 q3 (by omega)
          unfold mcs at *
          rw [w1 s a b (by omega) (by omega) q5, w2 s a b (by omega) (by omega) q5]; exact this
      · intro s' a b q1 q2 q3 q4
        by_cases q5 : a = i ∧ b = i + z
        · obtain ⟨rfl, rfl⟩ := q5
          unfold mcs
          simp only [and_self, if_true]
          exact ⟨h3 s' (by omega), eG_z, by decide⟩
        · unfold mcs
          simp only [if_neg q5]
          have := hm s' a b q1 q3 (by omega) (by omega)
          unfold mcs at this
          rw [h1 s' a b (by omega) (by omega) q5, h2 s' a b (by omega) (by omega) q5]
          exact ⟨this, vV_g hg hl q1 q3, vV_sat⟩
      · intro s' a b q1 q2 q3 q4 q5
        exact if_neg (by omega)
    · subst ex
      have hin : vp_in (nI (aN s i (i + z))) 6250 := by unfold aN; exact n_in (by omega) (by omega)
      have hcl : (nI (aN s i (i + z))).toNatClampNeg = aN s i (i + z) := by unfold aN; exact n_clamp (by omega)
      simp only [if_neg c0, bd_def, n_add, q_at, hcl]
      have := ih (nI s + 1) (upd r (aN s i (i + z)) 0) (upd c (aN s i (i + z)) 2000000000) ⟨s + 1, by omega, n_1, frM_upd h1 (by omega) (by omega), frM_upd h2 (by omega) (by omega), ?_⟩ (by rw [n_1, n_clamp (by omega), n_clamp (by omega)]; omega)
      · exact ⟨this.1, hin, hin, this.2⟩
      · intro s' hs'
        simp only [n_upd]
        by_cases c2 : s' = s
        · subst c2; rw [if_pos rfl, if_pos rfl]; exact ⟨rfl, rfl⟩
        · have c3 : ¬ aN s' i (i + z) = aN s i (i + z) := fun e => c2 (aN_inj e (by omega) (by omega) (by omega) (by omega)).1
          rw [if_neg c3, if_neg c3]
          exact h3 s' (by omega)
  · show 100 - (nI 0).toNatClampNeg < N_
    rw [n_clamp (by omega)]; omega
theorem q_k20 {N_ n rl z : Nat} {gh gi gc rt n0 l0 : Nat → Int32} {lv : Nat → Nat} {F S : Int32} (hN : 2000 ≤ N_) (hg : gOK n gh gi gc) (hl : lvOK n gh gi lv) (hr : rl ≤ 24) (hz : 1 ≤ z) (hzr : z ≤ rl) (hm : mOK n rl gh gi gc rt (fun a b => b - a < z) n0 l0)
    (Kf : Int32 → Int32 → Int32 → (Nat → Int32) → (Nat → Int32) → kR) (Ko : Int32 → Int32 → Int32 → (Nat → Int32) → (Nat → Int32) → Prop) (Ph : kR → Prop)
    (hK : ∀ x F S r c, mOK n rl gh gi gc rt (fun a b => b - a < z + 1) r c → Ph (Kf x F S r c) ∧ Ko x F S r c) :
    Ph (l_M_know_20 N_ (nI z) (nI n) (nI rl) gh gi gc rt Kf N_ 0 F S n0 l0) ∧ ol_M_know_20 N_ (nI z) (nI n) (nI rl) gh gi gc rt Ko N_ 0 F S n0 l0 := by
  refine rj_M_know_20 N_ (nI z) (nI n) (nI rl) gh gi gc rt Kf Ko (fun x _ _ _ _ => 100 - x.toNatClampNeg)
    (fun x _ _ r c => ∃ i, i + z ≤ rl + 1 ∧ x = nI i ∧ mOK n rl gh gi gc rt (fun a b => b - a < z ∨ (b - a = z ∧ a < i)) r c) Ph ?_ N_ 0 F S n0 l0 ?_ ⟨0, by omega, rfl, fun s a b q1 q2 q3 q4 => hm s a b q1 q2 q3 (by omega)⟩
  · intro rec reco x F S r c ⟨i, hi, ex, h1⟩ ih
    subst ex
    unfold s_M_know_20 os_M_know_20
    simp (disch := omega) only [n_add, n_lt]
    by_cases c0 : rl < i + z
    · simp only [if_pos c0]
      exact hK _ F S r c (fun s a b q1 q2 q3 q4 => h1 s a b q1 q2 q3 (by omega))
    · simp only [if_neg c0]
      exact q_k32 hN hg hl hr hz (by omega) h1 rec reco Ph (fun F S r c hmm => ih (nI i + 1) F S r c ⟨i + 1, by omega, n_1, hmm⟩ (by rw [n_1, n_clamp (by omega), n_clamp (by omega)]; omega))
  · show 100 - (nI 0).toNatClampNeg < N_
    rw [n_clamp (by omega)]; omega
theorem q_know {N_ n rl : Nat} {gh gi gc rt vMn vMl : Nat → Int32} {lv : Nat → Nat} {vMB F S : Int32} (hN : 2000 ≤ N_) (hg : gOK n gh gi gc) (hl : lvOK n gh gi lv) (hr : rl ≤ 24) (hB : vMB = 0 ∨ (vMB = 1 ∧ mOK n rl gh gi gc rt (fun _ _ => True) vMn vMl)) :
    ((f_M_know N_ (nI n) (nI rl) vMB F S gh gi gc rt vMn vMl).1 = 1 ∧ mOK n rl gh gi gc rt (fun _ _ => True) (f_M_know N_ (nI n) (nI rl) vMB F S gh gi gc rt vMn vMl).2.2.2.1 (f_M_know N_ (nI n) (nI rl) vMB F S gh gi gc rt vMn vMl).2.2.2.2) ∧ o_M_know N_ (nI n) (nI rl) vMB F S gh gi gc rt vMn vMl := by
  unfold f_M_know o_M_know
  rcases hB with hB | ⟨hB, hm⟩
  · simp only [if_pos hB]
    refine rj_M_know_10 N_ (nI n) (nI rl) gh gi gc rt _ _ (fun x _ _ _ _ => 100 - x.toNatClampNeg)
      (fun x _ _ r c => ∃ z, 1 ≤ z ∧ z ≤ rl + 1 ∧ x = nI z ∧ mOK n rl gh gi gc rt (fun a b => b - a < z) r c) (fun u => u.1 = 1 ∧ mOK n rl gh gi gc rt (fun _ _ => True) u.2.2.2.1 u.2.2.2.2) ?_ N_ 1 F S vMn vMl ?_ ⟨1, by omega, by omega, rfl, fun s a b q1 q2 q3 q4 => by omega⟩
    · intro rec reco x F S r c ⟨z, hz1, hz, ex, h1⟩ ih
      subst ex
      unfold s_M_know_10 os_M_know_10
      simp (disch := omega) only [n_lt]
      by_cases c0 : rl < z
      · simp only [if_pos c0]
        exact ⟨⟨trivial, fun s a b q1 q2 q3 _ => h1 s a b q1 q2 q3 (by omega)⟩, trivial⟩
      · simp only [if_neg c0]
        exact q_k20 hN hg hl hr hz1 (by omega) h1 (fun _ F S r c => rec (nI z + 1) F S r c) (fun _ F S r c => reco (nI z + 1) F S r c) (fun u => u.1 = 1 ∧ mOK n rl gh gi gc rt (fun _ _ => True) u.2.2.2.1 u.2.2.2.2) (fun x F S r c hmm => ih (nI z + 1) F S r c ⟨z + 1, by omega, by omega, n_1, hmm⟩ (by rw [n_1, n_clamp (by omega), n_clamp (by omega)]; omega))
    · show 100 - (nI 1).toNatClampNeg < N_
      rw [n_clamp (by omega)]; omega
  · have h0 : ¬ vMB = 0 := by rw [hB]; decide
    simp only [if_neg h0]
    exact ⟨⟨hB, hm⟩, trivial⟩
