/-! The class's outlook -/
def itB (m : Nat) (N : Nat → Int32) (x : Int32) (b t : Nat) : Prop := (x = nI (10 + t) ∧ b = m) ∨ ∃ s, s < 10 ∧ x = nI s ∧ bt (N (b * 10 + s)) t = true
theorem k_ocell {s b : Nat} (hs : s < 10) (hb : b < 25) : f_O_cell (nI s) (nI b) = nI (b * 10 + s) := by
  have e25 : (25 : Int32) = nI 25 := rfl
  unfold f_O_cell
  simp (disch := omega) only [q_0, q_10, e25, n_lt, n_le]
  rw [if_neg (by omega), if_neg (by omega), if_neg (by omega), if_neg (by omega), n_mul, n_add]
theorem e_250 : (250 : Int32) = nI 250 := rfl
theorem k_iNs {m s b : Nat} {N : Nat → Int32} (hs : s < 10) (hb : b < 25) : f_O_itemNexts (nI m) N (nI s) (nI b) = N (b * 10 + s) ∧ o_O_itemNexts (nI m) N (nI s) (nI b) := by
  unfold f_O_itemNexts o_O_itemNexts
  simp (disch := omega) only [bd_def, k_ocell, q_10, n_lt, q_0, e_250, n_le, n_clamp]
  rw [if_pos hs, if_pos hs, if_neg (by omega), if_neg (by omega), if_neg (by omega), if_neg (by omega)]
  exact ⟨rfl, n_in (by omega) (by omega), trivial⟩
theorem k_iN {m b : Nat} {N : Nat → Int32} {x : Int32} (hx : isIt1 x) (hm : m ≤ 24) (hb : b ≤ m) : (∀ t, t < 32 → (bt (f_O_itemNexts (nI m) N x (nI b)) t = true ↔ itB m N x b t)) ∧ o_O_itemNexts (nI m) N x (nI b) := by
  rcases hx with rfl | hx
  · have e : f_O_cell (-1) (nI b) = -1 := by
      unfold f_O_cell
      rw [if_pos (show (-1 : Int32) < 0 by decide)]
    unfold f_O_itemNexts o_O_itemNexts
    simp only [bd_def, e, if_pos (show (-1 : Int32) < 10 by decide), if_pos (show (-1 : Int32) < 0 by decide)]
    refine ⟨fun t ht => ⟨fun q => ?_, fun q => ?_⟩, trivial⟩
    · rw [bt_0] at q; cases q
    · rcases q with ⟨q, -⟩ | ⟨s, hs, q, -⟩
      · have := x_eq q; rw [x_m1, n_tI (by omega)] at this; omega
      · have := x_eq q; rw [x_m1, n_tI (by omega)] at this; omega
  · by_cases c : x < 10
    · obtain ⟨s, hs, rfl⟩ := isIt_sym hx c
      obtain ⟨h1, h2⟩ := k_iNs (m := m) (N := N) hs (show b < 25 by omega)
      refine ⟨fun t ht => ?_, h2⟩
      rw [h1]
      constructor
      · intro q; exact Or.inr ⟨s, hs, rfl, q⟩
      · intro q
        rcases q with ⟨q, -⟩ | ⟨s', hs', q, q2⟩
        · rw [n_eq (by omega) (by omega)] at q; omega
        · rw [n_eq (by omega) (by omega)] at q
          subst q; exact q2
    · obtain ⟨t0, ht0, ht1, rfl⟩ := isIt_tok hx c
      obtain ⟨t1, rfl⟩ : ∃ t, t0 = 10 + t := ⟨t0 - 10, by omega⟩
      have hs : ∀ t, (∃ s, s < 10 ∧ nI (10 + t1) = nI s ∧ bt (N (b * 10 + s)) t = true) → False := by
        intro t ⟨s, hs, q, _⟩
        rw [n_eq (by omega) (by omega)] at q; omega
      unfold f_O_itemNexts o_O_itemNexts
      simp only [if_neg c, n_t10]
      simp (disch := omega) only [n_eq]
      by_cases cb : b = m
      · simp only [if_pos cb]
        refine ⟨fun t ht => ?_, trivial⟩
        show bt (bit1 t1) t = true ↔ _
        rw [bt_one (by omega) ht]
        simp only [decide_eq_true_eq]
        constructor
        · intro q; subst q; exact Or.inl ⟨rfl, cb⟩
        · intro q
          rcases q with ⟨q, -⟩ | q
          · rw [n_eq (by omega) (by omega)] at q; omega
          · exact absurd q (hs t)
      · simp only [if_neg cb]
        refine ⟨fun t ht => ⟨fun q => ?_, fun q => ?_⟩, trivial⟩
        · rw [bt_0] at q; cases q
        · rcases q with ⟨-, q⟩ | q
          · exact absurd q cb
          · exact absurd q (hs t)
theorem k_owrite {s b : Nat} {N : Nat → Int32} {v : Int32} (hs : s < 10) (hb : b < 25) : f_O_write N (nI s) (nI b) v = upd N (b * 10 + s) v ∧ o_O_write N (nI s) (nI b) v := by
  unfold f_O_write o_O_write
  simp (disch := omega) only [bd_def, k_ocell, q_0, e_250, n_lt, n_le, n_clamp]
  rw [if_neg (by omega), if_neg (by omega), if_neg (by omega), if_neg (by omega)]
  exact ⟨rfl, n_in (by omega) (by omega), trivial⟩
theorem k_addTo {m s b : Nat} {N : Nat → Int32} {v : Int32} (hs : s < 10) (hb : b < 25) : f_O_addTo (nI m) N (nI s) (nI b) v = upd N (b * 10 + s) (N (b * 10 + s) ||| v) ∧ o_O_addTo (nI m) N (nI s) (nI b) v := by
  obtain ⟨h1, h2⟩ := k_iNs (m := m) (N := N) hs hb
  unfold f_O_addTo o_O_addTo
  simp only [bd_def, h1]
  obtain ⟨h3, h4⟩ := k_owrite (N := N) (v := N (b * 10 + s) ||| v) hs hb
  exact ⟨h3, h2, h4, trivial⟩
/-- the class's numbers -/
theorem k_treesE {n to rl a b : Nat} {gh gi gc rt vCn vCc : Nat → Int32} {lv : Nat → Nat} {x : Int32} (hg : gOK n gh gi gc) (hl : lvOK n gh gi lv) (hr : rl ≤ 24) (hto : to ≤ rl) (hC : colOK n to gh gi gc rt vCn vCc) (hx : isIt1 x) (ha : a ≤ 24) (hb : b ≤ to) : ((f_C_trees vCn (nI rl) rt x (nI a) (nI b) ≤ 0) ↔ ¬ tE n gh gi gc rt x a b) ∧ o_C_trees vCn (nI rl) rt x (nI a) (nI b) := by
  obtain ⟨h1, h2⟩ := k_trees (rl := rl) (i := a) (j := b) (rt := rt) (vCn := vCn) (tb := vV n gh gi gc rt) hx hr (by omega) ha (fun s hs _ h => (hC s a b hs h hb).1)
  have hs := (itE_G hg hl (rt := rt) hx (i := a) (j := b) (by omega)).2
  refine ⟨?_, h2⟩
  rw [h1, q_0, n_le (by omega) (by omega)]
  unfold tE
  omega
theorem k_nb2 {N_ n m to rl p f : Nat} {gh gi gc rt vCn vCc N : Nat → Int32} {lv : Nat → Nat} (hN : 1000 ≤ N_) (hg : gOK n gh gi gc) (hl : lvOK n gh gi lv) (hr : rl ≤ 24) (hto : to ≤ rl) (hm : m ≤ to) (hC : colOK n to gh gi gc rt vCn vCc) (hp : p < n) (hf : f ≤ m) :
    (fun Z => ∀ t, t < 32 → (bt Z t = true ↔ ∃ c, f < c ∧ c ≤ m ∧ tE n gh gi gc rt (gi (3 * p + 1)) f c ∧ itB m N (gi (3 * p + 2)) c t)) (f_O_nextsBehindSecond N_ (nI m) N vCn (nI n) gi (nI rl) rt (nI p) (nI f)) ∧ o_O_nextsBehindSecond N_ (nI m) N vCn (nI n) gi (nI rl) rt (nI p) (nI f) := by
  have hn := hg.1
  obtain ⟨i0, i1, i2⟩ := gOK_i hg hp
  obtain ⟨e1, o1⟩ := k_item1 (gi := gi) hn hp
  obtain ⟨e2, o2⟩ := k_item2 (gi := gi) hn hp
  unfold f_O_nextsBehindSecond o_O_nextsBehindSecond
  refine rj_O_nextsBehindSecond_7 (nI p) (nI f) (nI m) N vCn (nI n) gi (nI rl) rt _ _ (fun _ x => 100 - x.toNatClampNeg) (fun Z x => ∃ c0, f < c0 ∧ c0 ≤ m + 1 ∧ x = nI c0 ∧ ∀ t, t < 32 → (bt Z t = true ↔ ∃ c, f < c ∧ c < c0 ∧ tE n gh gi gc rt (gi (3 * p + 1)) f c ∧ itB m N (gi (3 * p + 2)) c t)) (fun Z => ∀ t, t < 32 → (bt Z t = true ↔ ∃ c, f < c ∧ c ≤ m ∧ tE n gh gi gc rt (gi (3 * p + 1)) f c ∧ itB m N (gi (3 * p + 2)) c t)) ?_ N_ _ _ ?_ ?_
  · intro rec reco Z x hI ih
    obtain ⟨c0, h1, h2, rfl, h3⟩ := hI
    unfold s_O_nextsBehindSecond_7 os_O_nextsBehindSecond_7
    simp (disch := omega) only [n_lt, bd_def, e1, e2, n_1]
    by_cases cm : m < c0
    · simp only [if_pos cm]
      have ec : c0 = m + 1 := by omega
      subst ec
      refine ⟨fun t ht => ?_, trivial⟩
      rw [h3 t ht]
      constructor
      · intro ⟨c, q1, q2, q3⟩; exact ⟨c, q1, by omega, q3⟩
      · intro ⟨c, q1, q2, q3⟩; exact ⟨c, q1, by omega, q3⟩
    · simp only [if_neg cm]
      obtain ⟨t1, t2⟩ := k_treesE (a := f) (b := c0) hg hl hr hto hC i1 (by omega) (by omega)
      have hmu : 100 - (nI (c0 + 1)).toNatClampNeg < 100 - (nI c0).toNatClampNeg := by rw [n_clamp (by omega), n_clamp (by omega)]; omega
      by_cases ct : f_C_trees vCn (nI rl) rt (gi (3 * p + 1)) (nI f) (nI c0) ≤ 0
      · have ct' := t1.mp ct
        simp only [if_pos ct]
        have := ih Z (nI (c0 + 1)) ⟨c0 + 1, by omega, by omega, rfl, fun t ht => by
          rw [h3 t ht]
          constructor
          · intro ⟨c, q1, q2, q3⟩; exact ⟨c, q1, by omega, q3⟩
          · intro ⟨c, q1, q2, q3, q4⟩
            by_cases cc : c = c0
            · subst cc; exact absurd q3 ct'
            · exact ⟨c, q1, by omega, q3, q4⟩⟩ hmu
        exact ⟨this.1, o1, t2, this.2⟩
      · have ct' : tE n gh gi gc rt (gi (3 * p + 1)) f c0 := Classical.not_not.mp (fun q => ct (t1.mpr q))
        simp only [if_neg ct]
        obtain ⟨k1, k2⟩ := k_iN (m := m) (b := c0) (N := N) i2 (by omega) (by omega)
        have := ih (Z ||| f_O_itemNexts (nI m) N (gi (3 * p + 2)) (nI c0)) (nI (c0 + 1)) ⟨c0 + 1, by omega, by omega, rfl, fun t ht => by
          rw [bt_or, Bool.or_eq_true, h3 t ht, k1 t ht]
          constructor
          · intro q
            rcases q with ⟨c, q1, q2, q3⟩ | q
            · exact ⟨c, q1, by omega, q3⟩
            · exact ⟨c0, h1, by omega, ct', q⟩
          · intro ⟨c, q1, q2, q3, q4⟩
            by_cases cc : c = c0
            · subst cc; exact Or.inr q4
            · exact Or.inl ⟨c, q1, by omega, q3, q4⟩⟩ hmu
        exact ⟨this.1, o1, t2, o2, k2, this.2⟩
  · show 100 - (nI f + 1).toNatClampNeg < N_
    omega
  · refine ⟨f + 1, by omega, by omega, n_1, fun t ht => ⟨fun q => ?_, fun q => ?_⟩⟩
    · rw [bt_0] at q; cases q
    · obtain ⟨c, q1, q2, -⟩ := q; omega
theorem k_nb1 {N_ n m to rl p a : Nat} {gh gi gc rt vCn vCc N : Nat → Int32} {lv : Nat → Nat} (hN : 1000 ≤ N_) (hg : gOK n gh gi gc) (hl : lvOK n gh gi lv) (hr : rl ≤ 24) (hto : to ≤ rl) (hm : m ≤ to) (hC : colOK n to gh gi gc rt vCn vCc) (hp : p < n) (ha : a ≤ m) :
    (fun Z => ∀ t, t < 32 → (bt Z t = true ↔ ∃ x b, a < b ∧ chd m gi (tE n gh gi gc rt) p a x b ∧ itB m N x b t)) (f_O_nextsBehindFirst N_ (nI m) N vCn (nI n) gi (nI rl) rt (nI p) (nI a)) ∧ o_O_nextsBehindFirst N_ (nI m) N vCn (nI n) gi (nI rl) rt (nI p) (nI a) := by
  have hn := hg.1
  obtain ⟨i0, i1, i2⟩ := gOK_i hg hp
  obtain ⟨e0, o0⟩ := k_item0 (gi := gi) hn hp
  obtain ⟨e1, o1⟩ := k_item1 (gi := gi) hn hp
  have hne : ∀ x b t, itB m N x b t → t < 32 → x ≠ -1 := by
    intro x b t q ht e
    rcases q with ⟨q, -⟩ | ⟨s, hs, q, -⟩
    · have := x_eq (q.symm.trans e); rw [x_m1, n_tI (by omega)] at this; omega
    · have := x_eq (q.symm.trans e); rw [x_m1, n_tI (by omega)] at this; omega
  unfold f_O_nextsBehindFirst o_O_nextsBehindFirst
  refine rj_O_nextsBehindFirst_7 N_ (nI p) (nI a) (nI m) N vCn (nI n) gi (nI rl) rt _ _ (fun _ x => 100 - x.toNatClampNeg) (fun Z x => ∃ b0, a < b0 ∧ b0 ≤ m + 1 ∧ x = nI b0 ∧ ∀ t, t < 32 → (bt Z t = true ↔ ∃ b, a < b ∧ b < b0 ∧ tE n gh gi gc rt (gi (3 * p)) a b ∧ (itB m N (gi (3 * p + 1)) b t ∨ ∃ c, b < c ∧ c ≤ m ∧ tE n gh gi gc rt (gi (3 * p + 1)) b c ∧ itB m N (gi (3 * p + 2)) c t))) (fun Z => ∀ t, t < 32 → (bt Z t = true ↔ ∃ x b, a < b ∧ chd m gi (tE n gh gi gc rt) p a x b ∧ itB m N x b t)) ?_ N_ _ _ ?_ ?_
  · intro rec reco Z x hI ih
    obtain ⟨b0, h1, h2, rfl, h3⟩ := hI
    unfold s_O_nextsBehindFirst_7 os_O_nextsBehindFirst_7
    simp (disch := omega) only [n_lt, bd_def, e0, e1, n_1]
    by_cases cm : m < b0
    · simp only [if_pos cm]
      have ec : b0 = m + 1 := by omega
      subst ec
      refine ⟨fun t ht => ?_, trivial⟩
      rw [h3 t ht]
      constructor
      · intro ⟨b, q1, q2, q3, q4⟩
        rcases q4 with q4 | ⟨c, q5, q6, q7, q8⟩
        · exact ⟨_, b, q1, ⟨by omega, Or.inr (Or.inl ⟨rfl, hne _ _ _ q4 ht, q1, q3⟩)⟩, q4⟩
        · exact ⟨_, c, by omega, ⟨q6, Or.inr (Or.inr ⟨rfl, hne _ _ _ q8 ht, b, q1, q5, q3, q7⟩)⟩, q8⟩
      · intro ⟨x, b, q1, ⟨q2, q3⟩, q4⟩
        rcases q3 with ⟨-, q3⟩ | ⟨rfl, -, -, q3⟩ | ⟨rfl, -, c, q5, q6, q7, q8⟩
        · omega
        · exact ⟨b, q1, by omega, q3, Or.inl q4⟩
        · exact ⟨c, q5, by omega, q7, Or.inr ⟨b, q6, q2, q8, q4⟩⟩
    · simp only [if_neg cm]
      obtain ⟨t1, t2⟩ := k_treesE (a := a) (b := b0) hg hl hr hto hC i0 (by omega) (by omega)
      have hmu : 100 - (nI (b0 + 1)).toNatClampNeg < 100 - (nI b0).toNatClampNeg := by rw [n_clamp (by omega), n_clamp (by omega)]; omega
      by_cases ct : f_C_trees vCn (nI rl) rt (gi (3 * p)) (nI a) (nI b0) ≤ 0
      · have ct' := t1.mp ct
        simp only [if_pos ct]
        have := ih Z (nI (b0 + 1)) ⟨b0 + 1, by omega, by omega, rfl, fun t ht => by
          rw [h3 t ht]
          constructor
          · intro ⟨b, q1, q2, q3⟩; exact ⟨b, q1, by omega, q3⟩
          · intro ⟨b, q1, q2, q3, q4⟩
            by_cases cc : b = b0
            · subst cc; exact absurd q3 ct'
            · exact ⟨b, q1, by omega, q3, q4⟩⟩ hmu
        exact ⟨this.1, o0, t2, this.2⟩
      · have ct' : tE n gh gi gc rt (gi (3 * p)) a b0 := Classical.not_not.mp (fun q => ct (t1.mpr q))
        simp only [if_neg ct]
        obtain ⟨k1, k2⟩ := k_iN (m := m) (b := b0) (N := N) i1 (by omega) (by omega)
        obtain ⟨k3, k4⟩ := k_nb2 (N_ := N_) (N := N) (f := b0) hN hg hl hr hto hm hC hp (by omega)
        have := ih ((Z ||| f_O_itemNexts (nI m) N (gi (3 * p + 1)) (nI b0)) ||| f_O_nextsBehindSecond N_ (nI m) N vCn (nI n) gi (nI rl) rt (nI p) (nI b0)) (nI (b0 + 1)) ⟨b0 + 1, by omega, by omega, rfl, fun t ht => by
          rw [bt_or, bt_or, Bool.or_eq_true, Bool.or_eq_true, h3 t ht, k1 t ht, k3 t ht]
          constructor
          · intro q
            rcases q with (⟨b, q1, q2, q3⟩ | q) | q
            · exact ⟨b, q1, by omega, q3⟩
            · exact ⟨b0, h1, by omega, ct', Or.inl q⟩
            · exact ⟨b0, h1, by omega, ct', Or.inr q⟩
          · intro ⟨b, q1, q2, q3, q4⟩
            by_cases cc : b = b0
            · subst cc
              rcases q4 with q4 | q4
              · exact Or.inl (Or.inr q4)
              · exact Or.inr q4
            · exact Or.inl (Or.inl ⟨b, q1, by omega, q3, q4⟩)⟩ hmu
        exact ⟨this.1, o0, t2, o1, k2, k4, this.2⟩
  · show 100 - (nI a + 1).toNatClampNeg < N_
    omega
  · refine ⟨a + 1, by omega, by omega, n_1, fun t ht => ⟨fun q => ?_, fun q => ?_⟩⟩
    · rw [bt_0] at q; cases q
    · obtain ⟨c, q1, q2, -⟩ := q; omega
