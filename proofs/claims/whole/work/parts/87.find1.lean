theorem n_p64 {a : Nat} (h : a < 2147483648) : (lg_cmp (nI a).toInt64 0 ≤ 0) = (a = 0) := by
  apply propext
  rw [lg_cmp_le, n_64 h, Int64.le_iff_toInt_le]
  have e1 : (Int64.ofNat a).toInt = (a : Int) := Int64.toInt_ofNat_of_lt (by omega)
  have e2 : (0 : Int64).toInt = 0 := by decide
  rw [e1, e2]; omega
theorem n_mm {a b : Nat} (ha : a ≤ 1000000000) (hb : b ≤ 1000000000) : f_H_atMostMany ((nI a).toInt64 * (nI b).toInt64) = nI (satN (a * b)) := by
  have h : a * b ≤ 1000000000 * 1000000000 := Nat.mul_le_mul ha hb
  rw [n_64 (by omega), n_64 (by omega), n_64m, n_many (by omega)]
theorem n_m1' {a : Nat} (ha : a ≤ 1000000000) : f_H_atMostMany ((nI a).toInt64) = nI (satN a) := by
  rw [n_64 (by omega), n_many (by omega)]
theorem gOK_i {n : Nat} {gh gi gc : Nat → Int32} (hg : gOK n gh gi gc) {p : Nat} (hp : p < n) : isIt1 (gi (3 * p)) ∧ isIt1 (gi (3 * p + 1)) ∧ isIt1 (gi (3 * p + 2)) := by
  obtain ⟨-, h1, h2, -⟩ := hg.2 p hp
  refine ⟨Or.inr h1, ?_⟩
  rcases h2 with ⟨h2, h3⟩ | ⟨h2, h3⟩
  · exact ⟨Or.inl h2, Or.inl h3⟩
  · exact ⟨Or.inr h2, h3⟩
theorem k_splT {n rl to p i f q j : Nat} {gh gi gc rt vCn vCc : Nat → Int32} {lv : Nat → Nat} (hg : gOK n gh gi gc) (hl : lvOK n gh gi lv) (hp : p < n) (hr : rl ≤ 24) (hto : to ≤ rl) (hj : j ≤ to) (hC : colOK n to gh gi gc rt vCn vCc) (hi : i ≤ j) (hf : f ≤ j) (hq : q ≤ j) :
    f_F_splitTrees (nI i) (nI j) vCn (nI n) gi (nI rl) rt (nI p) (nI f) (nI q) = nI (eS (splE n gh gi gc rt i j p f q)).1 ∧ o_F_splitTrees (nI i) (nI j) vCn (nI n) gi (nI rl) rt (nI p) (nI f) (nI q) := by
  have hn := hg.1
  obtain ⟨i0, i1, i2⟩ := gOK_i hg hp
  obtain ⟨e0, o0⟩ := k_item0 (gi := gi) hn hp
  obtain ⟨e1, o1⟩ := k_item1 (gi := gi) hn hp
  obtain ⟨e2, o2⟩ := k_item2 (gi := gi) hn hp
  have hc : ∀ {a b : Nat}, b ≤ j → ∀ s, s < 10 → ∀ x : Int32, x = nI s → a < b → vCn (cN s a b) = nI (vV n gh gi gc rt s a b).1 := fun hb s hs x _ hab => (hC s _ _ hs hab (by omega)).1
  obtain ⟨t0, u0⟩ := k_trees (rl := rl) (i := i) (j := f) (rt := rt) (vCn := vCn) (tb := vV n gh gi gc rt) i0 hr (by omega) (by omega) (fun s hs e h => hc hf s hs _ e h)
  obtain ⟨t1, u1⟩ := k_trees (rl := rl) (i := f) (j := q) (rt := rt) (vCn := vCn) (tb := vV n gh gi gc rt) i1 hr (by omega) (by omega) (fun s hs e h => hc hq s hs _ e h)
  obtain ⟨t2, u2⟩ := k_trees (rl := rl) (i := q) (j := j) (rt := rt) (vCn := vCn) (tb := vV n gh gi gc rt) i2 hr (by omega) (by omega) (fun s hs e h => hc (Nat.le_refl j) s hs _ e h)
  have b0 := (itE_G hg hl (rt := rt) i0 (i := i) (j := f) (by omega)).2
  have b1 := (itE_G hg hl (rt := rt) i1 (i := f) (j := q) (by omega)).2
  have b2 := (itE_G hg hl (rt := rt) i2 (i := q) (j := j) (by omega)).2
  have tgt : (eS (splE n gh gi gc rt i j p f q)).1 = satN ((itE rt (vV n gh gi gc rt) (gi (3 * p)) i f).1 * ((itE rt (vV n gh gi gc rt) (gi (3 * p + 1)) f q).1 * (itE rt (vV n gh gi gc rt) (gi (3 * p + 2)) q j).1)) := by
    show satN (1 * _) = _
    rw [Nat.one_mul]; rfl
  rw [tgt]
  unfold f_F_splitTrees o_F_splitTrees
  simp only [bd_def, e0, t0, e1, t1, e2, t2]
  generalize (itE rt (vV n gh gi gc rt) (gi (3 * p)) i f).1 = A at *
  generalize (itE rt (vV n gh gi gc rt) (gi (3 * p + 1)) f q).1 = B at *
  generalize (itE rt (vV n gh gi gc rt) (gi (3 * p + 2)) q j).1 = C at *
  rw [n_mm b0 b1]
  have b3 : satN (A * B) ≤ 1000000000 := sat_le
  simp (disch := omega) only [n_p64, n_mm, n_m1']
  by_cases cA : A = 0
  · simp only [if_pos cA]
    refine ⟨by rw [cA, Nat.zero_mul], o0, u0, trivial⟩
  · simp only [if_neg cA]
    by_cases cB : satN (A * B) = 0
    · simp only [if_pos cB]
      refine ⟨?_, o0, u0, o1, u1, trivial⟩
      rw [sat_0] at cB
      rw [← Nat.mul_assoc, cB, Nat.zero_mul]; rfl
    · simp only [if_neg cB]
      refine ⟨?_, o0, u0, o1, u1, o2, u2, trivial⟩
      rw [sat_m, Nat.mul_assoc]
theorem splE_G {n p i f q j : Nat} {gh gi gc rt : Nat → Int32} {lv : Nat → Nat} (hg : gOK n gh gi gc) (hl : lvOK n gh gi lv) (hp : p < n) (hj : j ≤ 24) (hf : f ≤ j) (hq : q ≤ j) : eG 2000000 (splE n gh gi gc rt i j p f q) := by
  obtain ⟨i0, i1, i2⟩ := gOK_i hg hp
  obtain ⟨co, co1, co2, co3, co4⟩ := own_G hg hp
  exact eG_w (eG_M co4 (eG_M (itE_G hg hl (rt := rt) i0 (i := i) (j := f) (by omega)).1 (eG_M (itE_G hg hl (rt := rt) i1 (i := f) (j := q) (by omega)).1 (itE_G hg hl (rt := rt) i2 (i := q) (j := j) (by omega)).1))) (by omega)
theorem k_splC {n rl to p i f q j : Nat} {gh gi gc rt vCn vCc : Nat → Int32} {lv : Nat → Nat} (hg : gOK n gh gi gc) (hl : lvOK n gh gi lv) (hp : p < n) (hr : rl ≤ 24) (hto : to ≤ rl) (hj : j ≤ to) (hC : colOK n to gh gi gc rt vCn vCc) (hi : i ≤ j) (hf : f ≤ j) (hq : q ≤ j) :
    ((splE n gh gi gc rt i j p f q).1 ≠ 0 → f_F_splitCost (nI i) (nI j) vCc (nI n) gi gc (nI p) (nI f) (nI q) = cI (splE n gh gi gc rt i j p f q).2) ∧ o_F_splitCost (nI i) (nI j) vCc (nI n) gi gc (nI p) (nI f) (nI q) := by
  have hn := hg.1
  obtain ⟨i0, i1, i2⟩ := gOK_i hg hp
  obtain ⟨e0, o0⟩ := k_item0 (gi := gi) hn hp
  obtain ⟨e1, o1⟩ := k_item1 (gi := gi) hn hp
  obtain ⟨e2, o2⟩ := k_item2 (gi := gi) hn hp
  obtain ⟨eo, oo⟩ := k_own (gc := gc) hn hp
  have hc : ∀ {a b : Nat}, b ≤ j → ∀ s, s < 10 → ∀ x : Int32, x = nI s → a < b → vCc (cN s a b) = cI (vV n gh gi gc rt s a b).2 := fun hb s hs x _ hab => (hC s _ _ hs hab (by omega)).2
  obtain ⟨t0, u0⟩ := k_cost (i := i) (j := f) (rt := rt) (vCc := vCc) (tb := vV n gh gi gc rt) i0 (by omega) (by omega) (fun s hs e h => hc hf s hs _ e h)
  obtain ⟨t1, u1⟩ := k_cost (i := f) (j := q) (rt := rt) (vCc := vCc) (tb := vV n gh gi gc rt) i1 (by omega) (by omega) (fun s hs e h => hc hq s hs _ e h)
  obtain ⟨t2, u2⟩ := k_cost (i := q) (j := j) (rt := rt) (vCc := vCc) (tb := vV n gh gi gc rt) i2 (by omega) (by omega) (fun s hs e h => hc (Nat.le_refl j) s hs _ e h)
  have g0 := (itE_G hg hl (rt := rt) i0 (i := i) (j := f) (by omega)).1
  have g1 := (itE_G hg hl (rt := rt) i1 (i := f) (j := q) (by omega)).1
  have g2 := (itE_G hg hl (rt := rt) i2 (i := q) (j := j) (by omega)).1
  obtain ⟨co, co1, co2, co3, co4⟩ := own_G hg hp
  unfold f_F_splitCost o_F_splitCost
  simp only [bd_def, e0, e1, e2, eo]
  refine ⟨?_, oo, o0, u0, o1, u1, o2, u2, trivial⟩
  unfold splE spl
  rw [co3, co2]
  intro hne
  have hne : 1 * ((itE rt (vV n gh gi gc rt) (gi (3 * p)) i f).1 * ((itE rt (vV n gh gi gc rt) (gi (3 * p + 1)) f q).1 * (itE rt (vV n gh gi gc rt) (gi (3 * p + 2)) q j).1)) ≠ 0 := hne
  have hA : (itE rt (vV n gh gi gc rt) (gi (3 * p)) i f).1 ≠ 0 := fun q => hne (by rw [q]; simp)
  have hB : (itE rt (vV n gh gi gc rt) (gi (3 * p + 1)) f q).1 ≠ 0 := fun q => hne (by rw [q]; simp)
  have hD : (itE rt (vV n gh gi gc rt) (gi (3 * p + 2)) q j).1 ≠ 0 := fun q => hne (by rw [q]; simp)
  rw [t0 hA, t1 hB, t2 hD]
  obtain ⟨a, a1, a2⟩ := eG_some g0 hA
  obtain ⟨b, b1, b2⟩ := eG_some g1 hB
  obtain ⟨c, c1, c2⟩ := eG_some g2 hD
  show nI co + cI _ + cI _ + cI _ = cI (oAdd (some co) (oAdd _ (oAdd _ _)))
  rw [a1, b1, c1]
  show nI co + nI a + nI b + nI c = nI (co + (a + (b + c)))
  rw [n_add, n_add, n_add]; congr 1; omega
theorem k_within {n rl to p i f q j c0 : Nat} {gh gi gc rt vCn vCc : Nat → Int32} {lv : Nat → Nat} {k : Option Nat} (hg : gOK n gh gi gc) (hl : lvOK n gh gi lv) (hp : p < n) (hr : rl ≤ 24) (hto : to ≤ rl) (hj : j ≤ to) (hC : colOK n to gh gi gc rt vCn vCc) (hi : i ≤ j) (hf : f ≤ j) (hq : q ≤ j) (hk : kOK k) (hc0 : c0 ≤ 2000000) :
    f_F_isWithin (nI i) (nI j) (kI k) (nI c0) vCn vCc (nI n) gi gc (nI rl) rt (nI p) (nI f) (nI q) = (if chs (some c0) (splE n gh gi gc rt i j p f q) k = true then (1, kI k) else (0, kI (kS k (eS (splE n gh gi gc rt i j p f q)).1))) ∧ o_F_isWithin (nI i) (nI j) (kI k) (nI c0) vCn vCc (nI n) gi gc (nI rl) rt (nI p) (nI f) (nI q) := by
  obtain ⟨t1, t2⟩ := k_splT hg hl hp hr hto hj hC hi hf hq
  obtain ⟨c1, c2⟩ := k_splC hg hl hp hr hto hj hC hi hf hq
  have g := splE_G hg hl (rt := rt) (i := i) hp (show j ≤ 24 by omega) hf hq
  unfold f_F_isWithin o_F_isWithin
  simp only [bd_def, t1]
  have hs : (eS (splE n gh gi gc rt i j p f q)).1 ≤ 1000000000 := sat_le
  cases k with
  | none =>
    have e : kI none = -1 := rfl
    simp only [e, if_true]
    simp (disch := omega) only [q_0, n_le]
    by_cases c : (splE n gh gi gc rt i j p f q).1 = 0
    · have c' : (eS (splE n gh gi gc rt i j p f q)).1 ≤ 0 := by show satN _ ≤ 0; rw [c]; decide
      have h2 := g.1.mp c
      have hch : ¬ chs (some c0) (splE n gh gi gc rt i j p f q) none = true := by
        unfold chs; rw [h2]; simp
      rw [if_pos c', if_pos c', if_neg hch]
      exact ⟨rfl, t2, trivial⟩
    · have c' : ¬ (eS (splE n gh gi gc rt i j p f q)).1 ≤ 0 := by
        show ¬ satN _ ≤ 0
        intro q
        exact c (sat_0.mp (by omega))
      obtain ⟨v, v1, v2⟩ := eG_some g c
      rw [if_neg c', if_neg c', c1 c, v1]
      show (if nI v = nI c0 then _ else _) = _ ∧ _
      unfold chs
      rw [v1]
      simp (disch := omega) only [n_eq, decide_eq_true_eq, Option.some.injEq]
      by_cases cc : v = c0
      · rw [if_pos cc, if_pos cc]; exact ⟨rfl, t2, c2, by split <;> trivial⟩
      · rw [if_neg cc, if_neg cc]; exact ⟨rfl, t2, c2, by split <;> trivial⟩
  | some m =>
    have hm := hk m rfl
    have e : kI (some m) = nI m := rfl
    have e' : ¬ nI m = -1 := by
      intro q
      have := x_eq q
      rw [n_tI (by omega), x_m1] at this; omega
    have e2 : kI (kS (some m) (eS (splE n gh gi gc rt i j p f q)).1) = nI (m - (eS (splE n gh gi gc rt i j p f q)).1) := rfl
    unfold chs
    rw [e, e2]
    simp (disch := omega) only [if_neg e', n_le, decide_eq_true_eq]
    by_cases cc : m < (eS (splE n gh gi gc rt i j p f q)).1
    · rw [if_pos cc, if_neg (by omega)]
      exact ⟨rfl, t2, by split <;> trivial⟩
    · rw [if_neg cc, if_pos (by omega), n_sub (by omega)]
      exact ⟨rfl, t2, by split <;> trivial⟩
theorem kOK_S {k : Option Nat} {w : Nat} (h : kOK k) : kOK (kS k w) := by
  cases k with
  | none => exact h
  | some m => intro m' e; have := h m rfl; have : m - w = m' := Option.some.inj e; omega
/-- what the class's search within a production leaves -/
def fsR (R : pR) (p : Nat) (Kp : Option Nat → pR) (u : Int32 × Int32 × Int32 × Int32) : Prop := (u.1 = 0 ∧ ∃ k, u.2.1 = kI k ∧ kOK k ∧ Kp k = R) ∨ (∃ f q k, u = (1, kI k, nI f, nI q) ∧ R = some (p, f, q, k))
theorem k_fs70 {N_ n rl to p i f j c0 : Nat} {gh gi gc rt vCn vCc : Nat → Int32} {lv : Nat → Nat} {k : Option Nat} {X Y : Int32} (hN : 1000 ≤ N_) (hg : gOK n gh gi gc) (hl : lvOK n gh gi lv) (hp : p < n) (hr : rl ≤ 24) (hto : to ≤ rl) (hj : j ≤ to) (hC : colOK n to gh gi gc rt vCn vCc) (hij : i < j) (hf : f ≤ j) (hq : sLo gi p f j + sNo gi p f j ≤ j + 1) (hk : kOK k) (hc0 : c0 ≤ 2000000)
    (y3 : Int32) (hy : ∀ t, t ≤ sNo gi p f j → (y3 < nI (sLo gi p f j + t)) = (t = sNo gi p f j)) (R : pR) (Kp : Option Nat → pR) (hR : pkQ (some c0) (splE n gh gi gc rt i j) p f Kp (sNo gi p f j) (sLo gi p f j) k = R)
    (Kf : Int32 → Int32 → Int32 → Int32 → Int32 × Int32 × Int32 × Int32) (Ko : Int32 → Int32 → Int32 → Int32 → Prop) (Ph : (Int32 × Int32 × Int32 × Int32) → Prop)
    (hK : ∀ x k' X Y, kOK k' → Kp k' = R → Ph (Kf x (kI k') X Y) ∧ Ko x (kI k') X Y) (hF : ∀ q k', R = some (p, f, q, k') → Ph (1, kI k', nI f, nI q)) :
    Ph (l_F_findSplit_70 (nI p) y3 (nI f) (nI i) (nI j) (nI c0) vCn vCc (nI n) gi gc (nI rl) rt Kf N_ (nI (sLo gi p f j)) (kI k) X Y) ∧ ol_F_findSplit_70 (nI p) y3 (nI f) (nI i) (nI j) (nI c0) vCn vCc (nI n) gi gc (nI rl) rt Ko N_ (nI (sLo gi p f j)) (kI k) X Y := by
  refine rj_F_findSplit_70 (nI p) y3 (nI f) (nI i) (nI j) (nI c0) vCn vCc (nI n) gi gc (nI rl) rt Kf Ko (fun x _ _ _ => 100 - x.toNatClampNeg)
    (fun x N _ _ => ∃ b k', b ≤ sNo gi p f j ∧ x = nI (sLo gi p f j + b) ∧ N = kI k' ∧ kOK k' ∧ pkQ (some c0) (splE n gh gi gc rt i j) p f Kp (sNo gi p f j - b) (sLo gi p f j + b) k' = R) Ph ?_ N_ _ _ _ _ ?_ ?_
  · intro rec reco x N X Y hI ih
    obtain ⟨b, k', hb, rfl, rfl, hk', hP⟩ := hI
    unfold s_F_findSplit_70 os_F_findSplit_70
    simp only [bd_def, hy b hb]
    by_cases c : b = sNo gi p f j
    · simp only [if_pos c]
      rw [show sNo gi p f j - b = 0 by omega] at hP
      exact hK _ _ _ _ hk' hP
    · simp only [if_neg c]
      obtain ⟨w1, w2⟩ := k_within (q := sLo gi p f j + b) hg hl hp hr hto hj hC (show i ≤ j by omega) hf (show sLo gi p f j + b ≤ j by omega) hk' hc0
      rw [w1]
      rw [show sNo gi p f j - b = (sNo gi p f j - (b + 1)) + 1 by omega] at hP
      unfold pkQ at hP
      by_cases cc : chs (some c0) (splE n gh gi gc rt i j p f (sLo gi p f j + b)) k' = true
      · rw [if_pos cc] at hP
        simp only [if_pos cc, if_neg m10.1]
        exact ⟨hF _ _ hP.symm, w2, trivial⟩
      · rw [if_neg cc] at hP
        simp only [if_neg cc, if_true, n_1]
        have := ih (nI (sLo gi p f j + b + 1)) (kI (kS k' (eS (splE n gh gi gc rt i j p f (sLo gi p f j + b))).1)) X Y ⟨b + 1, _, by omega, rfl, rfl, kOK_S hk', hP⟩ (by
          show 100 - (nI _).toNatClampNeg < 100 - (nI _).toNatClampNeg
          rw [n_clamp (by omega), n_clamp (by omega)]; omega)
        exact ⟨this.1, w2, this.2⟩
  · show 100 - (nI _).toNatClampNeg < N_
    omega
  · exact ⟨0, k, Nat.zero_le _, rfl, rfl, hk, hR⟩
theorem k_y3 {n p f j : Nat} {gi : Nat → Int32} (hn : n ≤ 24) (hp : p < n) (hj : j ≤ 24) (hj0 : 1 ≤ j) (hf : f ≤ j) (h0 : 0 < sNo gi p f j) : (∀ t, t ≤ sNo gi p f j → (f_G_lastSecondEnd (nI n) gi (nI p) (nI j) < nI (sLo gi p f j + t)) = (t = sNo gi p f j)) ∧ sLo gi p f j + sNo gi p f j ≤ j + 1 := by
  rw [(k_ends2 (k := f) hn hp hj hj0).1]
  unfold sLo sNo at *
  by_cases c : gi (3 * p + 2) = -1
  · simp only [if_pos c] at *
    exact ⟨fun t ht => by rw [n_lt (by omega) (by omega)]; apply propext; omega, by omega⟩
  · simp only [if_neg c] at *
    exact ⟨fun t ht => by rw [n_lt (by omega) (by omega)]; apply propext; omega, by omega⟩
theorem k_findSplit {N_ n rl to p i j c0 : Nat} {gh gi gc rt vCn vCc : Nat → Int32} {lv : Nat → Nat} {k : Option Nat} {X Y : Int32} (hN : 1000 ≤ N_) (hg : gOK n gh gi gc) (hl : lvOK n gh gi lv) (hp : p < n) (hr : rl ≤ 24) (hto : to ≤ rl) (hj : j ≤ to) (hC : colOK n to gh gi gc rt vCn vCc) (hij : i < j) (hk : kOK k) (hc0 : c0 ≤ 2000000)
    (R : pR) (Kp : Option Nat → pR) (hR : pkF (some c0) (splE n gh gi gc rt i j) gi j p Kp (fNo gi p i j) (fLo gi p i j) k = R) :
    fsR R p Kp (f_F_findSplit N_ (nI i) (nI j) (kI k) (nI c0) X Y vCn vCc (nI n) gi gc (nI rl) rt (nI p)) ∧ o_F_findSplit N_ (nI i) (nI j) (kI k) (nI c0) X Y vCn vCc (nI n) gi gc (nI rl) rt (nI p) := by
  have hn := hg.1
  have h2 := gOK_2 hg hp
  obtain ⟨a1, a2, a3, a4⟩ := k_ends1 (gi := gi) hn hp (show j ≤ 24 by omega) hij
  obtain ⟨-, b2, -, -⟩ := k_ends2 (gi := gi) (k := 0) hn hp (show j ≤ 24 by omega) (by omega)
  unfold f_F_findSplit o_F_findSplit
  simp only [bd_def, a1]
  have key : fsR R p Kp (l_F_findSplit_44 N_ (nI p) (f_G_lastFirstEnd (nI n) gi (nI p) (nI j)) (f_G_lastSecondEnd (nI n) gi (nI p) (nI j)) (nI i) (nI j) (nI c0) vCn vCc (nI n) gi gc (nI rl) rt (fun x4 N X Y => (0, N, X, Y)) N_ (nI (fLo gi p i j)) (kI k) X Y) ∧ ol_F_findSplit_44 N_ (nI p) (f_G_lastFirstEnd (nI n) gi (nI p) (nI j)) (f_G_lastSecondEnd (nI n) gi (nI p) (nI j)) (nI i) (nI j) (nI c0) vCn vCc (nI n) gi gc (nI rl) rt (fun x4 N X Y => True) N_ (nI (fLo gi p i j)) (kI k) X Y := by
    refine rj_F_findSplit_44 N_ (nI p) _ _ (nI i) (nI j) (nI c0) vCn vCc (nI n) gi gc (nI rl) rt _ _ (fun x _ _ _ => 100 - x.toNatClampNeg)
      (fun x N _ _ => ∃ a k', a ≤ fNo gi p i j ∧ x = nI (fLo gi p i j + a) ∧ N = kI k' ∧ kOK k' ∧ pkF (some c0) (splE n gh gi gc rt i j) gi j p Kp (fNo gi p i j - a) (fLo gi p i j + a) k' = R) (fsR R p Kp) ?_ N_ _ _ _ _ ?_ ?_
    · intro rec reco x N X Y hI ih
      obtain ⟨a, k', ha, rfl, rfl, hk', hP⟩ := hI
      unfold s_F_findSplit_44 os_F_findSplit_44
      simp only [bd_def, a4 a ha]
      by_cases c : a = fNo gi p i j
      · simp only [if_pos c]
        rw [show fNo gi p i j - a = 0 by omega] at hP
        exact ⟨Or.inl ⟨rfl, k', rfl, hk', hP⟩, trivial⟩
      · simp only [if_neg c]
        have ha' : a < fNo gi p i j := by omega
        have hsn := sNo_pos hij ha' h2
        obtain ⟨-, hf1, -, -⟩ := spl_in (b := 0) hij ha' hsn h2
        obtain ⟨y1, y2⟩ := k_y3 (gi := gi) hn hp (show j ≤ 24 by omega) (by omega) hf1 hsn
        obtain ⟨-, -, c1, c2⟩ := k_ends2 (gi := gi) (k := fLo gi p i j + a) hn hp (show j ≤ 24 by omega) (by omega)
        rw [c1]
        rw [show fNo gi p i j - a = (fNo gi p i j - (a + 1)) + 1 by omega] at hP
        unfold pkF at hP
        refine And.imp id (fun h => ⟨c2, h⟩) (k_fs70 hN hg hl hp hr hto hj hC hij hf1 y2 hk' hc0 _ y1 R _ hP _ _ (fsR R p Kp) ?_ ?_)
        · intro x k'' X Y hk'' hP'
          rw [n_1]
          exact ih _ _ _ _ ⟨a + 1, k'', by omega, rfl, rfl, hk'', hP'⟩ (by
            show 100 - (nI _).toNatClampNeg < 100 - (nI _).toNatClampNeg
            rw [n_clamp (by omega), n_clamp (by omega)]; omega)
        · intro q k'' e
          exact Or.inr ⟨_, q, k'', rfl, e⟩
    · show 100 - (nI _).toNatClampNeg < N_
      omega
    · exact ⟨0, k, Nat.zero_le _, rfl, rfl, hk, hR⟩
  exact ⟨key.1, a3, b2, a2, key.2⟩
def fpR (R : pR) (u : Int32 × Int32 × Int32 × Int32) : Prop := R = none ∨ ∃ p f q k, u = (nI p, kI k, nI f, nI q) ∧ R = some (p, f, q, k)
theorem k_findProd {N_ n rl to s i j c0 : Nat} {gh gi gc rt vCn vCc : Nat → Int32} {lv : Nat → Nat} {k : Option Nat} {X Y : Int32} (hN : 1000 ≤ N_) (hg : gOK n gh gi gc) (hl : lvOK n gh gi lv) (hr : rl ≤ 24) (hto : to ≤ rl) (hj : j ≤ to) (hC : colOK n to gh gi gc rt vCn vCc) (hij : i < j) (hk : kOK k) (hc0 : c0 ≤ 2000000) :
    fpR (pkP (some c0) (splE n gh gi gc rt i j) gh gi s i j n 0 k) (f_F_findProduction N_ (nI i) (nI j) (kI k) (nI c0) X Y vCn vCc (nI n) gh gi gc (nI rl) rt (nI s)) ∧ o_F_findProduction N_ (nI i) (nI j) (kI k) (nI c0) X Y vCn vCc (nI n) gh gi gc (nI rl) rt (nI s) := by
  have hn := hg.1
  generalize hR : pkP (some c0) (splE n gh gi gc rt i j) gh gi s i j n 0 k = R
  unfold f_F_findProduction o_F_findProduction
  refine rj_F_findProduction_2 N_ (nI s) (nI i) (nI j) (nI c0) vCn vCc (nI n) gh gi gc (nI rl) rt _ _ (fun x _ _ _ => 100 - x.toNatClampNeg)
    (fun x N _ _ => ∃ p k', p ≤ n ∧ x = nI p ∧ N = kI k' ∧ kOK k' ∧ pkP (some c0) (splE n gh gi gc rt i j) gh gi s i j (n - p) p k' = R) (fpR R) ?_ N_ _ _ _ _ ?_ ?_
  · intro rec reco x N X Y hI ih
    obtain ⟨p, k', hp, rfl, rfl, hk', hP⟩ := hI
    unfold s_F_findProduction_2 os_F_findProduction_2
    simp (disch := omega) only [bd_def, n_le]
    by_cases c : n ≤ p
    · simp only [if_pos c]
      rw [show n - p = 0 by omega] at hP
      exact ⟨Or.inl hP.symm, trivial⟩
    · simp only [if_neg c]
      obtain ⟨e1, o1⟩ := k_head (gh := gh) hn (show p < n by omega)
      rw [e1]
      rw [show n - p = (n - (p + 1)) + 1 by omega] at hP
      unfold pkP at hP
      have hmu : 100 - (nI (p + 1)).toNatClampNeg < 100 - (nI p).toNatClampNeg := by rw [n_clamp (by omega), n_clamp (by omega)]; omega
      by_cases cc : gh p = nI s
      · rw [if_pos cc] at hP
        simp only [if_pos cc]
        obtain ⟨r1, r2⟩ := k_findSplit (N_ := N_) (X := X) (Y := Y) hN hg hl (show p < n by omega) hr hto hj hC hij hk' hc0 R _ hP
        rcases r1 with ⟨r3, k'', r4, r5, r6⟩ | ⟨f, q, k'', r3, r4⟩
        · rw [if_pos r3, if_pos r3, r4, n_1]
          have := ih (nI (p + 1)) (kI k'') (f_F_findSplit N_ (nI i) (nI j) (kI k') (nI c0) X Y vCn vCc (nI n) gi gc (nI rl) rt (nI p)).2.2.1 (f_F_findSplit N_ (nI i) (nI j) (kI k') (nI c0) X Y vCn vCc (nI n) gi gc (nI rl) rt (nI p)).2.2.2 ⟨p + 1, k'', by omega, rfl, rfl, r5, r6⟩ hmu
          exact ⟨this.1, o1, r2, this.2⟩
        · rw [r3]
          simp only [if_neg m10.1]
          exact ⟨Or.inr ⟨p, f, q, k'', rfl, r4⟩, o1, r2, trivial⟩
      · rw [if_neg cc] at hP
        simp only [if_neg cc, n_1]
        have := ih (nI (p + 1)) (kI k') X Y ⟨p + 1, k', by omega, rfl, rfl, hk', hP⟩ hmu
        exact ⟨this.1, o1, this.2⟩
  · show 100 - (0 : Int32).toNatClampNeg < N_
    omega
  · exact ⟨0, k, Nat.zero_le _, rfl, rfl, hk, hR⟩
