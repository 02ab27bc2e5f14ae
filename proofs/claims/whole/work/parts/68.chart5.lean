/-! The class's chart: a part, a column, all columns -/
theorem q_10 : (10 : Int32) = nI 10 := rfl
def sl (f : Nat → vE) (l : List Nat) : vE := l.foldl (fun a p => eA a (f p)) eZ
theorem sl_app {f : Nat → vE} {l : List Nat} {p : Nat} : sl f (l ++ [p]) = eA (sl f l) (f p) := by simp [sl]
theorem sl_range {f : Nat → vE} {n : Nat} : sl f (List.range n) = sm f 0 n := by
  induction n with
  | zero => rfl
  | succ n ih => rw [List.range_succ, sl_app, ih, sm_1, Nat.zero_add]
theorem sl_filter {f : Nat → vE} {P : Nat → Bool} {l : List Nat} (h : ∀ p, P p = false → f p = eZ) : sl f (l.filter P) = sl f l := by
  have key : ∀ (l : List Nat) (a : vE), (l.filter P).foldl (fun a p => eA a (f p)) a = l.foldl (fun a p => eA a (f p)) a := by
    intro l
    induction l with
    | nil => intro a; rfl
    | cons p l ih =>
      intro a
      by_cases c : P p = true
      · rw [List.filter_cons_of_pos c]; exact ih _
      · rw [List.filter_cons_of_neg c, ih, List.foldl_cons, h p (by simpa using c), eA_z]
  exact key l eZ
theorem sl_take {f : Nat → vE} {L : List Nat} {t : Nat} (h : t < L.length) : sl f (L.take (t + 1)) = eA (sl f (L.take t)) (f (L.getD t 0)) := by
  rw [List.take_succ, List.getElem?_eq_getElem h]
  simp only [Option.toList]
  rw [sl_app, List.getD_eq_getElem?_getD, List.getElem?_eq_getElem h]; rfl
theorem sl_drop {f : Nat → vE} {L : List Nat} {t : Nat} (h : ∀ q, t ≤ q → q < L.length → f (L.getD q 0) = eZ) (ht : t ≤ L.length) : sl f (L.take t) = sl f L := by
  have key : ∀ d, t + d ≤ L.length → sl f (L.take (t + d)) = sl f (L.take t) := by
    intro d
    induction d with
    | zero => intro _; rfl
    | succ d ih =>
      intro hd
      rw [← Nat.add_assoc, sl_take (by omega), ih (by omega), h (t + d) (by omega) (by omega), eA_z]
  have := key (L.length - t) (by omega)
  rw [show t + (L.length - t) = L.length by omega, List.take_length] at this
  exact this.symm
/-- the order in which productions are added: those of a step's target before it -/
def ordL (n : Nat) (gh gi : Nat → Int32) (L : List Nat) : Prop := L.length = n ∧ (∀ q, q < n → L.getD q 0 < n) ∧ (∀ s, s < 10 → L.filter (fun p => decide (gh p = nI s)) = (List.range n).filter (fun p => decide (gh p = nI s))) ∧ ∀ q, q < n → gi (3 * L.getD q 0 + 1) = -1 → gi (3 * L.getD q 0) < 10 → ∀ q', q ≤ q' → q' < n → gh (L.getD q' 0) ≠ gi (3 * L.getD q 0)
def ordOK (n : Nat) (gh gi vGo : Nat → Int32) : Prop := ∃ L : List Nat, ordL n gh gi L ∧ ∀ q, q < n → vGo q = nI (L.getD q 0)
theorem ord_all {n : Nat} {gh gi gc rt : Nat → Int32} {L : List Nat} (hL : ordL n gh gi L) {tb : Nat → Nat → Nat → vE} {s i j : Nat} (hs : s < 10) : sl (fun p => trm gh gi gc rt tb s p i j) L = bdy n gh gi gc rt tb s i j := by
  have hz : ∀ p, decide (gh p = nI s) = false → trm gh gi gc rt tb s p i j = eZ := by
    intro p hp
    unfold trm; rw [if_neg (of_decide_eq_false hp)]
  rw [← sl_filter (P := fun p => decide (gh p = nI s)) hz, hL.2.2.1 s hs, sl_filter hz, sl_range]; rfl
theorem cN_inj {s a b s' a' b' : Nat} (h : cN s a b = cN s' a' b') (h1 : a < b) (h2 : b ≤ 24) (h3 : a' < b') (h4 : b' ≤ 24) : s = s' ∧ a = a' ∧ b = b' := by
  have h5 : s * 24 + a = s' * 24 + a' ∧ b = b' := by
    unfold cN at h
    generalize s * 24 + a = x at *
    generalize s' * 24 + a' = y at *
    omega
  omega
/-- nothing but one part has changed -/
def frC (i j : Nat) (f f' : Nat → Int32) : Prop := ∀ s a b, a < b → b ≤ 24 → ¬ (a = i ∧ b = j) → f' (cN s a b) = f (cN s a b)
theorem frC_upd {i j s : Nat} {f f' : Nat → Int32} {x : Int32} (h : frC i j f f') (hij : i < j) (hj : j ≤ 24) : frC i j f (upd f' (cN s i j) x) := by
  intro s' a b h1 h2 h3
  rw [n_upd, if_neg (fun e => h3 (by have := cN_inj e h1 h2 hij hj; exact ⟨this.2.1, this.2.2⟩))]
  exact h s' a b h1 h2 h3
theorem k_order {n q : Nat} {vGo : Nat → Int32} (hn : n ≤ 24) (hq : q < n) : f_G_inStepOrder (nI n) vGo (nI q) = vGo q ∧ o_G_inStepOrder (nI n) vGo (nI q) := by
  unfold f_G_inStepOrder o_G_inStepOrder
  simp (disch := omega) only [n_lit, n_lt, n_le, n_clamp]
  rw [if_neg (by omega), if_neg (by omega), if_neg (by omega), if_neg (by omega), if_neg (by omega), if_neg (by omega)]
  exact ⟨rfl, n_in (by omega) (by omega), trivial⟩
theorem trm_G {n : Nat} {gh gi gc rt : Nat → Int32} {lv : Nat → Nat} (hg : gOK n gh gi gc) (hl : lvOK n gh gi lv) {s p i j : Nat} (hp : p < n) (hij : i < j) (hj : j ≤ 24) : eG 2000000 (trm gh gi gc rt (vV n gh gi gc rt) s p i j) := by
  unfold trm
  split
  · refine eG_w (prd_g hg hl hp hij (fun s' i' j' h1 _ h3 h4 _ => vV_g hg hl h1 h3)) ?_
    have := hl.1 (gh p).toNatClampNeg
    unfold lim; omega
  · exact eG_z
def prtOK (n i j : Nat) (gh gi gc rt vCn vCc : Nat → Int32) (r : (Nat → Int32) × (Nat → Int32)) : Prop := frC i j vCn r.1 ∧ frC i j vCc r.2 ∧ ∀ s, s < 10 → hcs r.1 r.2 (vV n gh gi gc rt) s i j
set_option maxHeartbeats 1000000 in
theorem k_fillPart {N_ n rl i j : Nat} {gh gi gc rt vCn vCc vCr vCs vGo : Nat → Int32} {lv : Nat → Nat} (hN : 1000 ≤ N_) (hg : gOK n gh gi gc) (hl : lvOK n gh gi lv) (hO : ordOK n gh gi vGo) (hr : rl ≤ 24) (hj : j ≤ rl) (hij : i < j)
    (hA : ∀ s a b, s < 10 → i ≤ a → a < b → b ≤ j → b - a < j - i → hcs vCn vCc (vV n gh gi gc rt) s a b) (hR : rOK n j (i + 1) gi rt (vV n gh gi gc rt) vCr vCs) :
    prtOK n i j gh gi gc rt vCn vCc (f_C_fillPart N_ vCn vCc vCr vCs (nI n) gh gi gc vGo (nI rl) rt (nI i) (nI j)) ∧ o_C_fillPart N_ vCn vCc vCr vCs (nI n) gh gi gc vGo (nI rl) rt (nI i) (nI j) := by
  have hn := hg.1
  obtain ⟨L, hL, hLo⟩ := hO
  unfold f_C_fillPart o_C_fillPart
  refine rj_C_fillPart_2 (nI i) (nI j) _ _ (fun x _ _ => 100 - x.toNatClampNeg)
    (fun x r c => ∃ s, s ≤ 10 ∧ x = nI s ∧ frC i j vCn r ∧ frC i j vCc c ∧ ∀ s', s' < s → r (cN s' i j) = nI 0 ∧ c (cN s' i j) = -1)
    (prtOK n i j gh gi gc rt vCn vCc) ?_ N_ 0 vCn vCc ?_ ⟨0, by omega, rfl, fun _ _ _ _ _ _ => rfl, fun _ _ _ _ _ _ => rfl, fun s' h => absurd h (Nat.not_lt_zero _)⟩
  · intro rec reco x r c ⟨s, hs, ex, h1, h2, h3⟩ ih
    unfold s_C_fillPart_2 os_C_fillPart_2
    have e10 : ((10 : Int32) ≤ x) = (s = 10) := n_cnt (n := 10) ex hs (by omega)
    simp only [e10]
    by_cases c0 : s = 10
    · simp only [if_pos c0]
      refine rj_C_fillPart_25 N_ (nI i) (nI j) vCr vCs (nI n) gh gi gc vGo (nI rl) rt _ _ (fun x _ _ => 100 - x.toNatClampNeg)
        (fun x r c => ∃ t, t ≤ n ∧ x = nI t ∧ frC i j vCn r ∧ frC i j vCc c ∧ ∀ s, s < 10 → r (cN s i j) = nI (eS (sl (fun p => trm gh gi gc rt (vV n gh gi gc rt) s p i j) (L.take t))).1 ∧ c (cN s i j) = cI (sl (fun p => trm gh gi gc rt (vV n gh gi gc rt) s p i j) (L.take t)).2)
        (prtOK n i j gh gi gc rt vCn vCc) ?_ N_ 0 r c ?_ ⟨0, by omega, rfl, h1, h2, fun s' hs' => h3 s' (by omega)⟩
      · clear ih rec reco h1 h2 h3
        intro rec reco x r c ⟨t, ht, ex, h1, h2, h3⟩ ih
        unfold s_C_fillPart_25 os_C_fillPart_25
        simp only [n_cnt ex ht (by omega)]
        by_cases c1 : t = n
        · simp only [if_pos c1]
          refine ⟨⟨h1, h2, fun s hs => ?_⟩, trivial⟩
          obtain ⟨q1, q2⟩ := h3 s hs
          rw [c1, List.take_of_length_le (show L.length ≤ n by rw [hL.1]; exact Nat.le_refl _), ord_all hL hs] at q1 q2
          show r (cN s i j) = _ ∧ c (cN s i j) = _
          rw [q1, q2, vV_eq hg hl hs hij (by omega)]
          exact ⟨rfl, rfl⟩
        · subst ex
          have htn : t < n := by omega
          obtain ⟨e1, o1⟩ := k_order (vGo := vGo) hn htn
          have hpn := hL.2.1 t htn
          have hst := hL.2.2.2 t htn
          have hgp := (hg.2 _ hpn).1
          obtain ⟨h, eh, eh2, eh3⟩ := n_of hgp.1
          have hh : h < 10 := by omega
          have hbig : ∀ s', eG 2000000 (sl (fun p => trm gh gi gc rt (vV n gh gi gc rt) s' p i j) (L.take t)) := by
            intro s'
            have key : ∀ d, d ≤ n → eG 2000000 (sl (fun p => trm gh gi gc rt (vV n gh gi gc rt) s' p i j) (L.take d)) := by
              intro d
              induction d with
              | zero => intro _; exact eG_z
              | succ d ihd =>
                intro hd
                rw [sl_take (by rw [hL.1]; omega)]
                exact eG_A (ihd (by omega)) (trm_G hg hl (hL.2.1 d (by omega)) hij (by omega))
            exact key t ht
          have hnx : ∀ s', sl (fun p => trm gh gi gc rt (vV n gh gi gc rt) s' p i j) (L.take (t + 1)) = eA (sl (fun p => trm gh gi gc rt (vV n gh gi gc rt) s' p i j) (L.take t)) (trm gh gi gc rt (vV n gh gi gc rt) s' (L.getD t 0) i j) := fun s' => sl_take (by rw [hL.1]; omega)
          obtain ⟨a1, a2⟩ := k_addP (vCn := r) (vCc := c) (acc := sl (fun p => trm gh gi gc rt (vV n gh gi gc rt) h p i j) (L.take t)) hN hg hl hpn hr hj hij
            (fun s a b q1 q2 q3 q4 q5 => by
              have := hA s a b q1 q2 q3 q4 q5
              unfold hcs at *
              rw [h1 s a b q3 (by omega) (by omega), h2 s a b q3 (by omega) (by omega)]; exact this)
            (fun q1 s hs q2 => by
              have q3 := hst q1 (by rw [q2, q_10, n_lt (by omega) (by omega)]; exact hs)
              obtain ⟨q5, q6⟩ := h3 s hs
              rw [sl_drop (fun q q7 q8 => by unfold trm; rw [if_neg (by rw [← q2]; exact q3 q q7 (by rw [hL.1] at q8; exact q8))]) (by rw [hL.1]; omega), ord_all hL hs] at q5 q6
              unfold hcs
              rw [q5, q6, vV_eq hg hl hs hij (by omega)]
              exact ⟨rfl, rfl⟩)
            hR hh eh (hbig h) (h3 h hh).1 (h3 h hh).2
          simp only [if_neg c1, bd_def, e1, hLo t htn, a1]
          have := ih (nI t + 1) (upd r (cN h i j) (nI (eS (eA (sl (fun p => trm gh gi gc rt (vV n gh gi gc rt) h p i j) (L.take t)) (eM (own gc (L.getD t 0)) (prd gi rt (vV n gh gi gc rt) (L.getD t 0) i j)))).1)) (upd c (cN h i j) (cI (eA (sl (fun p => trm gh gi gc rt (vV n gh gi gc rt) h p i j) (L.take t)) (eM (own gc (L.getD t 0)) (prd gi rt (vV n gh gi gc rt) (L.getD t 0) i j))).2)) ⟨t + 1, by omega, n_1, frC_upd h1 hij (by omega), frC_upd h2 hij (by omega), ?_⟩ (by rw [n_1, n_clamp (by omega), n_clamp (by omega)]; omega)
          · exact ⟨this.1, o1, a2, this.2⟩
          · intro s hs
            simp only [n_upd]
            rw [hnx s]
            by_cases c2 : s = h
            · subst c2
              rw [if_pos rfl, if_pos rfl]
              unfold trm
              rw [if_pos eh]; exact ⟨rfl, rfl⟩
            · have c3 : ¬ cN s i j = cN h i j := fun e => c2 (cN_inj e hij (by omega) hij (by omega)).1
              rw [if_neg c3, if_neg c3]
              have c4 : trm gh gi gc rt (vV n gh gi gc rt) s (L.getD t 0) i j = eZ := by
                unfold trm
                rw [if_neg (by rw [eh, n_eq (by omega) (by omega)]; omega)]
              rw [c4, eA_z]
              exact h3 s hs
      · show 100 - (nI 0).toNatClampNeg < N_
        rw [n_clamp (by omega)]; omega
    · subst ex
      obtain ⟨ec, ec2⟩ := k_cell (s := s) (by omega) hij (j := j) (by omega)
      have y1 : ¬ cN s i j < 0 := by omega
      have y2 : ¬ 5760 ≤ cN s i j := by omega
      unfold f_C_write o_C_write
      simp (disch := omega) only [if_neg c0, bd_def, ec, n_lit, n_lt, n_le, n_clamp, n_add, if_neg y1, if_neg y2]
      have := ih (nI (s + 1)) (upd r (cN s i j) (nI 0)) (upd c (cN s i j) (-nI 1)) ⟨s + 1, by omega, rfl, frC_upd h1 hij (by omega), frC_upd h2 hij (by omega), ?_⟩ (by rw [n_clamp (by omega), n_clamp (by omega)]; omega)
      · exact ⟨this.1, ⟨n_in (by omega) (by omega), n_in (by omega) (by omega), trivial⟩, this.2⟩
      · intro s' hs'
        simp only [n_upd]
        by_cases c2 : s' = s
        · subst c2; rw [if_pos rfl, if_pos rfl]; exact ⟨rfl, rfl⟩
        · have c3 : ¬ cN s' i j = cN s i j := fun e => c2 (cN_inj e hij (by omega) hij (by omega)).1
          rw [if_neg c3, if_neg c3]
          exact h3 s' (by omega)
  · show 100 - (nI 0).toNatClampNeg < N_
    rw [n_clamp (by omega)]; omega

theorem n_sub1 {m : Nat} (h : 1 ≤ m) : nI m - 1 = nI (m - 1) := n_sub h
/-- all columns up to here -/
def colOK (n to : Nat) (gh gi gc rt vCn vCc : Nat → Int32) : Prop := ∀ s a b, s < 10 → a < b → b ≤ to → hcs vCn vCc (vV n gh gi gc rt) s a b
set_option maxHeartbeats 1000000 in
theorem k_fillColumn {N_ n rl j : Nat} {gh gi gc rt vCn vCc vCr vCs vGo : Nat → Int32} {lv : Nat → Nat} (hN : 1000 ≤ N_) (hg : gOK n gh gi gc) (hl : lvOK n gh gi lv) (hO : ordOK n gh gi vGo) (hr : rl ≤ 24) (hj : j ≤ rl) (hj0 : 1 ≤ j) (hC : colOK n (j - 1) gh gi gc rt vCn vCc) :
    (fun r : (Nat → Int32) × (Nat → Int32) × (Nat → Int32) × (Nat → Int32) => colOK n j gh gi gc rt r.1 r.2.1) (f_C_fillColumn N_ vCn vCc vCr vCs (nI n) gh gi gc vGo (nI rl) rt (nI j)) ∧ o_C_fillColumn N_ vCn vCc vCr vCs (nI n) gh gi gc vGo (nI rl) rt (nI j) := by
  unfold f_C_fillColumn o_C_fillColumn
  simp only [bd_def]
  obtain ⟨e1, o1⟩ := k_fillRests (vCr := vCr) (vCs := vCs) (vCn := vCn) (vCc := vCc) hN hg hl hr hj hj0 (Nat.le_refl j) (fun s a b _ h1 h2 h3 => by omega) (fun p k _ h1 h2 => by omega)
  generalize f_C_fillRests N_ vCn vCc vCr vCs (nI n) gi (nI rl) rt (nI j) (nI j) = u at *
  suffices h : _ ∧ _ from ⟨h.1, o1, h.2⟩
  refine rj_C_fillColumn_10 N_ (nI j) (nI n) gh gi gc vGo (nI rl) rt _ _ (fun x _ _ _ _ => (x + 1).toNatClampNeg)
    (fun x r c r2 c2 => ∃ m, m ≤ j ∧ x = nI m - 1 ∧ (∀ s a b, s < 10 → a < b → b ≤ j → (b < j ∨ m ≤ a) → hcs r c (vV n gh gi gc rt) s a b) ∧ rOK n j m gi rt (vV n gh gi gc rt) r2 c2)
    (fun r : (Nat → Int32) × (Nat → Int32) × (Nat → Int32) × (Nat → Int32) => colOK n j gh gi gc rt r.1 r.2.1) ?_ N_ (nI j - 1) vCn vCc u.1 u.2 ?_ ⟨j, Nat.le_refl j, rfl, fun s a b h1 h2 h3 h4 => hC s a b h1 h2 (by omega), e1⟩
  · intro rec reco x r c r2 c2 ⟨m, hm, ex, h1, h2⟩ ih
    unfold s_C_fillColumn_10 os_C_fillColumn_10
    by_cases c0 : m = 0
    · have e0 : x < 0 := by rw [ex, c0]; decide
      simp only [if_pos e0]
      exact ⟨fun s a b q1 q2 q3 => h1 s a b q1 q2 q3 (by omega), trivial⟩
    · rw [n_sub1 (by omega)] at ex
      subst ex
      have e0 : ¬ nI (m - 1) < 0 := by rw [n_lt0 (by omega)]; exact id
      simp only [if_neg e0, bd_def]
      obtain ⟨⟨a1, a2, a3⟩, a4⟩ := k_fillPart (i := m - 1) (j := j) (vCn := r) (vCc := c) (vCr := r2) (vCs := c2) hN hg hl hO hr hj (by omega) (fun s a b q1 q2 q3 q4 q5 => h1 s a b q1 q3 q4 (by omega)) (by rw [show m - 1 + 1 = m by omega]; exact h2)
      generalize f_C_fillPart N_ r c r2 c2 (nI n) gh gi gc vGo (nI rl) rt (nI (m - 1)) (nI j) = w at *
      have hh : ∀ s a b, s < 10 → a < b → b ≤ j → (b < j ∨ m - 1 ≤ a) → hcs w.1 w.2 (vV n gh gi gc rt) s a b := by
        intro s a b q1 q2 q3 q4
        by_cases q5 : a = m - 1 ∧ b = j
        · obtain ⟨rfl, rfl⟩ := q5; exact a3 s q1
        · have := h1 s a b q1 q2 q3 (by omega)
          unfold hcs at *
          rw [a1 s a b q2 (by omega) q5, a2 s a b q2 (by omega) q5]; exact this
      obtain ⟨b1, b2⟩ := k_fillRests (k := m - 1) (vCr := r2) (vCs := c2) (vCn := w.1) (vCc := w.2) hN hg hl hr hj hj0 (by omega) (fun s a b q1 q2 q3 q4 => hh s a b q1 q3 q4 (Or.inr q2)) (by rw [show m - 1 + 1 = m by omega]; exact h2)
      have := ih (nI (m - 1) + -1) w.1 w.2 _ _ ⟨m - 1, by omega, by rw [← Int32.sub_eq_add_neg], hh, b1⟩ (by
        have e5 : nI (m - 1) + -1 + 1 = nI (m - 1) := by rw [← Int32.sub_eq_add_neg, Int32.sub_add_cancel]
        rw [e5, n_1, n_clamp (by omega), n_clamp (by omega)]; omega)
      exact ⟨this.1, a4, b2, this.2⟩
  · show (nI j - 1 + 1).toNatClampNeg < N_
    rw [Int32.sub_add_cancel, n_clamp (by omega)]; omega
def maxN (a b : Nat) : Nat := if a < b then b else a
theorem k_fill {N_ n rl fl to : Nat} {gh gi gc rt vCn vCc vCr vCs vGo : Nat → Int32} {lv : Nat → Nat} (hN : 1000 ≤ N_) (hg : gOK n gh gi gc) (hl : lvOK n gh gi lv) (hO : ordOK n gh gi vGo) (hr : rl ≤ 24) (hj : to ≤ rl) (hf : fl ≤ rl) (hC : colOK n fl gh gi gc rt vCn vCc) :
    (fun r : Int32 × (Nat → Int32) × (Nat → Int32) × (Nat → Int32) × (Nat → Int32) => r.1 = nI (maxN fl to) ∧ colOK n (maxN fl to) gh gi gc rt r.2.1 r.2.2.1) (f_C_fill N_ (nI fl) vCn vCc vCr vCs (nI n) gh gi gc vGo (nI rl) rt (nI to)) ∧ o_C_fill N_ (nI fl) vCn vCc vCr vCs (nI n) gh gi gc vGo (nI rl) rt (nI to) := by
  unfold f_C_fill o_C_fill
  refine rj_C_fill_7 N_ (nI to) (nI n) gh gi gc vGo (nI rl) rt _ _ (fun x _ _ _ _ => 100 - x.toNatClampNeg)
    (fun x r c _ _ => ∃ m, fl ≤ m ∧ m ≤ maxN fl to ∧ x = nI (m + 1) ∧ colOK n m gh gi gc rt r c)
    (fun r : Int32 × (Nat → Int32) × (Nat → Int32) × (Nat → Int32) × (Nat → Int32) => r.1 = nI (maxN fl to) ∧ colOK n (maxN fl to) gh gi gc rt r.2.1 r.2.2.1) ?_ N_ (nI fl + 1) vCn vCc vCr vCs ?_ ⟨fl, Nat.le_refl _, by unfold maxN; split <;> omega, n_1, hC⟩
  · intro rec reco x r c r2 c2 ⟨m, hm0, hm, ex, h1⟩ ih
    unfold s_C_fill_7 os_C_fill_7
    subst ex
    have hmx : maxN fl to ≤ 24 := by unfold maxN; split <;> omega
    simp (disch := omega) only [n_lt]
    by_cases c0 : to < m + 1
    · simp only [if_pos c0]
      have e1 : maxN fl to = m := by unfold maxN at *; split at hm <;> split <;> omega
      refine ⟨⟨?_, by rw [e1]; exact h1⟩, trivial⟩
      show (if fl < to then nI to else nI fl) = nI (maxN fl to)
      unfold maxN; split <;> rfl
    · simp only [if_neg c0, bd_def]
      obtain ⟨a1, a2⟩ := k_fillColumn (j := m + 1) (vCn := r) (vCc := c) (vCr := r2) (vCs := c2) hN hg hl hO hr (by omega) (by omega) h1
      generalize f_C_fillColumn N_ r c r2 c2 (nI n) gh gi gc vGo (nI rl) rt (nI (m + 1)) = w at *
      have := ih (nI (m + 1) + 1) w.1 w.2.1 w.2.2.1 w.2.2.2 ⟨m + 1, by omega, by unfold maxN; split <;> omega, n_1, a1⟩ (by rw [n_1, n_clamp (by omega), n_clamp (by omega)]; omega)
      exact ⟨this.1, a2, this.2⟩
  · show 100 - (nI fl + 1).toNatClampNeg < N_
    rw [n_1, n_clamp (by omega)]; omega
