def enF (S : sT) (u : Int32 × (Nat → Int32) × (Nat → Int32) × (Nat → Int32) × (Nat → Int32) × (Nat → Int32)) : Prop := u.1 = nI S.1 ∧ ∀ y, y < S.1 → u.2.1 y = nI (S.2 y).1 ∧ u.2.2.1 y = nI (S.2 y).2.1 ∧ u.2.2.2.1 y = nI (S.2 y).2.2.1 ∧ u.2.2.2.2.1 y = kI (S.2 y).2.2.2.1 ∧ u.2.2.2.2.2 y = nI (S.2 y).2.2.2.2
theorem isSym_0 {x : Int32} (hx : isIt1 x) (h : x = -1 ∨ ¬ x < 10) : f_H_isSymbol x = 0 := by
  refine (e_n9 ?_).2
  intro ⟨q1, q2⟩
  rcases h with rfl | h
  · rw [x_m1] at q1; omega
  · have := x_nlt h; rw [d_10] at this; omega
theorem k_pile {x W : Int32} {fs ff ft fn fd : Nat → Int32} {i j d : Nat} {k : Option Nat} {S : sT} (hx : isIt1 x) (hw : S.1 < 24) (h : enF S (W, fs, ff, ft, fn, fd)) :
    enF (pu x i j k d S) (f_F_pileUp W fs ff ft fn fd x (nI i) (nI j) (kI k) (nI d)) ∧ o_F_pileUp W fs ff ft fn fd x (nI i) (nI j) (kI k) (nI d) := by
  obtain ⟨h1, h2⟩ := h
  have h1 : W = nI S.1 := h1
  subst h1
  unfold f_F_pileUp o_F_pileUp
  simp only [bd_def]
  rcases isIt1_c hx with c | ⟨s, hs, rfl⟩
  · simp only [isSym_0 hx c, if_true]
    rw [pu_no c]
    exact ⟨⟨rfl, h2⟩, trivial⟩
  · have e : f_H_isSymbol (nI s) = 1 := (e_s9 ⟨by rw [n_tI (by omega)]; omega, by rw [n_tI (by omega)]; omega⟩).2
    have c1 : ¬ nI S.1 < 0 := by rw [q_0, n_lt (by omega) (by omega)]; omega
    have c2 : ¬ (24 : Int32) ≤ nI S.1 := by rw [d_24, n_le (by omega) (by omega)]; omega
    have hv : vp_in (nI S.1) 24 := n_in (by omega) hw
    simp only [e, if_neg m10.1, if_neg c1, if_neg c2, n_1]
    rw [pu_yes hs, n_clamp (by omega)]
    refine ⟨⟨rfl, ?_⟩, hv, hv, hv, hv, hv, trivial⟩
    intro y hy
    have hy : y < S.1 + 1 := hy
    show upd fs S.1 (nI s) y = nI (if y = S.1 then (s, i, j, k, d) else S.2 y).1 ∧ upd ff S.1 (nI i) y = nI (if y = S.1 then (s, i, j, k, d) else S.2 y).2.1 ∧ upd ft S.1 (nI j) y = nI (if y = S.1 then (s, i, j, k, d) else S.2 y).2.2.1 ∧ upd fn S.1 (kI k) y = kI (if y = S.1 then (s, i, j, k, d) else S.2 y).2.2.2.1 ∧ upd fd S.1 (nI d) y = nI (if y = S.1 then (s, i, j, k, d) else S.2 y).2.2.2.2
    simp only [n_upd]
    by_cases c : y = S.1
    · simp only [if_pos c]; exact ⟨trivial, trivial, trivial, trivial, trivial⟩
    · simp only [if_neg c]; exact h2 y (by omega)
theorem k_pileItems {n rl to p i f q j d c0 : Nat} {gh gi gc rt vCn vCc : Nat → Int32} {lv : Nat → Nat} {k : Option Nat} {z : Bool} {W : Int32} {fs ff ft fn fd : Nat → Int32} {S : sT} (hg : gOK n gh gi gc) (hl : lvOK n gh gi lv) (hp : p < n) (hr : rl ≤ 24) (hto : to ≤ rl) (hj : j ≤ to) (hC : colOK n to gh gi gc rt vCn vCc) (hs : isSpl gi p i f q j) (hc : chs (some c0) (splE n gh gi gc rt i j p f q) k = true) (hk : goodB z k) (h : enF S (W, fs, ff, ft, fn, fd)) (w0 : S.1 < 24)
    (w1 : (pu (gi (3 * p + 2)) q j (k3 k (itN n gh gi gc rt p 2 q j)) (d + 1) S).1 < 24) (w2 : (pu (gi (3 * p + 1)) f q (k2 k (itN n gh gi gc rt p 1 f q) (itN n gh gi gc rt p 2 q j)) (d + 1) (pu (gi (3 * p + 2)) q j (k3 k (itN n gh gi gc rt p 2 q j)) (d + 1) S)).1 < 24) :
    enF (stp n gh gi gc rt i j d p f q k S) (f_F_pileUpItems W (nI i) (nI j) (kI k) (nI f) (nI q) fs ff ft fn fd vCn (nI n) gi (nI rl) rt (nI p) (nI (d + 1))) ∧ o_F_pileUpItems W (nI i) (nI j) (kI k) (nI f) (nI q) fs ff ft fn fd vCn (nI n) gi (nI rl) rt (nI p) (nI (d + 1)) := by
  have hn := hg.1
  obtain ⟨s1, s2, s3, s4, s5⟩ := isSpl_in hs
  obtain ⟨i0, i1, i2⟩ := gOK_i hg hp
  obtain ⟨e0, o0⟩ := k_item0 (gi := gi) hn hp
  obtain ⟨e1, o1⟩ := k_item1 (gi := gi) hn hp
  obtain ⟨e2, o2⟩ := k_item2 (gi := gi) hn hp
  have hcc : ∀ {a b : Nat}, b ≤ j → ∀ s, s < 10 → ∀ x : Int32, x = nI s → a < b → vCn (cN s a b) = nI (vV n gh gi gc rt s a b).1 := fun hb s hs x _ hab => (hC s _ _ hs hab (by omega)).1
  obtain ⟨t1, u1⟩ := k_trees (rl := rl) (i := f) (j := q) (rt := rt) (vCn := vCn) (tb := vV n gh gi gc rt) i1 hr (by omega) (by omega) (fun s hs e h => hcc s3 s hs _ e h)
  obtain ⟨t2, u2⟩ := k_trees (rl := rl) (i := q) (j := j) (rt := rt) (vCn := vCn) (tb := vV n gh gi gc rt) i2 hr (by omega) (by omega) (fun s hs e h => hcc (Nat.le_refl j) s hs _ e h)
  have t1 : f_C_trees vCn (nI rl) rt (gi (3 * p + 1)) (nI f) (nI q) = nI (itN n gh gi gc rt p 1 f q) := t1
  have t2 : f_C_trees vCn (nI rl) rt (gi (3 * p + 2)) (nI q) (nI j) = nI (itN n gh gi gc rt p 2 q j) := t2
  obtain ⟨b0, b1, b2, b3, b4, b5, b6⟩ := chs_items hg hl hp (show j ≤ 24 by omega) (by omega) s3 hc hk
  have go : ∀ (x3 x2 x1 : Int32), x3 = kI (k3 k (itN n gh gi gc rt p 2 q j)) → x2 = kI (k2 k (itN n gh gi gc rt p 1 f q) (itN n gh gi gc rt p 2 q j)) → x1 = kI (k1 k (itN n gh gi gc rt p 1 f q) (itN n gh gi gc rt p 2 q j)) →
      enF (stp n gh gi gc rt i j d p f q k S) (bd (f_F_pileUp W fs ff ft fn fd (gi (3 * p + 2)) (nI q) (nI j) x3 (nI (d + 1))) fun u_129 => bd (f_F_pileUp u_129.1 u_129.2.1 u_129.2.2.1 u_129.2.2.2.1 u_129.2.2.2.2.1 u_129.2.2.2.2.2 (gi (3 * p + 1)) (nI f) (nI q) x2 (nI (d + 1))) fun u_153 => f_F_pileUp u_153.1 u_153.2.1 u_153.2.2.1 u_153.2.2.2.1 u_153.2.2.2.2.1 u_153.2.2.2.2.2 (gi (3 * p)) (nI i) (nI f) x1 (nI (d + 1))) ∧
      (o_F_pileUp W fs ff ft fn fd (gi (3 * p + 2)) (nI q) (nI j) x3 (nI (d + 1)) ∧ bd (f_F_pileUp W fs ff ft fn fd (gi (3 * p + 2)) (nI q) (nI j) x3 (nI (d + 1))) fun u_129 => (o_F_pileUp u_129.1 u_129.2.1 u_129.2.2.1 u_129.2.2.2.1 u_129.2.2.2.2.1 u_129.2.2.2.2.2 (gi (3 * p + 1)) (nI f) (nI q) x2 (nI (d + 1)) ∧ bd (f_F_pileUp u_129.1 u_129.2.1 u_129.2.2.1 u_129.2.2.2.1 u_129.2.2.2.2.1 u_129.2.2.2.2.2 (gi (3 * p + 1)) (nI f) (nI q) x2 (nI (d + 1))) fun u_153 => o_F_pileUp u_153.1 u_153.2.1 u_153.2.2.1 u_153.2.2.2.1 u_153.2.2.2.2.1 u_153.2.2.2.2.2 (gi (3 * p)) (nI i) (nI f) x1 (nI (d + 1)))) := by
    intro x3 x2 x1 h3 h2 h1
    subst h3; subst h2; subst h1
    simp only [bd_def]
    obtain ⟨r1, r2⟩ := k_pile (i := q) (j := j) (d := d + 1) (k := k3 k (itN n gh gi gc rt p 2 q j)) i2 w0 h
    obtain ⟨r3, r4⟩ := k_pile (i := f) (j := q) (d := d + 1) (k := k2 k (itN n gh gi gc rt p 1 f q) (itN n gh gi gc rt p 2 q j)) i1 w1 r1
    obtain ⟨r5, r6⟩ := k_pile (i := i) (j := f) (d := d + 1) (k := k1 k (itN n gh gi gc rt p 1 f q) (itN n gh gi gc rt p 2 q j)) i0 w2 r3
    exact ⟨r5, r2, r4, r6⟩
  unfold f_F_pileUpItems o_F_pileUpItems
  simp only [bd_def, e0, e1, e2, t1, t2]
  simp only [bd_def] at go
  cases k with
  | none =>
    have e : kI none = -1 := rfl
    simp only [e, if_true]
    obtain ⟨g1, g2, g3, g4⟩ := go (-1) (-1) (-1) rfl rfl rfl
    exact ⟨g1, o1, u1, o2, u2, o2, g2, o1, g3, o0, g4, trivial⟩
  | some m =>
    have hm := (b6 m rfl).1
    have e : kI (some m) = nI m := rfl
    have e' : ¬ nI m = -1 := by
      intro q
      have := x_eq q
      rw [n_tI (by omega), x_m1] at this; omega
    have c1 : ¬ nI (itN n gh gi gc rt p 1 f q) ≤ 0 := by rw [q_0, n_le (by omega) (by omega)]; omega
    have c2 : ¬ nI (itN n gh gi gc rt p 2 q j) ≤ 0 := by rw [q_0, n_le (by omega) (by omega)]; omega
    have c3 : ¬ nI (itN n gh gi gc rt p 1 f q) = 0 := by rw [q_0, n_eq (by omega) (by omega)]; omega
    have c4 : ¬ nI (itN n gh gi gc rt p 2 q j) = 0 := by rw [q_0, n_eq (by omega) (by omega)]; omega
    simp only [e, if_neg e', if_neg c1, if_neg c2]
    obtain ⟨g1, g2, g3, g4⟩ := go _ _ _ (kI_3 hm b5) (kI_2 hm b4 b5) (kI_1 hm b4 b5)
    exact ⟨g1, o1, u1, o2, u2, c4, c4, c3, c4, c3, o2, g2, o1, g3, o0, g4, trivial⟩
theorem d_470 : (470 : Int32) = nI 470 := rfl
theorem k_grow {c p i j d : Nat} {v vTf : Nat → Int32} (hc : c < 470) (hv : ∀ y, y < 4 * c → vTf y = v y) : (f_T_grow (nI c) vTf (nI p) (nI i) (nI j) (nI d)).1 = nI (c + 1) ∧ (∀ y, y < 4 * (c + 1) → (f_T_grow (nI c) vTf (nI p) (nI i) (nI j) (nI d)).2 y = nodU v c p i j d y) ∧ o_T_grow (nI c) vTf (nI p) (nI i) (nI j) (nI d) := by
  have e : nI c * 4 = nI (4 * c) := by show nI c * nI 4 = _; rw [n_mul, Nat.mul_comm]
  have e2 : nI (4 * c) + 2 = nI (4 * c + 2) := n_p2
  have e3 : nI (4 * c) + 3 = nI (4 * c + 3) := by show _ + nI 3 = _; rw [n_add]
  have c1 : ¬ (470 : Int32) ≤ nI c := by rw [d_470, n_le (by omega) (by omega)]; omega
  unfold f_T_grow o_T_grow nodU
  simp only [if_neg c1, e, n_1, e2, e3]
  rw [n_clamp (by omega), n_clamp (by omega), n_clamp (by omega), n_clamp (by omega)]
  refine ⟨trivial, ?_, n_in (by omega) (by omega), n_in (by omega) (by omega), n_in (by omega) (by omega), n_in (by omega) (by omega), trivial⟩
  intro y hy
  simp only [n_upd]
  by_cases q3 : y = 4 * c + 3
  · rw [if_pos q3, if_pos q3]
  · rw [if_neg q3, if_neg q3]
    by_cases q2 : y = 4 * c + 2
    · rw [if_pos q2, if_pos q2]
    · rw [if_neg q2, if_neg q2]
      by_cases q1 : y = 4 * c + 1
      · rw [if_pos q1, if_pos q1]
      · rw [if_neg q1, if_neg q1]
        by_cases q0 : y = 4 * c
        · rw [if_pos q0, if_pos q0]
        · rw [if_neg q0, if_neg q0]; exact hv y (by omega)
/-- what the class's find leaves: the nodes of R -/
def fnR (R : Nat × (Nat → Int32)) (u : Int32 × Int32 × Int32 × Int32 × Int32 × Int32 × Int32 × (Nat → Int32) × (Nat → Int32) × (Nat → Int32) × (Nat → Int32) × (Nat → Int32) × Int32 × (Nat → Int32)) : Prop := R.1 ≤ 470 ∧ u.2.2.2.2.2.2.2.2.2.2.2.2.1 = nI R.1 ∧ ∀ y, y < 4 * R.1 → u.2.2.2.2.2.2.2.2.2.2.2.2.2 y = R.2 y
/-- the first stack -/
def sB (s i j : Nat) (k : Option Nat) : sT := (1, fun _ => (s, i, j, k, 0))
theorem sB_ok {n to s i j : Nat} {gh gi gc rt : Nat → Int32} {lv : Nat → Nat} {k : Option Nat} (hl : lvOK n gh gi lv) (hs : s < 10) (hij : i < j) (hj : j ≤ to) (hto : to ≤ 24) (hk : thr n gh gi gc rt s i j k) : sOK n gh gi gc rt lv to 0 (sB s i j k) := by
  refine ⟨fun y hy => ⟨hs, hij, hj, hk⟩, ?_, ?_⟩
  · show 0 + (j - i) ≤ 24
    omega
  · have := hl.1 s
    show 0 + (0 + (20 * (j - i) - 19 + lv s)) ≤ 470
    omega
theorem k_find {N_ n rl to s i j : Nat} {gh gi gc rt vCn vCc : Nat → Int32} {lv : Nat → Nat} {k : Option Nat} {W B E Nn L X Y TS : Int32} {fs ff ft fn fd Tf v0 : Nat → Int32} (hN : 1000 ≤ N_) (hg : gOK n gh gi gc) (hl : lvOK n gh gi lv) (hr : rl ≤ 24) (hto : to ≤ rl) (hj : j ≤ to) (hC : colOK n to gh gi gc rt vCn vCc) (hs : s < 10) (hij : i < j) (hk : thr n gh gi gc rt s i j k) :
    fnR (run n gh gi gc rt 470 (sB s i j k) 0 v0) (f_F_find N_ W B E Nn L X Y fs ff ft fn fd TS Tf vCn vCc (nI n) gh gi gc (nI rl) rt (nI s) (nI i) (nI j) (kI k)) ∧ o_F_find N_ W B E Nn L X Y fs ff ft fn fd TS Tf vCn vCc (nI n) gh gi gc (nI rl) rt (nI s) (nI i) (nI j) (kI k) := by
  have hn := hg.1
  have hsO := sB_ok (to := to) (gc := gc) (rt := rt) hl hs hij hj (by omega) hk
  generalize hR : run n gh gi gc rt 470 (sB s i j k) 0 v0 = R
  have hx : isIt1 (nI s) := Or.inr ⟨by rw [n_tI (by omega)]; omega, by rw [n_tI (by omega)]; omega⟩
  obtain ⟨p1, p2⟩ := k_pile (W := 0) (fs := fs) (ff := ff) (ft := ft) (fn := fn) (fd := fd) (i := i) (j := j) (d := 0) (k := k) (S := (0, fun _ => (s, i, j, k, 0))) hx (by show 0 < 24; omega) ⟨rfl, fun y hy => absurd hy (Nat.not_lt_zero y)⟩
  rw [pu_yes hs] at p1
  have p1 : enF (sB s i j k) (f_F_pileUp 0 fs ff ft fn fd (nI s) (nI i) (nI j) (kI k) (nI 0)) := by
    refine ⟨p1.1, fun y hy => ?_⟩
    have := p1.2 y hy
    have hy : y < 1 := hy
    have ey : y = 0 := by omega
    subst ey
    exact this
  have p1 : enF (sB s i j k) (f_F_pileUp 0 fs ff ft fn fd (nI s) (nI i) (nI j) (kI k) 0) := p1
  unfold f_F_find o_F_find f_T_forget
  simp only [bd_def]
  refine And.imp id (fun h => ⟨p2, h⟩) ?_
  refine rj_F_find_23 N_ vCn vCc (nI n) gh gi gc (nI rl) rt _ _ (fun x _ _ _ _ _ _ _ _ _ _ _ _ _ _ => 500 - x.toNatClampNeg)
    (fun x W _ _ _ _ _ _ fs ff ft fn fd TS Tf => ∃ S c v, x = nI c ∧ TS = nI c ∧ enF S (W, fs, ff, ft, fn, fd) ∧ sOK n gh gi gc rt lv to c S ∧ (∀ y, y < 4 * c → Tf y = v y) ∧ run n gh gi gc rt (470 - c) S c v = R) (fnR R) ?_ N_ _ _ _ _ _ _ _ _ _ _ _ _ _ _ _ ?_ ?_
  · intro rec reco x W B E Nn L X Y fs ff ft fn fd TS Tf hI ih
    obtain ⟨S, c, v, rfl, rfl, hE, hS, hv, hQ⟩ := hI
    have hc470 : c ≤ 470 := by have := hS.2.2; omega
    have hfin : S.1 = 0 → fnR R (W, B, E, Nn, L, X, Y, fs, ff, ft, fn, fd, nI c, Tf) := by
      intro h0
      rw [run_0 h0] at hQ
      subst hQ
      exact ⟨hc470, rfl, hv⟩
    unfold s_F_find_23 os_F_find_23
    have eW : W = nI S.1 := hE.1
    subst eW
    by_cases h0 : S.1 = 0
    · have cW : nI S.1 ≤ 0 := by rw [h0]; decide
      by_cases cx : (470 : Int32) ≤ nI c
      · simp only [if_pos cx]; exact ⟨hfin h0, trivial⟩
      · simp only [if_neg cx, if_pos cW]; exact ⟨hfin h0, trivial⟩
    · generalize he : S.2 (S.1 - 1) = e
      obtain ⟨s', i', j', k', d'⟩ := e
      obtain ⟨⟨a1, a2, a3, a4⟩, a5, a6, p, f, q, k'', c0, b1, b2, b3, b4, b5, b6, b7, b8, b9, b10⟩ := stp_ok hg hl (show to ≤ 24 by omega) hS h0 he
      have cx : ¬ (470 : Int32) ≤ nI c := by rw [d_470, n_le (by omega) (by omega)]; omega
      have cW : ¬ nI S.1 ≤ 0 := by rw [q_0, n_le (by omega) (by omega)]; omega
      have c24 : ¬ (24 : Int32) < nI S.1 := by rw [d_24, n_lt (by omega) (by omega)]; omega
      have eT : nI S.1 - 1 = nI (S.1 - 1) := by show nI S.1 - nI 1 = _; rw [n_sub (by omega)]
      have hvp : vp_in (nI (S.1 - 1)) 24 := n_in (by omega) (by omega)
      obtain ⟨v1, v2, v3, v4, v5⟩ := hE.2 (S.1 - 1) (by omega)
      rw [he] at v1 v2 v3 v4 v5
      have v1 : fs (S.1 - 1) = nI s' := v1
      have v2 : ff (S.1 - 1) = nI i' := v2
      have v3 : ft (S.1 - 1) = nI j' := v3
      have v4 : fn (S.1 - 1) = kI k' := v4
      have v5 : fd (S.1 - 1) = nI d' := v5
      have hx' : isIt1 (nI s') := Or.inr ⟨by rw [n_tI (by omega)]; omega, by rw [n_tI (by omega)]; omega⟩
      obtain ⟨l1, l2⟩ := k_cost (i := i') (j := j') (rt := rt) (vCc := vCc) (tb := vV n gh gi gc rt) hx' (by omega) (by omega) (fun t ht et hh => (hC t _ _ ht hh a3).2)
      have eit : itE rt (vV n gh gi gc rt) (nI s') i' j' = vV n gh gi gc rt s' i' j' := by
        unfold itE
        rw [if_neg, if_pos, if_pos a2, n_clamp (by omega)]
        · rw [q_10, n_lt (by omega) (by omega)]; exact a1
        · intro q; have := x_eq q; rw [n_tI (by omega), x_m1] at this; omega
      rw [eit] at l1
      have l1 := l1 a4.1
      rw [b4] at l1
      have l1 : f_C_leastCost vCc (nI s') (nI i') (nI j') = nI c0 := l1
      obtain ⟨r1, r2⟩ := k_findProd (N_ := N_) (s := s') (i := i') (j := j') (c0 := c0) (k := k') (X := X) (Y := Y) hN hg hl hr hto a3 hC a2 (fun m em => (a4.2 m em).2) b5
      have hpk : pkP (some c0) (splE n gh gi gc rt i' j') gh gi s' i' j' n 0 k' = some (p, f, q, k'') := by rw [← b1]; unfold pick; rw [b4]
      rw [hpk] at r1
      have r1 : f_F_findProduction N_ (nI i') (nI j') (kI k') (nI c0) X Y vCn vCc (nI n) gh gi gc (nI rl) rt (nI s') = (nI p, kI k'', nI f, nI q) := by
        rcases r1 with h | ⟨p', f', q', k3', h, h2⟩
        · cases h
        · have := Option.some.inj h2
          simp only [Prod.mk.injEq] at this
          obtain ⟨rfl, rfl, rfl, rfl⟩ := this
          exact h
      have cp : ¬ nI p = -1 := by intro q; have := x_eq q; rw [n_tI (by omega), x_m1] at this; omega
      obtain ⟨g1, g2, g3⟩ := k_grow (p := p) (i := i') (j := j') (d := d') a5 hv
      obtain ⟨t1, t2⟩ := k_pileItems (W := nI (S.1 - 1)) (fs := fs) (ff := ff) (ft := ft) (fn := fn) (fd := fd) (S := (S.1 - 1, S.2)) hg hl b2 hr hto a3 hC b3 b6 b7 ⟨rfl, fun y hy => hE.2 y (by have hy : y < S.1 - 1 := hy; omega)⟩ (by show S.1 - 1 < 24; omega) b9 b10
      simp only [if_neg cx, if_neg cW, if_neg c24, eT, n_clamp (show S.1 - 1 < 2147483648 by omega), v1, v2, v3, v4, v5, bd_def, l1, r1, if_neg cp, n_1]
      have := ih (nI (c + 1)) _ (nI i') (nI j') (kI k'') (nI c0) (nI f) (nI q) _ _ _ _ _ _ _ ⟨stp n gh gi gc rt i' j' d' p f q k'' (S.1 - 1, S.2), c + 1, nodU v c p i' j' d', rfl, g1, t1, b8, g2, (by
          rw [show 470 - c = (470 - (c + 1)) + 1 by omega] at hQ
          unfold run at hQ
          rw [if_neg h0, he] at hQ
          simp only [b1] at hQ
          exact hQ)⟩ (by
        show 500 - (nI (c + 1)).toNatClampNeg < 500 - (nI c).toNatClampNeg
        rw [n_clamp (by omega), n_clamp (by omega)]; omega)
      exact ⟨this.1, hvp, hvp, hvp, hvp, l2, hvp, hvp, r2, g3, t2, this.2⟩
  · show 500 - (0 : Int32).toNatClampNeg < N_
    omega
  · exact ⟨sB s i j k, 0, v0, rfl, rfl, p1, hsO, fun y hy => absurd hy (Nat.not_lt_zero y), hR⟩
