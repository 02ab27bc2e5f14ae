def enM (S : sT) (u : Int32 × (Nat → Int32)) : Prop := u.1 = nI S.1 ∧ ∀ y, y < S.1 → u.2 (5 * y) = nI (S.2 y).1 ∧ u.2 (5 * y + 1) = nI (S.2 y).2.1 ∧ u.2 (5 * y + 2) = nI (S.2 y).2.2.1 ∧ u.2 (5 * y + 3) = kI (S.2 y).2.2.2.1 ∧ u.2 (5 * y + 4) = nI (S.2 y).2.2.2.2
theorem n_p3 {n : Nat} : nI n + 3 = nI (n + 3) := by show nI n + nI 3 = _; rw [n_add]
theorem n_p4 {n : Nat} : nI n + 4 = nI (n + 4) := by show nI n + nI 4 = _; rw [n_add]
theorem n_5x {n : Nat} : 5 * nI n = nI (5 * n) := by show nI 5 * nI n = _; rw [n_mul]
theorem n_4x {n : Nat} : 4 * nI n = nI (4 * n) := by show nI 4 * nI n = _; rw [n_mul]
theorem n_d1 {a : Nat} (h : a < 2147483648) : nI a / 1 = nI a := by
  show nI a / nI 1 = _
  rw [n_div h (by omega), Nat.div_one]
theorem q_asks {s w i j d : Nat} {k : Option Nat} {mo : Nat → Int32} {S : sT} (hs : s < 10) (hw : S.1 < 1999) (h : enM S (nI S.1, mo)) :
    enM (pu (nI s) i j k d S) (f_M_asks (nI S.1) mo (nI s) (nI i) (nI j) (kI k) (nI d)) ∧ o_M_asks (nI S.1) mo (nI s) (nI i) (nI j) (kI k) (nI d) := by
  unfold f_M_asks o_M_asks
  simp only [n_5x, n_1, n_p2, n_p3, n_p4]
  rw [pu_yes hs, n_clamp (by omega), n_clamp (by omega), n_clamp (by omega), n_clamp (by omega), n_clamp (by omega)]
  refine ⟨⟨rfl, ?_⟩, n_in (by omega) (by omega), n_in (by omega) (by omega), n_in (by omega) (by omega), n_in (by omega) (by omega), n_in (by omega) (by omega), trivial⟩
  intro y hy
  have hy : y < S.1 + 1 := hy
  show upd (upd (upd (upd (upd mo (5 * S.1) (nI s)) (5 * S.1 + 1) (nI i)) (5 * S.1 + 2) (nI j)) (5 * S.1 + 3) (kI k)) (5 * S.1 + 4) (nI d) (5 * y) = nI (if y = S.1 then (s, i, j, k, d) else S.2 y).1 ∧ upd (upd (upd (upd (upd mo (5 * S.1) (nI s)) (5 * S.1 + 1) (nI i)) (5 * S.1 + 2) (nI j)) (5 * S.1 + 3) (kI k)) (5 * S.1 + 4) (nI d) (5 * y + 1) = nI (if y = S.1 then (s, i, j, k, d) else S.2 y).2.1 ∧ upd (upd (upd (upd (upd mo (5 * S.1) (nI s)) (5 * S.1 + 1) (nI i)) (5 * S.1 + 2) (nI j)) (5 * S.1 + 3) (kI k)) (5 * S.1 + 4) (nI d) (5 * y + 2) = nI (if y = S.1 then (s, i, j, k, d) else S.2 y).2.2.1 ∧ upd (upd (upd (upd (upd mo (5 * S.1) (nI s)) (5 * S.1 + 1) (nI i)) (5 * S.1 + 2) (nI j)) (5 * S.1 + 3) (kI k)) (5 * S.1 + 4) (nI d) (5 * y + 3) = kI (if y = S.1 then (s, i, j, k, d) else S.2 y).2.2.2.1 ∧ upd (upd (upd (upd (upd mo (5 * S.1) (nI s)) (5 * S.1 + 1) (nI i)) (5 * S.1 + 2) (nI j)) (5 * S.1 + 3) (kI k)) (5 * S.1 + 4) (nI d) (5 * y + 4) = nI (if y = S.1 then (s, i, j, k, d) else S.2 y).2.2.2.2
  simp only [upd]
  by_cases c : y = S.1
  · subst c
    simp only [if_true]
    refine ⟨?_, ?_, ?_, ?_, trivial⟩
    · rw [if_neg (by omega), if_neg (by omega), if_neg (by omega), if_neg (by omega)]
    · rw [if_neg (by omega), if_neg (by omega), if_neg (by omega)]
    · rw [if_neg (by omega), if_neg (by omega)]
    · rw [if_neg (by omega)]
  · simp only [if_neg c]
    obtain ⟨h1, h2, h3, h4, h5⟩ := h.2 y (by show y < S.1; omega)
    refine ⟨?_, ?_, ?_, ?_, ?_⟩ <;> rw [if_neg (by omega), if_neg (by omega), if_neg (by omega), if_neg (by omega), if_neg (by omega)]
    · exact h1
    · exact h2
    · exact h3
    · exact h4
    · exact h5
theorem q_asksItem {x W : Int32} {i j d : Nat} {k : Option Nat} {mo : Nat → Int32} {S : sT} (hx : isIt x) (hw : S.1 < 1999) (h : enM S (W, mo)) :
    enM (pu x i j k d S) (f_M_asksItem W mo x (nI i) (nI j) (kI k) (nI d)) ∧ o_M_asksItem W mo x (nI i) (nI j) (kI k) (nI d) := by
  have h1 : W = nI S.1 := h.1
  subst h1
  unfold f_M_asksItem o_M_asksItem
  by_cases c : x < 10
  · obtain ⟨s, hs, rfl⟩ := isIt_sym hx c
    have c' : ¬ (10 : Int32) ≤ nI s := by rw [q_10, n_le (by omega) (by omega)]; omega
    simp only [if_neg c', bd_def]
    obtain ⟨r1, r2⟩ := q_asks (w := 0) (i := i) (j := j) (d := d) (k := k) hs hw h
    exact ⟨r1, r2, trivial⟩
  · have c' : (10 : Int32) ≤ x := Int32.le_iff_toInt_le.mpr (x_nlt c)
    simp only [if_pos c']
    rw [pu_no (Or.inr c)]
    exact ⟨h, trivial⟩
theorem num_eq {A B C m : Nat} (hB : B ≠ 0) (hC : C ≠ 0) (hm : m < 1000000) : m < A * (B * C) → m % satN (B * C) % C = m % C ∧ m % satN (B * C) / C = m / C % B ∧ m / satN (B * C) = m / C / B := by
  intro h
  unfold satN
  split
  · refine ⟨Nat.mod_mul_left_mod m B C, ?_, ?_⟩
    · rw [Nat.mul_comm, Nat.mod_mul_right_div_self]
    · rw [Nat.div_div_eq_div_mul, Nat.mul_comm]
  · rename_i c
    have e1 : m % 1000000000 = m := Nat.mod_eq_of_lt (by omega)
    have e2 : m / C < B := Nat.div_lt_of_lt_mul (by rw [Nat.mul_comm]; omega)
    rw [e1]
    refine ⟨rfl, (Nat.mod_eq_of_lt e2).symm, ?_⟩
    rw [Nat.div_eq_of_lt (show m < 1000000000 by omega), Nat.div_eq_of_lt e2]
theorem nodU_c {a b : Nat → Int32} {c p i j d : Nat} (h : ∀ y, y < 4 * c → a y = b y) : ∀ y, y < 4 * (c + 1) → nodU a c p i j d y = nodU b c p i j d y := by
  intro y hy
  unfold nodU
  simp only [n_upd]
  by_cases q3 : y = 4 * c + 3
  · rw [if_pos q3, if_pos q3]
  · rw [if_neg q3, if_neg q3]
    by_cases q2 : y = 4 * c + 2
    · rw [if_pos q2, if_pos q2]
    · rw [if_neg q2, if_neg q2]
      by_cases q1 : y = 4 * c + 1
      · rw [if_pos q1, if_pos q1]
      · rw [if_neg q1, if_neg q1]
        by_cases q0 : y = 4 * c
        · rw [if_pos q0, if_pos q0]
        · rw [if_neg q0, if_neg q0]; exact h y (by omega)
def oneR (S' : sT) (c : Nat) (v : Nat → Int32) (u : Int32 × Int32 × Int32 × Int32 × (Nat → Int32) × (Nat → Int32)) : Prop := u.1 = nI (c + 1) ∧ enM S' (u.2.1, u.2.2.2.2.2) ∧ ∀ y, y < 4 * (c + 1) → u.2.2.2.2.1 y = v y
theorem itN_1 {n p c a : Nat} {gh gi gc rt : Nat → Int32} (h : gi (3 * p + c) = -1) : itN n gh gi gc rt p c a a = 1 := by
  unfold itN; rw [h, itE_m1]; rfl
theorem q_one {N_ n rl c s i j d p f q c0 : Nat} {gh gi gc rt vMn vMl mo me v : Nat → Int32} {lv : Nat → Nat} {k k' : Option Nat} {S : sT} {F G : Int32} (hN : 2000 ≤ N_) (hg : gOK n gh gi gc) (hl : lvOK n gh gi lv) (hr : rl ≤ 24) (hM : mOK n rl gh gi gc rt (fun _ _ => True) vMn vMl)
    (hE : enM S (nI S.1, mo)) (hw : S.1 ≠ 0) (he : S.2 (S.1 - 1) = (s, i, j, k, d)) (hs : s < 10) (hij : i < j) (hj : j ≤ rl) (hk : thr n gh gi gc rt s i j k) (hc : c < 470) (hw24 : S.1 ≤ 24) (hpk : pick n gh gi gc rt s i j k = some (p, f, q, k')) (hp : p < n) (hsp : isSpl gi p i f q j) (hc0 : (vV n gh gi gc rt s i j).2 = some c0) (hc0' : c0 ≤ 2000000) (hch : chs (some c0) (splE n gh gi gc rt i j p f q) k' = true) (hgB : goodB k.isNone k')
    (w1 : (pu (gi (3 * p + 2)) q j (k3 k' (itN n gh gi gc rt p 2 q j)) (d + 1) (S.1 - 1, S.2)).1 < 24) (w2 : (pu (gi (3 * p + 1)) f q (k2 k' (itN n gh gi gc rt p 1 f q) (itN n gh gi gc rt p 2 q j)) (d + 1) (pu (gi (3 * p + 2)) q j (k3 k' (itN n gh gi gc rt p 2 q j)) (d + 1) (S.1 - 1, S.2))).1 < 24) (hv : ∀ y, y < 4 * c → me y = v y) :
    oneR (stp n gh gi gc rt i j d p f q k' (S.1 - 1, S.2)) c (nodU v c p i j d) (f_M_one N_ (nI n) (nI c) (nI S.1) F G gh gi gc rt vMn vMl me mo) ∧ o_M_one N_ (nI n) (nI c) (nI S.1) F G gh gi gc rt vMn vMl me mo := by
  have hn := hg.1
  obtain ⟨s1, s2, s3, s4, s5⟩ := isSpl_in hsp
  have hT : tOK i j vMn vMl (vV n gh gi gc rt) := tOK_V hg hl hr hj hM
  have eT : nI S.1 - 1 = nI (S.1 - 1) := by show nI S.1 - nI 1 = _; rw [n_sub (by omega)]
  obtain ⟨v1, v2, v3, v4, v5⟩ := hE.2 (S.1 - 1) (by show S.1 - 1 < S.1; omega)
  rw [he] at v1 v2 v3 v4 v5
  have v1 : mo (5 * (S.1 - 1)) = nI s := v1
  have v2 : mo (5 * (S.1 - 1) + 1) = nI i := v2
  have v3 : mo (5 * (S.1 - 1) + 2) = nI j := v3
  have v4 : mo (5 * (S.1 - 1) + 3) = kI k := v4
  have v5 : mo (5 * (S.1 - 1) + 4) = nI d := v5
  have ebest : vMl (aN s i j) = nI c0 := by
    have := (hT s i j hs (Nat.le_refl i) hij (Nat.le_refl j)).1.2
    rw [hc0] at this; exact this
  have haN : aN s i j < 6250 := by unfold aN; omega
  have hpk' : pkP (some c0) (splE n gh gi gc rt i j) gh gi s i j n 0 k = some (p, f, q, k') := by rw [← hpk]; unfold pick; rw [hc0]
  unfold f_M_one o_M_one
  simp only [eT, n_5x, n_1, n_p2, n_p3, n_p4, n_4x, n_clamp (show 5 * (S.1 - 1) < 2147483648 by omega), n_clamp (show 5 * (S.1 - 1) + 1 < 2147483648 by omega), n_clamp (show 5 * (S.1 - 1) + 2 < 2147483648 by omega), n_clamp (show 5 * (S.1 - 1) + 3 < 2147483648 by omega), n_clamp (show 5 * (S.1 - 1) + 4 < 2147483648 by omega), n_clamp (show 4 * c < 2147483648 by omega), n_clamp (show 4 * c + 1 < 2147483648 by omega), n_clamp (show 4 * c + 2 < 2147483648 by omega), n_clamp (show 4 * c + 3 < 2147483648 by omega), v1, v2, v3, v4, v5, bd_def, q_at, n_clamp (show aN s i j < 2147483648 by omega), ebest]
  refine And.imp id (fun h => ⟨n_in (by omega) (by omega), n_in (by omega) (by omega), n_in (by omega) (by omega), n_in (by omega) (by omega), n_in (by omega) (by omega), n_in (by omega) haN, h⟩) (q_o99 hN hg hij (show j ≤ 24 by omega) hT (fun m em => (hk.2 m em).2) hc0' hpk' hp _ _ (oneR (stp n gh gi gc rt i j d p f q k' (S.1 - 1, S.2)) c (nodU v c p i j d)) ?_)
  intro x8
  obtain ⟨i0, i1, i2⟩ := gOK_i hg hp
  obtain ⟨el, ol⟩ := q_len (gi := gi) (show p < 24 by omega)
  obtain ⟨b0, b1, b2, b3, b4, b5, b6⟩ := chs_items hg hl hp (show j ≤ 24 by omega) (by omega) s3 hch hgB
  have hi0 : isIt (gi (3 * p)) := (hg.2 p hp).2.1
  have hnod : ∀ y, y < 4 * (c + 1) → nodU me c p i j d y = nodU v c p i j d y := nodU_c hv
  have g0 : vp_in (nI (4 * c)) 4000 := n_in (by omega) (by omega)
  have g1 : vp_in (nI (4 * c + 1)) 4000 := n_in (by omega) (by omega)
  have g2 : vp_in (nI (4 * c + 2)) 4000 := n_in (by omega) (by omega)
  have g3 : vp_in (nI (4 * c + 3)) 4000 := n_in (by omega) (by omega)
  have y0 : vp_in (nI (3 * p)) 72 := n_in (by omega) (by omega)
  have y1 : vp_in (nI (3 * p + 1)) 72 := n_in (by omega) (by omega)
  have y2 : vp_in (nI (3 * p + 2)) 72 := n_in (by omega) (by omega)
  have hE0 : enM (S.1 - 1, S.2) (nI (S.1 - 1), mo) := ⟨rfl, fun y hy => hE.2 y (by have hy : y < S.1 - 1 := hy; show y < S.1; omega)⟩
  simp only [el, n_3x, n_1, n_p2, n_clamp (show 3 * p < 2147483648 by omega), n_clamp (show 3 * p + 1 < 2147483648 by omega), n_clamp (show 3 * p + 2 < 2147483648 by omega)]
  obtain ⟨z1, z2, z3, z4, z5, z6⟩ := nle_1
  have hkn : ∀ m, k' = some m → m < 1000000 ∧ (0 : Int32) ≤ nI m := fun m em => ⟨(b6 m em).1, kI_pos (by have := (b6 m em).1; omega)⟩
  by_cases x1 : gi (3 * p + 1) = -1
  · have x2 := gOK_2 hg hp x1
    have eln : lnN gi p = 1 := by unfold lnN; rw [if_pos x1]
    unfold isSpl at hsp
    rw [if_pos x1] at hsp
    obtain ⟨ef, eq, -⟩ := hsp
    subst ef; subst eq
    have eB : itN n gh gi gc rt p 1 q q = 1 := itN_1 x1
    have eC : itN n gh gi gc rt p 2 q q = 1 := itN_1 x2
    have est : stp n gh gi gc rt i q d p q q k' (S.1 - 1, S.2) = pu (gi (3 * p)) i q (k1 k' 1 1) (d + 1) (S.1 - 1, S.2) := by
      unfold stp
      rw [pu_no (x := gi (3 * p + 2)) (Or.inl x2), pu_no (x := gi (3 * p + 1)) (Or.inl x1), eB, eC]
    rw [est, eln]
    simp only [if_pos z5, if_pos z4]
    obtain ⟨t1, t2⟩ := q_asksItem (i := i) (j := q) (k := k1 k' 1 1) (d := d + 1) hi0 (by show S.1 - 1 < 1999; omega) hE0
    cases k' with
    | none =>
      have e : kI none = -1 := rfl
      simp only [e, if_neg kI_neg]
      exact ⟨⟨rfl, t1, hnod⟩, g0, g1, g2, g3, ol, y0, t2, trivial⟩
    | some m =>
      obtain ⟨hm, hm0⟩ := hkn m rfl
      have e : kI (some m) = nI m := rfl
      have e1 : nI m / 1 = kI (k1 (some m) 1 1) := by
        rw [n_d1 (by omega)]
        show nI m = nI (m / 1 / 1)
        rw [Nat.div_one, Nat.div_one]
      simp only [e, if_pos hm0, e1]
      exact ⟨⟨rfl, t1, hnod⟩, g0, g1, g2, g3, ol, y0, t2, trivial⟩
  · have hi1 : isIt (gi (3 * p + 1)) := by rcases i1 with h | h; exact absurd h x1; exact h
    have hfq := s4 x1
    obtain ⟨m1, mo1⟩ := q_many (i := f) (j := q) (rt := rt) (vMn := vMn) (tb := vV n gh gi gc rt) hi1 hfq (by omega) (fun t ht et => (hM t f q ht hfq (by omega) trivial).1)
    have m1 : f_M_many rt vMn (gi (3 * p + 1)) (nI f) (nI q) = nI (itN n gh gi gc rt p 1 f q) := m1
    by_cases x2 : gi (3 * p + 2) = -1
    · have eln : lnN gi p = 2 := by unfold lnN; rw [if_neg x1, if_pos x2]
      unfold isSpl at hsp
      rw [if_neg x1, if_pos x2] at hsp
      obtain ⟨-, -, eq⟩ := hsp
      subst eq
      have eC : itN n gh gi gc rt p 2 q q = 1 := itN_1 x2
      have est : stp n gh gi gc rt i q d p f q k' (S.1 - 1, S.2) = pu (gi (3 * p)) i f (k1 k' (itN n gh gi gc rt p 1 f q) 1) (d + 1) (pu (gi (3 * p + 1)) f q (k2 k' (itN n gh gi gc rt p 1 f q) 1) (d + 1) (S.1 - 1, S.2)) := by
        unfold stp
        rw [pu_no (x := gi (3 * p + 2)) (Or.inl x2), eC]
      rw [pu_no (x := gi (3 * p + 2)) (Or.inl x2), eC] at w2
      have tm : f_M_times (nI (itN n gh gi gc rt p 1 f q)) 1 = nI (itN n gh gi gc rt p 1 f q) := by
        show f_M_times _ (nI 1) = _
        rw [q_times b4 (by omega), Nat.mul_one, sat_id b4]
      rw [est, eln]
      simp only [if_pos z6, if_neg z1, m1, tm]
      generalize itN n gh gi gc rt p 1 f q = B at *
      obtain ⟨t1, t2⟩ := q_asksItem (i := f) (j := q) (k := k2 k' B 1) (d := d + 1) hi1 (by show S.1 - 1 < 1999; omega) hE0
      obtain ⟨t3, t4⟩ := q_asksItem (i := i) (j := f) (k := k1 k' B 1) (d := d + 1) hi0 (by omega) t1
      have nB : ¬ nI B = 0 := by rw [q_0, n_eq (by omega) (by omega)]; omega
      cases k' with
      | none =>
        have e : kI none = -1 := rfl
        simp only [e, if_neg kI_neg]
        exact ⟨⟨rfl, t3, hnod⟩, g0, g1, g2, g3, ol, y1, mo1, y1, t2, y0, t4, trivial⟩
      | some m =>
        obtain ⟨hm, hm0⟩ := hkn m rfl
        have hmB : m % B ≤ m := Nat.mod_le _ _
        have e : kI (some m) = nI m := rfl
        have e2 : (nI m - nI m / nI B * nI B) / 1 = kI (k2 (some m) B 1) := by
          rw [n_mod (by omega) (by omega), n_d1 (by omega)]
          show nI (m % B) = nI (m / 1 % B)
          rw [Nat.div_one]
        have e1 : nI m / nI B = kI (k1 (some m) B 1) := by
          rw [n_div (by omega) (by omega)]
          show nI (m / B) = nI (m / 1 / B)
          rw [Nat.div_one]
        simp only [e, if_pos hm0]
        rw [e2, e1]
        exact ⟨⟨rfl, t3, hnod⟩, g0, g1, g2, g3, ol, y1, mo1, nB, y1, t2, y0, nB, t4, trivial⟩
    · have hi2 : isIt (gi (3 * p + 2)) := by rcases i2 with h | h; exact absurd h x2; exact h
      have hqj := s5 x2 x1
      obtain ⟨m2, mo2⟩ := q_many (i := q) (j := j) (rt := rt) (vMn := vMn) (tb := vV n gh gi gc rt) hi2 hqj (by omega) (fun t ht et => (hM t q j ht hqj (by omega) trivial).1)
      have m2 : f_M_many rt vMn (gi (3 * p + 2)) (nI q) (nI j) = nI (itN n gh gi gc rt p 2 q j) := m2
      have eln : lnN gi p = 3 := by unfold lnN; rw [if_neg x1, if_neg x2]
      have tm : f_M_times (nI (itN n gh gi gc rt p 1 f q)) (nI (itN n gh gi gc rt p 2 q j)) = nI (satN (itN n gh gi gc rt p 1 f q * itN n gh gi gc rt p 2 q j)) := q_times b4 b5
      rw [eln]
      simp only [if_neg z3, if_neg z2, m1, m2, tm]
      unfold stp
      generalize itN n gh gi gc rt p 1 f q = B at *
      generalize itN n gh gi gc rt p 2 q j = C at *
      have hsat : satN (B * C) ≤ 1000000000 := sat_le
      have hsat0 : satN (B * C) ≠ 0 := fun h => by
        rw [sat_0] at h
        rcases Nat.mul_eq_zero.mp h with h | h
        · exact b1 h
        · exact b2 h
      obtain ⟨t1, t2⟩ := q_asksItem (i := q) (j := j) (k := k3 k' C) (d := d + 1) hi2 (by show S.1 - 1 < 1999; omega) hE0
      obtain ⟨t3, t4⟩ := q_asksItem (i := f) (j := q) (k := k2 k' B C) (d := d + 1) hi1 (by omega) t1
      obtain ⟨t5, t6⟩ := q_asksItem (i := i) (j := f) (k := k1 k' B C) (d := d + 1) hi0 (by omega) t3
      have nC : ¬ nI C = 0 := by rw [q_0, n_eq (by omega) (by omega)]; omega
      have nS : ¬ nI (satN (B * C)) = 0 := by rw [q_0, n_eq (by omega) (by omega)]; omega
      cases k' with
      | none =>
        have e : kI none = -1 := rfl
        simp only [e, if_neg kI_neg]
        exact ⟨⟨rfl, t5, hnod⟩, g0, g1, g2, g3, ol, y2, mo2, y1, mo1, y2, t2, y1, t4, y0, t6, trivial⟩
      | some m =>
        obtain ⟨hm, hm0⟩ := hkn m rfl
        obtain ⟨n1, n2, n3⟩ := num_eq b1 b2 hm (b6 m rfl).2
        have hmS : m % satN (B * C) ≤ m := Nat.mod_le _ _
        have e : kI (some m) = nI m := rfl
        have er : nI m - nI m / nI (satN (B * C)) * nI (satN (B * C)) = nI (m % satN (B * C)) := n_mod (by omega) (by omega)
        have e3 : nI (m % satN (B * C)) - nI (m % satN (B * C)) / nI C * nI C = kI (k3 (some m) C) := by
          rw [n_mod (by omega) (by omega), n1]; rfl
        have e2 : nI (m % satN (B * C)) / nI C = kI (k2 (some m) B C) := by
          rw [n_div (by omega) (by omega), n2]; rfl
        have e1 : nI m / nI (satN (B * C)) = kI (k1 (some m) B C) := by
          rw [n_div (by omega) (by omega), n3]; rfl
        simp only [e, if_pos hm0]
        rw [er, e3, e2, e1]
        exact ⟨⟨rfl, t5, hnod⟩, g0, g1, g2, g3, ol, y2, mo2, y1, mo1, nS, y2, nC, t2, y1, nC, t4, y0, nS, t6, trivial⟩
