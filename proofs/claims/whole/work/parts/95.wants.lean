/-! The places where a symbol is wanted, and the tokens that can come next: the reference -/
def chd (m : Nat) (gi : Nat → Int32) (tr : Int32 → Nat → Nat → Prop) (p a : Nat) (x : Int32) (b : Nat) : Prop := b ≤ m ∧ ((x = gi (3 * p) ∧ b = a) ∨ (x = gi (3 * p + 1) ∧ x ≠ -1 ∧ a < b ∧ tr (gi (3 * p)) a b) ∨ (x = gi (3 * p + 2) ∧ x ≠ -1 ∧ ∃ c, a < c ∧ c < b ∧ tr (gi (3 * p)) a c ∧ tr (gi (3 * p + 1)) c b))
def usP (gi : Nat → Int32) (F : Int32) (p : Nat) : Prop := prF gi (fun s => bt F s = true) p
def clW (n m : Nat) (gh gi : Nat → Int32) (F : Int32) (tr : Int32 → Nat → Nat → Prop) (Q : Nat → Nat → Prop) : Prop := Q 0 0 ∧ ∀ a s p b s', a ≤ m → Q a s → p < n → gh p = nI s → usP gi F p → s' < 10 → chd m gi tr p a (nI s') b → Q b s'
def RW (n m : Nat) (gh gi : Nat → Int32) (F : Int32) (tr : Int32 → Nat → Nat → Prop) (a s : Nat) : Prop := ∀ Q, clW n m gh gi F tr Q → Q a s
theorem RW_cl {n m : Nat} {gh gi : Nat → Int32} {F : Int32} {tr : Int32 → Nat → Nat → Prop} : clW n m gh gi F tr (RW n m gh gi F tr) := by
  refine ⟨fun Q h => h.1, ?_⟩
  intro a s p b s' h1 h2 h3 h4 h5 h6 h7 Q hQ
  exact hQ.2 a s p b s' h1 (h2 Q hQ) h3 h4 h5 h6 h7
/-- token t comes next by a production at a wanted place -/
def nxT (n m : Nat) (gh gi : Nat → Int32) (F : Int32) (tr : Int32 → Nat → Nat → Prop) (t : Nat) : Prop := t < 10 ∧ ∃ a s p, a ≤ m ∧ s < 10 ∧ RW n m gh gi F tr a s ∧ p < n ∧ gh p = nI s ∧ usP gi F p ∧ chd m gi tr p a (nI (10 + t)) m
def cntV (w : Nat → Int32) : Nat := cntB (fun k => decide (w k = 1)) 250
def wV (w : Nat → Int32) : Prop := ∀ k, k < 250 → w k = 0 ∨ w k = 1
/-- from one state of (next, news, wanted) to a later one -/
def wSt (X W : Int32) (w : Nat → Int32) (u : Int32 × Int32 × (Nat → Int32)) : Prop := wV u.2.2 ∧ (∀ k, k < 250 → w k = 1 → u.2.2 k = 1) ∧ (∀ t, t < 32 → bt X t = true → bt u.1 t = true) ∧ ((u.2.1 = W ∧ ∀ k, k < 250 → u.2.2 k = w k) ∨ (u.2.1 = 1 ∧ cntV w < cntV u.2.2))
theorem wSt_r {X W : Int32} {w : Nat → Int32} (h : wV w) : wSt X W w (X, W, w) := ⟨h, fun _ _ q => q, fun _ _ q => q, Or.inl ⟨rfl, fun _ _ => rfl⟩⟩
theorem cntV_le {w w' : Nat → Int32} (h : ∀ k, k < 250 → w k = 1 → w' k = 1) : cntV w ≤ cntV w' := cntB_le (fun k hk hb => by
  simp only [decide_eq_true_eq] at hb ⊢
  exact h k hk hb)
theorem wSt_t {X W : Int32} {w : Nat → Int32} {u v : Int32 × Int32 × (Nat → Int32)} (h1 : wSt X W w u) (h2 : wSt u.1 u.2.1 u.2.2 v) : wSt X W w v := by
  obtain ⟨a1, a2, a3, a4⟩ := h1
  obtain ⟨b1, b2, b3, b4⟩ := h2
  refine ⟨b1, fun k hk q => b2 k hk (a2 k hk q), fun t ht q => b3 t ht (a3 t ht q), ?_⟩
  rcases b4 with ⟨b4, b5⟩ | ⟨b4, b5⟩
  · rcases a4 with ⟨a4, a5⟩ | ⟨a4, a5⟩
    · exact Or.inl ⟨b4.trans a4, fun k hk => (b5 k hk).trans (a5 k hk)⟩
    · exact Or.inr ⟨b4.trans a4, Nat.lt_of_lt_of_le a5 (cntV_le b2)⟩
  · exact Or.inr ⟨b4, Nat.lt_of_le_of_lt (cntV_le a2) b5⟩
def wG (n m : Nat) (gh gi : Nat → Int32) (F : Int32) (tr : Int32 → Nat → Nat → Prop) (u : Int32 × Int32 × (Nat → Int32)) : Prop := (∀ b s, b ≤ m → s < 10 → u.2.2 (10 * b + s) = 1 → RW n m gh gi F tr b s) ∧ ∀ t, t < 32 → bt u.1 t = true → nxT n m gh gi F tr t
def inW (m : Nat) (u : Int32 × Int32 × (Nat → Int32)) (x : Int32) (b : Nat) : Prop := (∀ s, s < 10 → x = nI s → u.2.2 (10 * b + s) = 1) ∧ ∀ t, t < 10 → x = nI (10 + t) → b = m → bt u.1 t = true
theorem inW_m {m : Nat} {u v : Int32 × Int32 × (Nat → Int32)} {x : Int32} {b : Nat} (hm : m ≤ 24) (hb : b ≤ m) (h : wSt u.1 u.2.1 u.2.2 v) (q : inW m u x b) : inW m v x b := ⟨fun s hs e => h.2.1 _ (by omega) (q.1 s hs e), fun t ht e eb => h.2.2.1 t (by omega) (q.2 t ht e eb)⟩
/-- a production at work at a wanted place -/
def ctx (n m : Nat) (gh gi : Nat → Int32) (F : Int32) (tr : Int32 → Nat → Nat → Prop) (p a : Nat) : Prop := a ≤ m ∧ p < n ∧ usP gi F p ∧ ∃ s, s < 10 ∧ gh p = nI s ∧ RW n m gh gi F tr a s
theorem n_10x {a b : Nat} : 10 * nI a + nI b = nI (10 * a + b) := by show nI 10 * nI a + nI b = _; rw [n_mul, n_add]
theorem n_t10 {t : Nat} : nI (10 + t) - 10 = nI t := by show nI (10 + t) - nI 10 = _; rw [n_sub (by omega)]; congr 1; omega
theorem q_want {n m p a b : Nat} {gh gi gc : Nat → Int32} {F X W x : Int32} {w : Nat → Int32} {tr : Int32 → Nat → Nat → Prop} (hm : m ≤ 24) (hx : isIt x) (hc : ctx n m gh gi F tr p a) (hh : chd m gi tr p a x b) (hw : wV w) (hG : wG n m gh gi F tr (X, W, w)) :
    (wSt X W w (f_M_want X W w x (nI b) (nI m)) ∧ wG n m gh gi F tr (f_M_want X W w x (nI b) (nI m)) ∧ inW m (f_M_want X W w x (nI b) (nI m)) x b) ∧ o_M_want X W w x (nI b) (nI m) := by
  obtain ⟨c1, c2, c3, s, c4, c5, c6⟩ := hc
  have hb := hh.1
  unfold f_M_want o_M_want
  by_cases c : x < 10
  · obtain ⟨s', hs', rfl⟩ := isIt_sym hx c
    have hRW : RW n m gh gi F tr b s' := RW_cl.2 a s p b s' c1 c6 c2 c5 c3 hs' hh
    have hv : vp_in (nI (10 * b + s')) 250 := n_in (by omega) (by omega)
    have hno : ∀ t, t < 10 → ¬ nI s' = nI (10 + t) := fun t ht q => by rw [n_eq (by omega) (by omega)] at q; omega
    simp only [if_pos c, n_10x]
    rw [n_clamp (by omega)]
    rcases hw (10 * b + s') (by omega) with e | e
    · simp only [if_pos e, nar1.1]
      refine ⟨⟨⟨?_, ?_, fun _ _ q => q, Or.inr ⟨rfl, ?_⟩⟩, ⟨?_, hG.2⟩, ?_, fun t ht q => absurd q (hno t ht)⟩, hv, hv, trivial⟩
      · intro k hk
        show upd w (10 * b + s') 1 k = 0 ∨ upd w (10 * b + s') 1 k = 1
        rw [n_upd]; split
        · exact Or.inr rfl
        · exact hw k hk
      · intro k hk q
        show upd w (10 * b + s') 1 k = 1
        rw [n_upd]; split
        · rfl
        · exact q
      · show cntV w < cntV (upd w (10 * b + s') 1)
        refine cntB_lt (m := 10 * b + s') (fun k hk hb => ?_) (by omega) ?_ ?_
        · simp only [decide_eq_true_eq] at hb ⊢
          rw [n_upd]; split
          · rfl
          · exact hb
        · simp only [decide_eq_false_iff_not]; rw [e]; exact fun q => m10.1 q.symm
        · simp only [decide_eq_true_eq]; rw [n_upd, if_pos rfl]
      · intro b' s'' hb' hs'' q
        have q : upd w (10 * b + s') 1 (10 * b' + s'') = 1 := q
        rw [n_upd] at q
        split at q
        · rename_i e2
          have e3 : b' = b := by omega
          have e4 : s'' = s' := by omega
          subst e3; subst e4; exact hRW
        · exact hG.1 b' s'' hb' hs'' q
      · intro s'' hs'' q
        rw [n_eq (by omega) (by omega)] at q
        subst q
        show upd w (10 * b + s') 1 (10 * b + s') = 1
        rw [n_upd, if_pos rfl]
    · have e' : ¬ w (10 * b + s') = 0 := by rw [e]; exact m10.1
      simp only [if_neg e']
      refine ⟨⟨wSt_r hw, hG, ?_, fun t ht q => absurd q (hno t ht)⟩, hv, trivial⟩
      intro s'' hs'' q
      rw [n_eq (by omega) (by omega)] at q
      subst q; exact e
  · obtain ⟨t0, ht0, ht1, rfl⟩ := isIt_tok hx c
    obtain ⟨t, rfl⟩ : ∃ t, t0 = 10 + t := ⟨t0 - 10, by omega⟩
    have ht : t < 10 := by omega
    have hno : ∀ s, s < 10 → ¬ nI (10 + t) = nI s := fun s hs q => by rw [n_eq (by omega) (by omega)] at q; omega
    simp only [if_neg c, n_t10]
    simp (disch := omega) only [n_eq]
    by_cases cb : b = m
    · subst cb
      simp only [if_true]
      have hbit : ∀ k, k < 32 → bt (X ||| (1 : Int32) <<< (nI t &&& 31)) k = (bt X k || decide (k = t)) := fun k hk => by rw [bt_or]; show (bt X k || bt (bit1 t) k) = _; rw [bt_one (by omega) hk]
      refine ⟨⟨⟨hw, fun _ _ q => q, ?_, Or.inl ⟨rfl, fun _ _ => rfl⟩⟩, ⟨hG.1, ?_⟩, fun s hs q => absurd q (hno s hs), ?_⟩, trivial⟩
      · intro k hk q
        show bt (X ||| (1 : Int32) <<< (nI t &&& 31)) k = true
        rw [hbit k hk, q]; rfl
      · intro k hk q
        have q : bt (X ||| (1 : Int32) <<< (nI t &&& 31)) k = true := q
        rw [hbit k hk] at q
        by_cases ck : k = t
        · subst ck; exact ⟨ht, a, s, p, c1, c4, c6, c2, c5, c3, hh⟩
        · exact hG.2 k hk (by simpa [ck] using q)
      · intro t' ht' q _
        rw [n_eq (by omega) (by omega)] at q
        have : t = t' := by omega
        subst this
        show bt (X ||| (1 : Int32) <<< (nI t &&& 31)) t = true
        rw [hbit t (by omega)]; simp
    · simp only [if_neg cb]
      exact ⟨⟨wSt_r hw, hG, fun s hs q => absurd q (hno s hs), fun t ht q eb => absurd eb cb⟩, trivial⟩
def tE (n : Nat) (gh gi gc rt : Nat → Int32) (x : Int32) (a b : Nat) : Prop := (itE rt (vV n gh gi gc rt) x a b).1 ≠ 0
/-- the reference's numbers -/
theorem q_manyE {n rl a b : Nat} {gh gi gc rt vMn vMl : Nat → Int32} {lv : Nat → Nat} {x : Int32} (hg : gOK n gh gi gc) (hl : lvOK n gh gi lv) (hr : rl ≤ 24) (hM : mOK n rl gh gi gc rt (fun _ _ => True) vMn vMl) (hx : isIt x) (hab : a < b) (hb : b ≤ rl) : ((f_M_many rt vMn x (nI a) (nI b) ≤ 0) = ¬ tE n gh gi gc rt x a b) ∧ o_M_many rt vMn x (nI a) (nI b) := by
  obtain ⟨h1, h2⟩ := q_many (rt := rt) (vMn := vMn) (tb := vV n gh gi gc rt) hx hab (show b ≤ 24 by omega) (fun s hs e => (hM s a b hs hab hb trivial).1)
  have hs := (itE_G hg hl (rt := rt) (Or.inr hx) (i := a) (j := b) (by omega)).2
  refine ⟨?_, h2⟩
  rw [h1, q_0, n_le (by omega) (by omega)]
  unfold tE
  apply propext
  omega
theorem q_w75 {N_ n m rl p a b : Nat} {gh gi gc rt vMn vMl : Nat → Int32} {lv : Nat → Nat} {F X W : Int32} {w : Nat → Int32} (hN : 1000 ≤ N_) (hg : gOK n gh gi gc) (hl : lvOK n gh gi lv) (hr : rl ≤ 24) (hmr : m ≤ rl) (hM : mOK n rl gh gi gc rt (fun _ _ => True) vMn vMl) (hc : ctx n m gh gi F (tE n gh gi gc rt) p a) (hab : a < b) (hbm : b ≤ m) (htr : tE n gh gi gc rt (gi (3 * p)) a b) (hw : wV w) (hG : wG n m gh gi F (tE n gh gi gc rt) (X, W, w))
    (Kf : Int32 → Int32 → Int32 → (Nat → Int32) → Int32 × Int32 × (Nat → Int32)) (Ko : Int32 → Int32 → Int32 → (Nat → Int32) → Prop) (Ph : (Int32 × Int32 × (Nat → Int32)) → Prop)
    (hK : ∀ x u, wSt X W w u → wG n m gh gi F (tE n gh gi gc rt) u → (∀ c, b < c → c ≤ m → tE n gh gi gc rt (gi (3 * p + 1)) b c → gi (3 * p + 2) ≠ -1 → inW m u (gi (3 * p + 2)) c) → Ph (Kf x u.1 u.2.1 u.2.2) ∧ Ko x u.1 u.2.1 u.2.2) :
    Ph (l_M_wants_75 (nI p) (nI m) (nI b) gi rt vMn Kf N_ (nI (b + 1)) X W w) ∧ ol_M_wants_75 (nI p) (nI m) (nI b) gi rt vMn Ko N_ (nI (b + 1)) X W w := by
  have hn := hg.1
  have hp := hc.2.1
  obtain ⟨el, ol⟩ := q_len (gi := gi) (show p < 24 by omega)
  obtain ⟨i0, i1, i2⟩ := gOK_i hg hp
  obtain ⟨z1, z2, z3, z4, z5, z6⟩ := nle_1
  refine rj_M_wants_75 (nI p) (nI m) (nI b) gi rt vMn Kf Ko (fun x _ _ _ => 100 - x.toNatClampNeg) (fun x X' W' w' => ∃ c, b < c ∧ c ≤ m + 1 ∧ x = nI c ∧ wSt X W w (X', W', w') ∧ wG n m gh gi F (tE n gh gi gc rt) (X', W', w') ∧ ∀ c', b < c' → c' < c → tE n gh gi gc rt (gi (3 * p + 1)) b c' → gi (3 * p + 2) ≠ -1 → inW m (X', W', w') (gi (3 * p + 2)) c') Ph ?_ N_ _ _ _ _ ?_ ?_
  · intro rec reco x X' W' w' hI ih
    obtain ⟨c, h1, h2, rfl, h3, h4, h5⟩ := hI
    unfold s_M_wants_75 os_M_wants_75
    simp (disch := omega) only [n_lt, bd_def, el, n_3x, n_1, n_p2, n_clamp]
    by_cases cm : m < c
    · simp only [if_pos cm]
      exact hK _ _ h3 h4 (fun c' q1 q2 => h5 c' q1 (by omega))
    · simp only [if_neg cm]
      by_cases x2 : gi (3 * p + 2) = -1
      · have hle : nI (lnN gi p) ≤ 2 := by
          unfold lnN
          by_cases x1 : gi (3 * p + 1) = -1
          · rw [if_pos x1]; exact z5
          · rw [if_neg x1, if_pos x2]; exact z6
        simp only [if_pos hle]
        have := hK (nI c) _ h3 h4 (fun c' q1 q2 q3 q4 => absurd x2 q4)
        exact ⟨this.1, ol, this.2⟩
      · have x1 : gi (3 * p + 1) ≠ -1 := fun q => x2 (gOK_2 hg hp q)
        have hle : ¬ nI (lnN gi p) ≤ 2 := by unfold lnN; rw [if_neg x1, if_neg x2]; exact z3
        have hi1 : isIt (gi (3 * p + 1)) := by rcases i1 with h | h; exact absurd h x1; exact h
        have hi2 : isIt (gi (3 * p + 2)) := by rcases i2 with h | h; exact absurd h x2; exact h
        obtain ⟨t1, t2⟩ := q_manyE (a := b) (b := c) hg hl hr hM hi1 h1 (by omega)
        have v1 : vp_in (nI (3 * p + 1)) 72 := n_in (by omega) (by omega)
        have v2 : vp_in (nI (3 * p + 2)) 72 := n_in (by omega) (by omega)
        have hmu : 100 - (nI (c + 1)).toNatClampNeg < 100 - (nI c).toNatClampNeg := by rw [n_clamp (by omega), n_clamp (by omega)]; omega
        simp only [if_neg hle]
        by_cases c0 : f_M_many rt vMn (gi (3 * p + 1)) (nI b) (nI c) ≤ 0
        rotate_left
        · have ct : tE n gh gi gc rt (gi (3 * p + 1)) b c := by rw [t1] at c0; exact Classical.not_not.mp c0
          simp only [if_neg c0]
          obtain ⟨⟨g1, g2, g3⟩, g4⟩ := q_want (gc := gc) (x := gi (3 * p + 2)) (b := c) (show m ≤ 24 by omega) hi2 hc ⟨by omega, Or.inr (Or.inr ⟨rfl, x2, b, hab, h1, htr, ct⟩)⟩ h3.1 h4
          have := ih (nI (c + 1)) _ _ _ ⟨c + 1, by omega, by omega, rfl, wSt_t h3 g1, g2, fun c' q1 q2 q3 q4 => by
            by_cases cc : c' = c
            · subst cc; exact g3
            · exact inW_m (show m ≤ 24 by omega) (by omega) g1 (h5 c' q1 (by omega) q3 q4)⟩ hmu
          exact ⟨this.1, ol, v1, t2, v2, g4, this.2⟩
        · have ct : ¬ tE n gh gi gc rt (gi (3 * p + 1)) b c := by rw [t1] at c0; exact c0
          simp only [if_pos c0]
          have := ih (nI (c + 1)) X' W' w' ⟨c + 1, by omega, by omega, rfl, h3, h4, fun c' q1 q2 q3 q4 => by
            by_cases cc : c' = c
            · subst cc; exact absurd q3 ct
            · exact h5 c' q1 (by omega) q3 q4⟩ hmu
          exact ⟨this.1, ol, v1, t2, this.2⟩
  · show 100 - (nI (b + 1)).toNatClampNeg < N_
    omega
  · exact ⟨b + 1, by omega, by omega, rfl, wSt_r hw, hG, fun c' q1 q2 => by omega⟩
theorem q_wants {N_ n m rl p a : Nat} {gh gi gc rt vMn vMl : Nat → Int32} {lv : Nat → Nat} {F X W : Int32} {w : Nat → Int32} (hN : 1000 ≤ N_) (hg : gOK n gh gi gc) (hl : lvOK n gh gi lv) (hr : rl ≤ 24) (hmr : m ≤ rl) (hM : mOK n rl gh gi gc rt (fun _ _ => True) vMn vMl) (hc : ctx n m gh gi F (tE n gh gi gc rt) p a) (hw : wV w) (hG : wG n m gh gi F (tE n gh gi gc rt) (X, W, w)) :
    (fun u => wSt X W w u ∧ wG n m gh gi F (tE n gh gi gc rt) u ∧ ∀ x b, chd m gi (tE n gh gi gc rt) p a x b → inW m u x b) (f_M_wants N_ X W gi rt vMn w (nI p) (nI a) (nI m)) ∧ o_M_wants N_ X W gi rt vMn w (nI p) (nI a) (nI m) := by
  have hn := hg.1
  have hp := hc.2.1
  have ham := hc.1
  obtain ⟨el, ol⟩ := q_len (gi := gi) (show p < 24 by omega)
  obtain ⟨i0, i1, i2⟩ := gOK_i hg hp
  obtain ⟨z1, z2, z3, z4, z5, z6⟩ := nle_1
  have hi0 : isIt (gi (3 * p)) := (hg.2 p hp).2.1
  have v0 : vp_in (nI (3 * p)) 72 := n_in (by omega) (by omega)
  have v1 : vp_in (nI (3 * p + 1)) 72 := n_in (by omega) (by omega)
  obtain ⟨⟨g1, g2, g3⟩, g4⟩ := q_want (gc := gc) (x := gi (3 * p)) (b := a) (show m ≤ 24 by omega) hi0 hc ⟨ham, Or.inl ⟨rfl, rfl⟩⟩ hw hG
  unfold f_M_wants o_M_wants
  simp (disch := omega) only [bd_def, n_3x, n_clamp, n_1]
  generalize f_M_want X W w (gi (3 * p)) (nI a) (nI m) = u0 at *
  refine And.imp id (fun h => ⟨v0, g4, h⟩) ?_
  have fin : ∀ u, wSt u0.1 u0.2.1 u0.2.2 u → wG n m gh gi F (tE n gh gi gc rt) u → (∀ b, a < b → b ≤ m → tE n gh gi gc rt (gi (3 * p)) a b → (gi (3 * p + 1) ≠ -1 → inW m u (gi (3 * p + 1)) b) ∧ ∀ c, b < c → c ≤ m → tE n gh gi gc rt (gi (3 * p + 1)) b c → gi (3 * p + 2) ≠ -1 → inW m u (gi (3 * p + 2)) c) → wSt X W w u ∧ wG n m gh gi F (tE n gh gi gc rt) u ∧ ∀ x b, chd m gi (tE n gh gi gc rt) p a x b → inW m u x b := by
    intro u h1 h2 h3
    refine ⟨wSt_t g1 h1, h2, ?_⟩
    intro x b hh
    obtain ⟨hb, hh⟩ := hh
    rcases hh with ⟨rfl, rfl⟩ | ⟨rfl, q1, q2, q3⟩ | ⟨rfl, q1, c, q2, q3, q4, q5⟩
    · exact inW_m (show m ≤ 24 by omega) hb h1 g3
    · exact (h3 b q2 hb q3).1 q1
    · exact (h3 c q2 (by omega) q4).2 b q3 hb q5 q1
  refine rj_M_wants_19 N_ (nI p) (nI a) (nI m) gi rt vMn _ _ (fun x _ _ _ => 100 - x.toNatClampNeg) (fun x X' W' w' => ∃ b, a < b ∧ b ≤ m + 1 ∧ x = nI b ∧ wSt u0.1 u0.2.1 u0.2.2 (X', W', w') ∧ wG n m gh gi F (tE n gh gi gc rt) (X', W', w') ∧ ∀ b', a < b' → b' < b → tE n gh gi gc rt (gi (3 * p)) a b' → (gi (3 * p + 1) ≠ -1 → inW m (X', W', w') (gi (3 * p + 1)) b') ∧ ∀ c, b' < c → c ≤ m → tE n gh gi gc rt (gi (3 * p + 1)) b' c → gi (3 * p + 2) ≠ -1 → inW m (X', W', w') (gi (3 * p + 2)) c) (fun u => wSt X W w u ∧ wG n m gh gi F (tE n gh gi gc rt) u ∧ ∀ x b, chd m gi (tE n gh gi gc rt) p a x b → inW m u x b) ?_ N_ _ _ _ _ ?_ ?_
  · intro rec reco x X' W' w' hI ih
    obtain ⟨b, h1, h2, rfl, h3, h4, h5⟩ := hI
    unfold s_M_wants_19 os_M_wants_19
    simp (disch := omega) only [n_lt, bd_def, el, n_3x, n_1, n_clamp]
    by_cases cm : m < b
    · simp only [if_pos cm]
      exact ⟨fin _ h3 h4 (fun b' q1 q2 => h5 b' q1 (by omega)), trivial⟩
    · simp only [if_neg cm]
      by_cases x1 : gi (3 * p + 1) = -1
      · have x2 := gOK_2 hg hp x1
        have hle : nI (lnN gi p) ≤ 1 := by unfold lnN; rw [if_pos x1]; exact z4
        simp only [if_pos hle]
        exact ⟨fin _ h3 h4 (fun b' q1 q2 q3 => ⟨fun q => absurd x1 q, fun c _ _ _ q => absurd x2 q⟩), ol, trivial⟩
      · have hle : ¬ nI (lnN gi p) ≤ 1 := by
          unfold lnN
          rw [if_neg x1]
          split
          · exact z1
          · exact z2
        have hi1 : isIt (gi (3 * p + 1)) := by rcases i1 with h | h; exact absurd h x1; exact h
        obtain ⟨t1, t2⟩ := q_manyE (a := a) (b := b) hg hl hr hM hi0 h1 (by omega)
        have hmu : 100 - (nI (b + 1)).toNatClampNeg < 100 - (nI b).toNatClampNeg := by rw [n_clamp (by omega), n_clamp (by omega)]; omega
        simp only [if_neg hle]
        by_cases c0 : f_M_many rt vMn (gi (3 * p)) (nI a) (nI b) ≤ 0
        rotate_left
        · have ct : tE n gh gi gc rt (gi (3 * p)) a b := by rw [t1] at c0; exact Classical.not_not.mp c0
          simp only [if_neg c0]
          obtain ⟨⟨k1, k2, k3⟩, k4⟩ := q_want (gc := gc) (x := gi (3 * p + 1)) (b := b) (show m ≤ 24 by omega) hi1 hc ⟨by omega, Or.inr (Or.inl ⟨rfl, x1, h1, ct⟩)⟩ h3.1 h4
          generalize f_M_want X' W' w' (gi (3 * p + 1)) (nI b) (nI m) = u1 at *
          refine And.imp id (fun h => ⟨ol, v0, t2, v1, k4, h⟩) (q_w75 hN hg hl hr hmr hM hc h1 (by omega) ct k1.1 k2 _ _ (fun u => wSt X W w u ∧ wG n m gh gi F (tE n gh gi gc rt) u ∧ ∀ x b, chd m gi (tE n gh gi gc rt) p a x b → inW m u x b) ?_)
          intro x u l1 l2 l3
          refine ih _ _ _ _ ⟨b + 1, by omega, by omega, rfl, wSt_t (wSt_t h3 k1) l1, l2, ?_⟩ hmu
          intro b' q1 q2 q3
          by_cases cc : b' = b
          · subst cc
            exact ⟨fun _ => inW_m (show m ≤ 24 by omega) (by omega) l1 k3, l3⟩
          · obtain ⟨r1, r2⟩ := h5 b' q1 (by omega) q3
            exact ⟨fun q => inW_m (show m ≤ 24 by omega) (by omega) l1 (inW_m (show m ≤ 24 by omega) (by omega) k1 (r1 q)), fun c y1 y2 y3 y4 => inW_m (show m ≤ 24 by omega) y2 l1 (inW_m (show m ≤ 24 by omega) y2 k1 (r2 c y1 y2 y3 y4))⟩
        · have ct : ¬ tE n gh gi gc rt (gi (3 * p)) a b := by rw [t1] at c0; exact c0
          simp only [if_pos c0]
          have := ih (nI (b + 1)) X' W' w' ⟨b + 1, by omega, by omega, rfl, h3, h4, fun b' q1 q2 q3 => by
            by_cases cc : b' = b
            · subst cc; exact absurd q3 ct
            · exact h5 b' q1 (by omega) q3⟩ hmu
          exact ⟨this.1, ol, v0, t2, this.2⟩
  · show 100 - (nI (a + 1)).toNatClampNeg < N_
    omega
  · exact ⟨a + 1, by omega, by omega, rfl, wSt_r g1.1, g2, fun b' q1 q2 => by omega⟩
