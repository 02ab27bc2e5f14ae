def clB (n m : Nat) (gh gi : Nat → Int32) (F : Int32) (tr : Int32 → Nat → Nat → Prop) (t : Nat) (Q : Nat → Nat → Prop) : Prop := ∀ b s p x c, b ≤ m → s < 10 → p < n → gh p = nI s → usP gi F p → chd m gi tr p b x c → ((x = nI (10 + t) ∧ c = m) ∨ ∃ s', s' < 10 ∧ x = nI s' ∧ Q c s') → Q b s
def RB (n m : Nat) (gh gi : Nat → Int32) (F : Int32) (tr : Int32 → Nat → Nat → Prop) (t b s : Nat) : Prop := ∀ Q, clB n m gh gi F tr t Q → Q b s
theorem RB_cl {n m : Nat} {gh gi : Nat → Int32} {F : Int32} {tr : Int32 → Nat → Nat → Prop} {t : Nat} : clB n m gh gi F tr t (RB n m gh gi F tr t) := by
  intro b s p x c h1 h2 h3 h4 h5 h6 h7 Q hQ
  refine hQ b s p x c h1 h2 h3 h4 h5 h6 ?_
  rcases h7 with h7 | ⟨s', q1, q2, q3⟩
  · exact Or.inl h7
  · exact Or.inr ⟨s', q1, q2, q3 Q hQ⟩
theorem chd_ge {m p a c : Nat} {gi : Nat → Int32} {tr : Int32 → Nat → Nat → Prop} {x : Int32} (h : chd m gi tr p a x c) : (c = a ∧ x = gi (3 * p)) ∨ a < c := by
  obtain ⟨-, h⟩ := h
  rcases h with ⟨h1, h2⟩ | ⟨-, -, h, -⟩ | ⟨-, -, b, h1, h2, -, -⟩
  · exact Or.inl ⟨h2, h1⟩
  · exact Or.inr h
  · exact Or.inr (by omega)
theorem chd_it {n m p a c : Nat} {gh gi gc : Nat → Int32} {tr : Int32 → Nat → Nat → Prop} {x : Int32} (hg : gOK n gh gi gc) (hp : p < n) (h : chd m gi tr p a x c) : isIt1 x := by
  obtain ⟨i0, i1, i2⟩ := gOK_i hg hp
  obtain ⟨-, h⟩ := h
  rcases h with ⟨rfl, -⟩ | ⟨rfl, -⟩ | ⟨rfl, -⟩
  · exact i0
  · exact i1
  · exact i2
def frO (a : Nat) (N N' : Nat → Int32) : Prop := ∀ b s, b ≤ 24 → s < 10 → b ≠ a → N' (b * 10 + s) = N (b * 10 + s)
theorem itB_bits {m b t : Nat} {N N' : Nat → Int32} {x : Int32} (h : ∀ s, s < 10 → bt (N (b * 10 + s)) t = true → bt (N' (b * 10 + s)) t = true) (q : itB m N x b t) : itB m N' x b t := by
  rcases q with q | ⟨s, q1, q2, q3⟩
  · exact Or.inl q
  · exact Or.inr ⟨s, q1, q2, h s q1 q3⟩
theorem itB_fr {m a c t : Nat} {N N' : Nat → Int32} {x : Int32} (h : frO a N N') (hc : c ≤ 24) (hca : c ≠ a) : itB m N' x c t ↔ itB m N x c t :=
  ⟨itB_bits (fun s hs q => by rw [h c s hc hs hca] at q; exact q), itB_bits (fun s hs q => by rw [h c s hc hs hca]; exact q)⟩
theorem itB_hi {m b k : Nat} {N : Nat → Int32} {x : Int32} (hx : isIt1 x) (h : ∀ s, s < 10 → bt (N (b * 10 + s)) k = false) (hk : 10 ≤ k) (hk2 : k < 32) : ¬ itB m N x b k := by
  intro q
  rcases q with ⟨q, -⟩ | ⟨s, hs, -, q⟩
  · rcases hx with hx | hx
    · have := x_eq (q.symm.trans hx); rw [x_m1, n_tI (by omega)] at this; omega
    · have := hx.2; rw [q, n_tI (by omega)] at this; omega
  · rw [h s hs] at q; cases q
section LOOK
variable (n m : Nat) (gh gi : Nat → Int32) (F : Int32) (tr : Int32 → Nat → Nat → Prop)
def hiO (a : Nat) (N : Nat → Int32) : Prop := ∀ s, s < 10 → ∀ k, 10 ≤ k → k < 32 → bt (N (a * 10 + s)) k = false
def soO (a : Nat) (N : Nat → Int32) : Prop := ∀ s t, s < 10 → t < 10 → bt (N (a * 10 + s)) t = true → RB n m gh gi F tr t a s
def cBO (a p : Nat) (N : Nat → Int32) : Prop := ∀ p' s x c t, p' < p → s < 10 → gh p' = nI s → usP gi F p' → chd m gi tr p' a x c → a < c → t < 10 → itB m N x c t → bt (N (a * 10 + s)) t = true
def nxP (a0 : Nat) (N : Nat → Int32) : Prop := ∀ b, a0 ≤ b → b ≤ m → hiO b N ∧ soO n m gh gi F tr b N ∧ ∀ p' s x c t, p' < n → s < 10 → gh p' = nI s → usP gi F p' → chd m gi tr p' b x c → t < 10 → itB m N x c t → bt (N (b * 10 + s)) t = true
def cloA (a t : Nat) (N : Nat → Int32) : Prop := ∀ p s, p < n → s < 10 → gh p = nI s → usP gi F p → itB m N (gi (3 * p)) a t → bt (N (a * 10 + s)) t = true
end LOOK
def cntA (a t : Nat) (N : Nat → Int32) : Nat := cntB (fun s => bt (N (a * 10 + s)) t) 10
/-- a token that comes by a child comes by the head -/
theorem so_chd {n m p a c s t : Nat} {gh gi : Nat → Int32} {F : Int32} {tr : Int32 → Nat → Nat → Prop} {N : Nat → Int32} {x : Int32} (ham : a ≤ m) (hs : s < 10) (hp : p < n) (eh : gh p = nI s) (hu : usP gi F p) (hc : chd m gi tr p a x c) (ht : t < 10) (hi : itB m N x c t) (hso : soO n m gh gi F tr c N) : RB n m gh gi F tr t a s := by
  refine RB_cl a s p x c ham hs hp eh hu hc ?_
  rcases hi with hi | ⟨s', q1, q2, q3⟩
  · exact Or.inl hi
  · exact Or.inr ⟨s', q1, q2, hso s' t q1 ht q3⟩
theorem upd_or {N : Nat → Int32} {a h : Nat} {Z : Int32} {b s k : Nat} (hs : s < 10) (hh : h < 10) : bt (upd N (a * 10 + h) (N (a * 10 + h) ||| Z) (b * 10 + s)) k = (bt (N (b * 10 + s)) k || (decide (b = a ∧ s = h) && bt Z k)) := by
  rw [n_upd]
  by_cases c : b = a ∧ s = h
  · obtain ⟨rfl, rfl⟩ := c
    rw [if_pos rfl, bt_or]; simp
  · rw [if_neg (by omega)]; simp [c]
theorem k_lf23 {N_ n m to rl a : Nat} {gh gi gc rt vCn vCc N0 N1 : Nat → Int32} {F : Int32} {lv : Nat → Nat} (hN : 1000 ≤ N_) (hg : gOK n gh gi gc) (hl : lvOK n gh gi lv) (hr : rl ≤ 24) (hto : to ≤ rl) (hm : m ≤ to) (hC : colOK n to gh gi gc rt vCn vCc) (ha : a ≤ m) (h0 : nxP n m gh gi F (tE n gh gi gc rt) (a + 1) N0) (hf : frO a N0 N1) (hz : ∀ s, s < 10 → N1 (a * 10 + s) = 0)
    (Kf : Int32 → (Nat → Int32) → (Nat → Int32)) (Ko : Int32 → (Nat → Int32) → Prop) (Ph : (Nat → Int32) → Prop) (hK : ∀ x N, frO a N0 N → hiO a N → soO n m gh gi F (tE n gh gi gc rt) a N → cBO m gh gi F (tE n gh gi gc rt) a n N → Ph (Kf x N) ∧ Ko x N) :
    Ph (l_O_lookFrom_23 N_ (nI a) (nI m) vCn F (nI n) gh gi (nI rl) rt Kf N_ 0 N1) ∧ ol_O_lookFrom_23 N_ (nI a) (nI m) vCn F (nI n) gh gi (nI rl) rt Ko N_ 0 N1 := by
  have hn := hg.1
  have m1 := m10.1
  refine rj_O_lookFrom_23 N_ (nI a) (nI m) vCn F (nI n) gh gi (nI rl) rt Kf Ko (fun x _ => 100 - x.toNatClampNeg) (fun x N => ∃ p, p ≤ n ∧ x = nI p ∧ frO a N0 N ∧ hiO a N ∧ soO n m gh gi F (tE n gh gi gc rt) a N ∧ cBO m gh gi F (tE n gh gi gc rt) a p N) Ph ?_ N_ _ _ ?_ ?_
  · intro rec reco x N hI ih
    obtain ⟨p, hp, rfl, h1, h2, h3, h4⟩ := hI
    unfold s_O_lookFrom_23 os_O_lookFrom_23
    simp (disch := omega) only [n_le, bd_def, n_1]
    by_cases c : n ≤ p
    · have e : p = n := by omega
      subst e
      simp only [if_pos c]
      exact hK _ _ h1 h2 h3 h4
    · simp only [if_neg c]
      have hp' : p < n := by omega
      obtain ⟨h, hh, eh⟩ := head_lt hg hp'
      obtain ⟨e1, o1⟩ := k_head (gh := gh) hn hp'
      have hmu : 100 - (nI (p + 1)).toNatClampNeg < 100 - (nI p).toNatClampNeg := by rw [n_clamp (by omega), n_clamp (by omega)]; omega
      obtain ⟨u1, u2⟩ := k_usable (F := F) hg hp'
      rcases u1 with ⟨u1, u3⟩ | ⟨u1, u3⟩
      · simp only [u1, if_neg m1, e1, eh]
        obtain ⟨z1, z2⟩ := k_nb1 (N_ := N_) (N := N) (a := a) hN hg hl hr hto hm hC hp' ha
        generalize f_O_nextsBehindFirst N_ (nI m) N vCn (nI n) gi (nI rl) rt (nI p) (nI a) = Z at *
        obtain ⟨w1, w2⟩ := k_addTo (m := m) (N := N) (v := Z) hh (show a < 25 by omega)
        rw [w1]
        have hso : ∀ c, a < c → c ≤ m → soO n m gh gi F (tE n gh gi gc rt) c N := fun c q1 q2 s t hs ht q => (h0 c (by omega) q2).2.1 s t hs ht (by rw [← h1 c s (by omega) hs (by omega)]; exact q)
        have := ih (nI (p + 1)) (upd N (a * 10 + h) (N (a * 10 + h) ||| Z)) ⟨p + 1, by omega, rfl, ?_, ?_, ?_, ?_⟩ hmu
        · exact ⟨this.1, u2, o1, z2, w2, this.2⟩
        · intro b s hb hs hba
          rw [n_upd, if_neg (by omega)]
          exact h1 b s hb hs hba
        · intro s hs k hk hk2
          rw [upd_or hs hh, h2 s hs k hk hk2]
          have : bt Z k = false := by
            cases e : bt Z k with
            | false => rfl
            | true =>
              obtain ⟨x, b, q1, q2, q3⟩ := (z1 k hk2).mp e
              exact absurd q3 (itB_hi (chd_it hg hp' q2) (fun s hs => by
                have hb := q2.1
                rw [h1 b s (by omega) hs (by omega)]
                exact (h0 b (by omega) hb).1 s hs k hk hk2) hk hk2)
          rw [this]; simp
        · intro s t hs ht q
          rw [upd_or hs hh, Bool.or_eq_true] at q
          rcases q with q | q
          · exact h3 s t hs ht q
          · simp only [Bool.and_eq_true, decide_eq_true_eq] at q
            obtain ⟨⟨-, rfl⟩, q⟩ := q
            obtain ⟨x, b, q1, q2, q3⟩ := (z1 t (by omega)).mp q
            exact so_chd ha hs hp' eh u3 q2 ht q3 (hso b q1 q2.1)
        · intro p' s x c' t y1 y2 y3 y4 y5 y6 y7 y8
          have hc' := y5.1
          have y9 : itB m N x c' t := itB_bits (fun s' hs' q => by
            rw [n_upd, if_neg (by omega)] at q; exact q) y8
          rw [upd_or y2 hh, Bool.or_eq_true]
          by_cases cc : p' = p
          · subst cc
            rw [eh, n_eq (by omega) (by omega)] at y3
            subst y3
            right
            simp only [Bool.and_eq_true, decide_eq_true_eq]
            exact ⟨⟨trivial, trivial⟩, (z1 t (by omega)).mpr ⟨x, c', y6, y5, y9⟩⟩
          · left
            exact h4 p' s x c' t (by omega) y2 y3 y4 y5 y6 y7 y9
      · simp only [u1, if_true]
        have := ih (nI (p + 1)) N ⟨p + 1, by omega, rfl, h1, h2, h3, fun p' s x c' t y1 y2 y3 y4 => by
          by_cases cc : p' = p
          · subst cc; exact absurd y4 u3
          · exact h4 p' s x c' t (by omega) y2 y3 y4⟩ hmu
        exact ⟨this.1, u2, this.2⟩
  · show 100 - (0 : Int32).toNatClampNeg < N_
    omega
  · refine ⟨0, Nat.zero_le _, rfl, hf, ?_, ?_, ?_⟩
    · intro s hs k _ _
      rw [hz s hs, bt_0]
    · intro s t hs ht q
      rw [hz s hs, bt_0] at q; cases q
    · intro p' s x c' t y1
      exact absurd y1 (Nat.not_lt_zero p')
theorem bt_xor {x y : Int32} {k : Nat} : bt (x ^^^ y) k = (bt x k ^^ bt y k) := by simp [bt]
theorem bt_nsub {x y : Int32} : (x &&& (y ^^^ (-1)) = 0) ↔ ∀ k, k < 32 → bt x k = true → bt y k = true := by
  have hm : ∀ k : Fin 32, bt (-1) k.1 = true := by decide +kernel
  have hx : ∀ k, k < 32 → bt (x &&& (y ^^^ (-1))) k = (bt x k && !(bt y k)) := by
    intro k hk
    have e := hm ⟨k, hk⟩
    have e : bt (-1) k = true := e
    rw [bt_and]
    rw [bt_xor, e]; simp
  constructor
  · intro h k hk q
    have := hx k hk
    rw [h, bt_0, q] at this
    cases e : bt y k with
    | true => rfl
    | false => rw [e] at this; cases this
  · intro h
    apply bt_ext
    intro k hk
    rw [hx k hk, bt_0]
    cases e : bt x k with
    | false => rfl
    | true => rw [h k hk e]; rfl
def afR (n m : Nat) (gh gi : Nat → Int32) (F : Int32) (tr : Int32 → Nat → Nat → Prop) (a : Nat) (N0 : Nat → Int32) (u : Int32 × (Nat → Int32)) : Prop := (u.1 = 0 ∨ u.1 = 1) ∧ frO a N0 u.2 ∧ hiO a u.2 ∧ soO n m gh gi F tr a u.2 ∧ (∀ s t, s < 10 → t < 32 → bt (N0 (a * 10 + s)) t = true → bt (u.2 (a * 10 + s)) t = true) ∧ (u.1 = 0 → ∀ t, t < 10 → cloA n m gh gi F a t u.2) ∧ ∀ t, t < 10 → (cloA n m gh gi F a t N0 ∧ cloA n m gh gi F a t u.2) ∨ (¬ cloA n m gh gi F a t N0 ∧ cntA a t N0 < cntA a t u.2)
theorem k_af {N_ n m a : Nat} {gh gi gc N0 : Nat → Int32} {F : Int32} {tr : Int32 → Nat → Nat → Prop} (hN : 1000 ≤ N_) (hg : gOK n gh gi gc) (hm : m ≤ 24) (ha : a ≤ m) (hh0 : hiO a N0) (hs0 : soO n m gh gi F tr a N0) :
    afR n m gh gi F tr a N0 (f_O_addFirstItems N_ (nI m) N0 F (nI n) gh gi (nI a)) ∧ o_O_addFirstItems N_ (nI m) N0 F (nI n) gh gi (nI a) := by
  have hn := hg.1
  have m1 := m10.1
  unfold f_O_addFirstItems o_O_addFirstItems
  refine rj_O_addFirstItems_4 (nI a) (nI m) F (nI n) gh gi _ _ (fun _ x _ => 100 - x.toNatClampNeg)
    (fun x2 x3 N => ∃ p, p ≤ n ∧ x3 = nI p ∧ (x2 = 0 ∨ x2 = 1) ∧ frO a N0 N ∧ hiO a N ∧ soO n m gh gi F tr a N ∧ (∀ s t, s < 10 → t < 32 → bt (N0 (a * 10 + s)) t = true → bt (N (a * 10 + s)) t = true) ∧ (x2 = 0 → ∀ s, s < 10 → N (a * 10 + s) = N0 (a * 10 + s)) ∧ (∀ t, t < 10 → cloA n m gh gi F a t N0 → ∀ s, s < 10 → bt (N (a * 10 + s)) t = bt (N0 (a * 10 + s)) t) ∧ ∀ p' s t, p' < p → s < 10 → gh p' = nI s → usP gi F p' → t < 10 → itB m N0 (gi (3 * p')) a t → bt (N (a * 10 + s)) t = true)
    (afR n m gh gi F tr a N0) ?_ N_ _ _ _ ?_ ?_
  · intro rec reco x2 x3 N hI ih
    obtain ⟨p, hp, rfl, h1, h2, h3, h4, h5, h6, h7, h8⟩ := hI
    unfold s_O_addFirstItems_4 os_O_addFirstItems_4
    simp (disch := omega) only [n_le, bd_def, n_1]
    by_cases c : n ≤ p
    · have e : p = n := by omega
      subst e
      simp only [if_pos c]
      refine ⟨⟨h1, h2, h3, h4, h5, ?_, ?_⟩, h1, trivial⟩
      · intro e t ht p' s y1 y2 y3 y4 y5
        have e := h6 e
        exact h8 p' s t y1 y2 y3 y4 ht (itB_bits (fun s' hs' q => by rw [← e s' hs']; exact q) y5)
      · intro t ht
        by_cases cc : ∃ p' s, p' < p ∧ s < 10 ∧ gh p' = nI s ∧ usP gi F p' ∧ itB m N0 (gi (3 * p')) a t ∧ bt (N0 (a * 10 + s)) t = false
        · obtain ⟨p', s, y1, y2, y3, y4, y5, y6⟩ := cc
          right
          refine ⟨fun hcl => ?_, cntB_lt (m := s) (fun k hk q => h5 k t hk (by omega) q) y2 y6 (h8 p' s t y1 y2 y3 y4 ht y5)⟩
          rw [hcl p' s y1 y2 y3 y4 y5] at y6; cases y6
        · left
          have hcl : cloA p m gh gi F a t N0 := by
            intro p' s y1 y2 y3 y4 y5
            cases e : bt (N0 (a * 10 + s)) t with
            | true => rfl
            | false => exact absurd ⟨p', s, y1, y2, y3, y4, y5, e⟩ cc
          refine ⟨hcl, ?_⟩
          intro p' s y1 y2 y3 y4 y5
          have e := h7 t ht hcl
          rw [e s y2]
          exact hcl p' s y1 y2 y3 y4 (itB_bits (fun s' hs' q => by rw [← e s' hs']; exact q) y5)
    · simp only [if_neg c]
      have hp' : p < n := by omega
      obtain ⟨h, hh, eh⟩ := head_lt hg hp'
      obtain ⟨i0, i1, i2⟩ := gOK_i hg hp'
      obtain ⟨e0, o0⟩ := k_item0 (gi := gi) hn hp'
      obtain ⟨e1, o1⟩ := k_head (gh := gh) hn hp'
      have hmu : 100 - (nI (p + 1)).toNatClampNeg < 100 - (nI p).toNatClampNeg := by rw [n_clamp (by omega), n_clamp (by omega)]; omega
      obtain ⟨k1, k2⟩ := k_iN (m := m) (b := a) (N := N) i0 hm ha
      obtain ⟨k3, k4⟩ := k_iNs (m := m) (N := N) (b := a) hh (by omega)
      simp only [e0, e1, eh, k3]
      generalize f_O_itemNexts (nI m) N (gi (3 * p)) (nI a) = Z at *
      have up : ∀ t, t < 10 → itB m N0 (gi (3 * p)) a t → bt Z t = true := fun t ht q => (k1 t (by omega)).mpr (itB_bits (fun s hs q => h5 s t hs (by omega) q) q)
      by_cases c1 : Z &&& (N (a * 10 + h) ^^^ (-1)) = 0
      · have c2 := bt_nsub.mp c1
        simp only [if_pos c1]
        have := ih x2 (nI (p + 1)) N ⟨p + 1, by omega, rfl, h1, h2, h3, h4, h5, h6, h7, fun p' s t y1 y2 y3 y4 y5 y6 => by
          by_cases cc : p' = p
          · subst cc
            rw [eh, n_eq (by omega) (by omega)] at y3
            subst y3
            exact c2 t (by omega) (up t y5 y6)
          · exact h8 p' s t (by omega) y2 y3 y4 y5 y6⟩ hmu
        exact ⟨this.1, o0, k2, o1, k4, this.2⟩
      · simp only [if_neg c1]
        obtain ⟨u1, u2⟩ := k_usable (F := F) hg hp'
        rcases u1 with ⟨u1, u3⟩ | ⟨u1, u3⟩
        · simp only [u1, if_neg m1]
          obtain ⟨w1, w2⟩ := k_addTo (m := m) (N := N) (v := Z) hh (show a < 25 by omega)
          rw [w1]
          have hchd : chd m gi tr p a (gi (3 * p)) a := ⟨ha, Or.inl ⟨rfl, rfl⟩⟩
          have := ih 1 (nI (p + 1)) (upd N (a * 10 + h) (N (a * 10 + h) ||| Z)) ⟨p + 1, by omega, rfl, Or.inr rfl, ?_, ?_, ?_, ?_, fun q => absurd q m1, ?_, ?_⟩ hmu
          · exact ⟨this.1, o0, k2, o1, k4, u2, o1, w2, this.2⟩
          · intro b s hb hs hba
            rw [n_upd, if_neg (by omega)]
            exact h2 b s hb hs hba
          · intro s hs k hk hk2
            rw [upd_or hs hh, h3 s hs k hk hk2]
            have : bt Z k = false := by
              cases e : bt Z k with
              | false => rfl
              | true => exact absurd ((k1 k hk2).mp e) (itB_hi i0 (fun s hs => h3 s hs k hk hk2) hk hk2)
            rw [this]; simp
          · intro s t hs ht q
            rw [upd_or hs hh, Bool.or_eq_true] at q
            rcases q with q | q
            · exact h4 s t hs ht q
            · simp only [Bool.and_eq_true, decide_eq_true_eq] at q
              obtain ⟨⟨-, rfl⟩, q⟩ := q
              exact so_chd ha hs hp' eh u3 hchd ht ((k1 t (by omega)).mp q) h4
          · intro s t hs ht q
            rw [upd_or hs hh, Bool.or_eq_true]
            exact Or.inl (h5 s t hs ht q)
          · intro t ht hcl s hs
            rw [upd_or hs hh]
            have e := h7 t ht hcl
            by_cases cz : bt Z t = true
            · by_cases cs : s = h
              · subst cs
                have q1 := hcl p s hp' hs eh u3 (itB_bits (fun s' hs' q => by rw [← e s' hs']; exact q) ((k1 t (by omega)).mp cz))
                rw [e s hs, q1]; rfl
              · rw [e s hs]; simp [cs]
            · have cz : bt Z t = false := by simpa using cz
              rw [e s hs, cz]; simp
          · intro p' s t y1 y2 y3 y4 y5 y6
            rw [upd_or y2 hh, Bool.or_eq_true]
            by_cases cc : p' = p
            · subst cc
              rw [eh, n_eq (by omega) (by omega)] at y3
              subst y3
              right
              simp only [Bool.and_eq_true, decide_eq_true_eq]
              exact ⟨⟨trivial, trivial⟩, up t y5 y6⟩
            · exact Or.inl (h8 p' s t (by omega) y2 y3 y4 y5 y6)
        · simp only [u1, if_true]
          have := ih x2 (nI (p + 1)) N ⟨p + 1, by omega, rfl, h1, h2, h3, h4, h5, h6, h7, fun p' s t y1 y2 y3 y4 y5 y6 => by
            by_cases cc : p' = p
            · subst cc; exact absurd y4 u3
            · exact h8 p' s t (by omega) y2 y3 y4 y5 y6⟩ hmu
          exact ⟨this.1, o0, k2, o1, k4, u2, this.2⟩
  · show 100 - (0 : Int32).toNatClampNeg < N_
    omega
  · exact ⟨0, Nat.zero_le _, rfl, Or.inl rfl, fun _ _ _ _ _ => rfl, hh0, hs0, fun _ _ _ _ q => q, fun _ _ _ => rfl, fun _ _ _ _ _ => rfl, fun p' _ _ q => absurd q (Nat.not_lt_zero p')⟩
theorem k_lf74 {N_ n m a : Nat} {gh gi gc N0 N1 : Nat → Int32} {F : Int32} {tr : Int32 → Nat → Nat → Prop} (hN : 1000 ≤ N_) (hg : gOK n gh gi gc) (hm : m ≤ 24) (ha : a ≤ m) (h1 : frO a N0 N1) (h2 : hiO a N1) (h3 : soO n m gh gi F tr a N1) (h4 : cBO m gh gi F tr a n N1)
    (Kf : Int32 → Int32 → (Nat → Int32) → (Nat → Int32)) (Ko : Int32 → Int32 → (Nat → Int32) → Prop) (Ph : (Nat → Int32) → Prop) (hK : ∀ x y N, frO a N0 N → hiO a N → soO n m gh gi F tr a N → cBO m gh gi F tr a n N → (∀ t, t < 10 → cloA n m gh gi F a t N) → Ph (Kf x y N) ∧ Ko x y N) :
    Ph (l_O_lookFrom_74 N_ (nI a) (nI m) F (nI n) gh gi Kf N_ 1 0 N1) ∧ ol_O_lookFrom_74 N_ (nI a) (nI m) F (nI n) gh gi Ko N_ 1 0 N1 := by
  have hn := hg.1
  have m1 := m10.1
  refine rj_O_lookFrom_74 N_ (nI a) (nI m) F (nI n) gh gi Kf Ko (fun _ x _ => 100 - x.toNatClampNeg)
    (fun x2 x3 N => ∃ r, r ≤ 10 ∧ x3 = nI r ∧ (x2 = 0 ∨ x2 = 1) ∧ frO a N0 N ∧ hiO a N ∧ soO n m gh gi F tr a N ∧ cBO m gh gi F tr a n N ∧ (x2 = 0 → ∀ t, t < 10 → cloA n m gh gi F a t N) ∧ ∀ t, t < 10 → cloA n m gh gi F a t N ∨ r ≤ cntA a t N) Ph ?_ N_ _ _ _ ?_ ?_
  · intro rec reco x2 x3 N hI ih
    obtain ⟨r, hr, rfl, g1, g2, g3, g4, g5, g6, g7⟩ := hI
    unfold s_O_lookFrom_74 os_O_lookFrom_74
    simp (disch := omega) only [q_10, n_le, bd_def, n_1]
    by_cases c : 10 ≤ r
    · simp only [if_pos c]
      refine hK _ _ _ g2 g3 g4 g5 ?_
      intro t ht
      rcases g7 t ht with q | q
      · exact q
      · intro p s y1 y2 y3 y4 y5
        cases e : bt (N (a * 10 + s)) t with
        | true => rfl
        | false =>
          have := cntB_lt (f := fun s => bt (N (a * 10 + s)) t) (g := fun _ => true) (n := 10) (m := s) (fun _ _ _ => rfl) y2 e rfl
          have e10 : cntB (fun _ => true) 10 = 10 := by decide
          unfold cntA at q
          omega
    · simp only [if_neg c]
      by_cases cx : x2 = 0
      · simp only [if_pos cx]
        exact hK _ _ _ g2 g3 g4 g5 (g6 cx)
      · simp only [if_neg cx]
        obtain ⟨⟨k1, k2, k3, k4, k5, k6, k7⟩, k8⟩ := k_af (N_ := N_) (gc := gc) (F := F) (tr := tr) hN hg hm ha g3 g4
        generalize f_O_addFirstItems N_ (nI m) N F (nI n) gh gi (nI a) = u at *
        have := ih u.1 (nI (r + 1)) u.2 ⟨r + 1, by omega, rfl, k1, ?_, k3, k4, ?_, k6, ?_⟩ (by
          show 100 - (nI (r + 1)).toNatClampNeg < 100 - (nI r).toNatClampNeg
          rw [n_clamp (by omega), n_clamp (by omega)]; omega)
        · exact ⟨this.1, k8, this.2⟩
        · intro b s hb hs hba
          rw [k2 b s hb hs hba]; exact g2 b s hb hs hba
        · intro p' s x c' t y1 y2 y3 y4 y5 y6 y7 y8
          have hc' := y5.1
          exact k5 s t y2 (by omega) (g5 p' s x c' t y1 y2 y3 y4 y5 y6 y7 ((itB_fr k2 (by omega) (by omega)).mp y8))
        · intro t ht
          rcases k7 t ht with q | q
          · exact Or.inl q.2
          · rcases g7 t ht with q2 | q2
            · exact absurd q2 q.1
            · right; have := q.2; omega
  · show 100 - (0 : Int32).toNatClampNeg < N_
    omega
  · exact ⟨0, Nat.zero_le _, rfl, Or.inr rfl, h1, h2, h3, h4, fun q => absurd q m1, fun t ht => Or.inr (Nat.zero_le _)⟩
