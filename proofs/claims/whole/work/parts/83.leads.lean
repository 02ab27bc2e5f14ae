/-! The reference: does a way of steps lead from one symbol to another -/
theorem nar1 : vp_nar .boolean 1 = (1 : Int32) ∧ vp_nar .boolean 0 = (0 : Int32) := by decide
/-- the table of ways: 0 and 1, the diagonal set, nothing set but what is reached -/
def waOK (vGr : Nat → Int32) (w : Nat → Int32) : Prop := (∀ k, k < 100 → w k = 0 ∨ w k = 1) ∧ (∀ s, s < 10 → w (10 * s + s) = 1) ∧ ∀ s t, s < 10 → t < 10 → w (10 * s + t) = 1 → s = t ∨ bt (vGr s) t = true
def cntW (w : Nat → Int32) : Nat := cntB (fun k => decide (w k = 1)) 100
/-- a round: what was set stays; without news nothing has changed and the productions before p are done -/
def rdW (n : Nat) (gh gi : Nat → Int32) (w0 : Nat → Int32) (p : Nat) (x3 : Int32) (w : Nat → Int32) : Prop := (x3 = 0 ∨ x3 = 1) ∧ (∀ k, k < 100 → w0 k = 1 → w k = 1) ∧ (x3 = 1 → cntW w0 < cntW w) ∧ (x3 = 0 → (∀ k, k < 100 → w k = w0 k) ∧ ∀ p', p' < p → isStp gi p' → ∀ s, s < 10 → w0 (10 * s + (gh p').toNatClampNeg) = 1 → w0 (10 * s + (gi (3 * p')).toNatClampNeg) = 1)
theorem cntW_up {w : Nat → Int32} {k : Nat} (hk : k < 100) (h : w k = 0) : cntW w < cntW (upd w k 1) := by
  refine cntB_lt (m := k) (fun j hj hb => ?_) hk ?_ ?_
  · have := of_decide_eq_true hb
    rw [decide_eq_true_eq, n_upd]; split
    · rfl
    · exact this
  · rw [h]; decide
  · rw [decide_eq_true_eq, n_upd, if_pos rfl]
theorem cntW_le {w w' : Nat → Int32} (h : ∀ k, k < 100 → w k = 1 → w' k = 1) : cntW w ≤ cntW w' := cntB_le (fun k hk hb => by
  have := of_decide_eq_true hb
  rw [decide_eq_true_eq]; exact h k hk this)
set_option maxHeartbeats 1000000 in
theorem q_l95 {N_ n p : Nat} {gh gi gc vGr w0 w1 : Nat → Int32} {x3 : Int32} (hN : 2000 ≤ N_) (hg : gOK n gh gi gc) (hR : reOK n gh gi vGr) (hp : p < n) (hs : isStp gi p) (h1 : waOK vGr w1) (h2 : rdW n gh gi w0 p x3 w1) (hb : ∀ k, k < 100 → w0 k = 0 ∨ w0 k = 1)
    (Kf : Int32 → Int32 → (Nat → Int32) → Int32 × (Nat → Int32)) (Ko : Int32 → Int32 → (Nat → Int32) → Prop) (Ph : Int32 × (Nat → Int32) → Prop) (hK : ∀ x3 x6 w, waOK vGr w → rdW n gh gi w0 (p + 1) x3 w → Ph (Kf x3 x6 w) ∧ Ko x3 x6 w) :
    Ph (l_M_leads_95 (nI p) 1 gh gi Kf N_ x3 0 w1) ∧ ol_M_leads_95 (nI p) 1 gh gi Ko N_ x3 0 w1 := by
  have hn := hg.1
  obtain ⟨h, hh, eh⟩ := head_lt hg hp
  obtain ⟨-, i0, -⟩ := hg.2 p hp
  obtain ⟨a, ha, ea⟩ := isIt_sym i0 hs.1
  have hst := hR.2.2.2.1 p hp hs
  rw [eh, ea, n_clamp (by omega), n_clamp (by omega)] at hst
  have e0 : ((3 : Int32) * nI p).toNatClampNeg = 3 * p := by rw [q_3, n_clamp (by omega)]
  have v0 : vp_in ((3 : Int32) * nI p) 72 := by rw [q_3]; exact n_in (by omega) (by omega)
  have ep : (nI p).toNatClampNeg = p := n_clamp (by omega)
  have vp : vp_in (nI p) 24 := n_in (by omega) (by omega)
  refine rj_M_leads_95 (nI p) 1 gh gi Kf Ko (fun _ x _ => 100 - x.toNatClampNeg)
    (fun x3 x6 w => ∃ s, s ≤ 10 ∧ x6 = nI s ∧ waOK vGr w ∧ rdW n gh gi w0 p x3 w ∧ (x3 = 0 → ∀ s', s' < s → w0 (10 * s' + h) = 1 → w0 (10 * s' + a) = 1)) Ph ?_ N_ x3 0 w1 ?_ ⟨0, by omega, rfl, h1, h2, fun _ s' h => absurd h (Nat.not_lt_zero _)⟩
  · intro rec reco x3 x6 w ⟨s, hs10, e6, w1, w2, w3⟩ ih
    unfold s_M_leads_95 os_M_leads_95
    have e10 : ((10 : Int32) ≤ x6) = (s = 10) := n_cnt (n := 10) e6 hs10 (by omega)
    simp only [e10, if_neg m10.1]
    by_cases c0 : s = 10
    · simp only [if_pos c0]
      refine hK x3 x6 w w1 ⟨w2.1, w2.2.1, w2.2.2.1, fun q => ⟨(w2.2.2.2 q).1, fun p' q1 q2 s' q3 q4 => ?_⟩⟩
      by_cases c1 : p' = p
      · subst c1
        rw [eh, n_clamp (by omega)] at q4
        rw [ea, n_clamp (by omega)]
        exact w3 q s' (by omega) q4
      · exact (w2.2.2.2 q).2 p' (by omega) q2 s' q3 q4
    · subst e6
      have e5 : ((10 : Int32) * nI s + nI h) = nI (10 * s + h) := by show nI 10 * nI s + nI h = _; rw [n_mul, n_add]
      have e7 : ((10 : Int32) * nI s + nI a) = nI (10 * s + a) := by show nI 10 * nI s + nI a = _; rw [n_mul, n_add]
      have v5 : vp_in (nI (10 * s + h)) 100 := n_in (by omega) (by omega)
      have v7 : vp_in (nI (10 * s + a)) 100 := n_in (by omega) (by omega)
      have hmu : 100 - (nI s + 1).toNatClampNeg < 100 - (nI s).toNatClampNeg := by rw [n_1, n_clamp (by omega), n_clamp (by omega)]; omega
      simp (disch := omega) only [if_neg c0, ep, e0, eh, ea, e5, e7, n_clamp, nar1.1]
      by_cases c1 : w (10 * s + h) = 0
      · simp only [if_pos c1]
        have := ih x3 (nI s + 1) w ⟨s + 1, by omega, n_1, w1, w2, fun q s' q1 q2 => ?_⟩ hmu
        · exact ⟨this.1, vp, v5, this.2⟩
        · by_cases c2 : s' = s
          · subst c2; have := (w2.2.2.2 q).1 (10 * s' + h) (by omega); rw [c1, q2] at this; exact absurd this (by decide)
          · exact w3 q s' (by omega) q2
      · have c1' : w (10 * s + h) = 1 := (w1.1 _ (by omega)).elim (fun z => absurd z c1) id
        simp only [if_neg c1]
        by_cases c2 : w (10 * s + a) = 0
        · simp only [if_pos c2]
          have hle : cntW w0 ≤ cntW w := cntW_le w2.2.1
          have hup := cntW_up (w := w) (k := 10 * s + a) (by omega) c2
          have := ih 1 (nI s + 1) (upd w (10 * s + a) 1) ⟨s + 1, by omega, n_1, ⟨fun k hk => ?_, fun s' hs' => ?_, fun s' t q1 q2 q3 => ?_⟩, ⟨Or.inr rfl, fun k hk q => ?_, fun _ => by omega, fun q => absurd q m10.1⟩, fun q => absurd q m10.1⟩ hmu
          · exact ⟨this.1, vp, v5, v0, v7, v0, v7, this.2⟩
          · rw [n_upd]; split
            · exact Or.inr rfl
            · exact w1.1 k hk
          · rw [n_upd]; split
            · rfl
            · exact w1.2.1 s' hs'
          · rw [n_upd] at q3
            by_cases q4 : 10 * s' + t = 10 * s + a
            · obtain ⟨rfl, rfl⟩ : s' = s ∧ t = a := by omega
              rcases w1.2.2 s' h q1 hh c1' with z | z
              · subst z; exact Or.inr hst
              · exact Or.inr (hR.2.1 s' h t q1 hh q2 z hst)
            · rw [if_neg q4] at q3; exact w1.2.2 s' t q1 q2 q3
          · rw [n_upd]; split
            · rfl
            · exact w2.2.1 k hk q
        · have c2' : w (10 * s + a) = 1 := (w1.1 _ (by omega)).elim (fun z => absurd z c2) id
          simp only [if_neg c2]
          have := ih x3 (nI s + 1) w ⟨s + 1, by omega, n_1, w1, w2, fun q s' q1 q2 => ?_⟩ hmu
          · exact ⟨this.1, vp, v5, v0, v7, this.2⟩
          · by_cases c3 : s' = s
            · subst c3; have := (w2.2.2.2 q).1 (10 * s' + a) (by omega); rw [c2'] at this; exact this.symm
            · exact w3 q s' (by omega) q2
  · show 100 - (nI 0).toNatClampNeg < N_
    rw [n_clamp (by omega)]; omega
theorem q_l47 {N_ n : Nat} {gh gi gc vGr w0 : Nat → Int32} (hN : 2000 ≤ N_) (hg : gOK n gh gi gc) (hR : reOK n gh gi vGr) (h1 : waOK vGr w0)
    (Kf : Int32 → Int32 → (Nat → Int32) → Int32 × (Nat → Int32)) (Ko : Int32 → Int32 → (Nat → Int32) → Prop) (Ph : Int32 × (Nat → Int32) → Prop) (hK : ∀ x3 x4 w, waOK vGr w → rdW n gh gi w0 n x3 w → Ph (Kf x3 x4 w) ∧ Ko x3 x4 w) :
    Ph (l_M_leads_47 N_ (nI n) gh gi Kf N_ 0 0 w0) ∧ ol_M_leads_47 N_ (nI n) gh gi Ko N_ 0 0 w0 := by
  have hn := hg.1
  refine rj_M_leads_47 N_ (nI n) gh gi Kf Ko (fun _ x _ => 100 - x.toNatClampNeg)
    (fun x3 x4 w => ∃ p, p ≤ n ∧ x4 = nI p ∧ waOK vGr w ∧ rdW n gh gi w0 p x3 w) Ph ?_ N_ 0 0 w0 ?_ ⟨0, by omega, rfl, h1, Or.inl rfl, fun _ _ h => h, fun q => absurd q (by decide), fun _ => ⟨fun _ _ => rfl, fun _ h => absurd h (Nat.not_lt_zero _)⟩⟩
  · intro rec reco x3 x4 w ⟨p, hp, e4, w1, w2⟩ ih
    unfold s_M_leads_47 os_M_leads_47
    simp only [n_cnt e4 hp (by omega)]
    by_cases c0 : p = n
    · simp only [if_pos c0]
      subst c0
      exact hK x3 x4 w w1 w2
    · subst e4
      have hpn : p < n := by omega
      have e0 : ((3 : Int32) * nI p).toNatClampNeg = 3 * p := by rw [q_3, n_clamp (by omega)]
      have e1 : ((3 : Int32) * nI p + 1).toNatClampNeg = 3 * p + 1 := by rw [q_3, n_1, n_clamp (by omega)]
      have v0 : vp_in ((3 : Int32) * nI p) 72 := by rw [q_3]; exact n_in (by omega) (by omega)
      have v1 : vp_in ((3 : Int32) * nI p + 1) 72 := by rw [q_3, n_1]; exact n_in (by omega) (by omega)
      have hmu : 100 - (nI p + 1).toNatClampNeg < 100 - (nI p).toNatClampNeg := by rw [n_1, n_clamp (by omega), n_clamp (by omega)]; omega
      have hno : ¬ isStp gi p → Ph (l_M_leads_95 (nI p) 0 gh gi (fun x3 _ w => rec x3 (nI p + 1) w) N_ x3 0 w) ∧ ol_M_leads_95 (nI p) 0 gh gi (fun x3 _ w => reco x3 (nI p + 1) w) N_ x3 0 w := by
        intro hns
        obtain ⟨m, rfl⟩ : ∃ q, N_ = q + 1 := ⟨N_ - 1, by omega⟩
        have := ih x3 (nI p + 1) w ⟨p + 1, by omega, n_1, w1, w2.1, w2.2.1, w2.2.2.1, fun q => ⟨(w2.2.2.2 q).1, fun p' q1 q2 => ?_⟩⟩ hmu
        · show Ph (s_M_leads_95 _ (nI p) 0 gh gi _ x3 0 w) ∧ os_M_leads_95 _ (nI p) 0 gh gi _ x3 0 w
          unfold s_M_leads_95 os_M_leads_95
          simp only [show ¬ (10 : Int32) ≤ 0 by decide, if_false, if_true]
          exact this
        · by_cases c1 : p' = p
          · subst c1; exact absurd q2 hns
          · exact (w2.2.2.2 q).2 p' (by omega) q2
      simp only [if_neg c0, e0, e1]
      by_cases c1 : (10 : Int32) ≤ gi (3 * p)
      · simp only [if_pos c1]
        have := hno (fun q => by have a := x_lt q.1; have b := x_le c1; rw [d_10] at a b; omega)
        exact ⟨this.1, v0, this.2⟩
      · have c1' : gi (3 * p) < 10 := Int32.lt_iff_toInt_lt.mpr (x_nle c1)
        simp only [if_neg c1]
        by_cases c2 : gi (3 * p + 1) = -1
        · simp only [if_pos c2]
          have := q_l95 (x3 := x3) (w1 := w) hN hg hR hpn ⟨c1', c2⟩ w1 w2 h1.1 (fun x3 _ w => rec x3 (nI p + 1) w) (fun x3 _ w => reco x3 (nI p + 1) w) Ph (fun x3 x6 w q1 q2 => ih x3 (nI p + 1) w ⟨p + 1, by omega, n_1, q1, q2⟩ hmu)
          exact ⟨this.1, v0, v1, this.2⟩
        · simp only [if_neg c2]
          have := hno (fun q => c2 q.2)
          exact ⟨this.1, v0, v1, this.2⟩
  · show 100 - (nI 0).toNatClampNeg < N_
    rw [n_clamp (by omega)]; omega
theorem div10 : ∀ k : Fin 100, nI k.1 / 10 = nI (k.1 / 10) ∧ nI k.1 - nI k.1 / 10 * 10 = nI (k.1 % 10) := by decide +kernel
def ldR (vGr : Nat → Int32) (a h : Nat) (u : Int32 × (Nat → Int32)) : Prop := (u.1 = 1 ∧ (a = h ∨ bt (vGr a) h = true)) ∨ (u.1 = 0 ∧ ¬ (a = h ∨ bt (vGr a) h = true))
theorem q_leads {N_ n a h : Nat} {gh gi gc vGr vMs : Nat → Int32} (hN : 2000 ≤ N_) (hg : gOK n gh gi gc) (hR : reOK n gh gi vGr) (ha : a < 10) (hh : h < 10) :
    (ldR vGr a h) (f_M_leads N_ (nI n) gh gi vMs (nI a) (nI h)) ∧ o_M_leads N_ (nI n) gh gi vMs (nI a) (nI h) := by
  have e5 : ((10 : Int32) * nI a + nI h) = nI (10 * a + h) := by show nI 10 * nI a + nI h = _; rw [n_mul, n_add]
  unfold f_M_leads o_M_leads
  simp (disch := omega) only [e5, n_clamp]
  refine rj_M_leads_2 _ _ (fun x _ => 200 - x.toNatClampNeg) (fun x w => ∃ k, k ≤ 100 ∧ x = nI k ∧ ∀ j, j < k → w j = if j / 10 = j % 10 then 1 else 0) (ldR vGr a h) ?_ N_ 0 vMs ?_ ⟨0, by omega, rfl, fun j h => absurd h (Nat.not_lt_zero _)⟩
  · intro rec reco x w ⟨k, hk, ex, h1⟩ ih
    unfold s_M_leads_2 os_M_leads_2
    have e10 : ((100 : Int32) ≤ x) = (k = 100) := by
      subst ex; show (nI 100 ≤ nI k) = _; rw [n_le (by omega) (by omega)]; apply propext; omega
    simp only [e10]
    by_cases c0 : k = 100
    · simp only [if_pos c0]
      subst c0
      have hw : waOK vGr w := by
        refine ⟨fun k hk => ?_, fun s hs => ?_, fun s t hs ht q => ?_⟩
        · rw [h1 k hk]; split
          · exact Or.inr rfl
          · exact Or.inl rfl
        · rw [h1 _ (by omega), if_pos (by omega)]
        · rw [h1 _ (by omega)] at q
          by_cases c : (10 * s + t) / 10 = (10 * s + t) % 10
          · left; omega
          · rw [if_neg c] at q; exact absurd q (by decide)
      refine rj_M_leads_38 N_ (nI n) gh gi _ _ (fun x3 w => if x3 = 0 then 0 else 1 + (100 - cntW w)) (fun x3 w => waOK vGr w ∧ ((x3 = 0 ∧ ∀ p', p' < n → isStp gi p' → ∀ s, s < 10 → w (10 * s + (gh p').toNatClampNeg) = 1 → w (10 * s + (gi (3 * p')).toNatClampNeg) = 1) ∨ x3 = 1)) (ldR vGr a h) ?_ N_ 1 w ?_ ⟨hw, Or.inr rfl⟩
      · clear ih
        intro rec reco x3 w ⟨w1, w2⟩ ih
        unfold s_M_leads_38 os_M_leads_38
        rcases w2 with ⟨w2, w3⟩ | w2
        · simp only [if_pos w2]
          have hcl : (a = h ∨ bt (vGr a) h = true) → w (10 * a + h) = 1 := by
            rintro (q | q)
            · subst q; exact w1.2.1 a ha
            · exact (hR.2.2.2.2 (fun s t => s < 10 → w (10 * s + t) = 1) (fun s hs => w1.2.1 s hs) (fun s p hp hst z hs => w3 p hp hst s hs (z hs)) a h ha hh q) ha
          refine ⟨?_, n_in (by omega) (by omega), w1.1 _ (by omega), trivial⟩
          rcases w1.1 (10 * a + h) (by omega) with q | q
          · right; exact ⟨q, fun z => by have := hcl z; rw [q] at this; exact absurd this (by decide)⟩
          · left; exact ⟨q, w1.2.2 a h ha hh q⟩
        · have h0 : ¬ x3 = 0 := by rw [w2]; decide
          simp only [if_neg h0]
          refine q_l47 hN hg hR w1 (fun x3 _ w => rec x3 w) (fun x3 _ w => reco x3 w) (ldR vGr a h) (fun y3 x4 w' q1 q2 => ih y3 w' ⟨q1, ?_⟩ ?_)
          · rcases q2.1 with q | q
            · left
              obtain ⟨z1, z2⟩ := q2.2.2.2 q
              refine ⟨q, fun p' hp' hs' s hs z => ?_⟩
              obtain ⟨h', hh', eh'⟩ := head_lt hg hp'
              obtain ⟨-, i0, -⟩ := hg.2 p' hp'
              obtain ⟨a', ha', ea'⟩ := isIt_sym i0 hs'.1
              have z3 := z2 p' hp' hs' s hs
              rw [eh', ea', n_clamp (by omega), n_clamp (by omega)] at z3
              rw [eh', n_clamp (by omega), z1 _ (by omega)] at z
              rw [ea', n_clamp (by omega), z1 _ (by omega)]
              exact z3 z
            · exact Or.inr q
          · rw [if_neg h0]
            rcases q2.1 with q | q
            · rw [if_pos q]; omega
            · rw [if_neg (by rw [q]; decide)]
              have := q2.2.2.1 q
              have : cntW w' ≤ 100 := cntB_top
              omega
      · show (if (1 : Int32) = 0 then 0 else 1 + (100 - cntW w)) < N_
        rw [if_neg (by decide)]; omega
    · subst ex
      have hk' : k < 100 := by omega
      obtain ⟨d1, d2⟩ := div10 ⟨k, hk'⟩
      have hmu : 200 - (nI k + 1).toNatClampNeg < 200 - (nI k).toNatClampNeg := by rw [n_1, n_clamp (by omega), n_clamp (by omega)]; omega
      have hv : vp_in (nI k) 100 := n_in (by omega) hk'
      simp (disch := omega) only [if_neg c0, d2, n_clamp, nar1.1, nar1.2]
      simp only [d1]
      simp (disch := omega) only [n_eq]
      by_cases c1 : k / 10 = k % 10
      · simp only [if_pos c1]
        have := ih (nI k + 1) (upd w k 1) ⟨k + 1, by omega, n_1, fun j hj => by
          rw [n_upd]
          by_cases q : j = k
          · subst q; rw [if_pos rfl, if_pos c1]
          · rw [if_neg q]; exact h1 j (by omega)⟩ hmu
        exact ⟨this.1, hv, this.2⟩
      · simp only [if_neg c1]
        have := ih (nI k + 1) (upd w k 0) ⟨k + 1, by omega, n_1, fun j hj => by
          rw [n_upd]
          by_cases q : j = k
          · subst q; rw [if_pos rfl, if_neg c1]
          · rw [if_neg q]; exact h1 j (by omega)⟩ hmu
        exact ⟨this.1, hv, this.2⟩
  · show 200 - (nI 0).toNatClampNeg < N_
    rw [n_clamp (by omega)]; omega
