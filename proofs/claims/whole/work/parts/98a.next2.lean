theorem k_lookFrom {N_ n m to rl a : Nat} {gh gi gc rt vCn vCc N0 : Nat → Int32} {F : Int32} {lv : Nat → Nat} (hN : 1000 ≤ N_) (hg : gOK n gh gi gc) (hl : lvOK n gh gi lv) (hr : rl ≤ 24) (hto : to ≤ rl) (hm : m ≤ to) (hC : colOK n to gh gi gc rt vCn vCc) (ha : a ≤ m) (h0 : nxP n m gh gi F (tE n gh gi gc rt) (a + 1) N0) :
    nxP n m gh gi F (tE n gh gi gc rt) a (f_O_lookFrom N_ (nI m) N0 vCn F (nI n) gh gi (nI rl) rt (nI a)) ∧ o_O_lookFrom N_ (nI m) N0 vCn F (nI n) gh gi (nI rl) rt (nI a) := by
  unfold f_O_lookFrom o_O_lookFrom
  refine rj_O_lookFrom_2 (nI a) _ _ (fun x _ => 100 - x.toNatClampNeg) (fun x N => ∃ k, k ≤ 10 ∧ x = nI k ∧ frO a N0 N ∧ ∀ s, s < k → N (a * 10 + s) = 0) (nxP n m gh gi F (tE n gh gi gc rt) a) ?_ N_ _ _ ?_ ?_
  · intro rec reco x N hI ih
    obtain ⟨k, hk, rfl, h1, h2⟩ := hI
    unfold s_O_lookFrom_2 os_O_lookFrom_2
    simp (disch := omega) only [q_10, n_le, bd_def, n_1]
    by_cases c : 10 ≤ k
    · simp only [if_pos c]
      refine k_lf23 hN hg hl hr hto hm hC ha h0 h1 (fun s hs => h2 s (by omega)) _ _ (nxP n m gh gi F (tE n gh gi gc rt) a) ?_
      intro x N g1 g2 g3 g4
      refine k_lf74 hN hg (show m ≤ 24 by omega) ha g1 g2 g3 g4 _ _ (nxP n m gh gi F (tE n gh gi gc rt) a) ?_
      intro x y N f1 f2 f3 f4 f5
      refine ⟨?_, trivial⟩
      intro b hb hbm
      by_cases cb : b = a
      · subst cb
        refine ⟨f2, f3, ?_⟩
        intro p' s x c' t y1 y2 y3 y4 y5 y6 y7
        rcases chd_ge y5 with ⟨rfl, rfl⟩ | q
        · exact f5 t y6 p' s y1 y2 y3 y4 y7
        · exact f4 p' s x c' t y1 y2 y3 y4 y5 q y6 y7
      · obtain ⟨d1, d2, d3⟩ := h0 b (by omega) hbm
        refine ⟨?_, ?_, ?_⟩
        · intro s hs k hk hk2
          rw [f1 b s (by omega) hs cb]; exact d1 s hs k hk hk2
        · intro s t hs ht q
          rw [f1 b s (by omega) hs cb] at q; exact d2 s t hs ht q
        · intro p' s x c' t y1 y2 y3 y4 y5 y6 y7
          have hc' := y5.1
          have hge : b ≤ c' := by
            rcases chd_ge y5 with ⟨q, -⟩ | q <;> omega
          rw [f1 b s (by omega) y2 cb]
          exact d3 p' s x c' t y1 y2 y3 y4 y5 y6 ((itB_fr f1 (by omega) (by omega)).mp y7)
    · simp only [if_neg c]
      obtain ⟨w1, w2⟩ := k_owrite (N := N) (v := 0) (show k < 10 by omega) (show a < 25 by omega)
      have w1 : f_O_write N (nI k) (nI a) 0 = upd N (a * 10 + k) 0 := w1
      simp only [w1]
      have := ih (nI (k + 1)) (upd N (a * 10 + k) 0) ⟨k + 1, by omega, rfl, fun b s hb hs hba => by
          rw [n_upd, if_neg (by omega)]; exact h1 b s hb hs hba, fun s hs => by
          rw [n_upd]; split
          · rfl
          · exact h2 s (by omega)⟩ (by
        show 100 - (nI (k + 1)).toNatClampNeg < 100 - (nI k).toNatClampNeg
        rw [n_clamp (by omega), n_clamp (by omega)]; omega)
      exact ⟨this.1, w2, this.2⟩
  · show 100 - (0 : Int32).toNatClampNeg < N_
    omega
  · exact ⟨0, Nat.zero_le _, rfl, fun _ _ _ _ _ => rfl, fun s hs => absurd hs (Nat.not_lt_zero s)⟩
theorem k_tokens {N_ n m to rl : Nat} {gh gi gc rt vCn vCc N0 : Nat → Int32} {E F : Int32} {lv : Nat → Nat} (hN : 1000 ≤ N_) (hg : gOK n gh gi gc) (hl : lvOK n gh gi lv) (hr : rl ≤ 24) (hto : to ≤ rl) (hm : m ≤ to) (hC : colOK n to gh gi gc rt vCn vCc) :
    (fun u : Int32 × Int32 × (Nat → Int32) => ∃ N, u.1 = N 0 ∧ nxP n m gh gi F (tE n gh gi gc rt) 0 N) (f_O_tokensBehind N_ E N0 vCn F (nI n) gh gi (nI rl) rt (nI m)) ∧ o_O_tokensBehind N_ E N0 vCn F (nI n) gh gi (nI rl) rt (nI m) := by
  unfold f_O_tokensBehind o_O_tokensBehind
  refine rj_O_tokensBehind_7 N_ (nI m) vCn F (nI n) gh gi (nI rl) rt _ _ (fun x _ => (x.toInt + 1).toNat) (fun x N => (x = -1 ∧ nxP n m gh gi F (tE n gh gi gc rt) 0 N) ∨ ∃ a, a ≤ m ∧ x = nI a ∧ nxP n m gh gi F (tE n gh gi gc rt) (a + 1) N) (fun u : Int32 × Int32 × (Nat → Int32) => ∃ N, u.1 = N 0 ∧ nxP n m gh gi F (tE n gh gi gc rt) 0 N) ?_ N_ _ _ ?_ ?_
  · intro rec reco x N hI ih
    unfold s_O_tokensBehind_7 os_O_tokensBehind_7
    rcases hI with ⟨rfl, h⟩ | ⟨a, ha, rfl, h⟩
    · simp only [if_pos (show (-1 : Int32) < 0 by decide), bd_def]
      obtain ⟨k1, k2⟩ := k_iNs (m := m) (N := N) (s := 0) (b := 0) (by omega) (by omega)
      exact ⟨⟨N, k1, h⟩, k2, trivial⟩
    · have c : ¬ nI a < 0 := by rw [q_0, n_lt (by omega) (by omega)]; omega
      simp only [if_neg c, bd_def]
      obtain ⟨k1, k2⟩ := k_lookFrom (N_ := N_) hN hg hl hr hto hm hC ha h
      generalize f_O_lookFrom N_ (nI m) N vCn F (nI n) gh gi (nI rl) rt (nI a) = N' at *
      have ed := x_dec (a := nI a) (by rw [n_tI (by omega)]; omega)
      rw [n_tI (by omega)] at ed
      have := ih (nI a + -1) N' (by
        by_cases ca : a = 0
        · left
          subst ca
          exact ⟨by decide, k1⟩
        · right
          refine ⟨a - 1, by omega, ?_, ?_⟩
          · show nI a + -nI 1 = _
            exact n_addm (by omega)
          · rw [show a - 1 + 1 = a by omega]; exact k1) (by
        show ((nI a + -1).toInt + 1).toNat < ((nI a).toInt + 1).toNat
        rw [ed, n_tI (by omega)]; omega)
      exact ⟨this.1, k2, this.2⟩
  · show ((nI m).toInt + 1).toNat < N_
    rw [n_tI (by omega)]; omega
  · right
    exact ⟨m, Nat.le_refl m, rfl, fun b hb hb2 => by omega⟩
theorem next_same {n m : Nat} {gh gi gc : Nat → Int32} {F X : Int32} {tr : Int32 → Nat → Nat → Prop} {N : Nat → Int32} (h : nxP n m gh gi F tr 0 N) (hX : nxM n m gh gi F tr X) : N 0 = X := by
  apply bt_ext
  intro t ht
  obtain ⟨h1, h2, h3⟩ := h 0 (Nat.le_refl 0) (Nat.zero_le m)
  by_cases c : t < 10
  · have key : bt (N 0) t = true ↔ bt X t = true := by
      rw [hX t ht]
      constructor
      · intro q
        have hRB := h2 0 t (by omega) c q
        have := hRB (fun b s => RW n m gh gi F tr b s → nxT n m gh gi F tr t) (by
          intro b s p x c' y1 y2 y3 y4 y5 y6 y7 hRW
          rcases y7 with ⟨rfl, rfl⟩ | ⟨s', z1, rfl, z2⟩
          · exact ⟨c, b, s, p, y1, y2, hRW, y3, y4, y5, y6⟩
          · exact z2 (RW_cl.2 b s p c' s' y1 hRW y3 y4 y5 z1 y6))
        exact this RW_cl.1
      · intro ⟨_, a, s, p, y1, y2, hRW, y3, y4, y5, y6⟩
        have hb := (h a (Nat.zero_le a) y1).2.2 p s _ _ t y3 y2 y4 y5 y6 c (Or.inl ⟨rfl, rfl⟩)
        have := hRW (fun a s => s < 10 ∧ a ≤ m ∧ (bt (N (a * 10 + s)) t = true → bt (N 0) t = true)) (by
          refine ⟨⟨by omega, Nat.zero_le m, fun q => q⟩, ?_⟩
          intro a s p b s' z1 z2 z3 z4 z5 z6 z7
          refine ⟨z6, z7.1, fun q => z2.2.2 ?_⟩
          exact (h a (Nat.zero_le a) z1).2.2 p s _ b t z3 z2.1 z4 z5 z7 c (Or.inr ⟨s', z6, rfl, q⟩))
        exact this.2.2 hb
    cases e1 : bt (N 0) t <;> cases e2 : bt X t <;> simp_all
  · have e1 : bt (N 0) t = false := h1 0 (by omega) t (by omega) ht
    have e2 : bt X t = false := by
      cases e : bt X t with
      | false => rfl
      | true => exact absurd ((hX t ht).mp e).1 c
    rw [e1, e2]
def nrR (n m : Nat) (gh gi gc rt : Nat → Int32) (F B : Int32) (Mn Ml : Nat → Int32) (u : Int32 × Int32 × Int32 × Int32 × Int32 × Int32 × Int32 × (Nat → Int32) × (Nat → Int32) × (Nat → Int32) × (Nat → Int32)) : Prop := (∃ X, nxM n m gh gi F (tE n gh gi gc rt) X ∧ u.1 = if m ≠ 0 ∧ (vV n gh gi gc rt 0 0 m).1 ≠ 0 then X ||| 1024 else X) ∧ u.2.1 = 0 ∧ u.2.2.1 = B ∧ u.2.2.2.2.2.2.2.1 = Mn ∧ u.2.2.2.2.2.2.2.2.1 = Ml
theorem fits_next : fit_next 10000 relM := by
  intro vU vFW vFB vFE vFN vFL vFX vFY vFs vFf vFt vFn vFd vOE vOn vTS vTf vCF vCn vCc vCr vCs vGF vGS vGh vGi vGc vGo vGr vRL vRt vMT vMP vMK vMB vMD vME vMO vMF vMS vMX vMW vMh vMi vMc vMt vMn vMl vMs vMd vMe vMo vMw vMu p0 hR
  obtain ⟨n, rl, fl, nd, ⟨rfl, rfl, rfl, rfl, hrl, rfl, hfl, rfl, rfl, hnd⟩, ⟨rfl, rfl, rfl, rfl⟩, hg, ht, htr, hre, hor, hfe, hco, hmo⟩ := hR
  obtain ⟨lv, hl⟩ := relM_lv hg hre
  obtain ⟨m1, m2, m3, m4⟩ := m10
  have hrel0 : relM (nI nd) vTf (nI fl) vCn vCc vGF (nI n) vGh vGi vGc vGo vGr (nI rl) vRt (nI n) (nI rl) vMB (nI nd) vGh vGi vGc vRt vMn vMl vMd := ⟨n, rl, fl, nd, ⟨rfl, rfl, rfl, rfl, hrl, rfl, hfl, rfl, rfl, hnd⟩, ⟨rfl, rfl, rfl, rfl⟩, hg, ht, htr, hre, hor, hfe, hco, hmo⟩
  unfold o_L_next f_L_next o_H_next f_H_next o_M_next f_M_next
  simp only [bd_def, w_in, d_0, n_tI (show rl < 2147483648 by omega)]
  by_cases c1 : p0 < 0
  · have h1 := x_lt c1; rw [d_0] at h1
    have h2 : ¬ (0 ≤ p0.toInt ∧ p0.toInt ≤ (rl : Int)) := by omega
    simp only [↓if_pos c1, ↓if_neg h2, ↓if_true, w_ref1, ↓if_neg m1, ↓if_neg m2]
    exact ⟨⟨trivial, Or.inr trivial⟩, trivial, trivial, fun q => absurd q m1, hrel0⟩
  · have h1 := x_nlt c1; rw [d_0] at h1
    obtain ⟨m, rfl, em, hm31⟩ := n_of h1
    by_cases c2 : m ≤ rl
    · have c2' : nI m ≤ nI rl := by rw [n_le (by omega) (by omega)]; exact c2
      have h2 : 0 ≤ (nI m).toInt ∧ (nI m).toInt ≤ (rl : Int) := by omega
      obtain ⟨⟨k1, k2⟩, k3⟩ := k_fill (vCr := vCr) (vCs := vCs) (N_ := 10000) (by omega) hg hl hor hrl (to := m) c2 hfl hco
      obtain ⟨⟨q1, q2⟩, q3⟩ := q_know (N_ := 10000) (F := vMF) (S := vMS) (vMB := vMB) (vMn := vMn) (vMl := vMl) (by omega) hg hl hrl hmo
      obtain ⟨u1, u2⟩ := q_findUseful (N_ := 10000) (u := vMu) (by omega) hg hfe
      simp only [↓if_neg c1, ↓if_pos c2', ↓if_pos h2, ↓if_neg m1, w_ref0, ↓if_true]
      generalize f_C_fill 10000 (nI fl) vCn vCc vCr vCs (nI n) vGh vGi vGc vGo (nI rl) vRt (nI m) = u at *
      generalize f_M_know 10000 (nI n) (nI rl) vMB vMF vMS vGh vGi vGc vRt vMn vMl = w at *
      generalize f_M_findUseful 10000 (nI n) vGh vGi vMu = us at *
      have hmx : m ≤ maxN fl m ∧ maxN fl m ≤ rl := by unfold maxN; split <;> omega
      obtain ⟨⟨N, t1, t2⟩, t3⟩ := k_tokens (N_ := 10000) (E := vOE) (N0 := vOn) (F := vGF) (by omega) hg hl hrl hmx.2 hmx.1 k2
      have hit : isIt1 (nI 0) := Or.inr ⟨by decide, by decide⟩
      obtain ⟨e1, e2⟩ := k_trees (rl := rl) (i := 0) (j := m) (rt := vRt) (vCn := u.2.1) (tb := vV n vGh vGi vGc vRt) hit hrl c2 (by omega) (fun s hs _ hh => (k2 s 0 m hs hh hmx.1).1)
      have hsat : (vV n vGh vGi vGc vRt 0 0 m).1 ≤ 1000000000 := vV_sat
      have eit : itE vRt (vV n vGh vGi vGc vRt) (nI 0) 0 m = if 0 < m then vV n vGh vGi vGc vRt 0 0 m else eZ := by
        unfold itE
        rw [if_neg (show ¬ nI 0 = -1 by decide), if_pos (show nI 0 < 10 by decide), n_clamp (by omega)]
      have e1 : f_C_trees u.2.1 (nI rl) vRt 0 0 (nI m) = nI (itE vRt (vV n vGh vGi vGc vRt) (nI 0) 0 m).1 := e1
      have e2 : o_C_trees u.2.1 (nI rl) vRt 0 0 (nI m) := e2
      rw [eit] at e1
      have ref : nrR n m vGh vGi vGc vRt vGF w.1 w.2.2.2.1 w.2.2.2.2 (l_M_next_43 (fun x2_43 vMw_43 => (l_M_next_76 10000 (nI m) (nI n) vGh vGi vRt w.2.2.2.1 us (fun x2_76 vMX_76 vMW_76 vMw_76 => (if nI m ≤ 0 then (vMX_76, 0, w.1, w.2.1, w.2.2.1, vMX_76, vMW_76, w.2.2.2.1, w.2.2.2.2, vMw_76, us) else (if w.2.2.2.1 (f_M_at 0 0 (nI m)).toNatClampNeg ≤ 0 then (vMX_76, 0, w.1, w.2.1, w.2.2.1, vMX_76, vMW_76, w.2.2.2.1, w.2.2.2.2, vMw_76, us) else (vMX_76 ||| 1024, 0, w.1, w.2.1, w.2.2.1, vMX_76, vMW_76, w.2.2.2.1, w.2.2.2.2, vMw_76, us)))) 10000 x2_43 0 1 vMw_43)) 10000 0 vMw) ∧
          ol_M_next_43 (fun x2_43 vMw_43 => (ol_M_next_76 10000 (nI m) (nI n) vGh vGi vRt w.2.2.2.1 us (fun x2_76 vMX_76 vMW_76 vMw_76 => (if nI m ≤ 0 then True else (vp_in (f_M_at 0 0 (nI m)) 6250 ∧ (if w.2.2.2.1 (f_M_at 0 0 (nI m)).toNatClampNeg ≤ 0 then True else True)))) 10000 x2_43 0 1 vMw_43)) 10000 0 vMw := by
        refine q_n43 (by omega) _ _ (nrR n m vGh vGi vGc vRt vGF w.1 w.2.2.2.1 w.2.2.2.2) ?_
        intro x ww hww
        refine q_n76 (by omega) hg hl hrl c2 q2 u1 hww _ _ (nrR n m vGh vGi vGc vRt vGF w.1 w.2.2.2.1 w.2.2.2.2) ?_
        intro x X W ww2 hX
        by_cases cm : m = 0
        · have cm' : nI m ≤ 0 := by rw [cm]; decide
          simp only [if_pos cm']
          exact ⟨⟨⟨X, hX, by rw [if_neg (fun q => q.1 cm)]⟩, rfl, rfl, rfl, rfl⟩, trivial⟩
        · have cm' : ¬ nI m ≤ 0 := by rw [q_0, n_le (by omega) (by omega)]; omega
          have eat : f_M_at 0 0 (nI m) = nI (aN 0 0 m) := q_at (s := 0) (i := 0) (j := m)
          have haN : aN 0 0 m < 6250 := by unfold aN; omega
          have hM := (q2 0 0 m (by omega) (by omega) c2 trivial).1
          simp only [if_neg cm', eat]
          rw [n_clamp (show aN 0 0 m < 2147483648 by omega), hM]
          by_cases cv : (vV n vGh vGi vGc vRt 0 0 m).1 = 0
          · have cv' : nI (vV n vGh vGi vGc vRt 0 0 m).1 ≤ 0 := by rw [cv]; decide
            simp only [if_pos cv']
            exact ⟨⟨⟨X, hX, by rw [if_neg (fun q => q.2 cv)]⟩, rfl, rfl, rfl, rfl⟩, n_in (by omega) haN, trivial⟩
          · have cv' : ¬ nI (vV n vGh vGi vGc vRt 0 0 m).1 ≤ 0 := by rw [q_0, n_le (by omega) (by omega)]; omega
            simp only [if_neg cv']
            exact ⟨⟨⟨X, hX, by rw [if_pos ⟨cm, cv⟩]⟩, rfl, rfl, rfl, rfl⟩, n_in (by omega) haN, trivial⟩
      obtain ⟨⟨⟨X, r1, r2⟩, r3, r4, r5, r6⟩, r7⟩ := ref
      have hNX : N 0 = X := next_same (gc := vGc) t2 r1
      generalize f_O_tokensBehind 10000 vOE vOn u.2.1 vGF (nI n) vGh vGi (nI rl) vRt (nI m) = T at *
      have hrel1 : ∀ z : Int32 × Int32 × Int32 × Int32 × Int32 × Int32 × Int32 × (Nat → Int32) × (Nat → Int32) × (Nat → Int32) × (Nat → Int32), z.2.2.1 = w.1 → z.2.2.2.2.2.2.2.1 = w.2.2.2.1 → z.2.2.2.2.2.2.2.2.1 = w.2.2.2.2 → relM (nI nd) vTf u.1 u.2.1 u.2.2.1 vGF (nI n) vGh vGi vGc vGo vGr (nI rl) vRt (nI n) (nI rl) z.2.2.1 (nI nd) vGh vGi vGc vRt z.2.2.2.2.2.2.2.1 z.2.2.2.2.2.2.2.2.1 vMd := by
        intro z z1 z2 z3
        rw [z1, z2, z3]
        exact ⟨n, rl, maxN fl m, nd, ⟨rfl, rfl, rfl, rfl, hrl, k1, hmx.2, rfl, rfl, hnd⟩, ⟨rfl, rfl, rfl, rfl⟩, hg, ht, htr, hre, hor, hfe, k2, Or.inr ⟨q1, q2⟩⟩
      by_cases cc : m ≠ 0 ∧ (vV n vGh vGi vGc vRt 0 0 m).1 ≠ 0
      · have ce : ¬ f_C_trees u.2.1 (nI rl) vRt 0 0 (nI m) ≤ 0 := by
          rw [e1, if_pos (by omega), q_0, n_le (by omega) (by omega)]
          have := cc.2
          omega
        rw [if_pos cc] at r2
        simp only [↓if_neg ce, ↓if_true]
        refine ⟨⟨⟨k3, e2, t3, trivial⟩, Or.inl trivial⟩, ⟨q3, u2, r7⟩, r3, fun _ => ?_, hrel1 _ r4 r5 r6⟩
        rw [w_U, t1, hNX, r2]
      · have ce : f_C_trees u.2.1 (nI rl) vRt 0 0 (nI m) ≤ 0 := by
          rw [e1]
          split
          · have : (vV n vGh vGi vGc vRt 0 0 m).1 = 0 := by
              cases e : (vV n vGh vGi vGc vRt 0 0 m).1 with
              | zero => rfl
              | succ k => exact absurd ⟨by omega, by omega⟩ cc
            rw [this]; decide
          · decide
        rw [if_neg cc] at r2
        simp only [↓if_pos ce, ↓if_true]
        refine ⟨⟨⟨k3, e2, t3, trivial⟩, Or.inl trivial⟩, ⟨q3, u2, r7⟩, r3, fun _ => ?_, hrel1 _ r4 r5 r6⟩
        rw [w_U, t1, hNX, r2]
        have : X ||| 0 = X := bt_ext (fun k _ => by rw [bt_or, bt_0, Bool.or_false])
        rw [this]
    · have c2' : ¬ nI m ≤ nI rl := by rw [n_le (by omega) (by omega)]; exact c2
      have h2 : ¬ (0 ≤ (nI m).toInt ∧ (nI m).toInt ≤ (rl : Int)) := by omega
      simp only [↓if_neg c1, ↓if_neg c2', ↓if_neg h2, ↓if_true, w_ref1, ↓if_neg m1, ↓if_neg m2]
      exact ⟨⟨trivial, Or.inr trivial⟩, trivial, trivial, fun q => absurd q m1, hrel0⟩
