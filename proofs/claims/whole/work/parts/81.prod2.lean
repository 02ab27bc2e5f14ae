/-! A production more: the order by levels -/
theorem len_filter {P : Nat → Bool} {n : Nat} : ((List.range n).filter P).length = cntB P n := by
  induction n with
  | zero => rfl
  | succ n ih =>
    rw [List.range_succ, List.filter_append, List.length_append, ih]
    show _ = cntB P n + (P n).toNat
    cases e : P n <;> simp [e]
theorem cntB_add {f g h : Nat → Bool} {n : Nat} (hh : ∀ k, k < n → (h k).toNat = (f k).toNat + (g k).toNat) : cntB h n = cntB f n + cntB g n := by
  induction n with
  | zero => rfl
  | succ n ih =>
    show cntB h n + (h n).toNat = cntB f n + (f n).toNat + (cntB g n + (g n).toNat)
    rw [ih (fun k hk => hh k (by omega)), hh n (by omega)]; omega
theorem cntB_mono {f : Nat → Bool} {m n : Nat} (h : m ≤ n) : cntB f m ≤ cntB f n := by
  induction n with
  | zero => rw [Nat.le_zero.mp h]; exact Nat.le_refl _
  | succ n ih =>
    by_cases c : m = n + 1
    · rw [c]; exact Nat.le_refl _
    · exact Nat.le_trans (ih (by omega)) (Nat.le_add_right _ _)
/-- the productions of levels below l, in order -/
def ordLL (n : Nat) (lev : Nat → Nat) : Nat → List Nat
  | 0 => []
  | l + 1 => ordLL n lev l ++ (List.range n).filter (fun p => decide (lev p = l))
theorem ordLL_len {n : Nat} {lev : Nat → Nat} {l : Nat} : (ordLL n lev l).length = cntB (fun p => decide (lev p < l)) n := by
  induction l with
  | zero =>
    show 0 = _
    have : cntB (fun p => decide (lev p < 0)) n = 0 := by
      induction n with
      | zero => rfl
      | succ n ih => show cntB _ n + _ = 0; rw [ih]; rfl
    exact this.symm
  | succ l ih =>
    show (ordLL n lev l ++ (List.range n).filter (fun p => decide (lev p = l))).length = _
    rw [List.length_append, ih, len_filter]
    refine (cntB_add (fun k hk => ?_)).symm
    by_cases c1 : lev k < l
    · have c2 : ¬ lev k = l := by omega
      have c3 : lev k < l + 1 := by omega
      simp [c1, c2, c3]
    · by_cases c2 : lev k = l
      · have c3 : lev k < l + 1 := by omega
        simp [c1, c2]
      · have c3 : ¬ lev k < l + 1 := by omega
        simp [c1, c2, c3]
theorem ordLL_lt {n : Nat} {lev : Nat → Nat} {l p : Nat} (h : p ∈ ordLL n lev l) : p < n ∧ lev p < l := by
  induction l with
  | zero => exact absurd h List.not_mem_nil
  | succ l ih =>
    rcases List.mem_append.mp h with h | h
    · have := ih h; omega
    · rw [List.mem_filter, List.mem_range] at h
      have := of_decide_eq_true h.2
      omega
theorem ordLL_filter {n : Nat} {lev : Nat → Nat} {H : Nat → Bool} {L : Nat} (hH : ∀ p, p < n → H p = true → lev p = L) {l : Nat} : (ordLL n lev l).filter H = if L < l then (List.range n).filter H else [] := by
  induction l with
  | zero => rw [if_neg (by omega)]; rfl
  | succ l ih =>
    show (ordLL n lev l ++ (List.range n).filter (fun p => decide (lev p = l))).filter H = _
    rw [List.filter_append, ih, List.filter_filter]
    by_cases c : L = l
    · subst c
      rw [if_neg (by omega), if_pos (by omega), List.nil_append]
      apply List.filter_congr
      intro p hp
      rw [List.mem_range] at hp
      cases e : H p
      · rfl
      · rw [hH p hp e]; simp
    · have h2 : (List.range n).filter (fun p => H p && decide (lev p = l)) = [] := by
        rw [List.filter_eq_nil_iff]
        intro p hp
        rw [List.mem_range] at hp
        intro q
        rw [Bool.and_eq_true] at q
        have := hH p hp q.1
        have := of_decide_eq_true q.2
        omega
      rw [h2, List.append_nil]
      by_cases c2 : L < l
      · rw [if_pos c2, if_pos (by omega)]
      · rw [if_neg c2, if_neg (by omega)]
theorem getD_mem {L : List Nat} {q : Nat} (h : q < L.length) : L.getD q 0 ∈ L := by
  rw [List.getD_eq_getElem?_getD, List.getElem?_eq_getElem h]
  exact List.getElem_mem h
theorem getD_app1 {L M : List Nat} {q : Nat} (h : q < L.length) : (L ++ M).getD q 0 = L.getD q 0 := by
  rw [List.getD_eq_getElem?_getD, List.getD_eq_getElem?_getD, List.getElem?_append_left h]
theorem getD_app2 {L M : List Nat} {q : Nat} (h : L.length ≤ q) : (L ++ M).getD q 0 = M.getD (q - L.length) 0 := by
  rw [List.getD_eq_getElem?_getD, List.getD_eq_getElem?_getD, List.getElem?_append_right h]
theorem ordLL_sort {n : Nat} {lev : Nat → Nat} {l : Nat} : ∀ q q', q ≤ q' → q' < (ordLL n lev l).length → lev ((ordLL n lev l).getD q 0) ≤ lev ((ordLL n lev l).getD q' 0) := by
  induction l with
  | zero => intro q q' _ h; exact absurd h (Nat.not_lt_zero _)
  | succ l ih =>
    intro q q' h1 h2
    have h2' : q' < (ordLL n lev l ++ (List.range n).filter (fun p => decide (lev p = l))).length := h2
    rw [List.length_append] at h2'
    show lev ((ordLL n lev l ++ (List.range n).filter (fun p => decide (lev p = l))).getD q 0) ≤ lev ((ordLL n lev l ++ (List.range n).filter (fun p => decide (lev p = l))).getD q' 0)
    have hF : ∀ z, z < ((List.range n).filter (fun p => decide (lev p = l))).length → lev (((List.range n).filter (fun p => decide (lev p = l))).getD z 0) = l := by
      intro z hz
      have := getD_mem hz
      rw [List.mem_filter] at this
      exact of_decide_eq_true this.2
    by_cases c1 : q' < (ordLL n lev l).length
    · rw [getD_app1 (by omega), getD_app1 c1]; exact ih q q' h1 c1
    · rw [getD_app2 (q := q') (by omega), hF _ (by omega)]
      by_cases c2 : q < (ordLL n lev l).length
      · rw [getD_app1 c2]; have := (ordLL_lt (getD_mem c2)).2; omega
      · rw [getD_app2 (by omega), hF _ (by omega)]; exact Nat.le_refl _
/-- the level of a production -/
def levP (gh vGr : Nat → Int32) (p : Nat) : Nat := lvR vGr (gh p).toNatClampNeg
theorem ord_ok {n : Nat} {gh gi gc vGr : Nat → Int32} (hg : gOK n gh gi gc) (hR : reOK n gh gi vGr) : ordL n gh gi (ordLL n (levP gh vGr) 10) := by
  have hl := reOK_lv hg hR
  have hlen : (ordLL n (levP gh vGr) 10).length = n := by
    rw [ordLL_len]
    have : ∀ m, m ≤ n → cntB (fun p => decide (levP gh vGr p < 10)) m = m := by
      intro m
      induction m with
      | zero => intro _; rfl
      | succ m ih =>
        intro hm
        have h9 : levP gh vGr m < 10 := by have := hl.1 (gh m).toNatClampNeg; unfold levP; omega
        show cntB _ m + _ = m + 1
        rw [ih (by omega)]; simp [h9]
    exact this n (Nat.le_refl n)
  refine ⟨hlen, fun q hq => (ordLL_lt (getD_mem (by rw [hlen]; exact hq))).1, fun s hs => ?_, fun q hq c1 c2 q' h1 h2 e => ?_⟩
  · rw [ordLL_filter (L := lvR vGr s)]
    · rw [if_pos (by have := hl.1 s; omega)]
    · intro p hp e
      have := of_decide_eq_true e
      unfold levP; rw [this, n_clamp (by omega)]
  · have hpn := (ordLL_lt (getD_mem (L := ordLL n (levP gh vGr) 10) (q := q) (by rw [hlen]; exact hq))).1
    have h3 := ordLL_sort (n := n) (lev := levP gh vGr) (l := 10) q q' h1 (by rw [hlen]; exact h2)
    have h4 := hl.2 _ hpn c1 c2
    have h3 : lvR vGr (gh ((ordLL n (levP gh vGr) 10).getD q 0)).toNatClampNeg ≤ lvR vGr (gh ((ordLL n (levP gh vGr) 10).getD q' 0)).toNatClampNeg := h3
    rw [e] at h3
    omega
set_option maxHeartbeats 1000000 in
theorem k_order12 {N_ n l m : Nat} {gh gi gc vGr vGo : Nat → Int32} (hN : 1000 ≤ N_) (hg : gOK n gh gi gc) (hR : reOK n gh gi vGr) (hl9 : l < 10)
    (rec : Int32 → Int32 → (Nat → Int32) → (Nat → Int32)) (reco : Int32 → Int32 → (Nat → Int32) → Prop) (Ph : (Nat → Int32) → Prop) (em : m = (ordLL n (levP gh vGr) l).length) (h0 : ∀ q, q < m → vGo q = nI ((ordLL n (levP gh vGr) l).getD q 0))
    (hK : ∀ r : Nat → Int32, (∀ q, q < (ordLL n (levP gh vGr) (l + 1)).length → r q = nI ((ordLL n (levP gh vGr) (l + 1)).getD q 0)) → Ph (rec (nI (ordLL n (levP gh vGr) (l + 1)).length) (nI l + 1) r) ∧ reco (nI (ordLL n (levP gh vGr) (l + 1)).length) (nI l + 1) r) :
    Ph (l_G_orderBySteps_12 (nI l) (nI n) gh vGr (fun x1 _ r => rec x1 (nI l + 1) r) N_ (nI m) 0 vGo) ∧ ol_G_orderBySteps_12 (nI l) (nI n) gh vGr (fun x1 _ r => reco x1 (nI l + 1) r) N_ (nI m) 0 vGo := by
  have hn := hg.1
  have hbnd : ∀ p, p ≤ n → (ordLL n (levP gh vGr) l ++ (List.range p).filter (fun p => decide (levP gh vGr p = l))).length = m + cntB (fun p => decide (levP gh vGr p = l)) p := by
    intro p _
    rw [List.length_append, len_filter, em]
  have hall : m + cntB (fun p => decide (levP gh vGr p = l)) n ≤ n := by
    rw [em, ← len_filter, ← List.length_append]
    show (ordLL n (levP gh vGr) (l + 1)).length ≤ n
    rw [ordLL_len]; exact cntB_top
  refine rj_G_orderBySteps_12 (nI l) (nI n) gh vGr (fun x1 _ r => rec x1 (nI l + 1) r) (fun x1 _ r => reco x1 (nI l + 1) r) (fun _ x _ => 100 - x.toNatClampNeg)
    (fun x1 x3 r => ∃ p, p ≤ n ∧ x3 = nI p ∧ x1 = nI (m + cntB (fun p => decide (levP gh vGr p = l)) p) ∧ ∀ q, q < m + cntB (fun p => decide (levP gh vGr p = l)) p → r q = nI ((ordLL n (levP gh vGr) l ++ (List.range p).filter (fun p => decide (levP gh vGr p = l))).getD q 0)) Ph ?_ N_ (nI m) 0 vGo ?_ ⟨0, by omega, rfl, rfl, fun q hq => by simpa using h0 q hq⟩
  · intro rec' reco' x1 x3 r ⟨p, hp, e3, e1, h1⟩ ih
    unfold s_G_orderBySteps_12 os_G_orderBySteps_12
    simp only [n_cnt e3 hp (by omega)]
    by_cases c0 : p = n
    · simp only [if_pos c0]
      subst c0
      have e5 : m + cntB (fun p => decide (levP gh vGr p = l)) p = (ordLL p (levP gh vGr) (l + 1)).length := by
        show _ = (ordLL p (levP gh vGr) l ++ (List.range p).filter (fun p => decide (levP gh vGr p = l))).length
        rw [hbnd p (Nat.le_refl _)]
      rw [e5] at e1 h1
      subst e1
      exact hK r h1
    · subst e3
      have hpn : p < n := by omega
      obtain ⟨g1, -⟩ := hg.2 p hpn
      obtain ⟨h, eh, eh2, eh3⟩ := n_of g1.1
      have hh : h < 10 := by omega
      obtain ⟨k1, k2⟩ := k_reach (vGr := vGr) hh
      have kb := k_bitCount (x := vGr h) (fun k a b => hR.1 h k hh a b)
      have hlev : levP gh vGr p = cntB (bt (vGr h)) 10 := by
        unfold levP lvR; rw [eh, n_clamp (by omega), if_pos hh]
      have hc10 : cntB (bt (vGr h)) 10 ≤ 10 := cntB_top
      have hmon := cntB_mono (f := fun p => decide (levP gh vGr p = l)) (show p + 1 ≤ n by omega)
      have hmon0 := cntB_mono (f := fun p => decide (levP gh vGr p = l)) (show p ≤ n by omega)
      have hmu : 100 - (nI p + 1).toNatClampNeg < 100 - (nI p).toNatClampNeg := by rw [n_1, n_clamp (by omega), n_clamp (by omega)]; omega
      have hv : vp_in (nI p) 24 := n_in (by omega) (by omega)
      have hsucc : cntB (fun p => decide (levP gh vGr p = l)) (p + 1) = cntB (fun p => decide (levP gh vGr p = l)) p + (decide (levP gh vGr p = l)).toNat := rfl
      simp (disch := omega) only [if_neg c0, n_clamp, bd_def, eh, k1, kb, n_eq, ← hlev]
      by_cases c1 : levP gh vGr p = l
      · have hd : (decide (levP gh vGr p = l)).toNat = 1 := by simp [c1]
        rw [hd] at hsucc
        have y1 : ¬ 24 ≤ m + cntB (fun p => decide (levP gh vGr p = l)) p := by omega
        have y2 : ¬ (24 : Int32) ≤ x1 := by rw [e1, d_24, n_le (by omega) (by omega)]; exact y1
        simp only [if_pos c1, if_neg y2]
        have hxc : x1.toNatClampNeg = m + cntB (fun p => decide (levP gh vGr p = l)) p := by rw [e1, n_clamp (by omega)]
        rw [hxc]
        have := ih (x1 + 1) (nI p + 1) (upd r (m + cntB (fun p => decide (levP gh vGr p = l)) p) (nI p)) ⟨p + 1, by omega, n_1, by rw [e1, n_1, hsucc]; rfl, ?_⟩ hmu
        · exact ⟨this.1, hv, k2, by rw [e1]; exact n_in (by omega) (by omega), this.2⟩
        · intro q hq
          have e6 : (List.range (p + 1)).filter (fun p => decide (levP gh vGr p = l)) = (List.range p).filter (fun p => decide (levP gh vGr p = l)) ++ [p] := by
            rw [List.range_succ, List.filter_append]; simp [c1]
          rw [e6, ← List.append_assoc, n_upd]
          have e7 := hbnd p (by omega)
          by_cases c2 : q = m + cntB (fun p => decide (levP gh vGr p = l)) p
          · rw [if_pos c2, getD_app2 (by omega), e7, c2, Nat.sub_self]; rfl
          · rw [if_neg c2, getD_app1 (by omega)]; exact h1 q (by omega)
      · have hd : (decide (levP gh vGr p = l)).toNat = 0 := by simp [c1]
        rw [hd] at hsucc
        simp only [if_neg c1]
        have := ih x1 (nI p + 1) r ⟨p + 1, by omega, n_1, by rw [e1, hsucc]; rfl, ?_⟩ hmu
        · exact ⟨this.1, hv, k2, this.2⟩
        · intro q hq
          have e6 : (List.range (p + 1)).filter (fun p => decide (levP gh vGr p = l)) = (List.range p).filter (fun p => decide (levP gh vGr p = l)) := by
            rw [List.range_succ, List.filter_append]; simp [c1]
          rw [e6]; exact h1 q (by omega)
  · show 100 - (nI 0).toNatClampNeg < N_
    rw [n_clamp (by omega)]; omega
theorem k_orderS {N_ n : Nat} {gh gi gc vGr vGo : Nat → Int32} (hN : 1000 ≤ N_) (hg : gOK n gh gi gc) (hR : reOK n gh gi vGr) : ordOK n gh gi (f_G_orderBySteps N_ (nI n) gh vGo vGr) ∧ o_G_orderBySteps N_ (nI n) gh vGo vGr := by
  have hO := ord_ok hg hR
  unfold f_G_orderBySteps o_G_orderBySteps
  refine rj_G_orderBySteps_4 N_ (nI n) gh vGr _ _ (fun _ x _ => 100 - x.toNatClampNeg)
    (fun x1 x2 r => ∃ l, l ≤ 10 ∧ x2 = nI l ∧ x1 = nI (ordLL n (levP gh vGr) l).length ∧ ∀ q, q < (ordLL n (levP gh vGr) l).length → r q = nI ((ordLL n (levP gh vGr) l).getD q 0)) (fun r => ordOK n gh gi r) ?_ N_ 0 0 vGo ?_ ⟨0, by omega, rfl, rfl, fun q hq => absurd hq (Nat.not_lt_zero _)⟩
  · intro rec reco x1 x2 r ⟨l, hl, e2, e1, h1⟩ ih
    unfold s_G_orderBySteps_4 os_G_orderBySteps_4
    have e10 : ((10 : Int32) ≤ x2) = (l = 10) := n_cnt (n := 10) e2 hl (by omega)
    simp only [e10]
    by_cases c0 : l = 10
    · simp only [if_pos c0]
      subst c0
      exact ⟨⟨_, hO, fun q hq => h1 q (by rw [hO.1]; exact hq)⟩, trivial⟩
    · subst e2; subst e1
      simp only [if_neg c0]
      exact k_order12 hN hg hR (by omega) rec reco (fun r => ordOK n gh gi r) rfl h1 (fun r hr => ih _ _ r ⟨l + 1, by omega, n_1, rfl, hr⟩ (by rw [n_1, n_clamp (by omega), n_clamp (by omega)]; omega))
  · show 100 - (nI 0).toNatClampNeg < N_
    rw [n_clamp (by omega)]; omega
