theorem kI_3 {m C : Nat} (hm : m < 1000000) (hC : C ≤ 1000000000) : nI m - nI m / nI C * nI C = kI (k3 (some m) C) := n_mod (by omega) (by omega)
theorem kI_2 {m B C : Nat} (hm : m < 1000000) (hB : B ≤ 1000000000) (hC : C ≤ 1000000000) : nI m / nI C - nI m / nI C / nI B * nI B = kI (k2 (some m) B C) := by
  have : m / C ≤ m := Nat.div_le_self _ _
  rw [n_div (by omega) (by omega), n_mod (by omega) (by omega)]; rfl
theorem kI_1 {m B C : Nat} (hm : m < 1000000) (hB : B ≤ 1000000000) (hC : C ≤ 1000000000) : nI m / nI C / nI B = kI (k1 (some m) B C) := by
  have : m / C ≤ m := Nat.div_le_self _ _
  rw [n_div (by omega) (by omega), n_div (by omega) (by omega)]; rfl
theorem stp_ok {n to c : Nat} {gh gi gc rt : Nat → Int32} {lv : Nat → Nat} {S : sT} {s i j d : Nat} {k : Option Nat} (hg : gOK n gh gi gc) (hl : lvOK n gh gi lv) (hto : to ≤ 24) (hS : sOK n gh gi gc rt lv to c S) (hw : S.1 ≠ 0) (he : S.2 (S.1 - 1) = (s, i, j, k, d)) :
    (s < 10 ∧ i < j ∧ j ≤ to ∧ thr n gh gi gc rt s i j k) ∧ c < 470 ∧ S.1 ≤ 24 ∧ ∃ p f q k' c0, pick n gh gi gc rt s i j k = some (p, f, q, k') ∧ p < n ∧ isSpl gi p i f q j ∧ (vV n gh gi gc rt s i j).2 = some c0 ∧ c0 ≤ 2000000 ∧ chs (some c0) (splE n gh gi gc rt i j p f q) k' = true ∧ goodB k.isNone k' ∧ sOK n gh gi gc rt lv to (c + 1) (stp n gh gi gc rt i j d p f q k' (S.1 - 1, S.2)) ∧
      (pu (gi (3 * p + 2)) q j (k3 k' (itN n gh gi gc rt p 2 q j)) (d + 1) (S.1 - 1, S.2)).1 < 24 ∧ (pu (gi (3 * p + 1)) f q (k2 k' (itN n gh gi gc rt p 1 f q) (itN n gh gi gc rt p 2 q j)) (d + 1) (pu (gi (3 * p + 2)) q j (k3 k' (itN n gh gi gc rt p 2 q j)) (d + 1) (S.1 - 1, S.2))).1 < 24 := by
  obtain ⟨h1, h2, h3⟩ := hS
  obtain ⟨w, ew⟩ : ∃ w, S.1 = w + 1 := ⟨S.1 - 1, by omega⟩
  have ew' : S.1 - 1 = w := by omega
  rw [ew'] at he ⊢
  have heo := h1 w (by omega)
  rw [he] at heo
  obtain ⟨e1, e2, e3, e4⟩ := heo
  have e1 : s < 10 := e1
  have e2 : i < j := e2
  have e3 : j ≤ to := e3
  have e4 : thr n gh gi gc rt s i j k := e4
  have hL : sumW eLen S.1 S.2 = sumW eLen w S.2 + (j - i) := by
    rw [ew]; show sumW eLen w S.2 + eLen (S.2 w) = _; rw [he]; rfl
  have hP : sumW (ePot lv) S.1 S.2 = sumW (ePot lv) w S.2 + (20 * (j - i) - 19 + lv s) := by
    rw [ew]; show sumW (ePot lv) w S.2 + ePot lv (S.2 w) = _; rw [he]; rfl
  rw [hL] at h2
  rw [hP] at h3
  have h1' : ∀ y, y < w → eOK n gh gi gc rt to (S.2 y) := fun y hy => h1 y (by omega)
  have hgt : ∀ (S' : sT), (∀ y, y < S'.1 → eOK n gh gi gc rt to (S'.2 y)) → S'.1 ≤ sumW eLen S'.1 S'.2 := fun S' q => sumW_ge (fun y hy => by
    have := (q y hy).2.1
    show 1 ≤ (S'.2 y).2.2.1 - (S'.2 y).2.1
    omega)
  have hw0 := hgt (w, S.2) h1'
  have hw0 : w ≤ sumW eLen w S.2 := hw0
  refine ⟨⟨e1, e2, e3, e4⟩, by omega, by omega, ?_⟩
  obtain ⟨p, f, q, k', a1, a2, a3, a4, a5, a6⟩ := pick_ok hg hl e1 e2 (show j ≤ 24 by omega) e4
  have hgd := vV_g hg hl (rt := rt) e1 e2
  obtain ⟨c0, c1, c2⟩ := eG_some hgd e4.1
  have hc2 : c0 ≤ 2000000 := by
    have := hl.1 s
    unfold lim at c2; omega
  rw [c1] at a5
  obtain ⟨s1, s2, s3, s4, s5⟩ := isSpl_in a4
  obtain ⟨i0, i1, i2⟩ := gOK_i hg a2
  obtain ⟨b0, b1, b2, b3, b4, b5, b6⟩ := chs_items hg hl a2 (show j ≤ 24 by omega) (by omega) s3 a5 a6
  refine ⟨p, f, q, k', c0, a1, a2, a4, c1, hc2, a5, a6, ?_⟩
  have hi2 : ∀ t, t < 10 → gi (3 * p + 2) = nI t → q < j := by
    intro t ht e
    have n2 : gi (3 * p + 2) ≠ -1 := by
      rw [e]; intro q; have := x_eq q; rw [n_tI (by omega), x_m1] at this; omega
    exact s5 n2 (fun h => n2 (gOK_2 hg a2 h))
  have hi1 : ∀ t, t < 10 → gi (3 * p + 1) = nI t → f < q := by
    intro t ht e
    exact s4 (by rw [e]; intro q; have := x_eq q; rw [n_tI (by omega), x_m1] at this; omega)
  have num := fun m (hm : k' = some m) => num_ok b1 b2 (b6 m hm).2
  have o1 : ∀ y, y < (pu (gi (3 * p + 2)) q j (k3 k' (itN n gh gi gc rt p 2 q j)) (d + 1) (w, S.2)).1 → eOK n gh gi gc rt to ((pu (gi (3 * p + 2)) q j (k3 k' (itN n gh gi gc rt p 2 q j)) (d + 1) (w, S.2)).2 y) := by
    refine pu_ok i2 h1' ?_
    intro t ht e
    have hqj := hi2 t ht e
    have eN := itN_s (n := n) (gh := gh) (gc := gc) (rt := rt) (c := 2) ht e hqj
    refine ⟨ht, hqj, e3, ?_, ?_⟩
    · show (vV n gh gi gc rt t q j).1 ≠ 0
      rw [← eN]; exact b2
    · intro m' em
      cases k' with
      | none => cases em
      | some m =>
        have em : m % itN n gh gi gc rt p 2 q j = m' := Option.some.inj em
        have := num m rfl
        have h6 := (b6 m rfl).1
        show m' < (vV n gh gi gc rt t q j).1 ∧ m' < 1000000
        rw [← eN]
        omega
  have o2 : ∀ y, y < (pu (gi (3 * p + 1)) f q (k2 k' (itN n gh gi gc rt p 1 f q) (itN n gh gi gc rt p 2 q j)) (d + 1) (pu (gi (3 * p + 2)) q j (k3 k' (itN n gh gi gc rt p 2 q j)) (d + 1) (w, S.2))).1 → eOK n gh gi gc rt to ((pu (gi (3 * p + 1)) f q (k2 k' (itN n gh gi gc rt p 1 f q) (itN n gh gi gc rt p 2 q j)) (d + 1) (pu (gi (3 * p + 2)) q j (k3 k' (itN n gh gi gc rt p 2 q j)) (d + 1) (w, S.2))).2 y) := by
    refine pu_ok i1 o1 ?_
    intro t ht e
    have hqj := hi1 t ht e
    have eN := itN_s (n := n) (gh := gh) (gc := gc) (rt := rt) (c := 1) ht e hqj
    refine ⟨ht, hqj, show q ≤ to by omega, ?_, ?_⟩
    · show (vV n gh gi gc rt t f q).1 ≠ 0
      rw [← eN]; exact b1
    · intro m' em
      cases k' with
      | none => cases em
      | some m =>
        have em : m / itN n gh gi gc rt p 2 q j % itN n gh gi gc rt p 1 f q = m' := Option.some.inj em
        have := num m rfl
        have h6 := (b6 m rfl).1
        show m' < (vV n gh gi gc rt t f q).1 ∧ m' < 1000000
        rw [← eN]
        omega
  have o3 : ∀ y, y < (stp n gh gi gc rt i j d p f q k' (w, S.2)).1 → eOK n gh gi gc rt to ((stp n gh gi gc rt i j d p f q k' (w, S.2)).2 y) := by
    refine pu_ok i0 o2 ?_
    intro t ht e
    have eN := itN_s (n := n) (gh := gh) (gc := gc) (rt := rt) (c := 0) ht e s1
    refine ⟨ht, s1, show f ≤ to by omega, ?_, ?_⟩
    · show (vV n gh gi gc rt t i f).1 ≠ 0
      rw [← eN]; exact b0
    · intro m' em
      cases k' with
      | none => cases em
      | some m =>
        have em : m / itN n gh gi gc rt p 2 q j / itN n gh gi gc rt p 1 f q = m' := Option.some.inj em
        have := num m rfl
        have h6 := (b6 m rfl).1
        show m' < (vV n gh gi gc rt t i f).1 ∧ m' < 1000000
        rw [← eN]
        omega
  have l1 := pu_len (i := q) (j := j) (k := k3 k' (itN n gh gi gc rt p 2 q j)) (d := d + 1) (S := (w, S.2)) i2
  have l2 := pu_len (i := f) (j := q) (k := k2 k' (itN n gh gi gc rt p 1 f q) (itN n gh gi gc rt p 2 q j)) (d := d + 1) (S := pu (gi (3 * p + 2)) q j (k3 k' (itN n gh gi gc rt p 2 q j)) (d + 1) (w, S.2)) i1
  have l3 := pu_len (i := i) (j := f) (k := k1 k' (itN n gh gi gc rt p 1 f q) (itN n gh gi gc rt p 2 q j)) (d := d + 1) (S := pu (gi (3 * p + 1)) f q (k2 k' (itN n gh gi gc rt p 1 f q) (itN n gh gi gc rt p 2 q j)) (d + 1) (pu (gi (3 * p + 2)) q j (k3 k' (itN n gh gi gc rt p 2 q j)) (d + 1) (w, S.2))) i0
  have g1 := hgt _ o1
  have g2 := hgt _ o2
  have l1 : _ ≤ sumW eLen w S.2 + (j - q) := l1
  refine ⟨⟨o3, ?_, ?_⟩, by omega, by omega⟩
  · show sumW eLen (pu _ _ _ _ _ _).1 (pu _ _ _ _ _ _).2 ≤ 24
    omega
  · show c + 1 + sumW (ePot lv) (pu _ _ _ _ _ _).1 (pu _ _ _ _ _ _).2 ≤ 470
    unfold isSpl at a4
    by_cases x1 : gi (3 * p + 1) = -1
    · rw [if_pos x1] at a4
      have x2 := gOK_2 hg a2 x1
      have p0 := pu_pot (lv := lv) (b := 20 * (j - i) - 19 + lv s - 1) (i := i) (j := f) (k := k1 k' (itN n gh gi gc rt p 1 f q) (itN n gh gi gc rt p 2 q j)) (d := d + 1) (S := (w, S.2)) i0 (by
        intro t ht e
        have := hl.2 p a2 x1 (by rw [e, q_10, n_lt (by omega) (by omega)]; exact ht)
        rw [e, a3, n_clamp (by omega), n_clamp (by omega)] at this
        rw [a4.1]; omega)
      rw [pu_no (x := gi (3 * p + 2)) (Or.inl x2), pu_no (x := gi (3 * p + 1)) (Or.inl x1)]
      have p0 : _ ≤ sumW (ePot lv) w S.2 + _ := p0
      omega
    · have p2 := pu_pot (lv := lv) (b := 20 * (f - i) - 10) (i := i) (j := f) (k := k1 k' (itN n gh gi gc rt p 1 f q) (itN n gh gi gc rt p 2 q j)) (d := d + 1) (S := pu (gi (3 * p + 1)) f q (k2 k' (itN n gh gi gc rt p 1 f q) (itN n gh gi gc rt p 2 q j)) (d + 1) (pu (gi (3 * p + 2)) q j (k3 k' (itN n gh gi gc rt p 2 q j)) (d + 1) (w, S.2))) i0 (by
        intro t ht e
        have := hl.1 t
        omega)
      have hfq := s4 x1
      have p1 := pu_pot (lv := lv) (b := 20 * (q - f) - 10) (i := f) (j := q) (k := k2 k' (itN n gh gi gc rt p 1 f q) (itN n gh gi gc rt p 2 q j)) (d := d + 1) (S := pu (gi (3 * p + 2)) q j (k3 k' (itN n gh gi gc rt p 2 q j)) (d + 1) (w, S.2)) i1 (by
        intro t ht e
        have := hl.1 t
        omega)
      by_cases x2 : gi (3 * p + 2) = -1
      · rw [if_neg x1, if_pos x2] at a4
        rw [pu_no (x := gi (3 * p + 2)) (Or.inl x2)] at *
        have p1 : _ ≤ sumW (ePot lv) w S.2 + _ := p1
        omega
      · have hqj := s5 x2 x1
        have p0 := pu_pot (lv := lv) (b := 20 * (j - q) - 10) (i := q) (j := j) (k := k3 k' (itN n gh gi gc rt p 2 q j)) (d := d + 1) (S := (w, S.2)) i2 (by
          intro t ht e
          have := hl.1 t
          omega)
        have p0 : _ ≤ sumW (ePot lv) w S.2 + _ := p0
        omega
