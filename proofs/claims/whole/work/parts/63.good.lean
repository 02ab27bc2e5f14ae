/-! Values that are good: a count above 0 just where there is a cost, and the cost is not large -/
def lim (l : Nat) (k : Nat) : Nat := 10000 * (2 * l - 1) - 9000 + 1000 * k
def eG (b : Nat) (e : vE) : Prop := (e.1 = 0 ↔ e.2 = none) ∧ ∀ c, e.2 = some c → c ≤ b
theorem eG_z {b : Nat} : eG b eZ := ⟨by simp [eZ], fun c h => by simp [eZ] at h⟩
theorem eG_o {b : Nat} : eG b eO := ⟨by simp [eO], fun c h => by simp [eO] at h; omega⟩
theorem eG_w {b b' : Nat} {e : vE} (h : eG b e) (hb : b ≤ b') : eG b' e := ⟨h.1, fun c q => Nat.le_trans (h.2 c q) hb⟩
theorem eG_A {b : Nat} {e f : vE} (he : eG b e) (hf : eG b f) : eG b (eA e f) := by
  obtain ⟨a, x⟩ := e; obtain ⟨d, y⟩ := f
  obtain ⟨h1, h2⟩ := he; obtain ⟨h3, h4⟩ := hf
  cases x with
  | none => cases y with
    | none => exact ⟨by simp [eA, oMin] at *; omega, fun c h => by simp [eA, oMin] at h⟩
    | some y => exact ⟨by simp [eA, oMin] at *; omega, fun c h => by simp [eA, oMin] at h; simp at h4; omega⟩
  | some x => cases y with
    | none => exact ⟨by simp [eA, oMin] at *; omega, fun c h => by simp [eA, oMin] at h; simp at h2; omega⟩
    | some y => exact ⟨by simp [eA, oMin] at *; omega, fun c h => by simp [eA, oMin] at h; simp at h2 h4; split at h <;> omega⟩
theorem eG_M {b b' : Nat} {e f : vE} (he : eG b e) (hf : eG b' f) : eG (b + b') (eM e f) := by
  obtain ⟨a, x⟩ := e; obtain ⟨d, y⟩ := f
  obtain ⟨h1, h2⟩ := he; obtain ⟨h3, h4⟩ := hf
  cases x with
  | none => exact ⟨by simp [eM, oAdd] at *; simp [h1], fun c h => by simp [eM, oAdd] at h⟩
  | some x => cases y with
    | none => exact ⟨by simp [eM, oAdd] at *; simp [h3], fun c h => by simp [eM, oAdd] at h⟩
    | some y => exact ⟨by simp [eM, oAdd] at *; exact fun h => (Nat.mul_eq_zero.mp h).elim h1 h3, fun c h => by simp [eM, oAdd] at h; simp at h2 h4; omega⟩
theorem eG_S {b : Nat} {e : vE} (h : eG b e) : eG b (eS e) := ⟨by show satN e.1 = 0 ↔ e.2 = none; rw [sat_0]; exact h.1, h.2⟩
theorem eG_sm {b : Nat} {f : Nat → vE} {lo n : Nat} (h : ∀ k, lo ≤ k → k < lo + n → eG b (f k)) : eG b (sm f lo n) := sm_p eG_z (fun _ _ => eG_A) h
/-- an item's value, where the table's symbols are good there -/
theorem itE_g {rt : Nat → Int32} {tb : Nat → Nat → Nat → vE} {x : Int32} {i j b : Nat} (h : x < 10 → x ≠ -1 → i < j → eG b (tb x.toNatClampNeg i j)) : eG b (itE rt tb x i j) := by
  unfold itE
  split
  · split
    · exact eG_o
    · exact eG_z
  · split
    · split
      · exact h (by assumption) (by assumption) (by assumption)
      · exact eG_z
    · split
      · exact eG_o
      · exact eG_z
theorem prd_g {n : Nat} {gh gi gc rt : Nat → Int32} {lv : Nat → Nat} (hg : gOK n gh gi gc) (hl : lvOK n gh gi lv) {tb : Nat → Nat → Nat → vE} {p i j : Nat} (hp : p < n) (hij : i < j)
    (h : ∀ s' i' j', s' < 10 → i ≤ i' → i' < j' → j' ≤ j → (j' - i' < j - i ∨ (i' = i ∧ j' = j ∧ lv s' < lv (gh p).toNatClampNeg)) → eG (lim (j' - i') (lv s')) (tb s' i' j')) : eG (lim (j - i) (lv (gh p).toNatClampNeg)) (eM (own gc p) (prd gi rt tb p i j)) := by
  obtain ⟨-, hg⟩ := hg
  obtain ⟨-, i0, i12, c0, c9⟩ := hg p hp
  have hown : eG 1000 (own gc p) := by
    refine ⟨by simp [own], fun c hc => ?_⟩
    simp only [own, Option.some.injEq] at hc
    obtain ⟨k, e, e2, e3⟩ := n_of c0
    rw [e, n_clamp e3] at hc
    omega
  have sym : ∀ {x : Int32} {a b : Nat}, isIt x → x < 10 → i ≤ a → a < b → b ≤ j → (b - a < j - i) → eG (10000 * (2 * (b - a) - 1)) (tb x.toNatClampNeg a b) := by
    intro x a b h1 h2 h3 h4 h5 h6
    obtain ⟨k, hk, rfl⟩ := isIt_sym h1 h2
    rw [n_clamp (by omega)]
    have := hl.1 k
    exact eG_w (h k a b hk h3 h4 h5 (Or.inl h6)) (by unfold lim; omega)
  by_cases c1 : gi (3 * p + 1) = -1
  · have c2 : gi (3 * p + 2) = -1 := by
      rcases i12 with q | q
      · exact q.2
      · exact absurd c1 (isIt_m1 q.1)
    have e1 : prd gi rt tb p i j = itE rt tb (gi (3 * p)) i j := by
      unfold prd fLo fNo
      rw [if_pos c1, if_pos c1, sm_one]
      unfold rst sLo sNo
      rw [if_pos c2, if_pos c2, sm_one, c1, c2, itE_m, if_pos rfl, eM_o, eM_o]
    rw [e1]
    by_cases q1 : gi (3 * p) < 10
    · have q4 := hl.2 p hp c1 q1
      obtain ⟨k, hk, e⟩ := isIt_sym i0 q1
      rw [e, n_clamp (by omega)] at q4
      refine eG_w (eG_M hown (itE_g (b := lim (j - i) (lv k)) (fun _ _ _ => ?_))) (by unfold lim; omega)
      rw [e, n_clamp (by omega)]
      exact h k i j hk (by omega) hij (by omega) (Or.inr ⟨rfl, rfl, q4⟩)
    · refine eG_w (eG_M hown (itE_g (b := 0) (fun q => absurd q q1))) (by unfold lim; omega)
  · have j1 : isIt (gi (3 * p + 1)) := by
      rcases i12 with q | q
      · exact absurd q.1 c1
      · exact q.1
    have j2 : gi (3 * p + 2) = -1 ∨ isIt (gi (3 * p + 2)) := by
      rcases i12 with q | q
      · exact absurd q.1 c1
      · exact q.2
    refine eG_w (eG_M hown (b' := 10000 * (2 * (j - i) - 2)) ?_) (by unfold lim; omega)
    refine eG_sm (fun f hf1 hf2 => ?_)
    unfold fLo at hf1 hf2; unfold fNo at hf2; rw [if_neg c1] at hf1 hf2; rw [if_neg c1] at hf2
    by_cases c2 : gi (3 * p + 2) = -1
    · rw [if_pos c2] at hf2
      refine eG_w (eG_M (itE_g (b := 10000 * (2 * (f - i) - 1)) (fun q1 _ q3 => sym i0 q1 (by omega) q3 (by omega) (by omega))) (b' := 10000 * (2 * (j - f) - 1)) ?_) (by omega)
      unfold rst sLo sNo
      rw [if_pos c2, if_pos c2, sm_one, c2, itE_m, if_pos rfl, eM_o]
      exact itE_g (fun q1 _ q3 => sym j1 q1 (by omega) q3 (by omega) (by omega))
    · rw [if_neg c2] at hf2
      have j2 : isIt (gi (3 * p + 2)) := by
        rcases j2 with q | q
        · exact absurd q c2
        · exact q
      refine eG_w (eG_M (itE_g (b := 10000 * (2 * (f - i) - 1)) (fun q1 _ q3 => sym i0 q1 (by omega) q3 (by omega) (by omega))) (b' := 10000 * (2 * (j - f) - 1)) ?_) (by omega)
      refine eG_sm (fun q hq1 hq2 => ?_)
      unfold sLo at hq1 hq2; unfold sNo at hq2; rw [if_neg c2] at hq1 hq2; rw [if_neg c2] at hq2
      exact eG_w (eG_M (itE_g (b := 10000 * (2 * (q - f) - 1)) (fun q1 _ q3 => sym j1 q1 (by omega) q3 (by omega) (by omega))) (itE_g (b := 10000 * (2 * (j - q) - 1)) (fun q1 _ q3 => sym j2 q1 (by omega) q3 (by omega) (by omega)))) (by omega)
theorem bdy_g {n : Nat} {gh gi gc rt : Nat → Int32} {lv : Nat → Nat} (hg : gOK n gh gi gc) (hl : lvOK n gh gi lv) {tb : Nat → Nat → Nat → vE} {s i j : Nat} (hs : s < 10) (hij : i < j)
    (h : ∀ s' i' j', s' < 10 → i ≤ i' → i' < j' → j' ≤ j → (j' - i' < j - i ∨ (i' = i ∧ j' = j ∧ lv s' < lv s)) → eG (lim (j' - i') (lv s')) (tb s' i' j')) : eG (lim (j - i) (lv s)) (bdy n gh gi gc rt tb s i j) := by
  refine eG_sm (fun p _ hp => ?_)
  unfold trm
  by_cases c : gh p = nI s
  · rw [if_pos c]
    have := prd_g (rt := rt) hg hl (p := p) (by omega) hij (tb := tb) (fun s' i' j' h1 h2 h3 h4 h5 => h s' i' j' h1 h2 h3 h4 (by rw [c, n_clamp (by omega)] at h5; exact h5))
    rw [c, n_clamp (by omega)] at this
    exact this
  · rw [if_neg c]; exact eG_z
theorem vV_g {n : Nat} {gh gi gc rt : Nat → Int32} {lv : Nat → Nat} (hg : gOK n gh gi gc) (hl : lvOK n gh gi lv) {s i j : Nat} (hs : s < 10) (hij : i < j) : eG (lim (j - i) (lv s)) (vV n gh gi gc rt s i j) := by
  have key : ∀ (k s i j : Nat), s < 10 → i < j → eG (lim (j - i) (lv s)) (val n gh gi gc rt k s i j) := by
    intro k
    induction k with
    | zero => intro s i j _ _; exact eG_z
    | succ k ih => intro s i j hs hij; exact eG_S (bdy_g hg hl hs hij (fun s' i' j' h1 _ h3 _ _ => ih s' i' j' h1 h3))
  exact key 1000 s i j hs hij
theorem vV_sat {n : Nat} {gh gi gc rt : Nat → Int32} {s i j : Nat} : (vV n gh gi gc rt s i j).1 ≤ 1000000000 := sat_le
