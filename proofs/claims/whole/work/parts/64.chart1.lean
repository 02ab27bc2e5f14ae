/-! The class's chart: what lies in it -/
def cI : Option Nat → Int32
  | none => -1
  | some k => nI k
def cN (s i j : Nat) : Nat := (s * 24 + i) * 24 + j - 1
theorem q_0 : (0 : Int32) = nI 0 := rfl
theorem q_1 : (1 : Int32) = nI 1 := rfl
theorem q_2 : (2 : Int32) = nI 2 := rfl
theorem n_le0 {a : Nat} (h : a < 2147483648) : (nI a ≤ (0 : Int32)) = (a = 0) := by
  show (nI a ≤ nI 0) = _
  rw [n_le h (by omega)]; apply propext; omega
theorem n_lt0 {a : Nat} (h : a < 2147483648) : (nI a < (0 : Int32)) = False := by
  show (nI a < nI 0) = _
  rw [n_lt h (by omega)]; apply propext; exact ⟨fun h => by omega, False.elim⟩
theorem n_1 {a : Nat} : nI a + 1 = nI (a + 1) := by rw [n_lit, n_add]
theorem k_cell {s i j : Nat} (hs : s < 10) (hij : i < j) (hj : j ≤ 24) : f_C_cell (nI s) (nI i) (nI j) = nI (cN s i j) ∧ cN s i j < 5760 := by
  refine ⟨?_, by unfold cN; omega⟩
  unfold f_C_cell cN
  simp (disch := omega) only [n_lit, n_lt, n_le, n_mul, n_add, n_sub]
  rw [if_neg (by omega), if_neg (by omega), if_neg (by omega), if_neg (by omega), if_pos (by omega)]
theorem k_cell0 {s i j : Nat} (hs : s < 10) (hij : j ≤ i) (hi : i ≤ 100) : f_C_cell (nI s) (nI i) (nI j) = -1 := by
  unfold f_C_cell
  simp (disch := omega) only [n_lit, n_lt, n_le, n_mul, n_add]
  rw [if_neg (by omega), if_neg (by omega), if_neg (by omega), if_pos (by omega)]
theorem k_item {n p k : Nat} {gi : Nat → Int32} (hn : n ≤ 24) (hp : p < n) (hk : k < 3) : f_G_item (nI n) gi (nI p) (nI k) = gi (3 * p + k) ∧ o_G_item (nI n) gi (nI p) (nI k) := by
  unfold f_G_item o_G_item
  simp (disch := omega) only [n_lit, n_lt, n_le, n_mul, n_add, n_clamp]
  rw [if_neg (by omega), if_neg (by omega), if_neg (by omega), if_neg (by omega), if_neg (by omega), if_neg (by omega), if_neg (by omega), if_neg (by omega), if_neg (by omega), if_neg (by omega)]
  exact ⟨by rw [Nat.mul_comm p 3], n_in (by omega) (by omega), trivial⟩
theorem k_item0 {n p : Nat} {gi : Nat → Int32} (hn : n ≤ 24) (hp : p < n) : f_G_item (nI n) gi (nI p) 0 = gi (3 * p) ∧ o_G_item (nI n) gi (nI p) 0 := k_item hn hp (k := 0) (by omega)
theorem k_item1 {n p : Nat} {gi : Nat → Int32} (hn : n ≤ 24) (hp : p < n) : f_G_item (nI n) gi (nI p) 1 = gi (3 * p + 1) ∧ o_G_item (nI n) gi (nI p) 1 := k_item hn hp (k := 1) (by omega)
theorem k_item2 {n p : Nat} {gi : Nat → Int32} (hn : n ≤ 24) (hp : p < n) : f_G_item (nI n) gi (nI p) 2 = gi (3 * p + 2) ∧ o_G_item (nI n) gi (nI p) 2 := k_item hn hp (k := 2) (by omega)
theorem k_token {rl i : Nat} {rt : Nat → Int32} (hr : rl ≤ 24) (hi : i < rl) : f_R_token (nI rl) rt (nI i) = rt i ∧ o_R_token (nI rl) rt (nI i) := by
  unfold f_R_token o_R_token
  simp (disch := omega) only [n_lit, n_lt, n_le, n_clamp]
  rw [if_neg (by omega), if_neg (by omega), if_neg (by omega), if_neg (by omega), if_neg (by omega), if_neg (by omega)]
  exact ⟨rfl, n_in (by omega) (by omega), trivial⟩
def isIt1 (x : Int32) : Prop := x = -1 ∨ isIt x
/-- the class's count of an item over a part: as the table has it -/
theorem k_trees {rl i j : Nat} {rt vCn : Nat → Int32} {tb : Nat → Nat → Nat → vE} {x : Int32} (hx : isIt1 x) (hr : rl ≤ 24) (hj : j ≤ rl) (hi : i ≤ 24) (h : ∀ s, s < 10 → x = nI s → i < j → vCn (cN s i j) = nI (tb s i j).1) : f_C_trees vCn (nI rl) rt x (nI i) (nI j) = nI (itE rt tb x i j).1 ∧ o_C_trees vCn (nI rl) rt x (nI i) (nI j) := by
  unfold f_C_trees o_C_trees itE
  simp only [bd_def]
  rcases hx with rfl | hx
  · rw [if_pos rfl, if_pos rfl, if_pos rfl]
    simp (disch := omega) only [n_eq]
    by_cases c : i = j
    · rw [if_pos c, if_pos c, if_pos c]; exact ⟨rfl, trivial⟩
    · rw [if_neg c, if_neg c, if_neg c]; exact ⟨rfl, trivial⟩
  · rw [if_neg (isIt_m1 hx), if_neg (isIt_m1 hx), if_neg (isIt_m1 hx)]
    by_cases c : x < 10
    · rw [if_pos c, if_pos c, if_pos c]
      obtain ⟨s, hs, rfl⟩ := isIt_sym hx c
      rw [n_clamp (by omega)]
      by_cases c2 : i < j
      · obtain ⟨e1, e2⟩ := k_cell hs c2 (by omega)
        rw [if_pos c2, e1]
        simp (disch := omega) only [n_lit, n_lt, n_le, n_clamp]
        rw [if_neg (by omega), if_neg (by omega), if_neg (by omega), if_neg (by omega)]
        exact ⟨h s hs rfl c2, n_in (by omega) (by omega), trivial⟩
      · rw [if_neg c2, k_cell0 hs (by omega) (by omega)]
        rw [if_pos (by decide), if_pos (by decide)]
        exact ⟨rfl, trivial⟩
    · rw [if_neg c, if_neg c, if_neg c]
      rw [n_1]
      simp (disch := omega) only [n_eq]
      by_cases c2 : j = i + 1
      · obtain ⟨e1, e2⟩ := k_token (rt := rt) hr (i := i) (by omega)
        rw [if_pos c2, if_pos c2, e1]
        by_cases c3 : rt i = x - 10
        · rw [if_pos c3, if_pos c3, if_pos ⟨c2, c3⟩]; exact ⟨rfl, e2, trivial⟩
        · rw [if_neg c3, if_neg c3, if_neg (fun q => c3 q.2)]; exact ⟨rfl, e2, trivial⟩
      · rw [if_neg c2, if_neg c2, if_neg (fun q => c2 q.1)]; exact ⟨rfl, trivial⟩
/-- .. and its cost, where there is a tree -/
theorem k_cost {i j : Nat} {rt vCc : Nat → Int32} {tb : Nat → Nat → Nat → vE} {x : Int32} (hx : isIt1 x) (hj : j ≤ 24) (hi : i ≤ 24) (h : ∀ s, s < 10 → x = nI s → i < j → vCc (cN s i j) = cI (tb s i j).2) : ((itE rt tb x i j).1 ≠ 0 → f_C_leastCost vCc x (nI i) (nI j) = cI (itE rt tb x i j).2) ∧ o_C_leastCost vCc x (nI i) (nI j) := by
  unfold f_C_leastCost o_C_leastCost itE
  simp only [bd_def]
  rcases hx with rfl | hx
  · rw [if_pos rfl, if_pos rfl, if_pos rfl]
    by_cases c : i = j
    · rw [if_pos c]; exact ⟨fun _ => rfl, trivial⟩
    · rw [if_neg c]; exact ⟨fun q => absurd rfl q, trivial⟩
  · rw [if_neg (isIt_m1 hx), if_neg (isIt_m1 hx), if_neg (isIt_m1 hx)]
    by_cases c : x < 10
    · rw [if_pos c, if_pos c, if_pos c]
      obtain ⟨s, hs, rfl⟩ := isIt_sym hx c
      rw [n_clamp (by omega)]
      by_cases c2 : i < j
      · obtain ⟨e1, e2⟩ := k_cell hs c2 (by omega)
        rw [if_pos c2, e1]
        simp (disch := omega) only [n_lit, n_lt, n_le, n_clamp]
        rw [if_neg (by omega), if_neg (by omega), if_neg (by omega), if_neg (by omega)]
        exact ⟨fun _ => h s hs rfl c2, n_in (by omega) (by omega), trivial⟩
      · rw [if_neg c2, k_cell0 hs (by omega) (by omega)]
        rw [if_pos (by decide)]
        exact ⟨fun q => absurd rfl q, trivial⟩
    · rw [if_neg c, if_neg c, if_neg c]
      by_cases c2 : j = i + 1 ∧ rt i = x - 10
      · rw [if_pos c2]; exact ⟨fun _ => rfl, trivial⟩
      · rw [if_neg c2]; exact ⟨fun q => absurd rfl q, trivial⟩
/-- adding a product of two values that are there -/
theorem k_cheaper {m : Option Nat} {c : Nat} (hc : c < 2147483648) (hm : ∀ k, m = some k → k < 2147483648) : f_C_cheaper (cI m) (nI c) = cI (oMin m (some c)) := by
  unfold f_C_cheaper
  cases m with
  | none => exact if_pos rfl
  | some k =>
    have hk := hm k rfl
    show (if nI k = -1 then nI c else if nI c < nI k then nI c else nI k) = nI (if c < k then c else k)
    rw [if_neg (by rw [n_lit, n_eqm hk]; exact id)]
    simp only [n_lt hc hk]
    by_cases q : c < k
    · rw [if_pos q, if_pos q]
    · rw [if_neg q, if_neg q]
theorem k_many {x a b : Nat} (hx : x ≤ 1000000000) (ha : a ≤ 1000000000) (hb : b ≤ 1000000000) : f_H_atMostMany ((nI x).toInt64 + (nI a).toInt64 * (nI b).toInt64) = nI (satN (x + a * b)) := by
  have h : a * b ≤ 1000000000 * 1000000000 := Nat.mul_le_mul ha hb
  rw [n_64 (by omega), n_64 (by omega), n_64 (by omega), n_64m, n_64a]
  exact n_many (by omega)
/-- a value that is 0 in one place is none -/
theorem eG_zero {b : Nat} {e : vE} (h : eG b e) (h0 : e.1 = 0) : e = eZ := by
  obtain ⟨x, y⟩ := e
  have := h.1.mp h0
  simp only at h0 this
  rw [h0, this]; rfl
theorem eG_some {b : Nat} {e : vE} (h : eG b e) (h0 : e.1 ≠ 0) : ∃ c, e.2 = some c ∧ c ≤ b := by
  cases hc : e.2 with
  | none => exact absurd (h.1.mpr hc) h0
  | some c => exact ⟨c, rfl, h.2 c hc⟩
theorem eS1 {e : vE} : (eS e).1 ≤ 1000000000 := sat_le
