/-! The reference's chart: what lies in it -/
def mI : Option Nat → Int32
  | none => 2000000000
  | some k => nI k
def aN (s i j : Nat) : Nat := 625 * s + 25 * i + j
def mcs (vMn vMl : Nat → Int32) (tb : Nat → Nat → Nat → vE) (s i j : Nat) : Prop := vMn (aN s i j) = nI (tb s i j).1 ∧ vMl (aN s i j) = mI (tb s i j).2
theorem q_at {s i j : Nat} : f_M_at (nI s) (nI i) (nI j) = nI (aN s i j) := by
  unfold f_M_at aN
  simp only [n_lit, n_mul, n_add]
theorem q_tok {x : Int32} (h : isIt x) : x ≠ -1 := isIt_m1 h
theorem q_many {i j : Nat} {rt vMn : Nat → Int32} {tb : Nat → Nat → Nat → vE} {x : Int32} (hx : isIt x) (hij : i < j) (hj : j ≤ 24) (h : ∀ s, s < 10 → x = nI s → vMn (aN s i j) = nI (tb s i j).1) : f_M_many rt vMn x (nI i) (nI j) = nI (itE rt tb x i j).1 ∧ o_M_many rt vMn x (nI i) (nI j) := by
  unfold f_M_many o_M_many itE
  rw [if_neg (isIt_m1 hx)]
  simp only [bd_def, n_1]
  by_cases c : x < 10
  · obtain ⟨s, hs, rfl⟩ := isIt_sym hx c
    have hb : aN s i j < 6250 := by unfold aN; omega
    simp only [if_pos c, if_pos hij, q_at]
    rw [n_clamp (by omega), n_clamp (by omega)]
    exact ⟨h s hs rfl, n_in (by omega) hb, trivial⟩
  · simp (disch := omega) only [if_neg c, n_eq, n_clamp]
    by_cases c2 : j = i + 1
    · by_cases c3 : rt i = x - 10
      · simp only [if_pos c2, if_pos c3, if_pos (And.intro c2 c3)]; exact ⟨rfl, n_in (by omega) (by omega), trivial⟩
      · simp only [if_pos c2, if_neg c3, if_neg (fun q : j = i + 1 ∧ rt i = x - 10 => c3 q.2)]; exact ⟨rfl, n_in (by omega) (by omega), trivial⟩
    · simp only [if_neg c2, if_neg (fun q : j = i + 1 ∧ rt i = x - 10 => c2 q.1)]; exact ⟨rfl, trivial⟩
theorem q_cheap {i j : Nat} {rt vMl : Nat → Int32} {tb : Nat → Nat → Nat → vE} {x : Int32} (hx : isIt x) (hij : i < j) (hj : j ≤ 24) (h : ∀ s, s < 10 → x = nI s → vMl (aN s i j) = mI (tb s i j).2) : f_M_cheapest rt vMl x (nI i) (nI j) = mI (itE rt tb x i j).2 ∧ o_M_cheapest rt vMl x (nI i) (nI j) := by
  unfold f_M_cheapest o_M_cheapest itE
  rw [if_neg (isIt_m1 hx)]
  simp only [bd_def, n_1]
  by_cases c : x < 10
  · obtain ⟨s, hs, rfl⟩ := isIt_sym hx c
    have hb : aN s i j < 6250 := by unfold aN; omega
    simp only [if_pos c, if_pos hij, q_at]
    rw [n_clamp (by omega), n_clamp (by omega)]
    exact ⟨h s hs rfl, n_in (by omega) hb, trivial⟩
  · simp (disch := omega) only [if_neg c, n_eq, n_clamp]
    by_cases c2 : j = i + 1
    · by_cases c3 : rt i = x - 10
      · simp only [if_pos c2, if_pos c3, if_pos (And.intro c2 c3)]; exact ⟨rfl, n_in (by omega) (by omega), trivial⟩
      · simp only [if_pos c2, if_neg c3, if_neg (fun q : j = i + 1 ∧ rt i = x - 10 => c3 q.2)]; exact ⟨rfl, n_in (by omega) (by omega), trivial⟩
    · simp only [if_neg c2, if_neg (fun q : j = i + 1 ∧ rt i = x - 10 => c2 q.1)]; exact ⟨rfl, trivial⟩
theorem q_times {a b : Nat} (ha : a ≤ 1000000000) (hb : b ≤ 1000000000) : f_M_times (nI a) (nI b) = nI (satN (a * b)) := by
  have h : a * b ≤ 1000000000 * 1000000000 := Nat.mul_le_mul ha hb
  unfold f_M_times satN
  rw [bd_def, n_64 (by omega), n_64 (by omega), n_64m]
  generalize a * b = m at *
  have e1 : (Int64.ofNat m).toInt = (m : Int) := Int64.toInt_ofNat_of_lt (by omega)
  have e2 : (1000000000 : Int64).toInt = 1000000000 := by decide
  have e3 : (lg_cmp (Int64.ofNat m) 1000000000 ≤ 0) = (m ≤ 1000000000) := by
    apply propext
    unfold lg_cmp
    by_cases c1 : Int64.ofNat m > 1000000000
    · rw [if_pos c1]
      have := Int64.lt_iff_toInt_lt.mp c1
      rw [e1, e2] at this
      constructor
      · intro q; exact absurd q (by decide)
      · intro q; omega
    · rw [if_neg c1]
      have c2 : ¬ (1000000000 : Int64) < Int64.ofNat m := c1
      rw [Int64.lt_iff_toInt_lt, e1, e2] at c2
      constructor
      · intro _; omega
      · intro _; split <;> decide
  simp only [e3]
  by_cases c : m ≤ 1000000000
  · rw [if_pos c]
    have e4 : (Int64.ofNat m).toInt32 = nI m := by
      rw [← Int32.toInt_inj, nI_toInt (by omega), Int64.toInt_toInt32, e1]
      exact Int.bmod_eq_of_le (by omega) (by omega)
    rw [e4]; congr 1; split <;> omega
  · rw [if_neg c, if_neg (by omega)]; rfl
theorem q_M : (1000000000 : Int32) = nI 1000000000 := rfl
theorem q_plus {a b : Nat} (ha : a ≤ 1000000000) (hb : b ≤ 1000000000) : f_M_plus (nI a) (nI b) = nI (satN (a + b)) := by
  unfold f_M_plus satN
  rw [q_M, n_sub hb]
  simp (disch := omega) only [n_le, n_add]
  by_cases c : a ≤ 1000000000 - b
  · rw [if_pos c]; congr 1; split <;> omega
  · rw [if_neg c, if_neg (by omega)]
theorem q_F : (2000000000 : Int32) = nI 2000000000 := rfl
theorem q_sum {x y : Option Nat} (hx : ∀ c, x = some c → c < 900000000) (hy : ∀ c, y = some c → c < 900000000) : f_M_sum (mI x) (mI y) = mI (oAdd x y) := by
  unfold f_M_sum
  cases x with
  | none => exact if_pos rfl
  | some a =>
    have ha := hx a rfl
    show (if nI a = nI 2000000000 then nI 2000000000 else if mI y = nI 2000000000 then nI 2000000000 else nI a + mI y) = mI (oAdd (some a) y)
    rw [if_neg (by rw [n_eq (by omega) (by omega)]; omega)]
    cases y with
    | none => exact if_pos rfl
    | some b =>
      have hb := hy b rfl
      show (if nI b = nI 2000000000 then nI 2000000000 else nI a + nI b) = nI (a + b)
      rw [if_neg (by rw [n_eq (by omega) (by omega)]; omega), n_add]
theorem q_min {x y : Option Nat} (hx : ∀ c, x = some c → c < 2000000000) (hy : ∀ c, y = some c → c < 2000000000) : (if mI x ≤ mI y then mI x else mI y) = mI (oMin x y) := by
  cases x with
  | none => cases y with
    | none => rw [if_pos (by decide)]; rfl
    | some b =>
      have hb := hy b rfl
      show (if nI 2000000000 ≤ nI b then nI 2000000000 else nI b) = nI b
      rw [if_neg (by rw [n_le (by omega) (by omega)]; omega)]
  | some a =>
    have ha := hx a rfl
    cases y with
    | none =>
      show (if nI a ≤ nI 2000000000 then nI a else nI 2000000000) = nI a
      rw [if_pos (by rw [n_le (by omega) (by omega)]; omega)]
    | some b =>
      have hb := hy b rfl
      show (if nI a ≤ nI b then nI a else nI b) = nI (if b < a then b else a)
      simp (disch := omega) only [n_le]
      by_cases c : a ≤ b
      · rw [if_pos c, if_neg (by omega)]
      · rw [if_neg c, if_pos (by omega)]
def lnN (gi : Nat → Int32) (p : Nat) : Nat := if gi (3 * p + 1) = -1 then 1 else if gi (3 * p + 2) = -1 then 2 else 3
theorem q_len {gi : Nat → Int32} {p : Nat} (hp : p < 24) : f_M_length gi (nI p) = nI (lnN gi p) ∧ o_M_length gi (nI p) := by
  have e1 : ((3 : Int32) * nI p + 1) = nI (3 * p + 1) := by rw [show (3 : Int32) = nI 3 from rfl, n_mul, n_1]
  have e2 : ((3 : Int32) * nI p + 2) = nI (3 * p + 2) := by rw [show (3 : Int32) = nI 3 from rfl, n_mul, q_2, n_add]
  unfold f_M_length o_M_length lnN
  rw [e1, e2, n_clamp (by omega), n_clamp (by omega)]
  by_cases c1 : gi (3 * p + 1) = -1
  · simp only [if_pos c1]; exact ⟨rfl, n_in (by omega) (by omega), trivial⟩
  · simp only [if_neg c1]
    by_cases c2 : gi (3 * p + 2) = -1
    · simp only [if_pos c2]; exact ⟨rfl, n_in (by omega) (by omega), n_in (by omega) (by omega), trivial⟩
    · simp only [if_neg c2]; exact ⟨rfl, n_in (by omega) (by omega), n_in (by omega) (by omega), trivial⟩
theorem q_3 {p : Nat} : (3 : Int32) * nI p = nI (3 * p) := by rw [show (3 : Int32) = nI 3 from rfl, n_mul]
/-- a split of a production over a part -/
def spl (gi rt : Nat → Int32) (tb : Nat → Nat → Nat → vE) (p i f q j : Nat) : vE := eM (itE rt tb (gi (3 * p)) i f) (eM (itE rt tb (gi (3 * p + 1)) f q) (itE rt tb (gi (3 * p + 2)) q j))
def isSpl (gi : Nat → Int32) (p i f q j : Nat) : Prop := if gi (3 * p + 1) = -1 then f = j ∧ q = j ∧ i < j else if gi (3 * p + 2) = -1 then i < f ∧ f < j ∧ q = j else i < f ∧ f < q ∧ q < j
/-- the table lies in the chart within a part, and is good there -/
def tOK (i j : Nat) (vMn vMl : Nat → Int32) (tb : Nat → Nat → Nat → vE) : Prop := ∀ s a b, s < 10 → i ≤ a → a < b → b ≤ j → mcs vMn vMl tb s a b ∧ eG 480000 (tb s a b) ∧ (tb s a b).1 ≤ 1000000000
theorem itE_T {i j : Nat} {vMn vMl rt : Nat → Int32} {tb : Nat → Nat → Nat → vE} (hT : tOK i j vMn vMl tb) {x : Int32} (hx : isIt x) {a b : Nat} (h1 : i ≤ a) (h2 : a < b) (h3 : b ≤ j) : eG 480000 (itE rt tb x a b) ∧ (itE rt tb x a b).1 ≤ 1000000000 := by
  constructor
  · refine itE_g (fun q1 _ q3 => ?_)
    obtain ⟨k, hk, rfl⟩ := isIt_sym hx q1
    rw [n_clamp (by omega)]
    exact (hT k a b hk h1 h2 h3).2.1
  · unfold itE
    rw [if_neg (isIt_m1 hx)]
    by_cases c : x < 10
    · obtain ⟨k, hk, rfl⟩ := isIt_sym hx c
      rw [if_pos c, if_pos h2, n_clamp (by omega)]
      exact (hT k a b hk h1 h2 h3).2.2
    · rw [if_neg c]; split <;> decide
theorem nle_1 : ¬ nI 2 ≤ (1 : Int32) ∧ ¬ nI 3 ≤ (1 : Int32) ∧ ¬ nI 3 ≤ (2 : Int32) ∧ nI 1 ≤ (1 : Int32) ∧ nI 1 ≤ (2 : Int32) ∧ nI 2 ≤ (2 : Int32) := by decide
theorem itE_m1 {rt : Nat → Int32} {tb : Nat → Nat → Nat → vE} {i : Nat} : itE rt tb (-1) i i = eO := by rw [itE_m, if_pos rfl]
set_option maxHeartbeats 1000000 in
theorem q_ways {n p i f q j : Nat} {gh gi gc rt vMn vMl : Nat → Int32} {tb : Nat → Nat → Nat → vE} (hg : gOK n gh gi gc) (hp : p < n) (hj : j ≤ 24) (hT : tOK i j vMn vMl tb) (hs : isSpl gi p i f q j) :
    f_M_ways gi rt vMn (nI p) (nI i) (nI f) (nI q) (nI j) = nI (eS (spl gi rt tb p i f q j)).1 ∧ o_M_ways gi rt vMn (nI p) (nI i) (nI f) (nI q) (nI j) := by
  have hn := hg.1
  obtain ⟨el, ol⟩ := q_len (gi := gi) (p := p) (by omega)
  obtain ⟨-, i0, i12, -⟩ := hg.2 p hp
  have e0 : ((3 : Int32) * nI p).toNatClampNeg = 3 * p := by rw [q_3, n_clamp (by omega)]
  have e1 : ((3 : Int32) * nI p + 1).toNatClampNeg = 3 * p + 1 := by rw [q_3, n_1, n_clamp (by omega)]
  have e2 : ((3 : Int32) * nI p + 2).toNatClampNeg = 3 * p + 2 := by rw [q_3, q_2, n_add, n_clamp (by omega)]
  have v0 : vp_in ((3 : Int32) * nI p) 72 := by rw [q_3]; exact n_in (by omega) (by omega)
  have v1 : vp_in ((3 : Int32) * nI p + 1) 72 := by rw [q_3, n_1]; exact n_in (by omega) (by omega)
  have v2 : vp_in ((3 : Int32) * nI p + 2) 72 := by rw [q_3, q_2, n_add]; exact n_in (by omega) (by omega)
  obtain ⟨l1, l2, l3, l4, l5, l6⟩ := nle_1
  unfold isSpl at hs
  unfold f_M_ways o_M_ways spl
  simp only [bd_def, e0, e1, e2, el]
  by_cases c1 : gi (3 * p + 1) = -1
  · rw [if_pos c1] at hs
    obtain ⟨rfl, rfl, hij⟩ := hs
    have c2 : gi (3 * p + 2) = -1 := by
      rcases i12 with z | z
      · exact z.2
      · exact absurd c1 (isIt_m1 z.1)
    obtain ⟨m1, m2⟩ := q_many (rt := rt) (vMn := vMn) (tb := tb) i0 hij hj (fun s hs _ => (hT s i q hs (by omega) hij (by omega)).1.1)
    have b1 := (itE_T (rt := rt) hT i0 (Nat.le_refl i) hij (by omega)).2
    have hl : lnN gi p = 1 := if_pos c1
    simp only [hl, m1, if_pos l4, if_pos l5]
    rw [c1, c2, itE_m1, eM_o, eM_o]
    exact ⟨by rw [show (eS (itE rt tb (gi (3 * p)) i q)).1 = satN (itE rt tb (gi (3 * p)) i q).1 from rfl, sat_id b1], v0, m2, ol, ol, trivial⟩
  · rw [if_neg c1] at hs
    have j1 : isIt (gi (3 * p + 1)) := by
      rcases i12 with z | z
      · exact absurd z.1 c1
      · exact z.1
    have j2 : gi (3 * p + 2) = -1 ∨ isIt (gi (3 * p + 2)) := by
      rcases i12 with z | z
      · exact absurd z.1 c1
      · exact z.2
    by_cases c2 : gi (3 * p + 2) = -1
    · rw [if_pos c2] at hs
      obtain ⟨hif, hfj, rfl⟩ := hs
      have hl : lnN gi p = 2 := by unfold lnN; rw [if_neg c1, if_pos c2]
      obtain ⟨m1, m2⟩ := q_many (rt := rt) (vMn := vMn) (tb := tb) i0 hif (by omega) (fun s hs _ => (hT s i f hs (by omega) hif (by omega)).1.1)
      obtain ⟨m3, m4⟩ := q_many (rt := rt) (vMn := vMn) (tb := tb) j1 hfj (by omega) (fun s hs _ => (hT s f q hs (by omega) hfj (by omega)).1.1)
      obtain ⟨g1, b1⟩ := itE_T (rt := rt) hT i0 (Nat.le_refl i) hif (by omega)
      obtain ⟨g3, b3⟩ := itE_T (rt := rt) hT j1 (a := f) (b := q) (by omega) hfj (by omega)
      rw [c2, itE_m1, eM_o]
      simp (disch := omega) only [hl, m1, m3, if_neg l1, if_pos l6, n_le0, q_times]
      generalize itE rt tb (gi (3 * p)) i f = a at *
      generalize itE rt tb (gi (3 * p + 1)) f q = b at *
      show _ = nI (satN (a.1 * b.1)) ∧ _
      by_cases za : a.1 = 0
      · simp only [if_pos za]; exact ⟨by rw [za, Nat.zero_mul]; rfl, v0, m2, ol, ol, trivial⟩
      · simp only [if_neg za]; exact ⟨trivial, v0, m2, ol, v1, m4, ol, trivial⟩
    · rw [if_neg c2] at hs
      have j2 : isIt (gi (3 * p + 2)) := by
        rcases j2 with z | z
        · exact absurd z c2
        · exact z
      obtain ⟨hif, hfq, hqj⟩ := hs
      have hl : lnN gi p = 3 := by unfold lnN; rw [if_neg c1, if_neg c2]
      obtain ⟨m1, m2⟩ := q_many (rt := rt) (vMn := vMn) (tb := tb) i0 hif (by omega) (fun s hs _ => (hT s i f hs (by omega) hif (by omega)).1.1)
      obtain ⟨m3, m4⟩ := q_many (rt := rt) (vMn := vMn) (tb := tb) j1 hfq (by omega) (fun s hs _ => (hT s f q hs (by omega) hfq (by omega)).1.1)
      obtain ⟨m5, m6⟩ := q_many (rt := rt) (vMn := vMn) (tb := tb) j2 hqj (by omega) (fun s hs _ => (hT s q j hs (by omega) hqj (by omega)).1.1)
      obtain ⟨g1, b1⟩ := itE_T (rt := rt) hT i0 (Nat.le_refl i) hif (by omega)
      obtain ⟨g3, b3⟩ := itE_T (rt := rt) hT j1 (a := f) (b := q) (by omega) hfq (by omega)
      obtain ⟨g5, b5⟩ := itE_T (rt := rt) hT j2 (a := q) (b := j) (by omega) hqj (by omega)
      generalize itE rt tb (gi (3 * p)) i f = a at *
      generalize itE rt tb (gi (3 * p + 1)) f q = b at *
      generalize itE rt tb (gi (3 * p + 2)) q j = d at *
      have hs1 : satN (a.1 * b.1) ≤ 1000000000 := sat_le
      simp (disch := omega) only [hl, m1, m3, m5, if_neg l1, if_neg l2, if_neg l3, n_le0, q_times]
      show _ = nI (satN (a.1 * (b.1 * d.1))) ∧ _
      by_cases za : a.1 = 0
      · simp only [if_pos za]; exact ⟨by rw [za, Nat.zero_mul]; rfl, v0, m2, ol, ol, trivial⟩
      · simp only [if_neg za]
        by_cases zb : satN (a.1 * b.1) = 0
        · simp only [if_pos zb]
          refine ⟨?_, v0, m2, ol, v1, m4, ol, trivial⟩
          rw [zb, ← Nat.mul_assoc, sat_0.mp zb, Nat.zero_mul]; rfl
        · simp only [if_neg zb]
          refine ⟨?_, v0, m2, ol, v1, m4, ol, v2, m6, trivial⟩
          rw [sat_m, Nat.mul_assoc]
set_option maxHeartbeats 1000000 in
theorem q_price {n p i f q j : Nat} {gh gi gc rt vMn vMl : Nat → Int32} {tb : Nat → Nat → Nat → vE} (hg : gOK n gh gi gc) (hp : p < n) (hj : j ≤ 24) (hT : tOK i j vMn vMl tb) (hs : isSpl gi p i f q j) :
    f_M_price gi gc rt vMl (nI p) (nI i) (nI f) (nI q) (nI j) = mI (eM (own gc p) (spl gi rt tb p i f q j)).2 ∧ o_M_price gi gc rt vMl (nI p) (nI i) (nI f) (nI q) (nI j) ∧ eG 2000000 (eM (own gc p) (spl gi rt tb p i f q j)) := by
  have hn := hg.1
  obtain ⟨el, ol⟩ := q_len (gi := gi) (p := p) (by omega)
  obtain ⟨-, i0, i12, -⟩ := hg.2 p hp
  obtain ⟨co, co1, co2, co3, co4⟩ := own_G hg hp
  have e0 : ((3 : Int32) * nI p).toNatClampNeg = 3 * p := by rw [q_3, n_clamp (by omega)]
  have e1 : ((3 : Int32) * nI p + 1).toNatClampNeg = 3 * p + 1 := by rw [q_3, n_1, n_clamp (by omega)]
  have e2 : ((3 : Int32) * nI p + 2).toNatClampNeg = 3 * p + 2 := by rw [q_3, q_2, n_add, n_clamp (by omega)]
  have e3 : (nI p).toNatClampNeg = p := n_clamp (by omega)
  have v0 : vp_in ((3 : Int32) * nI p) 72 := by rw [q_3]; exact n_in (by omega) (by omega)
  have v1 : vp_in ((3 : Int32) * nI p + 1) 72 := by rw [q_3, n_1]; exact n_in (by omega) (by omega)
  have v2 : vp_in ((3 : Int32) * nI p + 2) 72 := by rw [q_3, q_2, n_add]; exact n_in (by omega) (by omega)
  have v3 : vp_in (nI p) 24 := n_in (by omega) (by omega)
  obtain ⟨l1, l2, l3, l4, l5, l6⟩ := nle_1
  have hc : gc p = mI (some co) := co2
  have hco : ∀ c, (some co : Option Nat) = some c → c < 900000000 := fun c h => by cases h; omega
  unfold isSpl at hs
  unfold f_M_price o_M_price spl
  simp only [bd_def, e0, e1, e2, e3, el, hc]
  by_cases c1 : gi (3 * p + 1) = -1
  · rw [if_pos c1] at hs
    obtain ⟨rfl, rfl, hij⟩ := hs
    have c2 : gi (3 * p + 2) = -1 := by
      rcases i12 with z | z
      · exact z.2
      · exact absurd c1 (isIt_m1 z.1)
    obtain ⟨m1, m2⟩ := q_cheap (rt := rt) (vMl := vMl) (tb := tb) i0 hij hj (fun s hs _ => (hT s i q hs (by omega) hij (by omega)).1.2)
    obtain ⟨g1, b1⟩ := itE_T (rt := rt) hT i0 (Nat.le_refl i) hij (by omega)
    have hl : lnN gi p = 1 := if_pos c1
    simp only [hl, m1, if_pos l4, if_pos l5]
    rw [c1, c2, itE_m1, eM_o, eM_o]
    rw [q_sum hco (fun c h => by have := g1.2 c h; omega)]
    refine ⟨by rw [co3]; rfl, ⟨v3, v0, m2, ol, ol, trivial⟩, eG_w (eG_M co4 g1) (by omega)⟩
  · rw [if_neg c1] at hs
    have j1 : isIt (gi (3 * p + 1)) := by
      rcases i12 with z | z
      · exact absurd z.1 c1
      · exact z.1
    have j2 : gi (3 * p + 2) = -1 ∨ isIt (gi (3 * p + 2)) := by
      rcases i12 with z | z
      · exact absurd z.1 c1
      · exact z.2
    by_cases c2 : gi (3 * p + 2) = -1
    · rw [if_pos c2] at hs
      obtain ⟨hif, hfj, rfl⟩ := hs
      have hl : lnN gi p = 2 := by unfold lnN; rw [if_neg c1, if_pos c2]
      obtain ⟨m1, m2⟩ := q_cheap (rt := rt) (vMl := vMl) (tb := tb) i0 hif (by omega) (fun s hs _ => (hT s i f hs (by omega) hif (by omega)).1.2)
      obtain ⟨m3, m4⟩ := q_cheap (rt := rt) (vMl := vMl) (tb := tb) j1 hfj (by omega) (fun s hs _ => (hT s f q hs (by omega) hfj (by omega)).1.2)
      obtain ⟨g1, b1⟩ := itE_T (rt := rt) hT i0 (Nat.le_refl i) hif (by omega)
      obtain ⟨g3, b3⟩ := itE_T (rt := rt) hT j1 (a := f) (b := q) (by omega) hfj (by omega)
      rw [c2, itE_m1, eM_o]
      generalize itE rt tb (gi (3 * p)) i f = a at *
      generalize itE rt tb (gi (3 * p + 1)) f q = b at *
      have h1 := eG_M co4 g1
      have h3 := eG_M h1 g3
      rw [co3] at h1 h3 ⊢
      simp only [hl, m1, m3, if_neg l1, if_pos l6]
      rw [q_sum hco (fun c h => by have := g1.2 c h; omega), q_sum (fun c h => by have := h1.2 c h; omega) (fun c h => by have := g3.2 c h; omega)]
      refine ⟨?_, ⟨v3, v0, m2, ol, v1, m4, ol, trivial⟩, by rw [← eM_a]; exact eG_w h3 (by omega)⟩
      rw [oAdd_a]; rfl
    · rw [if_neg c2] at hs
      have j2 : isIt (gi (3 * p + 2)) := by
        rcases j2 with z | z
        · exact absurd z c2
        · exact z
      obtain ⟨hif, hfq, hqj⟩ := hs
      have hl : lnN gi p = 3 := by unfold lnN; rw [if_neg c1, if_neg c2]
      obtain ⟨m1, m2⟩ := q_cheap (rt := rt) (vMl := vMl) (tb := tb) i0 hif (by omega) (fun s hs _ => (hT s i f hs (by omega) hif (by omega)).1.2)
      obtain ⟨m3, m4⟩ := q_cheap (rt := rt) (vMl := vMl) (tb := tb) j1 hfq (by omega) (fun s hs _ => (hT s f q hs (by omega) hfq (by omega)).1.2)
      obtain ⟨m5, m6⟩ := q_cheap (rt := rt) (vMl := vMl) (tb := tb) j2 hqj (by omega) (fun s hs _ => (hT s q j hs (by omega) hqj (by omega)).1.2)
      obtain ⟨g1, b1⟩ := itE_T (rt := rt) hT i0 (Nat.le_refl i) hif (by omega)
      obtain ⟨g3, b3⟩ := itE_T (rt := rt) hT j1 (a := f) (b := q) (by omega) hfq (by omega)
      obtain ⟨g5, b5⟩ := itE_T (rt := rt) hT j2 (a := q) (b := j) (by omega) hqj (by omega)
      generalize itE rt tb (gi (3 * p)) i f = a at *
      generalize itE rt tb (gi (3 * p + 1)) f q = b at *
      generalize itE rt tb (gi (3 * p + 2)) q j = d at *
      have h1 := eG_M co4 g1
      have h3 := eG_M h1 g3
      have h5 := eG_M h3 g5
      rw [co3] at h1 h3 h5 ⊢
      simp only [hl, m1, m3, m5, if_neg l1, if_neg l2, if_neg l3]
      rw [q_sum hco (fun c h => by have := g1.2 c h; omega), q_sum (fun c h => by have := h1.2 c h; omega) (fun c h => by have := g3.2 c h; omega), q_sum (fun c h => by have := h3.2 c h; omega) (fun c h => by have := g5.2 c h; omega)]
      refine ⟨?_, ⟨v3, v0, m2, ol, v1, m4, ol, v2, m6, trivial⟩, by rw [← eM_a, ← eM_a]; exact eG_w h5 (by omega)⟩
      rw [oAdd_a, oAdd_a]; rfl
