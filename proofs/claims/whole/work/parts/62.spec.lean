/-! The forest: counts and least costs as one value (count, cost); none: no tree -/
abbrev vE : Type := Nat × Option Nat
def eZ : vE := (0, none)
def eO : vE := (1, some 0)
def oMin : Option Nat → Option Nat → Option Nat
  | none, b => b
  | some a, none => some a
  | some a, some b => some (if b < a then b else a)
def oAdd : Option Nat → Option Nat → Option Nat
  | some a, some b => some (a + b)
  | some _, none => none
  | none, _ => none
def eA (e f : vE) : vE := (e.1 + f.1, oMin e.2 f.2)
def eM (e f : vE) : vE := (e.1 * f.1, oAdd e.2 f.2)
def eS (e : vE) : vE := (satN e.1, e.2)
theorem oMin_n {a : Option Nat} : oMin a none = a := by cases a <;> rfl
theorem oMin_a {a b c : Option Nat} : oMin (oMin a b) c = oMin a (oMin b c) := by
  cases a <;> cases b <;> cases c <;> simp only [oMin] <;> congr 1 <;> (repeat' split) <;> omega
theorem oAdd_a {a b c : Option Nat} : oAdd (oAdd a b) c = oAdd a (oAdd b c) := by
  cases a <;> cases b <;> cases c <;> simp only [oAdd] <;> congr 1 <;> omega
theorem oAdd_d {a b c : Option Nat} : oAdd a (oMin b c) = oMin (oAdd a b) (oAdd a c) := by
  cases a <;> cases b <;> cases c <;> simp only [oAdd, oMin] <;> congr 1 <;> (repeat' split) <;> omega
theorem oAdd_n {a : Option Nat} : oAdd a none = none := by cases a <;> rfl
theorem oAdd_0 {a : Option Nat} : oAdd a (some 0) = a := by cases a <;> rfl
theorem oAdd_l {a : Option Nat} : oAdd (some 0) a = a := by cases a <;> simp [oAdd]
theorem eA_z {e : vE} : eA e eZ = e := by simp [eA, eZ, oMin_n]
theorem eZ_A {e : vE} : eA eZ e = e := by simp [eA, eZ, oMin]
theorem eA_a {a b c : vE} : eA (eA a b) c = eA a (eA b c) := by simp [eA, oMin_a, Nat.add_assoc]
theorem eM_a {a b c : vE} : eM (eM a b) c = eM a (eM b c) := by simp [eM, oAdd_a, Nat.mul_assoc]
theorem eM_d {a b c : vE} : eM a (eA b c) = eA (eM a b) (eM a c) := by simp [eA, eM, oAdd_d, Nat.mul_add]
theorem eM_z {a : vE} : eM a eZ = eZ := by simp [eM, eZ, oAdd_n]
theorem eZ_M {a : vE} : eM eZ a = eZ := by simp [eM, eZ, oAdd]
theorem eM_o {a : vE} : eM a eO = a := by simp [eM, eO, oAdd_0]
theorem eO_M {a : vE} : eM eO a = a := by simp [eM, eO, oAdd_l]
theorem sat_le {a : Nat} : satN a ≤ 1000000000 := by unfold satN; split <;> omega
theorem sat_id {a : Nat} (h : a ≤ 1000000000) : satN a = a := by unfold satN; split <;> omega
theorem sat_0 {a : Nat} : satN a = 0 ↔ a = 0 := by unfold satN; split <;> omega
theorem sat_s {a : Nat} : satN (satN a) = satN a := sat_id sat_le
theorem sat_a {a b : Nat} : satN (satN a + b) = satN (a + b) := by unfold satN; repeat' split
                                                                   all_goals omega
theorem sat_m {a b : Nat} : satN (satN a * b) = satN (a * b) := by
  by_cases h : a < 1000000000
  · rw [sat_id (a := a) (by omega)]
  · have h1 : satN a = 1000000000 := by unfold satN; rw [if_neg h]
    rw [h1]
    rcases Nat.eq_zero_or_pos b with rfl | hb
    · rfl
    · have h2 : 1000000000 * 1 ≤ 1000000000 * b := Nat.mul_le_mul_left _ hb
      have h3 : a * 1 ≤ a * b := Nat.mul_le_mul_left _ hb
      unfold satN; rw [if_neg (by omega), if_neg (by omega)]
theorem sat_m2 {a b : Nat} : satN (a * satN b) = satN (a * b) := by rw [Nat.mul_comm, sat_m, Nat.mul_comm]
theorem sat_a2 {a b : Nat} : satN (a + satN b) = satN (a + b) := by rw [Nat.add_comm, sat_a, Nat.add_comm]
theorem eS_A {e f : vE} : eS (eA (eS e) f) = eS (eA e f) := by simp [eS, eA, sat_a]
theorem eS_A2 {e f : vE} : eS (eA e (eS f)) = eS (eA e f) := by simp [eS, eA, sat_a2]
theorem eS_M {e f : vE} : eS (eM (eS e) f) = eS (eM e f) := by simp [eS, eM, sat_m]
theorem eS_M2 {e f : vE} : eS (eM e (eS f)) = eS (eM e f) := by simp [eS, eM, sat_m2]
theorem eS_S {e : vE} : eS (eS e) = eS e := by simp [eS, sat_s]
theorem eS_AM {x a r : vE} : eS (eA x (eM a (eS r))) = eS (eA x (eM a r)) := by
  rw [← eS_A2, eS_M2, eS_A2]
theorem eS_z : eS eZ = eZ := rfl
/-- a sum of n values, from lo on -/
def sm (f : Nat → vE) (lo : Nat) : Nat → vE
  | 0 => eZ
  | n + 1 => eA (sm f lo n) (f (lo + n))
theorem sm_0 {f : Nat → vE} {lo : Nat} : sm f lo 0 = eZ := rfl
theorem sm_1 {f : Nat → vE} {lo n : Nat} : sm f lo (n + 1) = eA (sm f lo n) (f (lo + n)) := rfl
theorem sm_one {f : Nat → vE} {lo : Nat} : sm f lo 1 = f lo := by rw [sm_1, sm_0, eZ_A]; rfl
theorem sm_M {f : Nat → vE} {a : vE} {lo n : Nat} : eM a (sm f lo n) = sm (fun k => eM a (f k)) lo n := by
  induction n with
  | zero => exact eM_z
  | succ n ih => rw [sm_1, sm_1, eM_d, ih]
theorem sm_c {f g : Nat → vE} {lo n : Nat} (h : ∀ k, lo ≤ k → k < lo + n → f k = g k) : sm f lo n = sm g lo n := by
  induction n with
  | zero => rfl
  | succ n ih => rw [sm_1, sm_1, ih (fun k h1 h2 => h k h1 (by omega)), h (lo + n) (by omega) (by omega)]
/-- a property that sums keep -/
theorem sm_p {P : vE → Prop} {f : Nat → vE} {lo n : Nat} (hz : P eZ) (ha : ∀ a b, P a → P b → P (eA a b)) (h : ∀ k, lo ≤ k → k < lo + n → P (f k)) : P (sm f lo n) := by
  induction n with
  | zero => exact hz
  | succ n ih => exact ha _ _ (ih (fun k h1 h2 => h k h1 (by omega))) (h (lo + n) (by omega) (by omega))
/-- what an item gives over a part -/
def itE (rt : Nat → Int32) (tb : Nat → Nat → Nat → vE) (x : Int32) (i j : Nat) : vE :=
  if x = -1 then (if i = j then eO else eZ) else if x < 10 then (if i < j then tb x.toNatClampNeg i j else eZ) else (if j = i + 1 ∧ rt i = x - 10 then eO else eZ)
def fLo (gi : Nat → Int32) (p i j : Nat) : Nat := if gi (3 * p + 1) = -1 then j else i + 1
def fNo (gi : Nat → Int32) (p i j : Nat) : Nat := if gi (3 * p + 1) = -1 then 1 else if gi (3 * p + 2) = -1 then j - 1 - i else j - 2 - i
def sLo (gi : Nat → Int32) (p k j : Nat) : Nat := if gi (3 * p + 2) = -1 then j else k + 1
def sNo (gi : Nat → Int32) (p k j : Nat) : Nat := if gi (3 * p + 2) = -1 then 1 else j - 1 - k
section SPEC
variable (n : Nat) (gh gi gc rt : Nat → Int32)
def rst (tb : Nat → Nat → Nat → vE) (p k j : Nat) : vE := sm (fun q => eM (itE rt tb (gi (3 * p + 1)) k q) (itE rt tb (gi (3 * p + 2)) q j)) (sLo gi p k j) (sNo gi p k j)
def prd (tb : Nat → Nat → Nat → vE) (p i j : Nat) : vE := sm (fun f => eM (itE rt tb (gi (3 * p)) i f) (rst gi rt tb p f j)) (fLo gi p i j) (fNo gi p i j)
def own (p : Nat) : vE := (1, some (gc p).toNatClampNeg)
def trm (tb : Nat → Nat → Nat → vE) (s p i j : Nat) : vE := if gh p = nI s then eM (own gc p) (prd gi rt tb p i j) else eZ
def bdy (tb : Nat → Nat → Nat → vE) (s i j : Nat) : vE := sm (fun p => trm gh gi gc rt tb s p i j) 0 n
def val : Nat → Nat → Nat → Nat → vE
  | 0 => fun _ _ _ => eZ
  | k + 1 => fun s i j => eS (bdy n gh gi gc rt (val k) s i j)
def vV : Nat → Nat → Nat → vE := val n gh gi gc rt 1000
end SPEC
/-- an item; the productions are good -/
def isIt (x : Int32) : Prop := 0 ≤ x.toInt ∧ x.toInt < 20
def gOK (n : Nat) (gh gi gc : Nat → Int32) : Prop := n ≤ 24 ∧ ∀ p, p < n → (0 ≤ (gh p).toInt ∧ (gh p).toInt < 10) ∧ isIt (gi (3 * p)) ∧ (gi (3 * p + 1) = -1 ∧ gi (3 * p + 2) = -1 ∨ isIt (gi (3 * p + 1)) ∧ (gi (3 * p + 2) = -1 ∨ isIt (gi (3 * p + 2)))) ∧ (0 ≤ (gc p).toInt ∧ (gc p).toInt ≤ 1000)
/-- levels: a step goes down -/
def lvOK (n : Nat) (gh gi : Nat → Int32) (lv : Nat → Nat) : Prop := (∀ s, lv s ≤ 9) ∧ ∀ p, p < n → gi (3 * p + 1) = -1 → gi (3 * p) < 10 → lv (gi (3 * p)).toNatClampNeg < lv (gh p).toNatClampNeg
theorem isIt_sym {x : Int32} (h : isIt x) (h2 : x < 10) : ∃ k, k < 10 ∧ x = nI k := by
  obtain ⟨k, e, h3, h4⟩ := n_of h.1
  have := x_lt h2
  have e10 : (10 : Int32).toInt = 10 := by decide
  exact ⟨k, by omega, e⟩
theorem isIt_tok {x : Int32} (h : isIt x) (h2 : ¬ x < 10) : ∃ k, 10 ≤ k ∧ k < 20 ∧ x = nI k := by
  obtain ⟨k, e, h3, h4⟩ := n_of h.1
  have := x_nlt h2
  have e10 : (10 : Int32).toInt = 10 := by decide
  have := h.2
  exact ⟨k, by omega, by omega, e⟩
theorem isIt_m1 {x : Int32} (h : isIt x) : x ≠ -1 := by
  intro e; have := h.1; rw [e] at this; revert this; decide
theorem itE_c {rt rt' : Nat → Int32} {tb tb' : Nat → Nat → Nat → vE} {x : Int32} {i j : Nat} (ht : x < 10 → x ≠ -1 → i < j → tb x.toNatClampNeg i j = tb' x.toNatClampNeg i j) (hr : j = i + 1 → rt i = rt' i) : itE rt tb x i j = itE rt' tb' x i j := by
  unfold itE
  by_cases h1 : x = -1
  · rw [if_pos h1, if_pos h1]
  · rw [if_neg h1, if_neg h1]
    by_cases h2 : x < 10
    · rw [if_pos h2, if_pos h2]
      by_cases h3 : i < j
      · rw [if_pos h3, if_pos h3, ht h2 h1 h3]
      · rw [if_neg h3, if_neg h3]
    · rw [if_neg h2, if_neg h2]
      by_cases h3 : j = i + 1
      · rw [hr h3]
      · rw [if_neg (fun h => h3 h.1), if_neg (fun h => h3 h.1)]
theorem itE_m {rt : Nat → Int32} {tb : Nat → Nat → Nat → vE} {i j : Nat} : itE rt tb (-1) i j = if i = j then eO else eZ := by
  unfold itE; rw [if_pos rfl]
/-- a production's part looks only at less: at smaller parts, or, of a step, at the same part of a lower symbol -/
theorem prd_c {n : Nat} {gh gi gc rt rt' : Nat → Int32} {lv : Nat → Nat} (hg : gOK n gh gi gc) (hl : lvOK n gh gi lv) {tb tb' : Nat → Nat → Nat → vE} {p i j : Nat} (hp : p < n) (hij : i < j) (hr : ∀ k, i ≤ k → k < j → rt k = rt' k)
    (h : ∀ s' i' j', s' < 10 → i ≤ i' → i' < j' → j' ≤ j → (j' - i' < j - i ∨ (i' = i ∧ j' = j ∧ lv s' < lv (gh p).toNatClampNeg)) → tb s' i' j' = tb' s' i' j') : prd gi rt tb p i j = prd gi rt' tb' p i j := by
  obtain ⟨-, hg⟩ := hg
  obtain ⟨-, i0, i12, -⟩ := hg p hp
  have sym : ∀ {x : Int32} {a b : Nat}, isIt x → x < 10 → i ≤ a → a < b → b ≤ j → (b - a < j - i) → tb x.toNatClampNeg a b = tb' x.toNatClampNeg a b := by
    intro x a b h1 h2 h3 h4 h5 h6
    obtain ⟨k, hk, rfl⟩ := isIt_sym h1 h2
    rw [n_clamp (by omega)]
    exact h k a b hk h3 h4 h5 (Or.inl h6)
  unfold prd
  refine sm_c (fun f hf1 hf2 => ?_)
  by_cases c1 : gi (3 * p + 1) = -1
  · have c2 : gi (3 * p + 2) = -1 := by
      rcases i12 with q | q
      · exact q.2
      · exact absurd c1 (isIt_m1 q.1)
    unfold fLo at hf1 hf2; unfold fNo at hf2; rw [if_pos c1] at hf1 hf2; rw [if_pos c1] at hf2
    have ef : f = j := by omega
    subst ef
    congr 1
    · refine itE_c (fun q1 q2 q3 => ?_) (fun q => hr _ (by omega) (by omega))
      have q4 := hl.2 p hp c1 q1
      obtain ⟨k, hk, e⟩ := isIt_sym i0 q1
      rw [e] at q4 ⊢; rw [n_clamp (by omega)] at q4 ⊢
      exact h k i f hk (by omega) q3 (by omega) (Or.inr ⟨rfl, rfl, q4⟩)
    · unfold rst
      refine sm_c (fun q _ _ => ?_)
      rw [c1, c2, itE_m, itE_m, itE_m, itE_m]
  · have j1 : isIt (gi (3 * p + 1)) := by
      rcases i12 with q | q
      · exact absurd q.1 c1
      · exact q.1
    have j2 : gi (3 * p + 2) = -1 ∨ isIt (gi (3 * p + 2)) := by
      rcases i12 with q | q
      · exact absurd q.1 c1
      · exact q.2
    unfold fLo at hf1 hf2; unfold fNo at hf2; rw [if_neg c1] at hf1 hf2; rw [if_neg c1] at hf2
    have hfj : f < j := by split at hf2 <;> omega
    congr 1
    · exact itE_c (fun q1 _ q3 => sym i0 q1 (by omega) q3 (by omega) (by omega)) (fun q => hr _ (by omega) (by omega))
    · unfold rst
      refine sm_c (fun q hq1 hq2 => ?_)
      unfold sLo at hq1 hq2; unfold sNo at hq2
      have hqj : q ≤ j := by
        by_cases c2 : gi (3 * p + 2) = -1
        · rw [if_pos c2, if_pos c2] at hq2; omega
        · rw [if_neg c2, if_neg c2] at hq2; omega
      congr 1
      · exact itE_c (fun q1 _ q3 => sym j1 q1 (by omega) q3 hqj (by omega)) (fun q => hr _ (by omega) (by omega))
      · rcases j2 with c2 | c2
        · rw [c2, itE_m, itE_m]
        · rw [if_neg (isIt_m1 c2)] at hq1
          exact itE_c (fun q1 _ q3 => sym c2 q1 (by omega) q3 (by omega) (by omega)) (fun q => hr _ (by omega) (by omega))
theorem bdy_c {n : Nat} {gh gi gc rt rt' : Nat → Int32} {lv : Nat → Nat} (hg : gOK n gh gi gc) (hl : lvOK n gh gi lv) {tb tb' : Nat → Nat → Nat → vE} {s i j : Nat} (hs : s < 10) (hij : i < j) (hr : ∀ k, i ≤ k → k < j → rt k = rt' k)
    (h : ∀ s' i' j', s' < 10 → i ≤ i' → i' < j' → j' ≤ j → (j' - i' < j - i ∨ (i' = i ∧ j' = j ∧ lv s' < lv s)) → tb s' i' j' = tb' s' i' j') : bdy n gh gi gc rt tb s i j = bdy n gh gi gc rt' tb' s i j := by
  unfold bdy
  refine sm_c (fun p _ hp => ?_)
  unfold trm
  by_cases c : gh p = nI s
  · rw [if_pos c, if_pos c, prd_c hg hl (by omega) hij hr (fun s' i' j' h1 h2 h3 h4 h5 => h s' i' j' h1 h2 h3 h4 (by rw [c, n_clamp (by omega)] at h5; exact h5))]
  · rw [if_neg c, if_neg c]
theorem val_s {n : Nat} {gh gi gc rt : Nat → Int32} {lv : Nat → Nat} (hg : gOK n gh gi gc) (hl : lvOK n gh gi lv) : ∀ (k s i j : Nat), s < 10 → i < j → 10 * (j - i) + lv s < k → val n gh gi gc rt k s i j = val n gh gi gc rt (k + 1) s i j := by
  intro k
  induction k with
  | zero => intro s i j _ _ h; omega
  | succ k ih =>
    intro s i j hs hij hk
    show eS (bdy n gh gi gc rt (val n gh gi gc rt k) s i j) = eS (bdy n gh gi gc rt (val n gh gi gc rt (k + 1)) s i j)
    rw [bdy_c hg hl hs hij (fun _ _ _ => rfl) (fun s' i' j' h1 h2 h3 h4 h5 => ih s' i' j' h1 h3 (by have := hl.1 s'; omega))]
theorem vV_eq {n : Nat} {gh gi gc rt : Nat → Int32} {lv : Nat → Nat} (hg : gOK n gh gi gc) (hl : lvOK n gh gi lv) {s i j : Nat} (hs : s < 10) (hij : i < j) (hj : j ≤ 24) : vV n gh gi gc rt s i j = eS (bdy n gh gi gc rt (vV n gh gi gc rt) s i j) := by
  have := hl.1 s
  exact val_s hg hl 1000 s i j hs hij (by omega)
theorem vV_row {n : Nat} {gh gi gc rt rt' : Nat → Int32} {lv : Nat → Nat} (hg : gOK n gh gi gc) (hl : lvOK n gh gi lv) {m : Nat} (hr : ∀ k, k < m → rt k = rt' k) {s i j : Nat} (hs : s < 10) (hij : i < j) (hj : j ≤ m) : vV n gh gi gc rt s i j = vV n gh gi gc rt' s i j := by
  have key : ∀ (k s i j : Nat), s < 10 → i < j → j ≤ m → val n gh gi gc rt k s i j = val n gh gi gc rt' k s i j := by
    intro k
    induction k with
    | zero => intro s i j _ _ _; rfl
    | succ k ih =>
      intro s i j hs hij hj
      show eS (bdy n gh gi gc rt (val n gh gi gc rt k) s i j) = eS (bdy n gh gi gc rt' (val n gh gi gc rt' k) s i j)
      rw [bdy_c hg hl hs hij (fun q _ hq => hr q (by omega)) (fun s' i' j' h1 h2 h3 h4 h5 => ih s' i' j' h1 h3 (by omega))]
  exact key 1000 s i j hs hij hj
