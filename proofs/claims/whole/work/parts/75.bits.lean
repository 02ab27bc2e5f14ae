/-! Bits of an int; counts of bits; reached symbols; fertile symbols -/
def bt (x : Int32) (k : Nat) : Bool := x.toBitVec.getLsbD k
theorem bt_or {x y : Int32} {k : Nat} : bt (x ||| y) k = (bt x k || bt y k) := by simp [bt]
theorem bt_and {x y : Int32} {k : Nat} : bt (x &&& y) k = (bt x k && bt y k) := by simp [bt]
theorem bt_0 {k : Nat} : bt 0 k = false := by simp [bt]
def bit1 (m : Nat) : Int32 := (1 : Int32) <<< (nI m &&& 31)
theorem bt_one {m k : Nat} (hm : m < 32) (hk : k < 32) : bt (bit1 m) k = decide (k = m) := by
  have h : ∀ m : Fin 32, ∀ k : Fin 32, bt (bit1 m.1) k.1 = decide (k.1 = m.1) := by decide +kernel
  exact h ⟨m, hm⟩ ⟨k, hk⟩
theorem bt_ext {x y : Int32} (h : ∀ k, k < 32 → bt x k = bt y k) : x = y := by
  apply Int32.toBitVec_inj.mp
  exact BitVec.eq_of_getLsbD_eq (fun i hi => h i hi)
theorem bt_has {x : Int32} {m : Nat} (hm : m < 32) : (x &&& bit1 m = 0) = (bt x m = false) := by
  apply propext
  constructor
  · intro h
    have := bt_and (x := x) (y := bit1 m) (k := m)
    rw [h, bt_0, bt_one hm hm] at this
    simpa using this.symm
  · intro h
    apply bt_ext
    intro k hk
    rw [bt_and, bt_0, bt_one hm hk]
    by_cases c : k = m
    · subst c; rw [h]; rfl
    · simp [c]
theorem k_has {x : Int32} {m : Nat} (hm : m < 32) : f_H_has x (nI m) = if bt x m then 1 else 0 := by
  unfold f_H_has
  show (if x &&& bit1 m = 0 then (0 : Int32) else 1) = _
  simp only [bt_has hm]
  cases bt x m <;> rfl
/-- how many of the first n -/
def cntB (f : Nat → Bool) : Nat → Nat
  | 0 => 0
  | n + 1 => cntB f n + (f n).toNat
theorem cntB_le {f g : Nat → Bool} {n : Nat} (h : ∀ k, k < n → f k = true → g k = true) : cntB f n ≤ cntB g n := by
  induction n with
  | zero => exact Nat.le_refl _
  | succ n ih =>
    have h1 := ih (fun k hk => h k (by omega))
    have h2 : (f n).toNat ≤ (g n).toNat := by
      have := h n (by omega)
      cases e1 : f n <;> cases e2 : g n <;> simp_all
    show cntB f n + (f n).toNat ≤ cntB g n + (g n).toNat
    omega
theorem cntB_lt {f g : Nat → Bool} {n m : Nat} (h : ∀ k, k < n → f k = true → g k = true) (hm : m < n) (h1 : f m = false) (h2 : g m = true) : cntB f n < cntB g n := by
  induction n with
  | zero => omega
  | succ n ih =>
    show cntB f n + (f n).toNat < cntB g n + (g n).toNat
    by_cases c : m = n
    · subst c
      have := cntB_le (f := f) (g := g) (n := m) (fun k hk => h k (by omega))
      rw [h1, h2]; simp; omega
    · have h3 := ih (fun k hk => h k (by omega)) (by omega)
      have h4 : (f n).toNat ≤ (g n).toNat := by
        have := h n (by omega)
        cases e1 : f n <;> cases e2 : g n <;> simp_all
      omega
theorem cntB_top {f : Nat → Bool} {n : Nat} : cntB f n ≤ n := by
  induction n with
  | zero => exact Nat.le_refl _
  | succ n ih =>
    have : (f n).toNat ≤ 1 := by cases f n <;> simp
    show cntB f n + (f n).toNat ≤ n + 1
    omega
theorem k_bitCount {x : Int32} (h : ∀ k, 10 ≤ k → k < 32 → bt x k = false) : f_J_bitCount x = nI (cntB (bt x) 10) := by
  have hx : ∃ m : Nat, m < 1024 ∧ x = nI m := by
    refine ⟨x.toBitVec.toNat, ?_, ?_⟩
    · have h9 : x.toBitVec.toNat < 2 ^ 10 := by
        apply Nat.lt_pow_two_of_testBit
        intro j hj
        by_cases c : j < 32
        · exact h j (by omega) c
        · exact Nat.testBit_lt_two_pow (Nat.lt_of_lt_of_le x.toBitVec.isLt (Nat.pow_le_pow_right (by omega) (by omega)))
      exact h9
    · apply Int32.toBitVec_inj.mp
      show x.toBitVec = (Int32.ofNat x.toBitVec.toNat).toBitVec
      simp [Int32.ofNat]
  obtain ⟨m, hm, rfl⟩ := hx
  have key : ∀ m : Fin 1024, f_J_bitCount (nI m.1) = nI (cntB (bt (nI m.1)) 10) := by decide +kernel
  exact key ⟨m, hm⟩
/-- a step: a symbol alone -/
def isStp (gi : Nat → Int32) (p : Nat) : Prop := gi (3 * p) < 10 ∧ gi (3 * p + 1) = -1
/-- reached symbols, as bits -/
def reOK (n : Nat) (gh gi vGr : Nat → Int32) : Prop := (∀ s k, s < 10 → 10 ≤ k → k < 32 → bt (vGr s) k = false) ∧ (∀ s t u, s < 10 → t < 10 → u < 10 → bt (vGr s) t = true → bt (vGr t) u = true → bt (vGr s) u = true) ∧ (∀ s, s < 10 → bt (vGr s) s = false) ∧ (∀ p, p < n → isStp gi p → bt (vGr (gh p).toNatClampNeg) (gi (3 * p)).toNatClampNeg = true) ∧ ∀ Q : Nat → Nat → Prop, (∀ s, Q s s) → (∀ s p, p < n → isStp gi p → Q s (gh p).toNatClampNeg → Q s (gi (3 * p)).toNatClampNeg) → ∀ s t, s < 10 → t < 10 → bt (vGr s) t = true → Q s t
def lvR (vGr : Nat → Int32) (s : Nat) : Nat := if s < 10 then cntB (bt (vGr s)) 10 else 0
theorem reOK_lv {n : Nat} {gh gi gc vGr : Nat → Int32} (hg : gOK n gh gi gc) (h : reOK n gh gi vGr) : lvOK n gh gi (lvR vGr) := by
  obtain ⟨h1, h2, h3, h4, h5⟩ := h
  constructor
  · intro s
    unfold lvR
    split
    · rename_i hs
      have := cntB_lt (f := bt (vGr s)) (g := fun _ => true) (n := 10) (m := s) (fun _ _ _ => rfl) hs (h3 s hs) rfl
      have e : cntB (fun _ => true) 10 = 10 := by decide
      omega
    · omega
  · intro p hp c1 c2
    obtain ⟨g1, g2, -⟩ := hg.2 p hp
    obtain ⟨t, ht, et⟩ := isIt_sym g2 c2
    obtain ⟨s, es, es2, es3⟩ := n_of g1.1
    have hs : s < 10 := by omega
    have h6 := h4 p hp ⟨c2, c1⟩
    rw [et, es, n_clamp (by omega), n_clamp (by omega)] at h6 ⊢
    unfold lvR
    rw [if_pos ht, if_pos hs]
    exact cntB_lt (fun k hk hb => h2 s t k hs ht hk h6 hb) ht (h3 t ht) h6
/-- fertile symbols, as bits: an item of which some row comes -/
def itF (Q : Nat → Prop) (x : Int32) : Prop := x < 10 → x ≠ -1 → Q x.toNatClampNeg
def prF (gi : Nat → Int32) (Q : Nat → Prop) (p : Nat) : Prop := itF Q (gi (3 * p)) ∧ itF Q (gi (3 * p + 1)) ∧ itF Q (gi (3 * p + 2))
def feOK (n : Nat) (gh gi : Nat → Int32) (vGF : Int32) : Prop := (∀ k, 10 ≤ k → k < 32 → bt vGF k = false) ∧ (∀ p, p < n → prF gi (fun s => bt vGF s = true) p → bt vGF (gh p).toNatClampNeg = true) ∧ ∀ Q : Nat → Prop, (∀ p, p < n → prF gi Q p → Q (gh p).toNatClampNeg) → ∀ s, s < 10 → bt vGF s = true → Q s
/-- what class and reference have in common between calls -/
def relM (vTS : Int32) (vTf : Nat → Int32) (vCF : Int32) (vCn vCc : Nat → Int32) (vGF vGS : Int32) (vGh vGi vGc vGo vGr : Nat → Int32) (vRL : Int32) (vRt : Nat → Int32) (vMP vMK vMB vMD : Int32) (vMh vMi vMc vMt vMn vMl vMd : Nat → Int32) : Prop :=
  ∃ n rl fl nd : Nat, (vGS = nI n ∧ vMP = nI n ∧ vRL = nI rl ∧ vMK = nI rl ∧ rl ≤ 24 ∧ vCF = nI fl ∧ fl ≤ rl ∧ vTS = nI nd ∧ vMD = nI nd ∧ nd ≤ 470) ∧ (vGh = vMh ∧ vGi = vMi ∧ vGc = vMc ∧ vRt = vMt) ∧ gOK n vGh vGi vGc ∧ (∀ i, i < rl → 0 ≤ (vRt i).toInt ∧ (vRt i).toInt < 10) ∧ (∀ i, i < 4 * nd → vTf i = vMd i) ∧ reOK n vGh vGi vGr ∧ ordOK n vGh vGi vGo ∧ feOK n vGh vGi vGF ∧ colOK n fl vGh vGi vGc vRt vCn vCc ∧ (vMB = 0 ∨ (vMB = 1 ∧ mOK n rl vGh vGi vGc vRt (fun _ _ => True) vMn vMl))
