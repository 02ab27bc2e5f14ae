theorem n_div {a b : Nat} (ha : a < 2147483648) (hb : b < 2147483648) : nI a / nI b = nI (a / b) := by
  have h : a / b ≤ a := Nat.div_le_self a b
  rw [← Int32.toInt_inj, Int32.toInt_div, n_tI ha, n_tI hb, n_tI (by omega), ← Int.ofNat_tdiv]
  generalize a / b = q at *
  exact Int.bmod_eq_of_le (by omega) (by omega)
theorem n_mod {a b : Nat} (ha : a < 2147483648) (hb : b < 2147483648) : nI a - nI a / nI b * nI b = nI (a % b) := by
  have h : b * (a / b) + a % b = a := Nat.div_add_mod a b
  rw [Nat.mul_comm] at h
  rw [n_div ha hb, n_mul, n_sub (by omega)]
  congr 1; omega
/-- an entry of the stack: symbol, from, to, number, depth -/
abbrev eN : Type := Nat × Nat × Nat × Option Nat × Nat
abbrev sT : Type := Nat × (Nat → eN)
def pu (x : Int32) (i j : Nat) (k : Option Nat) (d : Nat) (S : sT) : sT := if x = -1 ∨ ¬ x < 10 then S else (S.1 + 1, fun y => if y = S.1 then (x.toNatClampNeg, i, j, k, d) else S.2 y)
theorem pu_no {x : Int32} {i j : Nat} {k : Option Nat} {d : Nat} {S : sT} (h : x = -1 ∨ ¬ x < 10) : pu x i j k d S = S := if_pos h
theorem pu_yes {s i j : Nat} {k : Option Nat} {d : Nat} {S : sT} (h : s < 10) : pu (nI s) i j k d S = (S.1 + 1, fun y => if y = S.1 then (s, i, j, k, d) else S.2 y) := by
  unfold pu
  rw [if_neg, n_clamp (by omega)]
  intro q
  rcases q with q | q
  · have := x_eq q; rw [n_tI (by omega), x_m1] at this; omega
  · exact q (by rw [q_10, n_lt (by omega) (by omega)]; exact h)
theorem isIt1_c {x : Int32} (h : isIt1 x) : (x = -1 ∨ ¬ x < 10) ∨ ∃ s, s < 10 ∧ x = nI s := by
  rcases h with h | h
  · exact Or.inl (Or.inl h)
  · by_cases c : x < 10
    · obtain ⟨s, hs, e⟩ := isIt_sym h c; exact Or.inr ⟨s, hs, e⟩
    · exact Or.inl (Or.inr c)
def sumW (g : eN → Nat) : Nat → (Nat → eN) → Nat
  | 0, _ => 0
  | w + 1, e => sumW g w e + g (e w)
theorem sumW_c {g : eN → Nat} {w : Nat} {e e' : Nat → eN} (h : ∀ y, y < w → e y = e' y) : sumW g w e = sumW g w e' := by
  induction w with
  | zero => rfl
  | succ w ih =>
    show sumW g w e + g (e w) = sumW g w e' + g (e' w)
    rw [ih (fun y hy => h y (by omega)), h w (by omega)]
theorem sumW_ge {g : eN → Nat} {w : Nat} {e : Nat → eN} (h : ∀ y, y < w → 1 ≤ g (e y)) : w ≤ sumW g w e := by
  induction w with
  | zero => exact Nat.zero_le _
  | succ w ih =>
    have h1 := ih (fun y hy => h y (by omega))
    have h2 := h w (by omega)
    show w + 1 ≤ sumW g w e + g (e w)
    omega
theorem sumW_pu {g : eN → Nat} {s i j : Nat} {k : Option Nat} {d : Nat} {S : sT} (h : s < 10) : sumW g (pu (nI s) i j k d S).1 (pu (nI s) i j k d S).2 = sumW g S.1 S.2 + g (s, i, j, k, d) := by
  rw [pu_yes h]
  show sumW g S.1 _ + g (if S.1 = S.1 then _ else _) = _
  rw [if_pos rfl, sumW_c (e' := S.2) (fun y hy => if_neg (Nat.ne_of_lt hy))]
def eLen (e : eN) : Nat := e.2.2.1 - e.2.1
def ePot (lv : Nat → Nat) (e : eN) : Nat := 20 * (e.2.2.1 - e.2.1) - 19 + lv e.1
/-- a good entry -/
def eOK (n : Nat) (gh gi gc rt : Nat → Int32) (to : Nat) (e : eN) : Prop := e.1 < 10 ∧ e.2.1 < e.2.2.1 ∧ e.2.2.1 ≤ to ∧ thr n gh gi gc rt e.1 e.2.1 e.2.2.1 e.2.2.2.1
def sOK (n : Nat) (gh gi gc rt : Nat → Int32) (lv : Nat → Nat) (to c : Nat) (S : sT) : Prop := (∀ y, y < S.1 → eOK n gh gi gc rt to (S.2 y)) ∧ sumW eLen S.1 S.2 ≤ 24 ∧ c + sumW (ePot lv) S.1 S.2 ≤ 470
theorem pu_ok {n : Nat} {gh gi gc rt : Nat → Int32} {to : Nat} {x : Int32} {i j : Nat} {k : Option Nat} {d : Nat} {S : sT} (hx : isIt1 x) (hS : ∀ y, y < S.1 → eOK n gh gi gc rt to (S.2 y)) (he : ∀ s, s < 10 → x = nI s → eOK n gh gi gc rt to (s, i, j, k, d)) : ∀ y, y < (pu x i j k d S).1 → eOK n gh gi gc rt to ((pu x i j k d S).2 y) := by
  rcases isIt1_c hx with h | ⟨s, hs, rfl⟩
  · rw [pu_no h]; exact hS
  · rw [pu_yes hs]
    intro y hy
    have hy : y < S.1 + 1 := hy
    show eOK n gh gi gc rt to (if y = S.1 then (s, i, j, k, d) else S.2 y)
    split
    · exact he s hs rfl
    · exact hS y (by omega)
theorem pu_len {x : Int32} {i j : Nat} {k : Option Nat} {d : Nat} {S : sT} (hx : isIt1 x) : sumW eLen (pu x i j k d S).1 (pu x i j k d S).2 ≤ sumW eLen S.1 S.2 + (j - i) := by
  rcases isIt1_c hx with h | ⟨s, hs, rfl⟩
  · rw [pu_no h]; omega
  · rw [sumW_pu hs]; exact Nat.le_refl _
theorem pu_pot {lv : Nat → Nat} {x : Int32} {i j b : Nat} {k : Option Nat} {d : Nat} {S : sT} (hx : isIt1 x) (hb : ∀ s, s < 10 → x = nI s → 20 * (j - i) - 19 + lv s ≤ b) : sumW (ePot lv) (pu x i j k d S).1 (pu x i j k d S).2 ≤ sumW (ePot lv) S.1 S.2 + b := by
  rcases isIt1_c hx with h | ⟨s, hs, rfl⟩
  · rw [pu_no h]; omega
  · rw [sumW_pu hs]
    have := hb s hs rfl
    show _ + (20 * (j - i) - 19 + lv s) ≤ _
    omega
/-- numbers of the items' trees -/
def k3 : Option Nat → Nat → Option Nat
  | none, _ => none
  | some m, C => some (m % C)
def k2 : Option Nat → Nat → Nat → Option Nat
  | none, _, _ => none
  | some m, B, C => some (m / C % B)
def k1 : Option Nat → Nat → Nat → Option Nat
  | none, _, _ => none
  | some m, B, C => some (m / C / B)
section STP
variable (n : Nat) (gh gi gc rt : Nat → Int32)
def itN (p c a b : Nat) : Nat := (itE rt (vV n gh gi gc rt) (gi (3 * p + c)) a b).1
def stp (i j d p f q : Nat) (k : Option Nat) (S : sT) : sT :=
  pu (gi (3 * p)) i f (k1 k (itN n gh gi gc rt p 1 f q) (itN n gh gi gc rt p 2 q j)) (d + 1) (pu (gi (3 * p + 1)) f q (k2 k (itN n gh gi gc rt p 1 f q) (itN n gh gi gc rt p 2 q j)) (d + 1) (pu (gi (3 * p + 2)) q j (k3 k (itN n gh gi gc rt p 2 q j)) (d + 1) S))
def nodU (v : Nat → Int32) (c p i j d : Nat) : Nat → Int32 := upd (upd (upd (upd v (4 * c) (nI p)) (4 * c + 1) (nI i)) (4 * c + 2) (nI j)) (4 * c + 3) (nI d)
def run : Nat → sT → Nat → (Nat → Int32) → Nat × (Nat → Int32)
  | 0, _, c, v => (c, v)
  | m + 1, S, c, v => if S.1 = 0 then (c, v) else
    match pick n gh gi gc rt (S.2 (S.1 - 1)).1 (S.2 (S.1 - 1)).2.1 (S.2 (S.1 - 1)).2.2.1 (S.2 (S.1 - 1)).2.2.2.1 with
    | none => (c, v)
    | some (p, f, q, k) => run m (stp n gh gi gc rt (S.2 (S.1 - 1)).2.1 (S.2 (S.1 - 1)).2.2.1 (S.2 (S.1 - 1)).2.2.2.2 p f q k (S.1 - 1, S.2)) (c + 1) (nodU v c p (S.2 (S.1 - 1)).2.1 (S.2 (S.1 - 1)).2.2.1 (S.2 (S.1 - 1)).2.2.2.2)
end STP
theorem run_0 {n : Nat} {gh gi gc rt : Nat → Int32} {m : Nat} {S : sT} {c : Nat} {v : Nat → Int32} (h : S.1 = 0) : run n gh gi gc rt m S c v = (c, v) := by
  cases m with
  | zero => rfl
  | succ m => unfold run; rw [if_pos h]
/-- what the chosen split gives: the counts of its items' trees, and good numbers for them -/
theorem chs_items {n p i f q j : Nat} {gh gi gc rt : Nat → Int32} {lv : Nat → Nat} {k : Option Nat} {c0 : Nat} {z : Bool} (hg : gOK n gh gi gc) (hl : lvOK n gh gi lv) (hp : p < n) (hj : j ≤ 24) (hf : f ≤ j) (hq : q ≤ j) (hc : chs (some c0) (splE n gh gi gc rt i j p f q) k = true) (hk : goodB z k) :
    itN n gh gi gc rt p 0 i f ≠ 0 ∧ itN n gh gi gc rt p 1 f q ≠ 0 ∧ itN n gh gi gc rt p 2 q j ≠ 0 ∧ itN n gh gi gc rt p 0 i f ≤ 1000000000 ∧ itN n gh gi gc rt p 1 f q ≤ 1000000000 ∧ itN n gh gi gc rt p 2 q j ≤ 1000000000 ∧ ∀ m, k = some m → m < 1000000 ∧ m < itN n gh gi gc rt p 0 i f * (itN n gh gi gc rt p 1 f q * itN n gh gi gc rt p 2 q j) := by
  obtain ⟨i0, i1, i2⟩ := gOK_i hg hp
  have g := splE_G hg hl (rt := rt) (i := i) hp hj hf hq
  have b0 := (itE_G hg hl (rt := rt) i0 (i := i) (j := f) (by omega)).2
  have b1 := (itE_G hg hl (rt := rt) i1 (i := f) (j := q) (by omega)).2
  have b2 := (itE_G hg hl (rt := rt) i2 (i := q) (j := j) (by omega)).2
  have e1 : (splE n gh gi gc rt i j p f q).1 = itN n gh gi gc rt p 0 i f * (itN n gh gi gc rt p 1 f q * itN n gh gi gc rt p 2 q j) := by
    show 1 * _ = _
    rw [Nat.one_mul]; rfl
  have hne : (splE n gh gi gc rt i j p f q).1 ≠ 0 := by
    intro h0
    cases k with
    | none =>
      unfold chs at hc
      have hc := of_decide_eq_true hc
      rw [g.1.mp h0] at hc; cases hc
    | some m =>
      unfold chs at hc
      have hc := of_decide_eq_true hc
      have hc : m < satN (splE n gh gi gc rt i j p f q).1 := hc
      rw [h0] at hc
      exact absurd hc (Nat.not_lt_zero m)
  rw [e1] at hne
  refine ⟨fun h => hne (by rw [h]; simp), fun h => hne (by rw [h]; simp), fun h => hne (by rw [h]; simp), b0, b1, b2, ?_⟩
  intro m hm
  subst hm
  refine ⟨hk.2 m rfl, ?_⟩
  unfold chs at hc
  have hc := of_decide_eq_true hc
  have hc : m < satN (splE n gh gi gc rt i j p f q).1 := hc
  rw [e1] at hc
  unfold satN at hc
  split at hc <;> omega
theorem num_ok {A B C m : Nat} (hB : B ≠ 0) (hC : C ≠ 0) (h : m < A * (B * C)) : m % C < C ∧ m / C % B < B ∧ m / C / B < A ∧ m % C ≤ m ∧ m / C % B ≤ m ∧ m / C / B ≤ m := by
  refine ⟨Nat.mod_lt _ (by omega), Nat.mod_lt _ (by omega), ?_, Nat.mod_le _ _, Nat.le_trans (Nat.mod_le _ _) (Nat.div_le_self _ _), Nat.le_trans (Nat.div_le_self _ _) (Nat.div_le_self _ _)⟩
  rw [Nat.div_div_eq_div_mul]
  apply Nat.div_lt_of_lt_mul
  rw [Nat.mul_comm C B, Nat.mul_comm]; exact h
/-- the item is a symbol: its trees' number -/
theorem itN_s {n p c a b s : Nat} {gh gi gc rt : Nat → Int32} (hs : s < 10) (e : gi (3 * p + c) = nI s) (hab : a < b) : itN n gh gi gc rt p c a b = (vV n gh gi gc rt s a b).1 := by
  unfold itN itE
  rw [e, if_neg, if_pos, if_pos hab, n_clamp (by omega)]
  · rw [q_10, n_lt (by omega) (by omega)]; exact hs
  · intro q; have := x_eq q; rw [n_tI (by omega), x_m1] at this; omega
theorem isSpl_in {gi : Nat → Int32} {p i f q j : Nat} (h : isSpl gi p i f q j) : i < f ∧ f ≤ q ∧ q ≤ j ∧ (gi (3 * p + 1) ≠ -1 → f < q) ∧ (gi (3 * p + 2) ≠ -1 → gi (3 * p + 1) ≠ -1 → q < j) := by
  unfold isSpl at h
  split at h
  · rename_i c; exact ⟨by omega, by omega, by omega, fun h => absurd c h, fun _ h => absurd c h⟩
  · split at h
    · rename_i c; exact ⟨by omega, by omega, by omega, fun _ => by omega, fun h => absurd c h⟩
    · exact ⟨by omega, by omega, by omega, fun _ => by omega, fun _ _ => by omega⟩
