/-! The choice of a production and its split: k none for the cheapest tree, some m for number m -/
def kI : Option Nat → Int32
  | none => -1
  | some m => nI m
def kS : Option Nat → Nat → Option Nat
  | none, _ => none
  | some m, w => some (m - w)
def kOK (k : Option Nat) : Prop := ∀ m, k = some m → m < 1000000
abbrev pR : Type := Option (Nat × Nat × Nat × Option Nat)
def chs (T : Option Nat) (e : vE) : Option Nat → Bool
  | none => decide (e.2 = T)
  | some m => decide (m < (eS e).1)
def pkQ (T : Option Nat) (E : Nat → Nat → Nat → vE) (p f : Nat) (K : Option Nat → pR) : Nat → Nat → Option Nat → pR
  | 0, _, k => K k
  | c + 1, q, k => if chs T (E p f q) k = true then some (p, f, q, k) else pkQ T E p f K c (q + 1) (kS k (eS (E p f q)).1)
def pkF (T : Option Nat) (E : Nat → Nat → Nat → vE) (gi : Nat → Int32) (j p : Nat) (K : Option Nat → pR) : Nat → Nat → Option Nat → pR
  | 0, _, k => K k
  | c + 1, f, k => pkQ T E p f (fun k' => pkF T E gi j p K c (f + 1) k') (sNo gi p f j) (sLo gi p f j) k
def pkP (T : Option Nat) (E : Nat → Nat → Nat → vE) (gh gi : Nat → Int32) (s i j : Nat) : Nat → Nat → Option Nat → pR
  | 0, _, _ => none
  | c + 1, p, k => if gh p = nI s then pkF T E gi j p (fun k' => pkP T E gh gi s i j c (p + 1) k') (fNo gi p i j) (fLo gi p i j) k else pkP T E gh gi s i j c (p + 1) k
theorem sm_front {f : Nat → vE} {lo n : Nat} : sm f lo (n + 1) = eA (f lo) (sm f (lo + 1) n) := by
  induction n with
  | zero => rw [sm_one, sm_0, eA_z]
  | succ n ih =>
    rw [sm_1, ih, sm_1, eA_a, show lo + (n + 1) = lo + 1 + n by omega]
def goodB (z : Bool) (k : Option Nat) : Prop := k.isNone = z ∧ kOK k
def goodK (T : Option Nat) (z : Bool) (e : vE) (k : Option Nat) : Prop := goodB z k ∧ match k with | none => e.2 = T | some m => m < e.1
theorem good_step {T : Option Nat} {z : Bool} {x r : vE} {k : Option Nat} (h : goodK T z (eA x r) k) (hc : ¬ chs T x k = true) : goodK T z r (kS k (eS x).1) := by
  obtain ⟨⟨h1, h2⟩, h3⟩ := h
  cases k with
  | none =>
    refine ⟨⟨h1, h2⟩, ?_⟩
    have h3 : oMin x.2 r.2 = T := h3
    have hc : ¬ x.2 = T := fun q => hc (by unfold chs; exact decide_eq_true q)
    show r.2 = T
    cases e1 : x.2 with
    | none => rw [e1] at h3; exact h3
    | some a =>
      cases e2 : r.2 with
      | none => rw [e1, e2] at h3; exact absurd (e1.trans h3) hc
      | some b =>
        rw [e1, e2] at h3
        simp only [oMin] at h3
        split at h3
        · exact h3
        · exact absurd (e1.trans h3) hc
  | some m =>
    have h3 : m < x.1 + r.1 := h3
    have hm := h2 m rfl
    have hc : ¬ m < satN x.1 := fun q => hc (by unfold chs; exact decide_eq_true q)
    have e : satN x.1 = x.1 := by unfold satN at *; split <;> simp_all <;> omega
    refine ⟨⟨h1, ?_⟩, ?_⟩
    · intro m' em
      have : m - satN x.1 = m' := Option.some.inj em
      omega
    · show m - satN x.1 < r.1
      omega
theorem pkQ_good {Good : pR → Prop} {T : Option Nat} {z : Bool} {E : Nat → Nat → Nat → vE} {p f : Nat} {K : Option Nat → pR} {r : vE} (hK : ∀ k, goodK T z r k → Good (K k)) :
    ∀ (c q : Nat) (k : Option Nat), (∀ q' k', q ≤ q' → q' < q + c → chs T (E p f q') k' = true → goodB z k' → Good (some (p, f, q', k'))) → goodK T z (eA (sm (E p f) q c) r) k → Good (pkQ T E p f K c q k) := by
  intro c
  induction c with
  | zero => intro q k _ h; rw [sm_0, eZ_A] at h; exact hK k h
  | succ c ih =>
    intro q k hG h
    unfold pkQ
    split
    · rename_i hc; exact hG q k (Nat.le_refl q) (by omega) hc h.1
    · rename_i hc
      rw [sm_front, eA_a] at h
      exact ih (q + 1) _ (fun q' k' a b => hG q' k' (by omega) (by omega)) (good_step h hc)
theorem pkF_good {Good : pR → Prop} {T : Option Nat} {z : Bool} {E : Nat → Nat → Nat → vE} {gi : Nat → Int32} {j p : Nat} {K : Option Nat → pR} {r : vE} (hK : ∀ k, goodK T z r k → Good (K k)) :
    ∀ (c f : Nat) (k : Option Nat), (∀ f' q' k', f ≤ f' → f' < f + c → sLo gi p f' j ≤ q' → q' < sLo gi p f' j + sNo gi p f' j → chs T (E p f' q') k' = true → goodB z k' → Good (some (p, f', q', k'))) → goodK T z (eA (sm (fun f => sm (E p f) (sLo gi p f j) (sNo gi p f j)) f c) r) k → Good (pkF T E gi j p K c f k) := by
  intro c
  induction c with
  | zero => intro f k _ h; rw [sm_0, eZ_A] at h; exact hK k h
  | succ c ih =>
    intro f k hG h
    unfold pkF
    rw [sm_front, eA_a] at h
    exact pkQ_good (fun k' h' => ih (f + 1) k' (fun f' q' k'' a b => hG f' q' k'' (by omega) (by omega)) h') _ _ k (fun q' k' a b => hG f q' k' (Nat.le_refl f) (by omega) a b) h
theorem pkP_good {Good : pR → Prop} {T : Option Nat} (hT : T ≠ none) {z : Bool} {E : Nat → Nat → Nat → vE} {gh gi : Nat → Int32} {s i j : Nat} :
    ∀ (c p : Nat) (k : Option Nat), (∀ p' f' q' k', p ≤ p' → p' < p + c → gh p' = nI s → fLo gi p' i j ≤ f' → f' < fLo gi p' i j + fNo gi p' i j → sLo gi p' f' j ≤ q' → q' < sLo gi p' f' j + sNo gi p' f' j → chs T (E p' f' q') k' = true → goodB z k' → Good (some (p', f', q', k'))) → goodK T z (sm (fun p => if gh p = nI s then sm (fun f => sm (E p f) (sLo gi p f j) (sNo gi p f j)) (fLo gi p i j) (fNo gi p i j) else eZ) p c) k → Good (pkP T E gh gi s i j c p k) := by
  intro c
  induction c with
  | zero =>
    intro p k _ h
    rw [sm_0] at h
    obtain ⟨-, h⟩ := h
    cases k with
    | none => exact absurd h.symm hT
    | some m => exact absurd h (Nat.not_lt_zero m)
  | succ c ih =>
    intro p k hG h
    unfold pkP
    rw [sm_front] at h
    split
    · rename_i hc
      rw [if_pos hc] at h
      exact pkF_good (fun k' h' => ih (p + 1) k' (fun p' f' q' k'' a b => hG p' f' q' k'' (by omega) (by omega)) h') _ _ k (fun f' q' k' a b => hG p f' q' k' (Nat.le_refl p) (by omega) hc a b) h
    · rename_i hc
      rw [if_neg hc, eZ_A] at h
      exact ih (p + 1) k (fun p' f' q' k'' a b => hG p' f' q' k'' (by omega) (by omega)) h
def splE (n : Nat) (gh gi gc rt : Nat → Int32) (i j p f q : Nat) : vE := eM (own gc p) (spl gi rt (vV n gh gi gc rt) p i f q j)
def pick (n : Nat) (gh gi gc rt : Nat → Int32) (s i j : Nat) (k : Option Nat) : pR := pkP (vV n gh gi gc rt s i j).2 (splE n gh gi gc rt i j) gh gi s i j n 0 k
/-- there is such a tree -/
def thr (n : Nat) (gh gi gc rt : Nat → Int32) (s i j : Nat) (k : Option Nat) : Prop := (vV n gh gi gc rt s i j).1 ≠ 0 ∧ ∀ m, k = some m → m < (vV n gh gi gc rt s i j).1 ∧ m < 1000000
theorem pick_ok {n : Nat} {gh gi gc rt : Nat → Int32} {lv : Nat → Nat} (hg : gOK n gh gi gc) (hl : lvOK n gh gi lv) {s i j : Nat} (hs : s < 10) (hij : i < j) (hj : j ≤ 24) {k : Option Nat} (hk : thr n gh gi gc rt s i j k) :
    ∃ p f q k', pick n gh gi gc rt s i j k = some (p, f, q, k') ∧ p < n ∧ gh p = nI s ∧ isSpl gi p i f q j ∧ chs (vV n gh gi gc rt s i j).2 (splE n gh gi gc rt i j p f q) k' = true ∧ goodB k.isNone k' := by
  have hV := vV_eq hg hl (rt := rt) hs hij hj
  have hgd := vV_g hg hl (rt := rt) hs hij
  have hT : (vV n gh gi gc rt s i j).2 ≠ none := fun q => hk.1 (hgd.1.mpr q)
  have hb : bdy n gh gi gc rt (vV n gh gi gc rt) s i j = sm (fun p => if gh p = nI s then sm (fun f => sm (splE n gh gi gc rt i j p f) (sLo gi p f j) (sNo gi p f j)) (fLo gi p i j) (fNo gi p i j) else eZ) 0 n := by
    unfold bdy
    apply sm_c
    intro p h1 h2
    unfold trm
    split
    · rw [← sF_all]
      unfold sF
      apply sm_c
      intro f h3 h4
      rw [← sG_full]
      rfl
    · rfl
  unfold pick
  refine pkP_good (Good := fun R => ∃ p f q k', R = some (p, f, q, k') ∧ p < n ∧ gh p = nI s ∧ isSpl gi p i f q j ∧ chs (vV n gh gi gc rt s i j).2 (splE n gh gi gc rt i j p f q) k' = true ∧ goodB k.isNone k') hT (z := k.isNone) n 0 k ?_ ?_
  · intro p f q k' h1 h2 h3 h4 h5 h6 h7 h8 h9
    refine ⟨p, f, q, k', rfl, by omega, h3, ?_, h8, h9⟩
    have := (spl_in (gi := gi) (p := p) (a := f - fLo gi p i j) (b := q - sLo gi p f j) hij (by omega) (by rw [show fLo gi p i j + (f - fLo gi p i j) = f by omega]; omega) (gOK_2 hg (by omega))).1
    rw [show fLo gi p i j + (f - fLo gi p i j) = f by omega, show sLo gi p f j + (q - sLo gi p f j) = q by omega] at this
    exact this
  · refine ⟨⟨rfl, fun m e => (hk.2 m e).2⟩, ?_⟩
    rw [← hb]
    cases k with
    | none => show (bdy n gh gi gc rt (vV n gh gi gc rt) s i j).2 = _; rw [hV]; rfl
    | some m =>
      show m < (bdy n gh gi gc rt (vV n gh gi gc rt) s i j).1
      have h1 := (hk.2 m rfl).1
      rw [hV] at h1
      have h1 : m < satN (bdy n gh gi gc rt (vV n gh gi gc rt) s i j).1 := h1
      unfold satN at h1
      split at h1 <;> omega
