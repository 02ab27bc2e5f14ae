/-! The reference's walk over the splits of a production -/
def t64 {β : Type} (gi : Nat → Int32) (y7 y1 y2 F S : Int32) (r0 r1 : Int32 → Int32 → β) : β := bd (f_M_goOn F S gi y7 y1 y2) fun u => bd (f_M_length gi y7) fun r => (if r ≤ 1 then (r0 u.1 u.2) else bd (f_M_isParted u.1 u.2 gi y7 y1 y2) fun r2 => (if r2 = 0 then (r0 u.1 u.2) else (r1 u.1 u.2)))
def ot64 (gi : Nat → Int32) (y7 y1 y2 F S : Int32) (r0 r1 : Int32 → Int32 → Prop) : Prop := (o_M_goOn F S gi y7 y1 y2 ∧ bd (f_M_goOn F S gi y7 y1 y2) fun u => (o_M_length gi y7 ∧ bd (f_M_length gi y7) fun r => (if r ≤ 1 then (r0 u.1 u.2) else (o_M_isParted u.1 u.2 gi y7 y1 y2 ∧ bd (f_M_isParted u.1 u.2 gi y7 y1 y2) fun r2 => (if r2 = 0 then (r0 u.1 u.2) else (r1 u.1 u.2))))))
theorem neq_1 : ¬ nI 1 = (3 : Int32) ∧ ¬ nI 2 = (3 : Int32) ∧ nI 3 = (3 : Int32) ∧ ¬ (3 : Int32) ≤ nI 1 ∧ ¬ (3 : Int32) ≤ nI 2 ∧ (3 : Int32) ≤ nI 3 ∧ nI 1 = (1 : Int32) ∧ ¬ nI 2 = (1 : Int32) ∧ ¬ nI 3 = (1 : Int32) ∧ nI 2 = (2 : Int32) ∧ ¬ nI 3 = (2 : Int32) ∧ ¬ (1 : Int32) = 0 := by decide
theorem q_begin {gi : Nat → Int32} {p i j : Nat} {F S : Int32} (hp : p < 24) (hij : i < j) (hj : j ≤ 24) (h2 : gi (3 * p + 1) = -1 → gi (3 * p + 2) = -1) : f_M_begin F S gi (nI p) (nI i) (nI j) = (nI (fLo gi p i j), nI (sLo gi p (fLo gi p i j) j)) ∧ o_M_begin F S gi (nI p) (nI i) (nI j) ∧ f_M_isParted (nI (fLo gi p i j)) (nI (sLo gi p (fLo gi p i j) j)) gi (nI p) (nI i) (nI j) = (if 0 < fNo gi p i j then 1 else 0) ∧ ∀ F S, o_M_isParted F S gi (nI p) (nI i) (nI j) := by
  obtain ⟨el, ol⟩ := q_len (gi := gi) hp
  obtain ⟨n1, n2, n3, n4, n5, n6, n7, n8, n9, n10, n11, n12⟩ := neq_1
  have hoP : ∀ F S, o_M_isParted F S gi (nI p) (nI i) (nI j) := by
    intro F S
    unfold o_M_isParted
    refine ⟨ol, ?_⟩
    rw [bd_def]; repeat' split
    all_goals trivial
  have hoB : o_M_begin F S gi (nI p) (nI i) (nI j) := by
    unfold o_M_begin
    refine ⟨ol, ?_⟩
    rw [bd_def]; repeat' split
    all_goals trivial
  refine ⟨?_, hoB, ?_, hoP⟩
  · unfold f_M_begin fLo sLo
    simp only [bd_def, el]
    unfold lnN
    by_cases c1 : gi (3 * p + 1) = -1
    · simp only [if_pos c1, if_pos (h2 c1), if_pos n7, if_neg n4]
    · by_cases c2 : gi (3 * p + 2) = -1
      · simp only [if_neg c1, if_pos c2, if_neg n8, if_neg n5, n_1]
      · simp only [if_neg c1, if_neg c2, if_neg n9, if_pos n6, n_1]
        rw [q_2, n_add]
  · unfold f_M_isParted fLo sLo fNo
    simp only [bd_def, el]
    unfold lnN
    by_cases c1 : gi (3 * p + 1) = -1
    · simp only [if_pos c1, if_pos n7]; rfl
    · by_cases c2 : gi (3 * p + 2) = -1
      · simp (disch := omega) only [if_neg c1, if_pos c2, if_neg n8, if_pos n10, n_le]
        by_cases c3 : j ≤ i + 1
        · rw [if_pos c3, if_neg (by omega)]
        · rw [if_neg c3, if_pos (by omega)]
      · simp (disch := omega) only [if_neg c1, if_neg c2, if_neg n9, if_neg n11, n_le]
        rw [if_neg (by omega)]
        by_cases c3 : j ≤ i + 1 + 1
        · rw [if_pos c3, if_neg (by omega)]
        · rw [if_neg c3, if_pos (by omega)]
theorem spl_in {gi : Nat → Int32} {p i j a b : Nat} (hij : i < j) (ha : a < fNo gi p i j) (hb : b < sNo gi p (fLo gi p i j + a) j) (h2 : gi (3 * p + 1) = -1 → gi (3 * p + 2) = -1) : isSpl gi p i (fLo gi p i j + a) (sLo gi p (fLo gi p i j + a) j + b) j ∧ fLo gi p i j + a ≤ j ∧ sLo gi p (fLo gi p i j + a) j + b ≤ j ∧ 0 < sNo gi p (fLo gi p i j + a) j := by
  unfold isSpl fLo sLo fNo sNo at *
  by_cases c1 : gi (3 * p + 1) = -1
  · simp only [if_pos c1, if_pos (h2 c1)] at *; omega
  · by_cases c2 : gi (3 * p + 2) = -1
    · simp only [if_neg c1, if_pos c2] at *; omega
    · simp only [if_neg c1, if_neg c2] at *; omega
theorem sNo_pos {gi : Nat → Int32} {p i j a : Nat} (hij : i < j) (ha : a < fNo gi p i j) (h2 : gi (3 * p + 1) = -1 → gi (3 * p + 2) = -1) : 0 < sNo gi p (fLo gi p i j + a) j := by
  unfold fLo fNo sNo at *
  by_cases c1 : gi (3 * p + 1) = -1
  · simp only [if_pos c1, if_pos (h2 c1)] at *; omega
  · by_cases c2 : gi (3 * p + 2) = -1
    · simp only [if_neg c1, if_pos c2] at *; omega
    · simp only [if_neg c1, if_neg c2] at *; omega
set_option maxHeartbeats 1000000 in
/-- the next split: in the same first end, in the next, or none -/
theorem q_tail {gi : Nat → Int32} {p i j a b : Nat} (hp : p < 24) (hij : i < j) (hj : j ≤ 24) (h2 : gi (3 * p + 1) = -1 → gi (3 * p + 2) = -1) (ha : a < fNo gi p i j) (hb : b < sNo gi p (fLo gi p i j + a) j) :
    (b + 1 < sNo gi p (fLo gi p i j + a) j ∧ (∀ {β : Type} (r0 r1 : Int32 → Int32 → β), t64 gi (nI p) (nI i) (nI j) (nI (fLo gi p i j + a)) (nI (sLo gi p (fLo gi p i j + a) j + b)) r0 r1 = r1 (nI (fLo gi p i j + a)) (nI (sLo gi p (fLo gi p i j + a) j + (b + 1)))) ∧ ∀ (r0 r1 : Int32 → Int32 → Prop), r1 (nI (fLo gi p i j + a)) (nI (sLo gi p (fLo gi p i j + a) j + (b + 1))) → ot64 gi (nI p) (nI i) (nI j) (nI (fLo gi p i j + a)) (nI (sLo gi p (fLo gi p i j + a) j + b)) r0 r1)
    ∨ (b + 1 = sNo gi p (fLo gi p i j + a) j ∧ a + 1 < fNo gi p i j ∧ (∀ {β : Type} (r0 r1 : Int32 → Int32 → β), t64 gi (nI p) (nI i) (nI j) (nI (fLo gi p i j + a)) (nI (sLo gi p (fLo gi p i j + a) j + b)) r0 r1 = r1 (nI (fLo gi p i j + (a + 1))) (nI (sLo gi p (fLo gi p i j + (a + 1)) j + 0))) ∧ ∀ (r0 r1 : Int32 → Int32 → Prop), r1 (nI (fLo gi p i j + (a + 1))) (nI (sLo gi p (fLo gi p i j + (a + 1)) j + 0)) → ot64 gi (nI p) (nI i) (nI j) (nI (fLo gi p i j + a)) (nI (sLo gi p (fLo gi p i j + a) j + b)) r0 r1)
    ∨ (b + 1 = sNo gi p (fLo gi p i j + a) j ∧ a + 1 = fNo gi p i j ∧ ∃ F S : Int32, (∀ {β : Type} (r0 r1 : Int32 → Int32 → β), t64 gi (nI p) (nI i) (nI j) (nI (fLo gi p i j + a)) (nI (sLo gi p (fLo gi p i j + a) j + b)) r0 r1 = r0 F S) ∧ ∀ (r0 r1 : Int32 → Int32 → Prop), r0 F S → ot64 gi (nI p) (nI i) (nI j) (nI (fLo gi p i j + a)) (nI (sLo gi p (fLo gi p i j + a) j + b)) r0 r1) := by
  obtain ⟨el, ol⟩ := q_len (gi := gi) hp
  obtain ⟨n1, n2, n3, n4, n5, n6, n7, n8, n9, n10, n11, n12⟩ := neq_1
  obtain ⟨l1, l2, l3, l4, l5, l6⟩ := nle_1
  have hoP : ∀ F S, o_M_isParted F S gi (nI p) (nI i) (nI j) := by
    intro F S
    unfold o_M_isParted
    refine ⟨ol, ?_⟩
    rw [bd_def]; repeat' split
    all_goals trivial
  have hoG : ∀ F S, o_M_goOn F S gi (nI p) (nI i) (nI j) := by
    intro F S
    unfold o_M_goOn
    refine ⟨ol, ?_⟩
    rw [bd_def]; repeat' split
    all_goals trivial
  by_cases c1 : gi (3 * p + 1) = -1
  · have hl : lnN gi p = 1 := if_pos c1
    have hf : fNo gi p i j = 1 := if_pos c1
    have hs : sNo gi p (fLo gi p i j + a) j = 1 := if_pos (h2 c1)
    right; right
    refine ⟨by omega, by omega, (f_M_goOn (nI (fLo gi p i j + a)) (nI (sLo gi p (fLo gi p i j + a) j + b)) gi (nI p) (nI i) (nI j)).1, (f_M_goOn (nI (fLo gi p i j + a)) (nI (sLo gi p (fLo gi p i j + a) j + b)) gi (nI p) (nI i) (nI j)).2, ?_, ?_⟩
    · intro β r0 r1
      unfold t64
      simp only [bd_def, el, hl, if_pos l4]
    · intro r0 r1 h
      unfold ot64
      simp only [bd_def, el, hl, if_pos l4]
      exact ⟨hoG _ _, ol, h⟩
  · by_cases c2 : gi (3 * p + 2) = -1
    · have hl : lnN gi p = 2 := by unfold lnN; rw [if_neg c1, if_pos c2]
      have hs : ∀ f, sNo gi p f j = 1 := fun f => if_pos c2
      have hso : ∀ f, sLo gi p f j = j := fun f => if_pos c2
      have hf : fNo gi p i j = j - 1 - i := by unfold fNo; rw [if_neg c1, if_pos c2]
      have hfo : fLo gi p i j = i + 1 := if_neg c1
      have eg : f_M_goOn (nI (fLo gi p i j + a)) (nI (sLo gi p (fLo gi p i j + a) j + b)) gi (nI p) (nI i) (nI j) = (nI (fLo gi p i j + a + 1), nI j) := by
        unfold f_M_goOn
        simp only [bd_def, el, hl, if_neg n2, if_neg n5, n_1]
      have ep : f_M_isParted (nI (fLo gi p i j + a + 1)) (nI j) gi (nI p) (nI i) (nI j) = (if j ≤ fLo gi p i j + a + 1 then 0 else 1) := by
        unfold f_M_isParted
        simp (disch := omega) only [bd_def, el, hl, if_neg n8, if_pos n10, n_le]
      rw [hs] at hb
      right
      by_cases c3 : j ≤ fLo gi p i j + a + 1
      · right
        refine ⟨by rw [hs]; omega, by omega, nI (fLo gi p i j + a + 1), nI j, ?_, ?_⟩
        · intro β r0 r1
          unfold t64
          simp only [bd_def, eg, ep, el, hl, if_neg l1, if_pos c3, if_true]
        · intro r0 r1 h
          unfold ot64
          simp only [bd_def, eg, ep, el, hl, if_neg l1, if_pos c3, if_true]
          exact ⟨hoG _ _, ol, hoP _ _, h⟩
      · left
        refine ⟨by rw [hs]; omega, by omega, ?_, ?_⟩
        · intro β r0 r1
          unfold t64
          simp only [bd_def, eg, ep, el, hl, if_neg l1, if_neg c3, if_neg n12]
          rw [hso]; rfl
        · intro r0 r1 h
          unfold ot64
          simp only [bd_def, eg, ep, el, hl, if_neg l1, if_neg c3, if_neg n12]
          rw [hso] at h
          exact ⟨hoG _ _, ol, hoP _ _, h⟩
    · have hl : lnN gi p = 3 := by unfold lnN; rw [if_neg c1, if_neg c2]
      have hs : ∀ f, sNo gi p f j = j - 1 - f := fun f => if_neg c2
      have hso : ∀ f, sLo gi p f j = f + 1 := fun f => if_neg c2
      have hf : fNo gi p i j = j - 2 - i := by unfold fNo; rw [if_neg c1, if_neg c2]
      have hfo : fLo gi p i j = i + 1 := if_neg c1
      rw [hs] at hb
      simp only [hs, hso, hf, hfo] at *
      generalize hfa : i + 1 + a = f at *
      by_cases c3 : j ≤ f + 1 + b + 1
      · have eg : f_M_goOn (nI f) (nI (f + 1 + b)) gi (nI p) (nI i) (nI j) = (nI (f + 1), nI (f + 1 + 1)) := by
          unfold f_M_goOn
          simp (disch := omega) only [bd_def, el, hl, if_pos n3, n_1, n_le, if_pos c3, if_pos n6]
        have ep : f_M_isParted (nI (f + 1)) (nI (f + 1 + 1)) gi (nI p) (nI i) (nI j) = (if j ≤ f + 1 + 1 then 0 else 1) := by
          unfold f_M_isParted
          have y1 : ¬ f + 1 + 1 ≤ f + 1 := by omega
          simp (disch := omega) only [bd_def, el, hl, if_neg n9, if_neg n11, n_le, if_neg y1]
        right
        by_cases c4 : j ≤ f + 1 + 1
        · right
          refine ⟨by omega, by omega, nI (f + 1), nI (f + 1 + 1), ?_, ?_⟩
          · intro β r0 r1
            unfold t64
            simp only [bd_def, eg, ep, el, hl, if_neg l2, if_pos c4, if_true]
          · intro r0 r1 h
            unfold ot64
            simp only [bd_def, eg, ep, el, hl, if_neg l2, if_pos c4, if_true]
            exact ⟨hoG _ _, ol, hoP _ _, h⟩
        · left
          have e5 : i + 1 + (a + 1) = f + 1 := by omega
          rw [e5]
          refine ⟨by omega, by omega, ?_, ?_⟩
          · intro β r0 r1
            unfold t64
            simp only [bd_def, eg, ep, el, hl, if_neg l2, if_neg c4, if_neg n12]
            try rfl
          · intro r0 r1 h
            unfold ot64
            simp only [bd_def, eg, ep, el, hl, if_neg l2, if_neg c4, if_neg n12]
            exact ⟨hoG _ _, ol, hoP _ _, h⟩
      · have eg : f_M_goOn (nI f) (nI (f + 1 + b)) gi (nI p) (nI i) (nI j) = (nI f, nI (f + 1 + b + 1)) := by
          unfold f_M_goOn
          simp (disch := omega) only [bd_def, el, hl, if_pos n3, n_1, n_le, if_neg c3]
        have ep : f_M_isParted (nI f) (nI (f + 1 + b + 1)) gi (nI p) (nI i) (nI j) = 1 := by
          unfold f_M_isParted
          have y1 : ¬ f + 1 + b + 1 ≤ f := by omega
          simp (disch := omega) only [bd_def, el, hl, if_neg n9, if_neg n11, n_le, if_neg y1, if_neg c3]
        left
        refine ⟨by omega, ?_, ?_⟩
        · intro β r0 r1
          unfold t64
          simp only [bd_def, eg, ep, el, hl, if_neg l2, if_neg n12]
          try rfl
        · intro r0 r1 h
          unfold ot64
          simp only [bd_def, eg, ep, el, hl, if_neg l2, if_neg n12]
          exact ⟨hoG _ _, ol, hoP _ _, h⟩
