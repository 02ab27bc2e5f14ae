/-- an allowed production -/
def vld (p0 p1 p2 p3 p4 : Int32) : Prop := (0 ≤ p0.toInt ∧ p0.toInt < 10) ∧ (isIt p1 ∧ (p2 = -1 ∧ p3 = -1 ∨ isIt p2 ∧ (p3 = -1 ∨ isIt p3))) ∧ (0 ≤ p4.toInt ∧ p4.toInt ≤ 1000)
theorem d_19 : (19 : Int32).toInt = 19 := by decide
theorem d_1000 : (1000 : Int32).toInt = 1000 := by decide
theorem e_it {x : Int32} (h : isIt x) : f_M_isItem x = 1 ∧ f_H_isItem x = 1 := by
  obtain ⟨h1, h2⟩ := h
  unfold f_M_isItem f_H_isItem
  simp only [bd_def, w_in, d_0, d_19]
  refine ⟨by rw [if_pos (by omega)], ?_⟩
  rw [if_neg (fun q => by have := x_lt q; rw [d_0] at this; omega), if_neg (fun q => by have := x_le q; rw [d_20] at this; omega)]
theorem e_ni {x : Int32} (h : ¬ isIt x) : f_M_isItem x = 0 ∧ f_H_isItem x = 0 := by
  unfold f_M_isItem f_H_isItem
  simp only [bd_def, w_in, d_0, d_19]
  refine ⟨if_neg (fun q => h ⟨q.1, by omega⟩), ?_⟩
  by_cases c1 : x < 0
  · rw [if_pos c1]
  · by_cases c2 : 20 ≤ x
    · rw [if_neg c1, if_pos c2]
    · have q1 := x_nlt c1
      have q2 := x_nle c2
      rw [d_0] at q1; rw [d_20] at q2
      exact absurd ⟨q1, q2⟩ h
theorem e_oi {x : Int32} : o_M_isItem x = True := by
  unfold o_M_isItem
  simp only [bd_def, w_in]
  split <;> simp
theorem e_s9 {x : Int32} (h : 0 ≤ x.toInt ∧ x.toInt < 10) : f_M_in x 0 9 = 1 ∧ f_H_isSymbol x = 1 := by
  rw [w_in, w_sym, d_0, d_9, if_pos (by omega), if_pos h]; exact ⟨rfl, rfl⟩
theorem e_n9 {x : Int32} (h : ¬ (0 ≤ x.toInt ∧ x.toInt < 10)) : f_M_in x 0 9 = 0 ∧ f_H_isSymbol x = 0 := by
  rw [w_in, w_sym, d_0, d_9, if_neg (by omega), if_neg h]; exact ⟨rfl, rfl⟩
theorem e_c1 {x : Int32} (h : 0 ≤ x.toInt ∧ x.toInt ≤ 1000) : f_M_in x 0 1000 = 1 ∧ ¬ x < 0 ∧ x ≤ 1000 := by
  rw [w_in, d_0, d_1000, if_pos h]
  exact ⟨rfl, fun q => by have := x_lt q; rw [d_0] at this; omega, Int32.le_iff_toInt_le.mpr (by rw [d_1000]; exact h.2)⟩
theorem e_c0 {x : Int32} (h : ¬ (0 ≤ x.toInt ∧ x.toInt ≤ 1000)) : f_M_in x 0 1000 = 0 ∧ (x < 0 ∨ ¬ x < 0 ∧ ¬ x ≤ 1000) := by
  rw [w_in, d_0, d_1000, if_neg h]
  refine ⟨rfl, ?_⟩
  by_cases c : x < 0
  · exact Or.inl c
  · refine Or.inr ⟨c, fun q => h ⟨?_, ?_⟩⟩
    · have := x_nlt c; rw [d_0] at this; exact this
    · have := x_le q; rw [d_1000] at this; exact this
theorem e_ar1 {p1 p2 p3 : Int32} (h : isIt p1 ∧ (p2 = -1 ∧ p3 = -1 ∨ isIt p2 ∧ (p3 = -1 ∨ isIt p3))) : f_H_areItems p1 p2 p3 = 1 := by
  obtain ⟨h1, h2⟩ := h
  unfold f_H_areItems
  simp only [bd_def, (e_it h1).2, if_neg m10.1]
  rcases h2 with ⟨h2, h3⟩ | ⟨h2, h3⟩
  · rw [if_pos h2, if_pos h3]
  · rw [if_neg (isIt_m1 h2), (e_it h2).2, if_neg m10.1]
    rcases h3 with h3 | h3
    · rw [if_pos h3]
    · rw [if_neg (isIt_m1 h3), (e_it h3).2, if_neg m10.1]
theorem e_ar0 {p1 p2 p3 : Int32} (h : ¬ (isIt p1 ∧ (p2 = -1 ∧ p3 = -1 ∨ isIt p2 ∧ (p3 = -1 ∨ isIt p3)))) : f_H_areItems p1 p2 p3 = 0 := by
  unfold f_H_areItems
  simp only [bd_def]
  by_cases a1 : isIt p1
  · simp only [(e_it a1).2, if_neg m10.1]
    by_cases b2 : p2 = -1
    · by_cases b3 : p3 = -1
      · exact absurd ⟨a1, Or.inl ⟨b2, b3⟩⟩ h
      · simp only [if_pos b2, if_neg b3]
        split <;> rfl
    · by_cases a2 : isIt p2
      · simp only [if_neg b2, (e_it a2).2, if_neg m10.1]
        by_cases b3 : p3 = -1
        · exact absurd ⟨a1, Or.inr ⟨a2, Or.inl b3⟩⟩ h
        · by_cases a3 : isIt p3
          · exact absurd ⟨a1, Or.inr ⟨a2, Or.inr a3⟩⟩ h
          · simp only [if_neg b3, (e_ni a3).2, if_true]
      · simp only [if_neg b2, (e_ni a2).2, if_true]
  · simp only [(e_ni a1).2, if_true]
theorem k_pBad {N_ : Nat} {vCF vGF vGS : Int32} {vGh vGi vGc vGo vGr : Nat → Int32} {p0 p1 p2 p3 p4 : Int32} (h : ¬ vld p0 p1 p2 p3 p4) : f_H_production N_ vCF vGF vGS vGh vGi vGc vGo vGr p0 p1 p2 p3 p4 = (1, 0, vCF, vGF, vGS, vGh, vGi, vGc, vGo, vGr) ∧ o_H_production N_ vCF vGF vGS vGh vGi vGc vGo vGr p0 p1 p2 p3 p4 := by
  unfold f_H_production o_H_production
  by_cases a0 : 0 ≤ p0.toInt ∧ p0.toInt < 10
  · simp only [↓bd_def, (e_s9 a0).2, ↓if_neg m10.1]
    by_cases a1 : isIt p1 ∧ (p2 = -1 ∧ p3 = -1 ∨ isIt p2 ∧ (p3 = -1 ∨ isIt p3))
    · simp only [↓bd_def, e_ar1 a1, ↓if_neg m10.1]
      by_cases a4 : 0 ≤ p4.toInt ∧ p4.toInt ≤ 1000
      · exact absurd ⟨a0, a1, a4⟩ h
      · rcases (e_c0 a4).2 with q | ⟨q1, q2⟩
        · simp only [↓if_pos q]; exact ⟨trivial, trivial⟩
        · simp only [↓if_neg q1, ↓if_neg q2]; exact ⟨trivial, trivial⟩
    · simp only [↓bd_def, e_ar0 a1, ↓if_true]; exact ⟨trivial, trivial⟩
  · simp only [↓bd_def, (e_n9 a0).2, ↓if_true]; exact ⟨trivial, trivial⟩
/-- the end of the class's production -/
def kTail (N_ : Nat) (vCF vGF vGS : Int32) (vGh vGi vGc vGo vGr : Nat → Int32) (p0 p1 p2 p3 p4 : Int32) : Int32 × Int32 × Int32 × Int32 × Int32 × (Nat → Int32) × (Nat → Int32) × (Nat → Int32) × (Nat → Int32) × (Nat → Int32) := bd (f_C_forgetBehind vCF 0) fun u_95 => bd (f_G_learn N_ vGF vGS vGh vGi vGc vGo vGr p0 p1 p2 p3 p4) fun u_109 => (0, u_109.1, u_95, u_109.2.1, u_109.2.2.1, u_109.2.2.2.1, u_109.2.2.2.2.1, u_109.2.2.2.2.2.1, u_109.2.2.2.2.2.2.1, u_109.2.2.2.2.2.2.2)
theorem k_pGood {N_ : Nat} {vCF vGF vGS : Int32} {vGh vGi vGc vGo vGr : Nat → Int32} {p0 p1 p2 p3 p4 : Int32} (h : vld p0 p1 p2 p3 p4) (h2 : vGS < 24)
    (h3 : f_H_isStep p1 p2 = 0 ∨ f_H_isStep p1 p2 = 1 ∧ o_G_wouldCircle vGr p0 p1 ∧ f_G_wouldCircle vGr p0 p1 = 0) (h4 : o_G_learn N_ vGF vGS vGh vGi vGc vGo vGr p0 p1 p2 p3 p4) :
    f_H_production N_ vCF vGF vGS vGh vGi vGc vGo vGr p0 p1 p2 p3 p4 = kTail N_ vCF vGF vGS vGh vGi vGc vGo vGr p0 p1 p2 p3 p4 ∧ o_H_production N_ vCF vGF vGS vGh vGi vGc vGo vGr p0 p1 p2 p3 p4 := by
  obtain ⟨a0, a1, a4⟩ := h
  have hf : f_G_isFull vGS = 0 := by unfold f_G_isFull; rw [if_pos h2]
  unfold f_H_production o_H_production kTail
  simp only [↓bd_def, (e_s9 a0).2, e_ar1 a1, ↓if_neg m10.1, ↓if_neg (e_c1 a4).2.1, ↓if_pos (e_c1 a4).2.2, hf, ↓if_true]
  rcases h3 with h3 | ⟨h3, h5, h6⟩
  · simp only [h3, ↓if_true]; exact ⟨trivial, h4, trivial⟩
  · simp only [h3, ↓if_neg m10.1, h6, ↓if_true]; exact ⟨trivial, h5, h4, trivial⟩
theorem k_pFull {N_ : Nat} {vCF vGF vGS : Int32} {vGh vGi vGc vGo vGr : Nat → Int32} {p0 p1 p2 p3 p4 : Int32} (h : vld p0 p1 p2 p3 p4) (h2 : ¬ vGS < 24) :
    f_H_production N_ vCF vGF vGS vGh vGi vGc vGo vGr p0 p1 p2 p3 p4 = (2, 0, vCF, vGF, vGS, vGh, vGi, vGc, vGo, vGr) ∧ o_H_production N_ vCF vGF vGS vGh vGi vGc vGo vGr p0 p1 p2 p3 p4 := by
  obtain ⟨a0, a1, a4⟩ := h
  have hf : f_G_isFull vGS = 1 := by unfold f_G_isFull; rw [if_neg h2]
  unfold f_H_production o_H_production
  simp only [↓bd_def, (e_s9 a0).2, e_ar1 a1, ↓if_neg m10.1, ↓if_neg (e_c1 a4).2.1, ↓if_pos (e_c1 a4).2.2, hf]
  exact ⟨trivial, trivial⟩
theorem k_pCirc {N_ : Nat} {vCF vGF vGS : Int32} {vGh vGi vGc vGo vGr : Nat → Int32} {p0 p1 p2 p3 p4 : Int32} (h : vld p0 p1 p2 p3 p4) (h2 : vGS < 24)
    (h3 : f_H_isStep p1 p2 = 1) (h5 : o_G_wouldCircle vGr p0 p1) (h6 : f_G_wouldCircle vGr p0 p1 = 1) :
    f_H_production N_ vCF vGF vGS vGh vGi vGc vGo vGr p0 p1 p2 p3 p4 = (3, 0, vCF, vGF, vGS, vGh, vGi, vGc, vGo, vGr) ∧ o_H_production N_ vCF vGF vGS vGh vGi vGc vGo vGr p0 p1 p2 p3 p4 := by
  obtain ⟨a0, a1, a4⟩ := h
  have hf : f_G_isFull vGS = 0 := by unfold f_G_isFull; rw [if_pos h2]
  unfold f_H_production o_H_production
  simp only [↓bd_def, (e_s9 a0).2, e_ar1 a1, ↓if_neg m10.1, ↓if_neg (e_c1 a4).2.1, ↓if_pos (e_c1 a4).2.2, hf, ↓if_true, h3, h6]
  exact ⟨trivial, h5, trivial⟩
theorem q_pBad {N_ : Nat} {vMT vMP vMB : Int32} {vMh vMi vMc vMs : Nat → Int32} {p0 p1 p2 p3 p4 : Int32} (h : ¬ vld p0 p1 p2 p3 p4) : f_M_production N_ vMT vMP vMB vMh vMi vMc vMs p0 p1 p2 p3 p4 = (0, 1, vMP, vMB, vMh, vMi, vMc, vMs) ∧ o_M_production N_ vMT vMP vMB vMh vMi vMc vMs p0 p1 p2 p3 p4 := by
  have m1 := m10.1
  unfold f_M_production o_M_production
  by_cases a0 : 0 ≤ p0.toInt ∧ p0.toInt < 10
  · by_cases a1 : isIt p1
    · by_cases b2 : p2 = -1
      · by_cases b3 : p3 = -1
        · have a4 : ¬ (0 ≤ p4.toInt ∧ p4.toInt ≤ 1000) := fun q => h ⟨a0, ⟨a1, Or.inl ⟨b2, b3⟩⟩, q⟩
          simp only [↓bd_def, (e_s9 a0).1, ↓if_neg m1, e_oi, (e_it a1).1, ↓if_pos b2, ↓if_pos b3, (e_c0 a4).1, ↓if_true, w_ref1, true_and, and_self]
        · simp only [↓bd_def, (e_s9 a0).1, ↓if_neg m1, e_oi, (e_it a1).1, ↓if_pos b2, ↓if_neg b3, ↓if_true, w_ref1, true_and, and_self]
      · by_cases a2 : isIt p2
        · by_cases b3 : p3 = -1
          · have a4 : ¬ (0 ≤ p4.toInt ∧ p4.toInt ≤ 1000) := fun q => h ⟨a0, ⟨a1, Or.inr ⟨a2, Or.inl b3⟩⟩, q⟩
            simp only [↓bd_def, (e_s9 a0).1, ↓if_neg m1, e_oi, (e_it a1).1, (e_it a2).1, ↓if_neg b2, ↓if_pos b3, (e_c0 a4).1, ↓if_true, w_ref1, true_and, and_self]
          · by_cases a3 : isIt p3
            · have a4 : ¬ (0 ≤ p4.toInt ∧ p4.toInt ≤ 1000) := fun q => h ⟨a0, ⟨a1, Or.inr ⟨a2, Or.inr a3⟩⟩, q⟩
              simp only [↓bd_def, (e_s9 a0).1, ↓if_neg m1, e_oi, (e_it a1).1, (e_it a2).1, (e_it a3).1, ↓if_neg b2, ↓if_neg b3, (e_c0 a4).1, ↓if_true, w_ref1, true_and, and_self]
            · simp only [↓bd_def, (e_s9 a0).1, ↓if_neg m1, e_oi, (e_it a1).1, (e_it a2).1, (e_ni a3).1, ↓if_neg b2, ↓if_neg b3, ↓if_true, w_ref1, true_and, and_self]
        · simp only [↓bd_def, (e_s9 a0).1, ↓if_neg m1, e_oi, (e_it a1).1, (e_ni a2).1, ↓if_neg b2, ↓if_true, w_ref1, true_and, and_self]
    · simp only [↓bd_def, (e_s9 a0).1, ↓if_neg m1, e_oi, (e_ni a1).1, ↓if_true, w_ref1, true_and, and_self]
  · simp only [↓bd_def, (e_n9 a0).1, ↓if_true, w_ref1, ↓if_neg m1, and_self]
/-- the end of the reference's production -/
def qTail (vMT vMP vMB : Int32) (vMh vMi vMc : Nat → Int32) (p0 p1 p2 p3 p4 ld : Int32) (ms : Nat → Int32) : Int32 × Int32 × Int32 × Int32 × (Nat → Int32) × (Nat → Int32) × (Nat → Int32) × (Nat → Int32) := bd (f_M_refuse vMT 0 (if vMP = 24 then 1 else 0) ld) fun u_131 => (if u_131.1 = 0 then ((vMP + 1) - 1, u_131.2, vMP + 1, 0, upd vMh vMP.toNatClampNeg p0, upd (upd (upd vMi (3 * vMP).toNatClampNeg p1) ((3 * vMP) + 1).toNatClampNeg p2) ((3 * vMP) + 2).toNatClampNeg p3, upd vMc vMP.toNatClampNeg p4, ms) else (0, u_131.2, vMP, vMB, vMh, vMi, vMc, ms))
def oTail (vMT vMP ld : Int32) : Prop := bd (f_M_refuse vMT 0 (if vMP = 24 then 1 else 0) ld) fun u_131 => (if u_131.1 = 0 then (vp_in vMP 24 ∧ (vp_in (3 * vMP) 72 ∧ (vp_in ((3 * vMP) + 1) 72 ∧ (vp_in ((3 * vMP) + 2) 72 ∧ (vp_in vMP 24 ∧ True))))) else True)
theorem q_pStep {N_ : Nat} {vMT vMP vMB : Int32} {vMh vMi vMc vMs ms : Nat → Int32} {p0 p1 p2 p3 p4 ld : Int32} (h : vld p0 p1 p2 p3 p4) (h1 : ¬ 10 ≤ p1) (h2 : p2 = -1) (h3 : o_M_leads N_ vMP vMh vMi vMs p1 p0) (h4 : f_M_leads N_ vMP vMh vMi vMs p1 p0 = (ld, ms)) (h5 : ld = 0 ∨ ld = 1) (h6 : oTail vMT vMP ld) :
    f_M_production N_ vMT vMP vMB vMh vMi vMc vMs p0 p1 p2 p3 p4 = qTail vMT vMP vMB vMh vMi vMc p0 p1 p2 p3 p4 ld ms ∧ o_M_production N_ vMT vMP vMB vMh vMi vMc vMs p0 p1 p2 p3 p4 := by
  have m1 := m10.1
  obtain ⟨a0, ⟨a1, a2⟩, a4⟩ := h
  have b3 : p3 = -1 := by
    rcases a2 with a2 | a2
    · exact a2.2
    · exact absurd h2 (isIt_m1 a2.1)
  unfold oTail at h6
  unfold f_M_production o_M_production qTail
  simp only [↓bd_def, (e_s9 a0).1, ↓if_neg m1, e_oi, (e_it a1).1, ↓if_pos h2, ↓if_pos b3, (e_c1 a4).1, ↓if_neg h1, h4, true_and]
  rcases h5 with rfl | rfl
  · by_cases c : vMP = 24
    · simp only [↓bd_def, ↓if_pos c, ↓if_true] at h6 ⊢; exact ⟨trivial, h3, h6⟩
    · simp only [↓bd_def, ↓if_neg c, ↓if_true] at h6 ⊢; exact ⟨trivial, h3, h6⟩
  · by_cases c : vMP = 24
    · simp only [↓bd_def, ↓if_pos c, ↓if_neg m1] at h6 ⊢; exact ⟨trivial, h3, h6⟩
    · simp only [↓bd_def, ↓if_neg c, ↓if_neg m1] at h6 ⊢; exact ⟨trivial, h3, h6⟩
theorem q_pNo {N_ : Nat} {vMT vMP vMB : Int32} {vMh vMi vMc vMs : Nat → Int32} {p0 p1 p2 p3 p4 : Int32} (h : vld p0 p1 p2 p3 p4) (h1 : 10 ≤ p1 ∨ p2 ≠ -1) (h6 : oTail vMT vMP 0) :
    f_M_production N_ vMT vMP vMB vMh vMi vMc vMs p0 p1 p2 p3 p4 = qTail vMT vMP vMB vMh vMi vMc p0 p1 p2 p3 p4 0 vMs ∧ o_M_production N_ vMT vMP vMB vMh vMi vMc vMs p0 p1 p2 p3 p4 := by
  have m1 := m10.1
  obtain ⟨a0, ⟨a1, a2⟩, a4⟩ := h
  unfold oTail at h6
  unfold f_M_production o_M_production qTail
  by_cases b1 : 10 ≤ p1
  · rcases a2 with ⟨b2, b3⟩ | ⟨a2, a3⟩
    · simp only [↓bd_def, (e_s9 a0).1, ↓if_neg m1, e_oi, (e_it a1).1, ↓if_pos b2, ↓if_pos b3, (e_c1 a4).1, ↓if_pos b1, true_and]
      by_cases c : vMP = 24
      · simp only [↓bd_def, ↓if_pos c] at h6 ⊢; exact ⟨trivial, h6⟩
      · simp only [↓bd_def, ↓if_neg c] at h6 ⊢; exact ⟨trivial, h6⟩
    · have b2 := isIt_m1 a2
      by_cases b3 : p3 = -1
      · simp only [↓bd_def, (e_s9 a0).1, ↓if_neg m1, e_oi, (e_it a1).1, (e_it a2).1, ↓if_neg b2, ↓if_pos b3, (e_c1 a4).1, ↓if_pos b1, true_and]
        by_cases c : vMP = 24
        · simp only [↓bd_def, ↓if_pos c] at h6 ⊢; exact ⟨trivial, h6⟩
        · simp only [↓bd_def, ↓if_neg c] at h6 ⊢; exact ⟨trivial, h6⟩
      · have a3 : isIt p3 := by rcases a3 with q | q; exact absurd q b3; exact q
        simp only [↓bd_def, (e_s9 a0).1, ↓if_neg m1, e_oi, (e_it a1).1, (e_it a2).1, (e_it a3).1, ↓if_neg b2, ↓if_neg b3, (e_c1 a4).1, ↓if_pos b1, true_and]
        by_cases c : vMP = 24
        · simp only [↓bd_def, ↓if_pos c] at h6 ⊢; exact ⟨trivial, h6⟩
        · simp only [↓bd_def, ↓if_neg c] at h6 ⊢; exact ⟨trivial, h6⟩
  · have b2 : p2 ≠ -1 := by rcases h1 with q | q; exact absurd q b1; exact q
    have a3 : isIt p2 ∧ (p3 = -1 ∨ isIt p3) := by rcases a2 with q | q; exact absurd q.1 b2; exact q
    obtain ⟨a2, a3⟩ := a3
    by_cases b3 : p3 = -1
    · simp only [↓bd_def, (e_s9 a0).1, ↓if_neg m1, e_oi, (e_it a1).1, (e_it a2).1, ↓if_neg b2, ↓if_pos b3, (e_c1 a4).1, ↓if_neg b1, true_and]
      by_cases c : vMP = 24
      · simp only [↓bd_def, ↓if_pos c] at h6 ⊢; exact ⟨trivial, h6⟩
      · simp only [↓bd_def, ↓if_neg c] at h6 ⊢; exact ⟨trivial, h6⟩
    · have a3 : isIt p3 := by rcases a3 with q | q; exact absurd q b3; exact q
      simp only [↓bd_def, (e_s9 a0).1, ↓if_neg m1, e_oi, (e_it a1).1, (e_it a2).1, (e_it a3).1, ↓if_neg b2, ↓if_neg b3, (e_c1 a4).1, ↓if_neg b1, true_and]
      by_cases c : vMP = 24
      · simp only [↓bd_def, ↓if_pos c] at h6 ⊢; exact ⟨trivial, h6⟩
      · simp only [↓bd_def, ↓if_neg c] at h6 ⊢; exact ⟨trivial, h6⟩
