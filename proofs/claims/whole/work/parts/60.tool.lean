/-! Int32 as numbers: nI k; the rewriting rows take their side conditions by omega -/
theorem n_lit {k : Nat} : (OfNat.ofNat k : Int32) = nI k := rfl
theorem n_add {a b : Nat} : nI a + nI b = nI (a + b) := (Int32.ofNat_add a b).symm
theorem n_mul {a b : Nat} : nI a * nI b = nI (a * b) := (Int32.ofNat_mul a b).symm
theorem n_sub {a b : Nat} (h : b ≤ a) : nI a - nI b = nI (a - b) := by
  have h1 : nI a = nI (a - b) + nI b := by rw [n_add]; congr 1; omega
  rw [h1, Int32.add_sub_cancel]
theorem n_addm {a : Nat} (h : 1 ≤ a) : nI a + -nI 1 = nI (a - 1) := by
  rw [← Int32.sub_eq_add_neg]; exact n_sub h
theorem n_lt {a b : Nat} (ha : a < 2147483648) (hb : b < 2147483648) : (nI a < nI b) = (a < b) := by
  apply propext
  rw [Int32.lt_iff_toInt_lt, nI_toInt ha, nI_toInt hb]; omega
theorem n_le {a b : Nat} (ha : a < 2147483648) (hb : b < 2147483648) : (nI a ≤ nI b) = (a ≤ b) := by
  apply propext
  rw [Int32.le_iff_toInt_le, nI_toInt ha, nI_toInt hb]; omega
theorem n_eq {a b : Nat} (ha : a < 2147483648) (hb : b < 2147483648) : (nI a = nI b) = (a = b) := by
  apply propext
  rw [← Int32.toInt_inj, nI_toInt ha, nI_toInt hb]; omega
theorem n_clamp {a : Nat} (h : a < 2147483648) : (nI a).toNatClampNeg = a := nI_clamp h
theorem n_m1 : (-nI 1).toInt = -1 := by decide
theorem n_ltm {a : Nat} (ha : a < 2147483648) : (nI a < -nI 1) = False := by
  apply propext
  rw [Int32.lt_iff_toInt_lt, nI_toInt ha, n_m1]; exact ⟨fun h => by omega, False.elim⟩
theorem n_mlt {a : Nat} (ha : a < 2147483648) : (-nI 1 < nI a) = True := by
  apply propext
  rw [Int32.lt_iff_toInt_lt, nI_toInt ha, n_m1]; exact ⟨fun _ => trivial, fun _ => by omega⟩
theorem n_eqm {a : Nat} (ha : a < 2147483648) : (nI a = -nI 1) = False := by
  apply propext
  rw [← Int32.toInt_inj, nI_toInt ha, n_m1]; exact ⟨fun h => by omega, False.elim⟩
theorem n_meq {a : Nat} (ha : a < 2147483648) : (-nI 1 = nI a) = False := by
  apply propext
  rw [← Int32.toInt_inj, nI_toInt ha, n_m1]; exact ⟨fun h => by omega, False.elim⟩
theorem n_mlm : (-nI 1 < nI 0) = True := by decide
theorem n_in {a k : Nat} (ha : a < 2147483648) (h : a < k) : vp_in (nI a) k := vp_in_iff.mpr (by rw [nI_toInt ha]; omega)
/-- a number that is not negative is an nI -/
theorem n_of {x : Int32} (h : 0 ≤ x.toInt) : ∃ k : Nat, x = nI k ∧ (k : Int) = x.toInt ∧ k < 2147483648 := by
  refine ⟨x.toInt.toNat, ?_, by omega, ?_⟩
  · rw [← Int32.toInt_inj, nI_toInt] <;> have := Int32.toInt_lt x <;> omega
  · have := Int32.toInt_lt x; omega
theorem n_64 {a : Nat} (h : a < 2147483648) : (nI a).toInt64 = Int64.ofNat a := by
  rw [← Int64.toInt_inj, Int32.toInt_toInt64, nI_toInt h, Int64.toInt_ofNat_of_lt (by omega)]
theorem n_upd {f : Nat → Int32} {k j : Nat} {x : Int32} : upd f k x j = if j = k then x else f j := rfl
theorem n_tI {a : Nat} (h : a < 2147483648) : (nI a).toInt = (a : Int) := nI_toInt h
/-- sat: at most a thousand million -/
def satN (a : Nat) : Nat := if a < 1000000000 then a else 1000000000
theorem n_many {a : Nat} (h : a < 4000000000000000000) : f_H_atMostMany (Int64.ofNat a) = nI (satN a) := by
  unfold f_H_atMostMany satN
  rw [bd_def]
  have e1 : (Int64.ofNat a).toInt = (a : Int) := Int64.toInt_ofNat_of_lt (by omega)
  have e2 : (1000000000 : Int64).toInt = 1000000000 := by decide
  by_cases hc : a < 1000000000
  · rw [if_pos hc]
    have h1 : ¬ (0 : Int32) ≤ lg_cmp (Int64.ofNat a) 1000000000 := by
      rw [lg_cmp_ge, Int64.le_iff_toInt_le, e1, e2]; omega
    rw [if_neg h1]
    rw [← Int32.toInt_inj, nI_toInt (by omega)]
    rw [Int64.toInt_toInt32, e1]
    exact Int.bmod_eq_of_le (by omega) (by omega)
  · rw [if_neg hc]
    have h1 : (0 : Int32) ≤ lg_cmp (Int64.ofNat a) 1000000000 := by
      rw [lg_cmp_ge, Int64.le_iff_toInt_le, e1, e2]; omega
    rw [if_pos h1]; rfl
theorem n_64a {a b : Nat} : Int64.ofNat a + Int64.ofNat b = Int64.ofNat (a + b) := (Int64.ofNat_add a b).symm
theorem n_64m {a b : Nat} : Int64.ofNat a * Int64.ofNat b = Int64.ofNat (a * b) := (Int64.ofNat_mul a b).symm
