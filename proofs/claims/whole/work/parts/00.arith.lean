/-! Base: a named value in a pure text; Int32 facts for omega; loop measures; one row a call -/
/-- a value with a name; made so that no unfolding goes through it by itself -/
def bdW {α β : Type} (n : Nat) (a : α) (f : α → β) : β := if n = 0 then f a else bdW (n - 1) a f
termination_by n
decreasing_by omega
def bd {α β : Type} (a : α) (f : α → β) : β := bdW 0 a f
theorem bd_def {α β : Type} (a : α) (f : α → β) : bd a f = f a := by
  unfold bd; rw [bdW]; rfl
theorem bd_eq {α β : Type} {a u : α} {f : α → β} (h : u = a) : bd a f = f u := by rw [bd_def, h]
theorem x_lt {a b : Int32} (h : a < b) : a.toInt < b.toInt := Int32.lt_iff_toInt_lt.mp h
theorem x_nlt {a b : Int32} (h : ¬ a < b) : b.toInt ≤ a.toInt := by
  rw [Int32.lt_iff_toInt_lt] at h; omega
theorem x_le {a b : Int32} (h : a ≤ b) : a.toInt ≤ b.toInt := Int32.le_iff_toInt_le.mp h
theorem x_nle {a b : Int32} (h : ¬ a ≤ b) : b.toInt < a.toInt := by
  rw [Int32.le_iff_toInt_le] at h; omega
theorem x_eq {a b : Int32} (h : a = b) : a.toInt = b.toInt := by rw [h]
theorem x_ne {a b : Int32} (h : ¬ a = b) : ¬ a.toInt = b.toInt := fun e => h (Int32.toInt_inj.mp e)
theorem x_add {a b : Int32} (h1 : -2147483648 ≤ a.toInt + b.toInt) (h2 : a.toInt + b.toInt < 2147483648) : (a + b).toInt = a.toInt + b.toInt := by
  rw [Int32.toInt_add]; exact Int.bmod_eq_of_le (by omega) (by omega)
theorem x_sub {a b : Int32} (h1 : -2147483648 ≤ a.toInt - b.toInt) (h2 : a.toInt - b.toInt < 2147483648) : (a - b).toInt = a.toInt - b.toInt := by
  rw [Int32.toInt_sub]; exact Int.bmod_eq_of_le (by omega) (by omega)
theorem x_mul {a b : Int32} (h1 : -2147483648 ≤ a.toInt * b.toInt) (h2 : a.toInt * b.toInt < 2147483648) : (a * b).toInt = a.toInt * b.toInt := by
  rw [Int32.toInt_mul]; exact Int.bmod_eq_of_le (by omega) (by omega)
theorem x_1 : (1 : Int32).toInt = 1 := by decide
theorem x_m1 : (-1 : Int32).toInt = -1 := by decide
theorem x_0 : (0 : Int32).toInt = 0 := by decide
theorem x_inc {a : Int32} (h : a.toInt < 2147483647) : (a + 1).toInt = a.toInt + 1 := by
  have h0 := Int32.le_toInt a
  have h1 := x_1
  rw [x_add (by omega) (by omega), h1]
theorem x_dec {a : Int32} (h : -2147483648 < a.toInt) : (a + (-1)).toInt = a.toInt - 1 := by
  have h0 := Int32.toInt_lt a
  have h1 := x_m1
  rw [x_add (by omega) (by omega), h1]; omega
theorem x_nz {v : Int32} (h : v = 0 ∨ v = 1) : narrow .boolean (.int v) = .int v := by rcases h with rfl | rfl <;> decide
