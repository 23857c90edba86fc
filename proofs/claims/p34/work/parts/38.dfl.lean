/-! a list's places: one taken out, all cleared -/
def shR (rf : Nat → Option Nat) (i n1 : Nat) : Nat → Option Nat := va_up (va_cpy rf rf (i + 1) i (n1 - i)) n1 none
theorem shR_self (rf : Nat → Option Nat) (i : Nat) : va_up rf i none = shR rf i i := by
  funext j
  unfold shR
  have h : va_cpy rf rf (i + 1) i (i - i) = rf := by
    funext k
    show (if i ≤ k ∧ k < i + (i - i) then rf (i + 1 + (k - i)) else rf k) = rf k
    rw [if_neg (by omega)]
  rw [h]
theorem shR_at {rf : Nat → Option Nat} {i n1 j : Nat} (hj : j < n1) : shR rf i n1 j = rf (if j < i then j else j + 1) := by
  show (if j = n1 then none else if i ≤ j ∧ j < i + (n1 - i) then rf (i + 1 + (j - i)) else rf j) = _
  rw [if_neg (by omega)]
  by_cases h : j < i
  · rw [if_neg (by omega), if_pos h]
  · rw [if_pos (by omega), if_neg h, show i + 1 + (j - i) = j + 1 by omega]
def clr (rf : Nat → Option Nat) (i : Nat) : Nat → Option Nat := fun j => if j < i then none else rf j
theorem clr_s (rf : Nat → Option Nat) (i : Nat) : va_up (clr rf i) i none = clr rf (i + 1) := by
  funext j
  show (if j = i then none else if j < i then none else rf j) = (if j < i + 1 then none else rf j)
  by_cases h : j = i
  · rw [if_pos h, if_pos (by omega)]
  · rw [if_neg h]
    by_cases h2 : j < i
    · rw [if_pos h2, if_pos (by omega)]
    · rw [if_neg h2, if_neg (by omega)]
theorem clr_0 (rf : Nat → Option Nat) : rf = clr rf 0 := rfl
theorem up_at {f : Nat → Option Nat} {k j : Nat} {v : Option Nat} : va_up f k v j = if j = k then v else f j := rfl
theorem cpy_all {rf : Nat → Option Nat} {n j : Nat} (hj : j < n) : va_cpy rf (fun _ => none) 0 0 n j = rf j := by
  show (if 0 ≤ j ∧ j < 0 + n then rf (0 + (j - 0)) else none) = rf j
  rw [if_pos (by omega)]
  simp
