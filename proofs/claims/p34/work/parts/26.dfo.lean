/-! what the reference's writing methods do to its rows -/
def hitM (ht : Nat → Int32) (f : Nat → Bool) (w : Nat) : Nat → Nat → Int32
  | 0 => ht
  | o + 1 => upd (hitM ht f w o) (1728 * w + o) (b2i (f o))
/-- the purses behind a throw, after i wagers -/
def stM (pu sk br ht : Nat → Int32) (pt : Nat → Nat) (o : Nat) : Nat → Nat → Int32
  | 0 => pu
  | i + 1 => if ht (1728 * i + o) = 0 then stM pu sk br ht pt o i else upd (stM pu sk br ht pt o i) (pt i) (stM pu sk br ht pt o i (pt i) + (sk i + br i))
/-- what stands behind place w goes one place down, up to place i -/
def shM (f : Nat → Int32) (w i : Nat) : Nat → Int32 := fun j => if w ≤ j ∧ j < i then f (j + 1) else f j
def shH (N : Nat) (f : Nat → Int32) (w : Nat) : Nat → Nat → Int32
  | 0 => f
  | k + 1 => va_cpy (shH N f w k) (shH N f w k) (1728 * (w + k + 1)) (1728 * (w + k)) N
theorem shM_s (f : Nat → Int32) {w i : Nat} (h : w ≤ i) : upd (shM f w i) i (f (i + 1)) = shM f w (i + 1) := by
  funext j
  unfold upd shM
  by_cases h1 : j = i
  · subst h1
    rw [if_pos rfl, if_pos (by omega)]
  · rw [if_neg h1]
    by_cases h2 : w ≤ j ∧ j < i
    · rw [if_pos h2, if_pos (by omega)]
    · rw [if_neg h2, if_neg (by omega)]
theorem shM_0 (f : Nat → Int32) (w : Nat) : shM f w w = f := by
  funext j
  exact if_neg (by omega)
theorem shM_u (f : Nat → Int32) {w i j : Nat} (h : i ≤ j) : shM f w i j = f j := if_neg (by omega)
theorem fit_b2i (b : Bool) : vp_nar .boolean (b2i b) = b2i b := by cases b <;> decide
theorem fits_b2i (b : Bool) : fits .boolean (.int (b2i b)) = true := by cases b <;> decide
