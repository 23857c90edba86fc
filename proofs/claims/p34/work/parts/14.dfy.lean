/-! what the class's further methods answer -/
def fst9 (P : Nat → Bool) : Nat → Nat → Option Nat
  | 0, _ => none
  | f + 1, i => if P i then some i else fst9 P f (i + 1)
def fst9I (x : Option Nat) : Int32 := match x with
  | some i => nI i
  | none => -1
theorem fst9_t {P : Nat → Bool} {f i : Nat} (hf : 0 < f) (h : P i = true) : fst9 P f i = some i := by
  obtain ⟨g, rfl⟩ : ∃ g, f = g + 1 := ⟨f - 1, by omega⟩
  exact if_pos h
theorem fst9_f {P : Nat → Bool} {f i : Nat} (hf : 0 < f) (h : P i = false) : fst9 P f i = fst9 P (f - 1) (i + 1) := by
  obtain ⟨g, rfl⟩ : ∃ g, f = g + 1 := ⟨f - 1, by omega⟩
  show (if P i = true then some i else fst9 P g (i + 1)) = _
  rw [h]
  rfl
/-- the greatest of w, w - 1, .. 1 with P, or 0 -/
def lst9 (P : Nat → Bool) : Nat → Nat
  | 0 => 0
  | w + 1 => if P (w + 1) then w + 1 else lst9 P w
def hgP (br sk wn bs : Int32) (i : Nat) : Bool := decide (br - nI i = brX (nI i) wn bs - sk)
def fwP (N ws : Nat) (bs : Int32) (w : Nat) : Bool := decide (0 ≤ 100 * (nI N - nI ws) - brX 100 (nI w) bs * nI ws)
def dgW (N : Nat) (wf : Nat → Nat → Int32) (d : Int64) : Nat → Int64
  | 0 => d
  | i + 1 => ((((dgW N wf d i * 31 + (wf i 0).toInt64) * 31 + (wf i 3).toInt64) * 31 + (wf i 4).toInt64) * 31 + (goX N wf i / cdX (goX N wf i) (nI N)).toInt64) * 31 + (nI N / cdX (goX N wf i) (nI N)).toInt64
def alleq (g : Nat → Int32) (N : Nat) : Bool := decide (∀ o, o < N → g o = g 0)
def dgP (pu : Nat → Int32) (g : Nat → Nat → Int32) (N : Nat) (d : Int64) : Nat → Int64
  | 0 => d
  | i + 1 => ((dgP pu g N d i * 31 + (pu i).toInt64) * 31 + (mnX (g i) (N - 1)).toInt64) * 31 + (if alleq (g i) N then 1 else 0)
def dgK (f : Nat → Int32) (d : Int64) : Nat → Int64
  | 0 => d
  | i + 1 => dgK f d i * 31 + (f i).toInt64
def dgH (d cnt N n bank rnds st et eb dr wg wo : Int64) : Int64 := ((((((((((d * 31 + cnt) * 31 + N) * 31 + n) * 31 + bank) * 31 + rnds) * 31 + st) * 31 + et) * 31 + eb) * 31 + dr) * 31 + wg) * 31 + wo
theorem wst_lt (g : Nat → Int32) {N : Nat} (h : 1 ≤ N) : wst g N < N := by
  obtain ⟨m, rfl⟩ : ∃ m, N = m + 1 := ⟨N - 1, by omega⟩
  have h2 := wst_le g m
  simp only [wst]
  split <;> omega
