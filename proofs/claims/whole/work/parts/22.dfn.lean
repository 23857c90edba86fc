/-! what the reference's further methods answer -/
def edM (fn : Nat → Nat) (dn N : Nat) (kd : Nat → Nat) (nm sk br : Nat → Int32) (i : Nat) : Int32 := sk i * (nI N - manyM fn dn N (kd i) (nm i)) - br i * manyM fn dn N (kd i) (nm i)
def drM (ed sk : Nat → Int32) : Nat → Option Nat
  | 0 => none
  | i + 1 => match drM ed sk i with
    | none => some i
    | some b => if (ed b).toInt64 * (sk i).toInt64 < (ed i).toInt64 * (sk b).toInt64 then some i else some b
theorem drM_lt (ed sk : Nat → Int32) : ∀ (i b : Nat), drM ed sk i = some b → b < i
  | 0, b, h => by simp [drM] at h
  | i + 1, b, h => by
    simp only [drM] at h
    cases g : drM ed sk i with
    | none =>
      rw [g] at h
      cases h
      omega
    | some c =>
      rw [g] at h
      have hc := drM_lt ed sk i c g
      dsimp only at h
      split at h <;> cases h <;> omega
theorem drM_n {ed sk : Nat → Int32} {i : Nat} (h : drM ed sk i = none) : drM ed sk (i + 1) = some i := by simp only [drM, h]
theorem drM_t {ed sk : Nat → Int32} {i b : Nat} (h : drM ed sk i = some b) (h2 : (ed b).toInt64 * (sk i).toInt64 < (ed i).toInt64 * (sk b).toInt64) : drM ed sk (i + 1) = some i := by simp only [drM, h, if_pos h2]
theorem drM_f {ed sk : Nat → Int32} {i b : Nat} (h : drM ed sk i = some b) (h2 : ¬ (ed b).toInt64 * (sk i).toInt64 < (ed i).toInt64 * (sk b).toInt64) : drM ed sk (i + 1) = some b := by simp only [drM, h, if_neg h2]
theorem manyS_t {fn : Nat → Nat} {dn k v : Nat} {n : Int32} (h : selM k n v = true) : manyS fn dn k n (v + 1) = manyS fn dn k n v + ws9 fn dn v := by simp only [manyS, h, if_true]
theorem manyS_f {fn : Nat → Nat} {dn k v : Nat} {n : Int32} (h : selM k n v = false) : manyS fn dn k n (v + 1) = manyS fn dn k n v := by simp [manyS, h]
theorem Int32_add0 (x : Int32) : x + 0 = x := Int32.add_zero x
def fwM (N : Nat) (ws : Int32) (bs : Int32) (w : Nat) : Bool := decide (¬ 100 * (nI N - ws) < 100 * nI w / bs * ws)
theorem mnF_le (fn : Nat → Nat) : ∀ i, mnF fn i ≤ 12
  | 0 => Nat.le_refl _
  | i + 1 => by
    have h := mnF_le fn i
    simp only [mnF]
    split <;> omega
theorem nI_m1 {b : Nat} (h : b < 2 ^ 31) : ¬ nI b = (-1) := by
  intro z
  have g := congrArg Int32.toInt z
  rw [nI_toInt h, show ((-1 : Int32)).toInt = -1 from by decide] at g
  omega
