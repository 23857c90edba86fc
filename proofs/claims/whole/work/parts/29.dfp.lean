/-! the reference's checksum and what its takeBack keeps -/
def dfF (f : Nat → Int32) (d : Int64) : Nat → Int64
  | 0 => d
  | i + 1 => dfF f d i * 31 + (f i).toInt64
def dgWM (N : Nat) (ed : Nat → Int32) (uu : Nat → Nat) (wh sk br : Nat → Int32) (d : Int64) : Nat → Int64
  | 0 => d
  | i + 1 => ((((dgWM N ed uu wh sk br d i * 31 + (wh i).toInt64) * 31 + (sk i).toInt64) * 31 + (br i).toInt64) * 31 + (ed i / nI (Nat.gcd (uu i) N)).toInt64) * 31 + (nI N / nI (Nat.gcd (uu i) N)).toInt64
theorem fits_shH {N : Nat} {f : Nat → Int32} {w : Nat} (h : ∀ j, fits .boolean (.int (f j)) = true) : ∀ k j, fits .boolean (.int (shH N f w k j)) = true
  | 0, j => h j
  | k + 1, j => by
    show fits .boolean (.int (if _ then _ else _)) = true
    split
    · exact fits_shH h k _
    · exact fits_shH h k _
