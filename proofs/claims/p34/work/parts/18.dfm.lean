/-! the reference's cells; what its reading methods answer, in words of these -/
def inM (v lo hi : Int32) : Bool := decide (lo ≤ v ∧ v ≤ hi)
def fcN (fn : Nat → Nat) (o d : Nat) : Nat := (match d with
  | 0 => o / fn 2 / fn 1 % fn 0
  | 1 => o / fn 2 % fn 1
  | _ => o % fn 2) + 1
def smN (f : Nat → Nat) : Nat → Nat
  | 0 => 0
  | n + 1 => smN f n + f n
theorem fcN_le {fn : Nat → Nat} (h : ∀ j, j < 3 → 1 ≤ fn j ∧ fn j ≤ 12) (o : Nat) {d : Nat} (hd : d < 3) : 1 ≤ fcN fn o d ∧ fcN fn o d ≤ 12 := by
  match d, hd with
  | 0, _ =>
    have a := Nat.mod_lt (o / fn 2 / fn 1) (show fn 0 > 0 from (h 0 (by omega)).1)
    have b := h 0 (by omega)
    simp only [fcN]; omega
  | 1, _ =>
    have a := Nat.mod_lt (o / fn 2) (show fn 1 > 0 from (h 1 (by omega)).1)
    have b := h 1 (by omega)
    simp only [fcN]; omega
  | 2, _ =>
    have a := Nat.mod_lt o (show fn 2 > 0 from (h 2 (by omega)).1)
    have b := h 2 (by omega)
    simp only [fcN]; omega
theorem smN_le {f : Nat → Nat} {c : Nat} : ∀ {n : Nat}, (∀ j, j < n → f j ≤ c) → smN f n ≤ n * c
  | 0, _ => by simp [smN]
  | n + 1, h => by
    have a := smN_le (n := n) (fun j hj => h j (by omega))
    have b := h n (by omega)
    have e : (n + 1) * c = n * c + c := Nat.succ_mul n c
    simp only [smN]
    omega
/-- kinds 3 and 4, after i dice -/
def k3M (fn : Nat → Nat) (o : Nat) : Nat → Bool
  | 0 => true
  | i + 1 => k3M fn o i && decide (fcN fn o i = fcN fn o 0)
def k4M (fn : Nat → Nat) (n : Int32) (o : Nat) : Nat → Bool
  | 0 => false
  | i + 1 => k4M fn n o i || decide (nI (fcN fn o i) = n)
def holdsM (fn : Nat → Nat) (dn k : Nat) (n : Int32) (o : Nat) : Bool := match k with
  | 0 => decide (nI (smN (fcN fn o) dn) = n)
  | 1 => decide (n ≤ nI (smN (fcN fn o) dn))
  | 2 => decide (smN (fcN fn o) dn % 2 = 1)
  | 3 => k3M fn o dn
  | _ => k4M fn n o dn
def comesM (fn : Nat → Nat) (dn k : Nat) (n : Int32) (o : Nat) : Bool := if k < 5 then holdsM fn dn k n o else !(holdsM fn dn (k - 5) n o)
def withoutM (fn : Nat → Nat) (n : Int32) : Nat → Nat
  | 0 => 1
  | d + 1 => withoutM fn n d * (if inM n 1 (nI (fn d)) then fn d - 1 else fn d)
def gnM (ht sk br : Nat → Int32) (o i : Nat) : Int32 := if ht (1728 * i + o) = 0 then sk i else -(br i)
def behM (pu wh sk br ht : Nat → Int32) (p : Int32) (pi o : Nat) : Nat → Int32
  | 0 => pu pi
  | i + 1 => if wh i = p ∧ ¬ ht (1728 * i + o) = 0 then behM pu wh sk br ht p pi o i + (sk i + br i) else behM pu wh sk br ht p pi o i
def hgM (all wn bs : Int32) (i : Nat) : Bool := decide (nI i + nI i * wn / bs = all)
/-- in how many ways d dice come to v -/
def sgU (f : Nat → Nat) : Nat → Nat
  | 0 => 0
  | n + 1 => sgU f n + f (n + 1)
def ws9 (fn : Nat → Nat) : Nat → Nat → Nat
  | 0, v => if v = 0 then 1 else 0
  | d + 1, v => sgU (fun f => ws9 fn d (v - f)) (min v (fn d))
def mnF (fn : Nat → Nat) : Nat → Nat
  | 0 => 12
  | i + 1 => if fn i < mnF fn i then fn i else mnF fn i
def selM (k : Nat) (n : Int32) (v : Nat) : Bool := match k with
  | 0 => decide (nI v = n)
  | 1 => decide (n ≤ nI v)
  | _ => decide (v % 2 = 1)
def manyS (fn : Nat → Nat) (dn k : Nat) (n : Int32) : Nat → Nat
  | 0 => 0
  | v + 1 => manyS fn dn k n v + (if selM k n v then ws9 fn dn v else 0)
def many5 (fn : Nat → Nat) (dn N k : Nat) (n : Int32) : Int32 := match k with
  | 3 => nI (mnF fn dn)
  | 4 => nI N - nI (withoutM fn n dn)
  | k => nI (manyS fn dn k n 37)
def manyM (fn : Nat → Nat) (dn N k : Nat) (n : Int32) : Int32 := if k < 5 then many5 fn dn N k n else nI N - many5 fn dn N (k - 5) n
