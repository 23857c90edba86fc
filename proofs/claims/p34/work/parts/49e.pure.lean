/-! the class's numbers are the reference's -/
def eN : Nat → Nat → Nat → Nat
  | 0, a, _ => a
  | n + 1, a, b => if b = 0 then a else eN n b (a % b)
theorem eN_0 (n a : Nat) : eN n a 0 = a := by cases n <;> simp [eN]
theorem eN_gcd : ∀ (m a b n : Nat), b < 2 ^ m → eN (2 * m + n) a b = Nat.gcd a b
  | 0, a, b, n, h => by
    have : b = 0 := by simpa using h
    rw [this, eN_0, Nat.gcd_zero_right]
  | m + 1, a, b, n, h => by
    rw [show 2 * (m + 1) + n = (2 * m + n + 1) + 1 by omega]
    by_cases z : b = 0
    · rw [z, eN_0, Nat.gcd_zero_right]
    · show (if b = 0 then a else eN (2 * m + n + 1) b (a % b)) = _
      rw [if_neg z]
      have hr := Nat.mod_lt a (show b > 0 by omega)
      by_cases w : a % b = 0
      · rw [w, eN_0]
        have := Nat.gcd_rec b a
        rw [w, Nat.gcd_zero_left] at this
        rw [Nat.gcd_comm]
        exact this.symm
      · show (if a % b = 0 then b else eN (2 * m + n) (a % b) (b % (a % b))) = _
        rw [if_neg w]
        have h2 := Nat.mod_lt b (show a % b > 0 by omega)
        have h3 : b % (a % b) + (a % b) ≤ b := by
          have d := Nat.div_add_mod b (a % b)
          have q : 1 ≤ b / (a % b) := (Nat.le_div_iff_mul_le (by omega)).mpr (by omega)
          have q2 : (a % b) * 1 ≤ (a % b) * (b / (a % b)) := Nat.mul_le_mul_left _ q
          omega
        rw [eN_gcd m _ _ n (by rw [Nat.pow_succ] at h; omega)]
        rw [Nat.gcd_comm (a % b), ← Nat.gcd_rec, ← Nat.gcd_rec, Nat.gcd_comm]
theorem euI_eN : ∀ (n a b : Nat), a < 2 ^ 31 → b < 2 ^ 31 → euI n (nI a) (nI b) = nI (eN n a b)
  | 0, _, _, _, _ => rfl
  | n + 1, a, b, ha, hb => by
    show (if nI b = 0 then nI a else euI n (nI b) (nI a - nI a / nI b * nI b)) = nI (if b = 0 then a else eN n b (a % b))
    by_cases z : b = 0
    · rw [if_pos z, if_pos (by rw [z]; rfl)]
    · have hr := Nat.mod_lt a (show b > 0 by omega)
      rw [if_neg z, if_neg (nI_ne0 (by omega) hb), pk_rem ha (by omega) hb, euI_eN n b (a % b) hb (by omega)]
theorem cdX_gcd {t : Int32} {u N : Nat} (h : absI t = nI u) (hu : u < 2 ^ 31) (h1 : 1 ≤ N) (hN : N ≤ 1728) : cdX t (nI N) = nI (Nat.gcd u N) := by
  have hg : Nat.gcd u N ≤ N := Nat.gcd_le_right u (by omega)
  have hp : 0 < Nat.gcd u N := Nat.gcd_pos_of_pos_right u (by omega)
  have e : euI 64 (absI t) (nI N) = nI (Nat.gcd u N) := by
    rw [h, euI_eN 64 u N hu (by omega)]
    exact congrArg nI (eN_gcd 11 u N 42 (by omega))
  unfold cdX
  rw [e, if_neg]
  exact nI_nlt (show 1 ≤ _ from hp) (by omega)
/-- an int that is not the least one has an absolute value -/
theorem absI_ex {x : Int32} (h : -2147483648 < x.toInt) : absI x = nI x.toInt.natAbs ∧ x.toInt.natAbs < 2 ^ 31 := by
  have hu := x.toInt_lt
  have b : x.toInt.natAbs < 2 ^ 31 := by omega
  refine ⟨?_, b⟩
  unfold absI
  by_cases z : 0 ≤ x
  · rw [if_pos z]
    apply Int32.toInt_inj.mp
    rw [nI_toInt b]
    have := Int32.le_iff_toInt_le.mp z
    rw [show ((0 : Int32)).toInt = 0 from by decide] at this
    omega
  · rw [if_neg z]
    apply Int32.toInt_inj.mp
    rw [nI_toInt b]
    have z2 : ¬ (0 : Int) ≤ x.toInt := fun q => z (Int32.le_iff_toInt_le.mpr (by rw [show ((0 : Int32)).toInt = 0 from by decide]; exact q))
    rw [Int32.toInt_sub, show ((0 : Int32)).toInt = 0 from by decide, Int.bmod_eq_of_le (by omega) (by omega)]
    omega
theorem sm_bd {f : Nat → Int32} {B : Int} (hB : 0 ≤ B) : ∀ {n : Nat}, (n : Int) * B < 2 ^ 31 → (∀ i, i < n → -B ≤ (f i).toInt ∧ (f i).toInt ≤ B) → -((n : Int) * B) ≤ (sm f n).toInt ∧ (sm f n).toInt ≤ (n : Int) * B
  | 0, _, _ => by
    show -(((0 : Nat) : Int) * B) ≤ (0 : Int32).toInt ∧ _
    rw [show ((0 : Int32)).toInt = 0 from by decide]
    simp [sm]
  | n + 1, h, hf => by
    have e : ((n + 1 : Nat) : Int) * B = (n : Int) * B + B := by push_cast; rw [Int.add_mul, Int.one_mul]
    rw [e] at h ⊢
    have ih := sm_bd hB (n := n) (by omega) (fun i hi => hf i (by omega))
    have a := hf n (by omega)
    have : (sm f (n + 1)).toInt = (sm f n).toInt + (f n).toInt := by
      show (sm f n + f n).toInt = _
      rw [Int32.toInt_add, Int.bmod_eq_of_le (by omega) (by omega)]
    omega
theorem sm_congr {f g : Nat → Int32} : ∀ {n : Nat}, (∀ i, i < n → f i = g i) → sm f n = sm g n
  | 0, _ => rfl
  | n + 1, h => by
    show sm f n + f n = sm g n + g n
    rw [sm_congr (n := n) (fun i hi => h i (by omega)), h n (by omega)]
theorem wst_congr {f g : Nat → Int32} {N : Nat} (hN : 1 ≤ N) (h : ∀ i, i < N → f i = g i) : ∀ n, n ≤ N → wst f n = wst g n
  | 0, _ => rfl
  | n + 1, hn => by
    have ih := wst_congr hN h n (by omega)
    have l : wst g n < N := by
      have := wst_le g n
      rcases Nat.eq_zero_or_pos n with z | z
      · rw [z]; exact hN
      · omega
    show (if f n < f (wst f n) then n else wst f n) = (if g n < g (wst g n) then n else wst g n)
    rw [ih, h n (by omega), h _ l]
theorem mnX_congr {f g : Nat → Int32} : ∀ {n : Nat}, (∀ i, i ≤ n → f i = g i) → mnX f n = mnX g n
  | 0, h => h 0 (Nat.le_refl _)
  | n + 1, h => by
    have ih := mnX_congr (n := n) (fun i hi => h i (by omega))
    show (if f (n + 1) < mnX f n then f (n + 1) else mnX f n) = (if g (n + 1) < mnX g n then g (n + 1) else mnX g n)
    rw [ih, h (n + 1) (Nat.le_refl _)]
theorem alleq_congr {f g : Nat → Int32} {N : Nat} (h1 : 1 ≤ N) (h : ∀ i, i < N → f i = g i) : alleq f N = alleq g N := by
  unfold alleq
  refine decide_eq_decide.mpr ⟨fun q o ho => ?_, fun q o ho => ?_⟩
  · rw [← h o ho, ← h 0 (by omega)]; exact q o ho
  · rw [h o ho, h 0 (by omega)]; exact q o ho
