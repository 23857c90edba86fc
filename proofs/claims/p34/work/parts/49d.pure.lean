/-! in how many ways: counted outcome by outcome, and die by die -/
theorem smN_congr {f g : Nat → Nat} : ∀ {n : Nat}, (∀ i, i < n → f i = g i) → smN f n = smN g n
  | 0, _ => rfl
  | n + 1, h => by
    simp only [smN]
    rw [smN_congr (n := n) (fun i hi => h i (by omega)), h n (by omega)]
theorem smN_add (f g : Nat → Nat) : ∀ n, smN (fun i => f i + g i) n = smN f n + smN g n
  | 0 => rfl
  | n + 1 => by
    simp only [smN]
    rw [smN_add f g n]
    omega
theorem smN_z : ∀ n, smN (fun _ => 0) n = 0
  | 0 => rfl
  | n + 1 => by simp only [smN]; rw [smN_z n]
theorem smN_c (c : Nat) : ∀ n, smN (fun _ => c) n = n * c
  | 0 => (Nat.zero_mul c).symm
  | n + 1 => by simp only [smN]; rw [smN_c c n, Nat.succ_mul]
theorem smN_mulr (f : Nat → Nat) (c : Nat) : ∀ n, smN (fun i => f i * c) n = smN f n * c
  | 0 => (Nat.zero_mul c).symm
  | n + 1 => by simp only [smN]; rw [smN_mulr f c n, Nat.add_mul]
theorem smN_mull (f : Nat → Nat) (c : Nat) : ∀ n, smN (fun i => c * f i) n = c * smN f n
  | 0 => (Nat.mul_zero c).symm
  | n + 1 => by simp only [smN]; rw [smN_mull f c n, Nat.mul_add]
theorem smN_comm (f : Nat → Nat → Nat) (m : Nat) : ∀ n, smN (fun i => smN (fun j => f i j) m) n = smN (fun j => smN (fun i => f i j) n) m
  | 0 => (smN_z m).symm
  | n + 1 => by
    simp only [smN]
    rw [smN_comm f m n, ← smN_add]
theorem smN_app (f : Nat → Nat) (a : Nat) : ∀ b, smN f (a + b) = smN f a + smN (fun i => f (a + i)) b
  | 0 => rfl
  | b + 1 => by
    show smN f (a + b) + f (a + b) = _
    rw [smN_app f a b]
    simp only [smN]
    omega
theorem smN_mul (f : Nat → Nat) (b : Nat) : ∀ a, smN f (a * b) = smN (fun x => smN (fun y => f (x * b + y)) b) a
  | 0 => by rw [Nat.zero_mul]; rfl
  | a + 1 => by
    rw [Nat.succ_mul, smN_app, smN_mul f b a]
    rfl
theorem smN_3 (f : Nat → Nat) (a s t : Nat) : smN f (a * s * t) = smN (fun x => smN (fun y => smN (fun z => f ((x * s + y) * t + z)) t) s) a := by
  rw [smN_mul f t (a * s), smN_mul _ s a]
theorem cn_sm (p : Nat → Bool) : ∀ n, cn p n = smN (fun i => if p i then 1 else 0) n
  | 0 => rfl
  | n + 1 => by simp only [cn, smN]; rw [cn_sm p n]
theorem cn_congr {p q : Nat → Bool} {n : Nat} (h : ∀ i, i < n → p i = q i) : cn p n = cn q n := by
  rw [cn_sm, cn_sm]
  exact smN_congr (fun i hi => by rw [h i hi])
theorem cn_not (p : Nat → Bool) : ∀ n, cn p n + cn (fun i => !(p i)) n = n
  | 0 => rfl
  | n + 1 => by
    have h := cn_not p n
    simp only [cn]
    by_cases g : p n = true
    · rw [if_pos g, if_neg (by rw [g]; decide)]
      omega
    · rw [if_neg g, if_pos (by rw [Bool.not_eq_true] at g; rw [g]; rfl)]
      omega
theorem fc_ix {fn : Nat → Nat} {x y z : Nat} (hx : x < fn 0) (hy : y < fn 1) (hz : z < fn 2) : fcN fn ((x * fn 1 + y) * fn 2 + z) 0 = x + 1 ∧ fcN fn ((x * fn 1 + y) * fn 2 + z) 1 = y + 1 ∧ fcN fn ((x * fn 1 + y) * fn 2 + z) 2 = z + 1 := by
  obtain ⟨h1, h2, h3⟩ := lay_ix (x := x) hy hz
  refine ⟨?_, ?_, ?_⟩
  · show _ / fn 2 / fn 1 % fn 0 + 1 = x + 1
    rw [Nat.div_div_eq_div_mul, Nat.mul_comm (fn 2), h1, Nat.mod_eq_of_lt hx]
  · show _ / fn 2 % fn 1 + 1 = y + 1
    rw [h2]
  · show _ % fn 2 + 1 = z + 1
    rw [h3]
