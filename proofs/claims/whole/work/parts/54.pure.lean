/-! in how many ways: counted outcome by outcome, and die by die -/
theorem smN_congr {f g : Nat → Nat} : ∀ {n : Nat}, (∀ i, i < n → f i = g i) → smN f n = smN g n
  | 0, _ => rfl
  | n + 1, h => by
    simp only [smN]
    rw [smN_congr (n := n) (fun i hi => h i (by omega)), h n (by omega)]
theorem smN_add (f g : Nat → Nat) : ∀ n, smN (fun i => f i + g i) n = smN f n + smN g n
  | 0 => rfl
  | n + 1 => by
    simp only [smN]
    rw [smN_add f g n]
    omega
theorem smN_z : ∀ n, smN (fun _ => 0) n = 0
  | 0 => rfl
  | n + 1 => by simp only [smN]; rw [smN_z n]
theorem smN_c (c : Nat) : ∀ n, smN (fun _ => c) n = n * c
  | 0 => (Nat.zero_mul c).symm
  | n + 1 => by simp only [smN]; rw [smN_c c n, Nat.succ_mul]
theorem smN_mulr (f : Nat → Nat) (c : Nat) : ∀ n, smN (fun i => f i * c) n = smN f n * c
  | 0 => (Nat.zero_mul c).symm
  | n + 1 => by simp only [smN]; rw [smN_mulr f c n, Nat.add_mul]
theorem smN_mull (f : Nat → Nat) (c : Nat) : ∀ n, smN (fun i => c * f i) n = c * smN f n
  | 0 => (Nat.mul_zero c).symm
  | n + 1 => by simp only [smN]; rw [smN_mull f c n, Nat.mul_add]
theorem smN_comm (f : Nat → Nat → Nat) (m : Nat) : ∀ n, smN (fun i => smN (fun j => f i j) m) n = smN (fun j => smN (fun i => f i j) n) m
  | 0 => (smN_z m).symm
  | n + 1 => by
    simp only [smN]
    rw [smN_comm f m n, ← smN_add]
theorem smN_app (f : Nat → Nat) (a : Nat) : ∀ b, smN f (a + b) = smN f a + smN (fun i => f (a + i)) b
  | 0 => rfl
  | b + 1 => by
    show smN f (a + b) + f (a + b) = _
    rw [smN_app f a b]
    simp only [smN]
    omega
theorem smN_mul (f : Nat → Nat) (b : Nat) : ∀ a, smN f (a * b) = smN (fun x => smN (fun y => f (x * b + y)) b) a
  | 0 => by rw [Nat.zero_mul]; rfl
  | a + 1 => by
    rw [Nat.succ_mul, smN_app, smN_mul f b a]
    rfl
theorem smN_3 (f : Nat → Nat) (a s t : Nat) : smN f (a * s * t) = smN (fun x => smN (fun y => smN (fun z => f ((x * s + y) * t + z)) t) s) a := by
  rw [smN_mul f t (a * s), smN_mul _ s a]
theorem cn_sm (p : Nat → Bool) : ∀ n, cn p n = smN (fun i => if p i then 1 else 0) n
  | 0 => rfl
  | n + 1 => by simp only [cn, smN]; rw [cn_sm p n]
theorem cn_congr {p q : Nat → Bool} {n : Nat} (h : ∀ i, i < n → p i = q i) : cn p n = cn q n := by
  rw [cn_sm, cn_sm]
  exact smN_congr (fun i hi => by rw [h i hi])
theorem cn_not (p : Nat → Bool) : ∀ n, cn p n + cn (fun i => !(p i)) n = n
  | 0 => rfl
  | n + 1 => by
    have h := cn_not p n
    simp only [cn]
    by_cases g : p n = true
    · rw [if_pos g, if_neg (by rw [g]; decide)]
      omega
    · rw [if_neg g, if_pos (by rw [Bool.not_eq_true] at g; rw [g]; rfl)]
      omega
theorem fc_ix {fn : Nat → Nat} {x y z : Nat} (hx : x < fn 0) (hy : y < fn 1) (hz : z < fn 2) : fcN fn ((x * fn 1 + y) * fn 2 + z) 0 = x + 1 ∧ fcN fn ((x * fn 1 + y) * fn 2 + z) 1 = y + 1 ∧ fcN fn ((x * fn 1 + y) * fn 2 + z) 2 = z + 1 := by
  obtain ⟨h1, h2, h3⟩ := lay_ix (x := x) hy hz
  refine ⟨?_, ?_, ?_⟩
  · show _ / fn 2 / fn 1 % fn 0 + 1 = x + 1
    rw [Nat.div_div_eq_div_mul, Nat.mul_comm (fn 2), h1, Nat.mod_eq_of_lt hx]
  · show _ / fn 2 % fn 1 + 1 = y + 1
    rw [h2]
  · show _ % fn 2 + 1 = z + 1
    rw [h3]
/-- a count of outcomes as a sum over faces -/
theorem cn_faces {fn : Nat → Nat} {N : Nat} (hN : N = fn 0 * fn 1 * fn 2) (p : Nat → Bool) (G : Nat → Nat → Nat → Nat) (hG : ∀ o x y z, fcN fn o 0 = x + 1 → fcN fn o 1 = y + 1 → fcN fn o 2 = z + 1 → (if p o then 1 else 0) = G x y z) : cn p N = smN (fun x => smN (fun y => smN (fun z => G x y z) (fn 2)) (fn 1)) (fn 0) := by
  rw [cn_sm, hN, smN_3]
  refine smN_congr (fun x hx => smN_congr (fun y hy => smN_congr (fun z hz => ?_)))
  obtain ⟨h0, h1, h2⟩ := fc_ix hx hy hz
  exact hG _ x y z h0 h1 h2
/-- over the faces of the first d dice: a weight of their sum -/
def TD (fn : Nat → Nat) : Nat → (Nat → Nat) → Nat
  | 0, g => g 0
  | d + 1, g => smN (fun i => TD fn d (fun v => g (v + (i + 1)))) (fn d)
theorem TD_add (fn : Nat → Nat) : ∀ (d : Nat) (g h : Nat → Nat), TD fn d (fun v => g v + h v) = TD fn d g + TD fn d h
  | 0, _, _ => rfl
  | d + 1, g, h => by
    simp only [TD]
    rw [← smN_add]
    exact smN_congr (fun i _ => TD_add fn d _ _)
theorem TD_z (fn : Nat → Nat) : ∀ d, TD fn d (fun _ => 0) = 0
  | 0 => rfl
  | d + 1 => by
    simp only [TD]
    rw [TD_z fn d]
    exact smN_z _
theorem TD_congr {fn : Nat → Nat} : ∀ {d : Nat} {g h : Nat → Nat}, (∀ j, j < d → fn j ≤ 12) → (∀ v, v ≤ 12 * d → g v = h v) → TD fn d g = TD fn d h
  | 0, _, _, _, hg => hg 0 (by omega)
  | d + 1, g, h, hf, hg => by
    simp only [TD]
    have b := hf d (by omega)
    exact smN_congr (fun i hi => TD_congr (fun j hj => hf j (by omega)) (fun v hv => hg _ (by omega)))
theorem sgU_sm (f : Nat → Nat) : ∀ n, sgU f n = smN (fun i => f (i + 1)) n
  | 0 => rfl
  | n + 1 => by simp only [sgU, smN]; rw [sgU_sm f n]
theorem ws9_TD (fn : Nat → Nat) : ∀ d v, ws9 fn d v = TD fn d (fun u => if u = v then 1 else 0)
  | 0, v => by
    show (if v = 0 then 1 else 0) = (if 0 = v then 1 else 0)
    by_cases h : v = 0
    · rw [if_pos h, if_pos h.symm]
    · rw [if_neg h, if_neg (fun z => h z.symm)]
  | d + 1, v => by
    simp only [ws9, TD]
    rw [sgU_sm]
    have e : fn d = min v (fn d) + (fn d - min v (fn d)) := by omega
    have h2 : smN (fun i => TD fn d (fun u => if u + (i + 1) = v then 1 else 0)) (fn d) = smN (fun i => TD fn d (fun u => if u + (i + 1) = v then 1 else 0)) (min v (fn d)) := by
      conv => lhs; rw [e]
      rw [smN_app]
      have : smN (fun i => TD fn d (fun u => if u + (min v (fn d) + i + 1) = v then 1 else 0)) (fn d - min v (fn d)) = 0 := by
        refine (smN_congr (fun i hi => ?_)).trans (smN_z (fn d - min v (fn d)))
        have z : (fun u => if u + (min v (fn d) + i + 1) = v then 1 else 0) = fun _ : Nat => 0 := by
          funext u
          exact if_neg (by omega)
        rw [z]
        exact TD_z fn d
      rw [this, Nat.add_zero]
    rw [h2]
    refine smN_congr (fun i hi => ?_)
    rw [ws9_TD fn d]
    congr 1
    funext u
    by_cases z : u = v - (i + 1)
    · rw [if_pos z, if_pos (by omega)]
    · rw [if_neg z, if_neg (by omega)]
theorem manyS_TD (fn : Nat → Nat) (dn k : Nat) (n : Int32) : ∀ V, manyS fn dn k n V = TD fn dn (fun u => if u < V ∧ selM k n u = true then 1 else 0)
  | 0 => by
    have z : (fun u => if u < 0 ∧ selM k n u = true then 1 else 0) = fun _ : Nat => 0 := funext fun u => if_neg (fun q => absurd q.1 (Nat.not_lt_zero _))
    rw [z, TD_z]
    rfl
  | V + 1 => by
    simp only [manyS]
    rw [manyS_TD fn dn k n V]
    by_cases h : selM k n V = true
    · rw [if_pos h, ws9_TD, ← TD_add]
      congr 1
      funext u
      by_cases z : u = V
      · subst z
        rw [if_neg (by omega), if_pos rfl, if_pos ⟨by omega, h⟩]
      · rw [if_neg z]
        by_cases w : u < V ∧ selM k n u = true
        · rw [if_pos w, if_pos ⟨by omega, w.2⟩]
        · rw [if_neg w, if_neg (fun q => w ⟨by omega, q.2⟩)]
    · rw [if_neg h, Nat.add_zero]
      congr 1
      funext u
      by_cases w : u < V ∧ selM k n u = true
      · rw [if_pos w, if_pos ⟨by omega, w.2⟩]
      · rw [if_neg w, if_neg (fun q => w ⟨by
          rcases Nat.lt_or_ge u V with a | a
          · exact a
          · have : u = V := by omega
            rw [this] at q
            exact absurd q.2 h, q.2⟩)]
theorem smN_eq1 (x : Nat) : ∀ s, smN (fun y => if y = x then 1 else 0) s = if x < s then 1 else 0
  | 0 => by rw [if_neg (by omega)]; rfl
  | s + 1 => by
    simp only [smN]
    rw [smN_eq1 x s]
    by_cases h : x < s
    · rw [if_pos h, if_neg (by omega), if_pos (by omega)]
    · by_cases h2 : s = x
      · rw [if_neg h, if_pos h2, if_pos (by omega)]
      · rw [if_neg h, if_neg h2, if_neg (by omega)]
theorem smN_lt1 (s : Nat) : ∀ a, smN (fun x => if x < s then 1 else 0) a = min a s
  | 0 => by simp [smN]
  | a + 1 => by
    simp only [smN]
    rw [smN_lt1 s a]
    split <;> omega
theorem smN_ne1 (q : Nat) : ∀ a, smN (fun x => if x + 1 = q then 0 else 1) a = if 1 ≤ q ∧ q ≤ a then a - 1 else a
  | 0 => by rw [if_neg (by omega)]; rfl
  | a + 1 => by
    simp only [smN]
    rw [smN_ne1 q a]
    by_cases h : 1 ≤ q ∧ q ≤ a
    · rw [if_pos h, if_neg (by omega), if_pos (by omega)]; omega
    · by_cases h2 : a + 1 = q
      · rw [if_neg h, if_pos h2, if_pos (by omega)]; omega
      · rw [if_neg h, if_neg h2, if_neg (by omega)]
