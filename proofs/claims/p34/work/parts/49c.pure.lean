/-! what comes: the class's bits and the reference's faces say the same -/
/-- the dice: f1, and f2, f3 or none -/
def DC (f1 f2 f3 : Nat) (fn : Nat → Nat) (dn N : Nat) : Prop := (2 ≤ f1 ∧ f1 ≤ 12) ∧ f2 ≤ 12 ∧ f3 ≤ 12 ∧ (f2 = 0 → f3 = 0) ∧ fn 0 = f1 ∧ fn 1 = exN f2 ∧ fn 2 = exN f3 ∧ dn = 1 + (if f2 = 0 then 0 else 1) + (if f3 = 0 then 0 else 1) ∧ N = f1 * exN f2 * exN f3
theorem exN_pos (b : Nat) : 0 < exN b := by unfold exN; split <;> omega
theorem smN1 (f : Nat → Nat) : smN f 1 = f 0 := by simp [smN]
theorem smN2 (f : Nat → Nat) : smN f 2 = f 0 + f 1 := by simp [smN]
theorem smN3 (f : Nat → Nat) : smN f 3 = f 0 + f 1 + f 2 := by simp [smN]
/-- the three faces of an outcome -/
theorem dc_faces {f1 f2 f3 dn N o : Nat} {fn : Nat → Nat} (h : DC f1 f2 f3 fn dn N) (ho : o < N) : o / (exN f2 * exN f3) + 1 = fcN fn o 0 ∧ lbN f2 + o / exN f3 % exN f2 = (if f2 = 0 then 0 else fcN fn o 1) ∧ lbN f3 + o % exN f3 = (if f3 = 0 then 0 else fcN fn o 2) := by
  obtain ⟨h1, h2, h3, h23, e0, e1, e2, ed, eN⟩ := h
  have hs := exN_pos f2
  have ht := exN_pos f3
  refine ⟨?_, ?_, ?_⟩
  · show _ = o / fn 2 / fn 1 % fn 0 + 1
    rw [e0, e1, e2, Nat.div_div_eq_div_mul, Nat.mul_comm (exN f3)]
    rw [Nat.mod_eq_of_lt]
    exact (Nat.div_lt_iff_lt_mul (Nat.mul_pos hs ht)).mpr (by rw [eN, Nat.mul_assoc] at ho; exact ho)
  · show _ = (if f2 = 0 then 0 else o / fn 2 % fn 1 + 1)
    rw [e1, e2]
    by_cases z : f2 = 0
    · rw [if_pos z, z]
      simp [lbN, exN, Nat.mod_one]
    · rw [if_neg z]
      simp only [lbN, if_neg z]
      omega
  · show _ = (if f3 = 0 then 0 else o % fn 2 + 1)
    rw [e2]
    by_cases z : f3 = 0
    · rw [if_pos z, z]
      simp [lbN, exN, Nat.mod_one]
    · rw [if_neg z]
      simp only [lbN, if_neg z]
      omega
theorem dc_cases {f1 f2 f3 dn N : Nat} {fn : Nat → Nat} (h : DC f1 f2 f3 fn dn N) : (f2 = 0 ∧ f3 = 0 ∧ dn = 1) ∨ (f2 ≠ 0 ∧ f3 = 0 ∧ dn = 2) ∨ (f2 ≠ 0 ∧ f3 ≠ 0 ∧ dn = 3) := by
  obtain ⟨h1, h2, h3, h23, e0, e1, e2, ed, eN⟩ := h
  by_cases z2 : f2 = 0
  · rw [if_pos z2, if_pos (h23 z2)] at ed
    exact Or.inl ⟨z2, h23 z2, ed⟩
  · by_cases z3 : f3 = 0
    · rw [if_neg z2, if_pos z3] at ed
      exact Or.inr (Or.inl ⟨z2, z3, ed⟩)
    · rw [if_neg z2, if_neg z3] at ed
      exact Or.inr (Or.inr ⟨z2, z3, ed⟩)
theorem dc_fn {f1 f2 f3 dn N : Nat} {fn : Nat → Nat} (h : DC f1 f2 f3 fn dn N) : ∀ j, j < 3 → 1 ≤ fn j ∧ fn j ≤ 12 := by
  obtain ⟨h1, h2, h3, h23, e0, e1, e2, ed, eN⟩ := h
  have hs := exN_pos f2
  have ht := exN_pos f3
  have hs2 := ex_le h2
  have ht2 := ex_le h3
  intro j hj
  match j, hj with
  | 0, _ => omega
  | 1, _ => omega
  | 2, _ => omega
theorem dc_sum {f1 f2 f3 dn N o : Nat} {fn : Nat → Nat} (h : DC f1 f2 f3 fn dn N) (ho : o < N) : suF f2 f3 o = nI (smN (fcN fn o) dn) ∧ smN (fcN fn o) dn ≤ 36 := by
  obtain ⟨a1, a2, a3⟩ := dc_faces h ho
  have b0 := fcN_le (dc_fn h) o (d := 0) (by omega)
  have b1 := fcN_le (dc_fn h) o (d := 1) (by omega)
  have b2 := fcN_le (dc_fn h) o (d := 2) (by omega)
  unfold suF
  rw [a1, a2, a3]
  rcases dc_cases h with ⟨z2, z3, rfl⟩ | ⟨z2, z3, rfl⟩ | ⟨z2, z3, rfl⟩
  · rw [if_pos z2, if_pos z3, smN1]
    exact ⟨rfl, by omega⟩
  · rw [if_neg z2, if_pos z3, smN2]
    exact ⟨rfl, by omega⟩
  · rw [if_neg z2, if_neg z3, smN3]
    exact ⟨rfl, by omega⟩
theorem dc_holds {f1 f2 f3 dn N o : Nat} {fn : Nat → Nat} {su fa : Nat → Int32} (h : DC f1 f2 f3 fn dn N) (hl : laid f2 f3 su fa N) (ho : o < N) {k q : Nat} (hk : k < 5) (hq : q ≤ 36) : holdsX su fa k (nI q) o = holdsM fn dn k (nI q) o := by
  obtain ⟨l1, l2⟩ := hl o ho
  obtain ⟨s1, s2⟩ := dc_sum h ho
  obtain ⟨a1, a2, a3⟩ := dc_faces h ho
  have b0 := fcN_le (dc_fn h) o (d := 0) (by omega)
  have b1 := fcN_le (dc_fn h) o (d := 1) (by omega)
  have b2 := fcN_le (dc_fn h) o (d := 2) (by omega)
  have hx : (if f2 = 0 then 0 else fcN fn o 1) < 13 := by split <;> omega
  have hy : (if f3 = 0 then 0 else fcN fn o 2) < 13 := by split <;> omega
  match k, hk with
  | 0, _ =>
    show decide (su o = nI q) = decide (nI (smN (fcN fn o) dn) = nI q)
    rw [l1, s1]
  | 1, _ =>
    show decide (nI q ≤ su o) = decide (nI q ≤ nI (smN (fcN fn o) dn))
    rw [l1, s1]
  | 2, _ =>
    show decide (su o - su o / 2 * 2 = 1) = decide (smN (fcN fn o) dn % 2 = 1)
    rw [l1, s1]
    exact pb1 _ (by omega)
  | 3, _ =>
    show decide (bcX (fa o) = 1) = k3M fn o dn
    rw [l2, faF, a1, a2, a3, pb3 _ (by omega) _ hx _ hy b0.1]
    rcases dc_cases h with ⟨z2, z3, rfl⟩ | ⟨z2, z3, rfl⟩ | ⟨z2, z3, rfl⟩
    · rw [if_pos z2, if_pos z3]
      simp [k3M]
    · rw [if_neg z2, if_pos z3]
      simp only [k3M]
      have : ¬ fcN fn o 1 = 0 := by omega
      simp [this]
    · rw [if_neg z2, if_neg z3]
      simp only [k3M]
      have e1 : ¬ fcN fn o 1 = 0 := by omega
      have e2 : ¬ fcN fn o 2 = 0 := by omega
      simp [e1, e2]
  | 4, _ =>
    show decide (¬ (fa o &&& bitX (nI q)) = 0) = k4M fn (nI q) o dn
    have ei : ∀ d, d < 3 → (nI (fcN fn o d) = nI q ↔ fcN fn o d = q) := fun d hd => by
      have b := fcN_le (dc_fn h) o hd
      exact nI_eq (by omega) (by omega)
    have key : ∀ x y z : Nat, x < 13 → y < 13 → z < 13 → (¬ ((bitX (nI x) ||| bitX (nI y) ||| bitX (nI z)) &&& bitX (nI q)) = 0 ↔ (x = q ∧ 1 ≤ x) ∨ (y = q ∧ 1 ≤ y) ∨ (z = q ∧ 1 ≤ z)) := by
      intro x y z hx hy hz
      have p0 := decide_eq_decide.mp (pb4 x hx q (by omega))
      have p1 := decide_eq_decide.mp (pb4 y hy q (by omega))
      have p2 := decide_eq_decide.mp (pb4 z hz q (by omega))
      rw [i32_andor, i32_andor, i32_or0, i32_or0, p0, p1, p2]
      omega
    rw [Bool.eq_iff_iff, decide_eq_true_iff, l2, faF]
    rcases dc_cases h with ⟨z2, z3, rfl⟩ | ⟨z2, z3, rfl⟩ | ⟨z2, z3, rfl⟩
    · rw [if_pos z2] at a2
      rw [if_pos z3] at a3
      rw [a1, a2, a3, key _ _ _ (by omega) (by omega) (by omega)]
      simp only [k4M, Bool.false_or, decide_eq_true_iff, ei 0 (by omega)]
      omega
    · rw [if_neg z2] at a2
      rw [if_pos z3] at a3
      rw [a1, a2, a3, key _ _ _ (by omega) (by omega) (by omega)]
      simp only [k4M, Bool.false_or, Bool.or_eq_true, decide_eq_true_iff, ei 0 (by omega), ei 1 (by omega)]
      omega
    · rw [if_neg z2] at a2
      rw [if_neg z3] at a3
      rw [a1, a2, a3, key _ _ _ (by omega) (by omega) (by omega)]
      simp only [k4M, Bool.false_or, Bool.or_eq_true, decide_eq_true_iff, ei 0 (by omega), ei 1 (by omega), ei 2 (by omega)]
      omega
theorem dc_comes {f1 f2 f3 dn N o : Nat} {fn : Nat → Nat} {su fa : Nat → Int32} (h : DC f1 f2 f3 fn dn N) (hl : laid f2 f3 su fa N) (ho : o < N) {k q : Nat} (hk : k < 10) (hq : q ≤ 36) : comesX su fa k (nI q) o = comesM fn dn k (nI q) o := by
  unfold comesX comesM
  by_cases z : k < 5
  · rw [if_pos z, if_pos z, dc_holds h hl ho z hq]
  · rw [if_neg z, if_neg z, dc_holds h hl ho (by omega) hq]
