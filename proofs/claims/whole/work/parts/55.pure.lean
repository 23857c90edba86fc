/-! the class's count of ways is the reference's -/
theorem TD_1 (fn : Nat → Nat) (g : Nat → Nat) : TD fn 1 g = smN (fun x => g (x + 1)) (fn 0) := by
  simp only [TD]
  exact smN_congr (fun i _ => by rw [Nat.zero_add])
theorem TD_2 (fn : Nat → Nat) (g : Nat → Nat) : TD fn 2 g = smN (fun x => smN (fun y => g (x + 1 + (y + 1))) (fn 1)) (fn 0) := by
  show smN (fun j => TD fn 1 (fun v => g (v + (j + 1)))) (fn 1) = _
  rw [← smN_comm]
  exact smN_congr (fun j _ => TD_1 fn _)
theorem TD_3 (fn : Nat → Nat) (g : Nat → Nat) : TD fn 3 g = smN (fun x => smN (fun y => smN (fun z => g (x + 1 + (y + 1) + (z + 1))) (fn 2)) (fn 1)) (fn 0) := by
  show smN (fun k => TD fn 2 (fun v => g (v + (k + 1)))) (fn 2) = _
  have h : smN (fun x => smN (fun y => smN (fun z => g (x + 1 + (y + 1) + (z + 1))) (fn 2)) (fn 1)) (fn 0) = smN (fun x => smN (fun z => smN (fun y => g (x + 1 + (y + 1) + (z + 1))) (fn 1)) (fn 2)) (fn 0) := smN_congr (fun x _ => smN_comm _ _ _)
  rw [h, ← smN_comm]
  exact smN_congr (fun z _ => TD_2 fn _)
theorem dc_N {f1 f2 f3 dn N : Nat} {fn : Nat → Nat} (h : DC f1 f2 f3 fn dn N) : N = fn 0 * fn 1 * fn 2 := by
  obtain ⟨h1, h2, h3, h23, e0, e1, e2, ed, eN⟩ := h
  rw [eN, e0, e1, e2]
theorem dc_1 {f1 f2 f3 dn N : Nat} {fn : Nat → Nat} (h : DC f1 f2 f3 fn dn N) : (dn ≤ 1 → fn 1 = 1) ∧ (dn ≤ 2 → fn 2 = 1) ∧ 1 ≤ dn ∧ dn ≤ 3 := by
  have hc := dc_cases h
  obtain ⟨h1, h2, h3, h23, e0, e1, e2, ed, eN⟩ := h
  rcases hc with ⟨z2, z3, rfl⟩ | ⟨z2, z3, rfl⟩ | ⟨z2, z3, rfl⟩
  · exact ⟨fun _ => by rw [e1, z2]; rfl, fun _ => by rw [e2, z3]; rfl, by omega, by omega⟩
  · exact ⟨fun q => absurd q (by omega), fun _ => by rw [e2, z3]; rfl, by omega, by omega⟩
  · exact ⟨fun q => absurd q (by omega), fun q => absurd q (by omega), by omega, by omega⟩
theorem dn3 {dn : Nat} (h1 : 1 ≤ dn) (h3 : dn ≤ 3) : dn = 1 ∨ dn = 2 ∨ dn = 3 := by omega
theorem holds_sel {fn : Nat → Nat} {dn k o : Nat} {n : Int32} (hk : k < 3) : holdsM fn dn k n o = selM k n (smN (fcN fn o) dn) := by
  match k, hk with
  | 0, _ => rfl
  | 1, _ => rfl
  | 2, _ => rfl
theorem dc_c012 {f1 f2 f3 dn N : Nat} {fn : Nat → Nat} (h : DC f1 f2 f3 fn dn N) {k : Nat} (hk : k < 3) (n : Int32) : cn (holdsM fn dn k n) N = manyS fn dn k n 37 := by
  have hf := dc_fn h
  obtain ⟨d1, d2, d0, d3⟩ := dc_1 h
  rw [manyS_TD, TD_congr (h := fun u => if selM k n u = true then 1 else 0) (fun j hj => (hf j (by omega)).2) (fun v hv => by
    by_cases q : selM k n v = true
    · rw [if_pos q, if_pos ⟨by omega, q⟩]
    · rw [if_neg q, if_neg (fun w => q w.2)])]
  rcases dn3 d0 d3 with rfl | rfl | rfl
  · rw [TD_1, cn_faces (dc_N h) _ (fun x y z => if selM k n (x + 1) = true then 1 else 0) (fun o x y z h0 h1 h2 => by rw [holds_sel hk, smN1, h0])]
    rw [d1 (by omega), d2 (by omega)]
    exact smN_congr (fun x _ => by rw [smN1, smN1])
  · rw [TD_2, cn_faces (dc_N h) _ (fun x y z => if selM k n (x + 1 + (y + 1)) = true then 1 else 0) (fun o x y z h0 h1 h2 => by rw [holds_sel hk, smN2, h0, h1])]
    rw [d2 (by omega)]
    exact smN_congr (fun x _ => smN_congr (fun y _ => by rw [smN1]))
  · rw [TD_3, cn_faces (dc_N h) _ (fun x y z => if selM k n (x + 1 + (y + 1) + (z + 1)) = true then 1 else 0) (fun o x y z h0 h1 h2 => by rw [holds_sel hk, smN3, h0, h1, h2])]
theorem b01 {P : Prop} [Decidable P] {b : Bool} (h : b = true ↔ P) : (if b = true then 1 else 0) = if P then 1 else 0 := by
  by_cases q : P
  · rw [if_pos q, if_pos (h.mpr q)]
  · rw [if_neg q, if_neg (fun z => q (h.mp z))]
theorem mnF_s (fn : Nat → Nat) (i : Nat) : mnF fn (i + 1) = min (fn i) (mnF fn i) := by
  show (if fn i < mnF fn i then fn i else mnF fn i) = _
  by_cases h : fn i < mnF fn i
  · rw [if_pos h]; omega
  · rw [if_neg h]; omega
theorem mnF_0 (fn : Nat → Nat) : mnF fn 0 = 12 := rfl
theorem dc_c3 {f1 f2 f3 dn N : Nat} {fn : Nat → Nat} (h : DC f1 f2 f3 fn dn N) (n : Int32) : cn (holdsM fn dn 3 n) N = mnF fn dn := by
  have hf := dc_fn h
  have b0 := hf 0 (by omega)
  have b1 := hf 1 (by omega)
  have b2 := hf 2 (by omega)
  obtain ⟨d1, d2, d0, d3⟩ := dc_1 h
  rcases dn3 d0 d3 with rfl | rfl | rfl
  · rw [cn_faces (dc_N h) _ (fun x y z => 1) (fun o x y z h0 h1 h2 => by show (if k3M fn o 1 = true then 1 else 0) = 1; simp [k3M])]
    rw [d1 (by omega), d2 (by omega)]
    simp only [smN1, smN_c, mnF_s, mnF_0]
    omega
  · rw [cn_faces (dc_N h) _ (fun x y z => if y = x then 1 else 0) (fun o x y z h0 h1 h2 => b01 (by show k3M fn o 2 = true ↔ _; simp only [k3M, h0, h1]; simp))]
    rw [d2 (by omega)]
    simp only [smN1, smN_eq1, smN_lt1, mnF_s, mnF_0]
    omega
  · rw [cn_faces (dc_N h) _ (fun x y z => (if y = x then 1 else 0) * (if z = x then 1 else 0)) (fun o x y z h0 h1 h2 => by
      rw [b01 (P := y = x ∧ z = x) (by show k3M fn o 3 = true ↔ _; simp only [k3M, h0, h1, h2]; simp)]
      by_cases p : y = x
      · by_cases q : z = x
        · rw [if_pos p, if_pos q, if_pos ⟨p, q⟩]
        · rw [if_neg q, if_neg (fun w => q w.2), Nat.mul_zero]
      · rw [if_neg p, if_neg (fun w => p w.1), Nat.zero_mul])]
    have e : ∀ x, smN (fun y => smN (fun z => (if y = x then 1 else 0) * (if z = x then 1 else 0)) (fn 2)) (fn 1) = if x < min (fn 1) (fn 2) then 1 else 0 := by
      intro x
      have e1 : smN (fun y => smN (fun z => (if y = x then 1 else 0) * (if z = x then 1 else 0)) (fn 2)) (fn 1) = smN (fun y => (if y = x then 1 else 0) * (if x < fn 2 then 1 else 0)) (fn 1) := smN_congr (fun y _ => by rw [smN_mull, smN_eq1])
      rw [e1, smN_mulr, smN_eq1]
      by_cases p : x < fn 1
      · by_cases q : x < fn 2
        · rw [if_pos p, if_pos q, if_pos (show x < min (fn 1) (fn 2) by omega)]
        · rw [if_neg q, if_neg (show ¬ x < min (fn 1) (fn 2) by omega), Nat.mul_zero]
      · rw [if_neg p, if_neg (show ¬ x < min (fn 1) (fn 2) by omega), Nat.zero_mul]
    rw [smN_congr (fun x _ => e x), smN_lt1]
    simp only [mnF_s, mnF_0]
    omega
theorem in1 {q a : Nat} (hq : q ≤ 36) (ha : a ≤ 12) : (inM (nI q) 1 (nI a) = true) ↔ 1 ≤ q ∧ q ≤ a := by
  show decide (nI 1 ≤ nI q ∧ nI q ≤ nI a) = true ↔ _
  rw [decide_eq_true_iff, nI_leI (by omega) (by omega), nI_leI (by omega) (by omega)]
theorem wo_s {fn : Nat → Nat} {q d : Nat} (hq : q ≤ 36) (hd : fn d ≤ 12) : withoutM fn (nI q) (d + 1) = withoutM fn (nI q) d * smN (fun x => if x + 1 = q then 0 else 1) (fn d) := by
  rw [smN_ne1]
  simp only [withoutM]
  by_cases h : 1 ≤ q ∧ q ≤ fn d
  · rw [if_pos h, if_pos ((in1 hq hd).mpr h)]
  · rw [if_neg h, if_neg (fun z => h ((in1 hq hd).mp z))]
theorem dc_c4 {f1 f2 f3 dn N : Nat} {fn : Nat → Nat} (h : DC f1 f2 f3 fn dn N) {q : Nat} (hq : q ≤ 36) : cn (fun o => !(holdsM fn dn 4 (nI q) o)) N = withoutM fn (nI q) dn := by
  have hf := dc_fn h
  have b0 := hf 0 (by omega)
  have b1 := hf 1 (by omega)
  have b2 := hf 2 (by omega)
  obtain ⟨d1, d2, d0, d3⟩ := dc_1 h
  have ei : ∀ o d, d < 3 → (decide (nI (fcN fn o d) = nI q) = decide (fcN fn o d = q)) := fun o d hd => by
    have b := fcN_le hf o hd
    exact decide_eq_decide.mpr (nI_eq (by omega) (by omega))
  have e01 : ∀ (a : Nat), (if (!decide (a = q)) = true then 1 else 0) = if a = q then 0 else 1 := fun a => by
    by_cases z : a = q
    · rw [if_pos z, if_neg (by simp [z])]
    · rw [if_neg z, if_pos (by simp [z])]
  have em : ∀ a b : Bool, (if (!(a || b)) = true then 1 else 0) = (if (!a) = true then 1 else 0) * (if (!b) = true then 1 else 0) := by intro a b; cases a <;> cases b <;> rfl
  rcases dn3 d0 d3 with rfl | rfl | rfl
  · rw [cn_faces (dc_N h) _ (fun x y z => if x + 1 = q then 0 else 1) (fun o x y z h0 h1 h2 => by
      show (if (!(k4M fn (nI q) o 1)) = true then 1 else 0) = _
      simp only [k4M, Bool.false_or]
      rw [ei o 0 (by omega), h0, e01])]
    rw [d1 (by omega), d2 (by omega), wo_s hq b0.2]
    simp only [smN1]
    exact (Nat.one_mul _).symm
  · rw [cn_faces (dc_N h) _ (fun x y z => (if x + 1 = q then 0 else 1) * (if y + 1 = q then 0 else 1)) (fun o x y z h0 h1 h2 => by
      show (if (!(k4M fn (nI q) o 2)) = true then 1 else 0) = _
      simp only [k4M, Bool.false_or, em]
      rw [ei o 0 (by omega), ei o 1 (by omega), h0, h1, e01, e01])]
    rw [d2 (by omega), wo_s hq b1.2, wo_s hq b0.2]
    simp only [smN1]
    rw [show withoutM fn (nI q) 0 = 1 from rfl, Nat.one_mul, ← smN_mulr]
    exact smN_congr (fun x _ => smN_mull _ _ _)
  · rw [cn_faces (dc_N h) _ (fun x y z => (if x + 1 = q then 0 else 1) * (if y + 1 = q then 0 else 1) * (if z + 1 = q then 0 else 1)) (fun o x y z h0 h1 h2 => by
      show (if (!(k4M fn (nI q) o 3)) = true then 1 else 0) = _
      simp only [k4M, Bool.false_or, em]
      rw [ei o 0 (by omega), ei o 1 (by omega), ei o 2 (by omega), h0, h1, h2, e01, e01, e01])]
    rw [wo_s hq b2.2, wo_s hq b1.2, wo_s hq b0.2]
    rw [show withoutM fn (nI q) 0 = 1 from rfl, Nat.one_mul]
    have e : ∀ x, smN (fun y => smN (fun z => (if x + 1 = q then 0 else 1) * (if y + 1 = q then 0 else 1) * (if z + 1 = q then 0 else 1)) (fn 2)) (fn 1) = (if x + 1 = q then 0 else 1) * (smN (fun y => if y + 1 = q then 0 else 1) (fn 1) * smN (fun z => if z + 1 = q then 0 else 1) (fn 2)) := by
      intro x
      rw [← smN_mulr, ← smN_mull]
      exact smN_congr (fun y _ => by rw [smN_mull, Nat.mul_assoc])
    rw [smN_congr (fun x _ => e x), smN_mulr, Nat.mul_assoc]
theorem dc_many5 {f1 f2 f3 dn N : Nat} {fn : Nat → Nat} (h : DC f1 f2 f3 fn dn N) {k q : Nat} (hk : k < 5) (hq : q ≤ 36) : nI (cn (holdsM fn dn k (nI q)) N) = many5 fn dn N k (nI q) := by
  match k, hk with
  | 0, _ => exact congrArg nI (dc_c012 h (by omega) _)
  | 1, _ => exact congrArg nI (dc_c012 h (by omega) _)
  | 2, _ => exact congrArg nI (dc_c012 h (by omega) _)
  | 3, _ => exact congrArg nI (dc_c3 h _)
  | 4, _ =>
    have a := cn_not (holdsM fn dn 4 (nI q)) N
    rw [dc_c4 h hq] at a
    show _ = nI N - nI (withoutM fn (nI q) dn)
    rw [pk_sub (by omega)]
    exact congrArg nI (by omega)
theorem dc_many {f1 f2 f3 dn N : Nat} {fn : Nat → Nat} {su fa : Nat → Int32} (h : DC f1 f2 f3 fn dn N) (hl : laid f2 f3 su fa N) {k q : Nat} (hk : k < 10) (hq : q ≤ 36) : nI (cn (comesX su fa k (nI q)) N) = manyM fn dn N k (nI q) := by
  rw [cn_congr (fun o ho => dc_comes h hl ho hk hq)]
  unfold manyM
  by_cases z : k < 5
  · rw [if_pos z, ← dc_many5 h z hq]
    exact congrArg nI (cn_congr (fun o _ => if_pos z))
  · rw [if_neg z, ← dc_many5 h (by omega) hq]
    have e : cn (fun o => comesM fn dn k (nI q) o) N = cn (fun o => !(holdsM fn dn (k - 5) (nI q) o)) N := cn_congr (fun o _ => if_neg z)
    rw [e]
    have a := cn_not (holdsM fn dn (k - 5) (nI q)) N
    rw [pk_sub (by omega)]
    exact congrArg nI (by omega)
