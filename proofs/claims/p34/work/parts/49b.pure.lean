/-! bits of faces, by trial -/
theorem pb3 : ∀ x, x < 13 → ∀ y, y < 13 → ∀ z, z < 13 → 1 ≤ x → decide (bcX (bitX (nI x) ||| bitX (nI y) ||| bitX (nI z)) = 1) = decide ((y = 0 ∨ y = x) ∧ (z = 0 ∨ z = x)) := by decide +kernel
theorem pb1 : ∀ v, v < 37 → decide (nI v - nI v / 2 * 2 = 1) = decide (v % 2 = 1) := by decide +kernel
theorem pb4 : ∀ x, x < 13 → ∀ q, q < 37 → decide (bitX (nI x) &&& bitX (nI q) = 0) = decide (¬ (x = q ∧ 1 ≤ x)) := by decide +kernel
theorem i32_or0 (a b : Int32) : a ||| b = 0 ↔ a = 0 ∧ b = 0 := by
  constructor
  · intro h
    have h2 : a.toBitVec ||| b.toBitVec = 0 := congrArg Int32.toBitVec h
    refine ⟨?_, ?_⟩
    · apply Int32.toBitVec_inj.mp
      apply BitVec.eq_of_getElem_eq
      intro i hi
      have := congrArg (fun v : BitVec 32 => v[i]) h2
      simp at this
      simpa using this.1
    · apply Int32.toBitVec_inj.mp
      apply BitVec.eq_of_getElem_eq
      intro i hi
      have := congrArg (fun v : BitVec 32 => v[i]) h2
      simp at this
      simpa using this.2
  · rintro ⟨rfl, rfl⟩
    rfl
theorem i32_andor (a b d : Int32) : (a ||| b) &&& d = (a &&& d) ||| (b &&& d) := by
  apply Int32.toBitVec_inj.mp
  apply BitVec.eq_of_getElem_eq
  intro i hi
  simp
  cases a.toBitVec[i] <;> cases b.toBitVec[i] <;> cases d.toBitVec[i] <;> rfl
