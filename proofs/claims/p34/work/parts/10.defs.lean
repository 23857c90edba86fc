/-! numbers (the family fa_lt .. fa_trans is pasted from kit/laws/NUMBERS.to-paste.lean.txt) -/
theorem fa_lt (a b : Int32) : a < b ↔ a.toInt < b.toInt := Int32.lt_iff_toInt_lt
theorem fa_le (a b : Int32) : a ≤ b ↔ a.toInt ≤ b.toInt := Int32.le_iff_toInt_le
theorem fa_eq (a b : Int32) : a = b ↔ a.toInt = b.toInt := Int32.toInt_inj.symm
theorem fa_lt64 (a b : Int64) : a < b ↔ a.toInt < b.toInt := Int64.lt_iff_toInt_lt
theorem fa_le64 (a b : Int64) : a ≤ b ↔ a.toInt ≤ b.toInt := Int64.le_iff_toInt_le
theorem fa_eq64 (a b : Int64) : a = b ↔ a.toInt = b.toInt := Int64.toInt_inj.symm
/-- a comparison of two ints taken as longs -/
theorem fa_wide_lt (a b : Int32) : a.toInt64 < b.toInt64 ↔ a < b := by rw [fa_lt64, fa_lt, Int32.toInt_toInt64, Int32.toInt_toInt64]
theorem fa_wide_le (a b : Int32) : a.toInt64 ≤ b.toInt64 ↔ a ≤ b := by rw [fa_le64, fa_le, Int32.toInt_toInt64, Int32.toInt_toInt64]
theorem fa_wide_eq (a b : Int32) : a.toInt64 = b.toInt64 ↔ a = b := by rw [fa_eq64, fa_eq, Int32.toInt_toInt64, Int32.toInt_toInt64]
/-- one strict comparison gives all the others -/
theorem fa_of_lt {a b : Int32} (h : a < b) : a ≤ b ∧ ¬ b ≤ a ∧ ¬ b < a ∧ a ≠ b ∧ b ≠ a := by
  rw [fa_lt] at h
  refine ⟨?_, ?_, ?_, ?_, ?_⟩
  · rw [fa_le]; omega
  · rw [fa_le]; omega
  · rw [fa_lt]; omega
  · intro e; rw [fa_eq] at e; omega
  · intro e; rw [fa_eq] at e; omega
theorem fa_of_nlt {a b : Int32} (h : ¬ a < b) : b ≤ a := by
  rw [fa_lt] at h
  rw [fa_le]
  omega
theorem fa_of_nle {a b : Int32} (h : ¬ a ≤ b) : b < a := by
  rw [fa_le] at h
  rw [fa_lt]
  omega
theorem fa_le_ne {a b : Int32} (h : a ≤ b) (h2 : a ≠ b) : a < b := by
  rw [fa_le] at h
  rw [fa_lt]
  have h3 : a.toInt ≠ b.toInt := fun e => h2 ((fa_eq a b).mpr e)
  omega
theorem fa_three (a b : Int32) : a < b ∨ a = b ∨ b < a := by
  rw [fa_lt, fa_lt, fa_eq]
  omega
theorem fa_trans {a b c : Int32} (h : a < b) (h2 : b ≤ c) : a < c := by
  rw [fa_lt] at *
  rw [fa_le] at h2
  omega
/-! ===== small literals as numbers ===== -/
theorem il0 : (0 : Int32).toInt = 0 := by decide
theorem il1 : (1 : Int32).toInt = 1 := by decide
theorem il2 : (2 : Int32).toInt = 2 := by decide
theorem il3 : (3 : Int32).toInt = 3 := by decide
theorem il4 : (4 : Int32).toInt = 4 := by decide
theorem il5 : (5 : Int32).toInt = 5 := by decide
theorem il6 : (6 : Int32).toInt = 6 := by decide
theorem il7 : (7 : Int32).toInt = 7 := by decide
theorem il9 : (9 : Int32).toInt = 9 := by decide
theorem il10 : (10 : Int32).toInt = 10 := by decide
theorem il12 : (12 : Int32).toInt = 12 := by decide
theorem il20 : (20 : Int32).toInt = 20 := by decide
theorem il36 : (36 : Int32).toInt = 36 := by decide
theorem il100 : (100 : Int32).toInt = 100 := by decide
theorem il999 : (999 : Int32).toInt = 999 := by decide
theorem il1728 : (1728 : Int32).toInt = 1728 := by decide
/-! what the class computes, in words of its own arrays; what its cells are -/
abbrev RdW (p : Program) (l : Launch) (e : Env) (d : Nat) (s : State) (m : MethodId) (As : List Value) (below : List Frame) (meth : Method) (c : Code) (H : Heap) (ov : Option Value) (g : JFrame) : Prop :=
  W p l e (rmL d 0 0) s m As.toArray below meth c H [] 0 0 (MQ below (fun _ st oc t => oc = .returned ov ∧ t.heap = st.heap) As.toArray s 0 0 (fun _ => False)) g
/-- the array classes: int[], boolean[], Object[], int[][] -/
abbrev Ty (cs : Nat → ClassId) : List (ClassId × FieldType) := [(cs 0, .int), (cs 1, .boolean), (cs 2, .object "java/lang/Object"), (cs 3, .array .int)]
def b2i (b : Bool) : Int32 := if b then 1 else 0
theorem b2i_t {b : Bool} (h : b = true) : b2i b = 1 := by rw [h]; rfl
theorem b2i_f {b : Bool} (h : b = false) : b2i b = 0 := by rw [h]; rfl
theorem b2i_z (b : Bool) : narrow .boolean (.int (b2i b)) = .int (b2i b) := by cases b <;> decide
theorem b2i_eq0 (b : Bool) : b2i b = 0 ↔ b = false := by cases b <;> decide
theorem b2i_ne0 (b : Bool) : ¬ b2i b = 0 ↔ b = true := by cases b <;> decide
theorem rv {a b : Int32} (h : a = b) : (some (Value.int b) : Option Value) = some (Value.int a) := by rw [h]
theorem rb1 {b : Bool} (h : b = true) : (some (Value.int (b2i b)) : Option Value) = some (Value.int 1) := by rw [h]; rfl
theorem rb0 {b : Bool} (h : b = false) : (some (Value.int (b2i b)) : Option Value) = some (Value.int 0) := by rw [h]; rfl
theorem nIi {a b : Nat} (ha : a < 2 ^ 31) (hb : b < 2 ^ 31) : (nI a < nI b ↔ a < b) ∧ (nI a ≤ nI b ↔ a ≤ b) ∧ (nI a = nI b ↔ a = b) := ⟨nI_ltI ha hb, nI_leI ha hb, nI_eq ha hb⟩
/-- how many of the first n -/
def cn (p : Nat → Bool) : Nat → Nat
  | 0 => 0
  | n + 1 => cn p n + (if p n then 1 else 0)
theorem cn_t {p : Nat → Bool} {n : Nat} (h : p n = true) : cn p (n + 1) = cn p n + 1 := by simp [cn, h]
theorem cn_f {p : Nat → Bool} {n : Nat} (h : p n = false) : cn p (n + 1) = cn p n := by simp [cn, h]
theorem cn_le (p : Nat → Bool) : ∀ n, cn p n ≤ n
  | 0 => Nat.le_refl 0
  | n + 1 => by
    have h := cn_le p n
    simp only [cn]
    split <;> omega
def bitX (f : Int32) : Int32 := if f < 1 ∨ 12 < f then 0 else 1 <<< (f &&& 31)
def bc1 (x : Int32) : Int32 := x - ((x.toUInt32 >>> ((1 : Int32).toUInt32 &&& Int32.toUInt32 31)).toInt32 &&& 1431655765)
def bc2 (x : Int32) : Int32 := (x &&& 858993459) + ((x.toUInt32 >>> ((2 : Int32).toUInt32 &&& Int32.toUInt32 31)).toInt32 &&& 858993459)
def bc3 (x : Int32) : Int32 := (x + (x.toUInt32 >>> ((4 : Int32).toUInt32 &&& Int32.toUInt32 31)).toInt32) &&& 252645135
def bc4 (x : Int32) : Int32 := x + (x.toUInt32 >>> ((8 : Int32).toUInt32 &&& Int32.toUInt32 31)).toInt32
def bc5 (x : Int32) : Int32 := x + (x.toUInt32 >>> ((16 : Int32).toUInt32 &&& Int32.toUInt32 31)).toInt32
def bcX (x : Int32) : Int32 := bc5 (bc4 (bc3 (bc2 (bc1 x)))) &&& 63
def holdsX (su fa : Nat → Int32) (k : Nat) (n : Int32) (o : Nat) : Bool := match k with
  | 0 => decide (su o = n)
  | 1 => decide (n ≤ su o)
  | 2 => decide (su o - su o / 2 * 2 = 1)
  | 3 => decide (bcX (fa o) = 1)
  | 4 => decide (¬ (fa o &&& bitX n) = 0)
  | _ => false
def comesX (su fa : Nat → Int32) (k : Nat) (n : Int32) (o : Nat) : Bool := if k < 5 then holdsX su fa k n o else !(holdsX su fa (k - 5) n o)
theorem comesX_lt {su fa : Nat → Int32} {k : Nat} {n : Int32} {o : Nat} (h : k < 5) : comesX su fa k n o = holdsX su fa k n o := if_pos h
theorem comesX_ge {su fa : Nat → Int32} {k : Nat} {n : Int32} {o : Nat} (h : ¬ k < 5) : comesX su fa k n o = !(holdsX su fa (k - 5) n o) := if_neg h
abbrev wD (cs : Nat → ClassId) (aD aS aF : Nat) (cnt : Int32) (N : Nat) (su fa : Nat → Int32) : va_W := [(aD, .inr (1, [.ref aS, .ref aF, .int cnt, .int (nI N)])), (aS, .inl (cs 0, 1728, .inl su)), (aF, .inl (cs 0, 1728, .inl fa))]
