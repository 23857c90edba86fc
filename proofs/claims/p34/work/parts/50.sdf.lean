/-! the ledger by hand: its cells, what its methods answer -/
abbrev wS (cs : Nat → ClassId) (sa : Nat → Nat) (bank rnds : Int32) (dn N n : Nat) (df pu : Nat → Int32) (rs rw : Nat → Option Nat) : va_W :=
  [(sa 0, .inr (4, [.ref (sa 1), .ref (sa 2), .ref (sa 3), .int bank, .int rnds, .ref (sa 4)])), (sa 1, .inl (cs 0, dn, .inl df)), (sa 2, .inl (cs 3, N, .inr (.inr (.inr (.inr rs))))), (sa 3, .inl (cs 0, 6, .inl pu)), (sa 4, .inl (cs 3, n, .inr (.inr (.inr (.inr rw)))))]
abbrev wR (cs : Nat → ClassId) (sr : Nat → Nat) (dn : Nat) (sf : Nat → Nat → Int32) (o : Nat) : Nat × va_E := (sr o, .inl (cs 0, dn, .inl (sf o)))
abbrev wV (cs : Nat → ClassId) (wr : Nat → Nat) (wg : Nat → Nat → Int32) (i : Nat) : Nat × va_E := (wr i, .inl (cs 0, 5, .inl (wg i)))
/-- the numbers of both: the faces of an outcome, the wagers -/
def SF (fn : Nat → Nat) (dn N n : Nat) (sf wg wf : Nat → Nat → Int32) (kd : Nat → Nat) : Prop :=
  (∀ o, o < N → ∀ j, j < dn → sf o j = nI (fcN fn o j)) ∧ (∀ i, i < n → (∀ j, j < 5 → wg i j = wf i j) ∧ wf i 1 = nI (kd i) ∧ kd i < 10) ∧ 1 ≤ dn ∧ dn ≤ 3 ∧ (∀ j, j < 3 → 1 ≤ fn j ∧ fn j ≤ 12) ∧ 1 ≤ N ∧ N ≤ 1728 ∧ n ≤ 12
/-- its cells in the heap H, for reading -/
def RS (D : va_G) (cs : Nat → ClassId) (H : Heap) (sa : Nat → Nat) (bank rnds : Int32) (fn : Nat → Nat) (dn N n : Nat) (df pu : Nat → Int32) (rs rw : Nat → Option Nat) (sr wr : Nat → Nat) (sf wg wf : Nat → Nat → Int32) (kd : Nat → Nat) : Prop :=
  va_P D vwCl (wS cs sa bank rnds dn N n df pu rs rw) H ∧ (∀ o, o < N → va_P D vwCl [wR cs sr dn sf o] H ∧ rs o = some (sr o)) ∧ (∀ i, i < n → va_P D vwCl [wV cs wr wg i] H ∧ rw i = some (wr i)) ∧ SF fn dn N n sf wg wf kd
/-- the same of a world's tail -/
def ST9 (cs : Nat → ClassId) (dn N n : Nat) (rs rw : Nat → Option Nat) (sr wr : Nat → Nat) (sf wg : Nat → Nat → Int32) (tl : va_W) : Prop :=
  (∀ o, o < N → wR cs sr dn sf o ∈ tl ∧ rs o = some (sr o)) ∧ (∀ i, i < n → wV cs wr wg i ∈ tl ∧ rw i = some (wr i))
theorem rs_of {D : va_G} {cs : Nat → ClassId} {H : Heap} {sa : Nat → Nat} {bank rnds : Int32} {fn : Nat → Nat} {dn N n : Nat} {df pu : Nat → Int32} {rs rw : Nat → Option Nat} {sr wr : Nat → Nat} {sf wg wf : Nat → Nat → Int32} {kd : Nat → Nat} {tl ws : va_W} (hP : va_P D vwCl ws H) (hm : ∀ q ∈ wS cs sa bank rnds dn N n df pu rs rw ++ tl, q ∈ ws) (hT9 : ST9 cs dn N n rs rw sr wr sf wg tl) (hF : SF fn dn N n sf wg wf kd) : RS D cs H sa bank rnds fn dn N n df pu rs rw sr wr sf wg wf kd :=
  ⟨vaP_mem hP (fun q hq => hm q (List.mem_append_left _ hq)), fun o ho => ⟨vaP_mem hP (fun q hq => by rw [List.mem_singleton.mp hq]; exact hm _ (List.mem_append_right _ (hT9.1 o ho).1)), (hT9.1 o ho).2⟩, fun i hi => ⟨vaP_mem hP (fun q hq => by rw [List.mem_singleton.mp hq]; exact hm _ (List.mem_append_right _ (hT9.2 i hi).1)), (hT9.2 i hi).2⟩, hF⟩
/-- how many of the first dice show n -/
def c4N (fn : Nat → Nat) (n : Int32) (o : Nat) : Nat → Nat
  | 0 => 0
  | i + 1 => c4N fn n o i + (if nI (fcN fn o i) = n then 1 else 0)
theorem c4N_le (fn : Nat → Nat) (n : Int32) (o : Nat) : ∀ i, c4N fn n o i ≤ i
  | 0 => Nat.le_refl 0
  | i + 1 => by
    have h := c4N_le fn n o i
    simp only [c4N]
    split <;> omega
theorem c4N_k (fn : Nat → Nat) (n : Int32) (o : Nat) : ∀ i, 0 < c4N fn n o i ↔ k4M fn n o i = true
  | 0 => by simp [c4N, k4M]
  | i + 1 => by
    have h := c4N_k fn n o i
    simp only [c4N, k4M, Bool.or_eq_true, decide_eq_true_iff]
    by_cases q : nI (fcN fn o i) = n
    · rw [if_pos q]
      exact ⟨fun _ => Or.inr q, fun _ => by omega⟩
    · rw [if_neg q, Nat.add_zero, h]
      exact ⟨fun z => Or.inl z, fun z => z.elim id (fun z => absurd z q)⟩
theorem b2i_and (a b : Bool) : b2i a &&& b2i b = b2i (a && b) := by cases a <;> cases b <;> decide
theorem b2i_or (a b : Bool) : b2i a ||| b2i b = b2i (a || b) := by cases a <;> cases b <;> decide
theorem cm_lt {fn : Nat → Nat} {dn k o : Nat} {q : Int32} (h : k ≤ 4) : comesM fn dn k q o = holdsM fn dn (k % 5) q o := by
  unfold comesM
  rw [if_pos (show k < 5 by omega), Nat.mod_eq_of_lt (by omega)]
theorem cm_ge {fn : Nat → Nat} {dn k o : Nat} {q : Int32} (h : ¬ k ≤ 4) (h2 : k < 10) : comesM fn dn k q o = !(holdsM fn dn (k % 5) q o) := by
  unfold comesM
  rw [if_neg (show ¬ k < 5 by omega), show k % 5 = k - 5 by omega]
theorem hm0 {fn : Nat → Nat} {dn k o : Nat} {q : Int32} (h : k = 0) : holdsM fn dn k q o = decide (nI (smN (fcN fn o) dn) = q) := by subst h; rfl
theorem hm1 {fn : Nat → Nat} {dn k o : Nat} {q : Int32} (h : k = 1) : holdsM fn dn k q o = decide (q ≤ nI (smN (fcN fn o) dn)) := by subst h; rfl
theorem hm2 {fn : Nat → Nat} {dn k o : Nat} {q : Int32} (h : k = 2) : holdsM fn dn k q o = decide (smN (fcN fn o) dn % 2 = 1) := by subst h; rfl
theorem hm3 {fn : Nat → Nat} {dn k o : Nat} {q : Int32} (h : k = 3) : holdsM fn dn k q o = k3M fn o dn := by subst h; rfl
theorem hm4 {fn : Nat → Nat} {dn k o : Nat} {q : Int32} (h : k = 4) : holdsM fn dn k q o = k4M fn q o dn := by subst h; rfl
theorem nI_odd {a : Nat} (h : a < 2 ^ 31) : nI a &&& 1 = nI (a % 2) := pk_andN (by omega) 1 (by decide)
/-- what the house gains by a wager, a purse behind a throw, in words of the faces -/
def gnS (fn : Nat → Nat) (dn : Nat) (wf : Nat → Nat → Int32) (kd : Nat → Nat) (o i : Nat) : Int32 := if comesM fn dn (kd i) (wf i 2) o = true then -(wf i 4) else wf i 3
def behS (fn : Nat → Nat) (dn : Nat) (pu : Nat → Int32) (wf : Nat → Nat → Int32) (kd : Nat → Nat) (p : Int32) (pi o : Nat) : Nat → Int32
  | 0 => pu pi
  | i + 1 => behS fn dn pu wf kd p pi o i + (if wf i 0 = p ∧ comesM fn dn (kd i) (wf i 2) o = true then wf i 3 + wf i 4 else 0)
theorem behS_t {fn : Nat → Nat} {dn : Nat} {pu : Nat → Int32} {wf : Nat → Nat → Int32} {kd : Nat → Nat} {p : Int32} {pi o i : Nat} (h1 : wf i 0 = p) (h2 : comesM fn dn (kd i) (wf i 2) o = true) : behS fn dn pu wf kd p pi o i + (wf i 3 + wf i 4) = behS fn dn pu wf kd p pi o (i + 1) := by
  simp only [behS]
  rw [if_pos ⟨h1, h2⟩]
theorem behS_f {fn : Nat → Nat} {dn : Nat} {pu : Nat → Int32} {wf : Nat → Nat → Int32} {kd : Nat → Nat} {p : Int32} {pi o i : Nat} (h : ¬ (wf i 0 = p ∧ comesM fn dn (kd i) (wf i 2) o = true)) : behS fn dn pu wf kd p pi o i + 0 = behS fn dn pu wf kd p pi o (i + 1) := by
  simp only [behS]
  rw [if_neg h]
theorem behS_pu {fn : Nat → Nat} {dn : Nat} {pu pu' : Nat → Int32} {wf : Nat → Nat → Int32} {kd : Nat → Nat} {p : Int32} {pi o : Nat} (h : pu' pi = pu pi) : ∀ n, behS fn dn pu' wf kd p pi o n = behS fn dn pu wf kd p pi o n
  | 0 => h
  | n + 1 => by
    simp only [behS]
    rw [behS_pu (fn := fn) (dn := dn) (wf := wf) (kd := kd) (p := p) (o := o) h n]
theorem gn_row {fn : Nat → Nat} {dn N n : Nat} {sf wg wf : Nat → Nat → Int32} {kd : Nat → Nat} (hF : SF fn dn N n sf wg wf kd) {i : Nat} (hi : i < n) (o : Nat) : (if comesM fn dn (kd i) (wg i 2) o = true then -(wg i 4) else wg i 3) = gnS fn dn wf kd o i := by
  obtain ⟨h, -⟩ := hF.2.1 i hi
  unfold gnS
  rw [h 2 (by omega), h 3 (by omega), h 4 (by omega)]
theorem SF.k1 {fn : Nat → Nat} {dn N n : Nat} {sf wg wf : Nat → Nat → Int32} {kd : Nat → Nat} (hF : SF fn dn N n sf wg wf kd) {i : Nat} (hi : i < n) : wg i 1 = nI (kd i) := ((hF.2.1 i hi).1 1 (by omega)).trans (hF.2.1 i hi).2.1
theorem SF.w {fn : Nat → Nat} {dn N n : Nat} {sf wg wf : Nat → Nat → Int32} {kd : Nat → Nat} (hF : SF fn dn N n sf wg wf kd) {i : Nat} (hi : i < n) {j : Nat} (hj : j < 5) : wg i j = wf i j := (hF.2.1 i hi).1 j hj
/-- the purses after i of a throw's -/
def stpS (fn : Nat → Nat) (dn : Nat) (pu : Nat → Int32) (wf : Nat → Nat → Int32) (kd : Nat → Nat) (o n i : Nat) : Nat → Int32 := fun j => if j < i then behS fn dn pu wf kd (nI j) j o n else pu j
theorem stpS_0 (fn : Nat → Nat) (dn : Nat) (pu : Nat → Int32) (wf : Nat → Nat → Int32) (kd : Nat → Nat) (o n : Nat) : pu = stpS fn dn pu wf kd o n 0 := rfl
theorem stpS_s (fn : Nat → Nat) (dn : Nat) (pu : Nat → Int32) (wf : Nat → Nat → Int32) (kd : Nat → Nat) (o n i : Nat) : upd (stpS fn dn pu wf kd o n i) i (behS fn dn (stpS fn dn pu wf kd o n i) wf kd (nI i) i o n) = stpS fn dn pu wf kd o n (i + 1) := by
  funext j
  have hb : behS fn dn (stpS fn dn pu wf kd o n i) wf kd (nI i) i o n = behS fn dn pu wf kd (nI i) i o n := behS_pu (if_neg (Nat.lt_irrefl i)) n
  rw [hb]
  show (if j = i then _ else if j < i then behS fn dn pu wf kd (nI j) j o n else pu j) = (if j < i + 1 then behS fn dn pu wf kd (nI j) j o n else pu j)
  by_cases h : j = i
  · rw [if_pos h, if_pos (by omega), h]
  · rw [if_neg h]
    by_cases h2 : j < i
    · rw [if_pos h2, if_pos (by omega)]
    · rw [if_neg h2, if_neg (by omega)]
def s4 (sa : Nat → Nat) (q : Nat) : Nat → Nat := fun k => match k with
  | 4 => q
  | k => sa k
def s12 (sa : Nat → Nat) (q1 q2 : Nat) : Nat → Nat := fun k => match k with
  | 1 => q1
  | 2 => q2
  | k => sa k
/-! the odometer: the last die turns the fastest -/
def pN (fn : Nat → Nat) : Nat → Nat
  | 0 => 1
  | i + 1 => pN fn i * fn i
/-- the dice: dn of them, those that are not there have one face -/
def DN (fn : Nat → Nat) (dn N : Nat) : Prop := 1 ≤ dn ∧ dn ≤ 3 ∧ (∀ j, j < 3 → 1 ≤ fn j ∧ fn j ≤ 12) ∧ (∀ j, dn ≤ j → j < 3 → fn j = 1) ∧ N = fn 0 * fn 1 * fn 2
theorem pN_le {fn : Nat → Nat} (h : ∀ j, j < 3 → 1 ≤ fn j ∧ fn j ≤ 12) : ∀ i, i ≤ 3 → 1 ≤ pN fn i ∧ pN fn i ≤ 12 ^ i
  | 0, _ => ⟨Nat.le_refl 1, Nat.le_refl 1⟩
  | i + 1, hi => by
    obtain ⟨a, b⟩ := pN_le h i (by omega)
    obtain ⟨c, d⟩ := h i (by omega)
    exact ⟨Nat.mul_le_mul a c, Nat.mul_le_mul b d⟩
theorem pN_dn {fn : Nat → Nat} {dn N : Nat} (h : DN fn dn N) : pN fn dn = N := by
  obtain ⟨h1, h3, hf, hz, rfl⟩ := h
  have e3 : pN fn 3 = fn 0 * fn 1 * fn 2 := by simp only [pN, Nat.one_mul]
  rcases (show dn = 1 ∨ dn = 2 ∨ dn = 3 by omega) with rfl | rfl | rfl
  · rw [← e3]
    show pN fn 1 = pN fn 1 * fn 1 * fn 2
    rw [hz 1 (by omega) (by omega), hz 2 (by omega) (by omega), Nat.mul_one, Nat.mul_one]
  · rw [← e3]
    show pN fn 2 = pN fn 2 * fn 2
    rw [hz 2 (by omega) (by omega), Nat.mul_one]
  · exact e3
theorem DN.N {fn : Nat → Nat} {dn N : Nat} (h : DN fn dn N) : 1 ≤ N ∧ N ≤ 1728 := by
  have e := pN_dn h
  obtain ⟨h1, h3, hf, hz, -⟩ := h
  obtain ⟨a, b⟩ := pN_le hf dn h3
  rw [e] at a b
  have c : 12 ^ dn ≤ 12 ^ 3 := Nat.pow_le_pow_right (by omega) h3
  have d : 12 ^ 3 = 1728 := by decide
  omega
/-- an outcome by its three faces -/
theorem xyz_of {fn : Nat → Nat} {N o : Nat} (hf : ∀ j, j < 3 → 1 ≤ fn j ∧ fn j ≤ 12) (hN : N = fn 0 * fn 1 * fn 2) (ho : o < N) : ∃ x y z, x < fn 0 ∧ y < fn 1 ∧ z < fn 2 ∧ o = (x * fn 1 + y) * fn 2 + z := by
  have h1 := (hf 1 (by omega)).1
  have h2 := (hf 2 (by omega)).1
  refine ⟨o / fn 2 / fn 1, o / fn 2 % fn 1, o % fn 2, ?_, Nat.mod_lt _ h1, Nat.mod_lt _ h2, ?_⟩
  · rw [Nat.div_lt_iff_lt_mul h1, Nat.div_lt_iff_lt_mul h2, ← hN]
    exact ho
  · rw [Nat.mul_comm _ (fn 1), Nat.div_add_mod, Nat.mul_comm, Nat.div_add_mod]
theorem odo_0 {fn : Nat → Nat} (hf : ∀ j, j < 3 → 1 ≤ fn j ∧ fn j ≤ 12) {j : Nat} (hj : j < 3) : fcN fn 0 j = 1 := by
  match j, hj with
  | 0, _ => simp [fcN]
  | 1, _ => simp [fcN]
  | 2, _ => simp [fcN]
theorem odo_top {fn : Nat → Nat} {dn N o : Nat} (h : DN fn dn N) (ho : o + 1 < N) : ¬ ∀ j, j < dn → fcN fn o j = fn j := by
  obtain ⟨h1, h3, hf, hz, hN⟩ := h
  intro q
  obtain ⟨x, y, z, hx, hy, hz9, rfl⟩ := xyz_of hf hN (show o < N by omega)
  obtain ⟨e0, e1, e2⟩ := fc_ix hx hy hz9
  have q0 : x + 1 = fn 0 := by have := q 0 (by omega); rw [e0] at this; exact this
  have q1 : y + 1 = fn 1 := by
    by_cases d : 1 < dn
    · have := q 1 d; rw [e1] at this; exact this
    · have := hz 1 (by omega) (by omega); omega
  have q2 : z + 1 = fn 2 := by
    by_cases d : 2 < dn
    · have := q 2 d; rw [e2] at this; exact this
    · have := hz 2 (by omega) (by omega); omega
  have e : (x * fn 1 + y) * fn 2 + z + 1 = N := by
    rw [hN, ← q0, Nat.add_assoc, q2, show (x * fn 1 + y) * fn 2 + fn 2 = (x * fn 1 + (y + 1)) * fn 2 by rw [← Nat.add_assoc, Nat.add_mul (x * fn 1 + y) 1, Nat.one_mul], q1, show x * fn 1 + fn 1 = (x + 1) * fn 1 by rw [Nat.add_mul, Nat.one_mul]]
  omega
/-- one on: d is the last die that does not stand at its last face -/
theorem odo_s {fn : Nat → Nat} {dn N o d : Nat} (h : DN fn dn N) (ho : o + 1 < N) (hd : d < dn) (hl : ∀ j, d < j → j < dn → fcN fn o j = fn j) (hn : fcN fn o d ≠ fn d) : ∀ j, j < dn → fcN fn (o + 1) j = if j < d then fcN fn o j else if j = d then fcN fn o d + 1 else 1 := by
  obtain ⟨h1, h3, hf, hz, hN⟩ := h
  obtain ⟨x, y, z, hx, hy, hz9, rfl⟩ := xyz_of hf hN (show o < N by omega)
  obtain ⟨e0, e1, e2⟩ := fc_ix hx hy hz9
  have z2 : ∀ q, 2 ≤ q → (dn ≤ q → q < 3 → fn q = 1) := fun q _ a b => hz q a b
  rcases (show d = 0 ∨ d = 1 ∨ d = 2 by omega) with rfl | rfl | rfl
  · rw [e0] at hn ⊢
    have q1 : y + 1 = fn 1 := by
      by_cases g : 1 < dn
      · have := hl 1 (by omega) g; rw [e1] at this; exact this
      · have := hz 1 (by omega) (by omega); omega
    have q2 : z + 1 = fn 2 := by
      by_cases g : 2 < dn
      · have := hl 2 (by omega) g; rw [e2] at this; exact this
      · have := hz 2 (by omega) (by omega); omega
    have e : (x * fn 1 + y) * fn 2 + z + 1 = ((x + 1) * fn 1 + 0) * fn 2 + 0 := by
      rw [Nat.add_assoc, q2, show (x * fn 1 + y) * fn 2 + fn 2 = (x * fn 1 + (y + 1)) * fn 2 by rw [← Nat.add_assoc, Nat.add_mul (x * fn 1 + y) 1, Nat.one_mul], q1, show x * fn 1 + fn 1 = (x + 1) * fn 1 by rw [Nat.add_mul, Nat.one_mul]] <;> rfl
    have hx2 : x + 1 < fn 0 := by omega
    obtain ⟨g0, g1, g2⟩ := fc_ix (fn := fn) hx2 (show 0 < fn 1 by omega) (show 0 < fn 2 by omega)
    rw [e]
    intro j hj
    rcases (show j = 0 ∨ j = 1 ∨ j = 2 by omega) with rfl | rfl | rfl
    · rw [if_neg (by omega), if_pos rfl, g0]
    · rw [if_neg (by omega), if_neg (by omega), g1]
    · rw [if_neg (by omega), if_neg (by omega), g2]
  · rw [e1] at hn ⊢
    have q2 : z + 1 = fn 2 := by
      by_cases g : 2 < dn
      · have := hl 2 (by omega) g; rw [e2] at this; exact this
      · have := hz 2 (by omega) (by omega); omega
    have e : (x * fn 1 + y) * fn 2 + z + 1 = (x * fn 1 + (y + 1)) * fn 2 + 0 := by
      rw [Nat.add_assoc, q2, show (x * fn 1 + y) * fn 2 + fn 2 = (x * fn 1 + (y + 1)) * fn 2 by rw [← Nat.add_assoc, Nat.add_mul (x * fn 1 + y) 1, Nat.one_mul]] <;> rfl
    obtain ⟨g0, g1, g2⟩ := fc_ix (fn := fn) hx (show y + 1 < fn 1 by omega) (show 0 < fn 2 by omega)
    rw [e]
    intro j hj
    rcases (show j = 0 ∨ j = 1 ∨ j = 2 by omega) with rfl | rfl | rfl
    · rw [if_pos (by omega), g0, e0]
    · rw [if_neg (by omega), if_pos rfl, g1]
    · rw [if_neg (by omega), if_neg (by omega), g2]
  · rw [e2] at hn ⊢
    obtain ⟨g0, g1, g2⟩ := fc_ix (fn := fn) hx hy (show z + 1 < fn 2 by omega)
    rw [show (x * fn 1 + y) * fn 2 + z + 1 = (x * fn 1 + y) * fn 2 + (z + 1) from Nat.add_assoc _ _ _]
    intro j hj
    rcases (show j = 0 ∨ j = 1 ∨ j = 2 by omega) with rfl | rfl | rfl
    · rw [if_pos (by omega), g0, e0]
    · rw [if_pos (by omega), g1, e1]
    · rw [if_neg (by omega), if_pos rfl, g2]
