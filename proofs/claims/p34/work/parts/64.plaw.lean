/-! what the law asks, in numbers -/
theorem l_mul {a b : Int64} {x y : Int} (ha : a.toInt = x) (hb : b.toInt = y) (h1 : -9223372036854775808 ≤ x * y) (h2 : x * y < 9223372036854775808) : (a * b).toInt = x * y := by
  rw [Int64.toInt_mul, ha, hb]
  exact Int.bmod_eq_of_le (by omega) (by omega)
theorem l_add {a b : Int64} {x y : Int} (ha : a.toInt = x) (hb : b.toInt = y) (h1 : -9223372036854775808 ≤ x + y) (h2 : x + y < 9223372036854775808) : (a + b).toInt = x + y := by
  rw [Int64.toInt_add, ha, hb]
  exact Int.bmod_eq_of_le (by omega) (by omega)
theorem i_add {a b : Int32} {x y : Int} (ha : a.toInt = x) (hb : b.toInt = y) (h1 : -2147483648 ≤ x + y) (h2 : x + y < 2147483648) : (a + b).toInt = x + y := by
  rw [Int32.toInt_add, ha, hb]
  exact Int.bmod_eq_of_le (by omega) (by omega)
theorem i_mul {a b : Int32} {x y : Int} (ha : a.toInt = x) (hb : b.toInt = y) (h1 : -2147483648 ≤ x * y) (h2 : x * y < 2147483648) : (a * b).toInt = x * y := by
  rw [Int32.toInt_mul, ha, hb]
  exact Int.bmod_eq_of_le (by omega) (by omega)
theorem i_div {a : Int32} {d : Nat} (h0 : 0 < d) (hd : d < 2 ^ 31) (h1 : -2147483648 < a.toInt) : (a / nI d).toInt = a.toInt.tdiv d := by
  have h := a.toInt_lt
  rw [Int32.toInt_div, nI_toInt hd]
  have q := Int.natAbs_tdiv a.toInt d
  have q2 : (a.toInt.tdiv d).natAbs ≤ a.toInt.natAbs := by rw [q]; exact Nat.div_le_self _ _
  exact Int.bmod_eq_of_le (by omega) (by omega)
/-- what an int divides -/
theorem i_dvd {a : Int32} {j : Nat} (h0 : 0 < j) (hj : j < 2 ^ 31) (h1 : -2147483648 < a.toInt) (h : a - a / nI j * nI j = 0) : (j : Int) ∣ a.toInt := by
  have e : a = a / nI j * nI j := by
    have : a = (a - a / nI j * nI j) + a / nI j * nI j := by grind
    rw [h] at this
    rw [this]
    grind
  have hq := i_div h0 hj h1
  have hb := a.toInt_lt
  have q : (a.toInt.tdiv j * j).natAbs ≤ a.toInt.natAbs := by
    rw [Int.natAbs_mul, Int.natAbs_tdiv]
    exact Nat.div_mul_le_self _ _
  have e2 := congrArg Int32.toInt e
  rw [i_mul hq (nI_toInt hj) (by omega) (by omega)] at e2
  exact ⟨a.toInt.tdiv j, by rw [Int.mul_comm]; exact e2⟩
theorem nI_rem {a d : Nat} (ha : a < 2 ^ 31) (h0 : 0 < d) (hd : d < 2 ^ 31) : nI a - nI a / nI d * nI d = nI (a % d) := pk_rem ha h0 hd
/-- an edge in lowest terms: its top, its bottom -/
theorem ed_parts {N : Nat} {g : Int32} (h1 : 1 ≤ N) (hN : N ≤ 1728) (hg : -100000000 ≤ g.toInt ∧ g.toInt ≤ 100000000) : ∃ d : Nat, 1 ≤ d ∧ d ∣ N ∧ cdX g (nI N) = nI d ∧ eBot N g = N / d ∧ d = Nat.gcd g.toInt.natAbs N ∧ (d : Int) ∣ g.toInt ∧ (g / cdX g (nI N)).toInt * d = g.toInt ∧ (g / cdX g (nI N)).toInt.natAbs ≤ g.toInt.natAbs := by
  obtain ⟨ea, hu⟩ := absI_ex (x := g) (by omega)
  have hc := cdX_gcd ea hu h1 hN
  have hd1 : 0 < Nat.gcd g.toInt.natAbs N := Nat.gcd_pos_of_pos_right _ (by omega)
  have hd2 : Nat.gcd g.toInt.natAbs N ≤ N := Nat.gcd_le_right _ (by omega)
  have hdv : ((Nat.gcd g.toInt.natAbs N : Nat) : Int) ∣ g.toInt := Int.ofNat_dvd_left.mpr (Nat.gcd_dvd_left _ _)
  have ht := i_div (a := g) hd1 (show Nat.gcd g.toInt.natAbs N < 2 ^ 31 by omega) (by omega)
  refine ⟨Nat.gcd g.toInt.natAbs N, hd1, Nat.gcd_dvd_right _ _, hc, rfl, rfl, hdv, ?_, ?_⟩
  · rw [hc, ht]
    exact Int.tdiv_mul_cancel hdv
  · rw [hc, ht, Int.natAbs_tdiv]
    exact Nat.div_le_self _ _
theorem edF {N : Nat} {g : Int32} (h1 : 1 ≤ N) (hN : N ≤ 1728) (hg : -100000000 ≤ g.toInt ∧ g.toInt ≤ 100000000) : EdF N g := by
  obtain ⟨d, hd1, hdN, hc, eb, ed, hdv, ht, hta⟩ := ed_parts h1 hN hg
  have hdle := Nat.le_of_dvd (by omega) hdN
  obtain ⟨q, hq⟩ := hdN
  have hq0 : 0 < q := by
    rcases Nat.eq_zero_or_pos q with z | z
    · rw [z] at hq; omega
    · exact z
  have eq : N / d = q := by rw [hq, Nat.mul_div_cancel_left _ (by omega)]
  have hqN : q ≤ N := by rw [hq]; exact Nat.le_mul_of_pos_left q (by omega)
  have hB : nI N / cdX g (nI N) = nI (eBot N g) := by rw [hc, pk_div (by omega) (by omega) (by omega), eb]
  rw [eb, eq] at hB
  have tb : -100000000 ≤ (g / cdX g (nI N)).toInt ∧ (g / cdX g (nI N)).toInt ≤ 100000000 := by omega
  refine ⟨by rw [eb, eq]; exact hB, by rw [eb, eq]; omega, by rw [eb, eq]; omega, ?_, ?_⟩
  · apply Int64.toInt_inj.mp
    rw [eb, eq]
    generalize (g / cdX g (nI N)) = t at ht tb
    have m1 : -(100000000 * 1728) ≤ t.toInt * (N : Int) ∧ t.toInt * (N : Int) ≤ 100000000 * 1728 := by
      have a1 := Int.mul_le_mul_of_nonneg_right tb.1 (show (0 : Int) ≤ (N : Int) by omega)
      have a2 := Int.mul_le_mul_of_nonneg_right tb.2 (show (0 : Int) ≤ (N : Int) by omega)
      omega
    have e : g.toInt * (q : Int) = t.toInt * (N : Int) := by
      rw [← ht, hq, Int.mul_assoc]
      push_cast
      rfl
    rw [l_mul (by rw [Int32.toInt_toInt64]) (by rw [Int32.toInt_toInt64, nI_toInt (by omega)]) (by omega) (by omega), l_mul (by rw [Int32.toInt_toInt64]) (by rw [Int32.toInt_toInt64, nI_toInt (by omega)]) (by omega) (by omega)]
    exact e.symm
  · intro j hj2 hjb hh
    rw [eb, eq] at hjb hh
    obtain ⟨ha, hb⟩ := hh
    have hjt : (j : Int) ∣ (g / cdX g (nI N)).toInt := i_dvd (by omega) (by omega) (by omega) ha
    have hjq : j ∣ q := Nat.dvd_of_mod_eq_zero hb
    have h3 : ((j * d : Nat) : Int) ∣ g.toInt := by
      rw [← ht]
      push_cast
      exact Int.mul_dvd_mul hjt (Int.dvd_refl _)
    have h4 : j * d ∣ g.toInt.natAbs := Int.ofNat_dvd_left.mp h3
    have h5 : j * d ∣ N := by rw [hq, Nat.mul_comm j d]; exact Nat.mul_dvd_mul_left d hjq
    have h6 : j * d ∣ d := by
      have := Nat.dvd_gcd h4 h5
      rw [← ed] at this
      exact this
    have h7 := Nat.le_of_dvd (by omega) h6
    have h8 := Nat.mul_le_mul_right d hj2
    omega
/-! who has a wager -/
def hasF (wf : Nat → Nat → Int32) (p : Nat) : Nat → Bool
  | 0 => false
  | i + 1 => hasF wf p i || decide (wf i 0 = nI p)
theorem hasF_no {su fa pu : Nat → Int32} {wf : Nat → Nat → Int32} {kd : Nat → Nat} {p o : Nat} : ∀ n, hasF wf p n = false → behX su fa pu wf kd (nI p) p o n = pu p
  | 0, _ => rfl
  | n + 1, h => by
    simp only [hasF, Bool.or_eq_false_iff] at h
    have hn : ¬ wf n 0 = nI p := of_decide_eq_false h.2
    simp only [behX]
    rw [if_neg (fun z => hn z.1), hasF_no n h.1]
theorem mnX_mem (g : Nat → Int32) : ∀ m, ∃ o, o ≤ m ∧ mnX g m = g o
  | 0 => ⟨0, Nat.le_refl 0, rfl⟩
  | m + 1 => by
    obtain ⟨o, h1, h2⟩ := mnX_mem g m
    simp only [mnX]
    split
    · exact ⟨m + 1, Nat.le_refl _, rfl⟩
    · exact ⟨o, by omega, h2⟩
theorem mnX_le (g : Nat → Int32) : ∀ m o, o ≤ m → ¬ g o < mnX g m
  | 0, o, h => by
    rw [show o = 0 by omega]
    exact Int32.lt_irrefl
  | m + 1, o, h => by
    have ih := mnX_le g m
    simp only [mnX]
    by_cases q : o = m + 1
    · subst q
      split
      · exact Int32.lt_irrefl
      · rename_i z; exact z
    · have a := ih o (by omega)
      split
      · rename_i z
        intro y
        rw [fa_lt] at a z y
        omega
      · exact a
theorem mnX_const {g : Nat → Int32} {v : Int32} {m : Nat} (h : ∀ o, o ≤ m → g o = v) : mnX g m = v := by
  obtain ⟨o, h1, h2⟩ := mnX_mem g m
  rw [h2, h o h1]
/-! the worst outcome -/
theorem wst_ok (g : Nat → Int32) : ∀ i, 1 ≤ i → ∀ j, j < i → ¬ g j < g (wst g i) ∧ (g j = g (wst g i) → wst g i ≤ j)
  | 0, h, _, _ => by omega
  | i + 1, _, j, hj => by
    rcases Nat.eq_zero_or_pos i with z | z
    · subst z
      have e : j = 0 := by omega
      subst e
      rw [wst_1]
      exact ⟨Int32.lt_irrefl, fun _ => Nat.le_refl 0⟩
    · have ih := wst_ok g i z
      have hw := wst_lt g z
      simp only [wst]
      by_cases c : g i < g (wst g i)
      · rw [if_pos c]
        by_cases q : j = i
        · subst q
          exact ⟨Int32.lt_irrefl, fun _ => Nat.le_refl _⟩
        · obtain ⟨a, b⟩ := ih j (by omega)
          refine ⟨fun y => ?_, fun y => ?_⟩
          · rw [fa_lt] at a c y; omega
          · rw [y] at a; exact absurd c a
      · rw [if_neg c]
        by_cases q : j = i
        · subst q
          exact ⟨c, fun _ => by omega⟩
        · exact ih j (by omega)
/-! sums of sums -/
theorem sm_z : ∀ n, sm (fun _ => 0) n = 0
  | 0 => rfl
  | n + 1 => by show sm _ n + 0 = 0; rw [sm_z n]; decide
theorem sm_comm (f : Nat → Nat → Int32) (m : Nat) : ∀ n, sm (fun i => sm (fun j => f i j) m) n = sm (fun j => sm (fun i => f i j) n) m
  | 0 => (sm_z m).symm
  | n + 1 => by
    show sm _ n + sm (fun j => f n j) m = _
    rw [sm_comm f m n, ← sm_add]
    rfl
def smL (f : Nat → Int32) : Nat → Int64
  | 0 => 0
  | n + 1 => smL f n + (f n).toInt64
theorem smL_sm {f : Nat → Int32} {B : Int} (hB : 0 ≤ B) : ∀ n : Nat, (n : Int) * B < 2147483648 → (∀ i, i < n → -B ≤ (f i).toInt ∧ (f i).toInt ≤ B) → (smL f n).toInt = (sm f n).toInt
  | 0, _, _ => by
    show (0 : Int64).toInt = (0 : Int32).toInt
    decide
  | n + 1, h, hf => by
    have e : ((n + 1 : Nat) : Int) * B = (n : Int) * B + B := by push_cast; rw [Int.add_mul, Int.one_mul]
    rw [e] at h
    have ih := smL_sm hB n (by omega) (fun i hi => hf i (by omega))
    have b := sm_bd hB (n := n) (f := f) (by omega) (fun i hi => hf i (by omega))
    have a := hf n (by omega)
    show (smL f n + (f n).toInt64).toInt = (sm f n + f n).toInt
    rw [l_add ih (by rw [Int32.toInt_toInt64]) (by omega) (by omega), i_add rfl rfl (by omega) (by omega)]
/-! ways -/
theorem cn_add {p q r : Nat → Bool} : ∀ {n : Nat}, (∀ o, o < n → (if p o = true then 1 else 0) = (if q o = true then 1 else 0) + (if r o = true then 1 else 0)) → cn p n = cn q n + cn r n
  | 0, _ => rfl
  | n + 1, h => by
    have ih := cn_add (n := n) (fun o ho => h o (by omega))
    simp only [cn]
    rw [ih, h n (by omega)]
    omega
theorem cn_all {p : Nat → Bool} : ∀ {n : Nat}, (∀ o, o < n → p o = true) → cn p n = n
  | 0, _ => rfl
  | n + 1, h => by
    simp only [cn]
    rw [cn_all (n := n) (fun o ho => h o (by omega)), if_pos (h n (by omega))]
theorem cn_none {p : Nat → Bool} : ∀ {n : Nat}, (∀ o, o < n → p o = false) → cn p n = 0
  | 0, _ => rfl
  | n + 1, h => by
    simp only [cn]
    rw [cn_none (n := n) (fun o ho => h o (by omega)), if_neg (by rw [h n (by omega)]; decide)]
theorem ways_not (su fa : Nat → Int32) {k : Nat} (hk : k < 5) (q : Int32) (N : Nat) : nI (cn (comesX su fa k q) N) + nI (cn (comesX su fa (k + 5) q) N) = nI N := by
  have e : cn (comesX su fa (k + 5) q) N = cn (fun o => !(comesX su fa k q o)) N := cn_congr (fun o _ => by
    rw [comesX_ge (by omega), comesX_lt hk, Nat.add_sub_cancel])
  rw [e, nI_add, cn_not]
section Ways
variable {f1 f2 f3 dn N : Nat} {fn : Nat → Nat} {su fa : Nat → Int32}
theorem su_v (hD : DC f1 f2 f3 fn dn N) (hl : laid f2 f3 su fa N) {o : Nat} (ho : o < N) : su o = nI (smN (fcN fn o) dn) ∧ smN (fcN fn o) dn ≤ 36 := by
  obtain ⟨a, b⟩ := dc_sum hD ho
  exact ⟨(hl o ho).1.trans a, b⟩
theorem is0 (hD : DC f1 f2 f3 fn dn N) (hl : laid f2 f3 su fa N) {o j : Nat} (ho : o < N) (hj : j ≤ 37) : comesX su fa 0 (nI j) o = decide (smN (fcN fn o) dn = j) := by
  obtain ⟨a, b⟩ := su_v hD hl ho
  rw [comesX_lt (by omega)]
  show decide (su o = nI j) = _
  rw [a]
  exact decide_eq_decide.mpr (nI_eq (by omega) (by omega))
theorem is1 (hD : DC f1 f2 f3 fn dn N) (hl : laid f2 f3 su fa N) {o j : Nat} (ho : o < N) (hj : j ≤ 37) : comesX su fa 1 (nI j) o = decide (j ≤ smN (fcN fn o) dn) := by
  obtain ⟨a, b⟩ := su_v hD hl ho
  rw [comesX_lt (by omega)]
  show decide (nI j ≤ su o) = _
  rw [a]
  exact decide_eq_decide.mpr (nI_leI (by omega) (by omega))
theorem ways_step (hD : DC f1 f2 f3 fn dn N) (hl : laid f2 f3 su fa N) {j : Nat} (hj : j < 36) : nI (cn (comesX su fa 1 (nI j)) N) = nI (cn (comesX su fa 0 (nI j)) N) + nI (cn (comesX su fa 1 (nI (j + 1))) N) := by
  rw [nI_add]
  refine congrArg nI (cn_add (fun o ho => ?_))
  rw [is1 hD hl ho (by omega), is0 hD hl ho (by omega), is1 hD hl ho (by omega)]
  simp only [decide_eq_true_eq]
  split <;> split <;> split <;> omega
theorem ways_sum (hD : DC f1 f2 f3 fn dn N) (hl : laid f2 f3 su fa N) : ∀ J, J ≤ 37 → sm (fun j => nI (cn (comesX su fa 0 (nI j)) N)) J = nI (cn (fun o => decide (smN (fcN fn o) dn < J)) N)
  | 0, _ => by
    rw [cn_none (fun o _ => decide_eq_false (Nat.not_lt_zero _))]
    rfl
  | J + 1, h => by
    show sm _ J + nI (cn (comesX su fa 0 (nI J)) N) = _
    rw [ways_sum hD hl J (by omega), nI_add]
    refine congrArg nI (cn_add (fun o ho => ?_)).symm
    rw [is0 hD hl ho (by omega)]
    simp only [decide_eq_true_eq]
    split <;> split <;> split <;> omega
theorem ways_all (hD : DC f1 f2 f3 fn dn N) (hl : laid f2 f3 su fa N) : sm (fun j => nI (cn (comesX su fa 0 (nI j)) N)) 37 = nI N := by
  rw [ways_sum hD hl 37 (Nat.le_refl _)]
  exact congrArg nI (cn_all (fun o ho => decide_eq_true (by have := (su_v hD hl ho).2; omega)))
end Ways
