/-! edges: bounds, the mean of all gains, the dearest wager; a fair win; the checksum by its numbers -/
section Edges
variable {N n : Nat} {su fa : Nat → Int32} {wf : Nat → Nat → Int32}
theorem go_bd (hN : N ≤ 1728) (hW : WQ N su fa n wf) {i : Nat} (hi : i < n) : -3456000 ≤ (goX N wf i).toInt ∧ (goX N wf i).toInt ≤ 3456000 := by
  obtain ⟨-, -, -, ⟨es, -, hs⟩, ⟨eb, hb⟩, ec⟩ := hW i hi
  have hc := cn_le (comesX su fa (iN (wf i 1)) (wf i 2)) N
  have e : goX N wf i = nI (iN (wf i 3) * (N - cn (comesX su fa (iN (wf i 1)) (wf i 2)) N)) - nI (iN (wf i 4) * cn (comesX su fa (iN (wf i 1)) (wf i 2)) N) := by
    unfold goX
    rw [ec, pk_sub hc, ← pk_mul, ← pk_mul, ← es, ← eb]
  generalize cn (comesX su fa (iN (wf i 1)) (wf i 2)) N = c at *
  have b1 : iN (wf i 3) * (N - c) ≤ 100 * 1728 := Nat.mul_le_mul hs (by omega)
  have b2 : iN (wf i 4) * c ≤ 2000 * 1728 := Nat.mul_le_mul hb (by omega)
  rw [e, pk_sub_toInt (by omega) (by omega)]
  generalize iN (wf i 3) * (N - c) = x at *
  generalize iN (wf i 4) * c = y at *
  omega
theorem gos_bd (hN : N ≤ 1728) (hn : n ≤ 12) (hW : WQ N su fa n wf) : -41472000 ≤ (sm (goX N wf) n).toInt ∧ (sm (goX N wf) n).toInt ≤ 41472000 := by
  have h := sm_bd (f := goX N wf) (B := 3456000) (by omega) (n := n) (by omega) (fun i hi => go_bd hN hW hi)
  omega
theorem gn_bd (hW : WQ N su fa n wf) {o i : Nat} (hi : i < n) : -2000 ≤ (gnX su fa wf (kW wf) o i).toInt ∧ (gnX su fa wf (kW wf) o i).toInt ≤ 2000 := by
  obtain ⟨-, -, -, ⟨es, -, hs⟩, ⟨eb, hb⟩, -⟩ := hW i hi
  unfold gnX
  split
  · rw [eb, Int32.toInt_neg, nI_toInt (by omega), Int.bmod_eq_of_le (by omega) (by omega)]
    omega
  · rw [es, nI_toInt (by omega)]
    omega
theorem sgn_bd (hn : n ≤ 12) (hW : WQ N su fa n wf) (o : Nat) : -24000 ≤ (sm (gnX su fa wf (kW wf) o) n).toInt ∧ (sm (gnX su fa wf (kW wf) o) n).toInt ≤ 24000 := by
  have h := sm_bd (f := gnX su fa wf (kW wf) o) (B := 2000) (by omega) (n := n) (by omega) (fun i hi => gn_bd hW hi)
  omega
theorem edge_sum (hW : WQ N su fa n wf) {i : Nat} (hi : i < n) : sm (fun o => gnX su fa wf (kW wf) o i) N = goX N wf i := by
  show sm (fun o => if comesX su fa (kW wf i) (wf i 2) o = true then -(wf i 4) else wf i 3) N = goX N wf i
  rw [sm_edge]
  unfold goX
  rw [(hW i hi).2.2.2.2.2]
  rfl
/-- all edges are the mean of all gains -/
theorem gains_all (hN1 : 1 ≤ N) (hN : N ≤ 1728) (hn : n ≤ 12) (hW : WQ N su fa n wf) : smL (fun o => sm (gnX su fa wf (kW wf) o) n) N * (nI N / cdX (sm (goX N wf) n) (nI N)).toInt64 = (sm (goX N wf) n / cdX (sm (goX N wf) n) (nI N)).toInt64 * (nI N).toInt64 := by
  have hb := gos_bd hN hn hW
  have hE := edF hN1 hN (g := sm (goX N wf) n) (by omega)
  have e1 : sm (fun o => sm (gnX su fa wf (kW wf) o) n) N = sm (goX N wf) n := by
    rw [sm_comm (fun o i => gnX su fa wf (kW wf) o i) n N]
    exact sm_congr (fun i hi => edge_sum hW hi)
  have e2 : smL (fun o => sm (gnX su fa wf (kW wf) o) n) N = (sm (goX N wf) n).toInt64 := by
    apply Int64.toInt_inj.mp
    rw [smL_sm (B := 24000) (by omega) N (by omega) (fun o _ => sgn_bd hn hW o), e1, Int32.toInt_toInt64]
  rw [e2, hE.1]
  exact hE.2.2.2.1.symm
theorem mul_cancel_le {a b c : Int} (hc : 0 < c) (h : a * c ≤ b * c) : a ≤ b := Int.le_of_mul_le_mul_right h hc
/-- the dearest of the first wagers -/
theorem drs_ok (hN : N ≤ 1728) (hW : WQ N su fa n wf) (hn : n ≤ 12) : ∀ i, i ≤ n → (i = 0 ∧ drs N wf i = (-1, 0, 1)) ∨ ∃ b, b < i ∧ drs N wf i = (nI b, (goX N wf b).toInt64, (wf b 3).toInt64) ∧ ∀ w, w < i → (goX N wf w).toInt * (iN (wf b 3) : Int) ≤ (goX N wf b).toInt * (iN (wf w 3) : Int)
  | 0, _ => Or.inl ⟨rfl, rfl⟩
  | i + 1, hi => by
    have hI : i < n := by omega
    rcases drs_ok hN hW hn i (by omega) with ⟨e, h⟩ | ⟨b, hb, h, hm⟩
    · subst e
      refine Or.inr ⟨0, by omega, ?_, fun w hw => ?_⟩
      · simp only [drs]
        exact if_pos (Or.inl (by decide))
      · rw [show w = 0 by omega]
        exact Int.le_refl _
    · refine Or.inr ?_
      obtain ⟨-, -, -, ⟨eb, hb1, hb2⟩, -⟩ := hW b (by omega)
      obtain ⟨-, -, -, ⟨ei, hi1, hi2⟩, -⟩ := hW i hI
      have gb := go_bd hN hW (show b < n by omega)
      have gi := go_bd hN hW hI
      have tb : (wf b 3).toInt64.toInt = (iN (wf b 3) : Int) := by
        have h8 := congrArg Int32.toInt eb
        rw [nI_toInt (by omega)] at h8
        rw [Int32.toInt_toInt64]; exact h8
      have ti : (wf i 3).toInt64.toInt = (iN (wf i 3) : Int) := by
        have h8 := congrArg Int32.toInt ei
        rw [nI_toInt (by omega)] at h8
        rw [Int32.toInt_toInt64]; exact h8
      have bd : ∀ (x : Int) (s : Nat), -3456000 ≤ x ∧ x ≤ 3456000 → s ≤ 100 → -345600000 ≤ x * (s : Int) ∧ x * (s : Int) ≤ 345600000 := fun x s hx hs => by
        have a1 := Int.mul_le_mul_of_nonneg_right hx.1 (show (0 : Int) ≤ (s : Int) by omega)
        have a2 := Int.mul_le_mul_of_nonneg_right hx.2 (show (0 : Int) ≤ (s : Int) by omega)
        omega
      have m1 := bd _ _ gb hi2
      have m2 := bd _ _ gi hb2
      have l1 : ((goX N wf b).toInt64 * (wf i 3).toInt64).toInt = (goX N wf b).toInt * (iN (wf i 3) : Int) := l_mul (by rw [Int32.toInt_toInt64]) ti (by omega) (by omega)
      have l2 : ((goX N wf i).toInt64 * (wf b 3).toInt64).toInt = (goX N wf i).toInt * (iN (wf b 3) : Int) := l_mul (by rw [Int32.toInt_toInt64]) tb (by omega) (by omega)
      by_cases q : (goX N wf b).toInt64 * (wf i 3).toInt64 < (goX N wf i).toInt64 * (wf b 3).toInt64
      · refine ⟨i, by omega, ?_, fun w hw => ?_⟩
        · simp only [drs, h]
          rw [if_pos (Or.inr q)]
        · rw [fa_lt64, l1, l2] at q
          by_cases e : w = i
          · rw [e]; exact Int.le_refl _
          · have hw2 := hm w (by omega)
            obtain ⟨-, -, -, ⟨-, hw1, -⟩, -⟩ := hW w (by omega)
            refine mul_cancel_le (c := (iN (wf b 3) : Int)) (by omega) ?_
            have a1 := Int.mul_le_mul_of_nonneg_right hw2 (show (0 : Int) ≤ (iN (wf i 3) : Int) by omega)
            have a2 := Int.mul_le_mul_of_nonneg_right (Int.le_of_lt q) (show (0 : Int) ≤ (iN (wf w 3) : Int) by omega)
            have s1 : (goX N wf w).toInt * ↑(iN (wf i 3)) * ↑(iN (wf b 3)) = (goX N wf w).toInt * ↑(iN (wf b 3)) * ↑(iN (wf i 3)) := by rw [Int.mul_assoc, Int.mul_comm (iN (wf i 3) : Int), ← Int.mul_assoc]
            have s2 : (goX N wf b).toInt * ↑(iN (wf w 3)) * ↑(iN (wf i 3)) = (goX N wf b).toInt * ↑(iN (wf i 3)) * ↑(iN (wf w 3)) := by rw [Int.mul_assoc, Int.mul_comm (iN (wf w 3) : Int), ← Int.mul_assoc]
            have s3 : (goX N wf i).toInt * ↑(iN (wf w 3)) * ↑(iN (wf b 3)) = (goX N wf i).toInt * ↑(iN (wf b 3)) * ↑(iN (wf w 3)) := by rw [Int.mul_assoc, Int.mul_comm (iN (wf w 3) : Int), ← Int.mul_assoc]
            rw [s1, s3]
            rw [s2] at a1
            exact Int.le_trans a1 a2
      · refine ⟨b, by omega, ?_, fun w hw => ?_⟩
        · simp only [drs, h]
          rw [if_neg (fun z => z.elim (fun z => nI_pos (by omega) z) q)]
        · by_cases e : w = i
          · rw [fa_lt64, l1, l2] at q
            rw [e]
            omega
          · exact hm w (by omega)
/-- the dearest wager has no smaller edge for its stake than others -/
theorem dear_ok (hN1 : 1 ≤ N) (hN : N ≤ 1728) (hW : WQ N su fa n wf) {b w : Nat} (hb : b < n) (hw : w < n) (h : (goX N wf w).toInt * (iN (wf b 3) : Int) ≤ (goX N wf b).toInt * (iN (wf w 3) : Int)) :
    ¬ (goX N wf b / cdX (goX N wf b) (nI N)).toInt64 * (nI N / cdX (goX N wf w) (nI N)).toInt64 * (wf w 3).toInt64 < (goX N wf w / cdX (goX N wf w) (nI N)).toInt64 * (nI N / cdX (goX N wf b) (nI N)).toInt64 * (wf b 3).toInt64 := by
  have gb := go_bd hN hW hb
  have gw := go_bd hN hW hw
  obtain ⟨db, b1, bN, bc, beb, -, -, bt, bta⟩ := ed_parts (g := goX N wf b) hN1 hN (by omega)
  obtain ⟨dw, w1, wN, wc, web, -, -, wt, wta⟩ := ed_parts (g := goX N wf w) hN1 hN (by omega)
  have Eb := edF hN1 hN (g := goX N wf b) (by omega)
  have Ew := edF hN1 hN (g := goX N wf w) (by omega)
  rw [Eb.1, Ew.1]
  have hb3 := (hW b hb).2.2.2.1
  have hw3 := (hW w hw).2.2.2.1
  obtain ⟨eb, hb1, hb2⟩ := hb3
  obtain ⟨ew, hw1, hw2⟩ := hw3
  have tb : (wf b 3).toInt64.toInt = (iN (wf b 3) : Int) := by
    have h8 := congrArg Int32.toInt eb
    rw [nI_toInt (by omega)] at h8
    rw [Int32.toInt_toInt64]; exact h8
  have tw : (wf w 3).toInt64.toInt = (iN (wf w 3) : Int) := by
    have h8 := congrArg Int32.toInt ew
    rw [nI_toInt (by omega)] at h8
    rw [Int32.toInt_toInt64]; exact h8
  have qb : (nI (eBot N (goX N wf b))).toInt64.toInt = (eBot N (goX N wf b) : Int) := by rw [Int32.toInt_toInt64, nI_toInt (by have := Eb.2.2.1; omega)]
  have qw : (nI (eBot N (goX N wf w))).toInt64.toInt = (eBot N (goX N wf w) : Int) := by rw [Int32.toInt_toInt64, nI_toInt (by have := Ew.2.2.1; omega)]
  have nb : (eBot N (goX N wf b) : Int) * db = N := by
    rw [beb]
    exact_mod_cast Nat.div_mul_cancel bN
  have nw : (eBot N (goX N wf w) : Int) * dw = N := by
    rw [web]
    exact_mod_cast Nat.div_mul_cancel wN
  have Bb := Eb.2.2.1
  have Bw := Ew.2.2.1
  generalize eBot N (goX N wf b) = Qb at *
  generalize eBot N (goX N wf w) = Qw at *
  generalize (goX N wf b / cdX (goX N wf b) (nI N)) = Tb at *
  generalize (goX N wf w / cdX (goX N wf w) (nI N)) = Tw at *
  generalize (goX N wf b).toInt = gB at *
  generalize (goX N wf w).toInt = gW at *
  have bd : ∀ (x : Int) (s C : Nat) (B : Int), 0 ≤ B → -B ≤ x ∧ x ≤ B → s ≤ C → -(B * (C : Int)) ≤ x * (s : Int) ∧ x * (s : Int) ≤ B * (C : Int) := fun x s C B hB hx hs => by
    have a1 := Int.mul_le_mul_of_nonneg_right hx.1 (show (0 : Int) ≤ (s : Int) by omega)
    have a2 := Int.mul_le_mul_of_nonneg_right hx.2 (show (0 : Int) ≤ (s : Int) by omega)
    have a3 := Int.mul_le_mul_of_nonneg_left (show (s : Int) ≤ (C : Int) by omega) hB
    rw [Int.neg_mul] at a1
    omega
  have x1 := bd Tb.toInt Qw 1728 3456000 (by omega) (by omega) Bw
  have x2 := bd (Tb.toInt * Qw) (iN (wf w 3)) 100 (3456000 * 1728) (by omega) (by omega) hw2
  have y1 := bd Tw.toInt Qb 1728 3456000 (by omega) (by omega) Bb
  have y2 := bd (Tw.toInt * Qb) (iN (wf b 3)) 100 (3456000 * 1728) (by omega) (by omega) hb2
  have l1 : (Tb.toInt64 * (nI Qw).toInt64 * (wf w 3).toInt64).toInt = Tb.toInt * Qw * (iN (wf w 3) : Int) := l_mul (l_mul (by rw [Int32.toInt_toInt64]) qw (by omega) (by omega)) tw (by omega) (by omega)
  have l2 : (Tw.toInt64 * (nI Qb).toInt64 * (wf b 3).toInt64).toInt = Tw.toInt * Qb * (iN (wf b 3) : Int) := l_mul (l_mul (by rw [Int32.toInt_toInt64]) qb (by omega) (by omega)) tb (by omega) (by omega)
  rw [fa_lt64, l1, l2, Int.not_lt]
  refine mul_cancel_le (c := (db : Int) * dw) (Int.mul_pos (by omega) (by omega)) ?_
  have r1 : Tw.toInt * ↑Qb * ↑(iN (wf b 3)) * (↑db * ↑dw) = (Tw.toInt * dw) * (↑(iN (wf b 3))) * (Qb * db) := by grind
  have r2 : Tb.toInt * ↑Qw * ↑(iN (wf w 3)) * (↑db * ↑dw) = (Tb.toInt * db) * (↑(iN (wf w 3))) * (Qw * dw) := by grind
  rw [r1, r2, nb, nw, bt, wt]
  exact Int.mul_le_mul_of_nonneg_right h (by omega)
end Edges
/-! a fair win -/
theorem lst9_le (P : Nat → Bool) : ∀ m, lst9 P m ≤ m
  | 0 => Nat.le_refl 0
  | m + 1 => by
    have h := lst9_le P m
    simp only [lst9]
    split <;> omega
theorem lst9_is (P : Nat → Bool) : ∀ m, 0 < lst9 P m → P (lst9 P m) = true
  | 0, h => absurd h (Nat.lt_irrefl 0)
  | m + 1, h => by
    simp only [lst9] at h ⊢
    by_cases q : P (m + 1) = true
    · rw [if_pos q]; exact q
    · rw [if_neg q] at h ⊢
      exact lst9_is P m h
theorem lst9_no (P : Nat → Bool) : ∀ m w, lst9 P m < w → w ≤ m → P w = false
  | 0, w, h, h2 => absurd h2 (by have := Nat.zero_le (lst9 P 0); omega)
  | m + 1, w, h, h2 => by
    simp only [lst9] at h
    by_cases q : P (m + 1) = true
    · rw [if_pos q] at h
      omega
    · rw [if_neg q] at h
      by_cases e : w = m + 1
      · rw [e]; rwa [Bool.not_eq_true] at q
      · exact lst9_no P m w h (by omega)
theorem fw_num {N c w b : Nat} (hc : c ≤ N) (hN : N ≤ 1728) (hw : w ≤ 20) (hb1 : 1 ≤ b) (hb2 : b ≤ 10) : 100 * (nI N - nI c) = nI (100 * (N - c)) ∧ 100 * nI w / nI b * nI c = nI (100 * w / b * c) ∧ 100 * w / b * c ≤ 3456000 ∧ 100 * (N - c) ≤ 172800 ∧ (fwP N c (nI b) w = true ↔ 100 * w / b * c ≤ 100 * (N - c)) := by
  have d1 : 100 * w / b ≤ 2000 := Nat.le_trans (Nat.div_le_self _ _) (by omega)
  have d2 : 100 * w / b * c ≤ 2000 * 1728 := Nat.mul_le_mul d1 (by omega)
  have e1 : (100 : Int32) * nI w / nI b = nI (100 * w / b) := by
    rw [show (100 : Int32) = nI 100 from rfl, pk_mul]
    exact pk_div (by omega) hb1 (by omega)
  have e2 : (100 : Int32) * (nI N - nI c) = nI (100 * (N - c)) := by
    rw [show (100 : Int32) = nI 100 from rfl, pk_sub hc, pk_mul]
  refine ⟨e2, by rw [e1, pk_mul], d2, by omega, ?_⟩
  unfold fwP brX
  rw [if_neg (show ¬ nI b < 1 from nI_nlt hb1 (by omega)), e1, e2, pk_mul, decide_eq_true_iff, Int32.le_iff_toInt_le]
  generalize 100 * w / b * c = y at *
  have hx : 100 * (N - c) ≤ 172800 := by omega
  generalize 100 * (N - c) = x at *
  rw [pk_sub_toInt (by omega) (by omega), show ((0 : Int32)).toInt = 0 from by decide]
  omega
/-- a fair win has an edge of 0 or more, the next one has not -/
theorem fair_ok {N c b : Nat} (hc : c ≤ N) (hN : N ≤ 1728) (hb1 : 1 ≤ b) (hb2 : b ≤ 10) : lst9 (fwP N c (nI b)) 20 ≤ 20 ∧ ¬ 100 * (nI N - nI c) < 100 * nI (lst9 (fwP N c (nI b)) 20) / nI b * nI c ∧ (lst9 (fwP N c (nI b)) 20 < 20 → ¬ 100 * nI (lst9 (fwP N c (nI b)) 20 + 1) / nI b * nI c ≤ 100 * (nI N - nI c)) := by
  have h20 := lst9_le (fwP N c (nI b)) 20
  have his := lst9_is (fwP N c (nI b)) 20
  have hno := lst9_no (fwP N c (nI b)) 20
  generalize lst9 (fwP N c (nI b)) 20 = f at *
  refine ⟨h20, ?_, fun hf => ?_⟩
  · obtain ⟨a1, a2, a3, a4, a5⟩ := fw_num hc hN h20 hb1 hb2
    rw [a1, a2, nI_ltI (by omega) (by omega)]
    rcases Nat.eq_zero_or_pos f with z | z
    · rw [z, Nat.mul_zero, Nat.zero_div, Nat.zero_mul]; omega
    · have := a5.mp (his z)
      omega
  · obtain ⟨a1, a2, a3, a4, a5⟩ := fw_num (w := f + 1) hc hN (by omega) hb1 hb2
    rw [a1, a2, nI_leI (by omega) (by omega)]
    intro q
    have := hno (f + 1) (by omega) (by omega)
    rw [a5.mpr q] at this
    cases this
