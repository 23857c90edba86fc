/-! what both sides hold of the wagers -/
def iN (x : Int32) : Nat := x.toInt.toNat
theorem iN_nI {a : Nat} (h : a < 2 ^ 31) : iN (nI a) = a := by
  unfold iN
  rw [nI_toInt h]
  exact Int.toNat_natCast a
def W1 (fn : Nat → Nat) (dn N : Nat) (v : Nat → Int32) (w k q s b : Int32) (h : Nat → Int32) : Prop :=
  (v 0 = w ∧ v 1 = k ∧ v 2 = q ∧ v 3 = s ∧ v 4 = b ∧ v 5 = manyM fn dn N (iN k) q) ∧ (w = nI (iN w) ∧ iN w < 6) ∧ (k = nI (iN k) ∧ iN k < 10) ∧ (q = nI (iN q) ∧ iN q ≤ 36) ∧ (s = nI (iN s) ∧ 1 ≤ iN s ∧ iN s ≤ 100) ∧ (b = nI (iN b) ∧ iN b ≤ 2000) ∧ ∀ o, o < N → h o = b2i (comesM fn dn (iN k) q o)
def WR (fn : Nat → Nat) (dn N n : Nat) (wf : Nat → Nat → Int32) (wh kn nm sk br ht : Nat → Int32) : Prop := ∀ i, i < n → W1 fn dn N (wf i) (wh i) (kn i) (nm i) (sk i) (br i) (fun o => ht (1728 * i + o))
abbrev kN (kn : Nat → Int32) : Nat → Nat := fun i => iN (kn i)
theorem many_ex {f1 f2 f3 dn N k q : Nat} {fn : Nat → Nat} (h : DC f1 f2 f3 fn dn N) (hk : k < 10) (hq : q ≤ 36) : ∃ c : Nat, c ≤ N ∧ manyM fn dn N k (nI q) = nI c :=
  ⟨cn (comesX (suF f2 f3) (faF f2 f3) k (nI q)) N, cn_le _ _, (dc_many h (fun _ _ => ⟨rfl, rfl⟩) hk hq).symm⟩
theorem WR.kd {fn : Nat → Nat} {dn N n : Nat} {wf : Nat → Nat → Int32} {wh kn nm sk br ht : Nat → Int32} (h : WR fn dn N n wf wh kn nm sk br ht) : ∀ i, i < n → kn i = nI (kN kn i) ∧ kN kn i < 10 := fun i hi => (h i hi).2.2.1
theorem WR.kdX {fn : Nat → Nat} {dn N n : Nat} {wf : Nat → Nat → Int32} {wh kn nm sk br ht : Nat → Int32} (h : WR fn dn N n wf wh kn nm sk br ht) : ∀ i, i < n → wf i 1 = nI (kN kn i) ∧ kN kn i < 10 := fun i hi => ⟨(h i hi).1.2.1.trans (h i hi).2.2.1.1, (h i hi).2.2.1.2⟩
theorem WR.pt {fn : Nat → Nat} {dn N n : Nat} {wf : Nat → Nat → Int32} {wh kn nm sk br ht : Nat → Int32} (h : WR fn dn N n wf wh kn nm sk br ht) : ∀ i, i < n → wh i = nI (kN wh i) ∧ kN wh i < 6 := fun i hi => (h i hi).2.1
theorem WR.ptX {fn : Nat → Nat} {dn N n : Nat} {wf : Nat → Nat → Int32} {wh kn nm sk br ht : Nat → Int32} (h : WR fn dn N n wf wh kn nm sk br ht) : ∀ i, i < n → wf i 0 = nI (kN wh i) ∧ kN wh i < 6 := fun i hi => ⟨(h i hi).1.1.trans (h i hi).2.1.1, (h i hi).2.1.2⟩
theorem WR.go {fn : Nat → Nat} {dn N n : Nat} {wf : Nat → Nat → Int32} {wh kn nm sk br ht : Nat → Int32} (h : WR fn dn N n wf wh kn nm sk br ht) : ∀ i, i < n → goX N wf i = edM fn dn N (kN kn) nm sk br i := by
  intro i hi
  obtain ⟨⟨-, -, -, e3, e4, e5⟩, -⟩ := h i hi
  unfold goX edM
  rw [e3, e4, e5]
theorem WR.bd {f1 f2 f3 : Nat} {fn : Nat → Nat} {dn N n : Nat} {wf : Nat → Nat → Int32} {wh kn nm sk br ht : Nat → Int32} (hD : DC f1 f2 f3 fn dn N) (hN : N ≤ 1728) (h : WR fn dn N n wf wh kn nm sk br ht) : ∀ i, i < n → -3456000 ≤ (edM fn dn N (kN kn) nm sk br i).toInt ∧ (edM fn dn N (kN kn) nm sk br i).toInt ≤ 3456000 := by
  intro i hi
  obtain ⟨-, -, ⟨-, hk⟩, ⟨eq, hq⟩, ⟨es, -, hs⟩, ⟨eb, hb⟩, -⟩ := h i hi
  obtain ⟨c, hc, ec⟩ := many_ex hD hk hq
  rw [← eq] at ec
  have e : edM fn dn N (kN kn) nm sk br i = nI (iN (sk i) * (N - c)) - nI (iN (br i) * c) := by
    show sk i * (nI N - manyM fn dn N (iN (kn i)) (nm i)) - br i * manyM fn dn N (iN (kn i)) (nm i) = _
    rw [ec, pk_sub hc, ← pk_mul, ← pk_mul, ← es, ← eb]
  have b1 : iN (sk i) * (N - c) ≤ 100 * 1728 := Nat.mul_le_mul hs (by omega)
  have b2 : iN (br i) * c ≤ 2000 * 1728 := Nat.mul_le_mul hb (by omega)
  rw [e, pk_sub_toInt (by omega) (by omega)]
  generalize iN (sk i) * (N - c) = x at *
  generalize iN (br i) * c = y at *
  omega
theorem WR.ab {f1 f2 f3 : Nat} {fn : Nat → Nat} {dn N n : Nat} {wf : Nat → Nat → Int32} {wh kn nm sk br ht : Nat → Int32} (hD : DC f1 f2 f3 fn dn N) (hN : N ≤ 1728) (h : WR fn dn N n wf wh kn nm sk br ht) : ∀ i, i < n → absI (edM fn dn N (kN kn) nm sk br i) = nI (edM fn dn N (kN kn) nm sk br i).toInt.natAbs ∧ (edM fn dn N (kN kn) nm sk br i).toInt.natAbs < 2 ^ 31 := fun i hi => absI_ex (by
  have b := WR.bd hD hN h i hi
  omega)
theorem WR.abs {f1 f2 f3 : Nat} {fn : Nat → Nat} {dn N n : Nat} {wf : Nat → Nat → Int32} {wh kn nm sk br ht : Nat → Int32} (hD : DC f1 f2 f3 fn dn N) (hN : N ≤ 1728) (hn : n ≤ 12) (h : WR fn dn N n wf wh kn nm sk br ht) : absI (sm (edM fn dn N (kN kn) nm sk br) n) = nI (sm (edM fn dn N (kN kn) nm sk br) n).toInt.natAbs ∧ (sm (edM fn dn N (kN kn) nm sk br) n).toInt.natAbs < 2 ^ 31 := absI_ex (by
  have b := sm_bd (B := 3456000) (by omega) (n := n) (by omega) (fun i hi => WR.bd hD hN h i hi)
  omega)
theorem WR.sgo {fn : Nat → Nat} {dn N n : Nat} {wf : Nat → Nat → Int32} {wh kn nm sk br ht : Nat → Int32} (h : WR fn dn N n wf wh kn nm sk br ht) : sm (goX N wf) n = sm (edM fn dn N (kN kn) nm sk br) n := sm_congr h.go
theorem WR.cd {f1 f2 f3 : Nat} {fn : Nat → Nat} {dn N n : Nat} {wf : Nat → Nat → Int32} {wh kn nm sk br ht : Nat → Int32} (hD : DC f1 f2 f3 fn dn N) (hN1 : 1 ≤ N) (hN : N ≤ 1728) (h : WR fn dn N n wf wh kn nm sk br ht) : ∀ i, i < n → cdX (goX N wf i) (nI N) = nI (Nat.gcd (edM fn dn N (kN kn) nm sk br i).toInt.natAbs N) := by
  intro i hi
  obtain ⟨a, b⟩ := WR.ab hD hN h i hi
  rw [h.go i hi]
  exact cdX_gcd a b hN1 hN
theorem WR.cds {f1 f2 f3 : Nat} {fn : Nat → Nat} {dn N n : Nat} {wf : Nat → Nat → Int32} {wh kn nm sk br ht : Nat → Int32} (hD : DC f1 f2 f3 fn dn N) (hN1 : 1 ≤ N) (hN : N ≤ 1728) (hn : n ≤ 12) (h : WR fn dn N n wf wh kn nm sk br ht) : cdX (sm (goX N wf) n) (nI N) = nI (Nat.gcd (sm (edM fn dn N (kN kn) nm sk br) n).toInt.natAbs N) := by
  obtain ⟨a, b⟩ := WR.abs hD hN hn h
  rw [h.sgo]
  exact cdX_gcd a b hN1 hN
theorem WR.st {fn : Nat → Nat} {dn N n : Nat} {wf : Nat → Nat → Int32} {wh kn nm sk br ht : Nat → Int32} (h : WR fn dn N n wf wh kn nm sk br ht) : sm (fun i => wf i 3) n = sm sk n := sm_congr (fun i hi => (h i hi).1.2.2.2.1)
theorem WR.cm {f1 f2 f3 : Nat} {fn : Nat → Nat} {dn N n : Nat} {wf : Nat → Nat → Int32} {wh kn nm sk br ht su fa : Nat → Int32} (hD : DC f1 f2 f3 fn dn N) (hl : laid f2 f3 su fa N) (h : WR fn dn N n wf wh kn nm sk br ht) {o i : Nat} (ho : o < N) (hi : i < n) : ht (1728 * i + o) = b2i (comesX su fa (kN kn i) (wf i 2) o) := by
  obtain ⟨⟨-, -, e2, -⟩, -, ⟨-, hk⟩, ⟨eq, hq⟩, -, -, hh⟩ := h i hi
  rw [show ht (1728 * i + o) = b2i (comesM fn dn (iN (kn i)) (nm i) o) from hh o ho, e2, eq, dc_comes hD hl ho hk hq]
theorem WR.gn {f1 f2 f3 : Nat} {fn : Nat → Nat} {dn N n : Nat} {wf : Nat → Nat → Int32} {wh kn nm sk br ht su fa : Nat → Int32} (hD : DC f1 f2 f3 fn dn N) (hl : laid f2 f3 su fa N) (h : WR fn dn N n wf wh kn nm sk br ht) {o : Nat} (ho : o < N) : sm (gnX su fa wf (kN kn) o) n = sm (gnM ht sk br o) n := by
  refine sm_congr (fun i hi => ?_)
  unfold gnX gnM
  rw [WR.cm hD hl h ho hi, (h i hi).1.2.2.2.1, (h i hi).1.2.2.2.2.1]
  cases comesX su fa (kN kn i) (wf i 2) o
  · rw [if_neg (by decide), if_pos (by decide)]
  · rw [if_pos rfl, if_neg (by decide)]
theorem WR.wo {f1 f2 f3 : Nat} {fn : Nat → Nat} {dn N n : Nat} {wf : Nat → Nat → Int32} {wh kn nm sk br ht su fa : Nat → Int32} (hD : DC f1 f2 f3 fn dn N) (hN1 : 1 ≤ N) (hl : laid f2 f3 su fa N) (h : WR fn dn N n wf wh kn nm sk br ht) : wst (fun o => sm (gnX su fa wf (kN kn) o) n) N = wst (fun o => sm (gnM ht sk br o) n) N := wst_congr hN1 (fun _ ho => WR.gn hD hl h ho) N (Nat.le_refl N)
theorem WR.wg {f1 f2 f3 : Nat} {fn : Nat → Nat} {dn N n : Nat} {wf : Nat → Nat → Int32} {wh kn nm sk br ht su fa : Nat → Int32} (hD : DC f1 f2 f3 fn dn N) (hN1 : 1 ≤ N) (hl : laid f2 f3 su fa N) (h : WR fn dn N n wf wh kn nm sk br ht) : sm (gnX su fa wf (kN kn) (wst (fun o => sm (gnX su fa wf (kN kn) o) n) N)) n = sm (gnM ht sk br (wst (fun o => sm (gnM ht sk br o) n) N)) n := by
  rw [WR.wo hD hN1 hl h]
  exact WR.gn hD hl h (wst_lt _ hN1)
theorem WR.bh0 {f1 f2 f3 : Nat} {fn : Nat → Nat} {dn N n : Nat} {wf : Nat → Nat → Int32} {wh kn nm sk br ht su fa puX puM : Nat → Int32} (hD : DC f1 f2 f3 fn dn N) (hl : laid f2 f3 su fa N) (h : WR fn dn N n wf wh kn nm sk br ht) {o : Nat} (ho : o < N) {p : Int32} {pi : Nat} (hp : puX pi = puM pi) : ∀ m, m ≤ n → behX su fa puX wf (kN kn) p pi o m = behM puM wh sk br ht p pi o m
  | 0, _ => hp
  | i + 1, hm => by
    have ih := WR.bh0 hD hl h ho hp (p := p) i (by omega)
    have hi : i < n := by omega
    have e := WR.cm hD hl h ho hi
    obtain ⟨e0, -, -, e3, e4, -⟩ := (h i hi).1
    unfold behX behM
    rw [ih, e0, e3, e4, e]
    by_cases q : wh i = p ∧ comesX su fa (kN kn i) (wf i 2) o = true
    · rw [if_pos q, if_pos ⟨q.1, (b2i_ne0 _).mpr q.2⟩]
    · rw [if_neg q, if_neg (fun z => q ⟨z.1, (b2i_ne0 _).mp z.2⟩)]
theorem WR.bh {f1 f2 f3 : Nat} {fn : Nat → Nat} {dn N n : Nat} {wf : Nat → Nat → Int32} {wh kn nm sk br ht su fa puX puM : Nat → Int32} (hD : DC f1 f2 f3 fn dn N) (hl : laid f2 f3 su fa N) (h : WR fn dn N n wf wh kn nm sk br ht) (hpu : ∀ j, j < 6 → puX j = puM j) {o p : Nat} (ho : o < N) (hp : p < 6) : behX su fa puX wf (kN kn) (nI p) p o n = behM puM wh sk br ht (nI p) p o n := WR.bh0 hD hl h ho (hpu p hp) n (Nat.le_refl n)
theorem WR.lp {f1 f2 f3 : Nat} {fn : Nat → Nat} {dn N n : Nat} {wf : Nat → Nat → Int32} {wh kn nm sk br ht su fa puX puM : Nat → Int32} (hD : DC f1 f2 f3 fn dn N) (hN1 : 1 ≤ N) (hl : laid f2 f3 su fa N) (h : WR fn dn N n wf wh kn nm sk br ht) (hpu : ∀ j, j < 6 → puX j = puM j) {p : Nat} (hp : p < 6) : mnX (fun o => behX su fa puX wf (kN kn) (nI p) p o n) (N - 1) = mnX (fun o => behM puM wh sk br ht (nI p) p o n) (N - 1) := mnX_congr (fun _ ho => WR.bh hD hl h hpu (by omega) hp)
theorem WR.hd {f1 f2 f3 : Nat} {fn : Nat → Nat} {dn N n : Nat} {wf : Nat → Nat → Int32} {wh kn nm sk br ht su fa puX puM : Nat → Int32} (hD : DC f1 f2 f3 fn dn N) (hN1 : 1 ≤ N) (hl : laid f2 f3 su fa N) (h : WR fn dn N n wf wh kn nm sk br ht) (hpu : ∀ j, j < 6 → puX j = puM j) {p : Nat} (hp : p < 6) : alleq (fun o => behX su fa puX wf (kN kn) (nI p) p o n) N = alleq (fun o => behM puM wh sk br ht (nI p) p o n) N := alleq_congr hN1 (fun _ ho => WR.bh hD hl h hpu ho hp)
theorem WR.dr0 {fn : Nat → Nat} {dn N n : Nat} {wf : Nat → Nat → Int32} {wh kn nm sk br ht : Nat → Int32} (hn : n ≤ 12) (h : WR fn dn N n wf wh kn nm sk br ht) : ∀ i, i ≤ n → (drM (edM fn dn N (kN kn) nm sk br) sk i = none ∧ drs N wf i = (-1, 0, 1)) ∨ (∃ b, b < i ∧ drM (edM fn dn N (kN kn) nm sk br) sk i = some b ∧ drs N wf i = (nI b, (edM fn dn N (kN kn) nm sk br b).toInt64, (sk b).toInt64))
  | 0, _ => Or.inl ⟨rfl, rfl⟩
  | i + 1, hi => by
    have e1 := h.go i (by omega)
    have e2 := (h i (by omega)).1.2.2.2.1
    refine Or.inr ?_
    rcases WR.dr0 hn h i (by omega) with ⟨a, b⟩ | ⟨b, hb, a, c⟩
    · refine ⟨i, by omega, ?_, ?_⟩
      · simp only [drM, a]
      · simp only [drs, b]
        rw [if_pos (Or.inl (by decide)), e1, e2]
    · by_cases q : (edM fn dn N (kN kn) nm sk br b).toInt64 * (sk i).toInt64 < (edM fn dn N (kN kn) nm sk br i).toInt64 * (sk b).toInt64
      · refine ⟨i, by omega, ?_, ?_⟩
        · simp only [drM, a]
          rw [if_pos q]
        · simp only [drs, c]
          rw [e1, e2, if_pos (Or.inr q)]
      · refine ⟨b, by omega, ?_, ?_⟩
        · simp only [drM, a]
          rw [if_neg q]
        · simp only [drs, c]
          rw [e1, e2, if_neg (fun z => z.elim (fun z => nI_pos (by omega) z) q)]
theorem WR.dr {fn : Nat → Nat} {dn N n : Nat} {wf : Nat → Nat → Int32} {wh kn nm sk br ht : Nat → Int32} (hn : n ≤ 12) (h : WR fn dn N n wf wh kn nm sk br ht) : (drs N wf n).1 = fst9I (drM (edM fn dn N (kN kn) nm sk br) sk n) := by
  rcases WR.dr0 hn h n (Nat.le_refl n) with ⟨a, b⟩ | ⟨b, -, a, c⟩
  · rw [a, b]; rfl
  · rw [a, c]; rfl
theorem WR.hg {fn : Nat → Nat} {dn N n : Nat} {wf : Nat → Nat → Int32} {wh kn nm sk br ht : Nat → Int32} (h : WR fn dn N n wf wh kn nm sk br ht) {i : Nat} (hi : i < n) (wn bs : Int32) (h3 : ¬ bs < 1) : hgP (wf i 4) (wf i 3) wn bs = hgM (sk i + br i) wn bs := by
  obtain ⟨-, -, -, e3, e4, -⟩ := (h i hi).1
  funext j
  unfold hgP hgM brX
  rw [e3, e4, if_neg h3]
  exact decide_eq_decide.mpr (i32_hedge _ _ _ _)
theorem lst9_congr {P Q : Nat → Bool} : ∀ {n : Nat}, (∀ w, w ≤ n → P w = Q w) → lst9 P n = lst9 Q n
  | 0, _ => rfl
  | n + 1, h => by
    show (if P (n + 1) = true then n + 1 else lst9 P n) = (if Q (n + 1) = true then n + 1 else lst9 Q n)
    rw [h (n + 1) (Nat.le_refl _), lst9_congr (n := n) (fun w hw => h w (by omega))]
theorem fw_eq {N c : Nat} (hc : c ≤ N) (hN : N ≤ 1728) {bs : Int32} (h3 : ¬ bs < 1) (h4 : bs ≤ 10) : lst9 (fwP N c bs) 20 = lst9 (fwM N (nI c) bs) 20 := by
  obtain ⟨b, hb, eb⟩ := nI_of2 (M := 10) (n := 10) (by decide) (fun z => h3 (Int32.lt_iff_toInt_lt.mpr (by have := Int32.lt_iff_toInt_lt.mp z; rw [show ((0 : Int32)).toInt = 0 from by decide] at this; rw [show ((1 : Int32)).toInt = 1 from by decide]; omega))) h4
  have hb1 : 1 ≤ b := by
    rcases Nat.eq_zero_or_pos b with z | z
    · exact absurd (by rw [eb, z]; decide) h3
    · exact z
  refine lst9_congr (fun w hw => ?_)
  have d1 : 100 * w / b ≤ 2000 := Nat.le_trans (Nat.div_le_self _ _) (by omega)
  have d2 : 100 * w / b * c ≤ 2000 * 1728 := Nat.mul_le_mul d1 (by omega)
  have e1 : (100 : Int32) * nI w / bs = nI (100 * w / b) := by
    rw [show (100 : Int32) = nI 100 from rfl, pk_mul, eb]
    exact pk_div (by omega) hb1 (by omega)
  have e2 : (100 : Int32) * (nI N - nI c) = nI (100 * (N - c)) := by
    rw [show (100 : Int32) = nI 100 from rfl, pk_sub hc, pk_mul]
  unfold fwP fwM brX
  rw [if_neg h3, e1, e2, pk_mul]
  generalize 100 * w / b * c = y at *
  have x1 : 100 * (N - c) ≤ 172800 := by omega
  generalize 100 * (N - c) = x at *
  refine decide_eq_decide.mpr ?_
  rw [nI_ltI (by omega) (by omega), Int32.le_iff_toInt_le, pk_sub_toInt (by omega) (by omega), show ((0 : Int32)).toInt = 0 from by decide]
  omega
theorem WR.stp {f1 f2 f3 : Nat} {fn : Nat → Nat} {dn N n : Nat} {wf : Nat → Nat → Int32} {wh kn nm sk br ht su fa puX puM : Nat → Int32} (hD : DC f1 f2 f3 fn dn N) (hl : laid f2 f3 su fa N) (h : WR fn dn N n wf wh kn nm sk br ht) (hpu : ∀ j, j < 6 → puX j = puM j) {o : Nat} (ho : o < N) : ∀ j, j < 6 → stpX su fa puX wf (kN kn) o n 6 j = stM puM sk br ht (kN wh) o n j := by
  intro j hj
  have e : stpX su fa puX wf (kN kn) o n 6 j = behX su fa puX wf (kN kn) (nI j) j o n := if_pos hj
  rw [e, WR.bh hD hl h hpu ho hj]
  have go : ∀ m, m ≤ n → behM puM wh sk br ht (nI j) j o m = stM puM sk br ht (kN wh) o m j := by
    intro m
    induction m with
    | zero => intro _; rfl
    | succ i ih =>
      intro hm
      have ih := ih (by omega)
      obtain ⟨ew, hw⟩ := h.pt i (by omega)
      unfold behM stM
      by_cases q : ht (1728 * i + o) = 0
      · rw [if_neg (fun z => z.2 q), if_pos q, ih]
      · rw [if_neg q]
        by_cases z : kN wh i = j
        · rw [if_pos ⟨by rw [ew, z], q⟩, z, ih]
          exact (pk_us).symm
        · rw [if_neg (fun y => z ((nI_eq (by omega) (by omega)).mp (ew.symm.trans y.1))), ih]
          exact (pk_un (fun y => z y.symm)).symm
  exact go n (Nat.le_refl n)
theorem WR.dgw {f1 f2 f3 : Nat} {fn : Nat → Nat} {dn N n : Nat} {wf : Nat → Nat → Int32} {wh kn nm sk br ht : Nat → Int32} (hD : DC f1 f2 f3 fn dn N) (hN1 : 1 ≤ N) (hN : N ≤ 1728) (h : WR fn dn N n wf wh kn nm sk br ht) (d : Int64) : ∀ i, i ≤ n → dgW N wf d i = dgWM N (edM fn dn N (kN kn) nm sk br) (fun i => (edM fn dn N (kN kn) nm sk br i).toInt.natAbs) wh sk br d i
  | 0, _ => rfl
  | i + 1, hi => by
    have ih := WR.dgw hD hN1 hN h d i (by omega)
    have e1 := WR.cd hD hN1 hN h i (by omega)
    have e2 := h.go i (by omega)
    obtain ⟨a0, -, -, a3, a4, -⟩ := (h i (by omega)).1
    unfold dgW dgWM
    rw [ih, e1, e2, a0, a3, a4]
theorem dgP_congr {puX puM : Nat → Int32} {f g : Nat → Nat → Int32} {N : Nat} {d : Int64} (hN : 1 ≤ N) (hp : ∀ j, j < 6 → puX j = puM j) (hf : ∀ p o, p < 6 → o < N → f p o = g p o) : ∀ n, n ≤ 6 → dgP puX f N d n = dgP puM g N d n
  | 0, _ => rfl
  | i + 1, hi => by
    have ih := dgP_congr hN hp hf (d := d) i (by omega)
    unfold dgP
    rw [ih, hp i (by omega), mnX_congr (f := f i) (g := g i) (fun o ho => hf i o (by omega) (by omega)), alleq_congr (f := f i) (g := g i) hN (fun o ho => hf i o (by omega) ho)]
theorem dgK_congr {f g : Nat → Int32} {d : Int64} : ∀ {n : Nat}, (∀ i, i < n → f i = g i) → dgK f d n = dgK g d n
  | 0, _ => rfl
  | n + 1, h => by
    unfold dgK
    rw [dgK_congr (n := n) (fun i hi => h i (by omega)), h n (by omega)]
