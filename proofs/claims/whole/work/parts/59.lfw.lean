/-! what both sides hold behind a call that writes -/
theorem hitM_ne {ht : Nat → Int32} {f : Nat → Bool} {w j : Nat} : ∀ {m : Nat}, (∀ o, o < m → j ≠ 1728 * w + o) → hitM ht f w m j = ht j
  | 0, _ => rfl
  | m + 1, h => by
    show upd (hitM ht f w m) (1728 * w + m) (b2i (f m)) j = _
    rw [pk_un (h m (by omega)), hitM_ne (m := m) (fun o ho => h o (by omega))]
theorem hitM_at {ht : Nat → Int32} {f : Nat → Bool} {w o : Nat} : ∀ {m : Nat}, o < m → hitM ht f w m (1728 * w + o) = b2i (f o)
  | m + 1, h => by
    show upd (hitM ht f w m) (1728 * w + m) (b2i (f m)) (1728 * w + o) = _
    by_cases e : o = m
    · subst e
      exact pk_us
    · rw [pk_un (by omega), hitM_at (m := m) (by omega)]
theorem fits_hitM {ht : Nat → Int32} {f : Nat → Bool} {w : Nat} (h : ∀ j, fits .boolean (.int (ht j)) = true) : ∀ m j, fits .boolean (.int (hitM ht f w m j)) = true
  | 0, j => h j
  | m + 1, j => by
    show fits .boolean (.int (if j = _ then _ else _)) = true
    split
    · exact fits_b2i _
    · exact fits_hitM h m j
theorem shH_at {N : Nat} {f : Nat → Int32} {w : Nat} (hN : N ≤ 1728) {j o : Nat} (ho : o < N) : ∀ k, shH N f w k (1728 * j + o) = if w ≤ j ∧ j < w + k then f (1728 * (j + 1) + o) else f (1728 * j + o)
  | 0 => by rw [if_neg (by omega)]; rfl
  | k + 1 => by
    show (if 1728 * (w + k) ≤ 1728 * j + o ∧ 1728 * j + o < 1728 * (w + k) + N then shH N f w k (1728 * (w + k + 1) + (1728 * j + o - 1728 * (w + k))) else shH N f w k (1728 * j + o)) = _
    by_cases e : j = w + k
    · rw [if_pos (by omega), if_pos (by omega), show 1728 * (w + k + 1) + (1728 * j + o - 1728 * (w + k)) = 1728 * (j + 1) + o by omega, shH_at hN ho k, if_neg (by omega)]
    · rw [if_neg (by omega), shH_at hN ho k]
      by_cases q : w ≤ j ∧ j < w + k
      · rw [if_pos q, if_pos (by omega)]
      · rw [if_neg q, if_neg (by omega)]
theorem lo_ex {x M : Int32} {n : Nat} (hM : M.toInt = n) (h1 : ¬ x < 1) (h2 : x ≤ M) : ∃ j : Nat, 1 ≤ j ∧ j ≤ n ∧ x = nI j := by
  obtain ⟨j, hj, e⟩ := nI_of2 (x := x) hM (fun z => h1 (by
    have a := i32_lt.mp z
    rw [t32_0] at a
    rw [i32_lt, t32_1]
    omega)) h2
  refine ⟨j, ?_, hj, e⟩
  rcases Nat.eq_zero_or_pos j with z | z
  · exact absurd (by rw [e, z]; decide) h1
  · exact z
theorem ne0_lo {x : Int32} (h : ¬ x < 1) : ¬ x = 0 := fun e => h (by rw [e]; decide)
/-- one more wager -/
theorem WR.lay {f1 f2 f3 : Nat} {fn : Nat → Nat} {dn N n : Nat} {wf : Nat → Nat → Int32} {wh kn nm sk br ht su fa : Nat → Int32} (hD : DC f1 f2 f3 fn dn N) (hl : laid f2 f3 su fa N) (hN : N ≤ 1728) (h : WR fn dn N n wf wh kn nm sk br ht) {p9 k9 q9 : Nat} {st wn bs : Int32} (hp : p9 < 6) (hk : k9 < 10) (hq : q9 ≤ 36) (hs1 : ¬ st < 1) (hs2 : st ≤ 100) (h1 : ¬ wn < 1) (h2 : wn ≤ 20) (h3 : ¬ bs < 1) (h4 : bs ≤ 10) :
    WR fn dn N (n + 1) (fun i => if i = n then wvF (nI p9) (nI k9) (nI q9) st (brX st wn bs) (nI (cn (comesX su fa k9 (nI q9)) N)) else wf i) (upd wh n (nI p9)) (upd kn n (nI k9)) (upd nm n (nI q9)) (upd sk n st) (upd br n (st * wn / bs)) (hitM ht (fun o => comesM fn dn k9 (nI q9) o) n N) := by
  intro i hi
  by_cases e : i = n
  · subst e
    have ek : iN (nI k9) = k9 := iN_nI (by omega)
    obtain ⟨a, a1, a2, ea⟩ := lo_ex (n := 100) (by decide) hs1 hs2
    obtain ⟨w, w1, w2, ew⟩ := lo_ex (n := 20) (by decide) h1 h2
    obtain ⟨d, d1, d2, ed⟩ := lo_ex (n := 10) (by decide) h3 h4
    have b1 : a * w ≤ 100 * 20 := Nat.mul_le_mul a2 w2
    have b2 : a * w / d ≤ 2000 := Nat.le_trans (Nat.div_le_self _ _) (by omega)
    have eb : st * wn / bs = nI (a * w / d) := by
      rw [ea, ew, ed, pk_mul]
      exact pk_div (by omega) d1 (by omega)
    show W1 fn dn N (if i = i then _ else _) (upd wh i (nI p9) i) (upd kn i (nI k9) i) (upd nm i (nI q9) i) (upd sk i st i) (upd br i (st * wn / bs) i) _
    rw [if_pos rfl, pk_us, pk_us, pk_us, pk_us, pk_us]
    refine ⟨⟨rfl, rfl, rfl, rfl, if_neg h3, ?_⟩, ?_, ?_, ?_, ?_, ?_, ?_⟩
    · rw [ek]
      exact dc_many hD hl hk hq
    · rw [iN_nI (show p9 < 2 ^ 31 by omega)]; exact ⟨rfl, hp⟩
    · rw [ek]; exact ⟨rfl, hk⟩
    · rw [iN_nI (show q9 < 2 ^ 31 by omega)]; exact ⟨rfl, hq⟩
    · rw [ea, iN_nI (show a < 2 ^ 31 by omega)]; exact ⟨rfl, a1, a2⟩
    · rw [eb, iN_nI (show a * w / d < 2 ^ 31 by omega)]; exact ⟨rfl, b2⟩
    · intro o ho
      rw [ek]
      exact hitM_at ho
  · have hi2 : i < n := by omega
    show W1 fn dn N (if i = n then _ else wf i) (upd wh n (nI p9) i) (upd kn n (nI k9) i) (upd nm n (nI q9) i) (upd sk n st i) (upd br n (st * wn / bs) i) _
    rw [if_neg e, pk_un e, pk_un e, pk_un e, pk_un e, pk_un e]
    obtain ⟨c1, c2, c3, c4, c5, c6, c7⟩ := h i hi2
    refine ⟨c1, c2, c3, c4, c5, c6, fun o ho => ?_⟩
    show hitM ht _ n N (1728 * i + o) = _
    rw [hitM_ne (fun o' ho' => by omega)]
    exact c7 o ho
/-- one less -/
theorem WR.take {fn : Nat → Nat} {dn N n1 : Nat} {wf : Nat → Nat → Int32} {wh kn nm sk br ht : Nat → Int32} (hN : N ≤ 1728) (h : WR fn dn N (n1 + 1) wf wh kn nm sk br ht) {i : Nat} (hi : i < n1 + 1) :
    WR fn dn N n1 (fun j => wf (if j < i then j else j + 1)) (shM wh i n1) (shM kn i n1) (shM nm i n1) (shM sk i n1) (shM br i n1) (shH N ht i (n1 - i)) := by
  intro j hj
  have e : ∀ f : Nat → Int32, shM f i n1 j = f (if j < i then j else j + 1) := by
    intro f
    show (if i ≤ j ∧ j < n1 then f (j + 1) else f j) = _
    by_cases z : j < i
    · rw [if_neg (by omega), if_pos z]
    · rw [if_pos (by omega), if_neg z]
  rw [e, e, e, e, e]
  have hk : (if j < i then j else j + 1) < n1 + 1 := by split <;> omega
  obtain ⟨c1, c2, c3, c4, c5, c6, c7⟩ := h _ hk
  refine ⟨c1, c2, c3, c4, c5, c6, fun o ho => ?_⟩
  show shH N ht i (n1 - i) (1728 * j + o) = _
  rw [← c7 o ho, shH_at hN ho]
  by_cases z : j < i
  · rw [if_neg (by omega), if_pos z]
  · rw [if_pos (by omega), if_neg z]
theorem WR.none {fn : Nat → Nat} {dn N : Nat} {wf : Nat → Nat → Int32} {wh kn nm sk br ht : Nat → Int32} : WR fn dn N 0 wf wh kn nm sk br ht := fun i hi => absurd hi (Nat.not_lt_zero i)
theorem FM.n {fn : Nat → Nat} {dn N n n' : Nat} {fc : Nat → Int32} (h : FM fn dn N n fc) (hn : n' ≤ 12) : FM fn dn N n' fc := ⟨h.1, h.2.1, h.2.2.1, h.2.2.2.1, h.2.2.2.2.1, h.2.2.2.2.2.1, hn⟩
theorem LT.lay {cs : Nat → ClassId} {z : Nat} {ad : Nat → Nat} {n cap : Nat} {rf : Nat → Option Nat} {wa : Nat → Nat} {wf : Nat → Nat → Int32} {T2 : va_W} {v : Nat → Int32} {xw : Nat} (hc : cap = 10 ∨ cap = 15) (hn : n + 1 ≤ cap) (hw : ∀ i, i < n → wG wa wf i ∈ T2) (hr : ∀ i, i < n → rf i = some (wa i)) (hx : rf n = some xw) :
    LT cs z ad (n + 1) cap rf (fun i => if i = n then xw else wa i) (fun i => if i = n then v else wf i) (wE cs ad cap rf :: wG (fun i => if i = n then xw else wa i) (fun i => if i = n then v else wf i) n :: T2) := by
  refine Or.inr ⟨hc, hn, ⟨_, rfl, fun i hi => ?_⟩, fun i hi => ?_⟩
  · by_cases e : i = n
    · subst e
      exact List.mem_cons_self
    · refine List.mem_cons_of_mem _ ?_
      have q := hw i (by omega)
      show (_, _) ∈ T2
      dsimp only
      rw [if_neg e, if_neg e]
      exact q
  · dsimp only
    by_cases e : i = n
    · subst e
      rw [if_pos rfl, hx]
    · rw [if_neg e]
      exact hr i (by omega)
theorem LF.lay {cs : Nat → ClassId} {z : Nat} {ad : Nat → Nat} {cnt : Int32} {f1 f2 f3 dn N n cap : Nat} {fn : Nat → Nat} {fc puM wh kn nm sk br ht su fa puX : Nat → Int32} {rf : Nat → Option Nat} {wa : Nat → Nat} {wf : Nat → Nat → Int32} {T : va_W} (hF : LF cs z ad cnt f1 f2 f3 dn N n cap fn fc puM wh kn nm sk br ht su fa puX rf wa wf T) (hn : n < 12) {p9 k9 q9 : Nat} {st wn bs : Int32} (hp : p9 < 6) (hk : k9 < 10) (hq : q9 ≤ 36) (hs1 : ¬ st < 1) (hs2 : st ≤ 100) (h1 : ¬ wn < 1) (h2 : wn ≤ 20) (h3 : ¬ bs < 1) (h4 : bs ≤ 10) {ad' : Nat → Nat} {cap' : Nat} {rf' : Nat → Option Nat} {wa' : Nat → Nat} {T' : va_W}
    (hT : LT cs z ad' (n + 1) cap' rf' wa' (fun i => if i = n then wvF (nI p9) (nI k9) (nI q9) st (brX st wn bs) (nI (cn (comesX su fa k9 (nI q9)) N)) else wf i) T') :
    LF cs z ad' cnt f1 f2 f3 dn N (n + 1) cap' fn fc (upd puM p9 (puM p9 - st)) (upd wh n (nI p9)) (upd kn n (nI k9)) (upd nm n (nI q9)) (upd sk n st) (upd br n (st * wn / bs)) (hitM ht (fun o => comesM fn dn k9 (nI q9) o) n N) su fa (upd puX p9 (puX p9 - st)) rf' wa' (fun i => if i = n then wvF (nI p9) (nI k9) (nI q9) st (brX st wn bs) (nI (cn (comesX su fa k9 (nI q9)) N)) else wf i) T' := by
  obtain ⟨-, hN, -⟩ := hF.N1
  obtain ⟨hDC, hla, hFM, hWR, hpu, hB, hcnt, -⟩ := hF
  refine ⟨hDC, hla, hFM.n (by omega), WR.lay hDC hla hN hWR hp hk hq hs1 hs2 h1 h2 h3 h4, fun j hj => ?_, fits_hitM hB N, hcnt, hT⟩
  by_cases e : j = p9
  · subst e
    rw [pk_us, pk_us, hpu j hj]
  · rw [pk_un e, pk_un e, hpu j hj]
theorem LF.take {cs : Nat → ClassId} {z : Nat} {ad : Nat → Nat} {cnt : Int32} {f1 f2 f3 dn N n1 cap : Nat} {fn : Nat → Nat} {fc puM wh kn nm sk br ht su fa puX : Nat → Int32} {rf : Nat → Option Nat} {wa : Nat → Nat} {wf : Nat → Nat → Int32} {T1 : va_W} (hF : LF cs z ad cnt f1 f2 f3 dn N (n1 + 1) cap fn fc puM wh kn nm sk br ht su fa puX rf wa wf (wE cs ad cap rf :: T1)) (hc : cap = 10 ∨ cap = 15) (hn : n1 + 1 ≤ cap) (hw : ∀ i, i < n1 + 1 → wG wa wf i ∈ T1) (hr : ∀ i, i < n1 + 1 → rf i = some (wa i)) {i : Nat} (hi : i < n1 + 1) :
    LF cs z ad cnt f1 f2 f3 dn N n1 cap fn fc (upd puM (kN wh i) (puM (kN wh i) + sk i)) (shM wh i n1) (shM kn i n1) (shM nm i n1) (shM sk i n1) (shM br i n1) (shH N ht i (n1 - i)) su fa (upd puX (kN wh i) (puX (kN wh i) + wf i 3)) (shR rf i n1) (fun j => wa (if j < i then j else j + 1)) (fun j => wf (if j < i then j else j + 1)) (wE cs ad cap (shR rf i n1) :: T1) := by
  obtain ⟨-, hN, hn12⟩ := hF.N1
  obtain ⟨hDC, hla, hFM, hWR, hpu, hB, hcnt, -⟩ := hF
  refine ⟨hDC, hla, hFM.n (by omega), hWR.take hN hi, fun j hj => ?_, fits_shH hB _, hcnt, Or.inr ⟨hc, by omega, ⟨T1, rfl, fun j hj => ?_⟩, fun j hj => ?_⟩⟩
  · rw [(hWR i hi).1.2.2.2.1]
    by_cases e : j = kN wh i
    · rw [e, pk_us, pk_us, hpu _ (hWR.pt i hi).2]
    · rw [pk_un e, pk_un e, hpu j hj]
  · exact hw _ (by split <;> omega)
  · rw [shR_at hj]
    exact hr _ (by split <;> omega)
theorem LF.settle {cs : Nat → ClassId} {z : Nat} {ad : Nat → Nat} {cnt : Int32} {f1 f2 f3 dn N n cap : Nat} {fn : Nat → Nat} {fc puM wh kn nm sk br ht su fa puX : Nat → Int32} {rf : Nat → Option Nat} {wa : Nat → Nat} {wf : Nat → Nat → Int32} {T : va_W} (hF : LF cs z ad cnt f1 f2 f3 dn N n cap fn fc puM wh kn nm sk br ht su fa puX rf wa wf T) {o : Nat} (ho : o < N) {rf' : Nat → Option Nat} {T' : va_W} (hT : LT cs z ad 0 cap rf' wa wf T') :
    LF cs z ad cnt f1 f2 f3 dn N 0 cap fn fc (stM puM sk br ht (kN wh) o n) wh kn nm sk br ht su fa (stpX su fa puX wf (kN kn) o n 6) rf' wa wf T' := by
  obtain ⟨hDC, hla, hFM, hWR, hpu, hB, hcnt, -⟩ := hF
  exact ⟨hDC, hla, hFM.n (by omega), WR.none, WR.stp hDC hla hWR hpu ho, hB, hcnt, hT⟩
def fnS (a b c : Nat) : Nat → Nat := fun j => match j with
  | 0 => a
  | 1 => b
  | _ => c
theorem LF.dice {cs : Nat → ClassId} {z : Nat} {ad : Nat → Nat} {cnt : Int32} {f1 f2 f3 dn N cap : Nat} {fn : Nat → Nat} {fc puM wh kn nm sk br ht su fa puX : Nat → Int32} {rf : Nat → Option Nat} {wa : Nat → Nat} {wf : Nat → Nat → Int32} {T : va_W} (hF : LF cs z ad cnt f1 f2 f3 dn N 0 cap fn fc puM wh kn nm sk br ht su fa puX rf wa wf T) {g1 g2 g3 dn' N' : Nat} {sl fl : Nat → Int32} (a1 : 2 ≤ g1 ∧ g1 ≤ 12) (a2 : g2 ≤ 12) (a3 : g3 ≤ 12) (a4 : g2 = 0 → g3 = 0) (ed : dn' = 1 + (if g2 = 0 then 0 else 1) + (if g3 = 0 then 0 else 1)) (eN : N' = g1 * exN g2 * exN g3) (hl : laid g2 g3 sl fl N') :
    LF cs z ad (nI dn') g1 g2 g3 dn' N' 0 cap (fnS g1 (exN g2) (exN g3)) (upd (upd (upd fc 0 (nI g1)) 1 (nI (exN g2))) 2 (nI (exN g3))) puM wh kn nm sk br ht sl fl puX rf wa wf T := by
  obtain ⟨hDC, hla, hFM, hWR, hpu, hB, hcnt, hT⟩ := hF
  have b2 := ex_le a2
  have b3 := ex_le a3
  have c2 := exN_pos g2
  have c3 := exN_pos g3
  have m1 : 1 * 1 * 1 ≤ g1 * exN g2 * exN g3 := Nat.mul_le_mul (Nat.mul_le_mul (by omega) c2) c3
  have m2 : g1 * exN g2 * exN g3 ≤ 12 * 12 * 12 := Nat.mul_le_mul (Nat.mul_le_mul a1.2 b2) b3
  refine ⟨⟨a1, a2, a3, a4, rfl, rfl, rfl, ed, eN⟩, hl, ⟨fun j hj => ?_, ?_, ?_, eN, by omega, by omega, by omega⟩, WR.none, hpu, hB, rfl, hT⟩
  · match j, hj with
    | 0, _ => exact ⟨by rw [pk_un (by omega), pk_un (by omega), pk_us]; rfl, by show 1 ≤ g1 ∧ g1 ≤ 12; omega⟩
    | 1, _ => exact ⟨by rw [pk_un (by omega), pk_us]; rfl, by show 1 ≤ exN g2 ∧ exN g2 ≤ 12; omega⟩
    | 2, _ => exact ⟨by rw [pk_us]; rfl, by show 1 ≤ exN g3 ∧ exN g3 ≤ 12; omega⟩
  · rw [ed]; omega
  · rw [ed]; split <;> split <;> omega
theorem LF.dg {cs : Nat → ClassId} {z : Nat} {ad : Nat → Nat} {cnt : Int32} {f1 f2 f3 dn N n cap : Nat} {fn : Nat → Nat} {fc puM wh kn nm sk br ht su fa puX : Nat → Int32} {rf : Nat → Option Nat} {wa : Nat → Nat} {wf : Nat → Nat → Int32} {T : va_W} (hF : LF cs z ad cnt f1 f2 f3 dn N n cap fn fc puM wh kn nm sk br ht su fa puX rf wa wf T) (bank rnds : Int32) :
    dgK (fun k => nI (cn (comesX su fa k 7) N)) (dgP puX (fun p o => behX su fa puX wf (kN kn) (nI p) p o n) N (dgW N wf (dgH 2141 cnt.toInt64 (nI N).toInt64 (nI n).toInt64 bank.toInt64 rnds.toInt64 (sm (fun i => wf i 3) n).toInt64 (sm (goX N wf) n / cdX (sm (goX N wf) n) (nI N)).toInt64 (nI N / cdX (sm (goX N wf) n) (nI N)).toInt64 ((drs N wf n).1).toInt64 (sm (gnX su fa wf (kN kn) (wst (fun o => sm (gnX su fa wf (kN kn) o) n) N)) n).toInt64 (nI (wst (fun o => sm (gnX su fa wf (kN kn) o) n) N)).toInt64) n) 6) 10
    = dgK (fun k => manyM fn dn N k 7) (dgP puM (fun p o => behM puM wh sk br ht (nI p) p o n) N (dgWM N (edM fn dn N (kN kn) nm sk br) (fun i => (edM fn dn N (kN kn) nm sk br i).toInt.natAbs) wh sk br (dgH 2141 (nI dn).toInt64 (nI N).toInt64 (nI n).toInt64 bank.toInt64 rnds.toInt64 (sm sk n).toInt64 (sm (edM fn dn N (kN kn) nm sk br) n / nI (Nat.gcd (sm (edM fn dn N (kN kn) nm sk br) n).toInt.natAbs N)).toInt64 (nI N / nI (Nat.gcd (sm (edM fn dn N (kN kn) nm sk br) n).toInt.natAbs N)).toInt64 (fst9I (drM (edM fn dn N (kN kn) nm sk br) sk n)).toInt64 (sm (gnM ht sk br (wst (fun o => sm (gnM ht sk br o) n) N)) n).toInt64 (nI (wst (fun o => sm (gnM ht sk br o) n) N)).toInt64) n) 6) 10 := by
  obtain ⟨h1, h2, h3⟩ := hF.N1
  obtain ⟨hDC, hla, -, hWR, hpu, -, hcnt, -⟩ := hF
  rw [WR.wg hDC h1 hla hWR, WR.wo hDC h1 hla hWR, hWR.dr h3, hWR.cds hDC h1 h2 h3, hWR.sgo, hWR.st, hcnt, hWR.dgw hDC h1 h2 _ n (Nat.le_refl n)]
  rw [dgP_congr (f := fun p o => behX su fa puX wf (kN kn) (nI p) p o n) (g := fun p o => behM puM wh sk br ht (nI p) p o n) h1 hpu (fun p o hp ho => WR.bh hDC hla hWR hpu ho hp) 6 (Nat.le_refl 6)]
  exact dgK_congr (fun k hk => dc_many hDC hla hk (q := 7) (by omega))
