/-! both ledgers in one world: its cells, what holds of them, what each deed leaves -/
def iN (x : Int32) : Nat := x.toNatClampNeg
theorem iN_nI {k : Nat} (h : k < 2 ^ 31) : iN (nI k) = k := nI_clamp h
/-- the numbers of one wager -/
def W1 (N : Nat) (su fa : Nat → Int32) (w : Nat → Int32) : Prop := (w 0 = nI (iN (w 0)) ∧ iN (w 0) < 6) ∧ (w 1 = nI (iN (w 1)) ∧ iN (w 1) < 10) ∧ (w 2 = nI (iN (w 2)) ∧ iN (w 2) ≤ 36) ∧ (w 3 = nI (iN (w 3)) ∧ 1 ≤ iN (w 3) ∧ iN (w 3) ≤ 100) ∧ (w 4 = nI (iN (w 4)) ∧ iN (w 4) ≤ 2000) ∧ w 5 = nI (cn (comesX su fa (iN (w 1)) (w 2)) N)
def WQ (N : Nat) (su fa : Nat → Int32) (n : Nat) (wf : Nat → Nat → Int32) : Prop := ∀ i, i < n → W1 N su fa (wf i)
def LT (cs : Nat → ClassId) (z : Nat) (ad : Nat → Nat) (n cap : Nat) (rf : Nat → Option Nat) (wa : Nat → Nat) (wf : Nat → Nat → Int32) (EL T : va_W) : Prop :=
  (cap = 0 ∧ n = 0 ∧ ad 6 = z ∧ EL = []) ∨ ((cap = 10 ∨ cap = 15) ∧ n ≤ cap ∧ EL = [wE cs ad cap rf] ∧ ∀ i, i < n → wG wa wf i ∈ T ∧ rf i = some (wa i))
abbrev JW (cs : Nat → ClassId) (ad sa : Nat → Nat) (bank rnds cnt mcn : Int32) (dn N n : Nat) (su fa pu df pv : Nat → Int32) (rs rw : Nat → Option Nat) (EL T : va_W) : va_W :=
  wX cs ad bank rnds cnt mcn N n su fa pu ++ (wS cs sa bank rnds dn N n df pv rs rw ++ (EL ++ T))
def JF (cs : Nat → ClassId) (z k : Nat) (ad : Nat → Nat) (bank cnt : Int32) (f1 f2 f3 dn N n cap : Nat) (fn : Nat → Nat) (su fa pu pv : Nat → Int32) (rf : Nat → Option Nat) (wa : Nat → Nat) (wf : Nat → Nat → Int32) (rs rw : Nat → Option Nat) (sr wr : Nat → Nat) (sf wg : Nat → Nat → Int32) (EL T : va_W) : Prop :=
  DC f1 f2 f3 fn dn N ∧ laid f2 f3 su fa N ∧ WQ N su fa n wf ∧ (∀ j, j < 6 → pv j = pu j) ∧ cnt = nI dn ∧ LT cs z ad n cap rf wa wf EL T ∧ ST9 cs dn N n rs rw sr wr sf wg T ∧ SF fn dn N n sf wg wf (kW wf) ∧ sm pu 6 + bank + sm (fun i => wf i 3) n = 1100 ∧ ∀ j, j < 6 → ∃ v : Nat, pu j = nI v ∧ v ≤ 30000 * k + 100
def JI (cs : Nat → ClassId) (z a0 s0 k : Nat) (w : va_W) : Prop :=
  ∃ (ad sa : Nat → Nat) (bank rnds cnt mcn : Int32) (f1 f2 f3 dn N n cap : Nat) (fn : Nat → Nat) (su fa pu df pv : Nat → Int32) (rf : Nat → Option Nat) (wa : Nat → Nat) (wf : Nat → Nat → Int32) (rs rw : Nat → Option Nat) (sr wr : Nat → Nat) (sf wg : Nat → Nat → Int32) (EL T : va_W),
    ad 0 = a0 ∧ sa 0 = s0 ∧ JF cs z k ad bank cnt f1 f2 f3 dn N n cap fn su fa pu pv rf wa wf rs rw sr wr sf wg EL T ∧ w = JW cs ad sa bank rnds cnt mcn dn N n su fa pu df pv rs rw EL T
theorem JI.mk {cs : Nat → ClassId} {z k : Nat} {ad sa : Nat → Nat} {bank rnds cnt mcn : Int32} {f1 f2 f3 dn N n cap : Nat} {fn : Nat → Nat} {su fa pu df pv : Nat → Int32} {rf : Nat → Option Nat} {wa : Nat → Nat} {wf : Nat → Nat → Int32} {rs rw : Nat → Option Nat} {sr wr : Nat → Nat} {sf wg : Nat → Nat → Int32} {EL T : va_W} (h : JF cs z k ad bank cnt f1 f2 f3 dn N n cap fn su fa pu pv rf wa wf rs rw sr wr sf wg EL T) : JI cs z (ad 0) (sa 0) k (JW cs ad sa bank rnds cnt mcn dn N n su fa pu df pv rs rw EL T) :=
  ⟨ad, sa, bank, rnds, cnt, mcn, f1, f2, f3, dn, N, n, cap, fn, su, fa, pu, df, pv, rf, wa, wf, rs, rw, sr, wr, sf, wg, EL, T, rfl, rfl, h, rfl⟩
section JFs
variable {cs : Nat → ClassId} {z k : Nat} {ad sa : Nat → Nat} {bank rnds cnt mcn : Int32} {f1 f2 f3 dn N n cap : Nat} {fn : Nat → Nat} {su fa pu df pv : Nat → Int32} {rf : Nat → Option Nat} {wa : Nat → Nat} {wf : Nat → Nat → Int32} {rs rw : Nat → Option Nat} {sr wr : Nat → Nat} {sf wg : Nat → Nat → Int32} {EL T : va_W}
theorem JF.mono (h : JF cs z k ad bank cnt f1 f2 f3 dn N n cap fn su fa pu pv rf wa wf rs rw sr wr sf wg EL T) {k' : Nat} (hk : k ≤ k') : JF cs z k' ad bank cnt f1 f2 f3 dn N n cap fn su fa pu pv rf wa wf rs rw sr wr sf wg EL T := by
  obtain ⟨h1, h2, h3, h4, h5, h6, h7, h8, h9, h10⟩ := h
  refine ⟨h1, h2, h3, h4, h5, h6, h7, h8, h9, fun j hj => ?_⟩
  obtain ⟨v, e, hv⟩ := h10 j hj
  exact ⟨v, e, by omega⟩
theorem JF.N1 (h : JF cs z k ad bank cnt f1 f2 f3 dn N n cap fn su fa pu pv rf wa wf rs rw sr wr sf wg EL T) : 1 ≤ N ∧ N ≤ 1728 ∧ n ≤ 12 := h.2.2.2.2.2.2.2.1.2.2.2.2.2
theorem WQ.kd (h : WQ N su fa n wf) : ∀ i, i < n → wf i 1 = nI (kW wf i) ∧ kW wf i < 10 := fun i hi => (h i hi).2.1
theorem JF.rx (h : JF cs z k ad bank cnt f1 f2 f3 dn N n cap fn su fa pu pv rf wa wf rs rw sr wr sf wg EL T) {D : va_G} {H : Heap} {ws : va_W} (hP : va_P D vwCl ws H) (hX : ∀ q ∈ wX cs ad bank rnds cnt mcn N n su fa pu ++ (EL ++ T), q ∈ ws) : RX D cs H ad bank rnds cnt mcn N n cap su fa pu rf wa wf (kW wf) := by
  obtain ⟨h1, h2, h3⟩ := h.N1
  obtain ⟨-, -, hW, -, -, hT, -⟩ := h
  refine ⟨vaP_mem hP (fun q hq => hX q (List.mem_append_left _ hq)), ?_, h1, h2, h3, ?_⟩
  · intro i hi
    rcases hT with ⟨-, e, -⟩ | ⟨hc, hn, eE, hT1⟩
    · rw [e] at hi
      exact absurd hi (Nat.not_lt_zero _)
    · refine ⟨vaP_mem hP (fun q hq => ?_), vaP_mem hP (fun q hq => ?_), (hT1 i hi).2, (hW.kd i hi).1, (hW.kd i hi).2, Nat.lt_of_lt_of_le hi hn⟩
      · rw [List.mem_singleton.mp hq]
        exact hX _ (List.mem_append_right _ (List.mem_append_right _ (hT1 i hi).1))
      · rw [List.mem_singleton.mp hq]
        refine hX _ (List.mem_append_right _ (List.mem_append_left _ ?_))
        rw [eE]
        exact List.mem_singleton.mpr rfl
  · rcases hT with ⟨e, -⟩ | ⟨e | e, -⟩ <;> omega
theorem JF.rsx (h : JF cs z k ad bank cnt f1 f2 f3 dn N n cap fn su fa pu pv rf wa wf rs rw sr wr sf wg EL T) {D : va_G} {H : Heap} {ws : va_W} (hP : va_P D vwCl ws H) (hX : ∀ q ∈ wS cs sa bank rnds dn N n df pv rs rw ++ T, q ∈ ws) : RS D cs H sa bank rnds fn dn N n df pv rs rw sr wr sf wg wf (kW wf) :=
  rs_of hP hX h.2.2.2.2.2.2.1 h.2.2.2.2.2.2.2.1
/-! the numbers: by the faces and by the class's rows -/
theorem jc_comes (hD : DC f1 f2 f3 fn dn N) (hl : laid f2 f3 su fa N) (hW : WQ N su fa n wf) {o i : Nat} (ho : o < N) (hi : i < n) : comesX su fa (kW wf i) (wf i 2) o = comesM fn dn (kW wf i) (wf i 2) o := by
  obtain ⟨-, ⟨-, hk⟩, ⟨eq, hq⟩, -⟩ := hW i hi
  rw [eq]
  exact dc_comes hD hl ho hk hq
theorem jc_gn (hD : DC f1 f2 f3 fn dn N) (hl : laid f2 f3 su fa N) (hW : WQ N su fa n wf) {o i : Nat} (ho : o < N) (hi : i < n) : gnS fn dn wf (kW wf) o i = gnX su fa wf (kW wf) o i := by
  unfold gnS gnX
  rw [jc_comes hD hl hW ho hi]
theorem jc_sgn (hD : DC f1 f2 f3 fn dn N) (hl : laid f2 f3 su fa N) (hW : WQ N su fa n wf) {o : Nat} (ho : o < N) : sm (gnS fn dn wf (kW wf) o) n = sm (gnX su fa wf (kW wf) o) n := sm_congr (fun _ hi => jc_gn hD hl hW ho hi)
theorem jc_beh0 (hD : DC f1 f2 f3 fn dn N) (hl : laid f2 f3 su fa N) (hW : WQ N su fa n wf) {o : Nat} (ho : o < N) {p : Int32} {pi : Nat} (hp : pv pi = pu pi) : ∀ m, m ≤ n → behS fn dn pv wf (kW wf) p pi o m = behX su fa pu wf (kW wf) p pi o m
  | 0, _ => hp
  | i + 1, hm => by
    have ih := jc_beh0 hD hl hW ho hp (p := p) i (by omega)
    unfold behS behX
    rw [ih, jc_comes hD hl hW ho (show i < n by omega)]
    split
    · rfl
    · exact Int32.add_zero _
theorem jc_beh (hD : DC f1 f2 f3 fn dn N) (hl : laid f2 f3 su fa N) (hW : WQ N su fa n wf) (hpv : ∀ j, j < 6 → pv j = pu j) {o p : Nat} (ho : o < N) (hp : p < 6) : behS fn dn pv wf (kW wf) (nI p) p o n = behX su fa pu wf (kW wf) (nI p) p o n := jc_beh0 hD hl hW ho (hpv p hp) n (Nat.le_refl n)
theorem nI_s (m : Nat) : nI (m + 1) = nI m + 1 := (nI_1 m).symm
theorem sm_edge (p : Nat → Bool) (s b : Int32) : ∀ m, sm (fun o => if p o = true then -b else s) m = s * (nI m - nI (cn p m)) - b * nI (cn p m)
  | 0 => by
    show (0 : Int32) = s * (nI 0 - nI 0) - b * nI 0
    rw [show nI 0 = (0 : Int32) from rfl]
    grind
  | m + 1 => by
    have ih := sm_edge p s b m
    show sm _ m + (if p m = true then -b else s) = _
    rw [ih, nI_s m]
    by_cases h : p m = true
    · rw [if_pos h, cn_t h, nI_s (cn p m)]
      grind
    · rw [if_neg h, cn_f (by rwa [Bool.not_eq_true] at h)]
      grind
theorem jc_edge (hD : DC f1 f2 f3 fn dn N) (hl : laid f2 f3 su fa N) (hW : WQ N su fa n wf) {i : Nat} (hi : i < n) : sm (fun o => gnS fn dn wf (kW wf) o i) N = goX N wf i := by
  rw [sm_congr (g := fun o => if comesX su fa (kW wf i) (wf i 2) o = true then -(wf i 4) else wf i 3) (fun o ho => by rw [jc_gn hD hl hW ho hi]; rfl), sm_edge]
  unfold goX
  rw [(hW i hi).2.2.2.2.2]
  rfl
/-! sums of purses and stakes -/
theorem sm_add (f g : Nat → Int32) : ∀ m, sm (fun i => f i + g i) m = sm f m + sm g m
  | 0 => by show (0 : Int32) = 0 + 0; decide
  | m + 1 => by
    show sm _ m + (f m + g m) = (sm f m + f m) + (sm g m + g m)
    rw [sm_add f g m]
    grind
theorem sm_one (v : Int32) (p : Nat) : ∀ m, sm (fun j => if j = p then v else 0) m = if p < m then v else 0
  | 0 => by rw [if_neg (Nat.not_lt_zero p)]; rfl
  | m + 1 => by
    show sm _ m + (if m = p then v else 0) = _
    rw [sm_one v p m]
    by_cases h : p < m
    · rw [if_pos h, if_neg (by omega), if_pos (by omega)]
      exact Int32.add_zero v
    · by_cases h2 : m = p
      · rw [if_neg h, if_pos h2, if_pos (by omega)]
        exact Int32.zero_add v
      · rw [if_neg h, if_neg h2, if_neg (by omega)]
        decide
theorem sm_upd (f : Nat → Int32) {p m : Nat} (h : p < m) (v : Int32) : sm (upd f p v) m = sm f m + (v - f p) := by
  have e : sm (upd f p v) m = sm (fun j => f j + (if j = p then v - f p else 0)) m := sm_congr (fun j _ => by
    show (if j = p then v else f j) = f j + (if j = p then v - f p else 0)
    by_cases q : j = p
    · rw [if_pos q, if_pos q, q]; grind
    · rw [if_neg q, if_neg q]; exact (Int32.add_zero _).symm)
  rw [e, sm_add, sm_one, if_pos h]
theorem sm_del (f : Nat → Int32) (i : Nat) : ∀ m, i ≤ m → sm (fun j => f (if j < i then j else j + 1)) m + f i = sm f (m + 1)
  | 0, h => by
    have e : i = 0 := by omega
    subst e
    rfl
  | m + 1, h => by
    by_cases q : i = m + 1
    · subst q
      show _ + f (m + 1) = sm f (m + 1) + f (m + 1)
      rw [sm_congr (g := f) (fun j hj => by rw [if_pos hj])]
    · have ih := sm_del f i m (by omega)
      show sm _ m + f (if m < i then m else m + 1) + f i = sm f (m + 1) + f (m + 1)
      rw [← ih, if_neg (by omega)]
      grind
/-- a throw moves money, it makes none -/
theorem sm_beh (su fa pu : Nat → Int32) {wf : Nat → Nat → Int32} (kd : Nat → Nat) (o : Nat) : ∀ m, (∀ i, i < m → ∃ p, p < 6 ∧ wf i 0 = nI p) → sm (fun j => behX su fa pu wf kd (nI j) j o m) 6 + sm (gnX su fa wf kd o) m = sm pu 6 + sm (fun i => wf i 3) m
  | 0, _ => rfl
  | m + 1, h => by
    have ih := sm_beh su fa pu kd o m (fun i hi => h i (by omega))
    obtain ⟨p, hp, ep⟩ := h m (by omega)
    have e : sm (fun j => behX su fa pu wf kd (nI j) j o (m + 1)) 6 = sm (fun j => behX su fa pu wf kd (nI j) j o m + (if j = p then (if comesX su fa (kd m) (wf m 2) o = true then wf m 3 + wf m 4 else 0) else 0)) 6 := sm_congr (fun j hj => by
      show (if wf m 0 = nI j ∧ _ then _ else _) = _
      by_cases q : j = p
      · rw [if_pos q]
        by_cases c : comesX su fa (kd m) (wf m 2) o = true
        · rw [if_pos ⟨by rw [ep, q], c⟩, if_pos c]
        · rw [if_neg (fun y => c y.2), if_neg c]; exact (Int32.add_zero _).symm
      · rw [if_neg q, if_neg (fun y => q ((nI_eq (by omega) (by omega)).mp (y.1.symm.trans ep)))]
        exact (Int32.add_zero _).symm)
    rw [e, sm_add, sm_one, if_pos hp]
    show _ + (sm (gnX su fa wf kd o) m + gnX su fa wf kd o m) = sm pu 6 + (sm (fun i => wf i 3) m + wf m 3)
    have g : gnX su fa wf kd o m = if comesX su fa (kd m) (wf m 2) o = true then -(wf m 4) else wf m 3 := rfl
    rw [g]
    by_cases c : comesX su fa (kd m) (wf m 2) o = true
    · rw [if_pos c, if_pos c]
      grind
    · rw [if_neg c, if_neg c]
      grind
/-- a purse behind a throw is no less than it was -/
theorem beh_nat {p : Int32} {pi o v : Nat} (hW : WQ N su fa n wf) (hv : pu pi = nI v) : ∀ m, m ≤ n → ∃ v', behX su fa pu wf (kW wf) p pi o m = nI v' ∧ v ≤ v' ∧ v' ≤ v + 2100 * m
  | 0, _ => ⟨v, hv, by omega, by omega⟩
  | m + 1, hm => by
    obtain ⟨u, eu, h1, h2⟩ := beh_nat hW hv (p := p) (o := o) m (by omega)
    obtain ⟨-, -, -, ⟨es, -, hs⟩, ⟨eb, hb⟩, -⟩ := hW m (by omega)
    simp only [behX]
    split
    · refine ⟨u + (iN (wf m 3) + iN (wf m 4)), ?_, by omega, by omega⟩
      rw [eu, es, eb, iN_nI (by omega), iN_nI (by omega), nI_add, nI_add]
    · exact ⟨u, eu, by omega, by omega⟩
theorem dc_1 {f1 f2 f3 dn N : Nat} {fn : Nat → Nat} (h : DC f1 f2 f3 fn dn N) : (dn ≤ 1 → fn 1 = 1) ∧ (dn ≤ 2 → fn 2 = 1) ∧ 1 ≤ dn ∧ dn ≤ 3 := by
  have hc := dc_cases h
  obtain ⟨h1, h2, h3, h23, e0, e1, e2, ed, eN⟩ := h
  rcases hc with ⟨z2, z3, rfl⟩ | ⟨z2, z3, rfl⟩ | ⟨z2, z3, rfl⟩
  · exact ⟨fun _ => by rw [e1, z2]; rfl, fun _ => by rw [e2, z3]; rfl, by omega, by omega⟩
  · exact ⟨fun q => absurd q (by omega), fun _ => by rw [e2, z3]; rfl, by omega, by omega⟩
  · exact ⟨fun q => absurd q (by omega), fun q => absurd q (by omega), by omega, by omega⟩
/-! what each deed leaves -/
theorem fn_SF {wg9 : Nat → Nat → Int32} {sf9 : Nat → Nat → Int32} (h : DC f1 f2 f3 fn dn N) (h1 : 1 ≤ N) (h2 : N ≤ 1728) (hf : ∀ o, o < N → ∀ j, j < dn → sf9 o j = nI (fcN fn o j)) (kd : Nat → Nat) : SF fn dn N 0 sf9 wg9 wf kd := by
  obtain ⟨-, -, d1, d3⟩ := dc_1 h
  exact ⟨hf, fun i hi => absurd hi (Nat.not_lt_zero i), d1, d3, dc_fn h, h1, h2, by omega⟩
theorem JF.dice (hF : JF cs z k ad bank cnt f1 f2 f3 dn N 0 cap fn su fa pu pv rf wa wf rs rw sr wr sf wg EL T) {g1 g2 g3 dn' N' : Nat} {fn' : Nat → Nat} {sl fl : Nat → Int32} {r9 : Nat → Nat} {G9 : Nat → Nat → Int32} {T' : va_W} (hC : DC g1 g2 g3 fn' dn' N') (hN1 : 1 ≤ N') (hN : N' ≤ 1728) (hl : laid g2 g3 sl fl N') (hG : ∀ o, o < N' → ∀ j, j < dn' → G9 o j = nI (fcN fn' o j)) (hT1 : ∀ q ∈ T, q ∈ T') (hT2 : ∀ q ∈ rowsW (cs 0) r9 dn' G9 N', q ∈ T') :
    JF cs z k ad bank (nI dn') g1 g2 g3 dn' N' 0 cap fn' sl fl pu pv rf wa wf (fun i => if i < N' then some (r9 i) else none) rw r9 wr G9 wg EL T' := by
  obtain ⟨h1, h2, h3, h4, h5, h6, h7, h8, h9, h10⟩ := hF
  refine ⟨hC, hl, fun i hi => absurd hi (Nat.not_lt_zero i), h4, rfl, ?_, ⟨fun o ho => ⟨hT2 _ (rows_mem ho), if_pos ho⟩, fun i hi => absurd hi (Nat.not_lt_zero i)⟩, fn_SF hC hN1 hN hG _, h9, h10⟩
  rcases h6 with ⟨a, b, c, d⟩ | ⟨a, b, c, d⟩
  · exact Or.inl ⟨a, rfl, c, d⟩
  · exact Or.inr ⟨a, b, c, fun i hi => absurd hi (Nat.not_lt_zero i)⟩
theorem JF.take {n1 : Nat} (hF : JF cs z k ad bank cnt f1 f2 f3 dn N (n1 + 1) cap fn su fa pu pv rf wa wf rs rw sr wr sf wg EL T) {i : Nat} (hi : i < n1 + 1) {pv' : Nat → Int32} (hpv : ∀ j, j < 6 → pv' j = upd pu (iN (wf i 0)) (pu (iN (wf i 0)) + wf i 3) j) {rw' : Nat → Option Nat} (hrw : ∀ j, j < n1 → rw' j = rw (if j < i then j else j + 1)) {T' : va_W} (hT1 : ∀ q ∈ T, q ∈ T') (hc : cap = 10 ∨ cap = 15) :
    JF cs z (k + 1) ad bank cnt f1 f2 f3 dn N n1 cap fn su fa (upd pu (iN (wf i 0)) (pu (iN (wf i 0)) + wf i 3)) pv' (shR rf i n1) (fun j => wa (if j < i then j else j + 1)) (fun j => wf (if j < i then j else j + 1)) rs rw' sr (fun j => wr (if j < i then j else j + 1)) sf (fun j => wg (if j < i then j else j + 1)) [wE cs ad cap (shR rf i n1)] T' := by
  obtain ⟨h1, h2, h3, h4, h5, h6, h7, h8, h9, h10⟩ := hF
  have hm : ∀ j, j < n1 → (if j < i then j else j + 1) < n1 + 1 := fun j hj => by split <;> omega
  refine ⟨h1, h2, fun j hj => h3 _ (hm j hj), hpv, h5, ?_, ⟨fun o ho => ⟨hT1 _ (h7.1 o ho).1, (h7.1 o ho).2⟩, fun j hj => ⟨hT1 _ (h7.2 _ (hm j hj)).1, (hrw j hj).trans (h7.2 _ (hm j hj)).2⟩⟩, ?_, ?_, ?_⟩
  · rcases h6 with ⟨a, b, c, d⟩ | ⟨a, b, c, d⟩
    · omega
    · exact Or.inr ⟨a, by omega, rfl, fun j hj => ⟨hT1 _ (d _ (hm j hj)).1, (shR_at hj).trans (d _ (hm j hj)).2⟩⟩
  · obtain ⟨s1, s2, s3, s4, s5, s6, s7, s8⟩ := h8
    exact ⟨s1, fun j hj => s2 _ (hm j hj), s3, s4, s5, s6, s7, by omega⟩
  · have e := sm_del (fun j => wf j 3) i n1 (by omega)
    rw [sm_upd pu (h3 i hi).1.2]
    rw [← e] at h9
    rw [← h9]
    grind
  · intro j hj
    obtain ⟨v, e, hv⟩ := h10 j hj
    obtain ⟨-, -, -, ⟨es, -, hs⟩, -⟩ := h3 i hi
    by_cases q : j = iN (wf i 0)
    · rw [q] at e ⊢
      refine ⟨v + iN (wf i 3), ?_, by omega⟩
      rw [pk_us, e, es, iN_nI (by omega), nI_add]
    · exact ⟨v, by rw [pk_un q]; exact e, by omega⟩
theorem JF.settle (hF : JF cs z k ad bank cnt f1 f2 f3 dn N n cap fn su fa pu pv rf wa wf rs rw sr wr sf wg EL T) {o : Nat} (ho : o < N) {pu' pv' : Nat → Int32} (hpu : ∀ j, j < 6 → pu' j = behX su fa pu wf (kW wf) (nI j) j o n) (hpv : ∀ j, j < 6 → pv' j = behS fn dn pv wf (kW wf) (nI j) j o n) {rf' rw' : Nat → Option Nat} {EL' T' : va_W} (hT1 : ∀ q ∈ T, q ∈ T') (hT : LT cs z ad 0 cap rf' wa wf EL' T') :
    JF cs z (k + 1) ad (bank + sm (gnX su fa wf (kW wf) o) n) cnt f1 f2 f3 dn N 0 cap fn su fa pu' pv' rf' wa wf rs rw' sr wr sf wg EL' T' := by
  obtain ⟨h1, h2, h3, h4, h5, h6, h7, h8, h9, h10⟩ := hF
  have hn : n ≤ 12 := h8.2.2.2.2.2.2.2
  refine ⟨h1, h2, fun i hi => absurd hi (Nat.not_lt_zero i), fun j hj => ?_, h5, hT, ⟨fun o ho => ⟨hT1 _ (h7.1 o ho).1, (h7.1 o ho).2⟩, fun i hi => absurd hi (Nat.not_lt_zero i)⟩, ?_, ?_, ?_⟩
  · rw [hpu j hj, hpv j hj, jc_beh h1 h2 h3 h4 ho hj]
  · obtain ⟨s1, s2, s3, s4, s5, s6, s7, s8⟩ := h8
    exact ⟨s1, fun i hi => absurd hi (Nat.not_lt_zero i), s3, s4, s5, s6, s7, by omega⟩
  · have e := sm_beh su fa pu (kW wf) o n (fun i hi => ⟨_, (h3 i hi).1.2, (h3 i hi).1.1⟩)
    rw [sm_congr (g := fun j => behX su fa pu wf (kW wf) (nI j) j o n) hpu]
    show _ + _ + (0 : Int32) = 1100
    rw [← h9]
    grind
  · intro j hj
    obtain ⟨v, e, hv⟩ := h10 j hj
    obtain ⟨u, eu, -, hu⟩ := beh_nat h3 e (p := nI j) (o := o) n (Nat.le_refl n)
    exact ⟨u, (hpu j hj).trans eu, by omega⟩
theorem JF.lay (hF : JF cs z k ad bank cnt f1 f2 f3 dn N n cap fn su fa pu pv rf wa wf rs rw sr wr sf wg EL T) (hk1000 : k ≤ 1000) (hn : n < 12) {p9 k9 q9 s9 w9 b9 : Nat} (hp : p9 < 6) (hk : k9 < 10) (hq : q9 ≤ 36) (hs1 : 1 ≤ s9) (hs2 : s9 ≤ 100) (hw2 : w9 ≤ 20) (hb1 : 1 ≤ b9) (hb2 : b9 ≤ 10) (hpu : nI s9 ≤ pu p9) {ad' : Nat → Nat} {cap' : Nat} {rf' : Nat → Option Nat} {wa' : Nat → Nat} {pv' : Nat → Int32} (hpv : ∀ j, j < 6 → pv' j = upd pv p9 (pv p9 - nI s9) j) {rw' : Nat → Option Nat} {wr' : Nat → Nat} {wg' : Nat → Nat → Int32} {w6 : Nat → Int32} (e0 : w6 0 = nI p9) (e1 : w6 1 = nI k9) (e2 : w6 2 = nI q9) (e3 : w6 3 = nI s9) (e4 : w6 4 = nI (s9 * w9 / b9)) (e5 : w6 5 = nI (cn (comesX su fa k9 (nI q9)) N)) {EL' T' : va_W}
    (hT : LT cs z ad' (n + 1) cap' rf' wa' (fun i => if i = n then w6 else wf i) EL' T') (hT1 : ∀ q ∈ T, q ∈ T') (hr1 : ∀ i, i < n → rw' i = rw i ∧ wr' i = wr i ∧ wg' i = wg i) (hr2 : wV cs wr' wg' n ∈ T' ∧ rw' n = some (wr' n) ∧ ∀ j, j < 5 → wg' n j = w6 j) :
    JF cs z (k + 1) ad' bank cnt f1 f2 f3 dn N (n + 1) cap' fn su fa (upd pu p9 (pu p9 - nI s9)) pv' rf' wa' (fun i => if i = n then w6 else wf i) rs rw' sr wr' sf wg' EL' T' := by
  obtain ⟨h1, h2, h3, h4, h5, -, h7, h8, h9, h10⟩ := hF
  have ew : (fun i => if i = n then w6 else wf i) n = w6 := if_pos rfl
  have eo : ∀ i, i < n → (fun i => if i = n then w6 else wf i) i = wf i := fun i hi => if_neg (by omega)
  have hb : s9 * w9 / b9 ≤ 2000 := Nat.le_trans (Nat.div_le_self _ _) (Nat.mul_le_mul hs2 hw2)
  refine ⟨h1, h2, fun i hi => ?_, fun j hj => ?_, h5, hT, ⟨fun o ho => ⟨hT1 _ (h7.1 o ho).1, (h7.1 o ho).2⟩, fun i hi => ?_⟩, ?_, ?_, ?_⟩
  · by_cases q : i = n
    · subst q
      rw [ew]
      refine ⟨?_, ?_, ?_, ?_, ?_, ?_⟩
      · rw [e0, iN_nI (by omega)]; exact ⟨rfl, hp⟩
      · rw [e1, iN_nI (by omega)]; exact ⟨rfl, hk⟩
      · rw [e2, iN_nI (by omega)]; exact ⟨rfl, hq⟩
      · rw [e3, iN_nI (by omega)]; exact ⟨rfl, hs1, hs2⟩
      · rw [e4, iN_nI (by omega)]; exact ⟨rfl, hb⟩
      · rw [e5, e1, e2, iN_nI (by omega)]
    · rw [eo i (by omega)]
      exact h3 i (by omega)
  · rw [hpv j hj]
    by_cases q : j = p9
    · rw [q, pk_us, pk_us, h4 p9 hp]
    · rw [pk_un q, pk_un q, h4 j hj]
  · by_cases q : i = n
    · rw [q]; exact ⟨hr2.1, hr2.2.1⟩
    · obtain ⟨a, b, c⟩ := hr1 i (by omega)
      obtain ⟨d, g⟩ := h7.2 i (by omega)
      refine ⟨?_, by rw [a, b]; exact g⟩
      show (wr' i, _) ∈ T'
      rw [b, c]
      exact hT1 _ d
  · obtain ⟨s1, s2, s3, s4, s5, s6, s7, s8⟩ := h8
    refine ⟨s1, fun i hi => ?_, s3, s4, s5, s6, s7, by omega⟩
    by_cases q : i = n
    · subst q
      refine ⟨fun j hj => by rw [ew]; exact hr2.2.2 j hj, ?_, ?_⟩
      · show (if i = i then w6 else wf i) 1 = nI ((if i = i then w6 else wf i) 1).toNatClampNeg
        rw [if_pos rfl, e1, nI_clamp (by omega)]
      · show ((if i = i then w6 else wf i) 1).toNatClampNeg < 10
        rw [if_pos rfl, e1, nI_clamp (by omega)]
        exact hk
    · obtain ⟨a, b, c⟩ := s2 i (by omega)
      refine ⟨fun j hj => by rw [eo i (by omega), (hr1 i (by omega)).2.2]; exact a j hj, ?_, ?_⟩
      · show (if i = n then w6 else wf i) 1 = nI ((if i = n then w6 else wf i) 1).toNatClampNeg
        rw [if_neg q]
        exact b
      · show ((if i = n then w6 else wf i) 1).toNatClampNeg < 10
        rw [if_neg q]
        exact c
  · rw [sm_upd pu hp]
    show _ + _ + (sm (fun i => (if i = n then w6 else wf i) 3) n + (if n = n then w6 else wf n) 3) = 1100
    rw [if_pos rfl, e3, sm_congr (f := fun i => (if i = n then w6 else wf i) 3) (g := fun i => wf i 3) (fun i hi => by rw [if_neg (by omega)]), ← h9]
    grind
  · intro j hj
    obtain ⟨v, e, hv⟩ := h10 j hj
    by_cases q : j = p9
    · rw [q] at e ⊢
      rw [e] at hpu
      have g := (nI_leI (by omega) (by omega)).mp hpu
      exact ⟨v - s9, by rw [pk_us, e, pk_sub g], by omega⟩
    · exact ⟨v, by rw [pk_un q]; exact e, by omega⟩
end JFs
