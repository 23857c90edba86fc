/-! the law: what it reads; rows by program -/
abbrev GX (su fa : Nat → Int32) (wf : Nat → Nat → Int32) (n : Nat) : Nat → Int32 := fun o => sm (gnX su fa wf (kW wf) o) n
abbrev BX (su fa pu : Nat → Int32) (wf : Nat → Nat → Int32) (n p : Nat) : Nat → Int32 := fun o => behX su fa pu wf (kW wf) (nI p) p o n
/-- the checksum -/
def DG (cnt bank rnds : Int32) (N n : Nat) (su fa pu : Nat → Int32) (wf : Nat → Nat → Int32) : Int64 := dgK (fun k => nI (cn (comesX su fa k 7) N)) (dgP pu (fun p o => behX su fa pu wf (kW wf) (nI p) p o n) N (dgW N wf (dgH 2141 cnt.toInt64 (nI N).toInt64 (nI n).toInt64 bank.toInt64 rnds.toInt64 (sm (fun i => wf i 3) n).toInt64 (sm (goX N wf) n / cdX (sm (goX N wf) n) (nI N)).toInt64 (nI N / cdX (sm (goX N wf) n) (nI N)).toInt64 ((drs N wf n).1).toInt64 ((fun o => sm (gnX su fa wf (kW wf) o) n) (wst (fun o => sm (gnX su fa wf (kW wf) o) n) N)).toInt64 (nI (wst (fun o => sm (gnX su fa wf (kW wf) o) n) N)).toInt64) n) 6) 10
def LX (p : Program) (c : Code) (m : MethodId) (s : State) (b : Nat) (D : va_G) (cs : Nat → ClassId) : Prop :=
  p.tables.exec = Jvm.exec ∧ c.code = cL_law ∧ c.maxLocals = 27 ∧ s.vm.findClass RL = some m.cls ∧ (∀ w ∈ wsL_law, w.before #[Value.ref b] s = true) ∧ va_K D vwCl (Ty cs) s
theorem hb_s {w o : Nat} (h : o = w) : (decide (w < o) || true) = decide (w < o + 1) := by rw [Bool.or_true, decide_eq_true (by omega)]
theorem hb_n {w o : Nat} (h : o ≠ w) : (decide (w < o) || false) = decide (w < o + 1) := by rw [Bool.or_false]; exact decide_eq_decide.mpr (by omega)
theorem bot_dvd {N d : Nat} {g : Int32} (h1 : nI N / cdX g (nI N) = nI (eBot N g)) (h2 : eBot N g = N / d) (hd : 1 ≤ d) (hN : d ∣ N) (hN1 : 1 ≤ N) (hN2 : N ≤ 1728) (hb1 : 1 ≤ eBot N g) (hb2 : eBot N g ≤ 1728) : nI N - nI N / (nI N / cdX g (nI N)) * (nI N / cdX g (nI N)) = 0 := by
  rw [h1, pk_rem (by omega) hb1 (by omega)]
  have : N % eBot N g = 0 := by
    rw [h2]
    obtain ⟨q, hq⟩ := hN
    rw [hq, Nat.mul_div_cancel_left _ (by omega), Nat.mul_mod_left]
  rw [this]
  rfl
theorem hedged_eq {g : Nat → Int32} {N o : Nat} (hN : 1 ≤ N) (ho : o < N) (h : alleq g N = true) : g o = mnX g (N - 1) := by
  have a := of_decide_eq_true h
  rw [mnX_const (v := g 0) (fun j hj => a j (by omega))]
  exact a o ho
set_option maxHeartbeats 4000000 in
set_option maxRecDepth 100000 in
theorem L_pat {p : Program} {l : Launch} {e : Env} {s : State} {m : MethodId} {b : Nat} {below : List Frame} {meth : Method} {c : Code} {ls : Array Slot} {Q : State → Prop} {H : Heap} {locs : List Loc} {ce sl : Nat} {D : va_G} {cs : Nat → ClassId} {s0 t qh : Nat} {x mo : Int32} {dg : Int64} {hs : Nat → Int32} (CC : LX p c m s b D cs) (hce : ce ≤ 600074) (hsl : sl ≤ 7301550) {ad : Nat → Nat} {bank rnds cnt mcn : Int32} {N n cap : Nat} {su fa pu : Nat → Int32} {rf : Nat → Option Nat} {wa : Nat → Nat} {wf : Nat → Nat → Int32} (RR0 : RX D cs H ad bank rnds cnt mcn N n cap su fa pu rf wa wf (kW wf)) (hN1 : 1 ≤ N) (hN : N ≤ 1728) (hn12 : n ≤ 12) (hH : va_P D vwCl [(qh, .inl (cs 1, 6, .inl hs))] H) (hhs : ∀ j, j < 6 → hs j = b2i (hasF wf j n)) (hleast : ∀ p9, p9 < 6 → ¬ mnX (BX su fa pu wf n p9) (N - 1) < pu p9) (hno : ∀ p9, p9 < 6 → hasF wf p9 n = false → alleq (BX su fa pu wf n p9) N = true ∧ mnX (BX su fa pu wf n p9) (N - 1) = pu p9) (hmo : mo + sm pu 6 = 1100) (hl : lv_has ls 27 [(0, .ref b), (1, .ref (ad 0)), (2, .ref s0), (3, .int (nI t)), (4, .int x), (5, .long dg), (7, .int mo), (8, .int (nI N)), (9, .ref qh)]) (kk : ∀ ls : Array Slot, lv_has ls 27 [(0, .ref b), (1, .ref (ad 0)), (2, .ref s0), (3, .int (nI t)), (4, .int x), (5, .long dg), (8, .int (nI N))] → W p l e room_1 s m #[Value.ref b] below meth c H locs ce sl Q (F0 m 224 ls [])) : W p l e room_1 s m #[Value.ref b] below meth c H locs ce sl Q (F0 m 138 ls []) := by
  obtain ⟨hx, hb, hml, hown, hts, hK⟩ := id CC
  have hl : lv_has ls 27 [(0, .ref b), (1, .ref (ad 0)), (2, .ref s0), (3, .int (nI t)), (4, .int x), (5, .long dg), (7, .int (mo + sm pu 0)), (8, .int (nI N)), (9, .ref qh)] := by { rw [show mo + sm pu 0 = mo from Int32.add_zero mo]; exact hl }
  refine lv_iconst (v := nI 0) hx hb dL_law_138 (by first | decide | rfl) ?_
  refine lv_istore (lv' := [(10, .int (nI 0)), (0, .ref b), (1, .ref (ad 0)), (2, .ref s0), (3, .int (nI t)), (4, .int x), (5, .long dg), (7, .int (mo + sm pu 0)), (8, .int (nI N)), (9, .ref qh)]) hx hb dL_law_139 hl (by decide) rfl (fun ls hl => ?_)
  have loop141 : ∀ (n9 : Nat) (i : Nat) (ls : Array Slot), i ≤ 6 → 7 ≤ i + n9 → lv_has ls 27 [(0, .ref b), (1, .ref (ad 0)), (2, .ref s0), (3, .int (nI t)), (4, .int x), (5, .long dg), (7, .int (mo + sm pu i)), (8, .int (nI N)), (9, .ref qh), (10, .int (nI i))] → W p l e room_1 s m #[Value.ref b] below meth c H locs ce sl Q (F0 m 141 ls []) := by
    intro n9
    induction n9 with
    | zero => intro i  ls hi hfu hl; exact absurd hfu (by omega)
    | succ n9 ih141 =>
      intro i  ls hi hfu hl
      refine lv_iload hx hb dL_law_141 (lv_at hl 9 rfl) ?_
      refine lv_bipush (v := nI 6) hx hb dL_law_143 (by first | decide | rfl) ?_
      refine lv_icmp_ge (tgt := 214) hx hb dL_law_145 (by decide) (fun c_1 => ?_) (fun c_1 => ?_)
      · refine lv_iload hx hb dL_law_214 (lv_at hl 6 rfl) ?_
        refine lv_sipush (v := 1100) hx hb dL_law_216 (by first | decide | rfl) ?_
        refine lv_icmp_eq (tgt := 224) hx hb dL_law_219 (by decide) (fun c_2 => ?_) (fun c_2 => False.elim (c_2 (by rw [show i = 6 from by have g := (nI_leI (by omega) (by omega)).mp c_1; omega]; exact hmo)))
        exact kk ls (lv_sub hl [0, 1, 2, 3, 4, 5, 7] rfl)
      · have hi6 : i < 6 := by
          rcases Nat.lt_or_ge i 6 with q | q
          · exact q
          · exact absurd (nI_le q (by omega)) c_1
        refine lv_iload hx hb dL_law_148 (lv_at hl 6 rfl) ?_
        refine lv_aload_n hx hb dL_law_150 rfl (lv_at hl 1 rfl) ?_
        refine lv_iload hx hb dL_law_151 (lv_at hl 9 rfl) ?_
        refine rdV (As := [.int (nI i)]) (rest := [.int (mo + sm pu i)]) (b := ad 0) ⟨hx, hb, hml, hown, hts⟩ hK 1 (c_purseOf l D cs H RR0 i (by omega)) (gin_v mw_19_5 mw_18_12 mw_18_13 mw_1_2 mw_18_14) (by decide +kernel) ⟨Nat.le_of_ble_eq_true rfl, Nat.le_of_ble_eq_true rfl⟩ (va_recv hK RR0.1 (ci := 3) (q0 := 0) rfl rfl) rfl hl.1 rfl (Nat.le_of_ble_eq_true rfl) dL_law_153 ⟨hce, hsl⟩ ?_
        refine W.eq (g2 := F0 m 156 ls [.int (pu i), .int (mo + sm pu i)]) rfl ?_
        refine lv_iadd hx hb dL_law_156 ?_
        refine lv_rwi (y := mo + sm pu (i + 1)) (Int32.add_assoc _ _ _) ?_
        refine lv_istore (lv' := [(7, .int (mo + sm pu (i + 1))), (0, .ref b), (1, .ref (ad 0)), (2, .ref s0), (3, .int (nI t)), (4, .int x), (5, .long dg), (8, .int (nI N)), (9, .ref qh), (10, .int (nI i))]) hx hb dL_law_157 hl (by decide) rfl (fun ls hl => ?_)
        refine lv_aload_n hx hb dL_law_159 rfl (lv_at hl 2 rfl) ?_
        refine lv_iload hx hb dL_law_160 (lv_at hl 9 rfl) ?_
        refine rdV (As := [.int (nI i)]) (rest := []) (b := ad 0) ⟨hx, hb, hml, hown, hts⟩ hK 1 (c_leastPurse l D cs H RR0 i (by omega)) (gin_v mw_19_6 mw_18_16 mw_18_17 mw_1_2 mw_18_18) (by decide +kernel) ⟨Nat.le_of_ble_eq_true rfl, Nat.le_of_ble_eq_true rfl⟩ (va_recv hK RR0.1 (ci := 3) (q0 := 0) rfl rfl) rfl hl.1 rfl (Nat.le_of_ble_eq_true rfl) dL_law_162 ⟨hce, hsl⟩ ?_
        refine W.eq (g2 := F0 m 165 ls [.int (mnX (BX su fa pu wf n i) (N - 1))]) rfl ?_
        refine lv_aload_n hx hb dL_law_165 rfl (lv_at hl 2 rfl) ?_
        refine lv_iload hx hb dL_law_166 (lv_at hl 9 rfl) ?_
        refine rdV (As := [.int (nI i)]) (rest := [.int (mnX (BX su fa pu wf n i) (N - 1))]) (b := ad 0) ⟨hx, hb, hml, hown, hts⟩ hK 1 (c_purseOf l D cs H RR0 i (by omega)) (gin_v mw_19_5 mw_18_12 mw_18_13 mw_1_2 mw_18_14) (by decide +kernel) ⟨Nat.le_of_ble_eq_true rfl, Nat.le_of_ble_eq_true rfl⟩ (va_recv hK RR0.1 (ci := 3) (q0 := 0) rfl rfl) rfl hl.1 rfl (Nat.le_of_ble_eq_true rfl) dL_law_168 ⟨hce, hsl⟩ ?_
        refine W.eq (g2 := F0 m 171 ls [.int (pu i), .int (mnX (BX su fa pu wf n i) (N - 1))]) rfl ?_
        refine lv_icmp_lt (tgt := 206) hx hb dL_law_171 (by decide) (fun c_3 => False.elim (hleast i hi6 c_3)) (fun c_3 => ?_)
        refine lv_aload hx hb dL_law_174 (lv_at hl 8 rfl) ?_
        refine lv_iload hx hb dL_law_176 (lv_at hl 9 rfl) ?_
        refine va_zald hx hb hK hH 0 1 rfl rfl (vp_in_nI hi6 (by omega)) dL_law_178 ?_
        refine lv_rwi (y := b2i (hasF wf i n)) ((congrArg hs (nI_clamp (by omega))).trans (hhs i hi6)) ?_
        refine lv_if_ne (tgt := 208) hx hb dL_law_179 (by decide) (fun c_4 => ?_) (fun c_4 => ?_)
        · refine lv_iinc (v := nI (i + 1)) (lv' := [(10, .int (nI (i + 1))), (7, .int (mo + sm pu (i + 1))), (0, .ref b), (1, .ref (ad 0)), (2, .ref s0), (3, .int (nI t)), (4, .int x), (5, .long dg), (8, .int (nI N)), (9, .ref qh)]) hx hb dL_law_208 hl (k := 9) rfl (nI_1 i) (by decide) rfl (fun ls hl => ?_)
          refine lv_goto (tgt := 141) hx hb dL_law_211 (by decide) ?_
          exact ih141 (i + 1) ls (by omega) (by omega) (lv_sub hl [2, 3, 4, 5, 6, 7, 1, 8, 9, 0] rfl)
        · refine lv_aload_n hx hb dL_law_182 rfl (lv_at hl 2 rfl) ?_
          refine lv_iload hx hb dL_law_183 (lv_at hl 9 rfl) ?_
          refine rdV (As := [.int (nI i)]) (rest := []) (b := ad 0) ⟨hx, hb, hml, hown, hts⟩ hK 1 (c_isHedged l D cs H RR0 i (by omega)) (gin_v mw_19_7 mw_18_21 mw_18_22 mw_1_2 mw_18_23) (by decide +kernel) ⟨Nat.le_of_ble_eq_true rfl, Nat.le_of_ble_eq_true rfl⟩ (va_recv hK RR0.1 (ci := 3) (q0 := 0) rfl rfl) rfl hl.1 rfl (Nat.le_of_ble_eq_true rfl) dL_law_185 ⟨hce, hsl⟩ ?_
          refine W.eq (g2 := F0 m 188 ls [.int (b2i (alleq (BX su fa pu wf n i) N))]) rfl ?_
          refine lv_if_eq (tgt := 206) hx hb dL_law_188 (by decide) (fun c_5 => False.elim (absurd c_5 ((b2i_ne0 _).mpr (hno i hi6 ((b2i_eq0 _).mp c_4)).1))) (fun c_5 => ?_)
          refine lv_aload_n hx hb dL_law_191 rfl (lv_at hl 2 rfl) ?_
          refine lv_iload hx hb dL_law_192 (lv_at hl 9 rfl) ?_
          refine rdV (As := [.int (nI i)]) (rest := []) (b := ad 0) ⟨hx, hb, hml, hown, hts⟩ hK 1 (c_leastPurse l D cs H RR0 i (by omega)) (gin_v mw_19_6 mw_18_16 mw_18_17 mw_1_2 mw_18_18) (by decide +kernel) ⟨Nat.le_of_ble_eq_true rfl, Nat.le_of_ble_eq_true rfl⟩ (va_recv hK RR0.1 (ci := 3) (q0 := 0) rfl rfl) rfl hl.1 rfl (Nat.le_of_ble_eq_true rfl) dL_law_194 ⟨hce, hsl⟩ ?_
          refine W.eq (g2 := F0 m 197 ls [.int (mnX (BX su fa pu wf n i) (N - 1))]) rfl ?_
          refine lv_aload_n hx hb dL_law_197 rfl (lv_at hl 2 rfl) ?_
          refine lv_iload hx hb dL_law_198 (lv_at hl 9 rfl) ?_
          refine rdV (As := [.int (nI i)]) (rest := [.int (mnX (BX su fa pu wf n i) (N - 1))]) (b := ad 0) ⟨hx, hb, hml, hown, hts⟩ hK 1 (c_purseOf l D cs H RR0 i (by omega)) (gin_v mw_19_5 mw_18_12 mw_18_13 mw_1_2 mw_18_14) (by decide +kernel) ⟨Nat.le_of_ble_eq_true rfl, Nat.le_of_ble_eq_true rfl⟩ (va_recv hK RR0.1 (ci := 3) (q0 := 0) rfl rfl) rfl hl.1 rfl (Nat.le_of_ble_eq_true rfl) dL_law_200 ⟨hce, hsl⟩ ?_
          refine W.eq (g2 := F0 m 203 ls [.int (pu i), .int (mnX (BX su fa pu wf n i) (N - 1))]) rfl ?_
          refine lv_icmp_eq (tgt := 208) hx hb dL_law_203 (by decide) (fun c_6 => ?_) (fun c_6 => False.elim (c_6 (hno i hi6 ((b2i_eq0 _).mp c_4)).2))
          refine lv_iinc (v := nI (i + 1)) (lv' := [(10, .int (nI (i + 1))), (7, .int (mo + sm pu (i + 1))), (0, .ref b), (1, .ref (ad 0)), (2, .ref s0), (3, .int (nI t)), (4, .int x), (5, .long dg), (8, .int (nI N)), (9, .ref qh)]) hx hb dL_law_208 hl (k := 9) rfl (nI_1 i) (by decide) rfl (fun ls hl => ?_)
          refine lv_goto (tgt := 141) hx hb dL_law_211 (by decide) ?_
          exact ih141 (i + 1) ls (by omega) (by omega) (lv_sub hl [2, 3, 4, 5, 6, 7, 1, 8, 9, 0] rfl)
  exact loop141 7 0 ls (Nat.zero_le _) (by omega) (lv_sub hl [1, 2, 3, 4, 5, 6, 7, 8, 9, 0] rfl)
set_option maxHeartbeats 4000000 in
set_option maxRecDepth 100000 in
theorem L_num {p : Program} {l : Launch} {e : Env} {s : State} {m : MethodId} {b : Nat} {below : List Frame} {meth : Method} {c : Code} {ls : Array Slot} {Q : State → Prop} {H : Heap} {locs : List Loc} {ce sl : Nat} {D : va_G} {cs : Nat → ClassId} {s0 t f1 f2 f3 dn : Nat} {fn : Nat → Nat} {x : Int32} {dg : Int64} (CC : LX p c m s b D cs) (hce : ce ≤ 600074) (hsl : sl ≤ 7301550) {ad : Nat → Nat} {bank rnds cnt mcn : Int32} {N n cap : Nat} {su fa pu : Nat → Int32} {rf : Nat → Option Nat} {wa : Nat → Nat} {wf : Nat → Nat → Int32} (RR0 : RX D cs H ad bank rnds cnt mcn N n cap su fa pu rf wa wf (kW wf)) (hN1 : 1 ≤ N) (hN : N ≤ 1728) (hn12 : n ≤ 12) (hDC : DC f1 f2 f3 fn dn N) (hla : laid f2 f3 su fa N) (hl : lv_has ls 27 [(0, .ref b), (1, .ref (ad 0)), (2, .ref s0), (3, .int (nI t)), (4, .int x), (5, .long dg), (8, .int (nI N))]) (kk : ∀ ls : Array Slot, lv_has ls 27 [(0, .ref b), (1, .ref (ad 0)), (2, .ref s0), (3, .int (nI t)), (4, .int x), (5, .long dg), (8, .int (nI N))] → W p l e room_1 s m #[Value.ref b] below meth c H locs ce sl Q (F0 m 359 ls [])) : W p l e room_1 s m #[Value.ref b] below meth c H locs ce sl Q (F0 m 224 ls []) := by
  obtain ⟨hx, hb, hml, hown, hts, hK⟩ := id CC
  refine lv_iconst (v := sm (fun j => nI (cn (comesX su fa 0 (nI j)) N)) 0) hx hb dL_law_224 (by first | decide | rfl) ?_
  refine lv_istore (lv' := [(10, .int (sm (fun j => nI (cn (comesX su fa 0 (nI j)) N)) 0)), (0, .ref b), (1, .ref (ad 0)), (2, .ref s0), (3, .int (nI t)), (4, .int x), (5, .long dg), (8, .int (nI N))]) hx hb dL_law_225 hl (by decide) rfl (fun ls hl => ?_)
  refine lv_iconst (v := nI 0) hx hb dL_law_227 (by first | decide | rfl) ?_
  refine lv_istore (lv' := [(11, .int (nI 0)), (10, .int (sm (fun j => nI (cn (comesX su fa 0 (nI j)) N)) 0)), (0, .ref b), (1, .ref (ad 0)), (2, .ref s0), (3, .int (nI t)), (4, .int x), (5, .long dg), (8, .int (nI N))]) hx hb dL_law_228 hl (by decide) rfl (fun ls hl => ?_)
  have loop230 : ∀ (n9 : Nat) (j : Nat) (ls : Array Slot), j ≤ 37 → 38 ≤ j + n9 → lv_has ls 27 [(0, .ref b), (1, .ref (ad 0)), (2, .ref s0), (3, .int (nI t)), (4, .int x), (5, .long dg), (8, .int (nI N)), (10, .int (sm (fun j => nI (cn (comesX su fa 0 (nI j)) N)) j)), (11, .int (nI j))] → W p l e room_1 s m #[Value.ref b] below meth c H locs ce sl Q (F0 m 230 ls []) := by
    intro n9
    induction n9 with
    | zero => intro j  ls hi hfu hl; exact absurd hfu (by omega)
    | succ n9 ih230 =>
      intro j  ls hi hfu hl
      refine lv_iload hx hb dL_law_230 (lv_at hl 8 rfl) ?_
      refine lv_bipush (v := nI 37) hx hb dL_law_232 (by first | decide | rfl) ?_
      refine lv_icmp_ge (tgt := 312) hx hb dL_law_234 (by decide) (fun c_1 => ?_) (fun c_1 => ?_)
      · refine lv_iload hx hb dL_law_312 (lv_at hl 7 rfl) ?_
        refine lv_iload hx hb dL_law_314 (lv_at hl 6 rfl) ?_
        refine lv_icmp_ne (tgt := 357) hx hb dL_law_316 (by decide) (fun c_2 => False.elim (c_2 (by rw [show j = 37 from by have g := (nI_leI (by omega) (by omega)).mp c_1; omega]; exact ways_all hDC hla))) (fun c_2 => ?_)
        refine lv_aload_n hx hb dL_law_319 rfl (lv_at hl 1 rfl) ?_
        refine lv_iconst (v := nI 2) hx hb dL_law_320 (by first | decide | rfl) ?_
        refine lv_iconst (v := nI 0) hx hb dL_law_321 (by first | decide | rfl) ?_
        refine rdV (As := [.int (nI 2), .int (nI 0)]) (rest := []) (b := ad 0) ⟨hx, hb, hml, hown, hts⟩ hK 2 (c_ways l D cs H RR0 2 0 (by omega) (by omega)) (gin_v mw_19_8 mw_19_9 mw_19_10 mw_1_2 mw_19_11) (by decide +kernel) ⟨Nat.le_of_ble_eq_true rfl, Nat.le_of_ble_eq_true rfl⟩ (va_recv hK RR0.1 (ci := 3) (q0 := 0) rfl rfl) rfl hl.1 rfl (Nat.le_of_ble_eq_true rfl) dL_law_322 ⟨hce, hsl⟩ ?_
        refine W.eq (g2 := F0 m 325 ls [.int (nI (cn (comesX su fa 2 (nI 0)) N))]) rfl ?_
        refine lv_aload_n hx hb dL_law_325 rfl (lv_at hl 1 rfl) ?_
        refine lv_bipush (v := nI 7) hx hb dL_law_326 (by first | decide | rfl) ?_
        refine lv_iconst (v := nI 0) hx hb dL_law_328 (by first | decide | rfl) ?_
        refine rdV (As := [.int (nI 7), .int (nI 0)]) (rest := [.int (nI (cn (comesX su fa 2 (nI 0)) N))]) (b := ad 0) ⟨hx, hb, hml, hown, hts⟩ hK 2 (c_ways l D cs H RR0 7 0 (by omega) (by omega)) (gin_v mw_19_8 mw_19_9 mw_19_10 mw_1_2 mw_19_11) (by decide +kernel) ⟨Nat.le_of_ble_eq_true rfl, Nat.le_of_ble_eq_true rfl⟩ (va_recv hK RR0.1 (ci := 3) (q0 := 0) rfl rfl) rfl hl.1 rfl (Nat.le_of_ble_eq_true rfl) dL_law_329 ⟨hce, hsl⟩ ?_
        refine W.eq (g2 := F0 m 332 ls [.int (nI (cn (comesX su fa 7 (nI 0)) N)), .int (nI (cn (comesX su fa 2 (nI 0)) N))]) rfl ?_
        refine lv_iadd hx hb dL_law_332 ?_
        refine lv_iload hx hb dL_law_333 (lv_at hl 6 rfl) ?_
        refine lv_icmp_ne (tgt := 357) hx hb dL_law_335 (by decide) (fun c_3 => False.elim (c_3 (ways_not su fa (k := 2) (by omega) (nI 0) N))) (fun c_3 => ?_)
        refine lv_aload_n hx hb dL_law_338 rfl (lv_at hl 1 rfl) ?_
        refine lv_iconst (v := nI 3) hx hb dL_law_339 (by first | decide | rfl) ?_
        refine lv_iconst (v := nI 0) hx hb dL_law_340 (by first | decide | rfl) ?_
        refine rdV (As := [.int (nI 3), .int (nI 0)]) (rest := []) (b := ad 0) ⟨hx, hb, hml, hown, hts⟩ hK 2 (c_ways l D cs H RR0 3 0 (by omega) (by omega)) (gin_v mw_19_8 mw_19_9 mw_19_10 mw_1_2 mw_19_11) (by decide +kernel) ⟨Nat.le_of_ble_eq_true rfl, Nat.le_of_ble_eq_true rfl⟩ (va_recv hK RR0.1 (ci := 3) (q0 := 0) rfl rfl) rfl hl.1 rfl (Nat.le_of_ble_eq_true rfl) dL_law_341 ⟨hce, hsl⟩ ?_
        refine W.eq (g2 := F0 m 344 ls [.int (nI (cn (comesX su fa 3 (nI 0)) N))]) rfl ?_
        refine lv_aload_n hx hb dL_law_344 rfl (lv_at hl 1 rfl) ?_
        refine lv_bipush (v := nI 8) hx hb dL_law_345 (by first | decide | rfl) ?_
        refine lv_iconst (v := nI 0) hx hb dL_law_347 (by first | decide | rfl) ?_
        refine rdV (As := [.int (nI 8), .int (nI 0)]) (rest := [.int (nI (cn (comesX su fa 3 (nI 0)) N))]) (b := ad 0) ⟨hx, hb, hml, hown, hts⟩ hK 2 (c_ways l D cs H RR0 8 0 (by omega) (by omega)) (gin_v mw_19_8 mw_19_9 mw_19_10 mw_1_2 mw_19_11) (by decide +kernel) ⟨Nat.le_of_ble_eq_true rfl, Nat.le_of_ble_eq_true rfl⟩ (va_recv hK RR0.1 (ci := 3) (q0 := 0) rfl rfl) rfl hl.1 rfl (Nat.le_of_ble_eq_true rfl) dL_law_348 ⟨hce, hsl⟩ ?_
        refine W.eq (g2 := F0 m 351 ls [.int (nI (cn (comesX su fa 8 (nI 0)) N)), .int (nI (cn (comesX su fa 3 (nI 0)) N))]) rfl ?_
        refine lv_iadd hx hb dL_law_351 ?_
        refine lv_iload hx hb dL_law_352 (lv_at hl 6 rfl) ?_
        refine lv_icmp_eq (tgt := 359) hx hb dL_law_354 (by decide) (fun c_4 => ?_) (fun c_4 => False.elim (c_4 (ways_not su fa (k := 3) (by omega) (nI 0) N)))
        exact kk ls (lv_sub hl [0, 1, 2, 3, 4, 5, 6] rfl)
      · have hlt : j < 37 := by
          rcases Nat.lt_or_ge j 37 with q | q
          · exact q
          · exact absurd (nI_le q (by omega)) c_1
        refine lv_iload hx hb dL_law_237 (lv_at hl 7 rfl) ?_
        refine lv_aload_n hx hb dL_law_239 rfl (lv_at hl 1 rfl) ?_
        refine lv_iconst (v := nI 0) hx hb dL_law_240 (by first | decide | rfl) ?_
        refine lv_iload hx hb dL_law_241 (lv_at hl 8 rfl) ?_
        refine rdV (As := [.int (nI 0), .int (nI j)]) (rest := [.int (sm (fun j => nI (cn (comesX su fa 0 (nI j)) N)) j)]) (b := ad 0) ⟨hx, hb, hml, hown, hts⟩ hK 2 (c_ways l D cs H RR0 0 j (by omega) (by omega)) (gin_v mw_19_8 mw_19_9 mw_19_10 mw_1_2 mw_19_11) (by decide +kernel) ⟨Nat.le_of_ble_eq_true rfl, Nat.le_of_ble_eq_true rfl⟩ (va_recv hK RR0.1 (ci := 3) (q0 := 0) rfl rfl) rfl hl.1 rfl (Nat.le_of_ble_eq_true rfl) dL_law_243 ⟨hce, hsl⟩ ?_
        refine W.eq (g2 := F0 m 246 ls [.int (nI (cn (comesX su fa 0 (nI j)) N)), .int (sm (fun j => nI (cn (comesX su fa 0 (nI j)) N)) j)]) rfl ?_
        refine lv_iadd hx hb dL_law_246 ?_
        refine lv_rwi (y := sm (fun j => nI (cn (comesX su fa 0 (nI j)) N)) (j + 1)) (rfl) ?_
        refine lv_istore (lv' := [(10, .int (sm (fun j => nI (cn (comesX su fa 0 (nI j)) N)) (j + 1))), (0, .ref b), (1, .ref (ad 0)), (2, .ref s0), (3, .int (nI t)), (4, .int x), (5, .long dg), (8, .int (nI N)), (11, .int (nI j))]) hx hb dL_law_247 hl (by decide) rfl (fun ls hl => ?_)
        refine lv_aload_n hx hb dL_law_249 rfl (lv_at hl 2 rfl) ?_
        refine lv_iconst (v := nI 1) hx hb dL_law_250 (by first | decide | rfl) ?_
        refine lv_iload hx hb dL_law_251 (lv_at hl 8 rfl) ?_
        refine rdV (As := [.int (nI 1), .int (nI j)]) (rest := []) (b := ad 0) ⟨hx, hb, hml, hown, hts⟩ hK 2 (c_ways l D cs H RR0 1 j (by omega) (by omega)) (gin_v mw_19_8 mw_19_9 mw_19_10 mw_1_2 mw_19_11) (by decide +kernel) ⟨Nat.le_of_ble_eq_true rfl, Nat.le_of_ble_eq_true rfl⟩ (va_recv hK RR0.1 (ci := 3) (q0 := 0) rfl rfl) rfl hl.1 rfl (Nat.le_of_ble_eq_true rfl) dL_law_253 ⟨hce, hsl⟩ ?_
        refine W.eq (g2 := F0 m 256 ls [.int (nI (cn (comesX su fa 1 (nI j)) N))]) rfl ?_
        refine lv_aload_n hx hb dL_law_256 rfl (lv_at hl 2 rfl) ?_
        refine lv_bipush (v := nI 6) hx hb dL_law_257 (by first | decide | rfl) ?_
        refine lv_iload hx hb dL_law_259 (lv_at hl 8 rfl) ?_
        refine rdV (As := [.int (nI 6), .int (nI j)]) (rest := [.int (nI (cn (comesX su fa 1 (nI j)) N))]) (b := ad 0) ⟨hx, hb, hml, hown, hts⟩ hK 2 (c_ways l D cs H RR0 6 j (by omega) (by omega)) (gin_v mw_19_8 mw_19_9 mw_19_10 mw_1_2 mw_19_11) (by decide +kernel) ⟨Nat.le_of_ble_eq_true rfl, Nat.le_of_ble_eq_true rfl⟩ (va_recv hK RR0.1 (ci := 3) (q0 := 0) rfl rfl) rfl hl.1 rfl (Nat.le_of_ble_eq_true rfl) dL_law_261 ⟨hce, hsl⟩ ?_
        refine W.eq (g2 := F0 m 264 ls [.int (nI (cn (comesX su fa 6 (nI j)) N)), .int (nI (cn (comesX su fa 1 (nI j)) N))]) rfl ?_
        refine lv_iadd hx hb dL_law_264 ?_
        refine lv_iload hx hb dL_law_265 (lv_at hl 7 rfl) ?_
        refine lv_icmp_ne (tgt := 304) hx hb dL_law_267 (by decide) (fun c_5 => False.elim (c_5 (ways_not su fa (k := 1) (by omega) (nI j) N))) (fun c_5 => ?_)
        refine lv_iload hx hb dL_law_270 (lv_at hl 8 rfl) ?_
        refine lv_bipush (v := nI 36) hx hb dL_law_272 (by first | decide | rfl) ?_
        refine lv_icmp_ge (tgt := 306) hx hb dL_law_274 (by decide) (fun c_6 => ?_) (fun c_6 => ?_)
        · refine lv_iinc (v := nI (j + 1)) (lv' := [(11, .int (nI (j + 1))), (10, .int (sm (fun j => nI (cn (comesX su fa 0 (nI j)) N)) (j + 1))), (0, .ref b), (1, .ref (ad 0)), (2, .ref s0), (3, .int (nI t)), (4, .int x), (5, .long dg), (8, .int (nI N))]) hx hb dL_law_306 hl (k := 8) rfl (nI_1 j) (by decide) rfl (fun ls hl => ?_)
          refine lv_goto (tgt := 230) hx hb dL_law_309 (by decide) ?_
          exact ih230 (j + 1) ls (by omega) (by omega) (lv_sub hl [2, 3, 4, 5, 6, 7, 8, 1, 0] rfl)
        · have hj36 : j < 36 := by
            rcases Nat.lt_or_ge j 36 with q | q
            · exact q
            · exact absurd (nI_le q (by omega)) c_6
          refine lv_aload_n hx hb dL_law_277 rfl (lv_at hl 2 rfl) ?_
          refine lv_iconst (v := nI 1) hx hb dL_law_278 (by first | decide | rfl) ?_
          refine lv_iload hx hb dL_law_279 (lv_at hl 8 rfl) ?_
          refine rdV (As := [.int (nI 1), .int (nI j)]) (rest := []) (b := ad 0) ⟨hx, hb, hml, hown, hts⟩ hK 2 (c_ways l D cs H RR0 1 j (by omega) (by omega)) (gin_v mw_19_8 mw_19_9 mw_19_10 mw_1_2 mw_19_11) (by decide +kernel) ⟨Nat.le_of_ble_eq_true rfl, Nat.le_of_ble_eq_true rfl⟩ (va_recv hK RR0.1 (ci := 3) (q0 := 0) rfl rfl) rfl hl.1 rfl (Nat.le_of_ble_eq_true rfl) dL_law_281 ⟨hce, hsl⟩ ?_
          refine W.eq (g2 := F0 m 284 ls [.int (nI (cn (comesX su fa 1 (nI j)) N))]) rfl ?_
          refine lv_aload_n hx hb dL_law_284 rfl (lv_at hl 2 rfl) ?_
          refine lv_iconst (v := nI 0) hx hb dL_law_285 (by first | decide | rfl) ?_
          refine lv_iload hx hb dL_law_286 (lv_at hl 8 rfl) ?_
          refine rdV (As := [.int (nI 0), .int (nI j)]) (rest := [.int (nI (cn (comesX su fa 1 (nI j)) N))]) (b := ad 0) ⟨hx, hb, hml, hown, hts⟩ hK 2 (c_ways l D cs H RR0 0 j (by omega) (by omega)) (gin_v mw_19_8 mw_19_9 mw_19_10 mw_1_2 mw_19_11) (by decide +kernel) ⟨Nat.le_of_ble_eq_true rfl, Nat.le_of_ble_eq_true rfl⟩ (va_recv hK RR0.1 (ci := 3) (q0 := 0) rfl rfl) rfl hl.1 rfl (Nat.le_of_ble_eq_true rfl) dL_law_288 ⟨hce, hsl⟩ ?_
          refine W.eq (g2 := F0 m 291 ls [.int (nI (cn (comesX su fa 0 (nI j)) N)), .int (nI (cn (comesX su fa 1 (nI j)) N))]) rfl ?_
          refine lv_aload_n hx hb dL_law_291 rfl (lv_at hl 2 rfl) ?_
          refine lv_iconst (v := nI 1) hx hb dL_law_292 (by first | decide | rfl) ?_
          refine lv_iload hx hb dL_law_293 (lv_at hl 8 rfl) ?_
          refine lv_iconst (v := 1) hx hb dL_law_295 (by first | decide | rfl) ?_
          refine lv_iadd hx hb dL_law_296 ?_
          refine lv_rwi (y := nI (j + 1)) (nI_1 j) ?_
          refine rdV (As := [.int (nI 1), .int (nI (j + 1))]) (rest := [.int (nI (cn (comesX su fa 0 (nI j)) N)), .int (nI (cn (comesX su fa 1 (nI j)) N))]) (b := ad 0) ⟨hx, hb, hml, hown, hts⟩ hK 2 (c_ways l D cs H RR0 1 (j + 1) (by omega) (by omega)) (gin_v mw_19_8 mw_19_9 mw_19_10 mw_1_2 mw_19_11) (by decide +kernel) ⟨Nat.le_of_ble_eq_true rfl, Nat.le_of_ble_eq_true rfl⟩ (va_recv hK RR0.1 (ci := 3) (q0 := 0) rfl rfl) rfl hl.1 rfl (Nat.le_of_ble_eq_true rfl) dL_law_297 ⟨hce, hsl⟩ ?_
          refine W.eq (g2 := F0 m 300 ls [.int (nI (cn (comesX su fa 1 (nI (j + 1))) N)), .int (nI (cn (comesX su fa 0 (nI j)) N)), .int (nI (cn (comesX su fa 1 (nI j)) N))]) rfl ?_
          refine lv_iadd hx hb dL_law_300 ?_
          refine lv_icmp_eq (tgt := 306) hx hb dL_law_301 (by decide) (fun c_7 => ?_) (fun c_7 => False.elim (c_7 (ways_step hDC hla hj36)))
          refine lv_iinc (v := nI (j + 1)) (lv' := [(11, .int (nI (j + 1))), (10, .int (sm (fun j => nI (cn (comesX su fa 0 (nI j)) N)) (j + 1))), (0, .ref b), (1, .ref (ad 0)), (2, .ref s0), (3, .int (nI t)), (4, .int x), (5, .long dg), (8, .int (nI N))]) hx hb dL_law_306 hl (k := 8) rfl (nI_1 j) (by decide) rfl (fun ls hl => ?_)
          refine lv_goto (tgt := 230) hx hb dL_law_309 (by decide) ?_
          exact ih230 (j + 1) ls (by omega) (by omega) (lv_sub hl [2, 3, 4, 5, 6, 7, 8, 1, 0] rfl)
  exact loop230 38 0 ls (Nat.zero_le _) (by omega) (lv_sub hl [2, 3, 4, 5, 6, 7, 8, 1, 0] rfl)
set_option maxHeartbeats 4000000 in
set_option maxRecDepth 100000 in
theorem L_out {p : Program} {l : Launch} {e : Env} {s : State} {m : MethodId} {b : Nat} {below : List Frame} {meth : Method} {c : Code} {ls : Array Slot} {Q : State → Prop} {H : Heap} {locs : List Loc} {ce sl : Nat} {D : va_G} {cs : Nat → ClassId} {s0 t : Nat} {x : Int32} {dg : Int64} (CC : LX p c m s b D cs) (hce : ce ≤ 600074) (hsl : sl ≤ 7301550) {ad : Nat → Nat} {bank rnds cnt mcn : Int32} {N n cap : Nat} {su fa pu : Nat → Int32} {rf : Nat → Option Nat} {wa : Nat → Nat} {wf : Nat → Nat → Int32} (RR0 : RX D cs H ad bank rnds cnt mcn N n cap su fa pu rf wa wf (kW wf)) (hN1 : 1 ≤ N) (hN : N ≤ 1728) (hn12 : n ≤ 12) (hW9 : WQ N su fa n wf) (hl : lv_has ls 27 [(0, .ref b), (1, .ref (ad 0)), (2, .ref s0), (3, .int (nI t)), (4, .int x), (5, .long dg), (8, .int (nI N))]) (kk : ∀ ls : Array Slot, lv_has ls 27 [(0, .ref b), (1, .ref (ad 0)), (2, .ref s0), (3, .int (nI t)), (4, .int x), (5, .long dg), (8, .int (nI N))] → W p l e room_1 s m #[Value.ref b] below meth c H locs ce sl Q (F0 m 491 ls [])) : W p l e room_1 s m #[Value.ref b] below meth c H locs ce sl Q (F0 m 359 ls []) := by
  obtain ⟨hx, hb, hml, hown, hts, hK⟩ := id CC
  refine lv_lconst (v := smL (GX su fa wf n) 0) hx hb dL_law_359 (by first | decide | rfl) ?_
  refine lv_lstore (lv' := [(11, .long (smL (GX su fa wf n) 0)), (0, .ref b), (1, .ref (ad 0)), (2, .ref s0), (3, .int (nI t)), (4, .int x), (5, .long dg), (8, .int (nI N))]) hx hb dL_law_360 hl (by decide) rfl (fun ls hl => ?_)
  refine lv_iconst (v := b2i (decide ((wst (GX su fa wf n) N) < 0))) hx hb dL_law_362 (by rw [decide_eq_false (Nat.not_lt_zero _)] <;> rfl) ?_
  refine lv_istore (lv' := [(13, .int (b2i (decide ((wst (GX su fa wf n) N) < 0)))), (11, .long (smL (GX su fa wf n) 0)), (0, .ref b), (1, .ref (ad 0)), (2, .ref s0), (3, .int (nI t)), (4, .int x), (5, .long dg), (8, .int (nI N))]) hx hb dL_law_363 hl (by decide) rfl (fun ls hl => ?_)
  refine lv_iconst (v := nI 0) hx hb dL_law_365 (by first | decide | rfl) ?_
  refine lv_istore (lv' := [(14, .int (nI 0)), (13, .int (b2i (decide ((wst (GX su fa wf n) N) < 0)))), (11, .long (smL (GX su fa wf n) 0)), (0, .ref b), (1, .ref (ad 0)), (2, .ref s0), (3, .int (nI t)), (4, .int x), (5, .long dg), (8, .int (nI N))]) hx hb dL_law_366 hl (by decide) rfl (fun ls hl => ?_)
  have loop368 : ∀ (n9 : Nat) (o : Nat) (ls : Array Slot), o ≤ N → N + 1 ≤ o + n9 → lv_has ls 27 [(0, .ref b), (1, .ref (ad 0)), (2, .ref s0), (3, .int (nI t)), (4, .int x), (5, .long dg), (8, .int (nI N)), (11, .long (smL (GX su fa wf n) o)), (13, .int (b2i (decide ((wst (GX su fa wf n) N) < o)))), (14, .int (nI o))] → W p l e room_1 s m #[Value.ref b] below meth c H locs ce sl Q (F0 m 368 ls []) := by
    intro n9
    induction n9 with
    | zero => intro o  ls hi hfu hl; exact absurd hfu (by omega)
    | succ n9 ih368 =>
      intro o  ls hi hfu hl
      refine lv_iload hx hb dL_law_368 (lv_at hl 9 rfl) ?_
      refine lv_iload hx hb dL_law_370 (lv_at hl 6 rfl) ?_
      refine lv_icmp_ge (tgt := 463) hx hb dL_law_372 (by decide) (fun c_1 => ?_) (fun c_1 => ?_)
      · refine lv_iload hx hb dL_law_463 (lv_at hl 8 rfl) ?_
        refine lv_if_eq (tgt := 489) hx hb dL_law_465 (by decide) (fun c_2 => False.elim (absurd c_2 ((b2i_ne0 _).mpr (decide_eq_true (Nat.lt_of_lt_of_le (wst_lt (GX su fa wf n) hN1) ((nI_leI (by omega) (by omega)).mp c_1)))))) (fun c_2 => ?_)
        refine lv_lload hx hb dL_law_468 (lv_at hl 7 rfl) ?_
        refine lv_aload_n hx hb dL_law_470 rfl (lv_at hl 1 rfl) ?_
        refine rdV (As := []) (rest := [.long (smL (GX su fa wf n) o)]) (b := ad 0) ⟨hx, hb, hml, hown, hts⟩ hK 0 (c_allEdgesBottom l D cs H RR0) (gin_v mw_19_18 mw_16_12 mw_16_13 mw_1_2 mw_16_14) (by decide +kernel) ⟨Nat.le_of_ble_eq_true rfl, Nat.le_of_ble_eq_true rfl⟩ (va_recv hK RR0.1 (ci := 3) (q0 := 0) rfl rfl) rfl hl.1 rfl (Nat.le_of_ble_eq_true rfl) dL_law_471 ⟨hce, hsl⟩ ?_
        refine W.eq (g2 := F0 m 474 ls [.int (nI N / cdX (sm (goX N wf) n) (nI N)), .long (smL (GX su fa wf n) o)]) rfl ?_
        refine lv_i2l hx hb dL_law_474 rfl ?_
        refine lv_lmul hx hb dL_law_475 ?_
        refine lv_aload_n hx hb dL_law_476 rfl (lv_at hl 1 rfl) ?_
        refine rdV (As := []) (rest := [.long ((smL (GX su fa wf n) o) * ((nI N / cdX (sm (goX N wf) n) (nI N)).toInt64))]) (b := ad 0) ⟨hx, hb, hml, hown, hts⟩ hK 0 (c_allEdgesTop l D cs H RR0) (gin_v mw_19_19 mw_15_8 mw_15_9 mw_1_2 mw_15_10) (by decide +kernel) ⟨Nat.le_of_ble_eq_true rfl, Nat.le_of_ble_eq_true rfl⟩ (va_recv hK RR0.1 (ci := 3) (q0 := 0) rfl rfl) rfl hl.1 rfl (Nat.le_of_ble_eq_true rfl) dL_law_477 ⟨hce, hsl⟩ ?_
        refine W.eq (g2 := F0 m 480 ls [.int (sm (goX N wf) n / cdX (sm (goX N wf) n) (nI N)), .long ((smL (GX su fa wf n) o) * ((nI N / cdX (sm (goX N wf) n) (nI N)).toInt64))]) rfl ?_
        refine lv_i2l hx hb dL_law_480 rfl ?_
        refine lv_iload hx hb dL_law_481 (lv_at hl 6 rfl) ?_
        refine lv_i2l hx hb dL_law_483 rfl ?_
        refine lv_lmul hx hb dL_law_484 ?_
        refine W.lcmp hx hb dL_law_485 ?_
        refine lv_if_eq (tgt := 491) hx hb dL_law_486 (by decide) (fun c_3 => ?_) (fun c_3 => False.elim (c_3 ((lcmp_eq _ _).mpr (by rw [show o = N from by have g := (nI_leI (by omega) (by omega)).mp c_1; omega]; exact gains_all hN1 hN hn12 hW9))))
        exact kk ls (lv_sub hl [0, 1, 2, 3, 4, 5, 6] rfl)
      · have hlt : o < N := by
          rcases Nat.lt_or_ge o N with q | q
          · exact q
          · exact absurd (nI_le q (by omega)) c_1
        obtain ⟨hw1, hw2⟩ := wst_ok (GX su fa wf n) N hN1 o hlt
        have hwN := wst_lt (GX su fa wf n) hN1
        refine lv_aload_n hx hb dL_law_375 rfl (lv_at hl 1 rfl) ?_
        refine lv_iload hx hb dL_law_376 (lv_at hl 9 rfl) ?_
        refine rdV (As := [.int (nI o)]) (rest := []) (b := ad 0) ⟨hx, hb, hml, hown, hts⟩ hK 1 (c_gainAt l D cs H RR0 o (by omega)) (gin_v mw_19_12 mw_19_13 mw_19_14 mw_1_2 mw_19_15) (by decide +kernel) ⟨Nat.le_of_ble_eq_true rfl, Nat.le_of_ble_eq_true rfl⟩ (va_recv hK RR0.1 (ci := 3) (q0 := 0) rfl rfl) rfl hl.1 rfl (Nat.le_of_ble_eq_true rfl) dL_law_378 ⟨hce, hsl⟩ ?_
        refine W.eq (g2 := F0 m 381 ls [.int (GX su fa wf n o)]) rfl ?_
        refine lv_istore (lv' := [(15, .int (GX su fa wf n o)), (0, .ref b), (1, .ref (ad 0)), (2, .ref s0), (3, .int (nI t)), (4, .int x), (5, .long dg), (8, .int (nI N)), (11, .long (smL (GX su fa wf n) o)), (13, .int (b2i (decide ((wst (GX su fa wf n) N) < o)))), (14, .int (nI o))]) hx hb dL_law_381 hl (by decide) rfl (fun ls hl => ?_)
        refine lv_lload hx hb dL_law_383 (lv_at hl 8 rfl) ?_
        refine lv_iload hx hb dL_law_385 (lv_at hl 0 rfl) ?_
        refine lv_i2l hx hb dL_law_387 rfl ?_
        refine lv_ladd hx hb dL_law_388 ?_
        refine lv_rwl (y := smL (GX su fa wf n) (o + 1)) (rfl) ?_
        refine lv_lstore (lv' := [(11, .long (smL (GX su fa wf n) (o + 1))), (15, .int (GX su fa wf n o)), (0, .ref b), (1, .ref (ad 0)), (2, .ref s0), (3, .int (nI t)), (4, .int x), (5, .long dg), (8, .int (nI N)), (13, .int (b2i (decide ((wst (GX su fa wf n) N) < o)))), (14, .int (nI o))]) hx hb dL_law_389 hl (by decide) rfl (fun ls hl => ?_)
        refine lv_iload hx hb dL_law_391 (lv_at hl 1 rfl) ?_
        refine lv_aload_n hx hb dL_law_393 rfl (lv_at hl 3 rfl) ?_
        refine rdV (As := []) (rest := [.int (GX su fa wf n o)]) (b := ad 0) ⟨hx, hb, hml, hown, hts⟩ hK 0 (c_worstGain l D cs H RR0) (gin_v mw_19_16 mw_17_0 mw_17_1 mw_1_2 mw_17_2) (by decide +kernel) ⟨Nat.le_of_ble_eq_true rfl, Nat.le_of_ble_eq_true rfl⟩ (va_recv hK RR0.1 (ci := 3) (q0 := 0) rfl rfl) rfl hl.1 rfl (Nat.le_of_ble_eq_true rfl) dL_law_394 ⟨hce, hsl⟩ ?_
        refine W.eq (g2 := F0 m 397 ls [.int (GX su fa wf n (wst (GX su fa wf n) N)), .int (GX su fa wf n o)]) rfl ?_
        refine lv_icmp_lt (tgt := 436) hx hb dL_law_397 (by decide) (fun c_4 => False.elim (hw1 c_4)) (fun c_4 => ?_)
        refine lv_iload hx hb dL_law_400 (lv_at hl 1 rfl) ?_
        refine lv_aload_n hx hb dL_law_402 rfl (lv_at hl 3 rfl) ?_
        refine rdV (As := []) (rest := [.int (GX su fa wf n o)]) (b := ad 0) ⟨hx, hb, hml, hown, hts⟩ hK 0 (c_worstGain l D cs H RR0) (gin_v mw_19_16 mw_17_0 mw_17_1 mw_1_2 mw_17_2) (by decide +kernel) ⟨Nat.le_of_ble_eq_true rfl, Nat.le_of_ble_eq_true rfl⟩ (va_recv hK RR0.1 (ci := 3) (q0 := 0) rfl rfl) rfl hl.1 rfl (Nat.le_of_ble_eq_true rfl) dL_law_403 ⟨hce, hsl⟩ ?_
        refine W.eq (g2 := F0 m 406 ls [.int (GX su fa wf n (wst (GX su fa wf n) N)), .int (GX su fa wf n o)]) rfl ?_
        refine lv_icmp_ne (tgt := 418) hx hb dL_law_406 (by decide) (fun c_5 => ?_) (fun c_5 => ?_)
        · refine lv_iload hx hb dL_law_418 (lv_at hl 10 rfl) ?_
          refine lv_aload_n hx hb dL_law_420 rfl (lv_at hl 3 rfl) ?_
          refine rdV (As := []) (rest := [.int (nI o)]) (b := ad 0) ⟨hx, hb, hml, hown, hts⟩ hK 0 (c_worstOutcome l D cs H RR0) (gin_v mw_19_17 mw_17_4 mw_17_5 mw_1_2 mw_17_6) (by decide +kernel) ⟨Nat.le_of_ble_eq_true rfl, Nat.le_of_ble_eq_true rfl⟩ (va_recv hK RR0.1 (ci := 3) (q0 := 0) rfl rfl) rfl hl.1 rfl (Nat.le_of_ble_eq_true rfl) dL_law_421 ⟨hce, hsl⟩ ?_
          refine W.eq (g2 := F0 m 424 ls [.int (nI (wst (GX su fa wf n) N)), .int (nI o)]) rfl ?_
          refine lv_icmp_ne (tgt := 438) hx hb dL_law_424 (by decide) (fun c_6 => ?_) (fun c_6 => ?_)
          · refine lv_iload hx hb dL_law_438 (lv_at hl 9 rfl) ?_
            refine lv_iload hx hb dL_law_440 (lv_at hl 10 rfl) ?_
            refine lv_aload_n hx hb dL_law_442 rfl (lv_at hl 3 rfl) ?_
            refine rdV (As := []) (rest := [.int (nI o), .int (b2i (decide ((wst (GX su fa wf n) N) < o)))]) (b := ad 0) ⟨hx, hb, hml, hown, hts⟩ hK 0 (c_worstOutcome l D cs H RR0) (gin_v mw_19_17 mw_17_4 mw_17_5 mw_1_2 mw_17_6) (by decide +kernel) ⟨Nat.le_of_ble_eq_true rfl, Nat.le_of_ble_eq_true rfl⟩ (va_recv hK RR0.1 (ci := 3) (q0 := 0) rfl rfl) rfl hl.1 rfl (Nat.le_of_ble_eq_true rfl) dL_law_443 ⟨hce, hsl⟩ ?_
            refine W.eq (g2 := F0 m 446 ls [.int (nI (wst (GX su fa wf n) N)), .int (nI o), .int (b2i (decide ((wst (GX su fa wf n) N) < o)))]) rfl ?_
            refine lv_icmp_ne (tgt := 453) hx hb dL_law_446 (by decide) (fun c_7 => ?_) (fun c_7 => ?_)
            · refine lv_iconst (v := b2i false) hx hb dL_law_453 (by first | decide | rfl) ?_
              refine lv_ior hx hb dL_law_454 ?_
              refine lv_rwi (y := b2i (decide ((wst (GX su fa wf n) N) < o + 1))) (by rw [b2i_or]; exact congrArg b2i (hb_n (fun z9 => c_7 (congrArg nI z9)))) ?_
              refine lv_istore (lv' := [(13, .int (b2i (decide ((wst (GX su fa wf n) N) < o + 1)))), (11, .long (smL (GX su fa wf n) (o + 1))), (15, .int (GX su fa wf n o)), (0, .ref b), (1, .ref (ad 0)), (2, .ref s0), (3, .int (nI t)), (4, .int x), (5, .long dg), (8, .int (nI N)), (14, .int (nI o))]) hx hb dL_law_455 hl (by decide) rfl (fun ls hl => ?_)
              refine lv_iinc (v := nI (o + 1)) (lv' := [(14, .int (nI (o + 1))), (13, .int (b2i (decide ((wst (GX su fa wf n) N) < o + 1)))), (11, .long (smL (GX su fa wf n) (o + 1))), (15, .int (GX su fa wf n o)), (0, .ref b), (1, .ref (ad 0)), (2, .ref s0), (3, .int (nI t)), (4, .int x), (5, .long dg), (8, .int (nI N))]) hx hb dL_law_457 hl (k := 10) rfl (nI_1 o) (by decide) rfl (fun ls hl => ?_)
              refine lv_goto (tgt := 368) hx hb dL_law_460 (by decide) ?_
              exact ih368 (o + 1) ls (by omega) (by omega) (lv_sub hl [4, 5, 6, 7, 8, 9, 10, 2, 1, 0] rfl)
            · refine lv_iconst (v := b2i true) hx hb dL_law_449 (by first | decide | rfl) ?_
              refine lv_goto (tgt := 454) hx hb dL_law_450 (by decide) ?_
              refine lv_ior hx hb dL_law_454 ?_
              refine lv_rwi (y := b2i (decide ((wst (GX su fa wf n) N) < o + 1))) (by rw [b2i_or]; exact congrArg b2i (hb_s ((nI_eq (by omega) (by omega)).mp c_7))) ?_
              refine lv_istore (lv' := [(13, .int (b2i (decide ((wst (GX su fa wf n) N) < o + 1)))), (11, .long (smL (GX su fa wf n) (o + 1))), (15, .int (GX su fa wf n o)), (0, .ref b), (1, .ref (ad 0)), (2, .ref s0), (3, .int (nI t)), (4, .int x), (5, .long dg), (8, .int (nI N)), (14, .int (nI o))]) hx hb dL_law_455 hl (by decide) rfl (fun ls hl => ?_)
              refine lv_iinc (v := nI (o + 1)) (lv' := [(14, .int (nI (o + 1))), (13, .int (b2i (decide ((wst (GX su fa wf n) N) < o + 1)))), (11, .long (smL (GX su fa wf n) (o + 1))), (15, .int (GX su fa wf n o)), (0, .ref b), (1, .ref (ad 0)), (2, .ref s0), (3, .int (nI t)), (4, .int x), (5, .long dg), (8, .int (nI N))]) hx hb dL_law_457 hl (k := 10) rfl (nI_1 o) (by decide) rfl (fun ls hl => ?_)
              refine lv_goto (tgt := 368) hx hb dL_law_460 (by decide) ?_
              exact ih368 (o + 1) ls (by omega) (by omega) (lv_sub hl [4, 5, 6, 7, 8, 9, 10, 2, 1, 0] rfl)
          · refine lv_iload hx hb dL_law_427 (lv_at hl 1 rfl) ?_
            refine lv_aload_n hx hb dL_law_429 rfl (lv_at hl 3 rfl) ?_
            refine rdV (As := []) (rest := [.int (GX su fa wf n o)]) (b := ad 0) ⟨hx, hb, hml, hown, hts⟩ hK 0 (c_worstGain l D cs H RR0) (gin_v mw_19_16 mw_17_0 mw_17_1 mw_1_2 mw_17_2) (by decide +kernel) ⟨Nat.le_of_ble_eq_true rfl, Nat.le_of_ble_eq_true rfl⟩ (va_recv hK RR0.1 (ci := 3) (q0 := 0) rfl rfl) rfl hl.1 rfl (Nat.le_of_ble_eq_true rfl) dL_law_430 ⟨hce, hsl⟩ ?_
            refine W.eq (g2 := F0 m 433 ls [.int (GX su fa wf n (wst (GX su fa wf n) N)), .int (GX su fa wf n o)]) rfl ?_
            refine lv_icmp_eq (tgt := 438) hx hb dL_law_433 (by decide) (fun c_8 => ?_) (fun c_8 => False.elim (c_8 (by rw [← (nI_eq (by omega) (by omega)).mp c_6])))
            refine lv_iload hx hb dL_law_438 (lv_at hl 9 rfl) ?_
            refine lv_iload hx hb dL_law_440 (lv_at hl 10 rfl) ?_
            refine lv_aload_n hx hb dL_law_442 rfl (lv_at hl 3 rfl) ?_
            refine rdV (As := []) (rest := [.int (nI o), .int (b2i (decide ((wst (GX su fa wf n) N) < o)))]) (b := ad 0) ⟨hx, hb, hml, hown, hts⟩ hK 0 (c_worstOutcome l D cs H RR0) (gin_v mw_19_17 mw_17_4 mw_17_5 mw_1_2 mw_17_6) (by decide +kernel) ⟨Nat.le_of_ble_eq_true rfl, Nat.le_of_ble_eq_true rfl⟩ (va_recv hK RR0.1 (ci := 3) (q0 := 0) rfl rfl) rfl hl.1 rfl (Nat.le_of_ble_eq_true rfl) dL_law_443 ⟨hce, hsl⟩ ?_
            refine W.eq (g2 := F0 m 446 ls [.int (nI (wst (GX su fa wf n) N)), .int (nI o), .int (b2i (decide ((wst (GX su fa wf n) N) < o)))]) rfl ?_
            refine lv_icmp_ne (tgt := 453) hx hb dL_law_446 (by decide) (fun c_9 => ?_) (fun c_9 => ?_)
            · refine lv_iconst (v := b2i false) hx hb dL_law_453 (by first | decide | rfl) ?_
              refine lv_ior hx hb dL_law_454 ?_
              refine lv_rwi (y := b2i (decide ((wst (GX su fa wf n) N) < o + 1))) (by rw [b2i_or]; exact congrArg b2i (hb_n (fun z9 => c_9 (congrArg nI z9)))) ?_
              refine lv_istore (lv' := [(13, .int (b2i (decide ((wst (GX su fa wf n) N) < o + 1)))), (11, .long (smL (GX su fa wf n) (o + 1))), (15, .int (GX su fa wf n o)), (0, .ref b), (1, .ref (ad 0)), (2, .ref s0), (3, .int (nI t)), (4, .int x), (5, .long dg), (8, .int (nI N)), (14, .int (nI o))]) hx hb dL_law_455 hl (by decide) rfl (fun ls hl => ?_)
              refine lv_iinc (v := nI (o + 1)) (lv' := [(14, .int (nI (o + 1))), (13, .int (b2i (decide ((wst (GX su fa wf n) N) < o + 1)))), (11, .long (smL (GX su fa wf n) (o + 1))), (15, .int (GX su fa wf n o)), (0, .ref b), (1, .ref (ad 0)), (2, .ref s0), (3, .int (nI t)), (4, .int x), (5, .long dg), (8, .int (nI N))]) hx hb dL_law_457 hl (k := 10) rfl (nI_1 o) (by decide) rfl (fun ls hl => ?_)
              refine lv_goto (tgt := 368) hx hb dL_law_460 (by decide) ?_
              exact ih368 (o + 1) ls (by omega) (by omega) (lv_sub hl [4, 5, 6, 7, 8, 9, 10, 2, 1, 0] rfl)
            · refine lv_iconst (v := b2i true) hx hb dL_law_449 (by first | decide | rfl) ?_
              refine lv_goto (tgt := 454) hx hb dL_law_450 (by decide) ?_
              refine lv_ior hx hb dL_law_454 ?_
              refine lv_rwi (y := b2i (decide ((wst (GX su fa wf n) N) < o + 1))) (by rw [b2i_or]; exact congrArg b2i (hb_s ((nI_eq (by omega) (by omega)).mp c_9))) ?_
              refine lv_istore (lv' := [(13, .int (b2i (decide ((wst (GX su fa wf n) N) < o + 1)))), (11, .long (smL (GX su fa wf n) (o + 1))), (15, .int (GX su fa wf n o)), (0, .ref b), (1, .ref (ad 0)), (2, .ref s0), (3, .int (nI t)), (4, .int x), (5, .long dg), (8, .int (nI N)), (14, .int (nI o))]) hx hb dL_law_455 hl (by decide) rfl (fun ls hl => ?_)
              refine lv_iinc (v := nI (o + 1)) (lv' := [(14, .int (nI (o + 1))), (13, .int (b2i (decide ((wst (GX su fa wf n) N) < o + 1)))), (11, .long (smL (GX su fa wf n) (o + 1))), (15, .int (GX su fa wf n o)), (0, .ref b), (1, .ref (ad 0)), (2, .ref s0), (3, .int (nI t)), (4, .int x), (5, .long dg), (8, .int (nI N))]) hx hb dL_law_457 hl (k := 10) rfl (nI_1 o) (by decide) rfl (fun ls hl => ?_)
              refine lv_goto (tgt := 368) hx hb dL_law_460 (by decide) ?_
              exact ih368 (o + 1) ls (by omega) (by omega) (lv_sub hl [4, 5, 6, 7, 8, 9, 10, 2, 1, 0] rfl)
        · refine lv_iload hx hb dL_law_409 (lv_at hl 10 rfl) ?_
          refine lv_aload_n hx hb dL_law_411 rfl (lv_at hl 3 rfl) ?_
          refine rdV (As := []) (rest := [.int (nI o)]) (b := ad 0) ⟨hx, hb, hml, hown, hts⟩ hK 0 (c_worstOutcome l D cs H RR0) (gin_v mw_19_17 mw_17_4 mw_17_5 mw_1_2 mw_17_6) (by decide +kernel) ⟨Nat.le_of_ble_eq_true rfl, Nat.le_of_ble_eq_true rfl⟩ (va_recv hK RR0.1 (ci := 3) (q0 := 0) rfl rfl) rfl hl.1 rfl (Nat.le_of_ble_eq_true rfl) dL_law_412 ⟨hce, hsl⟩ ?_
          refine W.eq (g2 := F0 m 415 ls [.int (nI (wst (GX su fa wf n) N)), .int (nI o)]) rfl ?_
          refine lv_icmp_lt (tgt := 436) hx hb dL_law_415 (by decide) (fun c_10 => False.elim (absurd c_10 (nI_nlt (hw2 c_5) (by omega)))) (fun c_10 => ?_)
          refine lv_iload hx hb dL_law_418 (lv_at hl 10 rfl) ?_
          refine lv_aload_n hx hb dL_law_420 rfl (lv_at hl 3 rfl) ?_
          refine rdV (As := []) (rest := [.int (nI o)]) (b := ad 0) ⟨hx, hb, hml, hown, hts⟩ hK 0 (c_worstOutcome l D cs H RR0) (gin_v mw_19_17 mw_17_4 mw_17_5 mw_1_2 mw_17_6) (by decide +kernel) ⟨Nat.le_of_ble_eq_true rfl, Nat.le_of_ble_eq_true rfl⟩ (va_recv hK RR0.1 (ci := 3) (q0 := 0) rfl rfl) rfl hl.1 rfl (Nat.le_of_ble_eq_true rfl) dL_law_421 ⟨hce, hsl⟩ ?_
          refine W.eq (g2 := F0 m 424 ls [.int (nI (wst (GX su fa wf n) N)), .int (nI o)]) rfl ?_
          refine lv_icmp_ne (tgt := 438) hx hb dL_law_424 (by decide) (fun c_11 => ?_) (fun c_11 => ?_)
          · refine lv_iload hx hb dL_law_438 (lv_at hl 9 rfl) ?_
            refine lv_iload hx hb dL_law_440 (lv_at hl 10 rfl) ?_
            refine lv_aload_n hx hb dL_law_442 rfl (lv_at hl 3 rfl) ?_
            refine rdV (As := []) (rest := [.int (nI o), .int (b2i (decide ((wst (GX su fa wf n) N) < o)))]) (b := ad 0) ⟨hx, hb, hml, hown, hts⟩ hK 0 (c_worstOutcome l D cs H RR0) (gin_v mw_19_17 mw_17_4 mw_17_5 mw_1_2 mw_17_6) (by decide +kernel) ⟨Nat.le_of_ble_eq_true rfl, Nat.le_of_ble_eq_true rfl⟩ (va_recv hK RR0.1 (ci := 3) (q0 := 0) rfl rfl) rfl hl.1 rfl (Nat.le_of_ble_eq_true rfl) dL_law_443 ⟨hce, hsl⟩ ?_
            refine W.eq (g2 := F0 m 446 ls [.int (nI (wst (GX su fa wf n) N)), .int (nI o), .int (b2i (decide ((wst (GX su fa wf n) N) < o)))]) rfl ?_
            refine lv_icmp_ne (tgt := 453) hx hb dL_law_446 (by decide) (fun c_12 => ?_) (fun c_12 => ?_)
            · refine lv_iconst (v := b2i false) hx hb dL_law_453 (by first | decide | rfl) ?_
              refine lv_ior hx hb dL_law_454 ?_
              refine lv_rwi (y := b2i (decide ((wst (GX su fa wf n) N) < o + 1))) (by rw [b2i_or]; exact congrArg b2i (hb_n (fun z9 => c_12 (congrArg nI z9)))) ?_
              refine lv_istore (lv' := [(13, .int (b2i (decide ((wst (GX su fa wf n) N) < o + 1)))), (11, .long (smL (GX su fa wf n) (o + 1))), (15, .int (GX su fa wf n o)), (0, .ref b), (1, .ref (ad 0)), (2, .ref s0), (3, .int (nI t)), (4, .int x), (5, .long dg), (8, .int (nI N)), (14, .int (nI o))]) hx hb dL_law_455 hl (by decide) rfl (fun ls hl => ?_)
              refine lv_iinc (v := nI (o + 1)) (lv' := [(14, .int (nI (o + 1))), (13, .int (b2i (decide ((wst (GX su fa wf n) N) < o + 1)))), (11, .long (smL (GX su fa wf n) (o + 1))), (15, .int (GX su fa wf n o)), (0, .ref b), (1, .ref (ad 0)), (2, .ref s0), (3, .int (nI t)), (4, .int x), (5, .long dg), (8, .int (nI N))]) hx hb dL_law_457 hl (k := 10) rfl (nI_1 o) (by decide) rfl (fun ls hl => ?_)
              refine lv_goto (tgt := 368) hx hb dL_law_460 (by decide) ?_
              exact ih368 (o + 1) ls (by omega) (by omega) (lv_sub hl [4, 5, 6, 7, 8, 9, 10, 2, 1, 0] rfl)
            · refine lv_iconst (v := b2i true) hx hb dL_law_449 (by first | decide | rfl) ?_
              refine lv_goto (tgt := 454) hx hb dL_law_450 (by decide) ?_
              refine lv_ior hx hb dL_law_454 ?_
              refine lv_rwi (y := b2i (decide ((wst (GX su fa wf n) N) < o + 1))) (by rw [b2i_or]; exact congrArg b2i (hb_s ((nI_eq (by omega) (by omega)).mp c_12))) ?_
              refine lv_istore (lv' := [(13, .int (b2i (decide ((wst (GX su fa wf n) N) < o + 1)))), (11, .long (smL (GX su fa wf n) (o + 1))), (15, .int (GX su fa wf n o)), (0, .ref b), (1, .ref (ad 0)), (2, .ref s0), (3, .int (nI t)), (4, .int x), (5, .long dg), (8, .int (nI N)), (14, .int (nI o))]) hx hb dL_law_455 hl (by decide) rfl (fun ls hl => ?_)
              refine lv_iinc (v := nI (o + 1)) (lv' := [(14, .int (nI (o + 1))), (13, .int (b2i (decide ((wst (GX su fa wf n) N) < o + 1)))), (11, .long (smL (GX su fa wf n) (o + 1))), (15, .int (GX su fa wf n o)), (0, .ref b), (1, .ref (ad 0)), (2, .ref s0), (3, .int (nI t)), (4, .int x), (5, .long dg), (8, .int (nI N))]) hx hb dL_law_457 hl (k := 10) rfl (nI_1 o) (by decide) rfl (fun ls hl => ?_)
              refine lv_goto (tgt := 368) hx hb dL_law_460 (by decide) ?_
              exact ih368 (o + 1) ls (by omega) (by omega) (lv_sub hl [4, 5, 6, 7, 8, 9, 10, 2, 1, 0] rfl)
          · refine lv_iload hx hb dL_law_427 (lv_at hl 1 rfl) ?_
            refine lv_aload_n hx hb dL_law_429 rfl (lv_at hl 3 rfl) ?_
            refine rdV (As := []) (rest := [.int (GX su fa wf n o)]) (b := ad 0) ⟨hx, hb, hml, hown, hts⟩ hK 0 (c_worstGain l D cs H RR0) (gin_v mw_19_16 mw_17_0 mw_17_1 mw_1_2 mw_17_2) (by decide +kernel) ⟨Nat.le_of_ble_eq_true rfl, Nat.le_of_ble_eq_true rfl⟩ (va_recv hK RR0.1 (ci := 3) (q0 := 0) rfl rfl) rfl hl.1 rfl (Nat.le_of_ble_eq_true rfl) dL_law_430 ⟨hce, hsl⟩ ?_
            refine W.eq (g2 := F0 m 433 ls [.int (GX su fa wf n (wst (GX su fa wf n) N)), .int (GX su fa wf n o)]) rfl ?_
            refine lv_icmp_eq (tgt := 438) hx hb dL_law_433 (by decide) (fun c_13 => ?_) (fun c_13 => False.elim (c_13 (by rw [← (nI_eq (by omega) (by omega)).mp c_11])))
            refine lv_iload hx hb dL_law_438 (lv_at hl 9 rfl) ?_
            refine lv_iload hx hb dL_law_440 (lv_at hl 10 rfl) ?_
            refine lv_aload_n hx hb dL_law_442 rfl (lv_at hl 3 rfl) ?_
            refine rdV (As := []) (rest := [.int (nI o), .int (b2i (decide ((wst (GX su fa wf n) N) < o)))]) (b := ad 0) ⟨hx, hb, hml, hown, hts⟩ hK 0 (c_worstOutcome l D cs H RR0) (gin_v mw_19_17 mw_17_4 mw_17_5 mw_1_2 mw_17_6) (by decide +kernel) ⟨Nat.le_of_ble_eq_true rfl, Nat.le_of_ble_eq_true rfl⟩ (va_recv hK RR0.1 (ci := 3) (q0 := 0) rfl rfl) rfl hl.1 rfl (Nat.le_of_ble_eq_true rfl) dL_law_443 ⟨hce, hsl⟩ ?_
            refine W.eq (g2 := F0 m 446 ls [.int (nI (wst (GX su fa wf n) N)), .int (nI o), .int (b2i (decide ((wst (GX su fa wf n) N) < o)))]) rfl ?_
            refine lv_icmp_ne (tgt := 453) hx hb dL_law_446 (by decide) (fun c_14 => ?_) (fun c_14 => ?_)
            · refine lv_iconst (v := b2i false) hx hb dL_law_453 (by first | decide | rfl) ?_
              refine lv_ior hx hb dL_law_454 ?_
              refine lv_rwi (y := b2i (decide ((wst (GX su fa wf n) N) < o + 1))) (by rw [b2i_or]; exact congrArg b2i (hb_n (fun z9 => c_14 (congrArg nI z9)))) ?_
              refine lv_istore (lv' := [(13, .int (b2i (decide ((wst (GX su fa wf n) N) < o + 1)))), (11, .long (smL (GX su fa wf n) (o + 1))), (15, .int (GX su fa wf n o)), (0, .ref b), (1, .ref (ad 0)), (2, .ref s0), (3, .int (nI t)), (4, .int x), (5, .long dg), (8, .int (nI N)), (14, .int (nI o))]) hx hb dL_law_455 hl (by decide) rfl (fun ls hl => ?_)
              refine lv_iinc (v := nI (o + 1)) (lv' := [(14, .int (nI (o + 1))), (13, .int (b2i (decide ((wst (GX su fa wf n) N) < o + 1)))), (11, .long (smL (GX su fa wf n) (o + 1))), (15, .int (GX su fa wf n o)), (0, .ref b), (1, .ref (ad 0)), (2, .ref s0), (3, .int (nI t)), (4, .int x), (5, .long dg), (8, .int (nI N))]) hx hb dL_law_457 hl (k := 10) rfl (nI_1 o) (by decide) rfl (fun ls hl => ?_)
              refine lv_goto (tgt := 368) hx hb dL_law_460 (by decide) ?_
              exact ih368 (o + 1) ls (by omega) (by omega) (lv_sub hl [4, 5, 6, 7, 8, 9, 10, 2, 1, 0] rfl)
            · refine lv_iconst (v := b2i true) hx hb dL_law_449 (by first | decide | rfl) ?_
              refine lv_goto (tgt := 454) hx hb dL_law_450 (by decide) ?_
              refine lv_ior hx hb dL_law_454 ?_
              refine lv_rwi (y := b2i (decide ((wst (GX su fa wf n) N) < o + 1))) (by rw [b2i_or]; exact congrArg b2i (hb_s ((nI_eq (by omega) (by omega)).mp c_14))) ?_
              refine lv_istore (lv' := [(13, .int (b2i (decide ((wst (GX su fa wf n) N) < o + 1)))), (11, .long (smL (GX su fa wf n) (o + 1))), (15, .int (GX su fa wf n o)), (0, .ref b), (1, .ref (ad 0)), (2, .ref s0), (3, .int (nI t)), (4, .int x), (5, .long dg), (8, .int (nI N)), (14, .int (nI o))]) hx hb dL_law_455 hl (by decide) rfl (fun ls hl => ?_)
              refine lv_iinc (v := nI (o + 1)) (lv' := [(14, .int (nI (o + 1))), (13, .int (b2i (decide ((wst (GX su fa wf n) N) < o + 1)))), (11, .long (smL (GX su fa wf n) (o + 1))), (15, .int (GX su fa wf n o)), (0, .ref b), (1, .ref (ad 0)), (2, .ref s0), (3, .int (nI t)), (4, .int x), (5, .long dg), (8, .int (nI N))]) hx hb dL_law_457 hl (k := 10) rfl (nI_1 o) (by decide) rfl (fun ls hl => ?_)
              refine lv_goto (tgt := 368) hx hb dL_law_460 (by decide) ?_
              exact ih368 (o + 1) ls (by omega) (by omega) (lv_sub hl [4, 5, 6, 7, 8, 9, 10, 2, 1, 0] rfl)
  exact loop368 (N + 1) 0 ls (Nat.zero_le _) (by omega) (lv_sub hl [3, 4, 5, 6, 7, 8, 9, 2, 1, 0] rfl)
set_option maxHeartbeats 4000000 in
set_option maxRecDepth 100000 in
theorem L_wag {p : Program} {l : Launch} {e : Env} {s : State} {m : MethodId} {b : Nat} {below : List Frame} {meth : Method} {c : Code} {ls : Array Slot} {Q : State → Prop} {H : Heap} {locs : List Loc} {ce sl : Nat} {D : va_G} {cs : Nat → ClassId} {s0 t : Nat} {x : Int32} {dg : Int64} (CC : LX p c m s b D cs) (hce : ce ≤ 600074) (hsl : sl ≤ 7301550) {ad : Nat → Nat} {bank rnds cnt mcn : Int32} {N n cap : Nat} {su fa pu : Nat → Int32} {rf : Nat → Option Nat} {wa : Nat → Nat} {wf : Nat → Nat → Int32} (RR0 : RX D cs H ad bank rnds cnt mcn N n cap su fa pu rf wa wf (kW wf)) (hN1 : 1 ≤ N) (hN : N ≤ 1728) (hn12 : n ≤ 12) (hW9 : WQ N su fa n wf) (hl : lv_has ls 27 [(0, .ref b), (1, .ref (ad 0)), (2, .ref s0), (3, .int (nI t)), (4, .int x), (5, .long dg), (8, .int (nI N))]) (kk : ∀ ls : Array Slot, lv_has ls 27 [(0, .ref b), (1, .ref (ad 0)), (2, .ref s0), (3, .int (nI t)), (4, .int x), (5, .long dg), (8, .int (nI N))] → W p l e room_1 s m #[Value.ref b] below meth c H locs ce sl Q (F0 m 598 ls [])) : W p l e room_1 s m #[Value.ref b] below meth c H locs ce sl Q (F0 m 491 ls []) := by
  obtain ⟨hx, hb, hml, hown, hts, hK⟩ := id CC
  refine lv_aload_n hx hb dL_law_491 rfl (lv_at hl 1 rfl) ?_
  refine rdV (As := []) (rest := []) (b := ad 0) ⟨hx, hb, hml, hown, hts⟩ hK 0 (c_dearestWager l D cs H RR0) (gin_v mw_19_20 mw_16_20 mw_16_21 mw_1_2 mw_16_22) (by decide +kernel) ⟨Nat.le_of_ble_eq_true rfl, Nat.le_of_ble_eq_true rfl⟩ (va_recv hK RR0.1 (ci := 3) (q0 := 0) rfl rfl) rfl hl.1 rfl (Nat.le_of_ble_eq_true rfl) dL_law_492 ⟨hce, hsl⟩ ?_
  refine W.eq (g2 := F0 m 495 ls [.int ((drs N wf n).1)]) rfl ?_
  refine lv_istore (lv' := [(14, .int ((drs N wf n).1)), (0, .ref b), (1, .ref (ad 0)), (2, .ref s0), (3, .int (nI t)), (4, .int x), (5, .long dg), (8, .int (nI N))]) hx hb dL_law_495 hl (by decide) rfl (fun ls hl => ?_)
  refine lv_iconst (v := nI 0) hx hb dL_law_497 (by first | decide | rfl) ?_
  refine lv_istore (lv' := [(15, .int (nI 0)), (14, .int ((drs N wf n).1)), (0, .ref b), (1, .ref (ad 0)), (2, .ref s0), (3, .int (nI t)), (4, .int x), (5, .long dg), (8, .int (nI N))]) hx hb dL_law_498 hl (by decide) rfl (fun ls hl => ?_)
  have loop500 : ∀ (n9 : Nat) (i : Nat) (ls : Array Slot), i ≤ n → n + 1 ≤ i + n9 → lv_has ls 27 [(0, .ref b), (1, .ref (ad 0)), (2, .ref s0), (3, .int (nI t)), (4, .int x), (5, .long dg), (8, .int (nI N)), (14, .int ((drs N wf n).1)), (15, .int (nI i))] → W p l e room_1 s m #[Value.ref b] below meth c H locs ce sl Q (F0 m 500 ls []) := by
    intro n9
    induction n9 with
    | zero => intro i  ls hi hfu hl; exact absurd hfu (by omega)
    | succ n9 ih500 =>
      intro i  ls hi hfu hl
      refine lv_iload hx hb dL_law_500 (lv_at hl 8 rfl) ?_
      refine lv_aload_n hx hb dL_law_502 rfl (lv_at hl 1 rfl) ?_
      refine rdV (As := []) (rest := [.int (nI i)]) (b := ad 0) ⟨hx, hb, hml, hown, hts⟩ hK 0 (c_open l D cs H RR0) (gin_v mw_19_3 mw_14_16 mw_14_17 mw_1_2 mw_14_18) (by decide +kernel) ⟨Nat.le_of_ble_eq_true rfl, Nat.le_of_ble_eq_true rfl⟩ (va_recv hK RR0.1 (ci := 3) (q0 := 0) rfl rfl) rfl hl.1 rfl (Nat.le_of_ble_eq_true rfl) dL_law_503 ⟨hce, hsl⟩ ?_
      refine W.eq (g2 := F0 m 506 ls [.int (nI n), .int (nI i)]) rfl ?_
      refine lv_icmp_ge (tgt := 598) hx hb dL_law_506 (by decide) (fun c_1 => ?_) (fun c_1 => ?_)
      · exact kk ls (lv_sub hl [0, 1, 2, 3, 4, 5, 6] rfl)
      · have hlt : i < n := by
          rcases Nat.lt_or_ge i n with q | q
          · exact q
          · exact absurd (nI_le q (by omega)) c_1
        obtain ⟨b9, hb9, eb9, hm9⟩ : ∃ b9, b9 < n ∧ (drs N wf n).1 = nI b9 ∧ ∀ w, w < n → (goX N wf w).toInt * (iN (wf b9 3) : Int) ≤ (goX N wf b9).toInt * (iN (wf w 3) : Int) := by
          rcases drs_ok hN hW9 hn12 n (Nat.le_refl n) with ⟨z9, -⟩ | ⟨b9, g1, g2, g3⟩
          · omega
          · exact ⟨b9, g1, by rw [g2], g3⟩
        obtain ⟨d9, d1, d2, d3, d4, -⟩ := ed_parts (g := goX N wf i) hN1 hN (by have g := go_bd hN hW9 hlt; omega)
        have hE9 := edF hN1 hN (g := goX N wf i) (by have g := go_bd hN hW9 hlt; omega)
        refine lv_aload_n hx hb dL_law_509 rfl (lv_at hl 1 rfl) ?_
        refine lv_iload hx hb dL_law_510 (lv_at hl 8 rfl) ?_
        refine rdV (As := [.int (nI i)]) (rest := []) (b := ad 0) ⟨hx, hb, hml, hown, hts⟩ hK 1 (c_edgeTop l D cs H RR0 i (by omega)) (gin_v mw_19_21 mw_18_0 mw_18_1 mw_1_2 mw_18_2) (by decide +kernel) ⟨Nat.le_of_ble_eq_true rfl, Nat.le_of_ble_eq_true rfl⟩ (va_recv hK RR0.1 (ci := 3) (q0 := 0) rfl rfl) rfl hl.1 rfl (Nat.le_of_ble_eq_true rfl) dL_law_512 ⟨hce, hsl⟩ ?_
        refine W.eq (g2 := F0 m 515 ls [.int (goX N wf i / cdX (goX N wf i) (nI N))]) rfl ?_
        refine lv_i2l hx hb dL_law_515 rfl ?_
        refine lv_aload_n hx hb dL_law_516 rfl (lv_at hl 1 rfl) ?_
        refine lv_iload hx hb dL_law_517 (lv_at hl 7 rfl) ?_
        refine lv_rwi (y := nI b9) (eb9) ?_
        refine rdV (As := [.int (nI b9)]) (rest := [.long ((goX N wf i / cdX (goX N wf i) (nI N)).toInt64)]) (b := ad 0) ⟨hx, hb, hml, hown, hts⟩ hK 1 (c_edgeBottom l D cs H RR0 b9 (by omega)) (gin_v mw_19_22 mw_18_4 mw_18_5 mw_1_2 mw_18_6) (by decide +kernel) ⟨Nat.le_of_ble_eq_true rfl, Nat.le_of_ble_eq_true rfl⟩ (va_recv hK RR0.1 (ci := 3) (q0 := 0) rfl rfl) rfl hl.1 rfl (Nat.le_of_ble_eq_true rfl) dL_law_519 ⟨hce, hsl⟩ ?_
        refine W.eq (g2 := F0 m 522 ls [.int (nI N / cdX (goX N wf b9) (nI N)), .long ((goX N wf i / cdX (goX N wf i) (nI N)).toInt64)]) rfl ?_
        refine lv_i2l hx hb dL_law_522 rfl ?_
        refine lv_lmul hx hb dL_law_523 ?_
        refine lv_aload_n hx hb dL_law_524 rfl (lv_at hl 1 rfl) ?_
        refine lv_iload hx hb dL_law_525 (lv_at hl 7 rfl) ?_
        refine lv_rwi (y := nI b9) (eb9) ?_
        refine rdV (As := [.int (nI b9)]) (rest := [.long (((goX N wf i / cdX (goX N wf i) (nI N)).toInt64) * ((nI N / cdX (goX N wf b9) (nI N)).toInt64))]) (b := ad 0) ⟨hx, hb, hml, hown, hts⟩ hK 1 (c_stakeOf l D cs H RR0 b9 (by omega)) (gin_v mw_19_23 mw_17_16 mw_17_17 mw_1_2 mw_17_18) (by decide +kernel) ⟨Nat.le_of_ble_eq_true rfl, Nat.le_of_ble_eq_true rfl⟩ (va_recv hK RR0.1 (ci := 3) (q0 := 0) rfl rfl) rfl hl.1 rfl (Nat.le_of_ble_eq_true rfl) dL_law_527 ⟨hce, hsl⟩ ?_
        refine W.eq (g2 := F0 m 530 ls [.int (wf b9 3), .long (((goX N wf i / cdX (goX N wf i) (nI N)).toInt64) * ((nI N / cdX (goX N wf b9) (nI N)).toInt64))]) rfl ?_
        refine lv_i2l hx hb dL_law_530 rfl ?_
        refine lv_lmul hx hb dL_law_531 ?_
        refine lv_aload_n hx hb dL_law_532 rfl (lv_at hl 1 rfl) ?_
        refine lv_iload hx hb dL_law_533 (lv_at hl 7 rfl) ?_
        refine lv_rwi (y := nI b9) (eb9) ?_
        refine rdV (As := [.int (nI b9)]) (rest := [.long ((((goX N wf i / cdX (goX N wf i) (nI N)).toInt64) * ((nI N / cdX (goX N wf b9) (nI N)).toInt64)) * ((wf b9 3).toInt64))]) (b := ad 0) ⟨hx, hb, hml, hown, hts⟩ hK 1 (c_edgeTop l D cs H RR0 b9 (by omega)) (gin_v mw_19_21 mw_18_0 mw_18_1 mw_1_2 mw_18_2) (by decide +kernel) ⟨Nat.le_of_ble_eq_true rfl, Nat.le_of_ble_eq_true rfl⟩ (va_recv hK RR0.1 (ci := 3) (q0 := 0) rfl rfl) rfl hl.1 rfl (Nat.le_of_ble_eq_true rfl) dL_law_535 ⟨hce, hsl⟩ ?_
        refine W.eq (g2 := F0 m 538 ls [.int (goX N wf b9 / cdX (goX N wf b9) (nI N)), .long ((((goX N wf i / cdX (goX N wf i) (nI N)).toInt64) * ((nI N / cdX (goX N wf b9) (nI N)).toInt64)) * ((wf b9 3).toInt64))]) rfl ?_
        refine lv_i2l hx hb dL_law_538 rfl ?_
        refine lv_aload_n hx hb dL_law_539 rfl (lv_at hl 1 rfl) ?_
        refine lv_iload hx hb dL_law_540 (lv_at hl 8 rfl) ?_
        refine rdV (As := [.int (nI i)]) (rest := [.long ((goX N wf b9 / cdX (goX N wf b9) (nI N)).toInt64), .long ((((goX N wf i / cdX (goX N wf i) (nI N)).toInt64) * ((nI N / cdX (goX N wf b9) (nI N)).toInt64)) * ((wf b9 3).toInt64))]) (b := ad 0) ⟨hx, hb, hml, hown, hts⟩ hK 1 (c_edgeBottom l D cs H RR0 i (by omega)) (gin_v mw_19_22 mw_18_4 mw_18_5 mw_1_2 mw_18_6) (by decide +kernel) ⟨Nat.le_of_ble_eq_true rfl, Nat.le_of_ble_eq_true rfl⟩ (va_recv hK RR0.1 (ci := 3) (q0 := 0) rfl rfl) rfl hl.1 rfl (Nat.le_of_ble_eq_true rfl) dL_law_542 ⟨hce, hsl⟩ ?_
        refine W.eq (g2 := F0 m 545 ls [.int (nI N / cdX (goX N wf i) (nI N)), .long ((goX N wf b9 / cdX (goX N wf b9) (nI N)).toInt64), .long ((((goX N wf i / cdX (goX N wf i) (nI N)).toInt64) * ((nI N / cdX (goX N wf b9) (nI N)).toInt64)) * ((wf b9 3).toInt64))]) rfl ?_
        refine lv_i2l hx hb dL_law_545 rfl ?_
        refine lv_lmul hx hb dL_law_546 ?_
        refine lv_aload_n hx hb dL_law_547 rfl (lv_at hl 1 rfl) ?_
        refine lv_iload hx hb dL_law_548 (lv_at hl 8 rfl) ?_
        refine rdV (As := [.int (nI i)]) (rest := [.long (((goX N wf b9 / cdX (goX N wf b9) (nI N)).toInt64) * ((nI N / cdX (goX N wf i) (nI N)).toInt64)), .long ((((goX N wf i / cdX (goX N wf i) (nI N)).toInt64) * ((nI N / cdX (goX N wf b9) (nI N)).toInt64)) * ((wf b9 3).toInt64))]) (b := ad 0) ⟨hx, hb, hml, hown, hts⟩ hK 1 (c_stakeOf l D cs H RR0 i (by omega)) (gin_v mw_19_23 mw_17_16 mw_17_17 mw_1_2 mw_17_18) (by decide +kernel) ⟨Nat.le_of_ble_eq_true rfl, Nat.le_of_ble_eq_true rfl⟩ (va_recv hK RR0.1 (ci := 3) (q0 := 0) rfl rfl) rfl hl.1 rfl (Nat.le_of_ble_eq_true rfl) dL_law_550 ⟨hce, hsl⟩ ?_
        refine W.eq (g2 := F0 m 553 ls [.int (wf i 3), .long (((goX N wf b9 / cdX (goX N wf b9) (nI N)).toInt64) * ((nI N / cdX (goX N wf i) (nI N)).toInt64)), .long ((((goX N wf i / cdX (goX N wf i) (nI N)).toInt64) * ((nI N / cdX (goX N wf b9) (nI N)).toInt64)) * ((wf b9 3).toInt64))]) rfl ?_
        refine lv_i2l hx hb dL_law_553 rfl ?_
        refine lv_lmul hx hb dL_law_554 ?_
        refine W.lcmp hx hb dL_law_555 ?_
        refine lv_if_gt (tgt := 590) hx hb dL_law_556 (by decide) (fun c_2 => False.elim (absurd c_2 (Int32.not_lt.mpr ((lcmp_le _ _).mpr (dear_ok hN1 hN hW9 hb9 hlt (hm9 i hlt)))))) (fun c_2 => ?_)
        refine lv_aload_n hx hb dL_law_559 rfl (lv_at hl 1 rfl) ?_
        refine lv_iload hx hb dL_law_560 (lv_at hl 8 rfl) ?_
        refine rdV (As := [.int (nI i)]) (rest := []) (b := ad 0) ⟨hx, hb, hml, hown, hts⟩ hK 1 (c_edgeBottom l D cs H RR0 i (by omega)) (gin_v mw_19_22 mw_18_4 mw_18_5 mw_1_2 mw_18_6) (by decide +kernel) ⟨Nat.le_of_ble_eq_true rfl, Nat.le_of_ble_eq_true rfl⟩ (va_recv hK RR0.1 (ci := 3) (q0 := 0) rfl rfl) rfl hl.1 rfl (Nat.le_of_ble_eq_true rfl) dL_law_562 ⟨hce, hsl⟩ ?_
        refine W.eq (g2 := F0 m 565 ls [.int (nI N / cdX (goX N wf i) (nI N))]) rfl ?_
        refine lv_iconst (v := nI 1) hx hb dL_law_565 (by first | decide | rfl) ?_
        refine lv_icmp_lt (tgt := 590) hx hb dL_law_566 (by decide) (fun c_3 => False.elim (absurd c_3 (by rw [hE9.1]; exact nI_nlt hE9.2.1 (by have := hE9.2.2.1; omega)))) (fun c_3 => ?_)
        refine lv_iload hx hb dL_law_569 (lv_at hl 6 rfl) ?_
        refine lv_aload_n hx hb dL_law_571 rfl (lv_at hl 1 rfl) ?_
        refine lv_iload hx hb dL_law_572 (lv_at hl 8 rfl) ?_
        refine rdV (As := [.int (nI i)]) (rest := [.int (nI N)]) (b := ad 0) ⟨hx, hb, hml, hown, hts⟩ hK 1 (c_edgeBottom l D cs H RR0 i (by omega)) (gin_v mw_19_22 mw_18_4 mw_18_5 mw_1_2 mw_18_6) (by decide +kernel) ⟨Nat.le_of_ble_eq_true rfl, Nat.le_of_ble_eq_true rfl⟩ (va_recv hK RR0.1 (ci := 3) (q0 := 0) rfl rfl) rfl hl.1 rfl (Nat.le_of_ble_eq_true rfl) dL_law_574 ⟨hce, hsl⟩ ?_
        refine W.eq (g2 := F0 m 577 ls [.int (nI N / cdX (goX N wf i) (nI N)), .int (nI N)]) rfl ?_
        refine lv_irem hx hb dL_law_577 (by rw [hE9.1]; exact nI_ne0 hE9.2.1 (by have := hE9.2.2.1; omega)) ?_
        refine lv_if_ne (tgt := 590) hx hb dL_law_578 (by decide) (fun c_4 => False.elim (absurd (bot_dvd hE9.1 d4 d1 d2 hN1 hN hE9.2.1 hE9.2.2.1) c_4)) (fun c_4 => ?_)
        refine lv_aload_n hx hb dL_law_581 rfl (lv_at hl 1 rfl) ?_
        refine lv_iload hx hb dL_law_582 (lv_at hl 8 rfl) ?_
        refine rdV (As := [.int (nI i)]) (rest := []) (b := ad 0) ⟨hx, hb, hml, hown, hts⟩ hK 1 (c_bringsOf l D cs H RR0 i (by omega)) (gin_v mw_20_0 mw_17_20 mw_17_21 mw_1_2 mw_17_22) (by decide +kernel) ⟨Nat.le_of_ble_eq_true rfl, Nat.le_of_ble_eq_true rfl⟩ (va_recv hK RR0.1 (ci := 3) (q0 := 0) rfl rfl) rfl hl.1 rfl (Nat.le_of_ble_eq_true rfl) dL_law_584 ⟨hce, hsl⟩ ?_
        refine W.eq (g2 := F0 m 587 ls [.int (wf i 4)]) rfl ?_
        refine lv_if_ge (tgt := 592) hx hb dL_law_587 (by decide) (fun c_5 => ?_) (fun c_5 => False.elim (c_5 (by rw [(hW9 i hlt).2.2.2.2.1.1]; exact nI_pos' (by have := (hW9 i hlt).2.2.2.2.1.2; omega))))
        refine lv_iinc (v := nI (i + 1)) (lv' := [(15, .int (nI (i + 1))), (0, .ref b), (1, .ref (ad 0)), (2, .ref s0), (3, .int (nI t)), (4, .int x), (5, .long dg), (8, .int (nI N)), (14, .int ((drs N wf n).1))]) hx hb dL_law_592 hl (k := 8) rfl (nI_1 i) (by decide) rfl (fun ls hl => ?_)
        refine lv_goto (tgt := 500) hx hb dL_law_595 (by decide) ?_
        exact ih500 (i + 1) ls (by omega) (by omega) (lv_sub hl [1, 2, 3, 4, 5, 6, 7, 8, 0] rfl)
  exact loop500 (n + 1) 0 ls (Nat.zero_le _) (by omega) (lv_sub hl [2, 3, 4, 5, 6, 7, 8, 1, 0] rfl)
set_option maxHeartbeats 4000000 in
set_option maxRecDepth 100000 in
theorem L_pur {p : Program} {l : Launch} {e : Env} {s : State} {m : MethodId} {b : Nat} {below : List Frame} {meth : Method} {c : Code} {ls : Array Slot} {Q : State → Prop} {H : Heap} {locs : List Loc} {ce sl : Nat} {D : va_G} {cs : Nat → ClassId} {s0 t : Nat} {x : Int32} {dg : Int64} (CC : LX p c m s b D cs) (hce : ce ≤ 600074) (hsl : sl ≤ 7301550) {ad : Nat → Nat} {bank rnds cnt mcn : Int32} {N n cap : Nat} {su fa pu : Nat → Int32} {rf : Nat → Option Nat} {wa : Nat → Nat} {wf : Nat → Nat → Int32} (RR0 : RX D cs H ad bank rnds cnt mcn N n cap su fa pu rf wa wf (kW wf)) (hN1 : 1 ≤ N) (hN : N ≤ 1728) (hn12 : n ≤ 12)  (hl : lv_has ls 27 [(0, .ref b), (1, .ref (ad 0)), (2, .ref s0), (3, .int (nI t)), (4, .int x), (5, .long dg), (8, .int (nI N))]) (kk : ∀ ls : Array Slot, lv_has ls 27 [(0, .ref b), (1, .ref (ad 0)), (2, .ref s0), (3, .int (nI t)), (4, .int x), (5, .long dg), (8, .int (nI N))] → W p l e room_1 s m #[Value.ref b] below meth c H locs ce sl Q (F0 m 677 ls [])) : W p l e room_1 s m #[Value.ref b] below meth c H locs ce sl Q (F0 m 598 ls []) := by
  obtain ⟨hx, hb, hml, hown, hts, hK⟩ := id CC
  refine lv_iconst (v := nI 0) hx hb dL_law_598 (by first | decide | rfl) ?_
  refine lv_istore (lv' := [(15, .int (nI 0)), (0, .ref b), (1, .ref (ad 0)), (2, .ref s0), (3, .int (nI t)), (4, .int x), (5, .long dg), (8, .int (nI N))]) hx hb dL_law_599 hl (by decide) rfl (fun ls hl => ?_)
  have loop601 : ∀ (n9 : Nat) (i : Nat) (ls : Array Slot), i ≤ 6 → 7 ≤ i + n9 → lv_has ls 27 [(0, .ref b), (1, .ref (ad 0)), (2, .ref s0), (3, .int (nI t)), (4, .int x), (5, .long dg), (8, .int (nI N)), (15, .int (nI i))] → W p l e room_1 s m #[Value.ref b] below meth c H locs ce sl Q (F0 m 601 ls []) := by
    intro n9
    induction n9 with
    | zero => intro i  ls hi hfu hl; exact absurd hfu (by omega)
    | succ n9 ih601 =>
      intro i  ls hi hfu hl
      refine lv_iload hx hb dL_law_601 (lv_at hl 7 rfl) ?_
      refine lv_bipush (v := nI 6) hx hb dL_law_603 (by first | decide | rfl) ?_
      refine lv_icmp_ge (tgt := 677) hx hb dL_law_605 (by decide) (fun c_1 => ?_) (fun c_1 => ?_)
      · exact kk ls (lv_sub hl [0, 1, 2, 3, 4, 5, 6] rfl)
      · have hi6 : i < 6 := by
          rcases Nat.lt_or_ge i 6 with q | q
          · exact q
          · exact absurd (nI_le q (by omega)) c_1
        refine lv_iload hx hb dL_law_608 (lv_at hl 4 rfl) ?_
        refine lv_iload hx hb dL_law_610 (lv_at hl 7 rfl) ?_
        refine lv_ishr hx hb dL_law_612 ?_
        refine lv_bipush (v := 71) hx hb dL_law_613 (by first | decide | rfl) ?_
        refine lv_iload hx hb dL_law_615 (lv_at hl 7 rfl) ?_
        refine lv_imul hx hb dL_law_617 ?_
        refine lv_iadd hx hb dL_law_618 ?_
        refine lv_iload hx hb dL_law_619 (lv_at hl 6 rfl) ?_
        refine rdS (As := [.int ((x >>> ((nI i) &&& 31)) + (71 * (nI i))), .int (nI N)]) (rest := []) ⟨hx, hb, hml, hown, hts⟩ hK 2 (s_below l D cs H ((x >>> ((nI i) &&& 31)) + (71 * (nI i))) N (by omega) (by omega)) (gin_s mw_4_12 mw_4_13 mw_3_13 mw_4_14) (by decide +kernel) ⟨Nat.le_of_ble_eq_true rfl, Nat.le_of_ble_eq_true rfl⟩ rfl hl.1 rfl (Nat.le_of_ble_eq_true rfl) dL_law_621 ⟨hce, hsl⟩ ?_
        refine W.eq (g2 := F0 m 624 ls [.int (nI (blw ((x >>> ((nI i) &&& 31)) + (71 * (nI i))) N))]) rfl ?_
        obtain ⟨o9, eo9, ho9⟩ : ∃ o, blw ((x >>> ((nI i) &&& 31)) + (71 * (nI i))) N = o ∧ o < N := ⟨_, rfl, blw_lt _ hN1⟩
        refine lv_rwi (y := nI o9) (congrArg nI eo9) ?_
        refine lv_istore (lv' := [(16, .int (nI o9)), (0, .ref b), (1, .ref (ad 0)), (2, .ref s0), (3, .int (nI t)), (4, .int x), (5, .long dg), (8, .int (nI N)), (15, .int (nI i))]) hx hb dL_law_624 hl (by decide) rfl (fun ls hl => ?_)
        refine lv_aload_n hx hb dL_law_626 rfl (lv_at hl 2 rfl) ?_
        refine lv_iload hx hb dL_law_627 (lv_at hl 8 rfl) ?_
        refine lv_iload hx hb dL_law_629 (lv_at hl 0 rfl) ?_
        refine rdV (As := [.int (nI i), .int (nI o9)]) (rest := []) (b := ad 0) ⟨hx, hb, hml, hown, hts⟩ hK 2 (c_purseAt l D cs H RR0 i (by omega) o9 (by omega)) (gin_v mw_20_1 mw_20_2 mw_20_3 mw_1_2 mw_20_4) (by decide +kernel) ⟨Nat.le_of_ble_eq_true rfl, Nat.le_of_ble_eq_true rfl⟩ (va_recv hK RR0.1 (ci := 3) (q0 := 0) rfl rfl) rfl hl.1 rfl (Nat.le_of_ble_eq_true rfl) dL_law_631 ⟨hce, hsl⟩ ?_
        refine W.eq (g2 := F0 m 634 ls [.int (BX su fa pu wf n i o9)]) rfl ?_
        refine lv_aload_n hx hb dL_law_634 rfl (lv_at hl 2 rfl) ?_
        refine lv_iload hx hb dL_law_635 (lv_at hl 8 rfl) ?_
        refine rdV (As := [.int (nI i)]) (rest := [.int (BX su fa pu wf n i o9)]) (b := ad 0) ⟨hx, hb, hml, hown, hts⟩ hK 1 (c_leastPurse l D cs H RR0 i (by omega)) (gin_v mw_19_6 mw_18_16 mw_18_17 mw_1_2 mw_18_18) (by decide +kernel) ⟨Nat.le_of_ble_eq_true rfl, Nat.le_of_ble_eq_true rfl⟩ (va_recv hK RR0.1 (ci := 3) (q0 := 0) rfl rfl) rfl hl.1 rfl (Nat.le_of_ble_eq_true rfl) dL_law_637 ⟨hce, hsl⟩ ?_
        refine W.eq (g2 := F0 m 640 ls [.int (mnX (BX su fa pu wf n i) (N - 1)), .int (BX su fa pu wf n i o9)]) rfl ?_
        refine lv_icmp_lt (tgt := 669) hx hb dL_law_640 (by decide) (fun c_2 => False.elim (mnX_le (BX su fa pu wf n i) (N - 1) o9 (by omega) c_2)) (fun c_2 => ?_)
        refine lv_aload_n hx hb dL_law_643 rfl (lv_at hl 2 rfl) ?_
        refine lv_iload hx hb dL_law_644 (lv_at hl 8 rfl) ?_
        refine rdV (As := [.int (nI i)]) (rest := []) (b := ad 0) ⟨hx, hb, hml, hown, hts⟩ hK 1 (c_isHedged l D cs H RR0 i (by omega)) (gin_v mw_19_7 mw_18_21 mw_18_22 mw_1_2 mw_18_23) (by decide +kernel) ⟨Nat.le_of_ble_eq_true rfl, Nat.le_of_ble_eq_true rfl⟩ (va_recv hK RR0.1 (ci := 3) (q0 := 0) rfl rfl) rfl hl.1 rfl (Nat.le_of_ble_eq_true rfl) dL_law_646 ⟨hce, hsl⟩ ?_
        refine W.eq (g2 := F0 m 649 ls [.int (b2i (alleq (BX su fa pu wf n i) N))]) rfl ?_
        refine lv_if_eq (tgt := 671) hx hb dL_law_649 (by decide) (fun c_3 => ?_) (fun c_3 => ?_)
        · refine lv_iinc (v := nI (i + 1)) (lv' := [(15, .int (nI (i + 1))), (16, .int (nI o9)), (0, .ref b), (1, .ref (ad 0)), (2, .ref s0), (3, .int (nI t)), (4, .int x), (5, .long dg), (8, .int (nI N))]) hx hb dL_law_671 hl (k := 8) rfl (nI_1 i) (by decide) rfl (fun ls hl => ?_)
          refine lv_goto (tgt := 601) hx hb dL_law_674 (by decide) ?_
          exact ih601 (i + 1) ls (by omega) (by omega) (lv_sub hl [2, 3, 4, 5, 6, 7, 8, 0] rfl)
        · refine lv_aload_n hx hb dL_law_652 rfl (lv_at hl 2 rfl) ?_
          refine lv_iload hx hb dL_law_653 (lv_at hl 8 rfl) ?_
          refine lv_iload hx hb dL_law_655 (lv_at hl 0 rfl) ?_
          refine rdV (As := [.int (nI i), .int (nI o9)]) (rest := []) (b := ad 0) ⟨hx, hb, hml, hown, hts⟩ hK 2 (c_purseAt l D cs H RR0 i (by omega) o9 (by omega)) (gin_v mw_20_1 mw_20_2 mw_20_3 mw_1_2 mw_20_4) (by decide +kernel) ⟨Nat.le_of_ble_eq_true rfl, Nat.le_of_ble_eq_true rfl⟩ (va_recv hK RR0.1 (ci := 3) (q0 := 0) rfl rfl) rfl hl.1 rfl (Nat.le_of_ble_eq_true rfl) dL_law_657 ⟨hce, hsl⟩ ?_
          refine W.eq (g2 := F0 m 660 ls [.int (BX su fa pu wf n i o9)]) rfl ?_
          refine lv_aload_n hx hb dL_law_660 rfl (lv_at hl 2 rfl) ?_
          refine lv_iload hx hb dL_law_661 (lv_at hl 8 rfl) ?_
          refine rdV (As := [.int (nI i)]) (rest := [.int (BX su fa pu wf n i o9)]) (b := ad 0) ⟨hx, hb, hml, hown, hts⟩ hK 1 (c_leastPurse l D cs H RR0 i (by omega)) (gin_v mw_19_6 mw_18_16 mw_18_17 mw_1_2 mw_18_18) (by decide +kernel) ⟨Nat.le_of_ble_eq_true rfl, Nat.le_of_ble_eq_true rfl⟩ (va_recv hK RR0.1 (ci := 3) (q0 := 0) rfl rfl) rfl hl.1 rfl (Nat.le_of_ble_eq_true rfl) dL_law_663 ⟨hce, hsl⟩ ?_
          refine W.eq (g2 := F0 m 666 ls [.int (mnX (BX su fa pu wf n i) (N - 1)), .int (BX su fa pu wf n i o9)]) rfl ?_
          refine lv_icmp_eq (tgt := 671) hx hb dL_law_666 (by decide) (fun c_4 => ?_) (fun c_4 => False.elim (c_4 (hedged_eq (g := BX su fa pu wf n i) hN1 ho9 ((b2i_ne0 _).mp c_3))))
          refine lv_iinc (v := nI (i + 1)) (lv' := [(15, .int (nI (i + 1))), (16, .int (nI o9)), (0, .ref b), (1, .ref (ad 0)), (2, .ref s0), (3, .int (nI t)), (4, .int x), (5, .long dg), (8, .int (nI N))]) hx hb dL_law_671 hl (k := 8) rfl (nI_1 i) (by decide) rfl (fun ls hl => ?_)
          refine lv_goto (tgt := 601) hx hb dL_law_674 (by decide) ?_
          exact ih601 (i + 1) ls (by omega) (by omega) (lv_sub hl [2, 3, 4, 5, 6, 7, 8, 0] rfl)
  exact loop601 7 0 ls (Nat.zero_le _) (by omega) (lv_sub hl [1, 2, 3, 4, 5, 6, 7, 0] rfl)
set_option maxHeartbeats 4000000 in
set_option maxRecDepth 100000 in
theorem L_fair {p : Program} {l : Launch} {e : Env} {s : State} {m : MethodId} {b : Nat} {below : List Frame} {meth : Method} {c : Code} {ls : Array Slot} {Q : State → Prop} {H : Heap} {locs : List Loc} {ce sl : Nat} {D : va_G} {cs : Nat → ClassId} {s0 t k9 q9 b9 : Nat} {x : Int32} {dg : Int64} (CC : LX p c m s b D cs) (hce : ce ≤ 600074) (hsl : sl ≤ 7301550) {ad : Nat → Nat} {bank rnds cnt mcn : Int32} {N n cap : Nat} {su fa pu : Nat → Int32} {rf : Nat → Option Nat} {wa : Nat → Nat} {wf : Nat → Nat → Int32} (RR0 : RX D cs H ad bank rnds cnt mcn N n cap su fa pu rf wa wf (kW wf)) (hN1 : 1 ≤ N) (hN : N ≤ 1728) (hn12 : n ≤ 12) (hdg : DG cnt bank rnds N n su fa pu wf = dg) (ek9 : blw (x >>> (3 &&& 31)) 10 = k9) (eq9 : blw (x >>> (5 &&& 31)) 20 = q9) (eb9 : 1 + blw (x >>> (6 &&& 31)) 10 = b9) (hk9 : k9 < 10) (hq9 : q9 < 20) (hb1 : 1 ≤ b9) (hb2 : b9 ≤ 10) (hl : lv_has ls 27 [(0, .ref b), (1, .ref (ad 0)), (2, .ref s0), (3, .int (nI t)), (4, .int x), (5, .long dg), (8, .int (nI N))]) (kk : ∀ ls : Array Slot, lv_has ls 27 [(0, .ref b), (1, .ref (ad 0)), (2, .ref s0), (3, .int (nI t)), (4, .int x), (5, .long dg), (8, .int (nI N)), (15, .int (nI k9)), (16, .int (nI q9)), (17, .int (nI b9))] → W p l e room_1 s m #[Value.ref b] below meth c H locs ce sl Q (F0 m 812 ls [])) : W p l e room_1 s m #[Value.ref b] below meth c H locs ce sl Q (F0 m 677 ls []) := by
  obtain ⟨hx, hb, hml, hown, hts, hK⟩ := id CC
  refine lv_iload hx hb dL_law_677 (lv_at hl 4 rfl) ?_
  refine lv_iconst (v := 3) hx hb dL_law_679 (by first | decide | rfl) ?_
  refine lv_ishr hx hb dL_law_680 ?_
  refine lv_bipush (v := nI 10) hx hb dL_law_681 (by first | decide | rfl) ?_
  refine rdS (As := [.int (x >>> (3 &&& 31)), .int (nI 10)]) (rest := []) ⟨hx, hb, hml, hown, hts⟩ hK 2 (s_below l D cs H (x >>> (3 &&& 31)) 10 (by omega) (by omega)) (gin_s mw_4_12 mw_4_13 mw_3_13 mw_4_14) (by decide +kernel) ⟨Nat.le_of_ble_eq_true rfl, Nat.le_of_ble_eq_true rfl⟩ rfl hl.1 rfl (Nat.le_of_ble_eq_true rfl) dL_law_683 ⟨hce, hsl⟩ ?_
  refine W.eq (g2 := F0 m 686 ls [.int (nI (blw (x >>> (3 &&& 31)) 10))]) rfl ?_
  refine lv_rwi (y := nI k9) (congrArg nI ek9) ?_
  refine lv_istore (lv' := [(15, .int (nI k9)), (0, .ref b), (1, .ref (ad 0)), (2, .ref s0), (3, .int (nI t)), (4, .int x), (5, .long dg), (8, .int (nI N))]) hx hb dL_law_686 hl (by decide) rfl (fun ls hl => ?_)
  refine lv_iload hx hb dL_law_688 (lv_at hl 5 rfl) ?_
  refine lv_iconst (v := 5) hx hb dL_law_690 (by first | decide | rfl) ?_
  refine lv_ishr hx hb dL_law_691 ?_
  refine lv_bipush (v := nI 20) hx hb dL_law_692 (by first | decide | rfl) ?_
  refine rdS (As := [.int (x >>> (5 &&& 31)), .int (nI 20)]) (rest := []) ⟨hx, hb, hml, hown, hts⟩ hK 2 (s_below l D cs H (x >>> (5 &&& 31)) 20 (by omega) (by omega)) (gin_s mw_4_12 mw_4_13 mw_3_13 mw_4_14) (by decide +kernel) ⟨Nat.le_of_ble_eq_true rfl, Nat.le_of_ble_eq_true rfl⟩ rfl hl.1 rfl (Nat.le_of_ble_eq_true rfl) dL_law_694 ⟨hce, hsl⟩ ?_
  refine W.eq (g2 := F0 m 697 ls [.int (nI (blw (x >>> (5 &&& 31)) 20))]) rfl ?_
  refine lv_rwi (y := nI q9) (congrArg nI eq9) ?_
  refine lv_istore (lv' := [(16, .int (nI q9)), (15, .int (nI k9)), (0, .ref b), (1, .ref (ad 0)), (2, .ref s0), (3, .int (nI t)), (4, .int x), (5, .long dg), (8, .int (nI N))]) hx hb dL_law_697 hl (by decide) rfl (fun ls hl => ?_)
  refine lv_iconst (v := nI 1) hx hb dL_law_699 (by first | decide | rfl) ?_
  refine lv_iload hx hb dL_law_700 (lv_at hl 6 rfl) ?_
  refine lv_bipush (v := 6) hx hb dL_law_702 (by first | decide | rfl) ?_
  refine lv_ishr hx hb dL_law_704 ?_
  refine lv_bipush (v := nI 10) hx hb dL_law_705 (by first | decide | rfl) ?_
  refine rdS (As := [.int (x >>> (6 &&& 31)), .int (nI 10)]) (rest := [.int (nI 1)]) ⟨hx, hb, hml, hown, hts⟩ hK 2 (s_below l D cs H (x >>> (6 &&& 31)) 10 (by omega) (by omega)) (gin_s mw_4_12 mw_4_13 mw_3_13 mw_4_14) (by decide +kernel) ⟨Nat.le_of_ble_eq_true rfl, Nat.le_of_ble_eq_true rfl⟩ rfl hl.1 rfl (Nat.le_of_ble_eq_true rfl) dL_law_707 ⟨hce, hsl⟩ ?_
  refine W.eq (g2 := F0 m 710 ls [.int (nI (blw (x >>> (6 &&& 31)) 10)), .int (nI 1)]) rfl ?_
  refine lv_iadd hx hb dL_law_710 ?_
  refine lv_rwi (y := nI b9) (by rw [nI_add, eb9]) ?_
  refine lv_istore (lv' := [(17, .int (nI b9)), (16, .int (nI q9)), (15, .int (nI k9)), (0, .ref b), (1, .ref (ad 0)), (2, .ref s0), (3, .int (nI t)), (4, .int x), (5, .long dg), (8, .int (nI N))]) hx hb dL_law_711 hl (by decide) rfl (fun ls hl => ?_)
  refine lv_aload_n hx hb dL_law_713 rfl (lv_at hl 4 rfl) ?_
  refine lv_iload hx hb dL_law_714 (lv_at hl 2 rfl) ?_
  refine lv_iload hx hb dL_law_716 (lv_at hl 1 rfl) ?_
  refine lv_iload hx hb dL_law_718 (lv_at hl 0 rfl) ?_
  refine rdV (As := [.int (nI k9), .int (nI q9), .int (nI b9)]) (rest := []) (b := ad 0) ⟨hx, hb, hml, hown, hts⟩ hK 3 (c_fairWin l D cs H RR0 k9 q9 (by omega) (by omega) (nI b9) (show ¬ nI b9 < nI 1 from nI_nlt hb1 (by omega)) (show nI b9 ≤ nI 10 from nI_le hb2 (by omega))) (gin_v mw_20_5 mw_20_6 mw_20_7 mw_1_2 mw_20_8) (by decide +kernel) ⟨Nat.le_of_ble_eq_true rfl, Nat.le_of_ble_eq_true rfl⟩ (va_recv hK RR0.1 (ci := 3) (q0 := 0) rfl rfl) rfl hl.1 rfl (Nat.le_of_ble_eq_true rfl) dL_law_720 ⟨hce, hsl⟩ ?_
  refine W.eq (g2 := F0 m 723 ls [.int (nI (lst9 (fwP N (cn (comesX su fa k9 (nI q9)) N) (nI b9)) 20))]) rfl ?_
  refine lv_istore (lv' := [(18, .int (nI (lst9 (fwP N (cn (comesX su fa k9 (nI q9)) N) (nI b9)) 20))), (17, .int (nI b9)), (16, .int (nI q9)), (15, .int (nI k9)), (0, .ref b), (1, .ref (ad 0)), (2, .ref s0), (3, .int (nI t)), (4, .int x), (5, .long dg), (8, .int (nI N))]) hx hb dL_law_723 hl (by decide) rfl (fun ls hl => ?_)
  refine lv_aload_n hx hb dL_law_725 rfl (lv_at hl 5 rfl) ?_
  refine lv_iload hx hb dL_law_726 (lv_at hl 3 rfl) ?_
  refine lv_iload hx hb dL_law_728 (lv_at hl 2 rfl) ?_
  refine rdV (As := [.int (nI k9), .int (nI q9)]) (rest := []) (b := ad 0) ⟨hx, hb, hml, hown, hts⟩ hK 2 (c_ways l D cs H RR0 k9 q9 (by omega) (by omega)) (gin_v mw_19_8 mw_19_9 mw_19_10 mw_1_2 mw_19_11) (by decide +kernel) ⟨Nat.le_of_ble_eq_true rfl, Nat.le_of_ble_eq_true rfl⟩ (va_recv hK RR0.1 (ci := 3) (q0 := 0) rfl rfl) rfl hl.1 rfl (Nat.le_of_ble_eq_true rfl) dL_law_730 ⟨hce, hsl⟩ ?_
  refine W.eq (g2 := F0 m 733 ls [.int (nI (cn (comesX su fa k9 (nI q9)) N))]) rfl ?_
  refine lv_istore (lv' := [(19, .int (nI (cn (comesX su fa k9 (nI q9)) N))), (18, .int (nI (lst9 (fwP N (cn (comesX su fa k9 (nI q9)) N) (nI b9)) 20))), (17, .int (nI b9)), (16, .int (nI q9)), (15, .int (nI k9)), (0, .ref b), (1, .ref (ad 0)), (2, .ref s0), (3, .int (nI t)), (4, .int x), (5, .long dg), (8, .int (nI N))]) hx hb dL_law_733 hl (by decide) rfl (fun ls hl => ?_)
  obtain ⟨hf1, hf2, hf3⟩ := fair_ok (c := cn (comesX su fa k9 (nI q9)) N) (cn_le _ N) hN hb1 hb2
  refine lv_iload hx hb dL_law_735 (lv_at hl 1 rfl) ?_
  refine lv_if_lt (tgt := 810) hx hb dL_law_737 (by decide) (fun c_1 => False.elim (absurd c_1 (nI_pos (by omega)))) (fun c_1 => ?_)
  refine lv_iload hx hb dL_law_740 (lv_at hl 1 rfl) ?_
  refine lv_bipush (v := nI 20) hx hb dL_law_742 (by first | decide | rfl) ?_
  refine lv_icmp_gt (tgt := 810) hx hb dL_law_744 (by decide) (fun c_2 => False.elim (absurd c_2 (nI_nlt hf1 (by omega)))) (fun c_2 => ?_)
  refine lv_bipush (v := 100) hx hb dL_law_747 (by first | decide | rfl) ?_
  refine lv_iload hx hb dL_law_749 (lv_at hl 11 rfl) ?_
  refine lv_iload hx hb dL_law_751 (lv_at hl 0 rfl) ?_
  refine lv_isub hx hb dL_law_753 ?_
  refine lv_imul hx hb dL_law_754 ?_
  refine lv_bipush (v := 100) hx hb dL_law_755 (by first | decide | rfl) ?_
  refine lv_iload hx hb dL_law_757 (lv_at hl 1 rfl) ?_
  refine lv_imul hx hb dL_law_759 ?_
  refine lv_iload hx hb dL_law_760 (lv_at hl 2 rfl) ?_
  refine lv_idiv hx hb dL_law_762 (nI_ne0 hb1 (by omega)) ?_
  refine lv_iload hx hb dL_law_763 (lv_at hl 0 rfl) ?_
  refine lv_imul hx hb dL_law_765 ?_
  refine lv_icmp_lt (tgt := 810) hx hb dL_law_766 (by decide) (fun c_3 => False.elim (hf2 c_3)) (fun c_3 => ?_)
  refine lv_iload hx hb dL_law_769 (lv_at hl 1 rfl) ?_
  refine lv_bipush (v := nI 20) hx hb dL_law_771 (by first | decide | rfl) ?_
  refine lv_icmp_ge (tgt := 800) hx hb dL_law_773 (by decide) (fun c_4 => ?_) (fun c_4 => ?_)
  · refine lv_aload_n hx hb dL_law_800 rfl (lv_at hl 6 rfl) ?_
    refine rdV (As := []) (rest := []) (b := ad 0) ⟨hx, hb, hml, hown, hts⟩ hK 0 (c_digest l D cs H RR0) (gin_v mw_13_21 mw_13_22 mw_13_23 mw_1_2 mw_14_0) (by decide +kernel) ⟨Nat.le_of_ble_eq_true rfl, Nat.le_of_ble_eq_true rfl⟩ (va_recv hK RR0.1 (ci := 3) (q0 := 0) rfl rfl) rfl hl.1 rfl (Nat.le_of_ble_eq_true rfl) dL_law_801 ⟨hce, hsl⟩ ?_
    refine W.eq (g2 := F0 m 804 ls [.long (DG cnt bank rnds N n su fa pu wf)]) rfl ?_
    refine lv_lload hx hb dL_law_804 (lv_at hl 10 rfl) ?_
    refine W.lcmp hx hb dL_law_806 ?_
    refine lv_if_eq (tgt := 812) hx hb dL_law_807 (by decide) (fun c_5 => ?_) (fun c_5 => False.elim (c_5 ((lcmp_eq _ _).mpr hdg)))
    exact kk ls (lv_sub hl [5, 6, 7, 8, 9, 10, 11, 4, 3, 2] rfl)
  · refine lv_bipush (v := 100) hx hb dL_law_776 (by first | decide | rfl) ?_
    refine lv_iload hx hb dL_law_778 (lv_at hl 11 rfl) ?_
    refine lv_iload hx hb dL_law_780 (lv_at hl 0 rfl) ?_
    refine lv_isub hx hb dL_law_782 ?_
    refine lv_imul hx hb dL_law_783 ?_
    refine lv_bipush (v := 100) hx hb dL_law_784 (by first | decide | rfl) ?_
    refine lv_iload hx hb dL_law_786 (lv_at hl 1 rfl) ?_
    refine lv_iconst (v := 1) hx hb dL_law_788 (by first | decide | rfl) ?_
    refine lv_iadd hx hb dL_law_789 ?_
    refine lv_rwi (y := nI (lst9 (fwP N (cn (comesX su fa k9 (nI q9)) N) (nI b9)) 20 + 1)) (nI_1 _) ?_
    refine lv_imul hx hb dL_law_790 ?_
    refine lv_iload hx hb dL_law_791 (lv_at hl 2 rfl) ?_
    refine lv_idiv hx hb dL_law_793 (nI_ne0 hb1 (by omega)) ?_
    refine lv_iload hx hb dL_law_794 (lv_at hl 0 rfl) ?_
    refine lv_imul hx hb dL_law_796 ?_
    refine lv_icmp_ge (tgt := 810) hx hb dL_law_797 (by decide) (fun c_6 => False.elim (hf3 (by { rcases Nat.lt_or_ge (lst9 (fwP N (cn (comesX su fa k9 (nI q9)) N) (nI b9)) 20) 20 with q | q; { exact q }; { exact absurd (nI_le q (by omega)) c_4 } }) c_6)) (fun c_6 => ?_)
    refine lv_aload_n hx hb dL_law_800 rfl (lv_at hl 6 rfl) ?_
    refine rdV (As := []) (rest := []) (b := ad 0) ⟨hx, hb, hml, hown, hts⟩ hK 0 (c_digest l D cs H RR0) (gin_v mw_13_21 mw_13_22 mw_13_23 mw_1_2 mw_14_0) (by decide +kernel) ⟨Nat.le_of_ble_eq_true rfl, Nat.le_of_ble_eq_true rfl⟩ (va_recv hK RR0.1 (ci := 3) (q0 := 0) rfl rfl) rfl hl.1 rfl (Nat.le_of_ble_eq_true rfl) dL_law_801 ⟨hce, hsl⟩ ?_
    refine W.eq (g2 := F0 m 804 ls [.long (DG cnt bank rnds N n su fa pu wf)]) rfl ?_
    refine lv_lload hx hb dL_law_804 (lv_at hl 10 rfl) ?_
    refine W.lcmp hx hb dL_law_806 ?_
    refine lv_if_eq (tgt := 812) hx hb dL_law_807 (by decide) (fun c_7 => ?_) (fun c_7 => False.elim (c_7 ((lcmp_eq _ _).mpr hdg)))
    exact kk ls (lv_sub hl [5, 6, 7, 8, 9, 10, 11, 4, 3, 2] rfl)
