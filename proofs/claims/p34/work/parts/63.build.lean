/-! the law's build; rows by program -/
theorem pmC {α : Type} (S R X T : List α) : (S ++ (R ++ (X ++ T))).Perm (X ++ (S ++ ([] ++ (R ++ T)))) := by
  classical
  rw [List.perm_iff_count]; intro a; simp only [List.count_append, List.count_nil]; omega
theorem JI.mono {cs : Nat → ClassId} {z a0 s0 k : Nat} {w : va_W} (h : JI cs z a0 s0 k w) {k' : Nat} (hk : k ≤ k') : JI cs z a0 s0 k' w := by
  obtain ⟨ad, sa, bank, rnds, cnt, mcn, f1, f2, f3, dn, N, n, cap, fn, su, fa, pu, df, pv, rf, wa, wf, rs, rw, sr, wr, sf, wg, EL, T, rfl, rfl, hJ, rfl⟩ := h
  exact JI.mk (hJ.mono hk)
theorem JF.init {cs : Nat → ClassId} {z : Nat} {ad : Nat → Nat} {sl fl pv : Nat → Int32} {r9 : Nat → Nat} {G9 : Nat → Nat → Int32} {T : va_W} (g6 : ad 6 = z) (gl : laid 6 0 sl fl 36) (g2 : ∀ j, j < 6 → pv j = puI 6 j) (g3 : ∀ o, o < 36 → ∀ j, j < 2 → G9 o j = nI (fcN (fnS 6 6 1) o j)) (hT : ∀ q ∈ rowsW (cs 0) r9 2 G9 36, q ∈ T) :
    JF cs z 0 ad 500 (nI 2) 6 6 0 2 36 0 0 (fnS 6 6 1) sl fl (puI 6) pv (fun _ => none) (fun _ => 0) (fun _ _ => 0) (fun i => if i < 36 then some (r9 i) else none) (fun _ => none) r9 (fun _ => 0) G9 (fun _ _ => 0) [] T := by
  have hC : DC 6 6 0 (fnS 6 6 1) 2 36 := ⟨by omega, by omega, by omega, fun _ => rfl, rfl, rfl, rfl, rfl, rfl⟩
  refine ⟨hC, gl, fun i hi => absurd hi (Nat.not_lt_zero i), g2, rfl, Or.inl ⟨rfl, rfl, g6, rfl⟩, ⟨fun o ho => ⟨hT _ (rows_mem ho), if_pos ho⟩, fun i hi => absurd hi (Nat.not_lt_zero i)⟩, fn_SF hC (by omega) (by omega) g3 _, ?_, fun j hj => ⟨100, ?_, by omega⟩⟩
  · decide
  · show (if j < 6 then (100 : Int32) else 0) = _
    rw [if_pos hj]
    rfl
set_option maxHeartbeats 4000000 in
set_option maxRecDepth 100000 in
theorem build_c (l : Launch) (hl9 : l.stackTraces = false) (D : va_G) (cs : Nat → ClassId) (z mi : Nat) (H : Heap) {b L : Nat} {xs : Nat → Int32} (hL : L ≤ 260) {T : va_W} {ad : Nat → Nat} {sl fl : Nat → Int32} (g6 : ad 6 = z) (gl : laid 6 0 sl fl 36) (post : Option Value → va_W → Prop) (hpost : ∀ (s0 k : Nat) (w1 : va_W), k ≤ 20 → JI cs z (ad 0) s0 k w1 → post (some (.ref s0)) w1) (hP : va_P D vwCl ([(ad 0, .inr (3, [.ref (ad 1), .ref (ad 2), .ref (ad 3), .int 500, .int 0])), (ad 1, .inr (1, [.ref (ad 4), .ref (ad 5), .int (nI 2), .int (nI 36)])), (ad 4, .inl (cs 0, 1728, .inl (sl))), (ad 5, .inl (cs 0, 1728, .inl (fl))), (ad 2, .inr (0, [.int 0, .ref (ad 6), .int (nI 0)])), (ad 3, .inl (cs 0, 6, .inl ((puI 6))))] ++ T) H) (hD : va_D (fun _ => True) ([(ad 0, .inr (3, [.ref (ad 1), .ref (ad 2), .ref (ad 3), .int 500, .int 0])), (ad 1, .inr (1, [.ref (ad 4), .ref (ad 5), .int (nI 2), .int (nI 36)])), (ad 4, .inl (cs 0, 1728, .inl (sl))), (ad 5, .inl (cs 0, 1728, .inl (fl))), (ad 2, .inr (0, [.int 0, .ref (ad 6), .int (nI 0)])), (ad 3, .inl (cs 0, 6, .inl ((puI 6))))] ++ T)) : Wv b L xs z mi l D cs 11 23000 92000 yL_build cL_build 4 (some (.object "TavernDiceLaw$Sim")) ([(ad 0, .inr (3, [.ref (ad 1), .ref (ad 2), .ref (ad 3), .int 500, .int 0])), (ad 1, .inr (1, [.ref (ad 4), .ref (ad 5), .int (nI 2), .int (nI 36)])), (ad 4, .inl (cs 0, 1728, .inl (sl))), (ad 5, .inl (cs 0, 1728, .inl (fl))), (ad 2, .inr (0, [.int 0, .ref (ad 6), .int (nI 0)])), (ad 3, .inl (cs 0, 6, .inl ((puI 6))))] ++ T) H [.ref (ad 0), .ref b] post := by
  refine wv_ent (by decide) (Nat.le_of_ble_eq_true rfl) hP hD ?_
  clear hP hD H
  intro p e s m below meth c ls A Q H hx hb hr hml hown hts hlocks hl hK hQ hA hH hT hR hNW hX hbl hbA hP hD hS
  clear hH
  have hl : lv_has ls 4 [(0, .ref (ad 0)), (1, .ref b)] := hl
  obtain ⟨M9, eM9, hM9⟩ : ∃ M, (2 + blw ((cellw xs L 0) >>> (nI 2 &&& 31)) 10) = M ∧ M ≤ 11 := ⟨_, rfl, by have g := blw_lt ((cellw xs L 0) >>> (nI 2 &&& 31)) (n := 10) (by omega); omega⟩
  refine va_new (ci := 4) (fs := [.null, .null, .null, .int 0, .int 0, .null]) (C := RX3) (T := TX3) (N := 6) hx hb hts inlX3 tyX3 tyX3_ok hown (hts (Cond.classLink RL 16 RX3) mw_3_15) (hts (Cond.instantiable RX3 6) mw_3_16) (hts (Cond.initialized RX3) mw_3_17) hK hP hD hS hA rfl (fun j hj => by rcases (show j = 0 ∨ j = 1 ∨ j = 2 ∨ j = 3 ∨ j = 4 ∨ j = 5 by omega) with rfl | rfl | rfl | rfl | rfl | rfl <;> rfl) (Nat.le_of_ble_eq_true rfl) (Nat.le_of_ble_eq_true rfl) dL_build_0 (fun q0 H hP hD hS => ?_)
  have hP : va_P D vwCl ([(ad 0, .inr (3, [.ref (ad 1), .ref (ad 2), .ref (ad 3), .int 500, .int 0])), (ad 1, .inr (1, [.ref (ad 4), .ref (ad 5), .int (nI 2), .int (nI 36)])), (ad 4, .inl (cs 0, 1728, .inl (sl))), (ad 5, .inl (cs 0, 1728, .inl (fl))), (ad 2, .inr (0, [.int 0, .ref (ad 6), .int (nI 0)])), (ad 3, .inl (cs 0, 6, .inl ((puI 6)))), (q0, .inr (4, [.null, .null, .null, .int 0, .int 0, .null]))] ++ T) H := va_P.swap hP
  have hD : va_D _ ([(ad 0, .inr (3, [.ref (ad 1), .ref (ad 2), .ref (ad 3), .int 500, .int 0])), (ad 1, .inr (1, [.ref (ad 4), .ref (ad 5), .int (nI 2), .int (nI 36)])), (ad 4, .inl (cs 0, 1728, .inl (sl))), (ad 5, .inl (cs 0, 1728, .inl (fl))), (ad 2, .inr (0, [.int 0, .ref (ad 6), .int (nI 0)])), (ad 3, .inl (cs 0, 6, .inl ((puI 6)))), (q0, .inr (4, [.null, .null, .null, .int 0, .int 0, .null]))] ++ T) := va_D.swap hD
  refine lv_dup hx hb dL_build_3 rfl ?_
  have hP : va_P D vwCl ([(q0, .inr (4, [.null, .null, .null, .int 0, .int 0, .null])), (ad 0, .inr (3, [.ref (ad 1), .ref (ad 2), .ref (ad 3), .int 500, .int 0])), (ad 1, .inr (1, [.ref (ad 4), .ref (ad 5), .int (nI 2), .int (nI 36)])), (ad 4, .inl (cs 0, 1728, .inl (sl))), (ad 5, .inl (cs 0, 1728, .inl (fl))), (ad 2, .inr (0, [.int 0, .ref (ad 6), .int (nI 0)])), (ad 3, .inl (cs 0, 6, .inl ((puI 6))))] ++ T) H := va_P.part (X := [(ad 0, .inr (3, [.ref (ad 1), .ref (ad 2), .ref (ad 3), .int 500, .int 0])), (ad 1, .inr (1, [.ref (ad 4), .ref (ad 5), .int (nI 2), .int (nI 36)])), (ad 4, .inl (cs 0, 1728, .inl (sl))), (ad 5, .inl (cs 0, 1728, .inl (fl))), (ad 2, .inr (0, [.int 0, .ref (ad 6), .int (nI 0)])), (ad 3, .inl (cs 0, 6, .inl ((puI 6)))), (q0, .inr (4, [.null, .null, .null, .int 0, .int 0, .null]))]) (pl := T) hP [6, 0, 1, 2, 3, 4, 5] rfl
  have hD : va_D _ ([(q0, .inr (4, [.null, .null, .null, .int 0, .int 0, .null])), (ad 0, .inr (3, [.ref (ad 1), .ref (ad 2), .ref (ad 3), .int 500, .int 0])), (ad 1, .inr (1, [.ref (ad 4), .ref (ad 5), .int (nI 2), .int (nI 36)])), (ad 4, .inl (cs 0, 1728, .inl (sl))), (ad 5, .inl (cs 0, 1728, .inl (fl))), (ad 2, .inr (0, [.int 0, .ref (ad 6), .int (nI 0)])), (ad 3, .inl (cs 0, 6, .inl ((puI 6))))] ++ T) := va_D.part (X := [(ad 0, .inr (3, [.ref (ad 1), .ref (ad 2), .ref (ad 3), .int 500, .int 0])), (ad 1, .inr (1, [.ref (ad 4), .ref (ad 5), .int (nI 2), .int (nI 36)])), (ad 4, .inl (cs 0, 1728, .inl (sl))), (ad 5, .inl (cs 0, 1728, .inl (fl))), (ad 2, .inr (0, [.int 0, .ref (ad 6), .int (nI 0)])), (ad 3, .inl (cs 0, 6, .inl ((puI 6)))), (q0, .inr (4, [.null, .null, .null, .int 0, .int 0, .null]))]) (pl := T) hD [6, 0, 1, 2, 3, 4, 5] (by decide) rfl
  have hP : va_P D vwCl ([(q0, .inr (4, [.null, .null, .null, .int 0, .int 0, .null]))] ++ ([(ad 0, .inr (3, [.ref (ad 1), .ref (ad 2), .ref (ad 3), .int 500, .int 0])), (ad 1, .inr (1, [.ref (ad 4), .ref (ad 5), .int (nI 2), .int (nI 36)])), (ad 4, .inl (cs 0, 1728, .inl (sl))), (ad 5, .inl (cs 0, 1728, .inl (fl))), (ad 2, .inr (0, [.int 0, .ref (ad 6), .int (nI 0)])), (ad 3, .inl (cs 0, 6, .inl ((puI 6))))] ++ T)) H := hP
  have hD : va_D _ ([(q0, .inr (4, [.null, .null, .null, .int 0, .int 0, .null]))] ++ ([(ad 0, .inr (3, [.ref (ad 1), .ref (ad 2), .ref (ad 3), .int 500, .int 0])), (ad 1, .inr (1, [.ref (ad 4), .ref (ad 5), .int (nI 2), .int (nI 36)])), (ad 4, .inl (cs 0, 1728, .inl (sl))), (ad 5, .inl (cs 0, 1728, .inl (fl))), (ad 2, .inr (0, [.int 0, .ref (ad 6), .int (nI 0)])), (ad 3, .inl (cs 0, 6, .inl ((puI 6))))] ++ T)) := hD
  refine wtIN (As := []) (rest := [.ref q0]) (b0 := q0) ⟨hx, hb, hml, hown, hts⟩ hT hNW hK 0 (s_init l D cs z mi H q0 (fun ov w1 => ∃ (sa9 : Nat → Nat) (df9 pv9 : Nat → Int32) (r9 : Nat → Nat) (G9 : Nat → Nat → Int32), (sa9 0 = q0 ∧ (∀ j, j < 6 → pv9 j = puI 6 j) ∧ (∀ o, o < 36 → ∀ j, j < 2 → G9 o j = nI (fcN (fnS 6 6 1) o j))) ∧ ov = none ∧ w1 = wS cs sa9 500 0 2 36 0 df9 pv9 (fun i => if i < 36 then some (r9 i) else none) (fun _ => none) ++ (rowsW (cs 0) r9 2 G9 36 ++ ([(ad 0, .inr (3, [.ref (ad 1), .ref (ad 2), .ref (ad 3), .int 500, .int 0])), (ad 1, .inr (1, [.ref (ad 4), .ref (ad 5), .int (nI 2), .int (nI 36)])), (ad 4, .inl (cs 0, 1728, .inl (sl))), (ad 5, .inl (cs 0, 1728, .inl (fl))), (ad 2, .inr (0, [.int 0, .ref (ad 6), .int (nI 0)])), (ad 3, .inl (cs 0, 6, .inl ((puI 6))))] ++ T))) (fun sa9 df9 pv9 r9 G9 g0 g1 g2 g3 => ⟨sa9, df9, pv9, r9, G9, ⟨g0, g2, g3⟩, rfl, rfl⟩) hP (hD.weaken (fun _ _ _ _ => trivial))) mw_3_20 mw_3_19 mw_3_17 rfl (by decide +kernel) ⟨Nat.le_of_ble_eq_true rfl, Nat.le_of_ble_eq_true rfl⟩ rfl hl.1 rfl (Nat.le_of_ble_eq_true rfl) dL_build_4 ⟨(show _ ≤ 23000 by omega), (show _ ≤ 92000 by omega)⟩ hD hS hA (fun ov9 w99 H locs hp9 hP hD hS => ?_)
  obtain ⟨sa9, df9, pv9, r9, G9, ⟨g0, g2, g3⟩, rfl, rfl⟩ := hp9
  obtain ⟨w0, ew0⟩ : ∃ w0, w0 = JW cs ad sa9 500 0 (nI 2) 0 2 36 0 sl fl (puI 6) df9 pv9 (fun i => if i < 36 then some (r9 i) else none) (fun _ => none) [] (rowsW (cs 0) r9 2 G9 36 ++ T) := ⟨_, rfl⟩
  have hw0 : JI cs z (ad 0) q0 0 w0 := by { rw [ew0, ← g0]; exact JI.mk (JF.init g6 gl g2 g3 (fun q hq => List.mem_append_left _ hq)) }
  have hP : va_P D vwCl w0 H := by { rw [ew0]; exact vaP_perm (pmC (wS cs sa9 500 0 2 36 0 df9 pv9 (fun i => if i < 36 then some (r9 i) else none) (fun _ => none)) (rowsW (cs 0) r9 2 G9 36) ([(ad 0, .inr (3, [.ref (ad 1), .ref (ad 2), .ref (ad 3), .int 500, .int 0])), (ad 1, .inr (1, [.ref (ad 4), .ref (ad 5), .int (nI 2), .int (nI 36)])), (ad 4, .inl (cs 0, 1728, .inl (sl))), (ad 5, .inl (cs 0, 1728, .inl (fl))), (ad 2, .inr (0, [.int 0, .ref (ad 6), .int (nI 0)])), (ad 3, .inl (cs 0, 6, .inl ((puI 6))))]) T) hP }
  have hD : va_D _ w0 := by { rw [ew0]; exact vaD_perm (pmC (wS cs sa9 500 0 2 36 0 df9 pv9 (fun i => if i < 36 then some (r9 i) else none) (fun _ => none)) (rowsW (cs 0) r9 2 G9 36) ([(ad 0, .inr (3, [.ref (ad 1), .ref (ad 2), .ref (ad 3), .int 500, .int 0])), (ad 1, .inr (1, [.ref (ad 4), .ref (ad 5), .int (nI 2), .int (nI 36)])), (ad 4, .inl (cs 0, 1728, .inl (sl))), (ad 5, .inl (cs 0, 1728, .inl (fl))), (ad 2, .inr (0, [.int 0, .ref (ad 6), .int (nI 0)])), (ad 3, .inl (cs 0, 6, .inl ((puI 6))))]) T) hD }
  clear ew0 g2 g3
  refine W.eq (g2 := F0 m 7 ls [.ref q0]) rfl ?_
  refine lv_astore_n (lv' := [(2, .ref q0), (0, .ref (ad 0)), (1, .ref b)]) hx hb dL_build_7 rfl hl (by decide) rfl (fun ls hl => ?_)
  refine lv_aload_n hx hb dL_build_8 rfl (lv_at hl 2 rfl) ?_
  refine lv_iconst (v := nI 0) hx hb dL_build_9 (by first | decide | rfl) ?_
  refine rcS (b := b) (L := L) (xs := xs) (As := [.ref b, .int (nI 0)]) (rest := []) ⟨hx, hb, hml, hown, hts⟩ hK (hX.kept (hS.2.1 b hbl hbA)) 2 (s_cell l D cs H 0 (by omega) (by omega)) (gin_s mw_4_8 mw_4_9 mw_3_13 mw_4_10) (by decide +kernel) ⟨Nat.le_of_ble_eq_true rfl, Nat.le_of_ble_eq_true rfl⟩ rfl hl.1 rfl (Nat.le_of_ble_eq_true rfl) dL_build_10 ⟨(show _ ≤ 23000 by omega), (show _ ≤ 92000 by omega)⟩ ?_
  refine W.eq (g2 := F0 m 13 ls [.int (cellw xs L 0)]) rfl ?_
  refine lv_iconst (v := nI 3) hx hb dL_build_13 (by first | decide | rfl) ?_
  refine rdS (As := [.int (cellw xs L 0), .int (nI 3)]) (rest := []) ⟨hx, hb, hml, hown, hts⟩ hK 2 (s_below l D cs H (cellw xs L 0) 3 (by first | omega | decide) (by omega)) (gin_s mw_4_12 mw_4_13 mw_3_13 mw_4_14) (by decide +kernel) ⟨Nat.le_of_ble_eq_true rfl, Nat.le_of_ble_eq_true rfl⟩ rfl hl.1 rfl (Nat.le_of_ble_eq_true rfl) dL_build_14 ⟨(show _ ≤ 23000 by omega), (show _ ≤ 92000 by omega)⟩ ?_
  refine W.eq (g2 := F0 m 17 ls [.int (nI (blw (cellw xs L 0) 3))]) rfl ?_
  refine lv_if_le (tgt := 43) hx hb dL_build_17 (by decide) (fun c_1 => ?_) (fun c_1 => ?_)
  · refine lv_iconst (v := nI 0) hx hb dL_build_43 (by first | decide | rfl) ?_
    refine lv_istore_n (lv' := [(3, .int (nI 0)), (2, .ref q0), (0, .ref (ad 0)), (1, .ref b)]) hx hb dL_build_44 rfl hl (by decide) rfl (fun ls hl => ?_)
    have loop45 : ∀ (n9 : Nat) (i : Nat) (w : va_W) (H : Heap) (locs : List Loc) (ls : Array Slot), i ≤ M9 → M9 + 1 ≤ i + n9 → JI cs z (ad 0) q0 (1 + i) w → va_P D vwCl (w) H → va_D A (w) → va_S A s.heap H locs → lv_has ls 4 [(0, .ref (ad 0)), (1, .ref b), (2, .ref q0), (3, .int (nI i))] → W p l e (rmL 11 23000 92000) s m [.ref (ad 0), .ref b].toArray below meth c H locs (0 + 1 + 1732 + 1740 * i) (0 + 6 + 6920 + 7000 * i) Q (F0 m 45 ls []) := by
      intro n9
      induction n9 with
      | zero => intro i  w  H locs ls hi hfu hw hP hD hS hl; exact absurd hfu (by omega)
      | succ n9 ih45 =>
        intro i  w  H locs ls hi hfu hw hP hD hS hl
        refine lv_iload_n hx hb dL_build_45 rfl (lv_at hl 3 rfl) ?_
        refine lv_iconst (v := nI 2) hx hb dL_build_46 (by first | decide | rfl) ?_
        refine lv_aload_n hx hb dL_build_47 rfl (lv_at hl 1 rfl) ?_
        refine lv_iconst (v := nI 0) hx hb dL_build_48 (by first | decide | rfl) ?_
        refine rcS (b := b) (L := L) (xs := xs) (As := [.ref b, .int (nI 0)]) (rest := [.int (nI 2), .int (nI i)]) ⟨hx, hb, hml, hown, hts⟩ hK (hX.kept (hS.2.1 b hbl hbA)) 2 (s_cell l D cs H 0 (by omega) (by omega)) (gin_s mw_4_8 mw_4_9 mw_3_13 mw_4_10) (by decide +kernel) ⟨Nat.le_of_ble_eq_true rfl, Nat.le_of_ble_eq_true rfl⟩ rfl hl.1 rfl (Nat.le_of_ble_eq_true rfl) dL_build_49 ⟨(show _ ≤ 23000 by omega), (show _ ≤ 92000 by omega)⟩ ?_
        refine W.eq (g2 := F0 m 52 ls [.int (cellw xs L 0), .int (nI 2), .int (nI i)]) rfl ?_
        refine lv_iconst (v := nI 2) hx hb dL_build_52 (by first | decide | rfl) ?_
        refine lv_ishr hx hb dL_build_53 ?_
        refine lv_bipush (v := nI 10) hx hb dL_build_54 (by first | decide | rfl) ?_
        refine rdS (As := [.int ((cellw xs L 0) >>> ((nI 2) &&& 31)), .int (nI 10)]) (rest := [.int (nI 2), .int (nI i)]) ⟨hx, hb, hml, hown, hts⟩ hK 2 (s_below l D cs H ((cellw xs L 0) >>> ((nI 2) &&& 31)) 10 (by first | omega | decide) (by omega)) (gin_s mw_4_12 mw_4_13 mw_3_13 mw_4_14) (by decide +kernel) ⟨Nat.le_of_ble_eq_true rfl, Nat.le_of_ble_eq_true rfl⟩ rfl hl.1 rfl (Nat.le_of_ble_eq_true rfl) dL_build_56 ⟨(show _ ≤ 23000 by omega), (show _ ≤ 92000 by omega)⟩ ?_
        refine W.eq (g2 := F0 m 59 ls [.int (nI (blw ((cellw xs L 0) >>> ((nI 2) &&& 31)) 10)), .int (nI 2), .int (nI i)]) rfl ?_
        refine lv_iadd hx hb dL_build_59 ?_
        refine lv_rwi (y := nI M9) (by rw [nI_add, eM9]) ?_
        refine lv_icmp_ge (tgt := 96) hx hb dL_build_60 (by decide) (fun c_2 => ?_) (fun c_2 => ?_)
        · refine lv_aload_n hx hb dL_build_96 rfl (lv_at hl 2 rfl) ?_
          refine W.widen (k := 23000) (n := 92000) (by omega) (by omega) ?_
          exact wr_aret hQ hx hb hr hlocks (Or.inl ⟨_, rfl⟩) (Or.inr ⟨_, rfl⟩) hP hD hS (hpost _ _ _ (Nat.le_refl _) (JI.mono hw (by omega))) dL_build_97
        · have hlt : i < M9 := by
            rcases Nat.lt_or_ge i M9 with q | q
            · exact q
            · exact absurd (nI_le q (by omega)) c_2
          refine lv_aload_n hx hb dL_build_63 rfl (lv_at hl 0 rfl) ?_
          refine lv_aload_n hx hb dL_build_64 rfl (lv_at hl 2 rfl) ?_
          refine lv_aload_n hx hb dL_build_65 rfl (lv_at hl 1 rfl) ?_
          refine lv_iconst (v := nI 1) hx hb dL_build_66 (by first | decide | rfl) ?_
          refine lv_iload_n hx hb dL_build_67 rfl (lv_at hl 3 rfl) ?_
          refine lv_bipush (v := nI 15) hx hb dL_build_68 (by first | decide | rfl) ?_
          refine lv_irem hx hb dL_build_70 (by decide) ?_
          refine lv_rwi (y := nI (i % 15)) (pk_rem (by omega) (by omega) (by omega)) ?_
          refine lv_iadd hx hb dL_build_71 ?_
          refine lv_rwi (y := nI (1 + i % 15)) (nI_add _ _) ?_
          refine rcS (b := b) (L := L) (xs := xs) (As := [.ref b, .int (nI (1 + i % 15))]) (rest := [.ref q0, .ref (ad 0)]) ⟨hx, hb, hml, hown, hts⟩ hK (hX.kept (hS.2.1 b hbl hbA)) 2 (s_cell l D cs H (1 + i % 15) (by have := Nat.mod_lt i (show 15 > 0 by omega); omega) (by omega)) (gin_s mw_4_8 mw_4_9 mw_3_13 mw_4_10) (by decide +kernel) ⟨Nat.le_of_ble_eq_true rfl, Nat.le_of_ble_eq_true rfl⟩ rfl hl.1 rfl (Nat.le_of_ble_eq_true rfl) dL_build_72 ⟨(show _ ≤ 23000 by omega), (show _ ≤ 92000 by omega)⟩ ?_
          refine W.eq (g2 := F0 m 75 ls [.int (cellw xs L (1 + i % 15)), .ref q0, .ref (ad 0)]) rfl ?_
          refine lv_iconst (v := nI 1) hx hb dL_build_75 (by first | decide | rfl) ?_
          refine lv_ishr hx hb dL_build_76 ?_
          refine lv_bipush (v := nI 41) hx hb dL_build_77 (by first | decide | rfl) ?_
          refine lv_iload_n hx hb dL_build_79 rfl (lv_at hl 3 rfl) ?_
          refine lv_imul hx hb dL_build_80 ?_
          refine lv_iadd hx hb dL_build_81 ?_
          refine whS (As := [.ref (ad 0), .ref q0, .int (((cellw xs L (1 + i % 15)) >>> ((nI 1) &&& 31)) + ((nI 41) * (nI i)))]) (rest := []) ⟨hx, hb, hml, hown, hts⟩ hT hR hK 3 (act_c l hl9 D cs z mi H (((cellw xs L (1 + i % 15)) >>> ((nI 1) &&& 31)) + ((nI 41) * (nI i))) (by omega) hw (fun ov w1 => ov = some (.int 1) ∧ JI cs z (ad 0) q0 ((1 + i) + 1) w1) (fun w1 h1 => ⟨rfl, h1⟩) hP (hD.weaken (fun _ _ _ _ => trivial))) (gin_h mw_4_16 mw_4_17 mw_3_13 mw_4_18) (by decide +kernel) ⟨Nat.le_of_ble_eq_true rfl, Nat.le_of_ble_eq_true rfl⟩ rfl hl.1 rfl (Nat.le_of_ble_eq_true rfl) dL_build_82 ⟨(show _ ≤ 23000 by omega), (show _ ≤ 92000 by omega)⟩ hD hS hA (fun ov9 w2 H locs hp9 hP hD hS => ?_)
          obtain ⟨rfl, hw2⟩ := hp9
          refine W.eq (g2 := F0 m 85 ls [.int 1]) rfl ?_
          refine lv_if_ne (tgt := 90) hx hb dL_build_85 (by decide) (fun c_3 => ?_) (fun c_3 => False.elim (absurd c_3 (by decide)))
          refine lv_iinc (v := nI (i + 1)) (lv' := [(3, .int (nI (i + 1))), (0, .ref (ad 0)), (1, .ref b), (2, .ref q0)]) hx hb dL_build_90 hl (k := 3) rfl (nI_1 i) (by decide) rfl (fun ls hl => ?_)
          refine lv_goto (tgt := 45) hx hb dL_build_93 (by decide) ?_
          refine W.widen (k := 0 + 1 + 1732 + 1740 * (i + 1)) (n := 0 + 6 + 6920 + 7000 * (i + 1)) (by omega) (by omega) ?_
          exact ih45 (i + 1) w2 H _ ls (by omega) (by omega) (JI.mono hw2 (by omega)) hP hD hS (lv_sub hl [1, 2, 3, 0] rfl)
    exact loop45 (M9 + 1) 0 w0 H _ ls (Nat.zero_le _) (by omega) (JI.mono hw0 (by omega)) hP hD hS (lv_sub hl [2, 3, 1, 0] rfl)
  · refine lv_aload_n hx hb dL_build_20 rfl (lv_at hl 1 rfl) ?_
    refine lv_aload_n hx hb dL_build_21 rfl (lv_at hl 0 rfl) ?_
    refine lv_bipush (v := 9) hx hb dL_build_22 (by first | decide | rfl) ?_
    refine lv_aload_n hx hb dL_build_24 rfl (lv_at hl 2 rfl) ?_
    refine lv_iconst (v := nI 0) hx hb dL_build_25 (by first | decide | rfl) ?_
    refine rcS (b := b) (L := L) (xs := xs) (As := [.ref b, .int (nI 0)]) (rest := [.int 9, .ref q0, .ref (ad 0)]) ⟨hx, hb, hml, hown, hts⟩ hK (hX.kept (hS.2.1 b hbl hbA)) 2 (s_cell l D cs H 0 (by omega) (by omega)) (gin_s mw_4_8 mw_4_9 mw_3_13 mw_4_10) (by decide +kernel) ⟨Nat.le_of_ble_eq_true rfl, Nat.le_of_ble_eq_true rfl⟩ rfl hl.1 rfl (Nat.le_of_ble_eq_true rfl) dL_build_26 ⟨(show _ ≤ 23000 by omega), (show _ ≤ 92000 by omega)⟩ ?_
    refine W.eq (g2 := F0 m 29 ls [.int (cellw xs L 0), .int 9, .ref q0, .ref (ad 0)]) rfl ?_
    refine lv_iconst (v := nI 5) hx hb dL_build_29 (by first | decide | rfl) ?_
    refine lv_ishr hx hb dL_build_30 ?_
    refine lv_ldc hx hb hown (hts (Cond.constant RL 70 (16777215)) mw_3_18) dL_build_31 ?_
    refine lv_iand hx hb dL_build_33 ?_
    refine lv_imul hx hb dL_build_34 ?_
    refine whS (As := [.ref (ad 0), .ref q0, .int (9 * (((cellw xs L 0) >>> ((nI 5) &&& 31)) &&& 16777215))]) (rest := []) ⟨hx, hb, hml, hown, hts⟩ hT hR hK 3 (act_c l hl9 D cs z mi H (9 * (((cellw xs L 0) >>> ((nI 5) &&& 31)) &&& 16777215)) (by omega) hw0 (fun ov w1 => ov = some (.int 1) ∧ JI cs z (ad 0) q0 (0 + 1) w1) (fun w1 h1 => ⟨rfl, h1⟩) hP (hD.weaken (fun _ _ _ _ => trivial))) (gin_h mw_4_16 mw_4_17 mw_3_13 mw_4_18) (by decide +kernel) ⟨Nat.le_of_ble_eq_true rfl, Nat.le_of_ble_eq_true rfl⟩ rfl hl.1 rfl (Nat.le_of_ble_eq_true rfl) dL_build_35 ⟨(show _ ≤ 23000 by omega), (show _ ≤ 92000 by omega)⟩ hD hS hA (fun ov9 w1 H locs hp9 hP hD hS => ?_)
    obtain ⟨rfl, hw1⟩ := hp9
    refine W.eq (g2 := F0 m 38 ls [.int 1]) rfl ?_
    refine lv_if_ne (tgt := 43) hx hb dL_build_38 (by decide) (fun c_4 => ?_) (fun c_4 => False.elim (absurd c_4 (by decide)))
    refine lv_iconst (v := nI 0) hx hb dL_build_43 (by first | decide | rfl) ?_
    refine lv_istore_n (lv' := [(3, .int (nI 0)), (2, .ref q0), (0, .ref (ad 0)), (1, .ref b)]) hx hb dL_build_44 rfl hl (by decide) rfl (fun ls hl => ?_)
    have loop45 : ∀ (n9 : Nat) (i : Nat) (w : va_W) (H : Heap) (locs : List Loc) (ls : Array Slot), i ≤ M9 → M9 + 1 ≤ i + n9 → JI cs z (ad 0) q0 (1 + i) w → va_P D vwCl (w) H → va_D A (w) → va_S A s.heap H locs → lv_has ls 4 [(0, .ref (ad 0)), (1, .ref b), (2, .ref q0), (3, .int (nI i))] → W p l e (rmL 11 23000 92000) s m [.ref (ad 0), .ref b].toArray below meth c H locs (0 + 1 + 1732 + 1740 + 1740 * i) (0 + 6 + 6920 + 7000 + 7000 * i) Q (F0 m 45 ls []) := by
      intro n9
      induction n9 with
      | zero => intro i  w  H locs ls hi hfu hw hP hD hS hl; exact absurd hfu (by omega)
      | succ n9 ih45 =>
        intro i  w  H locs ls hi hfu hw hP hD hS hl
        refine lv_iload_n hx hb dL_build_45 rfl (lv_at hl 3 rfl) ?_
        refine lv_iconst (v := nI 2) hx hb dL_build_46 (by first | decide | rfl) ?_
        refine lv_aload_n hx hb dL_build_47 rfl (lv_at hl 1 rfl) ?_
        refine lv_iconst (v := nI 0) hx hb dL_build_48 (by first | decide | rfl) ?_
        refine rcS (b := b) (L := L) (xs := xs) (As := [.ref b, .int (nI 0)]) (rest := [.int (nI 2), .int (nI i)]) ⟨hx, hb, hml, hown, hts⟩ hK (hX.kept (hS.2.1 b hbl hbA)) 2 (s_cell l D cs H 0 (by omega) (by omega)) (gin_s mw_4_8 mw_4_9 mw_3_13 mw_4_10) (by decide +kernel) ⟨Nat.le_of_ble_eq_true rfl, Nat.le_of_ble_eq_true rfl⟩ rfl hl.1 rfl (Nat.le_of_ble_eq_true rfl) dL_build_49 ⟨(show _ ≤ 23000 by omega), (show _ ≤ 92000 by omega)⟩ ?_
        refine W.eq (g2 := F0 m 52 ls [.int (cellw xs L 0), .int (nI 2), .int (nI i)]) rfl ?_
        refine lv_iconst (v := nI 2) hx hb dL_build_52 (by first | decide | rfl) ?_
        refine lv_ishr hx hb dL_build_53 ?_
        refine lv_bipush (v := nI 10) hx hb dL_build_54 (by first | decide | rfl) ?_
        refine rdS (As := [.int ((cellw xs L 0) >>> ((nI 2) &&& 31)), .int (nI 10)]) (rest := [.int (nI 2), .int (nI i)]) ⟨hx, hb, hml, hown, hts⟩ hK 2 (s_below l D cs H ((cellw xs L 0) >>> ((nI 2) &&& 31)) 10 (by first | omega | decide) (by omega)) (gin_s mw_4_12 mw_4_13 mw_3_13 mw_4_14) (by decide +kernel) ⟨Nat.le_of_ble_eq_true rfl, Nat.le_of_ble_eq_true rfl⟩ rfl hl.1 rfl (Nat.le_of_ble_eq_true rfl) dL_build_56 ⟨(show _ ≤ 23000 by omega), (show _ ≤ 92000 by omega)⟩ ?_
        refine W.eq (g2 := F0 m 59 ls [.int (nI (blw ((cellw xs L 0) >>> ((nI 2) &&& 31)) 10)), .int (nI 2), .int (nI i)]) rfl ?_
        refine lv_iadd hx hb dL_build_59 ?_
        refine lv_rwi (y := nI M9) (by rw [nI_add, eM9]) ?_
        refine lv_icmp_ge (tgt := 96) hx hb dL_build_60 (by decide) (fun c_5 => ?_) (fun c_5 => ?_)
        · refine lv_aload_n hx hb dL_build_96 rfl (lv_at hl 2 rfl) ?_
          refine W.widen (k := 23000) (n := 92000) (by omega) (by omega) ?_
          exact wr_aret hQ hx hb hr hlocks (Or.inl ⟨_, rfl⟩) (Or.inr ⟨_, rfl⟩) hP hD hS (hpost _ _ _ (Nat.le_refl _) (JI.mono hw (by omega))) dL_build_97
        · have hlt : i < M9 := by
            rcases Nat.lt_or_ge i M9 with q | q
            · exact q
            · exact absurd (nI_le q (by omega)) c_5
          refine lv_aload_n hx hb dL_build_63 rfl (lv_at hl 0 rfl) ?_
          refine lv_aload_n hx hb dL_build_64 rfl (lv_at hl 2 rfl) ?_
          refine lv_aload_n hx hb dL_build_65 rfl (lv_at hl 1 rfl) ?_
          refine lv_iconst (v := nI 1) hx hb dL_build_66 (by first | decide | rfl) ?_
          refine lv_iload_n hx hb dL_build_67 rfl (lv_at hl 3 rfl) ?_
          refine lv_bipush (v := nI 15) hx hb dL_build_68 (by first | decide | rfl) ?_
          refine lv_irem hx hb dL_build_70 (by decide) ?_
          refine lv_rwi (y := nI (i % 15)) (pk_rem (by omega) (by omega) (by omega)) ?_
          refine lv_iadd hx hb dL_build_71 ?_
          refine lv_rwi (y := nI (1 + i % 15)) (nI_add _ _) ?_
          refine rcS (b := b) (L := L) (xs := xs) (As := [.ref b, .int (nI (1 + i % 15))]) (rest := [.ref q0, .ref (ad 0)]) ⟨hx, hb, hml, hown, hts⟩ hK (hX.kept (hS.2.1 b hbl hbA)) 2 (s_cell l D cs H (1 + i % 15) (by have := Nat.mod_lt i (show 15 > 0 by omega); omega) (by omega)) (gin_s mw_4_8 mw_4_9 mw_3_13 mw_4_10) (by decide +kernel) ⟨Nat.le_of_ble_eq_true rfl, Nat.le_of_ble_eq_true rfl⟩ rfl hl.1 rfl (Nat.le_of_ble_eq_true rfl) dL_build_72 ⟨(show _ ≤ 23000 by omega), (show _ ≤ 92000 by omega)⟩ ?_
          refine W.eq (g2 := F0 m 75 ls [.int (cellw xs L (1 + i % 15)), .ref q0, .ref (ad 0)]) rfl ?_
          refine lv_iconst (v := nI 1) hx hb dL_build_75 (by first | decide | rfl) ?_
          refine lv_ishr hx hb dL_build_76 ?_
          refine lv_bipush (v := nI 41) hx hb dL_build_77 (by first | decide | rfl) ?_
          refine lv_iload_n hx hb dL_build_79 rfl (lv_at hl 3 rfl) ?_
          refine lv_imul hx hb dL_build_80 ?_
          refine lv_iadd hx hb dL_build_81 ?_
          refine whS (As := [.ref (ad 0), .ref q0, .int (((cellw xs L (1 + i % 15)) >>> ((nI 1) &&& 31)) + ((nI 41) * (nI i)))]) (rest := []) ⟨hx, hb, hml, hown, hts⟩ hT hR hK 3 (act_c l hl9 D cs z mi H (((cellw xs L (1 + i % 15)) >>> ((nI 1) &&& 31)) + ((nI 41) * (nI i))) (by omega) hw (fun ov w1 => ov = some (.int 1) ∧ JI cs z (ad 0) q0 ((1 + i) + 1) w1) (fun w1 h1 => ⟨rfl, h1⟩) hP (hD.weaken (fun _ _ _ _ => trivial))) (gin_h mw_4_16 mw_4_17 mw_3_13 mw_4_18) (by decide +kernel) ⟨Nat.le_of_ble_eq_true rfl, Nat.le_of_ble_eq_true rfl⟩ rfl hl.1 rfl (Nat.le_of_ble_eq_true rfl) dL_build_82 ⟨(show _ ≤ 23000 by omega), (show _ ≤ 92000 by omega)⟩ hD hS hA (fun ov9 w2 H locs hp9 hP hD hS => ?_)
          obtain ⟨rfl, hw2⟩ := hp9
          refine W.eq (g2 := F0 m 85 ls [.int 1]) rfl ?_
          refine lv_if_ne (tgt := 90) hx hb dL_build_85 (by decide) (fun c_6 => ?_) (fun c_6 => False.elim (absurd c_6 (by decide)))
          refine lv_iinc (v := nI (i + 1)) (lv' := [(3, .int (nI (i + 1))), (0, .ref (ad 0)), (1, .ref b), (2, .ref q0)]) hx hb dL_build_90 hl (k := 3) rfl (nI_1 i) (by decide) rfl (fun ls hl => ?_)
          refine lv_goto (tgt := 45) hx hb dL_build_93 (by decide) ?_
          refine W.widen (k := 0 + 1 + 1732 + 1740 + 1740 * (i + 1)) (n := 0 + 6 + 6920 + 7000 + 7000 * (i + 1)) (by omega) (by omega) ?_
          exact ih45 (i + 1) w2 H _ ls (by omega) (by omega) (JI.mono hw2 (by omega)) hP hD hS (lv_sub hl [1, 2, 3, 0] rfl)
    exact loop45 (M9 + 1) 0 w1 H _ ls (Nat.zero_le _) (by omega) (JI.mono hw1 (by omega)) hP hD hS (lv_sub hl [2, 3, 1, 0] rfl)
