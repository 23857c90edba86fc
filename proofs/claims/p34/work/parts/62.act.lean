/-! the law's act, all of it; rows by program -/
def m12 (x : Int32) : Nat := if blw (x >>> (nI 8 &&& 31)) 3 = 0 then 37 else 12
def m20 (x : Int32) : Nat := if blw (x >>> (nI 9 &&& 31)) 3 = 0 then 100 else 20
theorem m12_b (x : Int32) : 1 ≤ m12 x ∧ m12 x ≤ 37 := by unfold m12; split <;> omega
theorem m20_b (x : Int32) : 1 ≤ m20 x ∧ m20 x ≤ 100 := by unfold m20; split <;> omega
set_option maxHeartbeats 4000000 in
set_option maxRecDepth 100000 in
theorem a_lay {p : Program} {l : Launch} {e : Env} {s : State} {m : MethodId} {below : List Frame} {meth : Method} {c : Code} {ls : Array Slot} {A : Nat → Prop} {Q : State → Prop} {H : Heap} {locs : List Loc} {D : va_G} {cs : Nat → ClassId} {z mi : Nat} {x : Int32} {k : Nat} {ad sa : Nat → Nat} {bank rnds cnt mcn : Int32} {f1 f2 f3 dn N n cap : Nat} {fn : Nat → Nat} {su fa pu df pv : Nat → Int32} {rf : Nat → Option Nat} {wa : Nat → Nat} {wf : Nat → Nat → Int32} {rs rw : Nat → Option Nat} {sr wr : Nat → Nat} {sf wg : Nat → Nat → Int32} {EL T : va_W} (hl9 : l.stackTraces = false) (hx : p.tables.exec = Jvm.exec) (hb : c.code = cL_act) (hml : c.maxLocals = 11) (hown : s.vm.findClass RL = some m.cls) (hts : ∀ w ∈ wsL_law, w.before [.ref (ad 0), .ref (sa 0), .int x].toArray s = true) (hK : va_K D vwCl (Ty cs) s) (hA : ∀ q : Nat, s.heap.size ≤ q → A q) (hT : ST z mi A s s.heap) (hR : SR s) (htab : c.exceptionTable.toList = tableOf [(507, 542, 543, 63)]) (hk : k ≤ 100) (hJ : JF cs z k ad bank cnt f1 f2 f3 dn N n cap fn su fa pu pv rf wa wf rs rw sr wr sf wg EL T) (hl : lv_has ls 11 [(0, .ref (ad 0)), (1, .ref (sa 0)), (2, .int x)]) (hP : va_P D vwCl ([(ad 0, .inr (3, [.ref (ad 1), .ref (ad 2), .ref (ad 3), .int bank, .int rnds])), (ad 1, .inr (1, [.ref (ad 4), .ref (ad 5), .int cnt, .int (nI N)])), (ad 4, .inl (cs 0, 1728, .inl (su))), (ad 5, .inl (cs 0, 1728, .inl (fa))), (ad 2, .inr (0, [.int mcn, .ref (ad 6), .int (nI n)])), (ad 3, .inl (cs 0, 6, .inl (pu))), (sa 0, .inr (4, [.ref (sa 1), .ref (sa 2), .ref (sa 3), .int bank, .int rnds, .ref (sa 4)])), (sa 1, .inl (cs 0, dn, .inl (df))), (sa 2, .inl (cs 3, N, .inr (.inr (.inr (.inr (rs)))))), (sa 3, .inl (cs 0, 6, .inl (pv))), (sa 4, .inl (cs 3, n, .inr (.inr (.inr (.inr (rw))))))] ++ (EL ++ T)) H) (hD : va_D A ([(ad 0, .inr (3, [.ref (ad 1), .ref (ad 2), .ref (ad 3), .int bank, .int rnds])), (ad 1, .inr (1, [.ref (ad 4), .ref (ad 5), .int cnt, .int (nI N)])), (ad 4, .inl (cs 0, 1728, .inl (su))), (ad 5, .inl (cs 0, 1728, .inl (fa))), (ad 2, .inr (0, [.int mcn, .ref (ad 6), .int (nI n)])), (ad 3, .inl (cs 0, 6, .inl (pu))), (sa 0, .inr (4, [.ref (sa 1), .ref (sa 2), .ref (sa 3), .int bank, .int rnds, .ref (sa 4)])), (sa 1, .inl (cs 0, dn, .inl (df))), (sa 2, .inl (cs 3, N, .inr (.inr (.inr (.inr (rs)))))), (sa 3, .inl (cs 0, 6, .inl (pv))), (sa 4, .inl (cs 3, n, .inr (.inr (.inr (.inr (rw))))))] ++ (EL ++ T))) (hS : va_S A s.heap H locs) (kk : ∀ (pc : Nat) (w1 : va_W) (H1 : Heap) (locs1 : List Loc) (ls1 : Array Slot) (ce sl : Nat), decode cL_act pc = .ok (.ireturn, 1) → ce ≤ 1740 → sl ≤ 7000 → JI cs z (ad 0) (sa 0) (k + 1) w1 → va_P D vwCl w1 H1 → va_D A w1 → va_S A s.heap H1 locs1 → W p l e (rmL 10 1740 7000) s m [.ref (ad 0), .ref (sa 0), .int x].toArray below meth c H1 locs1 ce sl Q (F0 m pc ls1 [.int 1])) : W p l e (rmL 10 1740 7000) s m [.ref (ad 0), .ref (sa 0), .int x].toArray below meth c H locs 0 0 Q (F0 m 319 ls []) := by
  obtain ⟨hN1, hN, hn12⟩ := hJ.N1
  have hJ0 := hJ
  obtain ⟨hDC, hla, hW9, hpv9, hcnt, hLT, hT9, hF9, -⟩ := hJ0
  obtain ⟨p9, ep9, hp9⟩ : ∃ o, blw (x >>> (nI 3 &&& 31)) 6 = o ∧ o < 6 := ⟨_, rfl, blw_lt _ (by omega)⟩
  obtain ⟨k9, ek9, hk9⟩ : ∃ o, blw (x >>> (nI 5 &&& 31)) 10 = o ∧ o < 10 := ⟨_, rfl, blw_lt _ (by omega)⟩
  obtain ⟨q9, eq9, hq9⟩ : ∃ o, blw (x >>> (nI 4 &&& 31)) (m12 x) = o ∧ o ≤ 36 := ⟨_, rfl, by have g := blw_lt (x >>> (nI 4 &&& 31)) (m12_b x).1; have h := (m12_b x).2; omega⟩
  obtain ⟨s9, es9, hs1, hs2⟩ : ∃ o, 1 + blw (x >>> (nI 6 &&& 31)) (m20 x) = o ∧ 1 ≤ o ∧ o ≤ 100 := ⟨_, rfl, by omega, by have g := blw_lt (x >>> (nI 6 &&& 31)) (m20_b x).1; have h := (m20_b x).2; omega⟩
  obtain ⟨w9, ew9, hw1, hw2⟩ : ∃ o, 1 + blw (x >>> (nI 7 &&& 31)) 20 = o ∧ 1 ≤ o ∧ o ≤ 20 := ⟨_, rfl, by omega, by have g := blw_lt (x >>> (nI 7 &&& 31)) (n := 20) (by omega); omega⟩
  obtain ⟨b9, eb9, hb1, hb2⟩ : ∃ o, 1 + blw (x >>> (nI 10 &&& 31)) 10 = o ∧ 1 ≤ o ∧ o ≤ 10 := ⟨_, rfl, by omega, by have g := blw_lt (x >>> (nI 10 &&& 31)) (n := 10) (by omega); omega⟩
  refine lv_iload_n hx hb dL_act_319 rfl (lv_at hl 2 rfl) ?_
  refine lv_iconst (v := nI 3) hx hb dL_act_320 (by first | decide | rfl) ?_
  refine lv_ishr hx hb dL_act_321 ?_
  refine lv_bipush (v := nI 6) hx hb dL_act_322 (by first | decide | rfl) ?_
  refine rdS (As := [.int (x >>> ((nI 3) &&& 31)), .int (nI 6)]) (rest := []) ⟨hx, hb, hml, hown, hts⟩ hK 2 (s_below l D cs H (x >>> ((nI 3) &&& 31)) 6 (by first | omega | decide) (by omega)) (gin_s mw_4_12 mw_4_13 mw_3_13 mw_4_14) (by decide +kernel) ⟨Nat.le_of_ble_eq_true rfl, Nat.le_of_ble_eq_true rfl⟩ rfl hl.1 rfl (Nat.le_of_ble_eq_true rfl) dL_act_324 ⟨(show _ ≤ 1740 by omega), (show _ ≤ 7000 by omega)⟩ ?_
  refine W.eq (g2 := F0 m 327 ls [.int (nI (blw (x >>> ((nI 3) &&& 31)) 6))]) rfl ?_
  refine lv_rwi (y := nI p9) (congrArg nI ep9) ?_
  refine lv_istore_n (lv' := [(3, .int (nI p9)), (0, .ref (ad 0)), (1, .ref (sa 0)), (2, .int x)]) hx hb dL_act_327 rfl hl (by decide) rfl (fun ls hl => ?_)
  refine lv_iload_n hx hb dL_act_328 rfl (lv_at hl 3 rfl) ?_
  refine lv_iconst (v := nI 5) hx hb dL_act_329 (by first | decide | rfl) ?_
  refine lv_ishr hx hb dL_act_330 ?_
  refine lv_bipush (v := nI 10) hx hb dL_act_331 (by first | decide | rfl) ?_
  refine rdS (As := [.int (x >>> ((nI 5) &&& 31)), .int (nI 10)]) (rest := []) ⟨hx, hb, hml, hown, hts⟩ hK 2 (s_below l D cs H (x >>> ((nI 5) &&& 31)) 10 (by first | omega | decide) (by omega)) (gin_s mw_4_12 mw_4_13 mw_3_13 mw_4_14) (by decide +kernel) ⟨Nat.le_of_ble_eq_true rfl, Nat.le_of_ble_eq_true rfl⟩ rfl hl.1 rfl (Nat.le_of_ble_eq_true rfl) dL_act_333 ⟨(show _ ≤ 1740 by omega), (show _ ≤ 7000 by omega)⟩ ?_
  refine W.eq (g2 := F0 m 336 ls [.int (nI (blw (x >>> ((nI 5) &&& 31)) 10))]) rfl ?_
  refine lv_rwi (y := nI k9) (congrArg nI ek9) ?_
  refine lv_istore (lv' := [(4, .int (nI k9)), (3, .int (nI p9)), (0, .ref (ad 0)), (1, .ref (sa 0)), (2, .int x)]) hx hb dL_act_336 hl (by decide) rfl (fun ls hl => ?_)
  refine lv_iload_n hx hb dL_act_338 rfl (lv_at hl 4 rfl) ?_
  refine lv_iconst (v := nI 4) hx hb dL_act_339 (by first | decide | rfl) ?_
  refine lv_ishr hx hb dL_act_340 ?_
  refine lv_iload_n hx hb dL_act_341 rfl (lv_at hl 4 rfl) ?_
  refine lv_bipush (v := nI 8) hx hb dL_act_342 (by first | decide | rfl) ?_
  refine lv_ishr hx hb dL_act_344 ?_
  refine lv_iconst (v := nI 3) hx hb dL_act_345 (by first | decide | rfl) ?_
  refine rdS (As := [.int (x >>> ((nI 8) &&& 31)), .int (nI 3)]) (rest := [.int (x >>> ((nI 4) &&& 31))]) ⟨hx, hb, hml, hown, hts⟩ hK 2 (s_below l D cs H (x >>> ((nI 8) &&& 31)) 3 (by first | omega | decide) (by omega)) (gin_s mw_4_12 mw_4_13 mw_3_13 mw_4_14) (by decide +kernel) ⟨Nat.le_of_ble_eq_true rfl, Nat.le_of_ble_eq_true rfl⟩ rfl hl.1 rfl (Nat.le_of_ble_eq_true rfl) dL_act_346 ⟨(show _ ≤ 1740 by omega), (show _ ≤ 7000 by omega)⟩ ?_
  refine W.eq (g2 := F0 m 349 ls [.int (nI (blw (x >>> ((nI 8) &&& 31)) 3)), .int (x >>> ((nI 4) &&& 31))]) rfl ?_
  have join359 : ∀ (H : Heap) (locs : List Loc) (ls : Array Slot), va_P D vwCl ([(ad 0, .inr (3, [.ref (ad 1), .ref (ad 2), .ref (ad 3), .int bank, .int rnds])), (ad 1, .inr (1, [.ref (ad 4), .ref (ad 5), .int cnt, .int (nI N)])), (ad 4, .inl (cs 0, 1728, .inl (su))), (ad 5, .inl (cs 0, 1728, .inl (fa))), (ad 2, .inr (0, [.int mcn, .ref (ad 6), .int (nI n)])), (ad 3, .inl (cs 0, 6, .inl (pu))), (sa 0, .inr (4, [.ref (sa 1), .ref (sa 2), .ref (sa 3), .int bank, .int rnds, .ref (sa 4)])), (sa 1, .inl (cs 0, dn, .inl (df))), (sa 2, .inl (cs 3, N, .inr (.inr (.inr (.inr (rs)))))), (sa 3, .inl (cs 0, 6, .inl (pv))), (sa 4, .inl (cs 3, n, .inr (.inr (.inr (.inr (rw))))))] ++ (EL ++ T)) H → va_D A ([(ad 0, .inr (3, [.ref (ad 1), .ref (ad 2), .ref (ad 3), .int bank, .int rnds])), (ad 1, .inr (1, [.ref (ad 4), .ref (ad 5), .int cnt, .int (nI N)])), (ad 4, .inl (cs 0, 1728, .inl (su))), (ad 5, .inl (cs 0, 1728, .inl (fa))), (ad 2, .inr (0, [.int mcn, .ref (ad 6), .int (nI n)])), (ad 3, .inl (cs 0, 6, .inl (pu))), (sa 0, .inr (4, [.ref (sa 1), .ref (sa 2), .ref (sa 3), .int bank, .int rnds, .ref (sa 4)])), (sa 1, .inl (cs 0, dn, .inl (df))), (sa 2, .inl (cs 3, N, .inr (.inr (.inr (.inr (rs)))))), (sa 3, .inl (cs 0, 6, .inl (pv))), (sa 4, .inl (cs 3, n, .inr (.inr (.inr (.inr (rw))))))] ++ (EL ++ T)) → va_S A s.heap H locs → lv_has ls 11 [(4, .int (nI k9)), (3, .int (nI p9)), (0, .ref (ad 0)), (1, .ref (sa 0)), (2, .int x)] → W p l e (rmL 10 1740 7000) s m [.ref (ad 0), .ref (sa 0), .int x].toArray below meth c H locs (0) (0) Q (F0 m 359 ls [.int (nI (m12 x)), .int (x >>> ((nI 4) &&& 31))]) := by
    intro H locs ls hP hD hS hl
    refine rdS (As := [.int (x >>> ((nI 4) &&& 31)), .int (nI (m12 x))]) (rest := []) ⟨hx, hb, hml, hown, hts⟩ hK 2 (s_below l D cs H (x >>> ((nI 4) &&& 31)) (m12 x) (m12_b x).1 (by have g := (m12_b x).2; omega)) (gin_s mw_4_12 mw_4_13 mw_3_13 mw_4_14) (by decide +kernel) ⟨Nat.le_of_ble_eq_true rfl, Nat.le_of_ble_eq_true rfl⟩ rfl hl.1 rfl (Nat.le_of_ble_eq_true rfl) dL_act_359 ⟨(show _ ≤ 1740 by omega), (show _ ≤ 7000 by omega)⟩ ?_
    refine W.eq (g2 := F0 m 362 ls [.int (nI (blw (x >>> ((nI 4) &&& 31)) (m12 x)))]) rfl ?_
    refine lv_rwi (y := nI q9) (congrArg nI eq9) ?_
    refine lv_istore (lv' := [(5, .int (nI q9)), (4, .int (nI k9)), (3, .int (nI p9)), (0, .ref (ad 0)), (1, .ref (sa 0)), (2, .int x)]) hx hb dL_act_362 hl (by decide) rfl (fun ls hl => ?_)
    refine lv_iconst (v := nI 1) hx hb dL_act_364 (by first | decide | rfl) ?_
    refine lv_iload_n hx hb dL_act_365 rfl (lv_at hl 5 rfl) ?_
    refine lv_bipush (v := nI 6) hx hb dL_act_366 (by first | decide | rfl) ?_
    refine lv_ishr hx hb dL_act_368 ?_
    refine lv_iload_n hx hb dL_act_369 rfl (lv_at hl 5 rfl) ?_
    refine lv_bipush (v := nI 9) hx hb dL_act_370 (by first | decide | rfl) ?_
    refine lv_ishr hx hb dL_act_372 ?_
    refine lv_iconst (v := nI 3) hx hb dL_act_373 (by first | decide | rfl) ?_
    refine rdS (As := [.int (x >>> ((nI 9) &&& 31)), .int (nI 3)]) (rest := [.int (x >>> ((nI 6) &&& 31)), .int (nI 1)]) ⟨hx, hb, hml, hown, hts⟩ hK 2 (s_below l D cs H (x >>> ((nI 9) &&& 31)) 3 (by first | omega | decide) (by omega)) (gin_s mw_4_12 mw_4_13 mw_3_13 mw_4_14) (by decide +kernel) ⟨Nat.le_of_ble_eq_true rfl, Nat.le_of_ble_eq_true rfl⟩ rfl hl.1 rfl (Nat.le_of_ble_eq_true rfl) dL_act_374 ⟨(show _ ≤ 1740 by omega), (show _ ≤ 7000 by omega)⟩ ?_
    refine W.eq (g2 := F0 m 377 ls [.int (nI (blw (x >>> ((nI 9) &&& 31)) 3)), .int (x >>> ((nI 6) &&& 31)), .int (nI 1)]) rfl ?_
    have join387 : ∀ (H : Heap) (locs : List Loc) (ls : Array Slot), va_P D vwCl ([(ad 0, .inr (3, [.ref (ad 1), .ref (ad 2), .ref (ad 3), .int bank, .int rnds])), (ad 1, .inr (1, [.ref (ad 4), .ref (ad 5), .int cnt, .int (nI N)])), (ad 4, .inl (cs 0, 1728, .inl (su))), (ad 5, .inl (cs 0, 1728, .inl (fa))), (ad 2, .inr (0, [.int mcn, .ref (ad 6), .int (nI n)])), (ad 3, .inl (cs 0, 6, .inl (pu))), (sa 0, .inr (4, [.ref (sa 1), .ref (sa 2), .ref (sa 3), .int bank, .int rnds, .ref (sa 4)])), (sa 1, .inl (cs 0, dn, .inl (df))), (sa 2, .inl (cs 3, N, .inr (.inr (.inr (.inr (rs)))))), (sa 3, .inl (cs 0, 6, .inl (pv))), (sa 4, .inl (cs 3, n, .inr (.inr (.inr (.inr (rw))))))] ++ (EL ++ T)) H → va_D A ([(ad 0, .inr (3, [.ref (ad 1), .ref (ad 2), .ref (ad 3), .int bank, .int rnds])), (ad 1, .inr (1, [.ref (ad 4), .ref (ad 5), .int cnt, .int (nI N)])), (ad 4, .inl (cs 0, 1728, .inl (su))), (ad 5, .inl (cs 0, 1728, .inl (fa))), (ad 2, .inr (0, [.int mcn, .ref (ad 6), .int (nI n)])), (ad 3, .inl (cs 0, 6, .inl (pu))), (sa 0, .inr (4, [.ref (sa 1), .ref (sa 2), .ref (sa 3), .int bank, .int rnds, .ref (sa 4)])), (sa 1, .inl (cs 0, dn, .inl (df))), (sa 2, .inl (cs 3, N, .inr (.inr (.inr (.inr (rs)))))), (sa 3, .inl (cs 0, 6, .inl (pv))), (sa 4, .inl (cs 3, n, .inr (.inr (.inr (.inr (rw))))))] ++ (EL ++ T)) → va_S A s.heap H locs → lv_has ls 11 [(5, .int (nI q9)), (4, .int (nI k9)), (3, .int (nI p9)), (0, .ref (ad 0)), (1, .ref (sa 0)), (2, .int x)] → W p l e (rmL 10 1740 7000) s m [.ref (ad 0), .ref (sa 0), .int x].toArray below meth c H locs (0) (0) Q (F0 m 387 ls [.int (nI (m20 x)), .int (x >>> ((nI 6) &&& 31)), .int (nI 1)]) := by
      intro H locs ls hP hD hS hl
      refine rdS (As := [.int (x >>> ((nI 6) &&& 31)), .int (nI (m20 x))]) (rest := [.int (nI 1)]) ⟨hx, hb, hml, hown, hts⟩ hK 2 (s_below l D cs H (x >>> ((nI 6) &&& 31)) (m20 x) (m20_b x).1 (by have g := (m20_b x).2; omega)) (gin_s mw_4_12 mw_4_13 mw_3_13 mw_4_14) (by decide +kernel) ⟨Nat.le_of_ble_eq_true rfl, Nat.le_of_ble_eq_true rfl⟩ rfl hl.1 rfl (Nat.le_of_ble_eq_true rfl) dL_act_387 ⟨(show _ ≤ 1740 by omega), (show _ ≤ 7000 by omega)⟩ ?_
      refine W.eq (g2 := F0 m 390 ls [.int (nI (blw (x >>> ((nI 6) &&& 31)) (m20 x))), .int (nI 1)]) rfl ?_
      refine lv_iadd hx hb dL_act_390 ?_
      refine lv_rwi (y := nI s9) (by rw [nI_add, es9]) ?_
      refine lv_istore (lv' := [(6, .int (nI s9)), (5, .int (nI q9)), (4, .int (nI k9)), (3, .int (nI p9)), (0, .ref (ad 0)), (1, .ref (sa 0)), (2, .int x)]) hx hb dL_act_391 hl (by decide) rfl (fun ls hl => ?_)
      refine lv_iconst (v := nI 1) hx hb dL_act_393 (by first | decide | rfl) ?_
      refine lv_iload_n hx hb dL_act_394 rfl (lv_at hl 6 rfl) ?_
      refine lv_bipush (v := nI 7) hx hb dL_act_395 (by first | decide | rfl) ?_
      refine lv_ishr hx hb dL_act_397 ?_
      refine lv_bipush (v := nI 20) hx hb dL_act_398 (by first | decide | rfl) ?_
      refine rdS (As := [.int (x >>> ((nI 7) &&& 31)), .int (nI 20)]) (rest := [.int (nI 1)]) ⟨hx, hb, hml, hown, hts⟩ hK 2 (s_below l D cs H (x >>> ((nI 7) &&& 31)) 20 (by first | omega | decide) (by omega)) (gin_s mw_4_12 mw_4_13 mw_3_13 mw_4_14) (by decide +kernel) ⟨Nat.le_of_ble_eq_true rfl, Nat.le_of_ble_eq_true rfl⟩ rfl hl.1 rfl (Nat.le_of_ble_eq_true rfl) dL_act_400 ⟨(show _ ≤ 1740 by omega), (show _ ≤ 7000 by omega)⟩ ?_
      refine W.eq (g2 := F0 m 403 ls [.int (nI (blw (x >>> ((nI 7) &&& 31)) 20)), .int (nI 1)]) rfl ?_
      refine lv_iadd hx hb dL_act_403 ?_
      refine lv_rwi (y := nI w9) (by rw [nI_add, ew9]) ?_
      refine lv_istore (lv' := [(7, .int (nI w9)), (6, .int (nI s9)), (5, .int (nI q9)), (4, .int (nI k9)), (3, .int (nI p9)), (0, .ref (ad 0)), (1, .ref (sa 0)), (2, .int x)]) hx hb dL_act_404 hl (by decide) rfl (fun ls hl => ?_)
      refine lv_iconst (v := nI 1) hx hb dL_act_406 (by first | decide | rfl) ?_
      refine lv_iload_n hx hb dL_act_407 rfl (lv_at hl 7 rfl) ?_
      refine lv_bipush (v := nI 10) hx hb dL_act_408 (by first | decide | rfl) ?_
      refine lv_ishr hx hb dL_act_410 ?_
      refine lv_bipush (v := nI 10) hx hb dL_act_411 (by first | decide | rfl) ?_
      refine rdS (As := [.int (x >>> ((nI 10) &&& 31)), .int (nI 10)]) (rest := [.int (nI 1)]) ⟨hx, hb, hml, hown, hts⟩ hK 2 (s_below l D cs H (x >>> ((nI 10) &&& 31)) 10 (by first | omega | decide) (by omega)) (gin_s mw_4_12 mw_4_13 mw_3_13 mw_4_14) (by decide +kernel) ⟨Nat.le_of_ble_eq_true rfl, Nat.le_of_ble_eq_true rfl⟩ rfl hl.1 rfl (Nat.le_of_ble_eq_true rfl) dL_act_413 ⟨(show _ ≤ 1740 by omega), (show _ ≤ 7000 by omega)⟩ ?_
      refine W.eq (g2 := F0 m 416 ls [.int (nI (blw (x >>> ((nI 10) &&& 31)) 10)), .int (nI 1)]) rfl ?_
      refine lv_iadd hx hb dL_act_416 ?_
      refine lv_rwi (y := nI b9) (by rw [nI_add, eb9]) ?_
      refine lv_istore (lv' := [(8, .int (nI b9)), (7, .int (nI w9)), (6, .int (nI s9)), (5, .int (nI q9)), (4, .int (nI k9)), (3, .int (nI p9)), (0, .ref (ad 0)), (1, .ref (sa 0)), (2, .int x)]) hx hb dL_act_417 hl (by decide) rfl (fun ls hl => ?_)
      refine lv_aload_n hx hb dL_act_419 rfl (lv_at hl 7 rfl) ?_
      refine va_get (D := D) (ci := 4) (v := .ref (sa 4)) (C := RX3) (T := TX3) (N := 6) hx hb hts inlX3 hown hK hP 6 rfl rfl 5 (by decide) (hts (Cond.fieldLink RL 15 "TavernDiceLaw$Sim" "wagers" "[[I") mw_4_20) (fun _ h9 => h9) rfl dL_act_420 ?_
      refine va_alen hx hb hK hP 10 3 rfl rfl (v := nI n) (rfl) dL_act_423 ?_
      refine lv_bipush (v := nI 12) hx hb dL_act_424 (by first | decide | rfl) ?_
      refine lv_icmp_ge (tgt := 444) hx hb dL_act_426 (by decide) (fun c_1 => ?_) (fun c_1 => ?_)
      · refine lv_iconst (v := 0) hx hb dL_act_444 (by first | decide | rfl) ?_
        refine lv_istore (lv' := [(9, .int 0), (8, .int (nI b9)), (7, .int (nI w9)), (6, .int (nI s9)), (5, .int (nI q9)), (4, .int (nI k9)), (3, .int (nI p9)), (0, .ref (ad 0)), (1, .ref (sa 0)), (2, .int x)]) hx hb dL_act_445 hl (by decide) rfl (fun ls hl => ?_)
        refine lv_iload hx hb dL_act_447 (lv_at hl 0 rfl) ?_
        refine lv_if_eq (tgt := 507) hx hb dL_act_449 (by decide) (fun c_2 => ?_) (fun c_2 => False.elim (c_2 rfl))
        have RR0 := JF.rx (ad := ad) (bank := bank) (rnds := rnds) (cnt := cnt) (mcn := mcn) hJ hP (fun q hq => (List.mem_append.mp hq).elim (fun h => List.mem_append_left (EL ++ T) (show q ∈ ([(ad 0, .inr (3, [.ref (ad 1), .ref (ad 2), .ref (ad 3), .int bank, .int rnds])), (ad 1, .inr (1, [.ref (ad 4), .ref (ad 5), .int cnt, .int (nI N)])), (ad 4, .inl (cs 0, 1728, .inl (su))), (ad 5, .inl (cs 0, 1728, .inl (fa))), (ad 2, .inr (0, [.int mcn, .ref (ad 6), .int (nI n)])), (ad 3, .inl (cs 0, 6, .inl (pu)))] : va_W) ++ ([(sa 0, .inr (4, [.ref (sa 1), .ref (sa 2), .ref (sa 3), .int bank, .int rnds, .ref (sa 4)])), (sa 1, .inl (cs 0, dn, .inl (df))), (sa 2, .inl (cs 3, N, .inr (.inr (.inr (.inr (rs)))))), (sa 3, .inl (cs 0, 6, .inl (pv))), (sa 4, .inl (cs 3, n, .inr (.inr (.inr (.inr (rw))))))] : va_W) from List.mem_append_left _ h)) (fun h => List.mem_append_right (([(ad 0, .inr (3, [.ref (ad 1), .ref (ad 2), .ref (ad 3), .int bank, .int rnds])), (ad 1, .inr (1, [.ref (ad 4), .ref (ad 5), .int cnt, .int (nI N)])), (ad 4, .inl (cs 0, 1728, .inl (su))), (ad 5, .inl (cs 0, 1728, .inl (fa))), (ad 2, .inr (0, [.int mcn, .ref (ad 6), .int (nI n)])), (ad 3, .inl (cs 0, 6, .inl (pu)))] : va_W) ++ ([(sa 0, .inr (4, [.ref (sa 1), .ref (sa 2), .ref (sa 3), .int bank, .int rnds, .ref (sa 4)])), (sa 1, .inl (cs 0, dn, .inl (df))), (sa 2, .inl (cs 3, N, .inr (.inr (.inr (.inr (rs)))))), (sa 3, .inl (cs 0, 6, .inl (pv))), (sa 4, .inl (cs 3, n, .inr (.inr (.inr (.inr (rw))))))] : va_W)) h))
        refine lv_aload_n hx hb dL_act_507 rfl (lv_at hl 7 rfl) ?_
        refine lv_iload_n hx hb dL_act_508 rfl (lv_at hl 6 rfl) ?_
        refine lv_iload hx hb dL_act_509 (lv_at hl 5 rfl) ?_
        refine lv_iload hx hb dL_act_511 (lv_at hl 4 rfl) ?_
        refine lv_iload hx hb dL_act_513 (lv_at hl 3 rfl) ?_
        refine lv_iload hx hb dL_act_515 (lv_at hl 2 rfl) ?_
        refine lv_iload hx hb dL_act_517 (lv_at hl 1 rfl) ?_
        refine wh_catchV (As := [.int (nI p9), .int (nI k9), .int (nI q9), .int (nI s9), .int (nI w9), .int (nI b9)]) (rest := []) (b := ad 0) (E := xISE) ⟨hx, hb, hml, hown, hts⟩ hT hR hK 6 (t_lay6 l hl9 D cs z mi H RR0 p9 hp9 k9 q9 hk9 hq9 (nI s9) (show ¬ nI s9 < nI 1 from nI_nlt hs1 (by omega)) (show nI s9 ≤ nI 100 from nI_le hs2 (by omega)) (nI w9) (show ¬ nI w9 < nI 1 from nI_nlt hw1 (by omega)) (show nI w9 ≤ nI 20 from nI_le hw2 (by omega)) (nI b9) (show ¬ nI b9 < nI 1 from nI_nlt hb1 (by omega)) (show nI b9 ≤ nI 10 from nI_le hb2 (by omega)) ((nI_leI (a := 12) (by omega) (by omega)).mp c_1)) (gin_v mw_10_12 mw_10_13 mw_10_14 mw_1_2 mw_10_15) (by decide +kernel) ⟨Nat.le_of_ble_eq_true rfl, Nat.le_of_ble_eq_true rfl⟩ (va_recv hK hP (ci := 3) (q0 := 0) rfl rfl) rfl hl.1 rfl (Nat.le_of_ble_eq_true rfl) dL_act_519 ⟨(show _ ≤ 1740 by omega), (show _ ≤ 7000 by omega)⟩ hP hD hS hA (fun qx9 ce9 H locs hP hD hS hc1 hc2 hc3 => ?_)
        refine vx_catch (E := xISE) (name := xISE) hown [] ⟨507, 542, 543, 63⟩ [] (htab.trans rfl) (fun z9 hz9 => absurd hz9 List.not_mem_nil) rfl (by decide) (hts (Cond.classLink RL 63 "java/lang/IllegalStateException") mw_4_19) (cd_use hT.2.2.2.2.2.2.1 cd_ISE) hc1 hc2 hc3 ?_
        refine W.eq (g2 := F0 m 543 ls [.ref qx9]) rfl ?_
        refine lv_astore (lv' := [(10, .ref qx9), (9, .int 0), (8, .int (nI b9)), (7, .int (nI w9)), (6, .int (nI s9)), (5, .int (nI q9)), (4, .int (nI k9)), (3, .int (nI p9)), (0, .ref (ad 0)), (1, .ref (sa 0)), (2, .int x)]) hx hb dL_act_543 hl (by decide) rfl (fun ls hl => ?_)
        refine lv_iload hx hb dL_act_545 (lv_at hl 1 rfl) ?_
        refine lv_if_ne (tgt := 554) hx hb dL_act_547 (by decide) (fun c_3 => False.elim (c_3 rfl)) (fun c_3 => ?_)
        refine lv_iconst (v := 1) hx hb dL_act_550 (by first | decide | rfl) ?_
        refine lv_goto (tgt := 555) hx hb dL_act_551 (by decide) ?_
        exact kk 555 _ _ _ _ _ _ dL_act_555 (by omega) (by omega) (JI.mk (JF.mono hJ (by omega))) hP hD hS
      · refine lv_aload_n hx hb dL_act_429 rfl (lv_at hl 7 rfl) ?_
        refine va_get (D := D) (ci := 4) (v := .ref (sa 3)) (C := RX3) (T := TX3) (N := 6) hx hb hts inlX3 hown hK hP 6 rfl rfl 2 (by decide) (hts (Cond.fieldLink RL 43 "TavernDiceLaw$Sim" "purse" "[I") mw_5_0) (fun _ h9 => h9) rfl dL_act_430 ?_
        refine lv_iload_n hx hb dL_act_433 rfl (lv_at hl 5 rfl) ?_
        refine va_iald hx hb hK hP 9 0 rfl rfl (vp_in_nI hp9 (by omega)) dL_act_434 ?_
        refine lv_rwi (y := pv p9) (congrArg pv (nI_clamp (by omega))) ?_
        refine lv_iload hx hb dL_act_435 (lv_at hl 2 rfl) ?_
        refine lv_icmp_lt (tgt := 444) hx hb dL_act_437 (by decide) (fun c_4 => ?_) (fun c_4 => ?_)
        · refine lv_iconst (v := 0) hx hb dL_act_444 (by first | decide | rfl) ?_
          refine lv_istore (lv' := [(9, .int 0), (8, .int (nI b9)), (7, .int (nI w9)), (6, .int (nI s9)), (5, .int (nI q9)), (4, .int (nI k9)), (3, .int (nI p9)), (0, .ref (ad 0)), (1, .ref (sa 0)), (2, .int x)]) hx hb dL_act_445 hl (by decide) rfl (fun ls hl => ?_)
          refine lv_iload hx hb dL_act_447 (lv_at hl 0 rfl) ?_
          refine lv_if_eq (tgt := 507) hx hb dL_act_449 (by decide) (fun c_5 => ?_) (fun c_5 => False.elim (c_5 rfl))
          have RR0 := JF.rx (ad := ad) (bank := bank) (rnds := rnds) (cnt := cnt) (mcn := mcn) hJ hP (fun q hq => (List.mem_append.mp hq).elim (fun h => List.mem_append_left (EL ++ T) (show q ∈ ([(ad 0, .inr (3, [.ref (ad 1), .ref (ad 2), .ref (ad 3), .int bank, .int rnds])), (ad 1, .inr (1, [.ref (ad 4), .ref (ad 5), .int cnt, .int (nI N)])), (ad 4, .inl (cs 0, 1728, .inl (su))), (ad 5, .inl (cs 0, 1728, .inl (fa))), (ad 2, .inr (0, [.int mcn, .ref (ad 6), .int (nI n)])), (ad 3, .inl (cs 0, 6, .inl (pu)))] : va_W) ++ ([(sa 0, .inr (4, [.ref (sa 1), .ref (sa 2), .ref (sa 3), .int bank, .int rnds, .ref (sa 4)])), (sa 1, .inl (cs 0, dn, .inl (df))), (sa 2, .inl (cs 3, N, .inr (.inr (.inr (.inr (rs)))))), (sa 3, .inl (cs 0, 6, .inl (pv))), (sa 4, .inl (cs 3, n, .inr (.inr (.inr (.inr (rw))))))] : va_W) from List.mem_append_left _ h)) (fun h => List.mem_append_right (([(ad 0, .inr (3, [.ref (ad 1), .ref (ad 2), .ref (ad 3), .int bank, .int rnds])), (ad 1, .inr (1, [.ref (ad 4), .ref (ad 5), .int cnt, .int (nI N)])), (ad 4, .inl (cs 0, 1728, .inl (su))), (ad 5, .inl (cs 0, 1728, .inl (fa))), (ad 2, .inr (0, [.int mcn, .ref (ad 6), .int (nI n)])), (ad 3, .inl (cs 0, 6, .inl (pu)))] : va_W) ++ ([(sa 0, .inr (4, [.ref (sa 1), .ref (sa 2), .ref (sa 3), .int bank, .int rnds, .ref (sa 4)])), (sa 1, .inl (cs 0, dn, .inl (df))), (sa 2, .inl (cs 3, N, .inr (.inr (.inr (.inr (rs)))))), (sa 3, .inl (cs 0, 6, .inl (pv))), (sa 4, .inl (cs 3, n, .inr (.inr (.inr (.inr (rw))))))] : va_W)) h))
          refine lv_aload_n hx hb dL_act_507 rfl (lv_at hl 7 rfl) ?_
          refine lv_iload_n hx hb dL_act_508 rfl (lv_at hl 6 rfl) ?_
          refine lv_iload hx hb dL_act_509 (lv_at hl 5 rfl) ?_
          refine lv_iload hx hb dL_act_511 (lv_at hl 4 rfl) ?_
          refine lv_iload hx hb dL_act_513 (lv_at hl 3 rfl) ?_
          refine lv_iload hx hb dL_act_515 (lv_at hl 2 rfl) ?_
          refine lv_iload hx hb dL_act_517 (lv_at hl 1 rfl) ?_
          refine wh_catchV (As := [.int (nI p9), .int (nI k9), .int (nI q9), .int (nI s9), .int (nI w9), .int (nI b9)]) (rest := []) (b := ad 0) (E := xISE) ⟨hx, hb, hml, hown, hts⟩ hT hR hK 6 (t_lay7 l hl9 D cs z mi H RR0 p9 hp9 k9 q9 hk9 hq9 (nI s9) (show ¬ nI s9 < nI 1 from nI_nlt hs1 (by omega)) (show nI s9 ≤ nI 100 from nI_le hs2 (by omega)) (nI w9) (show ¬ nI w9 < nI 1 from nI_nlt hw1 (by omega)) (show nI w9 ≤ nI 20 from nI_le hw2 (by omega)) (nI b9) (show ¬ nI b9 < nI 1 from nI_nlt hb1 (by omega)) (show nI b9 ≤ nI 10 from nI_le hb2 (by omega)) (by { rcases Nat.lt_or_ge n 12 with q | q; { exact q }; { exact absurd (nI_le q (by omega)) c_1 } }) (by rw [← hpv9 p9 hp9]; exact Int32.not_le.mpr c_4)) (gin_v mw_10_12 mw_10_13 mw_10_14 mw_1_2 mw_10_15) (by decide +kernel) ⟨Nat.le_of_ble_eq_true rfl, Nat.le_of_ble_eq_true rfl⟩ (va_recv hK hP (ci := 3) (q0 := 0) rfl rfl) rfl hl.1 rfl (Nat.le_of_ble_eq_true rfl) dL_act_519 ⟨(show _ ≤ 1740 by omega), (show _ ≤ 7000 by omega)⟩ hP hD hS hA (fun qx9 ce9 H locs hP hD hS hc1 hc2 hc3 => ?_)
          refine vx_catch (E := xISE) (name := xISE) hown [] ⟨507, 542, 543, 63⟩ [] (htab.trans rfl) (fun z9 hz9 => absurd hz9 List.not_mem_nil) rfl (by decide) (hts (Cond.classLink RL 63 "java/lang/IllegalStateException") mw_4_19) (cd_use hT.2.2.2.2.2.2.1 cd_ISE) hc1 hc2 hc3 ?_
          refine W.eq (g2 := F0 m 543 ls [.ref qx9]) rfl ?_
          refine lv_astore (lv' := [(10, .ref qx9), (9, .int 0), (8, .int (nI b9)), (7, .int (nI w9)), (6, .int (nI s9)), (5, .int (nI q9)), (4, .int (nI k9)), (3, .int (nI p9)), (0, .ref (ad 0)), (1, .ref (sa 0)), (2, .int x)]) hx hb dL_act_543 hl (by decide) rfl (fun ls hl => ?_)
          refine lv_iload hx hb dL_act_545 (lv_at hl 1 rfl) ?_
          refine lv_if_ne (tgt := 554) hx hb dL_act_547 (by decide) (fun c_6 => False.elim (c_6 rfl)) (fun c_6 => ?_)
          refine lv_iconst (v := 1) hx hb dL_act_550 (by first | decide | rfl) ?_
          refine lv_goto (tgt := 555) hx hb dL_act_551 (by decide) ?_
          exact kk 555 _ _ _ _ _ _ dL_act_555 (by omega) (by omega) (JI.mk (JF.mono hJ (by omega))) hP hD hS
        · refine lv_iconst (v := 1) hx hb dL_act_440 (by first | decide | rfl) ?_
          refine lv_goto (tgt := 445) hx hb dL_act_441 (by decide) ?_
          refine lv_istore (lv' := [(9, .int 1), (8, .int (nI b9)), (7, .int (nI w9)), (6, .int (nI s9)), (5, .int (nI q9)), (4, .int (nI k9)), (3, .int (nI p9)), (0, .ref (ad 0)), (1, .ref (sa 0)), (2, .int x)]) hx hb dL_act_445 hl (by decide) rfl (fun ls hl => ?_)
          refine lv_iload hx hb dL_act_447 (lv_at hl 0 rfl) ?_
          refine lv_if_eq (tgt := 507) hx hb dL_act_449 (by decide) (fun c_7 => False.elim (absurd c_7 (by decide))) (fun c_7 => ?_)
          have hn12a : n < 12 := by
            rcases Nat.lt_or_ge n 12 with q | q
            · exact q
            · exact absurd (nI_le q (by omega)) c_1
          have hpu : nI s9 ≤ pu p9 := by rw [← hpv9 p9 hp9]; exact Int32.not_lt.mp c_4
          have hl : lv_has ls 11 [(0, .ref (ad 0)), (1, .ref (sa 0)), (2, .int x), (3, .int (nI p9)), (4, .int (nI k9)), (5, .int (nI q9)), (6, .int (nI s9)), (7, .int (nI w9)), (8, .int (nI b9)), (9, .int 1)] := lv_sub hl [7, 8, 9, 6, 5, 4, 3, 2, 1, 0] rfl
          rcases hLT with ⟨rfl, rfl, e6, rfl⟩ | ⟨hc9, hnc, rfl, hLT⟩
          · subst e6
            exact a_layA (n := 0) (cap := 0) (EL := []) hl9 hx hb hml hown hts hK hA hT hR htab hk hJ hn12a hp9 hk9 hq9 hs1 hs2 hw1 hw2 hb1 hb2 hpu hl hP hD hS kk
          · have hP : va_P D vwCl ([(ad 0, .inr (3, [.ref (ad 1), .ref (ad 2), .ref (ad 3), .int bank, .int rnds])), (ad 1, .inr (1, [.ref (ad 4), .ref (ad 5), .int cnt, .int (nI N)])), (ad 4, .inl (cs 0, 1728, .inl (su))), (ad 5, .inl (cs 0, 1728, .inl (fa))), (ad 2, .inr (0, [.int mcn, .ref (ad 6), .int (nI n)])), (ad 3, .inl (cs 0, 6, .inl (pu))), (sa 0, .inr (4, [.ref (sa 1), .ref (sa 2), .ref (sa 3), .int bank, .int rnds, .ref (sa 4)])), (sa 1, .inl (cs 0, dn, .inl (df))), (sa 2, .inl (cs 3, N, .inr (.inr (.inr (.inr (rs)))))), (sa 3, .inl (cs 0, 6, .inl (pv))), (sa 4, .inl (cs 3, n, .inr (.inr (.inr (.inr (rw)))))), (ad 6, .inl (cs 2, cap, .inr (.inr (.inr (.inr (rf))))))] ++ T) H := hP
            have hD : va_D _ ([(ad 0, .inr (3, [.ref (ad 1), .ref (ad 2), .ref (ad 3), .int bank, .int rnds])), (ad 1, .inr (1, [.ref (ad 4), .ref (ad 5), .int cnt, .int (nI N)])), (ad 4, .inl (cs 0, 1728, .inl (su))), (ad 5, .inl (cs 0, 1728, .inl (fa))), (ad 2, .inr (0, [.int mcn, .ref (ad 6), .int (nI n)])), (ad 3, .inl (cs 0, 6, .inl (pu))), (sa 0, .inr (4, [.ref (sa 1), .ref (sa 2), .ref (sa 3), .int bank, .int rnds, .ref (sa 4)])), (sa 1, .inl (cs 0, dn, .inl (df))), (sa 2, .inl (cs 3, N, .inr (.inr (.inr (.inr (rs)))))), (sa 3, .inl (cs 0, 6, .inl (pv))), (sa 4, .inl (cs 3, n, .inr (.inr (.inr (.inr (rw)))))), (ad 6, .inl (cs 2, cap, .inr (.inr (.inr (.inr (rf))))))] ++ T) := hD
            have hP : va_P D vwCl ([(ad 0, .inr (3, [.ref (ad 1), .ref (ad 2), .ref (ad 3), .int bank, .int rnds])), (ad 1, .inr (1, [.ref (ad 4), .ref (ad 5), .int cnt, .int (nI N)])), (ad 4, .inl (cs 0, 1728, .inl (su))), (ad 5, .inl (cs 0, 1728, .inl (fa))), (ad 2, .inr (0, [.int mcn, .ref (ad 6), .int (nI n)])), (ad 3, .inl (cs 0, 6, .inl (pu))), (ad 6, .inl (cs 2, cap, .inr (.inr (.inr (.inr (rf)))))), (sa 0, .inr (4, [.ref (sa 1), .ref (sa 2), .ref (sa 3), .int bank, .int rnds, .ref (sa 4)])), (sa 1, .inl (cs 0, dn, .inl (df))), (sa 2, .inl (cs 3, N, .inr (.inr (.inr (.inr (rs)))))), (sa 3, .inl (cs 0, 6, .inl (pv))), (sa 4, .inl (cs 3, n, .inr (.inr (.inr (.inr (rw))))))] ++ T) H := va_P.part (X := [(ad 0, .inr (3, [.ref (ad 1), .ref (ad 2), .ref (ad 3), .int bank, .int rnds])), (ad 1, .inr (1, [.ref (ad 4), .ref (ad 5), .int cnt, .int (nI N)])), (ad 4, .inl (cs 0, 1728, .inl (su))), (ad 5, .inl (cs 0, 1728, .inl (fa))), (ad 2, .inr (0, [.int mcn, .ref (ad 6), .int (nI n)])), (ad 3, .inl (cs 0, 6, .inl (pu))), (sa 0, .inr (4, [.ref (sa 1), .ref (sa 2), .ref (sa 3), .int bank, .int rnds, .ref (sa 4)])), (sa 1, .inl (cs 0, dn, .inl (df))), (sa 2, .inl (cs 3, N, .inr (.inr (.inr (.inr (rs)))))), (sa 3, .inl (cs 0, 6, .inl (pv))), (sa 4, .inl (cs 3, n, .inr (.inr (.inr (.inr (rw)))))), (ad 6, .inl (cs 2, cap, .inr (.inr (.inr (.inr (rf))))))]) (pl := T) hP [0, 1, 2, 3, 4, 5, 11, 6, 7, 8, 9, 10] rfl
            have hD : va_D _ ([(ad 0, .inr (3, [.ref (ad 1), .ref (ad 2), .ref (ad 3), .int bank, .int rnds])), (ad 1, .inr (1, [.ref (ad 4), .ref (ad 5), .int cnt, .int (nI N)])), (ad 4, .inl (cs 0, 1728, .inl (su))), (ad 5, .inl (cs 0, 1728, .inl (fa))), (ad 2, .inr (0, [.int mcn, .ref (ad 6), .int (nI n)])), (ad 3, .inl (cs 0, 6, .inl (pu))), (ad 6, .inl (cs 2, cap, .inr (.inr (.inr (.inr (rf)))))), (sa 0, .inr (4, [.ref (sa 1), .ref (sa 2), .ref (sa 3), .int bank, .int rnds, .ref (sa 4)])), (sa 1, .inl (cs 0, dn, .inl (df))), (sa 2, .inl (cs 3, N, .inr (.inr (.inr (.inr (rs)))))), (sa 3, .inl (cs 0, 6, .inl (pv))), (sa 4, .inl (cs 3, n, .inr (.inr (.inr (.inr (rw))))))] ++ T) := va_D.part (X := [(ad 0, .inr (3, [.ref (ad 1), .ref (ad 2), .ref (ad 3), .int bank, .int rnds])), (ad 1, .inr (1, [.ref (ad 4), .ref (ad 5), .int cnt, .int (nI N)])), (ad 4, .inl (cs 0, 1728, .inl (su))), (ad 5, .inl (cs 0, 1728, .inl (fa))), (ad 2, .inr (0, [.int mcn, .ref (ad 6), .int (nI n)])), (ad 3, .inl (cs 0, 6, .inl (pu))), (sa 0, .inr (4, [.ref (sa 1), .ref (sa 2), .ref (sa 3), .int bank, .int rnds, .ref (sa 4)])), (sa 1, .inl (cs 0, dn, .inl (df))), (sa 2, .inl (cs 3, N, .inr (.inr (.inr (.inr (rs)))))), (sa 3, .inl (cs 0, 6, .inl (pv))), (sa 4, .inl (cs 3, n, .inr (.inr (.inr (.inr (rw)))))), (ad 6, .inl (cs 2, cap, .inr (.inr (.inr (.inr (rf))))))]) (pl := T) hD [0, 1, 2, 3, 4, 5, 11, 6, 7, 8, 9, 10] (by decide) rfl
            rcases Nat.lt_or_ge n cap with q | q
            · exact a_lay1 (EL := []) hl9 hx hb hml hown hts hK hA hT hR htab hk hJ hc9 q hLT hn12a hp9 hk9 hq9 hs1 hs2 hw1 hw2 hb1 hb2 hpu hl hP hD hS kk
            · have ec : cap = 10 := by omega
              subst ec
              have en : n = 10 := by omega
              subst en
              exact a_layB (n := 0) (cap := 0) (EL := []) hl9 hx hb hml hown hts hK hA hT hR htab hk hJ hLT hn12a hp9 hk9 hq9 hs1 hs2 hw1 hw2 hb1 hb2 hpu hl hP hD hS kk
    refine lv_if_ne (tgt := 385) hx hb dL_act_377 (by decide) (fun c_8 => ?_) (fun c_8 => ?_)
    · refine lv_bipush (v := nI (m20 x)) hx hb dL_act_385 (by rw [show m20 x = 20 from if_neg (fun z9 => c_8 (congrArg nI z9))] <;> rfl) ?_
      exact join387 H _ ls hP hD hS (lv_sub hl [0, 1, 2, 3, 4, 5] rfl)
    · refine lv_bipush (v := nI (m20 x)) hx hb dL_act_380 (by rw [show m20 x = 100 from if_pos ((nI_eq (b := 0) (by have g := blw_lt (x >>> (nI 9 &&& 31)) (n := 3) (by omega); omega) (by omega)).mp c_8)] <;> rfl) ?_
      refine lv_goto (tgt := 387) hx hb dL_act_382 (by decide) ?_
      exact join387 H _ ls hP hD hS (lv_sub hl [0, 1, 2, 3, 4, 5] rfl)
  refine lv_if_ne (tgt := 357) hx hb dL_act_349 (by decide) (fun c_9 => ?_) (fun c_9 => ?_)
  · refine lv_bipush (v := nI (m12 x)) hx hb dL_act_357 (by rw [show m12 x = 12 from if_neg (fun z9 => c_9 (congrArg nI z9))] <;> rfl) ?_
    exact join359 H _ ls hP hD hS (lv_sub hl [0, 1, 2, 3, 4] rfl)
  · refine lv_bipush (v := nI (m12 x)) hx hb dL_act_352 (by rw [show m12 x = 37 from if_pos ((nI_eq (b := 0) (by have g := blw_lt (x >>> (nI 8 &&& 31)) (n := 3) (by omega); omega) (by omega)).mp c_9)] <;> rfl) ?_
    refine lv_goto (tgt := 359) hx hb dL_act_354 (by decide) ?_
    exact join359 H _ ls hP hD hS (lv_sub hl [0, 1, 2, 3, 4] rfl)
set_option maxHeartbeats 4000000 in
set_option maxRecDepth 100000 in
theorem act_c (l : Launch) (hl9 : l.stackTraces = false) (D : va_G) (cs : Nat → ClassId) (z mi : Nat) (H : Heap) {w : va_W} {k a0 s0 : Nat} (x : Int32) (hk : k ≤ 100) (hI : JI cs z a0 s0 k w) (post : Option Value → va_W → Prop) (hpost : ∀ w1, JI cs z a0 s0 (k + 1) w1 → post (some (.int 1)) w1) (hP : va_P D vwCl w H) (hD : va_D (fun _ => True) w) : Wh z mi l D cs 10 1740 7000 yL_act cL_act 11 (some .boolean) [(507, 542, 543, 63)] w H [.ref a0, .ref s0, .int x] post := by
  obtain ⟨ad, sa, bank, rnds, cnt, mcn, f1, f2, f3, dn, N, n, cap, fn, su, fa, pu, df, pv, rf, wa, wf, rs, rw, sr, wr, sf, wg, EL, T, rfl, rfl, hJ, rfl⟩ := hI
  refine wh_ent (by decide) (Nat.le_of_ble_eq_true rfl) hP hD ?_
  clear hP hD H
  intro p e s m below meth c ls A Q H hx hb hr hml hown hts hlocks hl hK hQ hA hH hT hR htab hP hD hS
  clear hH
  have hl : lv_has ls 11 [(0, .ref (ad 0)), (1, .ref (sa 0)), (2, .int x)] := hl
  have kk : ∀ (pc : Nat) (w1 : va_W) (H1 : Heap) (locs1 : List Loc) (ls1 : Array Slot) (ce sl : Nat), decode cL_act pc = .ok (.ireturn, 1) → ce ≤ 1740 → sl ≤ 7000 → JI cs z (ad 0) (sa 0) (k + 1) w1 → va_P D vwCl w1 H1 → va_D A w1 → va_S A s.heap H1 locs1 → W p l e (rmL 10 1740 7000) s m [.ref (ad 0), .ref (sa 0), .int x].toArray below meth c H1 locs1 ce sl Q (F0 m pc ls1 [.int 1]) := by
    intro pc w1 H1 locs1 ls1 ce sl hdg h1 h2 h3 hP1 hD1 hS1
    refine W.widen (k := 1740) (n := 7000) h1 h2 ?_
    exact wr_zret hQ hx hb hr hlocks hP1 hD1 hS1 (hpost _ h3) (by decide) hdg
  clear hpost hQ hr hlocks
  refine lv_iload_n hx hb dL_act_0 rfl (lv_at hl 2 rfl) ?_
  refine lv_bipush (v := nI 9) hx hb dL_act_1 (by first | decide | rfl) ?_
  refine rdS (As := [.int x, .int (nI 9)]) (rest := []) ⟨hx, hb, hml, hown, hts⟩ hK 2 (s_below l D cs H x 9 (by omega) (by omega)) (gin_s mw_4_12 mw_4_13 mw_3_13 mw_4_14) (by decide +kernel) ⟨Nat.le_of_ble_eq_true rfl, Nat.le_of_ble_eq_true rfl⟩ rfl hl.1 rfl (Nat.le_of_ble_eq_true rfl) dL_act_3 ⟨Nat.le_of_ble_eq_true rfl, Nat.le_of_ble_eq_true rfl⟩ ?_
  refine W.eq (g2 := F0 m 6 ls [.int (nI (blw x 9))]) rfl ?_
  obtain ⟨t, et, ht⟩ : ∃ t, blw x 9 = t ∧ t < 9 := ⟨_, rfl, blw_lt _ (by omega)⟩
  refine lv_rwi (y := nI t) (congrArg nI et) ?_
  rcases (show t = 0 ∨ t = 1 ∨ t = 2 ∨ 2 < t by omega) with rfl | rfl | rfl | h
  · refine lv_tableIn (off := 26) (tgt := 32) hx hb dL_act_6 (by rw [nI_toInt (by omega)]; omega) (by rw [nI_toInt (by omega)]; omega) (by rw [nI_toInt (by omega)]; rfl) (by decide) ?_
    rcases Nat.eq_zero_or_pos n with q | q
    · subst q
      exact a_dice (n := 0) hl9 hx hb hml hown hts hK hA hT hR htab hk hJ hl hP hD hS kk
    · exact a_dice_n hl9 hx hb hml hown hts hK hA hT hR htab hk hJ q hl hP hD hS kk
  · refine lv_tableIn (off := 156) (tgt := 162) hx hb dL_act_6 (by rw [nI_toInt (by omega)]; omega) (by rw [nI_toInt (by omega)]; omega) (by rw [nI_toInt (by omega)]; rfl) (by decide) ?_
    rcases Nat.eq_zero_or_pos n with q | q
    · subst q
      exact a_take_0 (n := 0) hl9 hx hb hml hown hts hK hA hT hR htab hk hJ hl hP hD hS kk
    · obtain ⟨n1, rfl⟩ : ∃ n1, n = n1 + 1 := ⟨n - 1, by omega⟩
      have hLT := hJ.2.2.2.2.2.1
      rcases hLT with ⟨-, e9, -⟩ | ⟨hc9, hnc, rfl, hLT⟩
      · omega
      · exact a_take (n := 0) (EL := []) (rnds := rnds) (mcn := mcn) (df := df) hl9 hx hb hml hown hts hK hA hT hR htab hk hJ hc9 hnc hLT hl (vaP_perm (List.Perm.append_left (wX cs ad bank rnds cnt mcn N (n1 + 1) su fa pu) (pm1 (wS cs sa bank rnds dn N (n1 + 1) df pv rs rw) [wE cs ad cap rf] T)) hP) (vaD_perm (List.Perm.append_left (wX cs ad bank rnds cnt mcn N (n1 + 1) su fa pu) (pm1 (wS cs sa bank rnds dn N (n1 + 1) df pv rs rw) [wE cs ad cap rf] T)) hD) hS kk
  · refine lv_tableIn (off := 273) (tgt := 279) hx hb dL_act_6 (by rw [nI_toInt (by omega)]; omega) (by rw [nI_toInt (by omega)]; omega) (by rw [nI_toInt (by omega)]; rfl) (by decide) ?_
    have hLT := hJ.2.2.2.2.2.1
    rcases hLT with ⟨rfl, rfl, e6, rfl⟩ | ⟨hc9, hnc, rfl, hLT⟩
    · exact a_throw0 (n := 0) (cap := 0) (EL := []) hl9 hx hb hml hown hts hK hA hT hR htab hk hJ e6 hl hP hD hS kk
    · exact a_throw (EL := []) (rnds := rnds) (mcn := mcn) (df := df) hl9 hx hb hml hown hts hK hA hT hR htab hk hJ hc9 hnc hLT hl (vaP_perm (List.Perm.append_left (wX cs ad bank rnds cnt mcn N n su fa pu) (pm1 (wS cs sa bank rnds dn N n df pv rs rw) [wE cs ad cap rf] T)) hP) (vaD_perm (List.Perm.append_left (wX cs ad bank rnds cnt mcn N n su fa pu) (pm1 (wS cs sa bank rnds dn N n df pv rs rw) [wE cs ad cap rf] T)) hD) hS kk
  · refine lv_tableOut (tgt := 319) hx hb dL_act_6 (Or.inr (by rw [nI_toInt (by omega)]; omega)) (by decide) ?_
    exact a_lay hl9 hx hb hml hown hts hK hA hT hR htab hk hJ hl hP hD hS kk
