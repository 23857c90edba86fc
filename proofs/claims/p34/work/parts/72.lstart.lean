/-! the law from its entry -/
theorem sr_one {own tx : String} {k : Nat} {args : Array Value} {s : State} (h1 : (Cond.stringRef own k tx).before args s = true) (h2 : (Cond.exactly (.string own k) "java/lang/String").before args s = true) : ∃ a : Nat, vk_R own k tx a s := by
  obtain ⟨a, c, cA, kA, q1, -⟩ := Cond.exactly_spec (args := args) (first := s) (o := none) (s := s) (idx := []) (t := .string own k) (cls := "java/lang/String") h2
  exact ⟨a, vk_R.of h1 q1⟩
theorem ty_one {t : FieldType} {args : Array Value} {s : State} (h : (Cond.arrayClass t).before args s = true) : ∃ cA : ClassId, ArrOfT s cA t ∧ s.vm.findClass ("[" ++ t.toString) = some cA := by
  obtain ⟨cA, kA, comp, h1, h2, h3⟩ := Cond.arrayClass_spec h
  exact ⟨cA, fun n z => ⟨(fun k h => by cases h), kA, h2, comp, h3⟩, h1⟩
theorem ty_obj {C : String} {args : Array Value} {s : State} (h : (Cond.arrayOver (.object C)).before args s = true) : ∃ cA : ClassId, ArrOfT s cA (.object C) ∧ va_RA s cA (.object C) := by
  obtain ⟨comp, cA, kA, h1, h2, h3, h4, h5⟩ := Cond.arrayOver_spec h
  exact ⟨cA, fun n z => ⟨(fun k h => by cases h), kA, h3, comp, h4⟩, kA, comp, h3, h4, h1, h5⟩
theorem ty_arr {t : FieldType} {args : Array Value} {s : State} (h : (Cond.arrayOver (.array t)).before args s = true) : ∃ cA : ClassId, ArrOfT s cA (.array t) ∧ va_RA s cA (.array t) := by
  obtain ⟨comp, cA, kA, h1, h2, h3, h4, h5⟩ := arrayOverA_spec h
  exact ⟨cA, fun n z => ⟨(fun k h => by cases h), kA, h3, comp, h4⟩, h5⟩
theorem st_of {args : Array Value} {s : State} (htb : ∀ w ∈ lw_tbl, w.before args s = true) (hs : ∀ w ∈ flatC (Jvm.Cond.and given_1 narrow_1), w.before args s = true) : ∃ z mi : Nat, ST z mi (FrH s.heap) s s.heap := by
  have hA : ∀ a : Nat, a < s.heap.size → ¬ FrH s.heap a := fun a h => Nat.not_le.mpr h
  obtain ⟨z, hz, hTz⟩ := va_Tof (args := args) (s := s) (tm := .static sAL sDE sOA) (ty := .object "java/lang/Object") (N := 0) (f := fun _ => .null) (A := FrH s.heap) (by omega) (hs _ (by decide +kernel)) (va_eqt (hs (Cond.eq (.length (.static sAL sDE sOA)) (.int 0)) (by decide +kernel))) (fun j hj => absurd hj (Nat.not_lt_zero j)) hA
  obtain ⟨mi, hmi⟩ := va_Mi.of (C := sOA) (hs (Cond.isRef (.mirror sOA)) (by decide +kernel))
  refine ⟨z, mi, va_Zof (htb _ (tb_1 _ (List.mem_of_getElem? (i := 78) rfl))) (htb _ (tb_1 _ (List.mem_of_getElem? (i := 6) rfl))) hz hA, hTz, hmi, ⟨va_AO.of (htb _ (tb_2 _ (List.mem_of_getElem? (i := 96) rfl))), (htb _ (tb_3 _ (List.mem_of_getElem? (i := 83) rfl)))⟩, vx_Zqof (htb _ (tb_1 _ (List.mem_of_getElem? (i := 145) rfl))) (htb _ (tb_1 _ (List.mem_of_getElem? (i := 8) rfl))) (hs (Cond.isRef (.static Bundle.tN "UNASSIGNED_STACK" Bundle.steD)) (by decide +kernel)) hA, vx_Zqof (htb _ (tb_1 _ (List.mem_of_getElem? (i := 147) rfl))) (htb _ (tb_1 _ (List.mem_of_getElem? (i := 8) rfl))) (hs (Cond.isRef (.static Bundle.tN "SUPPRESSED_SENTINEL" Bundle.listD)) (by decide +kernel)) hA, fun w hw => va_Nw.of (cdW_tab (List.all_eq_true.mp cdL_ok w hw)) (htb w (cdL_in w hw)), ?_⟩
  exact fun q hq => va_Nc.of (hs _ (cnL_in q hq))
theorem sr_of {args : Array Value} {s : State} (htb : ∀ w ∈ lw_tbl, w.before args s = true) (hs : ∀ w ∈ flatC (Jvm.Cond.and given_1 narrow_1), w.before args s = true) : SR s := by
  exact List.forall_mem_cons.mpr ⟨sr_one (own := RX2) (k := 40) (tx := "no such dice") (htb _ (tb_3 _ (List.mem_of_getElem? (i := 136) rfl))) (hs (Cond.exactly (.string RX2 40) "java/lang/String") (by decide +kernel)), List.forall_mem_cons.mpr ⟨sr_one (own := RX2) (k := 51) (tx := "wagers are open") (htb _ (tb_3 _ (List.mem_of_getElem? (i := 141) rfl))) (hs (Cond.exactly (.string RX2 51) "java/lang/String") (by decide +kernel)), List.forall_mem_cons.mpr ⟨sr_one (own := RX2) (k := 82) (tx := "no such stake") (htb _ (tb_1 _ (List.mem_of_getElem? (i := 227) rfl))) (hs (Cond.exactly (.string RX2 82) "java/lang/String") (by decide +kernel)), List.forall_mem_cons.mpr ⟨sr_one (own := RX2) (k := 94) (tx := "too many wagers are open") (htb _ (tb_2 _ (List.mem_of_getElem? (i := 9) rfl))) (hs (Cond.exactly (.string RX2 94) "java/lang/String") (by decide +kernel)), List.forall_mem_cons.mpr ⟨sr_one (own := RX2) (k := 96) (tx := "the purse has less than the stake") (htb _ (tb_2 _ (List.mem_of_getElem? (i := 16) rfl))) (hs (Cond.exactly (.string RX2 96) "java/lang/String") (by decide +kernel)), List.forall_mem_cons.mpr ⟨sr_one (own := RX2) (k := 256) (tx := "no such outcome") (htb _ (tb_2 _ (List.mem_of_getElem? (i := 136) rfl))) (hs (Cond.exactly (.string RX2 256) "java/lang/String") (by decide +kernel)), List.forall_mem_cons.mpr ⟨sr_one (own := RX2) (k := 259) (tx := "no such wager") (htb _ (tb_2 _ (List.mem_of_getElem? (i := 112) rfl))) (hs (Cond.exactly (.string RX2 259) "java/lang/String") (by decide +kernel)), List.forall_mem_cons.mpr ⟨sr_one (own := RX2) (k := 261) (tx := "no such patron") (htb _ (tb_1 _ (List.mem_of_getElem? (i := 220) rfl))) (hs (Cond.exactly (.string RX2 261) "java/lang/String") (by decide +kernel)), List.forall_mem_cons.mpr ⟨sr_one (own := RX2) (k := 263) (tx := "no such event") (htb _ (tb_1 _ (List.mem_of_getElem? (i := 159) rfl))) (hs (Cond.exactly (.string RX2 263) "java/lang/String") (by decide +kernel)), List.forall_mem_cons.mpr ⟨sr_one (own := RX2) (k := 265) (tx := "no such win") (htb _ (tb_1 _ (List.mem_of_getElem? (i := 231) rfl))) (hs (Cond.exactly (.string RX2 265) "java/lang/String") (by decide +kernel)), List.forall_mem_cons.mpr ⟨sr_one (own := RX2) (k := 267) (tx := "no such base") (htb _ (tb_1 _ (List.mem_of_getElem? (i := 235) rfl))) (hs (Cond.exactly (.string RX2 267) "java/lang/String") (by decide +kernel)), fun _ h => absurd h List.not_mem_nil⟩⟩⟩⟩⟩⟩⟩⟩⟩⟩⟩
theorem nw_of {args : Array Value} {s : State} (htb : ∀ w ∈ lw_tbl, w.before args s = true) : NW s := va_Nw.of rfl (htb (Cond.methodLinkNest RL 65 yX3_init RL) (tb_3 _ (List.mem_of_getElem? (i := 153) rfl)))
theorem k_of {args : Array Value} {s : State} (htb : ∀ w ∈ lw_tbl, w.before args s = true) (hts : ∀ w ∈ wsL_law, w.before args s = true) : ∃ (D : va_G) (cs : Nat → ClassId), va_K D vwCl (Ty cs) s := by
  obtain ⟨c0, i0, hK0⟩ := u_known (C := RJx4a65c) (T := TJx4a65c) (N := 3) (n := 3) hts inlJx4a65c (hts (Cond.instantiable RJx4a65c 3) mw_1_16)
  obtain ⟨c1, i1, hK1⟩ := u_known (C := RX0) (T := TX0) (N := 4) (n := 4) hts inlX0 (hts (Cond.instantiable RX0 4) mw_1_12)
  obtain ⟨c2, i2, hK2⟩ := u_known (C := RX1) (T := TX1) (N := 6) (n := 6) hts inlX1 (hts (Cond.instantiable RX1 6) mw_10_17)
  obtain ⟨c3, i3, hK3⟩ := u_known (C := RX2) (T := TX2) (N := 5) (n := 5) hts inlX2 (hts (Cond.instantiable RX2 5) mw_1_1)
  obtain ⟨c4, i4, hK4⟩ := u_known (C := RX3) (T := TX3) (N := 6) (n := 6) hts inlX3 (hts (Cond.instantiable RX3 6) mw_3_16)
  obtain ⟨t0, a0, b0⟩ := ty_one (t := .int) (hts _ mw_1_4)
  obtain ⟨t1, a1, b1⟩ := ty_one (t := .boolean) (hts _ mw_1_3)
  obtain ⟨t2, a2, b2⟩ := ty_obj (C := "java/lang/Object") (htb _ (tb_2 _ (List.mem_of_getElem? (i := 96) rfl)))
  obtain ⟨t3, a3, b3⟩ := ty_arr (t := .int) (htb _ (tb_3 _ (List.mem_of_getElem? (i := 83) rfl)))
  refine ⟨(fun k => match k with | 0 => c0 | 1 => c1 | 2 => c2 | 3 => c3 | _ => c4, fun k => match k with | 0 => i0 | 1 => i1 | 2 => i2 | 3 => i3 | _ => i4), fun k => match k with | 0 => t0 | 1 => t1 | 2 => t2 | _ => t3, ?_, ?_⟩
  · intro k q hq
    match k, hq with
    | 0, hq => cases hq; exact hK0
    | 1, hq => cases hq; exact hK1
    | 2, hq => cases hq; exact hK2
    | 3, hq => cases hq; exact hK3
    | 4, hq => cases hq; exact hK4
    | k + 5, hq => exact absurd hq (by simp)
  · intro k q hq
    match k, hq with
    | 0, hq => cases hq; exact ⟨a0, b0⟩
    | 1, hq => cases hq; exact ⟨a1, b1⟩
    | 2, hq => cases hq; exact ⟨a2, b2⟩
    | 3, hq => cases hq; exact ⟨a3, b3⟩
    | k + 4, hq => exact absurd hq (by simp)
set_option maxHeartbeats 4000000 in
set_option maxRecDepth 100000 in
theorem whole_start {p : Program} {e : Env} {s : State} {m : MethodId} {below : List Frame} {meth : Method} {c : Code} (l : Launch) (hflags : l.flags = flags0) {b L : Nat} {xs : Nat → Int32} (hL : L ≤ 260) (C0 : lw_At p s m meth c b L xs) : W p l e room_1 s m #[Value.ref b] below meth c s.heap [] 0 0 (lw_Z below #[Value.ref b] s) (entryFrame m ([Value.ref b] : List Value).toArray 27) := by
  obtain ⟨hx, hb, hr, hml, hown, htb, hX, hbl, hlocks, hgv⟩ := id C0
  have hl9 : l.stackTraces = false := by
    unfold Launch.stackTraces
    rw [hflags]
    decide +kernel
  have hb : c.code = cL_law := hb
  have hown : s.vm.findClass RL = some m.cls := hown
  have hts : ∀ w ∈ wsL_law, w.before #[Value.ref b] s = true := fun w h => htb w (wsL_law_in w h)
  have hs := flat_of_before _ hgv
  obtain ⟨z, mi, hT⟩ := st_of htb hs
  have hR : SR s := sr_of htb hs
  have hNW : NW s := nw_of htb
  obtain ⟨D, cs, hK⟩ := k_of htb hts
  clear hs hgv
  have hA : ∀ q : Nat, s.heap.size ≤ q → FrH s.heap q := fun _ h => h
  have hbA : ¬ FrH s.heap b := Nat.not_le.mpr hbl
  have CC : LC p l s m c b L xs D cs z mi (FrH s.heap) := ⟨hx, hb, hml, hown, hts, hK, hT, hR, hA, hX, hbl, hbA, hL, hl9, hNW⟩
  have hP : va_P D vwCl ([] : va_W) s.heap := fun k q h => by simp at h
  have hD : va_D (FrH s.heap) ([] : va_W) := ⟨fun i j p q h => by simp at h, fun k q h => by simp at h⟩
  have hS : va_S (FrH s.heap) s.heap s.heap [] := va_S.rf
  have hl := lv_entry ([.ref b]) (n := 27) (Nat.le_of_ble_eq_true rfl)
  rw [lg_entry_eq]
  generalize (lg_sl ([.ref b]) ++ List.replicate (27 - (lg_sl ([.ref b])).length) Slot.unset).toArray = ls at hl ⊢
  have hl : lv_has ls 27 [(0, .ref b)] := hl
  refine va_new (ci := 3) (fs := [.null, .null, .null, .int 0, .int 0]) (C := RX2) (T := TX2) (N := 5) hx hb hts inlX2 tyX2 tyX2_ok hown (hts _ mw_1_0) (hts _ mw_1_1) (hts _ mw_1_2) hK hP hD hS hA rfl (fun j hj => by rcases (show j = 0 ∨ j = 1 ∨ j = 2 ∨ j = 3 ∨ j = 4 by omega) with rfl | rfl | rfl | rfl | rfl <;> rfl) (Nat.le_of_ble_eq_true rfl) (Nat.le_of_ble_eq_true rfl) dL_law_0 (fun q0 H hP hD hS => ?_)
  refine lv_dup hx hb dL_law_3 rfl ?_
  have hP : va_P D vwCl ([(q0, .inr (3, [.null, .null, .null, .int 0, .int 0]))] ++ []) H := hP
  have hD : va_D (FrH s.heap) ([(q0, .inr (3, [.null, .null, .null, .int 0, .int 0]))] ++ []) := hD
  refine wtI (As := []) (rest := [.ref q0]) (b := q0) ⟨hx, hb, hml, hown, hts⟩ hT hK 0 (k_tavern l D cs z mi H q0 (fun ov w1 => ∃ (ad : Nat → Nat) (sl fl : Nat → Int32), ad 0 = q0 ∧ ad 6 = z ∧ laid 6 0 sl fl 36 ∧ ov = none ∧ w1 = wX cs ad 500 0 (nI 2) 0 36 0 sl fl (puI 6) ++ []) (fun ad sl fl g0 g6 gl => ⟨ad, sl, fl, g0, g6, gl, rfl, rfl⟩) hP (hD.weaken (fun _ _ _ _ => trivial))) mw_1_7 mw_1_5 mw_1_6 mw_1_2 rfl (by decide +kernel) ⟨Nat.le_of_ble_eq_true rfl, Nat.le_of_ble_eq_true rfl⟩ rfl hl.1 rfl (Nat.le_of_ble_eq_true rfl) dL_law_4 ⟨Nat.le_of_ble_eq_true rfl, Nat.le_of_ble_eq_true rfl⟩ hD hS hA (fun ov9 w9 H locs hp9 hP hD hS => ?_)
  obtain ⟨ad, sl, fl, g0, g6, gl, rfl, rfl⟩ := hp9
  refine W.eq (g2 := F0 m 7 ls [.ref (ad 0)]) (by rw [g0] <;> rfl) ?_
  refine lv_astore_n (lv' := [(1, .ref (ad 0)), (0, .ref b)]) hx hb dL_law_7 rfl hl (by decide) rfl (fun ls hl => ?_)
  refine lv_aload_n hx hb dL_law_8 rfl (lv_at hl 0 rfl) ?_
  refine lv_aload_n hx hb dL_law_9 rfl (lv_at hl 1 rfl) ?_
  refine wvS (As := [.ref (ad 0), .ref b]) (rest := []) ⟨hx, hb, hml, hown, hts⟩ hT hR hNW hK hX hbl hbA 2 (build_c l hl9 D cs z mi H (b := b) (L := L) (xs := xs) (T := []) hL g6 gl (fun ov w1 => ∃ s0 k : Nat, ov = some (.ref s0) ∧ k ≤ 20 ∧ JI cs z (ad 0) s0 k w1) (fun s0 k w1 hk hj => ⟨s0, k, rfl, hk, hj⟩) hP (hD.weaken (fun _ _ _ _ => trivial))) (gin_s mw_3_11 mw_3_12 mw_3_13 mw_3_14) (by decide +kernel) ⟨Nat.le_of_ble_eq_true rfl, Nat.le_of_ble_eq_true rfl⟩ rfl hl.1 rfl (Nat.le_of_ble_eq_true rfl) dL_law_10 ⟨Nat.le_of_ble_eq_true rfl, Nat.le_of_ble_eq_true rfl⟩ hD hS hA (fun ov9 w9 H locs hp9 hP hD hS => ?_)
  obtain ⟨s0, k9, rfl, hk9, hJI⟩ := hp9
  refine W.eq (g2 := F0 m 13 ls [.ref s0]) rfl ?_
  refine lv_astore_n (lv' := [(2, .ref s0), (1, .ref (ad 0)), (0, .ref b)]) hx hb dL_law_13 rfl hl (by decide) rfl (fun ls hl => ?_)
  refine lv_aload_n hx hb dL_law_14 rfl (lv_at hl 0 rfl) ?_
  refine lv_ifnonnull (tgt := 20) hx hb dL_law_15 (by decide) ?_
  refine lv_iconst (v := nI 0) hx hb dL_law_20 (by first | decide | rfl) ?_
  refine lv_istore_n (lv' := [(3, .int (nI 0)), (2, .ref s0), (1, .ref (ad 0)), (0, .ref b)]) hx hb dL_law_21 rfl hl (by decide) rfl (fun ls hl => ?_)
  exact L_loop hr hlocks CC 6 0 _ _ w9 H locs ls (by omega) (by omega) (Nat.le_of_ble_eq_true rfl) (Nat.le_of_ble_eq_true rfl) (JI.mono hJI (by omega)) hP hD hS (lv_sub hl [3, 2, 1, 0] rfl)
