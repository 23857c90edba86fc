/-! the law: calls that only read, without arguments; by program -/
section Law
variable {p : Program} {l : Launch} {e : Env} {s : State} {m : MethodId} {b : Nat} {below : List Frame} {meth : Method} {c : Code} {H : Heap} {locs : List Loc} {cells slots ce sl : Nat} {Q : State → Prop} {L : Nat} {xs : Nat → Int32} {D : va_G} {cs : Nat → ClassId} {z mi : Nat} {A : Nat → Prop} {a1 a2 oo od i : Nat} {ls : Array Slot}
variable {am ad : Nat → Nat} {bank rnds th cnt mcn : Int32} {f1 f2 f3 dn N n cap : Nat} {fn : Nat → Nat} {fc puM wh kn nm sk br ht sg su fa puX : Nat → Int32} {rf : Nat → Option Nat} {wa : Nat → Nat} {wf : Nat → Nat → Int32} {fo : Nat → Int64} {fd : Nat → UInt64} {T : va_W}
set_option maxHeartbeats 4000000 in
set_option maxRecDepth 100000 in
theorem L_c1 (CC : LC p l s m c b L xs D cs z mi A) (h1 : am 0 = a2) (h2 : ad 0 = a1) (hF : LF cs z ad cnt f1 f2 f3 dn N n cap fn fc puM wh kn nm sk br ht su fa puX rf wa wf T) (hP : va_P D vwCl (LWw cs am ad oo od bank rnds th cnt mcn dn N n fc puM wh kn nm sk br ht sg su fa puX fo fd T) H) (hD : va_D A (LWw cs am ad oo od bank rnds th cnt mcn dn N n fc puM wh kn nm sk br ht sg su fa puX fo fd T)) (hS : va_S A s.heap H locs) (hl : lv_has ls 9 (LL b a1 a2 oo od i)) (hi : i + 7 ≤ L) (hrm : cells + 4 ≤ 601024 ∧ slots + 64 ≤ 7293034) (k : LK p l e s m b below meth c Q D cs z A a1 a2 oo od i cells slots) : W p l e room_1 s m #[Value.ref b] below meth c H locs cells slots Q (F0 m 264 ls []) := by
  subst h1
  subst h2
  obtain ⟨hx, hb, hml, hown, hts, hT, hR, hK, hA, hX, hbl, hbA, hL, hl9⟩ := id CC
  obtain ⟨hN1, hN, hn12⟩ := hF.N1
  obtain ⟨hDC, hla, hFM, hWR, hpu, hB, hcnt, hLT⟩ := id hF
  refine lv_aload_n hx hb dL_law_264 rfl (lv_at hl 4 rfl) ?_
  refine rdV (As := []) (rest := []) (b := ad 0) ⟨hx, hb, hml, hown, hts⟩ hK 0 (c_dice l D cs H (hF.rx hP (fun q hq => List.mem_append_right _ (List.mem_append_right _ (List.mem_append_right _ hq))))) (gin_v mw_6_10 mw_6_11 mw_6_12 mw_1_2 mw_6_13) (by decide +kernel) ⟨Nat.le_of_ble_eq_true rfl, Nat.le_of_ble_eq_true rfl⟩ (va_recv hK hP (ci := 3) (q0 := 12) rfl rfl) rfl hl.1 rfl (Nat.le_of_ble_eq_true rfl) dL_law_265 ⟨Nat.le_trans (Nat.le_add_right _ 4) hrm.1, Nat.le_trans (Nat.le_add_right _ 64) hrm.2⟩ ?_
  refine W.eq (g2 := F0 m 268 ls [.int cnt]) rfl ?_
  refine lv_aload_n hx hb dL_law_268 rfl (lv_at hl 3 rfl) ?_
  refine L_m CC (As := []) (rest := [.int cnt]) (M1 := (fun sg => wM cs am 0 bank rnds dn N n fc puM wh kn nm sk br ht sg)) (v := .int (nI dn)) (mc := 0) (ms := 0) hP hD hS (fun post hp hP hD => mp_dice l D cs H hFM  post (hp sg) hP hD) (gin_v mw_6_15 mw_6_16 mw_6_17 mw_1_5 mw_6_18) (by decide +kernel) ⟨Nat.le_of_ble_eq_true rfl, Nat.le_of_ble_eq_true rfl⟩ rfl hl.1 rfl (Nat.le_of_ble_eq_true rfl) dL_law_269 ⟨Nat.le_trans (show cells + 0 ≤ cells + 4 by omega) hrm.1, Nat.le_trans (show slots + 0 ≤ slots + 64 by omega) hrm.2⟩ (fun H locs sg hP hD hS => ?_)
  refine W.eq (g2 := F0 m 272 ls [.int (nI dn), .int cnt]) rfl ?_
  exact lv_icmp_eq (tgt := 1603) hx hb dL_law_272 (by decide) (fun _ => (L_k CC k rfl rfl hF hP hD hS (show cells + 0 ≤ cells + 4 by omega) (show slots + 0 ≤ slots + 64 by omega) hl)) (fun h => absurd hcnt h)
set_option maxHeartbeats 4000000 in
set_option maxRecDepth 100000 in
theorem L_c2 (CC : LC p l s m c b L xs D cs z mi A) (h1 : am 0 = a2) (h2 : ad 0 = a1) (hF : LF cs z ad cnt f1 f2 f3 dn N n cap fn fc puM wh kn nm sk br ht su fa puX rf wa wf T) (hP : va_P D vwCl (LWw cs am ad oo od bank rnds th cnt mcn dn N n fc puM wh kn nm sk br ht sg su fa puX fo fd T) H) (hD : va_D A (LWw cs am ad oo od bank rnds th cnt mcn dn N n fc puM wh kn nm sk br ht sg su fa puX fo fd T)) (hS : va_S A s.heap H locs) (hl : lv_has ls 9 (LL b a1 a2 oo od i)) (hi : i + 7 ≤ L) (hrm : cells + 4 ≤ 601024 ∧ slots + 64 ≤ 7293034) (k : LK p l e s m b below meth c Q D cs z A a1 a2 oo od i cells slots) : W p l e room_1 s m #[Value.ref b] below meth c H locs cells slots Q (F0 m 277 ls []) := by
  subst h1
  subst h2
  obtain ⟨hx, hb, hml, hown, hts, hT, hR, hK, hA, hX, hbl, hbA, hL, hl9⟩ := id CC
  obtain ⟨hN1, hN, hn12⟩ := hF.N1
  obtain ⟨hDC, hla, hFM, hWR, hpu, hB, hcnt, hLT⟩ := id hF
  refine lv_aload_n hx hb dL_law_277 rfl (lv_at hl 4 rfl) ?_
  refine rdV (As := []) (rest := []) (b := ad 0) ⟨hx, hb, hml, hown, hts⟩ hK 0 (c_outcomes l D cs H (hF.rx hP (fun q hq => List.mem_append_right _ (List.mem_append_right _ (List.mem_append_right _ hq))))) (gin_v mw_6_23 mw_7_0 mw_7_1 mw_1_2 mw_7_2) (by decide +kernel) ⟨Nat.le_of_ble_eq_true rfl, Nat.le_of_ble_eq_true rfl⟩ (va_recv hK hP (ci := 3) (q0 := 12) rfl rfl) rfl hl.1 rfl (Nat.le_of_ble_eq_true rfl) dL_law_278 ⟨Nat.le_trans (Nat.le_add_right _ 4) hrm.1, Nat.le_trans (Nat.le_add_right _ 64) hrm.2⟩ ?_
  refine W.eq (g2 := F0 m 281 ls [.int (nI N)]) rfl ?_
  refine lv_aload_n hx hb dL_law_281 rfl (lv_at hl 3 rfl) ?_
  refine L_m CC (As := []) (rest := [.int (nI N)]) (M1 := (fun sg => wM cs am 0 bank rnds dn N n fc puM wh kn nm sk br ht sg)) (v := .int (nI N)) (mc := 0) (ms := 0) hP hD hS (fun post hp hP hD => mp_outcomes l D cs H hFM  post (hp sg) hP hD) (gin_v mw_7_3 mw_7_4 mw_7_5 mw_1_5 mw_7_6) (by decide +kernel) ⟨Nat.le_of_ble_eq_true rfl, Nat.le_of_ble_eq_true rfl⟩ rfl hl.1 rfl (Nat.le_of_ble_eq_true rfl) dL_law_282 ⟨Nat.le_trans (show cells + 0 ≤ cells + 4 by omega) hrm.1, Nat.le_trans (show slots + 0 ≤ slots + 64 by omega) hrm.2⟩ (fun H locs sg hP hD hS => ?_)
  refine W.eq (g2 := F0 m 285 ls [.int (nI N), .int (nI N)]) rfl ?_
  exact lv_icmp_eq (tgt := 1603) hx hb dL_law_285 (by decide) (fun _ => (L_k CC k rfl rfl hF hP hD hS (show cells + 0 ≤ cells + 4 by omega) (show slots + 0 ≤ slots + 64 by omega) hl)) (fun h => absurd rfl h)
set_option maxHeartbeats 4000000 in
set_option maxRecDepth 100000 in
theorem L_c9 (CC : LC p l s m c b L xs D cs z mi A) (h1 : am 0 = a2) (h2 : ad 0 = a1) (hF : LF cs z ad cnt f1 f2 f3 dn N n cap fn fc puM wh kn nm sk br ht su fa puX rf wa wf T) (hP : va_P D vwCl (LWw cs am ad oo od bank rnds th cnt mcn dn N n fc puM wh kn nm sk br ht sg su fa puX fo fd T) H) (hD : va_D A (LWw cs am ad oo od bank rnds th cnt mcn dn N n fc puM wh kn nm sk br ht sg su fa puX fo fd T)) (hS : va_S A s.heap H locs) (hl : lv_has ls 9 (LL b a1 a2 oo od i)) (hi : i + 7 ≤ L) (hrm : cells + 4 ≤ 601024 ∧ slots + 64 ≤ 7293034) (k : LK p l e s m b below meth c Q D cs z A a1 a2 oo od i cells slots) : W p l e room_1 s m #[Value.ref b] below meth c H locs cells slots Q (F0 m 733 ls []) := by
  subst h1
  subst h2
  obtain ⟨hx, hb, hml, hown, hts, hT, hR, hK, hA, hX, hbl, hbA, hL, hl9⟩ := id CC
  obtain ⟨hN1, hN, hn12⟩ := hF.N1
  obtain ⟨hDC, hla, hFM, hWR, hpu, hB, hcnt, hLT⟩ := id hF
  refine lv_aload_n hx hb dL_law_733 rfl (lv_at hl 4 rfl) ?_
  refine rdV (As := []) (rest := []) (b := ad 0) ⟨hx, hb, hml, hown, hts⟩ hK 0 (c_open l D cs H (hF.rx hP (fun q hq => List.mem_append_right _ (List.mem_append_right _ (List.mem_append_right _ hq))))) (gin_v mw_18_9 mw_18_10 mw_18_11 mw_1_2 mw_18_12) (by decide +kernel) ⟨Nat.le_of_ble_eq_true rfl, Nat.le_of_ble_eq_true rfl⟩ (va_recv hK hP (ci := 3) (q0 := 12) rfl rfl) rfl hl.1 rfl (Nat.le_of_ble_eq_true rfl) dL_law_734 ⟨Nat.le_trans (Nat.le_add_right _ 4) hrm.1, Nat.le_trans (Nat.le_add_right _ 64) hrm.2⟩ ?_
  refine W.eq (g2 := F0 m 737 ls [.int (nI n)]) rfl ?_
  refine lv_aload_n hx hb dL_law_737 rfl (lv_at hl 3 rfl) ?_
  refine L_m CC (As := []) (rest := [.int (nI n)]) (M1 := (fun sg => wM cs am 0 bank rnds dn N n fc puM wh kn nm sk br ht sg)) (v := .int (nI n)) (mc := 0) (ms := 0) hP hD hS (fun post hp hP hD => mp_open l D cs H hFM  post (hp sg) hP hD) (gin_v mw_18_13 mw_18_14 mw_18_15 mw_1_5 mw_18_16) (by decide +kernel) ⟨Nat.le_of_ble_eq_true rfl, Nat.le_of_ble_eq_true rfl⟩ rfl hl.1 rfl (Nat.le_of_ble_eq_true rfl) dL_law_738 ⟨Nat.le_trans (show cells + 0 ≤ cells + 4 by omega) hrm.1, Nat.le_trans (show slots + 0 ≤ slots + 64 by omega) hrm.2⟩ (fun H locs sg hP hD hS => ?_)
  refine W.eq (g2 := F0 m 741 ls [.int (nI n), .int (nI n)]) rfl ?_
  exact lv_icmp_eq (tgt := 1603) hx hb dL_law_741 (by decide) (fun _ => (L_k CC k rfl rfl hF hP hD hS (show cells + 0 ≤ cells + 4 by omega) (show slots + 0 ≤ slots + 64 by omega) hl)) (fun h => absurd rfl h)
set_option maxHeartbeats 4000000 in
set_option maxRecDepth 100000 in
theorem L_c10 (CC : LC p l s m c b L xs D cs z mi A) (h1 : am 0 = a2) (h2 : ad 0 = a1) (hF : LF cs z ad cnt f1 f2 f3 dn N n cap fn fc puM wh kn nm sk br ht su fa puX rf wa wf T) (hP : va_P D vwCl (LWw cs am ad oo od bank rnds th cnt mcn dn N n fc puM wh kn nm sk br ht sg su fa puX fo fd T) H) (hD : va_D A (LWw cs am ad oo od bank rnds th cnt mcn dn N n fc puM wh kn nm sk br ht sg su fa puX fo fd T)) (hS : va_S A s.heap H locs) (hl : lv_has ls 9 (LL b a1 a2 oo od i)) (hi : i + 7 ≤ L) (hrm : cells + 4 ≤ 601024 ∧ slots + 64 ≤ 7293034) (k : LK p l e s m b below meth c Q D cs z A a1 a2 oo od i cells slots) : W p l e room_1 s m #[Value.ref b] below meth c H locs cells slots Q (F0 m 746 ls []) := by
  subst h1
  subst h2
  obtain ⟨hx, hb, hml, hown, hts, hT, hR, hK, hA, hX, hbl, hbA, hL, hl9⟩ := id CC
  obtain ⟨hN1, hN, hn12⟩ := hF.N1
  obtain ⟨hDC, hla, hFM, hWR, hpu, hB, hcnt, hLT⟩ := id hF
  refine lv_aload_n hx hb dL_law_746 rfl (lv_at hl 4 rfl) ?_
  refine rdV (As := []) (rest := []) (b := ad 0) ⟨hx, hb, hml, hown, hts⟩ hK 0 (c_bank l D cs H (hF.rx hP (fun q hq => List.mem_append_right _ (List.mem_append_right _ (List.mem_append_right _ hq))))) (gin_v mw_18_17 mw_18_18 mw_18_19 mw_1_2 mw_18_20) (by decide +kernel) ⟨Nat.le_of_ble_eq_true rfl, Nat.le_of_ble_eq_true rfl⟩ (va_recv hK hP (ci := 3) (q0 := 12) rfl rfl) rfl hl.1 rfl (Nat.le_of_ble_eq_true rfl) dL_law_747 ⟨Nat.le_trans (Nat.le_add_right _ 4) hrm.1, Nat.le_trans (Nat.le_add_right _ 64) hrm.2⟩ ?_
  refine W.eq (g2 := F0 m 750 ls [.int bank]) rfl ?_
  refine lv_aload_n hx hb dL_law_750 rfl (lv_at hl 3 rfl) ?_
  refine L_m CC (As := []) (rest := [.int bank]) (M1 := (fun sg => wM cs am 0 bank rnds dn N n fc puM wh kn nm sk br ht sg)) (v := .int bank) (mc := 0) (ms := 0) hP hD hS (fun post hp hP hD => mp_bank l D cs H hFM  post (hp sg) hP hD) (gin_v mw_18_21 mw_18_22 mw_18_23 mw_1_5 mw_19_0) (by decide +kernel) ⟨Nat.le_of_ble_eq_true rfl, Nat.le_of_ble_eq_true rfl⟩ rfl hl.1 rfl (Nat.le_of_ble_eq_true rfl) dL_law_751 ⟨Nat.le_trans (show cells + 0 ≤ cells + 4 by omega) hrm.1, Nat.le_trans (show slots + 0 ≤ slots + 64 by omega) hrm.2⟩ (fun H locs sg hP hD hS => ?_)
  refine W.eq (g2 := F0 m 754 ls [.int bank, .int bank]) rfl ?_
  exact lv_icmp_eq (tgt := 1603) hx hb dL_law_754 (by decide) (fun _ => (L_k CC k rfl rfl hF hP hD hS (show cells + 0 ≤ cells + 4 by omega) (show slots + 0 ≤ slots + 64 by omega) hl)) (fun h => absurd rfl h)
set_option maxHeartbeats 4000000 in
set_option maxRecDepth 100000 in
theorem L_c11 (CC : LC p l s m c b L xs D cs z mi A) (h1 : am 0 = a2) (h2 : ad 0 = a1) (hF : LF cs z ad cnt f1 f2 f3 dn N n cap fn fc puM wh kn nm sk br ht su fa puX rf wa wf T) (hP : va_P D vwCl (LWw cs am ad oo od bank rnds th cnt mcn dn N n fc puM wh kn nm sk br ht sg su fa puX fo fd T) H) (hD : va_D A (LWw cs am ad oo od bank rnds th cnt mcn dn N n fc puM wh kn nm sk br ht sg su fa puX fo fd T)) (hS : va_S A s.heap H locs) (hl : lv_has ls 9 (LL b a1 a2 oo od i)) (hi : i + 7 ≤ L) (hrm : cells + 4 ≤ 601024 ∧ slots + 64 ≤ 7293034) (k : LK p l e s m b below meth c Q D cs z A a1 a2 oo od i cells slots) : W p l e room_1 s m #[Value.ref b] below meth c H locs cells slots Q (F0 m 759 ls []) := by
  subst h1
  subst h2
  obtain ⟨hx, hb, hml, hown, hts, hT, hR, hK, hA, hX, hbl, hbA, hL, hl9⟩ := id CC
  obtain ⟨hN1, hN, hn12⟩ := hF.N1
  obtain ⟨hDC, hla, hFM, hWR, hpu, hB, hcnt, hLT⟩ := id hF
  refine lv_aload_n hx hb dL_law_759 rfl (lv_at hl 4 rfl) ?_
  refine rdV (As := []) (rest := []) (b := ad 0) ⟨hx, hb, hml, hown, hts⟩ hK 0 (c_rounds l D cs H (hF.rx hP (fun q hq => List.mem_append_right _ (List.mem_append_right _ (List.mem_append_right _ hq))))) (gin_v mw_19_1 mw_19_2 mw_19_3 mw_1_2 mw_19_4) (by decide +kernel) ⟨Nat.le_of_ble_eq_true rfl, Nat.le_of_ble_eq_true rfl⟩ (va_recv hK hP (ci := 3) (q0 := 12) rfl rfl) rfl hl.1 rfl (Nat.le_of_ble_eq_true rfl) dL_law_760 ⟨Nat.le_trans (Nat.le_add_right _ 4) hrm.1, Nat.le_trans (Nat.le_add_right _ 64) hrm.2⟩ ?_
  refine W.eq (g2 := F0 m 763 ls [.int rnds]) rfl ?_
  refine lv_aload_n hx hb dL_law_763 rfl (lv_at hl 3 rfl) ?_
  refine L_m CC (As := []) (rest := [.int rnds]) (M1 := (fun sg => wM cs am 0 bank rnds dn N n fc puM wh kn nm sk br ht sg)) (v := .int rnds) (mc := 0) (ms := 0) hP hD hS (fun post hp hP hD => mp_rounds l D cs H hFM  post (hp sg) hP hD) (gin_v mw_19_5 mw_19_6 mw_19_7 mw_1_5 mw_19_8) (by decide +kernel) ⟨Nat.le_of_ble_eq_true rfl, Nat.le_of_ble_eq_true rfl⟩ rfl hl.1 rfl (Nat.le_of_ble_eq_true rfl) dL_law_764 ⟨Nat.le_trans (show cells + 0 ≤ cells + 4 by omega) hrm.1, Nat.le_trans (show slots + 0 ≤ slots + 64 by omega) hrm.2⟩ (fun H locs sg hP hD hS => ?_)
  refine W.eq (g2 := F0 m 767 ls [.int rnds, .int rnds]) rfl ?_
  exact lv_icmp_eq (tgt := 1603) hx hb dL_law_767 (by decide) (fun _ => (L_k CC k rfl rfl hF hP hD hS (show cells + 0 ≤ cells + 4 by omega) (show slots + 0 ≤ slots + 64 by omega) hl)) (fun h => absurd rfl h)
set_option maxHeartbeats 4000000 in
set_option maxRecDepth 100000 in
theorem L_c16 (CC : LC p l s m c b L xs D cs z mi A) (h1 : am 0 = a2) (h2 : ad 0 = a1) (hF : LF cs z ad cnt f1 f2 f3 dn N n cap fn fc puM wh kn nm sk br ht su fa puX rf wa wf T) (hP : va_P D vwCl (LWw cs am ad oo od bank rnds th cnt mcn dn N n fc puM wh kn nm sk br ht sg su fa puX fo fd T) H) (hD : va_D A (LWw cs am ad oo od bank rnds th cnt mcn dn N n fc puM wh kn nm sk br ht sg su fa puX fo fd T)) (hS : va_S A s.heap H locs) (hl : lv_has ls 9 (LL b a1 a2 oo od i)) (hi : i + 7 ≤ L) (hrm : cells + 4 ≤ 601024 ∧ slots + 64 ≤ 7293034) (k : LK p l e s m b below meth c Q D cs z A a1 a2 oo od i cells slots) : W p l e room_1 s m #[Value.ref b] below meth c H locs cells slots Q (F0 m 996 ls []) := by
  subst h1
  subst h2
  obtain ⟨hx, hb, hml, hown, hts, hT, hR, hK, hA, hX, hbl, hbA, hL, hl9⟩ := id CC
  obtain ⟨hN1, hN, hn12⟩ := hF.N1
  obtain ⟨hDC, hla, hFM, hWR, hpu, hB, hcnt, hLT⟩ := id hF
  refine lv_aload_n hx hb dL_law_996 rfl (lv_at hl 4 rfl) ?_
  refine rdV (As := []) (rest := []) (b := ad 0) ⟨hx, hb, hml, hown, hts⟩ hK 0 (c_staked l D cs H (hF.rx hP (fun q hq => List.mem_append_right _ (List.mem_append_right _ (List.mem_append_right _ hq))))) (gin_v mw_21_9 mw_21_10 mw_21_11 mw_1_2 mw_21_12) (by decide +kernel) ⟨Nat.le_of_ble_eq_true rfl, Nat.le_of_ble_eq_true rfl⟩ (va_recv hK hP (ci := 3) (q0 := 12) rfl rfl) rfl hl.1 rfl (Nat.le_of_ble_eq_true rfl) dL_law_997 ⟨Nat.le_trans (Nat.le_add_right _ 4) hrm.1, Nat.le_trans (Nat.le_add_right _ 64) hrm.2⟩ ?_
  refine W.eq (g2 := F0 m 1000 ls [.int (sm (fun i => wf i 3) n)]) rfl ?_
  refine lv_aload_n hx hb dL_law_1000 rfl (lv_at hl 3 rfl) ?_
  refine L_m CC (As := []) (rest := [.int (sm (fun i => wf i 3) n)]) (M1 := (fun sg => wM cs am 0 bank rnds dn N n fc puM wh kn nm sk br ht sg)) (v := .int (sm sk n)) (mc := 0) (ms := 0) hP hD hS (fun post hp hP hD => mp_staked l D cs H hFM  post (hp sg) hP hD) (gin_v mw_21_13 mw_21_14 mw_21_15 mw_1_5 mw_21_16) (by decide +kernel) ⟨Nat.le_of_ble_eq_true rfl, Nat.le_of_ble_eq_true rfl⟩ rfl hl.1 rfl (Nat.le_of_ble_eq_true rfl) dL_law_1001 ⟨Nat.le_trans (show cells + 0 ≤ cells + 4 by omega) hrm.1, Nat.le_trans (show slots + 0 ≤ slots + 64 by omega) hrm.2⟩ (fun H locs sg hP hD hS => ?_)
  refine W.eq (g2 := F0 m 1004 ls [.int (sm sk n), .int (sm (fun i => wf i 3) n)]) rfl ?_
  exact lv_icmp_eq (tgt := 1603) hx hb dL_law_1004 (by decide) (fun _ => (L_k CC k rfl rfl hF hP hD hS (show cells + 0 ≤ cells + 4 by omega) (show slots + 0 ≤ slots + 64 by omega) hl)) (fun h => absurd hWR.st h)
set_option maxHeartbeats 4000000 in
set_option maxRecDepth 100000 in
theorem L_c19 (CC : LC p l s m c b L xs D cs z mi A) (h1 : am 0 = a2) (h2 : ad 0 = a1) (hF : LF cs z ad cnt f1 f2 f3 dn N n cap fn fc puM wh kn nm sk br ht su fa puX rf wa wf T) (hP : va_P D vwCl (LWw cs am ad oo od bank rnds th cnt mcn dn N n fc puM wh kn nm sk br ht sg su fa puX fo fd T) H) (hD : va_D A (LWw cs am ad oo od bank rnds th cnt mcn dn N n fc puM wh kn nm sk br ht sg su fa puX fo fd T)) (hS : va_S A s.heap H locs) (hl : lv_has ls 9 (LL b a1 a2 oo od i)) (hi : i + 7 ≤ L) (hrm : cells + 4 ≤ 601024 ∧ slots + 64 ≤ 7293034) (k : LK p l e s m b below meth c Q D cs z A a1 a2 oo od i cells slots) : W p l e room_1 s m #[Value.ref b] below meth c H locs cells slots Q (F0 m 1121 ls []) := by
  subst h1
  subst h2
  obtain ⟨hx, hb, hml, hown, hts, hT, hR, hK, hA, hX, hbl, hbA, hL, hl9⟩ := id CC
  obtain ⟨hN1, hN, hn12⟩ := hF.N1
  obtain ⟨hDC, hla, hFM, hWR, hpu, hB, hcnt, hLT⟩ := id hF
  refine lv_aload_n hx hb dL_law_1121 rfl (lv_at hl 4 rfl) ?_
  refine rdV (As := []) (rest := []) (b := ad 0) ⟨hx, hb, hml, hown, hts⟩ hK 0 (c_allEdgesTop l D cs H (hF.rx hP (fun q hq => List.mem_append_right _ (List.mem_append_right _ (List.mem_append_right _ hq))))) (gin_v mw_24_11 mw_24_12 mw_24_13 mw_1_2 mw_24_14) (by decide +kernel) ⟨Nat.le_of_ble_eq_true rfl, Nat.le_of_ble_eq_true rfl⟩ (va_recv hK hP (ci := 3) (q0 := 12) rfl rfl) rfl hl.1 rfl (Nat.le_of_ble_eq_true rfl) dL_law_1122 ⟨Nat.le_trans (Nat.le_add_right _ 4) hrm.1, Nat.le_trans (Nat.le_add_right _ 64) hrm.2⟩ ?_
  refine W.eq (g2 := F0 m 1125 ls [.int (sm (goX N wf) n / cdX (sm (goX N wf) n) (nI N))]) rfl ?_
  refine lv_aload_n hx hb dL_law_1125 rfl (lv_at hl 3 rfl) ?_
  refine L_m CC (As := []) (rest := [.int (sm (goX N wf) n / cdX (sm (goX N wf) n) (nI N))]) (M1 := (fun sg => wM cs am 0 bank rnds dn N n fc puM wh kn nm sk br ht sg)) (v := .int (sm (edM fn dn N (kN kn) nm sk br) n / nI (Nat.gcd (sm (edM fn dn N (kN kn) nm sk br) n).toInt.natAbs N))) (mc := 0) (ms := 0) hP hD hS (fun post hp hP hD => mp_allEdgesTop l D cs H hFM hWR.kd _ (hWR.abs hDC hN hn12).1 (hWR.abs hDC hN hn12).2 post hp hP hD) (gin_v mw_24_19 mw_24_20 mw_24_21 mw_1_5 mw_24_22) (by decide +kernel) ⟨Nat.le_of_ble_eq_true rfl, Nat.le_of_ble_eq_true rfl⟩ rfl hl.1 rfl (Nat.le_of_ble_eq_true rfl) dL_law_1126 ⟨Nat.le_trans (show cells + 0 ≤ cells + 4 by omega) hrm.1, Nat.le_trans (show slots + 0 ≤ slots + 64 by omega) hrm.2⟩ (fun H locs sg hP hD hS => ?_)
  refine W.eq (g2 := F0 m 1129 ls [.int (sm (edM fn dn N (kN kn) nm sk br) n / nI (Nat.gcd (sm (edM fn dn N (kN kn) nm sk br) n).toInt.natAbs N)), .int (sm (goX N wf) n / cdX (sm (goX N wf) n) (nI N))]) rfl ?_
  exact lv_icmp_eq (tgt := 1603) hx hb dL_law_1129 (by decide) (fun _ => (L_k CC k rfl rfl hF hP hD hS (show cells + 0 ≤ cells + 4 by omega) (show slots + 0 ≤ slots + 64 by omega) hl)) (fun h => absurd (by rw [hWR.cds hDC hN1 hN hn12, hWR.sgo]) h)
set_option maxHeartbeats 4000000 in
set_option maxRecDepth 100000 in
theorem L_c20 (CC : LC p l s m c b L xs D cs z mi A) (h1 : am 0 = a2) (h2 : ad 0 = a1) (hF : LF cs z ad cnt f1 f2 f3 dn N n cap fn fc puM wh kn nm sk br ht su fa puX rf wa wf T) (hP : va_P D vwCl (LWw cs am ad oo od bank rnds th cnt mcn dn N n fc puM wh kn nm sk br ht sg su fa puX fo fd T) H) (hD : va_D A (LWw cs am ad oo od bank rnds th cnt mcn dn N n fc puM wh kn nm sk br ht sg su fa puX fo fd T)) (hS : va_S A s.heap H locs) (hl : lv_has ls 9 (LL b a1 a2 oo od i)) (hi : i + 7 ≤ L) (hrm : cells + 4 ≤ 601024 ∧ slots + 64 ≤ 7293034) (k : LK p l e s m b below meth c Q D cs z A a1 a2 oo od i cells slots) : W p l e room_1 s m #[Value.ref b] below meth c H locs cells slots Q (F0 m 1134 ls []) := by
  subst h1
  subst h2
  obtain ⟨hx, hb, hml, hown, hts, hT, hR, hK, hA, hX, hbl, hbA, hL, hl9⟩ := id CC
  obtain ⟨hN1, hN, hn12⟩ := hF.N1
  obtain ⟨hDC, hla, hFM, hWR, hpu, hB, hcnt, hLT⟩ := id hF
  refine lv_aload_n hx hb dL_law_1134 rfl (lv_at hl 4 rfl) ?_
  refine rdV (As := []) (rest := []) (b := ad 0) ⟨hx, hb, hml, hown, hts⟩ hK 0 (c_allEdgesBottom l D cs H (hF.rx hP (fun q hq => List.mem_append_right _ (List.mem_append_right _ (List.mem_append_right _ hq))))) (gin_v mw_25_3 mw_25_4 mw_25_5 mw_1_2 mw_25_6) (by decide +kernel) ⟨Nat.le_of_ble_eq_true rfl, Nat.le_of_ble_eq_true rfl⟩ (va_recv hK hP (ci := 3) (q0 := 12) rfl rfl) rfl hl.1 rfl (Nat.le_of_ble_eq_true rfl) dL_law_1135 ⟨Nat.le_trans (Nat.le_add_right _ 4) hrm.1, Nat.le_trans (Nat.le_add_right _ 64) hrm.2⟩ ?_
  refine W.eq (g2 := F0 m 1138 ls [.int (nI N / cdX (sm (goX N wf) n) (nI N))]) rfl ?_
  refine lv_aload_n hx hb dL_law_1138 rfl (lv_at hl 3 rfl) ?_
  refine L_m CC (As := []) (rest := [.int (nI N / cdX (sm (goX N wf) n) (nI N))]) (M1 := (fun sg => wM cs am 0 bank rnds dn N n fc puM wh kn nm sk br ht sg)) (v := .int (nI N / nI (Nat.gcd (sm (edM fn dn N (kN kn) nm sk br) n).toInt.natAbs N))) (mc := 0) (ms := 0) hP hD hS (fun post hp hP hD => mp_allEdgesBottom l D cs H hFM hWR.kd _ (hWR.abs hDC hN hn12).1 (hWR.abs hDC hN hn12).2 post hp hP hD) (gin_v mw_25_7 mw_25_8 mw_25_9 mw_1_5 mw_25_10) (by decide +kernel) ⟨Nat.le_of_ble_eq_true rfl, Nat.le_of_ble_eq_true rfl⟩ rfl hl.1 rfl (Nat.le_of_ble_eq_true rfl) dL_law_1139 ⟨Nat.le_trans (show cells + 0 ≤ cells + 4 by omega) hrm.1, Nat.le_trans (show slots + 0 ≤ slots + 64 by omega) hrm.2⟩ (fun H locs sg hP hD hS => ?_)
  refine W.eq (g2 := F0 m 1142 ls [.int (nI N / nI (Nat.gcd (sm (edM fn dn N (kN kn) nm sk br) n).toInt.natAbs N)), .int (nI N / cdX (sm (goX N wf) n) (nI N))]) rfl ?_
  exact lv_icmp_eq (tgt := 1603) hx hb dL_law_1142 (by decide) (fun _ => (L_k CC k rfl rfl hF hP hD hS (show cells + 0 ≤ cells + 4 by omega) (show slots + 0 ≤ slots + 64 by omega) hl)) (fun h => absurd (by rw [hWR.cds hDC hN1 hN hn12]) h)
set_option maxHeartbeats 4000000 in
set_option maxRecDepth 100000 in
theorem L_c21 (CC : LC p l s m c b L xs D cs z mi A) (h1 : am 0 = a2) (h2 : ad 0 = a1) (hF : LF cs z ad cnt f1 f2 f3 dn N n cap fn fc puM wh kn nm sk br ht su fa puX rf wa wf T) (hP : va_P D vwCl (LWw cs am ad oo od bank rnds th cnt mcn dn N n fc puM wh kn nm sk br ht sg su fa puX fo fd T) H) (hD : va_D A (LWw cs am ad oo od bank rnds th cnt mcn dn N n fc puM wh kn nm sk br ht sg su fa puX fo fd T)) (hS : va_S A s.heap H locs) (hl : lv_has ls 9 (LL b a1 a2 oo od i)) (hi : i + 7 ≤ L) (hrm : cells + 4 ≤ 601024 ∧ slots + 64 ≤ 7293034) (k : LK p l e s m b below meth c Q D cs z A a1 a2 oo od i cells slots) : W p l e room_1 s m #[Value.ref b] below meth c H locs cells slots Q (F0 m 1147 ls []) := by
  subst h1
  subst h2
  obtain ⟨hx, hb, hml, hown, hts, hT, hR, hK, hA, hX, hbl, hbA, hL, hl9⟩ := id CC
  obtain ⟨hN1, hN, hn12⟩ := hF.N1
  obtain ⟨hDC, hla, hFM, hWR, hpu, hB, hcnt, hLT⟩ := id hF
  refine lv_aload_n hx hb dL_law_1147 rfl (lv_at hl 4 rfl) ?_
  refine rdV (As := []) (rest := []) (b := ad 0) ⟨hx, hb, hml, hown, hts⟩ hK 0 (c_dearestWager l D cs H (hF.rx hP (fun q hq => List.mem_append_right _ (List.mem_append_right _ (List.mem_append_right _ hq))))) (gin_v mw_25_11 mw_25_12 mw_25_13 mw_1_2 mw_25_14) (by decide +kernel) ⟨Nat.le_of_ble_eq_true rfl, Nat.le_of_ble_eq_true rfl⟩ (va_recv hK hP (ci := 3) (q0 := 12) rfl rfl) rfl hl.1 rfl (Nat.le_of_ble_eq_true rfl) dL_law_1148 ⟨Nat.le_trans (Nat.le_add_right _ 4) hrm.1, Nat.le_trans (Nat.le_add_right _ 64) hrm.2⟩ ?_
  refine W.eq (g2 := F0 m 1151 ls [.int (drs N wf n).1]) rfl ?_
  refine lv_aload_n hx hb dL_law_1151 rfl (lv_at hl 3 rfl) ?_
  refine L_m CC (As := []) (rest := [.int (drs N wf n).1]) (M1 := (fun sg => wM cs am 0 bank rnds dn N n fc puM wh kn nm sk br ht sg)) (v := .int (fst9I (drM (edM fn dn N (kN kn) nm sk br) sk n))) (mc := 0) (ms := 0) hP hD hS (fun post hp hP hD => mp_dearestWager l D cs H hFM hWR.kd post hp hP hD) (gin_v mw_25_15 mw_25_16 mw_25_17 mw_1_5 mw_25_18) (by decide +kernel) ⟨Nat.le_of_ble_eq_true rfl, Nat.le_of_ble_eq_true rfl⟩ rfl hl.1 rfl (Nat.le_of_ble_eq_true rfl) dL_law_1152 ⟨Nat.le_trans (show cells + 0 ≤ cells + 4 by omega) hrm.1, Nat.le_trans (show slots + 0 ≤ slots + 64 by omega) hrm.2⟩ (fun H locs sg hP hD hS => ?_)
  refine W.eq (g2 := F0 m 1155 ls [.int (fst9I (drM (edM fn dn N (kN kn) nm sk br) sk n)), .int (drs N wf n).1]) rfl ?_
  exact lv_icmp_eq (tgt := 1603) hx hb dL_law_1155 (by decide) (fun _ => (L_k CC k rfl rfl hF hP hD hS (show cells + 0 ≤ cells + 4 by omega) (show slots + 0 ≤ slots + 64 by omega) hl)) (fun h => absurd (hWR.dr hn12) h)
set_option maxHeartbeats 4000000 in
set_option maxRecDepth 100000 in
theorem L_c23 (CC : LC p l s m c b L xs D cs z mi A) (h1 : am 0 = a2) (h2 : ad 0 = a1) (hF : LF cs z ad cnt f1 f2 f3 dn N n cap fn fc puM wh kn nm sk br ht su fa puX rf wa wf T) (hP : va_P D vwCl (LWw cs am ad oo od bank rnds th cnt mcn dn N n fc puM wh kn nm sk br ht sg su fa puX fo fd T) H) (hD : va_D A (LWw cs am ad oo od bank rnds th cnt mcn dn N n fc puM wh kn nm sk br ht sg su fa puX fo fd T)) (hS : va_S A s.heap H locs) (hl : lv_has ls 9 (LL b a1 a2 oo od i)) (hi : i + 7 ≤ L) (hrm : cells + 4 ≤ 601024 ∧ slots + 64 ≤ 7293034) (k : LK p l e s m b below meth c Q D cs z A a1 a2 oo od i cells slots) : W p l e room_1 s m #[Value.ref b] below meth c H locs cells slots Q (F0 m 1216 ls []) := by
  subst h1
  subst h2
  obtain ⟨hx, hb, hml, hown, hts, hT, hR, hK, hA, hX, hbl, hbA, hL, hl9⟩ := id CC
  obtain ⟨hN1, hN, hn12⟩ := hF.N1
  obtain ⟨hDC, hla, hFM, hWR, hpu, hB, hcnt, hLT⟩ := id hF
  refine lv_aload_n hx hb dL_law_1216 rfl (lv_at hl 4 rfl) ?_
  refine rdV (As := []) (rest := []) (b := ad 0) ⟨hx, hb, hml, hown, hts⟩ hK 0 (c_worstGain l D cs H (hF.rx hP (fun q hq => List.mem_append_right _ (List.mem_append_right _ (List.mem_append_right _ hq))))) (gin_v mw_26_10 mw_26_11 mw_26_12 mw_1_2 mw_26_13) (by decide +kernel) ⟨Nat.le_of_ble_eq_true rfl, Nat.le_of_ble_eq_true rfl⟩ (va_recv hK hP (ci := 3) (q0 := 12) rfl rfl) rfl hl.1 rfl (Nat.le_of_ble_eq_true rfl) dL_law_1217 ⟨Nat.le_trans (Nat.le_add_right _ 4) hrm.1, Nat.le_trans (Nat.le_add_right _ 64) hrm.2⟩ ?_
  refine W.eq (g2 := F0 m 1220 ls [.int (sm (gnX su fa wf (kN kn) (wst (fun o => sm (gnX su fa wf (kN kn) o) n) N)) n)]) rfl ?_
  refine lv_aload_n hx hb dL_law_1220 rfl (lv_at hl 3 rfl) ?_
  refine L_m CC (As := []) (rest := [.int (sm (gnX su fa wf (kN kn) (wst (fun o => sm (gnX su fa wf (kN kn) o) n) N)) n)]) (M1 := (fun sg => wM cs am 0 bank rnds dn N n fc puM wh kn nm sk br ht sg)) (v := .int (sm (gnM ht sk br (wst (fun o => sm (gnM ht sk br o) n) N)) n)) (mc := 0) (ms := 0) hP hD hS (fun post hp hP hD => mp_worstGain l D cs H hFM  post (hp sg) hP hD) (gin_v mw_26_18 mw_26_19 mw_26_20 mw_1_5 mw_26_21) (by decide +kernel) ⟨Nat.le_of_ble_eq_true rfl, Nat.le_of_ble_eq_true rfl⟩ rfl hl.1 rfl (Nat.le_of_ble_eq_true rfl) dL_law_1221 ⟨Nat.le_trans (show cells + 0 ≤ cells + 4 by omega) hrm.1, Nat.le_trans (show slots + 0 ≤ slots + 64 by omega) hrm.2⟩ (fun H locs sg hP hD hS => ?_)
  refine W.eq (g2 := F0 m 1224 ls [.int (sm (gnM ht sk br (wst (fun o => sm (gnM ht sk br o) n) N)) n), .int (sm (gnX su fa wf (kN kn) (wst (fun o => sm (gnX su fa wf (kN kn) o) n) N)) n)]) rfl ?_
  exact lv_icmp_eq (tgt := 1603) hx hb dL_law_1224 (by decide) (fun _ => (L_k CC k rfl rfl hF hP hD hS (show cells + 0 ≤ cells + 4 by omega) (show slots + 0 ≤ slots + 64 by omega) hl)) (fun h => absurd (WR.wg hDC hN1 hla hWR) h)
set_option maxHeartbeats 4000000 in
set_option maxRecDepth 100000 in
theorem L_c24 (CC : LC p l s m c b L xs D cs z mi A) (h1 : am 0 = a2) (h2 : ad 0 = a1) (hF : LF cs z ad cnt f1 f2 f3 dn N n cap fn fc puM wh kn nm sk br ht su fa puX rf wa wf T) (hP : va_P D vwCl (LWw cs am ad oo od bank rnds th cnt mcn dn N n fc puM wh kn nm sk br ht sg su fa puX fo fd T) H) (hD : va_D A (LWw cs am ad oo od bank rnds th cnt mcn dn N n fc puM wh kn nm sk br ht sg su fa puX fo fd T)) (hS : va_S A s.heap H locs) (hl : lv_has ls 9 (LL b a1 a2 oo od i)) (hi : i + 7 ≤ L) (hrm : cells + 4 ≤ 601024 ∧ slots + 64 ≤ 7293034) (k : LK p l e s m b below meth c Q D cs z A a1 a2 oo od i cells slots) : W p l e room_1 s m #[Value.ref b] below meth c H locs cells slots Q (F0 m 1229 ls []) := by
  subst h1
  subst h2
  obtain ⟨hx, hb, hml, hown, hts, hT, hR, hK, hA, hX, hbl, hbA, hL, hl9⟩ := id CC
  obtain ⟨hN1, hN, hn12⟩ := hF.N1
  obtain ⟨hDC, hla, hFM, hWR, hpu, hB, hcnt, hLT⟩ := id hF
  refine lv_aload_n hx hb dL_law_1229 rfl (lv_at hl 4 rfl) ?_
  refine rdV (As := []) (rest := []) (b := ad 0) ⟨hx, hb, hml, hown, hts⟩ hK 0 (c_worstOutcome l D cs H (hF.rx hP (fun q hq => List.mem_append_right _ (List.mem_append_right _ (List.mem_append_right _ hq))))) (gin_v mw_27_2 mw_26_15 mw_26_16 mw_1_2 mw_26_17) (by decide +kernel) ⟨Nat.le_of_ble_eq_true rfl, Nat.le_of_ble_eq_true rfl⟩ (va_recv hK hP (ci := 3) (q0 := 12) rfl rfl) rfl hl.1 rfl (Nat.le_of_ble_eq_true rfl) dL_law_1230 ⟨Nat.le_trans (Nat.le_add_right _ 4) hrm.1, Nat.le_trans (Nat.le_add_right _ 64) hrm.2⟩ ?_
  refine W.eq (g2 := F0 m 1233 ls [.int (nI (wst (fun o => sm (gnX su fa wf (kN kn) o) n) N))]) rfl ?_
  refine lv_aload_n hx hb dL_law_1233 rfl (lv_at hl 3 rfl) ?_
  refine L_m CC (As := []) (rest := [.int (nI (wst (fun o => sm (gnX su fa wf (kN kn) o) n) N))]) (M1 := (fun sg => wM cs am 0 bank rnds dn N n fc puM wh kn nm sk br ht sg)) (v := .int (nI (wst (fun o => sm (gnM ht sk br o) n) N))) (mc := 0) (ms := 0) hP hD hS (fun post hp hP hD => mp_worstOutcome l D cs H hFM  post (hp sg) hP hD) (gin_v mw_27_3 mw_27_4 mw_27_5 mw_1_5 mw_27_6) (by decide +kernel) ⟨Nat.le_of_ble_eq_true rfl, Nat.le_of_ble_eq_true rfl⟩ rfl hl.1 rfl (Nat.le_of_ble_eq_true rfl) dL_law_1234 ⟨Nat.le_trans (show cells + 0 ≤ cells + 4 by omega) hrm.1, Nat.le_trans (show slots + 0 ≤ slots + 64 by omega) hrm.2⟩ (fun H locs sg hP hD hS => ?_)
  refine W.eq (g2 := F0 m 1237 ls [.int (nI (wst (fun o => sm (gnM ht sk br o) n) N)), .int (nI (wst (fun o => sm (gnX su fa wf (kN kn) o) n) N))]) rfl ?_
  exact lv_icmp_eq (tgt := 1603) hx hb dL_law_1237 (by decide) (fun _ => (L_k CC k rfl rfl hF hP hD hS (show cells + 0 ≤ cells + 4 by omega) (show slots + 0 ≤ slots + 64 by omega) hl)) (fun h => absurd (congrArg nI (WR.wo hDC hN1 hla hWR)) h)
set_option maxHeartbeats 4000000 in
set_option maxRecDepth 100000 in
theorem L_c30 (CC : LC p l s m c b L xs D cs z mi A) (h1 : am 0 = a2) (h2 : ad 0 = a1) (hF : LF cs z ad cnt f1 f2 f3 dn N n cap fn fc puM wh kn nm sk br ht su fa puX rf wa wf T) (hP : va_P D vwCl (LWw cs am ad oo od bank rnds th cnt mcn dn N n fc puM wh kn nm sk br ht sg su fa puX fo fd T) H) (hD : va_D A (LWw cs am ad oo od bank rnds th cnt mcn dn N n fc puM wh kn nm sk br ht sg su fa puX fo fd T)) (hS : va_S A s.heap H locs) (hl : lv_has ls 9 (LL b a1 a2 oo od i)) (hi : i + 7 ≤ L) (hrm : cells + 4 ≤ 601024 ∧ slots + 64 ≤ 7293034) (k : LK p l e s m b below meth c Q D cs z A a1 a2 oo od i cells slots) : W p l e room_1 s m #[Value.ref b] below meth c H locs cells slots Q (F0 m 1589 ls []) := by
  subst h1
  subst h2
  obtain ⟨hx, hb, hml, hown, hts, hT, hR, hK, hA, hX, hbl, hbA, hL, hl9⟩ := id CC
  obtain ⟨hN1, hN, hn12⟩ := hF.N1
  obtain ⟨hDC, hla, hFM, hWR, hpu, hB, hcnt, hLT⟩ := id hF
  refine lv_aload_n hx hb dL_law_1589 rfl (lv_at hl 4 rfl) ?_
  refine rdV (As := []) (rest := []) (b := ad 0) ⟨hx, hb, hml, hown, hts⟩ hK 0 (c_digest l D cs H (hF.rx hP (fun q hq => List.mem_append_right _ (List.mem_append_right _ (List.mem_append_right _ hq))))) (gin_v mw_30_7 mw_30_8 mw_30_9 mw_1_2 mw_30_10) (by decide +kernel) ⟨Nat.le_of_ble_eq_true rfl, Nat.le_of_ble_eq_true rfl⟩ (va_recv hK hP (ci := 3) (q0 := 12) rfl rfl) rfl hl.1 rfl (Nat.le_of_ble_eq_true rfl) dL_law_1590 ⟨Nat.le_trans (Nat.le_add_right _ 4) hrm.1, Nat.le_trans (Nat.le_add_right _ 64) hrm.2⟩ ?_
  refine W.eq (g2 := F0 m 1593 ls [.long (dgK (fun k => nI (cn (comesX su fa k 7) N)) (dgP puX (fun p o => behX su fa puX wf (kN kn) (nI p) p o n) N (dgW N wf (dgH 2141 cnt.toInt64 (nI N).toInt64 (nI n).toInt64 bank.toInt64 rnds.toInt64 (sm (fun i => wf i 3) n).toInt64 (sm (goX N wf) n / cdX (sm (goX N wf) n) (nI N)).toInt64 (nI N / cdX (sm (goX N wf) n) (nI N)).toInt64 ((drs N wf n).1).toInt64 (sm (gnX su fa wf (kN kn) (wst (fun o => sm (gnX su fa wf (kN kn) o) n) N)) n).toInt64 (nI (wst (fun o => sm (gnX su fa wf (kN kn) o) n) N)).toInt64) n) 6) 10)]) rfl ?_
  refine lv_aload_n hx hb dL_law_1593 rfl (lv_at hl 3 rfl) ?_
  refine L_m CC (As := []) (rest := [.long (dgK (fun k => nI (cn (comesX su fa k 7) N)) (dgP puX (fun p o => behX su fa puX wf (kN kn) (nI p) p o n) N (dgW N wf (dgH 2141 cnt.toInt64 (nI N).toInt64 (nI n).toInt64 bank.toInt64 rnds.toInt64 (sm (fun i => wf i 3) n).toInt64 (sm (goX N wf) n / cdX (sm (goX N wf) n) (nI N)).toInt64 (nI N / cdX (sm (goX N wf) n) (nI N)).toInt64 ((drs N wf n).1).toInt64 (sm (gnX su fa wf (kN kn) (wst (fun o => sm (gnX su fa wf (kN kn) o) n) N)) n).toInt64 (nI (wst (fun o => sm (gnX su fa wf (kN kn) o) n) N)).toInt64) n) 6) 10)]) (M1 := (fun sg => wM cs am 0 bank rnds dn N n fc puM wh kn nm sk br ht sg)) (v := .long (dgK (fun k => manyM fn dn N k 7) (dgP puM (fun p o => behM puM wh sk br ht (nI p) p o n) N (dgWM N (edM fn dn N (kN kn) nm sk br) (fun i => (edM fn dn N (kN kn) nm sk br i).toInt.natAbs) wh sk br (dgH 2141 (nI dn).toInt64 (nI N).toInt64 (nI n).toInt64 bank.toInt64 rnds.toInt64 (sm sk n).toInt64 (sm (edM fn dn N (kN kn) nm sk br) n / nI (Nat.gcd (sm (edM fn dn N (kN kn) nm sk br) n).toInt.natAbs N)).toInt64 (nI N / nI (Nat.gcd (sm (edM fn dn N (kN kn) nm sk br) n).toInt.natAbs N)).toInt64 (fst9I (drM (edM fn dn N (kN kn) nm sk br) sk n)).toInt64 (sm (gnM ht sk br (wst (fun o => sm (gnM ht sk br o) n) N)) n).toInt64 (nI (wst (fun o => sm (gnM ht sk br o) n) N)).toInt64) n) 6) 10)) (mc := 1) (ms := 11) hP hD hS (fun post hp hP hD => mp_digest l D cs H hFM hWR.kd _ (hWR.abs hDC hN hn12).1 (hWR.abs hDC hN hn12).2 (fun i => (edM fn dn N (kN kn) nm sk br i).toInt.natAbs) (hWR.ab hDC hN) post hp hP hD) (gin_v mw_31_18 mw_31_19 mw_31_20 mw_1_5 mw_31_21) (by decide +kernel) ⟨Nat.le_of_ble_eq_true rfl, Nat.le_of_ble_eq_true rfl⟩ rfl hl.1 rfl (Nat.le_of_ble_eq_true rfl) dL_law_1594 ⟨Nat.le_trans (show cells + 1 ≤ cells + 4 by omega) hrm.1, Nat.le_trans (show slots + 11 ≤ slots + 64 by omega) hrm.2⟩ (fun H locs sg hP hD hS => ?_)
  refine W.eq (g2 := F0 m 1597 ls [.long (dgK (fun k => manyM fn dn N k 7) (dgP puM (fun p o => behM puM wh sk br ht (nI p) p o n) N (dgWM N (edM fn dn N (kN kn) nm sk br) (fun i => (edM fn dn N (kN kn) nm sk br i).toInt.natAbs) wh sk br (dgH 2141 (nI dn).toInt64 (nI N).toInt64 (nI n).toInt64 bank.toInt64 rnds.toInt64 (sm sk n).toInt64 (sm (edM fn dn N (kN kn) nm sk br) n / nI (Nat.gcd (sm (edM fn dn N (kN kn) nm sk br) n).toInt.natAbs N)).toInt64 (nI N / nI (Nat.gcd (sm (edM fn dn N (kN kn) nm sk br) n).toInt.natAbs N)).toInt64 (fst9I (drM (edM fn dn N (kN kn) nm sk br) sk n)).toInt64 (sm (gnM ht sk br (wst (fun o => sm (gnM ht sk br o) n) N)) n).toInt64 (nI (wst (fun o => sm (gnM ht sk br o) n) N)).toInt64) n) 6) 10), .long (dgK (fun k => nI (cn (comesX su fa k 7) N)) (dgP puX (fun p o => behX su fa puX wf (kN kn) (nI p) p o n) N (dgW N wf (dgH 2141 cnt.toInt64 (nI N).toInt64 (nI n).toInt64 bank.toInt64 rnds.toInt64 (sm (fun i => wf i 3) n).toInt64 (sm (goX N wf) n / cdX (sm (goX N wf) n) (nI N)).toInt64 (nI N / cdX (sm (goX N wf) n) (nI N)).toInt64 ((drs N wf n).1).toInt64 (sm (gnX su fa wf (kN kn) (wst (fun o => sm (gnX su fa wf (kN kn) o) n) N)) n).toInt64 (nI (wst (fun o => sm (gnX su fa wf (kN kn) o) n) N)).toInt64) n) 6) 10)]) rfl ?_
  refine W.lcmp hx hb dL_law_1597 ?_
  exact lv_if_eq (tgt := 1603) hx hb dL_law_1598 (by decide) (fun _ => (L_k CC k rfl rfl hF hP hD hS (show cells + 1 ≤ cells + 4 by omega) (show slots + 11 ≤ slots + 64 by omega) hl)) (fun h => absurd ((lcmp_eq _ _).mpr (hF.dg bank rnds)) h)
end Law
