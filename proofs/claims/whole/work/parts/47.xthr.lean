/-! the class: runs that throw; rows by program -/
set_option maxHeartbeats 4000000 in
set_option maxRecDepth 100000 in
theorem t_checkOutcome (l : Launch) (hl9 : l.stackTraces = false) (D : va_G) (cs : Nat → ClassId) (z mi : Nat) (H : Heap) {ad : Nat → Nat} {bank rnds cnt mcn : Int32} {N n cap : Nat} {su fa pu : Nat → Int32} {rf : Nat → Option Nat} {wa : Nat → Nat} {wf : Nat → Nat → Int32} {kd : Nat → Nat} (RR : RX D cs H ad bank rnds cnt mcn N n cap su fa pu rf wa wf kd) (o : Int32) (ho : o < 0 ∨ ¬ o < nI N) : Wx z mi l D cs 6 yX2_checkOutcome cX2_checkOutcome 2 none H [.ref (ad 0), .int o] xIOB := by
  refine wx_ent (by decide) (Nat.le_of_ble_eq_true rfl) ?_
  intro p e s m below meth c ls Q hx hb hr hml hown hts hlocks hl hK hT hR hH hex hQ
  have hl : lv_has ls 2 [(0, .ref (ad 0)), (1, .int o)] := hl
  have RR0 := RR
  obtain ⟨hP, hG, hN1, hN, hn, hcap⟩ := RR
  refine lv_iload_n hx hb dX2_checkOutcome_0 rfl (lv_at hl 1 rfl) ?_
  refine lv_if_lt (tgt := 15) hx hb dX2_checkOutcome_1 (by decide) (fun c_1 => ?_) (fun c_1 => ?_)
  · exact wx_throwW (E := xIOB) (ik := 254) (is := 256) (ic := 258) hQ hH hx hb hl9 hml hown hts hT hR hex hlocks hl.1 fit_IOB mw_7_20 mw_7_21 (List.mem_of_getElem? (i := 5) rfl) (hat_IOB hts hT.2.2.2.2.2.2.1) gd_IOB dX2_checkOutcome_15 dX2_checkOutcome_18 dX2_checkOutcome_19 dX2_checkOutcome_22 dX2_checkOutcome_25 (by decide) (Nat.le_of_ble_eq_true rfl)
  · refine lv_iload_n hx hb dX2_checkOutcome_4 rfl (lv_at hl 1 rfl) ?_
    refine lv_aload_n hx hb dX2_checkOutcome_5 rfl (lv_at hl 0 rfl) ?_
    refine va_get (D := D) (ci := 3) (v := .ref (ad 1)) (C := RX2) (T := TX2) (N := 5) hx hb hts inlX2 hown hK hP 0 rfl rfl 0 (by decide) (hts (Cond.fieldLink RX2 12 "TavernDice" "dice" "LTavernDice$Dice;") mw_1_17) (fun _ h9 => h9) rfl dX2_checkOutcome_6 ?_
    refine va_get (D := D) (ci := 1) (v := .int (nI N)) (C := RX0) (T := TX0) (N := 4) hx hb hts inlX0 hown hK hP 1 rfl rfl 3 (by decide) (hts (Cond.fieldLink RX2 58 "TavernDice$Dice" "outcomes" "I") mw_4_22) (fun _ h9 => h9) rfl dX2_checkOutcome_9 ?_
    refine lv_icmp_lt (tgt := 26) hx hb dX2_checkOutcome_12 (by decide) (fun c_2 => ?_) (fun c_2 => ?_)
    · rcases ho with h | h <;> contradiction
    · exact wx_throwW (E := xIOB) (ik := 254) (is := 256) (ic := 258) hQ hH hx hb hl9 hml hown hts hT hR hex hlocks hl.1 fit_IOB mw_7_20 mw_7_21 (List.mem_of_getElem? (i := 5) rfl) (hat_IOB hts hT.2.2.2.2.2.2.1) gd_IOB dX2_checkOutcome_15 dX2_checkOutcome_18 dX2_checkOutcome_19 dX2_checkOutcome_22 dX2_checkOutcome_25 (by decide) (Nat.le_of_ble_eq_true rfl)
set_option maxHeartbeats 4000000 in
set_option maxRecDepth 100000 in
theorem t_checkWager (l : Launch) (hl9 : l.stackTraces = false) (D : va_G) (cs : Nat → ClassId) (z mi : Nat) (H : Heap) {ad : Nat → Nat} {bank rnds cnt mcn : Int32} {N n cap : Nat} {su fa pu : Nat → Int32} {rf : Nat → Option Nat} {wa : Nat → Nat} {wf : Nat → Nat → Int32} {kd : Nat → Nat} (RR : RX D cs H ad bank rnds cnt mcn N n cap su fa pu rf wa wf kd) (o : Int32) (ho : o < 0 ∨ ¬ o < nI n) : Wx z mi l D cs 6 yX2_checkWager cX2_checkWager 2 none H [.ref (ad 0), .int o] xIOB := by
  refine wx_ent (by decide) (Nat.le_of_ble_eq_true rfl) ?_
  intro p e s m below meth c ls Q hx hb hr hml hown hts hlocks hl hK hT hR hH hex hQ
  have hl : lv_has ls 2 [(0, .ref (ad 0)), (1, .int o)] := hl
  have RR0 := RR
  obtain ⟨hP, hG, hN1, hN, hn, hcap⟩ := RR
  refine lv_iload_n hx hb dX2_checkWager_0 rfl (lv_at hl 1 rfl) ?_
  refine lv_if_lt (tgt := 15) hx hb dX2_checkWager_1 (by decide) (fun c_1 => ?_) (fun c_1 => ?_)
  · exact wx_throwW (E := xIOB) (ik := 254) (is := 259) (ic := 258) hQ hH hx hb hl9 hml hown hts hT hR hex hlocks hl.1 fit_IOB mw_7_20 mw_7_21 (List.mem_of_getElem? (i := 6) rfl) (hat_IOB hts hT.2.2.2.2.2.2.1) gd_IOB dX2_checkWager_15 dX2_checkWager_18 dX2_checkWager_19 dX2_checkWager_22 dX2_checkWager_25 (by decide) (Nat.le_of_ble_eq_true rfl)
  · refine lv_iload_n hx hb dX2_checkWager_4 rfl (lv_at hl 1 rfl) ?_
    refine lv_aload_n hx hb dX2_checkWager_5 rfl (lv_at hl 0 rfl) ?_
    refine va_get (D := D) (ci := 3) (v := .ref (ad 2)) (C := RX2) (T := TX2) (N := 5) hx hb hts inlX2 hown hK hP 0 rfl rfl 1 (by decide) (hts (Cond.fieldLink RX2 19 "TavernDice" "wagers" "Ljava/util/ArrayList;") mw_1_21) (fun _ h9 => h9) rfl dX2_checkWager_6 ?_
    refine rdV (As := []) (rest := [.int o]) (b := ad 2) ⟨hx, hb, hml, hown, hts⟩ hK 0 (c_size l D cs H (hP.sub [4] rfl)) (gin_v mw_11_21 mw_11_22 mw_11_23 mw_1_20 mw_12_0) (by decide +kernel) ⟨Nat.le_of_ble_eq_true rfl, Nat.le_of_ble_eq_true rfl⟩ (va_recv hK hP (ci := 0) (q0 := 4) rfl rfl) rfl hl.1 rfl (Nat.le_of_ble_eq_true rfl) dX2_checkWager_9 ⟨(Nat.zero_le _), (Nat.zero_le _)⟩ ?_
    refine W.eq (g2 := F0 m 12 ls [.int (nI n), .int o]) rfl ?_
    refine lv_icmp_lt (tgt := 26) hx hb dX2_checkWager_12 (by decide) (fun c_2 => ?_) (fun c_2 => ?_)
    · rcases ho with h | h <;> contradiction
    · exact wx_throwW (E := xIOB) (ik := 254) (is := 259) (ic := 258) hQ hH hx hb hl9 hml hown hts hT hR hex hlocks hl.1 fit_IOB mw_7_20 mw_7_21 (List.mem_of_getElem? (i := 6) rfl) (hat_IOB hts hT.2.2.2.2.2.2.1) gd_IOB dX2_checkWager_15 dX2_checkWager_18 dX2_checkWager_19 dX2_checkWager_22 dX2_checkWager_25 (by decide) (Nat.le_of_ble_eq_true rfl)
set_option maxHeartbeats 4000000 in
set_option maxRecDepth 100000 in
theorem t_checkPatron (l : Launch) (hl9 : l.stackTraces = false) (D : va_G) (cs : Nat → ClassId) (z mi : Nat) (H : Heap)  (o : Int32) (ho : o < 0 ∨ ¬ o < 6) : Wx z mi l D cs 6 yX2_checkPatron cX2_checkPatron 1 none H [.int o] xIOB := by
  refine wx_ent (by decide) (Nat.le_of_ble_eq_true rfl) ?_
  intro p e s m below meth c ls Q hx hb hr hml hown hts hlocks hl hK hT hR hH hex hQ
  have hl : lv_has ls 1 [(0, .int o)] := hl
  refine lv_iload_n hx hb dX2_checkPatron_0 rfl (lv_at hl 0 rfl) ?_
  refine lv_if_lt (tgt := 10) hx hb dX2_checkPatron_1 (by decide) (fun c_1 => ?_) (fun c_1 => ?_)
  · exact wx_throwW (E := xIOB) (ik := 254) (is := 261) (ic := 258) hQ hH hx hb hl9 hml hown hts hT hR hex hlocks hl.1 fit_IOB mw_7_20 mw_7_21 (List.mem_of_getElem? (i := 7) rfl) (hat_IOB hts hT.2.2.2.2.2.2.1) gd_IOB dX2_checkPatron_10 dX2_checkPatron_13 dX2_checkPatron_14 dX2_checkPatron_17 dX2_checkPatron_20 (by decide) (Nat.le_of_ble_eq_true rfl)
  · refine lv_iload_n hx hb dX2_checkPatron_4 rfl (lv_at hl 0 rfl) ?_
    refine lv_bipush (v := 6) hx hb dX2_checkPatron_5 (by first | decide | rfl) ?_
    refine lv_icmp_lt (tgt := 21) hx hb dX2_checkPatron_7 (by decide) (fun c_2 => ?_) (fun c_2 => ?_)
    · rcases ho with h | h <;> contradiction
    · exact wx_throwW (E := xIOB) (ik := 254) (is := 261) (ic := 258) hQ hH hx hb hl9 hml hown hts hT hR hex hlocks hl.1 fit_IOB mw_7_20 mw_7_21 (List.mem_of_getElem? (i := 7) rfl) (hat_IOB hts hT.2.2.2.2.2.2.1) gd_IOB dX2_checkPatron_10 dX2_checkPatron_13 dX2_checkPatron_14 dX2_checkPatron_17 dX2_checkPatron_20 (by decide) (Nat.le_of_ble_eq_true rfl)
set_option maxHeartbeats 4000000 in
set_option maxRecDepth 100000 in
theorem t_checkEvent (l : Launch) (hl9 : l.stackTraces = false) (D : va_G) (cs : Nat → ClassId) (z mi : Nat) (H : Heap)  (k q : Int32) (ho : k < 0 ∨ 10 ≤ k ∨ q < 0 ∨ ¬ q ≤ 36) : Wx z mi l D cs 6 yX2_checkEvent cX2_checkEvent 2 none H [.int k, .int q] xIAE := by
  refine wx_ent (by decide) (Nat.le_of_ble_eq_true rfl) ?_
  intro p e s m below meth c ls Q hx hb hr hml hown hts hlocks hl hK hT hR hH hex hQ
  have hl : lv_has ls 2 [(0, .int k), (1, .int q)] := hl
  refine lv_iload_n hx hb dX2_checkEvent_0 rfl (lv_at hl 0 rfl) ?_
  refine lv_if_lt (tgt := 20) hx hb dX2_checkEvent_1 (by decide) (fun c_1 => ?_) (fun c_1 => ?_)
  · exact wx_throwW (E := xIAE) (ik := 38) (is := 263) (ic := 42) hQ hH hx hb hl9 hml hown hts hT hR hex hlocks hl.1 fit_IAE mw_4_18 mw_4_19 (List.mem_of_getElem? (i := 8) rfl) (hat_IAE hts hT.2.2.2.2.2.2.1) gd_IAE dX2_checkEvent_20 dX2_checkEvent_23 dX2_checkEvent_24 dX2_checkEvent_27 dX2_checkEvent_30 (by decide) (Nat.le_of_ble_eq_true rfl)
  · refine lv_iload_n hx hb dX2_checkEvent_4 rfl (lv_at hl 0 rfl) ?_
    refine lv_bipush (v := 10) hx hb dX2_checkEvent_5 (by first | decide | rfl) ?_
    refine lv_icmp_ge (tgt := 20) hx hb dX2_checkEvent_7 (by decide) (fun c_2 => ?_) (fun c_2 => ?_)
    · exact wx_throwW (E := xIAE) (ik := 38) (is := 263) (ic := 42) hQ hH hx hb hl9 hml hown hts hT hR hex hlocks hl.1 fit_IAE mw_4_18 mw_4_19 (List.mem_of_getElem? (i := 8) rfl) (hat_IAE hts hT.2.2.2.2.2.2.1) gd_IAE dX2_checkEvent_20 dX2_checkEvent_23 dX2_checkEvent_24 dX2_checkEvent_27 dX2_checkEvent_30 (by decide) (Nat.le_of_ble_eq_true rfl)
    · refine lv_iload_n hx hb dX2_checkEvent_10 rfl (lv_at hl 1 rfl) ?_
      refine lv_if_lt (tgt := 20) hx hb dX2_checkEvent_11 (by decide) (fun c_3 => ?_) (fun c_3 => ?_)
      · exact wx_throwW (E := xIAE) (ik := 38) (is := 263) (ic := 42) hQ hH hx hb hl9 hml hown hts hT hR hex hlocks hl.1 fit_IAE mw_4_18 mw_4_19 (List.mem_of_getElem? (i := 8) rfl) (hat_IAE hts hT.2.2.2.2.2.2.1) gd_IAE dX2_checkEvent_20 dX2_checkEvent_23 dX2_checkEvent_24 dX2_checkEvent_27 dX2_checkEvent_30 (by decide) (Nat.le_of_ble_eq_true rfl)
      · refine lv_iload_n hx hb dX2_checkEvent_14 rfl (lv_at hl 1 rfl) ?_
        refine lv_bipush (v := 36) hx hb dX2_checkEvent_15 (by first | decide | rfl) ?_
        refine lv_icmp_le (tgt := 31) hx hb dX2_checkEvent_17 (by decide) (fun c_4 => ?_) (fun c_4 => ?_)
        · rcases ho with h | h | h | h <;> contradiction
        · exact wx_throwW (E := xIAE) (ik := 38) (is := 263) (ic := 42) hQ hH hx hb hl9 hml hown hts hT hR hex hlocks hl.1 fit_IAE mw_4_18 mw_4_19 (List.mem_of_getElem? (i := 8) rfl) (hat_IAE hts hT.2.2.2.2.2.2.1) gd_IAE dX2_checkEvent_20 dX2_checkEvent_23 dX2_checkEvent_24 dX2_checkEvent_27 dX2_checkEvent_30 (by decide) (Nat.le_of_ble_eq_true rfl)
set_option maxHeartbeats 4000000 in
set_option maxRecDepth 100000 in
theorem t_checkWin (l : Launch) (hl9 : l.stackTraces = false) (D : va_G) (cs : Nat → ClassId) (z mi : Nat) (H : Heap)  (o : Int32) (ho : o < 1 ∨ ¬ o ≤ 20) : Wx z mi l D cs 6 yX2_checkWin cX2_checkWin 1 none H [.int o] xIAE := by
  refine wx_ent (by decide) (Nat.le_of_ble_eq_true rfl) ?_
  intro p e s m below meth c ls Q hx hb hr hml hown hts hlocks hl hK hT hR hH hex hQ
  have hl : lv_has ls 1 [(0, .int o)] := hl
  refine lv_iload_n hx hb dX2_checkWin_0 rfl (lv_at hl 0 rfl) ?_
  refine lv_iconst (v := 1) hx hb dX2_checkWin_1 (by first | decide | rfl) ?_
  refine lv_icmp_lt (tgt := 11) hx hb dX2_checkWin_2 (by decide) (fun c_1 => ?_) (fun c_1 => ?_)
  · exact wx_throwW (E := xIAE) (ik := 38) (is := 265) (ic := 42) hQ hH hx hb hl9 hml hown hts hT hR hex hlocks hl.1 fit_IAE mw_4_18 mw_4_19 (List.mem_of_getElem? (i := 9) rfl) (hat_IAE hts hT.2.2.2.2.2.2.1) gd_IAE dX2_checkWin_11 dX2_checkWin_14 dX2_checkWin_15 dX2_checkWin_18 dX2_checkWin_21 (by decide) (Nat.le_of_ble_eq_true rfl)
  · refine lv_iload_n hx hb dX2_checkWin_5 rfl (lv_at hl 0 rfl) ?_
    refine lv_bipush (v := 20) hx hb dX2_checkWin_6 (by first | decide | rfl) ?_
    refine lv_icmp_le (tgt := 22) hx hb dX2_checkWin_8 (by decide) (fun c_2 => ?_) (fun c_2 => ?_)
    · rcases ho with h | h <;> contradiction
    · exact wx_throwW (E := xIAE) (ik := 38) (is := 265) (ic := 42) hQ hH hx hb hl9 hml hown hts hT hR hex hlocks hl.1 fit_IAE mw_4_18 mw_4_19 (List.mem_of_getElem? (i := 9) rfl) (hat_IAE hts hT.2.2.2.2.2.2.1) gd_IAE dX2_checkWin_11 dX2_checkWin_14 dX2_checkWin_15 dX2_checkWin_18 dX2_checkWin_21 (by decide) (Nat.le_of_ble_eq_true rfl)
set_option maxHeartbeats 4000000 in
set_option maxRecDepth 100000 in
theorem t_checkBase (l : Launch) (hl9 : l.stackTraces = false) (D : va_G) (cs : Nat → ClassId) (z mi : Nat) (H : Heap)  (o : Int32) (ho : o < 1 ∨ ¬ o ≤ 10) : Wx z mi l D cs 6 yX2_checkBase cX2_checkBase 1 none H [.int o] xIAE := by
  refine wx_ent (by decide) (Nat.le_of_ble_eq_true rfl) ?_
  intro p e s m below meth c ls Q hx hb hr hml hown hts hlocks hl hK hT hR hH hex hQ
  have hl : lv_has ls 1 [(0, .int o)] := hl
  refine lv_iload_n hx hb dX2_checkBase_0 rfl (lv_at hl 0 rfl) ?_
  refine lv_iconst (v := 1) hx hb dX2_checkBase_1 (by first | decide | rfl) ?_
  refine lv_icmp_lt (tgt := 11) hx hb dX2_checkBase_2 (by decide) (fun c_1 => ?_) (fun c_1 => ?_)
  · exact wx_throwW (E := xIAE) (ik := 38) (is := 267) (ic := 42) hQ hH hx hb hl9 hml hown hts hT hR hex hlocks hl.1 fit_IAE mw_4_18 mw_4_19 (List.mem_of_getElem? (i := 10) rfl) (hat_IAE hts hT.2.2.2.2.2.2.1) gd_IAE dX2_checkBase_11 dX2_checkBase_14 dX2_checkBase_15 dX2_checkBase_18 dX2_checkBase_21 (by decide) (Nat.le_of_ble_eq_true rfl)
  · refine lv_iload_n hx hb dX2_checkBase_5 rfl (lv_at hl 0 rfl) ?_
    refine lv_bipush (v := 10) hx hb dX2_checkBase_6 (by first | decide | rfl) ?_
    refine lv_icmp_le (tgt := 22) hx hb dX2_checkBase_8 (by decide) (fun c_2 => ?_) (fun c_2 => ?_)
    · rcases ho with h | h <;> contradiction
    · exact wx_throwW (E := xIAE) (ik := 38) (is := 267) (ic := 42) hQ hH hx hb hl9 hml hown hts hT hR hex hlocks hl.1 fit_IAE mw_4_18 mw_4_19 (List.mem_of_getElem? (i := 10) rfl) (hat_IAE hts hT.2.2.2.2.2.2.1) gd_IAE dX2_checkBase_11 dX2_checkBase_14 dX2_checkBase_15 dX2_checkBase_18 dX2_checkBase_21 (by decide) (Nat.le_of_ble_eq_true rfl)
set_option maxHeartbeats 4000000 in
set_option maxRecDepth 100000 in
theorem t_sumOf (l : Launch) (hl9 : l.stackTraces = false) (D : va_G) (cs : Nat → ClassId) (z mi : Nat) (H : Heap) {ad : Nat → Nat} {bank rnds cnt mcn : Int32} {N n cap : Nat} {su fa pu : Nat → Int32} {rf : Nat → Option Nat} {wa : Nat → Nat} {wf : Nat → Nat → Int32} {kd : Nat → Nat} (RR : RX D cs H ad bank rnds cnt mcn N n cap su fa pu rf wa wf kd) (o : Int32) (ho : o < 0 ∨ ¬ o < nI N) : Wx z mi l D cs 7 yX2_sumOf cX2_sumOf 2 (some .int) H [.ref (ad 0), .int o] xIOB := by
  refine wx_ent (by decide) (Nat.le_of_ble_eq_true rfl) ?_
  intro p e s m below meth c ls Q hx hb hr hml hown hts hlocks hl hK hT hR hH hex hQ
  have hl : lv_has ls 2 [(0, .ref (ad 0)), (1, .int o)] := hl
  have RR0 := RR
  obtain ⟨hP, hG, hN1, hN, hn, hcap⟩ := RR
  refine lv_aload_n hx hb dX2_sumOf_0 rfl (lv_at hl 0 rfl) ?_
  refine lv_iload_n hx hb dX2_sumOf_1 rfl (lv_at hl 1 rfl) ?_
  exact wx_passV (As := [.int o]) (rest := []) (b := ad 0) ⟨hx, hb, hml, hown, hts⟩ hQ hH hex hlocks hK hT hR 1 (t_checkOutcome l hl9 D cs z mi H RR0 o ho) (gin_v mw_7_16 mw_7_17 mw_7_18 mw_1_2 mw_7_19) (by decide +kernel) ⟨Nat.le_of_ble_eq_true rfl, Nat.le_of_ble_eq_true rfl⟩ (va_recv hK hP (ci := 3) (q0 := 0) rfl rfl) rfl hl.1 rfl (Nat.le_of_ble_eq_true rfl) dX2_sumOf_2
set_option maxHeartbeats 4000000 in
set_option maxRecDepth 100000 in
theorem t_settle (l : Launch) (hl9 : l.stackTraces = false) (D : va_G) (cs : Nat → ClassId) (z mi : Nat) (H : Heap) {ad : Nat → Nat} {bank rnds cnt mcn : Int32} {N n cap : Nat} {su fa pu : Nat → Int32} {rf : Nat → Option Nat} {wa : Nat → Nat} {wf : Nat → Nat → Int32} {kd : Nat → Nat} (RR : RX D cs H ad bank rnds cnt mcn N n cap su fa pu rf wa wf kd) (o : Int32) (ho : o < 0 ∨ ¬ o < nI N) : Wx z mi l D cs 7 yX2_settle cX2_settle 4 (some .int) H [.ref (ad 0), .int o] xIOB := by
  refine wx_ent (by decide) (Nat.le_of_ble_eq_true rfl) ?_
  intro p e s m below meth c ls Q hx hb hr hml hown hts hlocks hl hK hT hR hH hex hQ
  have hl : lv_has ls 4 [(0, .ref (ad 0)), (1, .int o)] := hl
  have RR0 := RR
  obtain ⟨hP, hG, hN1, hN, hn, hcap⟩ := RR
  refine lv_aload_n hx hb dX2_settle_0 rfl (lv_at hl 0 rfl) ?_
  refine lv_iload_n hx hb dX2_settle_1 rfl (lv_at hl 1 rfl) ?_
  exact wx_passV (As := [.int o]) (rest := []) (b := ad 0) ⟨hx, hb, hml, hown, hts⟩ hQ hH hex hlocks hK hT hR 1 (t_checkOutcome l hl9 D cs z mi H RR0 o ho) (gin_v mw_7_16 mw_7_17 mw_7_18 mw_1_2 mw_7_19) (by decide +kernel) ⟨Nat.le_of_ble_eq_true rfl, Nat.le_of_ble_eq_true rfl⟩ (va_recv hK hP (ci := 3) (q0 := 0) rfl rfl) rfl hl.1 rfl (Nat.le_of_ble_eq_true rfl) dX2_settle_2
set_option maxHeartbeats 4000000 in
set_option maxRecDepth 100000 in
theorem t_gainAt (l : Launch) (hl9 : l.stackTraces = false) (D : va_G) (cs : Nat → ClassId) (z mi : Nat) (H : Heap) {ad : Nat → Nat} {bank rnds cnt mcn : Int32} {N n cap : Nat} {su fa pu : Nat → Int32} {rf : Nat → Option Nat} {wa : Nat → Nat} {wf : Nat → Nat → Int32} {kd : Nat → Nat} (RR : RX D cs H ad bank rnds cnt mcn N n cap su fa pu rf wa wf kd) (o : Int32) (ho : o < 0 ∨ ¬ o < nI N) : Wx z mi l D cs 7 yX2_gainAt cX2_gainAt 2 (some .int) H [.ref (ad 0), .int o] xIOB := by
  refine wx_ent (by decide) (Nat.le_of_ble_eq_true rfl) ?_
  intro p e s m below meth c ls Q hx hb hr hml hown hts hlocks hl hK hT hR hH hex hQ
  have hl : lv_has ls 2 [(0, .ref (ad 0)), (1, .int o)] := hl
  have RR0 := RR
  obtain ⟨hP, hG, hN1, hN, hn, hcap⟩ := RR
  refine lv_aload_n hx hb dX2_gainAt_0 rfl (lv_at hl 0 rfl) ?_
  refine lv_iload_n hx hb dX2_gainAt_1 rfl (lv_at hl 1 rfl) ?_
  exact wx_passV (As := [.int o]) (rest := []) (b := ad 0) ⟨hx, hb, hml, hown, hts⟩ hQ hH hex hlocks hK hT hR 1 (t_checkOutcome l hl9 D cs z mi H RR0 o ho) (gin_v mw_7_16 mw_7_17 mw_7_18 mw_1_2 mw_7_19) (by decide +kernel) ⟨Nat.le_of_ble_eq_true rfl, Nat.le_of_ble_eq_true rfl⟩ (va_recv hK hP (ci := 3) (q0 := 0) rfl rfl) rfl hl.1 rfl (Nat.le_of_ble_eq_true rfl) dX2_gainAt_2
set_option maxHeartbeats 4000000 in
set_option maxRecDepth 100000 in
theorem t_takeBack (l : Launch) (hl9 : l.stackTraces = false) (D : va_G) (cs : Nat → ClassId) (z mi : Nat) (H : Heap) {ad : Nat → Nat} {bank rnds cnt mcn : Int32} {N n cap : Nat} {su fa pu : Nat → Int32} {rf : Nat → Option Nat} {wa : Nat → Nat} {wf : Nat → Nat → Int32} {kd : Nat → Nat} (RR : RX D cs H ad bank rnds cnt mcn N n cap su fa pu rf wa wf kd) (o : Int32) (ho : o < 0 ∨ ¬ o < nI n) : Wx z mi l D cs 7 yX2_takeBack cX2_takeBack 3 (some .int) H [.ref (ad 0), .int o] xIOB := by
  refine wx_ent (by decide) (Nat.le_of_ble_eq_true rfl) ?_
  intro p e s m below meth c ls Q hx hb hr hml hown hts hlocks hl hK hT hR hH hex hQ
  have hl : lv_has ls 3 [(0, .ref (ad 0)), (1, .int o)] := hl
  have RR0 := RR
  obtain ⟨hP, hG, hN1, hN, hn, hcap⟩ := RR
  refine lv_aload_n hx hb dX2_takeBack_0 rfl (lv_at hl 0 rfl) ?_
  refine lv_iload_n hx hb dX2_takeBack_1 rfl (lv_at hl 1 rfl) ?_
  exact wx_passV (As := [.int o]) (rest := []) (b := ad 0) ⟨hx, hb, hml, hown, hts⟩ hQ hH hex hlocks hK hT hR 1 (t_checkWager l hl9 D cs z mi H RR0 o ho) (gin_v mw_15_10 mw_15_11 mw_15_12 mw_1_2 mw_15_13) (by decide +kernel) ⟨Nat.le_of_ble_eq_true rfl, Nat.le_of_ble_eq_true rfl⟩ (va_recv hK hP (ci := 3) (q0 := 0) rfl rfl) rfl hl.1 rfl (Nat.le_of_ble_eq_true rfl) dX2_takeBack_2
set_option maxHeartbeats 4000000 in
set_option maxRecDepth 100000 in
theorem t_patronOf (l : Launch) (hl9 : l.stackTraces = false) (D : va_G) (cs : Nat → ClassId) (z mi : Nat) (H : Heap) {ad : Nat → Nat} {bank rnds cnt mcn : Int32} {N n cap : Nat} {su fa pu : Nat → Int32} {rf : Nat → Option Nat} {wa : Nat → Nat} {wf : Nat → Nat → Int32} {kd : Nat → Nat} (RR : RX D cs H ad bank rnds cnt mcn N n cap su fa pu rf wa wf kd) (o : Int32) (ho : o < 0 ∨ ¬ o < nI n) : Wx z mi l D cs 7 yX2_patronOf cX2_patronOf 2 (some .int) H [.ref (ad 0), .int o] xIOB := by
  refine wx_ent (by decide) (Nat.le_of_ble_eq_true rfl) ?_
  intro p e s m below meth c ls Q hx hb hr hml hown hts hlocks hl hK hT hR hH hex hQ
  have hl : lv_has ls 2 [(0, .ref (ad 0)), (1, .int o)] := hl
  have RR0 := RR
  obtain ⟨hP, hG, hN1, hN, hn, hcap⟩ := RR
  refine lv_aload_n hx hb dX2_patronOf_0 rfl (lv_at hl 0 rfl) ?_
  refine lv_iload_n hx hb dX2_patronOf_1 rfl (lv_at hl 1 rfl) ?_
  exact wx_passV (As := [.int o]) (rest := []) (b := ad 0) ⟨hx, hb, hml, hown, hts⟩ hQ hH hex hlocks hK hT hR 1 (t_checkWager l hl9 D cs z mi H RR0 o ho) (gin_v mw_15_10 mw_15_11 mw_15_12 mw_1_2 mw_15_13) (by decide +kernel) ⟨Nat.le_of_ble_eq_true rfl, Nat.le_of_ble_eq_true rfl⟩ (va_recv hK hP (ci := 3) (q0 := 0) rfl rfl) rfl hl.1 rfl (Nat.le_of_ble_eq_true rfl) dX2_patronOf_2
set_option maxHeartbeats 4000000 in
set_option maxRecDepth 100000 in
theorem t_stakeOf (l : Launch) (hl9 : l.stackTraces = false) (D : va_G) (cs : Nat → ClassId) (z mi : Nat) (H : Heap) {ad : Nat → Nat} {bank rnds cnt mcn : Int32} {N n cap : Nat} {su fa pu : Nat → Int32} {rf : Nat → Option Nat} {wa : Nat → Nat} {wf : Nat → Nat → Int32} {kd : Nat → Nat} (RR : RX D cs H ad bank rnds cnt mcn N n cap su fa pu rf wa wf kd) (o : Int32) (ho : o < 0 ∨ ¬ o < nI n) : Wx z mi l D cs 7 yX2_stakeOf cX2_stakeOf 2 (some .int) H [.ref (ad 0), .int o] xIOB := by
  refine wx_ent (by decide) (Nat.le_of_ble_eq_true rfl) ?_
  intro p e s m below meth c ls Q hx hb hr hml hown hts hlocks hl hK hT hR hH hex hQ
  have hl : lv_has ls 2 [(0, .ref (ad 0)), (1, .int o)] := hl
  have RR0 := RR
  obtain ⟨hP, hG, hN1, hN, hn, hcap⟩ := RR
  refine lv_aload_n hx hb dX2_stakeOf_0 rfl (lv_at hl 0 rfl) ?_
  refine lv_iload_n hx hb dX2_stakeOf_1 rfl (lv_at hl 1 rfl) ?_
  exact wx_passV (As := [.int o]) (rest := []) (b := ad 0) ⟨hx, hb, hml, hown, hts⟩ hQ hH hex hlocks hK hT hR 1 (t_checkWager l hl9 D cs z mi H RR0 o ho) (gin_v mw_15_10 mw_15_11 mw_15_12 mw_1_2 mw_15_13) (by decide +kernel) ⟨Nat.le_of_ble_eq_true rfl, Nat.le_of_ble_eq_true rfl⟩ (va_recv hK hP (ci := 3) (q0 := 0) rfl rfl) rfl hl.1 rfl (Nat.le_of_ble_eq_true rfl) dX2_stakeOf_2
set_option maxHeartbeats 4000000 in
set_option maxRecDepth 100000 in
theorem t_bringsOf (l : Launch) (hl9 : l.stackTraces = false) (D : va_G) (cs : Nat → ClassId) (z mi : Nat) (H : Heap) {ad : Nat → Nat} {bank rnds cnt mcn : Int32} {N n cap : Nat} {su fa pu : Nat → Int32} {rf : Nat → Option Nat} {wa : Nat → Nat} {wf : Nat → Nat → Int32} {kd : Nat → Nat} (RR : RX D cs H ad bank rnds cnt mcn N n cap su fa pu rf wa wf kd) (o : Int32) (ho : o < 0 ∨ ¬ o < nI n) : Wx z mi l D cs 7 yX2_bringsOf cX2_bringsOf 2 (some .int) H [.ref (ad 0), .int o] xIOB := by
  refine wx_ent (by decide) (Nat.le_of_ble_eq_true rfl) ?_
  intro p e s m below meth c ls Q hx hb hr hml hown hts hlocks hl hK hT hR hH hex hQ
  have hl : lv_has ls 2 [(0, .ref (ad 0)), (1, .int o)] := hl
  have RR0 := RR
  obtain ⟨hP, hG, hN1, hN, hn, hcap⟩ := RR
  refine lv_aload_n hx hb dX2_bringsOf_0 rfl (lv_at hl 0 rfl) ?_
  refine lv_iload_n hx hb dX2_bringsOf_1 rfl (lv_at hl 1 rfl) ?_
  exact wx_passV (As := [.int o]) (rest := []) (b := ad 0) ⟨hx, hb, hml, hown, hts⟩ hQ hH hex hlocks hK hT hR 1 (t_checkWager l hl9 D cs z mi H RR0 o ho) (gin_v mw_15_10 mw_15_11 mw_15_12 mw_1_2 mw_15_13) (by decide +kernel) ⟨Nat.le_of_ble_eq_true rfl, Nat.le_of_ble_eq_true rfl⟩ (va_recv hK hP (ci := 3) (q0 := 0) rfl rfl) rfl hl.1 rfl (Nat.le_of_ble_eq_true rfl) dX2_bringsOf_2
set_option maxHeartbeats 4000000 in
set_option maxRecDepth 100000 in
theorem t_edgeTop (l : Launch) (hl9 : l.stackTraces = false) (D : va_G) (cs : Nat → ClassId) (z mi : Nat) (H : Heap) {ad : Nat → Nat} {bank rnds cnt mcn : Int32} {N n cap : Nat} {su fa pu : Nat → Int32} {rf : Nat → Option Nat} {wa : Nat → Nat} {wf : Nat → Nat → Int32} {kd : Nat → Nat} (RR : RX D cs H ad bank rnds cnt mcn N n cap su fa pu rf wa wf kd) (o : Int32) (ho : o < 0 ∨ ¬ o < nI n) : Wx z mi l D cs 7 yX2_edgeTop cX2_edgeTop 2 (some .int) H [.ref (ad 0), .int o] xIOB := by
  refine wx_ent (by decide) (Nat.le_of_ble_eq_true rfl) ?_
  intro p e s m below meth c ls Q hx hb hr hml hown hts hlocks hl hK hT hR hH hex hQ
  have hl : lv_has ls 2 [(0, .ref (ad 0)), (1, .int o)] := hl
  have RR0 := RR
  obtain ⟨hP, hG, hN1, hN, hn, hcap⟩ := RR
  refine lv_aload_n hx hb dX2_edgeTop_0 rfl (lv_at hl 0 rfl) ?_
  refine lv_iload_n hx hb dX2_edgeTop_1 rfl (lv_at hl 1 rfl) ?_
  exact wx_passV (As := [.int o]) (rest := []) (b := ad 0) ⟨hx, hb, hml, hown, hts⟩ hQ hH hex hlocks hK hT hR 1 (t_checkWager l hl9 D cs z mi H RR0 o ho) (gin_v mw_15_10 mw_15_11 mw_15_12 mw_1_2 mw_15_13) (by decide +kernel) ⟨Nat.le_of_ble_eq_true rfl, Nat.le_of_ble_eq_true rfl⟩ (va_recv hK hP (ci := 3) (q0 := 0) rfl rfl) rfl hl.1 rfl (Nat.le_of_ble_eq_true rfl) dX2_edgeTop_2
set_option maxHeartbeats 4000000 in
set_option maxRecDepth 100000 in
theorem t_edgeBottom (l : Launch) (hl9 : l.stackTraces = false) (D : va_G) (cs : Nat → ClassId) (z mi : Nat) (H : Heap) {ad : Nat → Nat} {bank rnds cnt mcn : Int32} {N n cap : Nat} {su fa pu : Nat → Int32} {rf : Nat → Option Nat} {wa : Nat → Nat} {wf : Nat → Nat → Int32} {kd : Nat → Nat} (RR : RX D cs H ad bank rnds cnt mcn N n cap su fa pu rf wa wf kd) (o : Int32) (ho : o < 0 ∨ ¬ o < nI n) : Wx z mi l D cs 7 yX2_edgeBottom cX2_edgeBottom 2 (some .int) H [.ref (ad 0), .int o] xIOB := by
  refine wx_ent (by decide) (Nat.le_of_ble_eq_true rfl) ?_
  intro p e s m below meth c ls Q hx hb hr hml hown hts hlocks hl hK hT hR hH hex hQ
  have hl : lv_has ls 2 [(0, .ref (ad 0)), (1, .int o)] := hl
  have RR0 := RR
  obtain ⟨hP, hG, hN1, hN, hn, hcap⟩ := RR
  refine lv_aload_n hx hb dX2_edgeBottom_0 rfl (lv_at hl 0 rfl) ?_
  refine lv_iload_n hx hb dX2_edgeBottom_1 rfl (lv_at hl 1 rfl) ?_
  exact wx_passV (As := [.int o]) (rest := []) (b := ad 0) ⟨hx, hb, hml, hown, hts⟩ hQ hH hex hlocks hK hT hR 1 (t_checkWager l hl9 D cs z mi H RR0 o ho) (gin_v mw_15_10 mw_15_11 mw_15_12 mw_1_2 mw_15_13) (by decide +kernel) ⟨Nat.le_of_ble_eq_true rfl, Nat.le_of_ble_eq_true rfl⟩ (va_recv hK hP (ci := 3) (q0 := 0) rfl rfl) rfl hl.1 rfl (Nat.le_of_ble_eq_true rfl) dX2_edgeBottom_2
set_option maxHeartbeats 4000000 in
set_option maxRecDepth 100000 in
theorem t_purseOf (l : Launch) (hl9 : l.stackTraces = false) (D : va_G) (cs : Nat → ClassId) (z mi : Nat) (H : Heap) {ad : Nat → Nat} {bank rnds cnt mcn : Int32} {N n cap : Nat} {su fa pu : Nat → Int32} {rf : Nat → Option Nat} {wa : Nat → Nat} {wf : Nat → Nat → Int32} {kd : Nat → Nat} (RR : RX D cs H ad bank rnds cnt mcn N n cap su fa pu rf wa wf kd) (o : Int32) (ho : o < 0 ∨ ¬ o < 6) : Wx z mi l D cs 7 yX2_purseOf cX2_purseOf 2 (some .int) H [.ref (ad 0), .int o] xIOB := by
  refine wx_ent (by decide) (Nat.le_of_ble_eq_true rfl) ?_
  intro p e s m below meth c ls Q hx hb hr hml hown hts hlocks hl hK hT hR hH hex hQ
  have hl : lv_has ls 2 [(0, .ref (ad 0)), (1, .int o)] := hl
  have RR0 := RR
  obtain ⟨hP, hG, hN1, hN, hn, hcap⟩ := RR
  refine lv_iload_n hx hb dX2_purseOf_0 rfl (lv_at hl 1 rfl) ?_
  exact wx_passS (As := [.int o]) (rest := []) ⟨hx, hb, hml, hown, hts⟩ hQ hH hex hlocks hK hT hR 1 (t_checkPatron l hl9 D cs z mi H o ho) (gin_s mw_11_12 mw_11_13 mw_1_2 mw_11_14) (by decide +kernel) ⟨Nat.le_of_ble_eq_true rfl, Nat.le_of_ble_eq_true rfl⟩ rfl hl.1 rfl (Nat.le_of_ble_eq_true rfl) dX2_purseOf_1
set_option maxHeartbeats 4000000 in
set_option maxRecDepth 100000 in
theorem t_leastPurse (l : Launch) (hl9 : l.stackTraces = false) (D : va_G) (cs : Nat → ClassId) (z mi : Nat) (H : Heap) {ad : Nat → Nat} {bank rnds cnt mcn : Int32} {N n cap : Nat} {su fa pu : Nat → Int32} {rf : Nat → Option Nat} {wa : Nat → Nat} {wf : Nat → Nat → Int32} {kd : Nat → Nat} (RR : RX D cs H ad bank rnds cnt mcn N n cap su fa pu rf wa wf kd) (o : Int32) (ho : o < 0 ∨ ¬ o < 6) : Wx z mi l D cs 7 yX2_leastPurse cX2_leastPurse 4 (some .int) H [.ref (ad 0), .int o] xIOB := by
  refine wx_ent (by decide) (Nat.le_of_ble_eq_true rfl) ?_
  intro p e s m below meth c ls Q hx hb hr hml hown hts hlocks hl hK hT hR hH hex hQ
  have hl : lv_has ls 4 [(0, .ref (ad 0)), (1, .int o)] := hl
  have RR0 := RR
  obtain ⟨hP, hG, hN1, hN, hn, hcap⟩ := RR
  refine lv_iload_n hx hb dX2_leastPurse_0 rfl (lv_at hl 1 rfl) ?_
  exact wx_passS (As := [.int o]) (rest := []) ⟨hx, hb, hml, hown, hts⟩ hQ hH hex hlocks hK hT hR 1 (t_checkPatron l hl9 D cs z mi H o ho) (gin_s mw_11_12 mw_11_13 mw_1_2 mw_11_14) (by decide +kernel) ⟨Nat.le_of_ble_eq_true rfl, Nat.le_of_ble_eq_true rfl⟩ rfl hl.1 rfl (Nat.le_of_ble_eq_true rfl) dX2_leastPurse_1
set_option maxHeartbeats 4000000 in
set_option maxRecDepth 100000 in
theorem t_isHedged (l : Launch) (hl9 : l.stackTraces = false) (D : va_G) (cs : Nat → ClassId) (z mi : Nat) (H : Heap) {ad : Nat → Nat} {bank rnds cnt mcn : Int32} {N n cap : Nat} {su fa pu : Nat → Int32} {rf : Nat → Option Nat} {wa : Nat → Nat} {wf : Nat → Nat → Int32} {kd : Nat → Nat} (RR : RX D cs H ad bank rnds cnt mcn N n cap su fa pu rf wa wf kd) (o : Int32) (ho : o < 0 ∨ ¬ o < 6) : Wx z mi l D cs 7 yX2_isHedged cX2_isHedged 4 (some .boolean) H [.ref (ad 0), .int o] xIOB := by
  refine wx_ent (by decide) (Nat.le_of_ble_eq_true rfl) ?_
  intro p e s m below meth c ls Q hx hb hr hml hown hts hlocks hl hK hT hR hH hex hQ
  have hl : lv_has ls 4 [(0, .ref (ad 0)), (1, .int o)] := hl
  have RR0 := RR
  obtain ⟨hP, hG, hN1, hN, hn, hcap⟩ := RR
  refine lv_iload_n hx hb dX2_isHedged_0 rfl (lv_at hl 1 rfl) ?_
  exact wx_passS (As := [.int o]) (rest := []) ⟨hx, hb, hml, hown, hts⟩ hQ hH hex hlocks hK hT hR 1 (t_checkPatron l hl9 D cs z mi H o ho) (gin_s mw_11_12 mw_11_13 mw_1_2 mw_11_14) (by decide +kernel) ⟨Nat.le_of_ble_eq_true rfl, Nat.le_of_ble_eq_true rfl⟩ rfl hl.1 rfl (Nat.le_of_ble_eq_true rfl) dX2_isHedged_1
set_option maxHeartbeats 4000000 in
set_option maxRecDepth 100000 in
theorem t_ways (l : Launch) (hl9 : l.stackTraces = false) (D : va_G) (cs : Nat → ClassId) (z mi : Nat) (H : Heap) {ad : Nat → Nat} {bank rnds cnt mcn : Int32} {N n cap : Nat} {su fa pu : Nat → Int32} {rf : Nat → Option Nat} {wa : Nat → Nat} {wf : Nat → Nat → Int32} {kd : Nat → Nat} (RR : RX D cs H ad bank rnds cnt mcn N n cap su fa pu rf wa wf kd) (k q : Int32) (ho : k < 0 ∨ 10 ≤ k ∨ q < 0 ∨ ¬ q ≤ 36) : Wx z mi l D cs 7 yX2_ways cX2_ways 3 (some .int) H [.ref (ad 0), .int k, .int q] xIAE := by
  refine wx_ent (by decide) (Nat.le_of_ble_eq_true rfl) ?_
  intro p e s m below meth c ls Q hx hb hr hml hown hts hlocks hl hK hT hR hH hex hQ
  have hl : lv_has ls 3 [(0, .ref (ad 0)), (1, .int k), (2, .int q)] := hl
  have RR0 := RR
  obtain ⟨hP, hG, hN1, hN, hn, hcap⟩ := RR
  refine lv_iload_n hx hb dX2_ways_0 rfl (lv_at hl 1 rfl) ?_
  refine lv_iload_n hx hb dX2_ways_1 rfl (lv_at hl 2 rfl) ?_
  exact wx_passS (As := [.int k, .int q]) (rest := []) ⟨hx, hb, hml, hown, hts⟩ hQ hH hex hlocks hK hT hR 2 (t_checkEvent l hl9 D cs z mi H k q ho) (gin_s mw_8_21 mw_8_22 mw_1_2 mw_8_23) (by decide +kernel) ⟨Nat.le_of_ble_eq_true rfl, Nat.le_of_ble_eq_true rfl⟩ rfl hl.1 rfl (Nat.le_of_ble_eq_true rfl) dX2_ways_2
set_option maxHeartbeats 4000000 in
set_option maxRecDepth 100000 in
theorem t_chance (l : Launch) (hl9 : l.stackTraces = false) (D : va_G) (cs : Nat → ClassId) (z mi : Nat) (H : Heap) {ad : Nat → Nat} {bank rnds cnt mcn : Int32} {N n cap : Nat} {su fa pu : Nat → Int32} {rf : Nat → Option Nat} {wa : Nat → Nat} {wf : Nat → Nat → Int32} {kd : Nat → Nat} (RR : RX D cs H ad bank rnds cnt mcn N n cap su fa pu rf wa wf kd) (k q : Int32) (ho : k < 0 ∨ 10 ≤ k ∨ q < 0 ∨ ¬ q ≤ 36) : Wx z mi l D cs 7 yX2_chance cX2_chance 3 (some .double) H [.ref (ad 0), .int k, .int q] xIAE := by
  refine wx_ent (by decide) (Nat.le_of_ble_eq_true rfl) ?_
  intro p e s m below meth c ls Q hx hb hr hml hown hts hlocks hl hK hT hR hH hex hQ
  have hl : lv_has ls 3 [(0, .ref (ad 0)), (1, .int k), (2, .int q)] := hl
  have RR0 := RR
  obtain ⟨hP, hG, hN1, hN, hn, hcap⟩ := RR
  refine lv_iload_n hx hb dX2_chance_0 rfl (lv_at hl 1 rfl) ?_
  refine lv_iload_n hx hb dX2_chance_1 rfl (lv_at hl 2 rfl) ?_
  exact wx_passS (As := [.int k, .int q]) (rest := []) ⟨hx, hb, hml, hown, hts⟩ hQ hH hex hlocks hK hT hR 2 (t_checkEvent l hl9 D cs z mi H k q ho) (gin_s mw_8_21 mw_8_22 mw_1_2 mw_8_23) (by decide +kernel) ⟨Nat.le_of_ble_eq_true rfl, Nat.le_of_ble_eq_true rfl⟩ rfl hl.1 rfl (Nat.le_of_ble_eq_true rfl) dX2_chance_2
set_option maxHeartbeats 4000000 in
set_option maxRecDepth 100000 in
theorem t_purseAt1 (l : Launch) (hl9 : l.stackTraces = false) (D : va_G) (cs : Nat → ClassId) (z mi : Nat) (H : Heap) {ad : Nat → Nat} {bank rnds cnt mcn : Int32} {N n cap : Nat} {su fa pu : Nat → Int32} {rf : Nat → Option Nat} {wa : Nat → Nat} {wf : Nat → Nat → Int32} {kd : Nat → Nat} (RR : RX D cs H ad bank rnds cnt mcn N n cap su fa pu rf wa wf kd) (o : Int32) (ho : o < 0 ∨ ¬ o < 6) (w9 : Int32) : Wx z mi l D cs 7 yX2_purseAt cX2_purseAt 3 (some .int) H [.ref (ad 0), .int o, .int w9] xIOB := by
  refine wx_ent (by decide) (Nat.le_of_ble_eq_true rfl) ?_
  intro p e s m below meth c ls Q hx hb hr hml hown hts hlocks hl hK hT hR hH hex hQ
  have hl : lv_has ls 3 [(0, .ref (ad 0)), (1, .int o), (2, .int w9)] := hl
  have RR0 := RR
  obtain ⟨hP, hG, hN1, hN, hn, hcap⟩ := RR
  refine lv_iload_n hx hb dX2_purseAt_0 rfl (lv_at hl 1 rfl) ?_
  exact wx_passS (As := [.int o]) (rest := []) ⟨hx, hb, hml, hown, hts⟩ hQ hH hex hlocks hK hT hR 1 (t_checkPatron l hl9 D cs z mi H o ho) (gin_s mw_11_12 mw_11_13 mw_1_2 mw_11_14) (by decide +kernel) ⟨Nat.le_of_ble_eq_true rfl, Nat.le_of_ble_eq_true rfl⟩ rfl hl.1 rfl (Nat.le_of_ble_eq_true rfl) dX2_purseAt_1
set_option maxHeartbeats 4000000 in
set_option maxRecDepth 100000 in
theorem t_purseAt2 (l : Launch) (hl9 : l.stackTraces = false) (D : va_G) (cs : Nat → ClassId) (z mi : Nat) (H : Heap) {ad : Nat → Nat} {bank rnds cnt mcn : Int32} {N n cap : Nat} {su fa pu : Nat → Int32} {rf : Nat → Option Nat} {wa : Nat → Nat} {wf : Nat → Nat → Int32} {kd : Nat → Nat} (RR : RX D cs H ad bank rnds cnt mcn N n cap su fa pu rf wa wf kd) (i : Nat) (hi : i < 6) (o : Int32) (ho : o < 0 ∨ ¬ o < nI N) : Wx z mi l D cs 7 yX2_purseAt cX2_purseAt 3 (some .int) H [.ref (ad 0), .int (nI i), .int o] xIOB := by
  refine wx_ent (by decide) (Nat.le_of_ble_eq_true rfl) ?_
  intro p e s m below meth c ls Q hx hb hr hml hown hts hlocks hl hK hT hR hH hex hQ
  have hl : lv_has ls 3 [(0, .ref (ad 0)), (1, .int (nI i)), (2, .int o)] := hl
  have RR0 := RR
  obtain ⟨hP, hG, hN1, hN, hn, hcap⟩ := RR
  refine lv_iload_n hx hb dX2_purseAt_0 rfl (lv_at hl 1 rfl) ?_
  refine rdS (As := [.int (nI i)]) (rest := []) ⟨hx, hb, hml, hown, hts⟩ hK 1 (c_checkPatron l D cs H i (by omega)) (gin_s mw_11_12 mw_11_13 mw_1_2 mw_11_14) (by decide +kernel) ⟨Nat.le_of_ble_eq_true rfl, Nat.le_of_ble_eq_true rfl⟩ rfl hl.1 rfl (Nat.le_of_ble_eq_true rfl) dX2_purseAt_1 ⟨(Nat.zero_le _), (Nat.zero_le _)⟩ ?_
  refine W.eq (g2 := F0 m 4 ls []) rfl ?_
  refine lv_aload_n hx hb dX2_purseAt_4 rfl (lv_at hl 0 rfl) ?_
  refine lv_iload_n hx hb dX2_purseAt_5 rfl (lv_at hl 2 rfl) ?_
  exact wx_passV (As := [.int o]) (rest := []) (b := ad 0) ⟨hx, hb, hml, hown, hts⟩ hQ hH hex hlocks hK hT hR 1 (t_checkOutcome l hl9 D cs z mi H RR0 o ho) (gin_v mw_7_16 mw_7_17 mw_7_18 mw_1_2 mw_7_19) (by decide +kernel) ⟨Nat.le_of_ble_eq_true rfl, Nat.le_of_ble_eq_true rfl⟩ (va_recv hK hP (ci := 3) (q0 := 0) rfl rfl) rfl hl.1 rfl (Nat.le_of_ble_eq_true rfl) dX2_purseAt_6
set_option maxHeartbeats 4000000 in
set_option maxRecDepth 100000 in
theorem t_hedgeFor1 (l : Launch) (hl9 : l.stackTraces = false) (D : va_G) (cs : Nat → ClassId) (z mi : Nat) (H : Heap) {ad : Nat → Nat} {bank rnds cnt mcn : Int32} {N n cap : Nat} {su fa pu : Nat → Int32} {rf : Nat → Option Nat} {wa : Nat → Nat} {wf : Nat → Nat → Int32} {kd : Nat → Nat} (RR : RX D cs H ad bank rnds cnt mcn N n cap su fa pu rf wa wf kd) (o : Int32) (ho : o < 0 ∨ ¬ o < nI n) (w9 b9 : Int32) : Wx z mi l D cs 7 yX2_hedgeFor cX2_hedgeFor 8 (some .int) H [.ref (ad 0), .int o, .int w9, .int b9] xIOB := by
  refine wx_ent (by decide) (Nat.le_of_ble_eq_true rfl) ?_
  intro p e s m below meth c ls Q hx hb hr hml hown hts hlocks hl hK hT hR hH hex hQ
  have hl : lv_has ls 8 [(0, .ref (ad 0)), (1, .int o), (2, .int w9), (3, .int b9)] := hl
  have RR0 := RR
  obtain ⟨hP, hG, hN1, hN, hn, hcap⟩ := RR
  refine lv_aload_n hx hb dX2_hedgeFor_0 rfl (lv_at hl 0 rfl) ?_
  refine lv_iload_n hx hb dX2_hedgeFor_1 rfl (lv_at hl 1 rfl) ?_
  exact wx_passV (As := [.int o]) (rest := []) (b := ad 0) ⟨hx, hb, hml, hown, hts⟩ hQ hH hex hlocks hK hT hR 1 (t_checkWager l hl9 D cs z mi H RR0 o ho) (gin_v mw_15_10 mw_15_11 mw_15_12 mw_1_2 mw_15_13) (by decide +kernel) ⟨Nat.le_of_ble_eq_true rfl, Nat.le_of_ble_eq_true rfl⟩ (va_recv hK hP (ci := 3) (q0 := 0) rfl rfl) rfl hl.1 rfl (Nat.le_of_ble_eq_true rfl) dX2_hedgeFor_2
set_option maxHeartbeats 4000000 in
set_option maxRecDepth 100000 in
theorem t_hedgeFor2 (l : Launch) (hl9 : l.stackTraces = false) (D : va_G) (cs : Nat → ClassId) (z mi : Nat) (H : Heap) {ad : Nat → Nat} {bank rnds cnt mcn : Int32} {N n cap : Nat} {su fa pu : Nat → Int32} {rf : Nat → Option Nat} {wa : Nat → Nat} {wf : Nat → Nat → Int32} {kd : Nat → Nat} (RR : RX D cs H ad bank rnds cnt mcn N n cap su fa pu rf wa wf kd) (i : Nat) (hlt : i < n) (o b9 : Int32) (ho : o < 1 ∨ ¬ o ≤ 20) : Wx z mi l D cs 7 yX2_hedgeFor cX2_hedgeFor 8 (some .int) H [.ref (ad 0), .int (nI i), .int o, .int b9] xIAE := by
  refine wx_ent (by decide) (Nat.le_of_ble_eq_true rfl) ?_
  intro p e s m below meth c ls Q hx hb hr hml hown hts hlocks hl hK hT hR hH hex hQ
  have hl : lv_has ls 8 [(0, .ref (ad 0)), (1, .int (nI i)), (2, .int o), (3, .int b9)] := hl
  have RR0 := RR
  obtain ⟨hP, hG, hN1, hN, hn, hcap⟩ := RR
  refine lv_aload_n hx hb dX2_hedgeFor_0 rfl (lv_at hl 0 rfl) ?_
  refine lv_iload_n hx hb dX2_hedgeFor_1 rfl (lv_at hl 1 rfl) ?_
  refine rdV (As := [.int (nI i)]) (rest := []) (b := ad 0) ⟨hx, hb, hml, hown, hts⟩ hK 1 (c_checkWager l D cs H RR0 i hlt) (gin_v mw_15_10 mw_15_11 mw_15_12 mw_1_2 mw_15_13) (by decide +kernel) ⟨Nat.le_of_ble_eq_true rfl, Nat.le_of_ble_eq_true rfl⟩ (va_recv hK hP (ci := 3) (q0 := 0) rfl rfl) rfl hl.1 rfl (Nat.le_of_ble_eq_true rfl) dX2_hedgeFor_2 ⟨(Nat.zero_le _), (Nat.zero_le _)⟩ ?_
  refine W.eq (g2 := F0 m 5 ls []) rfl ?_
  refine lv_iload_n hx hb dX2_hedgeFor_5 rfl (lv_at hl 2 rfl) ?_
  exact wx_passS (As := [.int o]) (rest := []) ⟨hx, hb, hml, hown, hts⟩ hQ hH hex hlocks hK hT hR 1 (t_checkWin l hl9 D cs z mi H o ho) (gin_s mw_11_15 mw_11_16 mw_1_2 mw_11_17) (by decide +kernel) ⟨Nat.le_of_ble_eq_true rfl, Nat.le_of_ble_eq_true rfl⟩ rfl hl.1 rfl (Nat.le_of_ble_eq_true rfl) dX2_hedgeFor_6
set_option maxHeartbeats 4000000 in
set_option maxRecDepth 100000 in
theorem t_hedgeFor3 (l : Launch) (hl9 : l.stackTraces = false) (D : va_G) (cs : Nat → ClassId) (z mi : Nat) (H : Heap) {ad : Nat → Nat} {bank rnds cnt mcn : Int32} {N n cap : Nat} {su fa pu : Nat → Int32} {rf : Nat → Option Nat} {wa : Nat → Nat} {wf : Nat → Nat → Int32} {kd : Nat → Nat} (RR : RX D cs H ad bank rnds cnt mcn N n cap su fa pu rf wa wf kd) (i : Nat) (hlt : i < n) (w9 o : Int32) (h1 : ¬ w9 < 1) (h2 : w9 ≤ 20) (ho : o < 1 ∨ ¬ o ≤ 10) : Wx z mi l D cs 7 yX2_hedgeFor cX2_hedgeFor 8 (some .int) H [.ref (ad 0), .int (nI i), .int w9, .int o] xIAE := by
  refine wx_ent (by decide) (Nat.le_of_ble_eq_true rfl) ?_
  intro p e s m below meth c ls Q hx hb hr hml hown hts hlocks hl hK hT hR hH hex hQ
  have hl : lv_has ls 8 [(0, .ref (ad 0)), (1, .int (nI i)), (2, .int w9), (3, .int o)] := hl
  have RR0 := RR
  obtain ⟨hP, hG, hN1, hN, hn, hcap⟩ := RR
  refine lv_aload_n hx hb dX2_hedgeFor_0 rfl (lv_at hl 0 rfl) ?_
  refine lv_iload_n hx hb dX2_hedgeFor_1 rfl (lv_at hl 1 rfl) ?_
  refine rdV (As := [.int (nI i)]) (rest := []) (b := ad 0) ⟨hx, hb, hml, hown, hts⟩ hK 1 (c_checkWager l D cs H RR0 i hlt) (gin_v mw_15_10 mw_15_11 mw_15_12 mw_1_2 mw_15_13) (by decide +kernel) ⟨Nat.le_of_ble_eq_true rfl, Nat.le_of_ble_eq_true rfl⟩ (va_recv hK hP (ci := 3) (q0 := 0) rfl rfl) rfl hl.1 rfl (Nat.le_of_ble_eq_true rfl) dX2_hedgeFor_2 ⟨(Nat.zero_le _), (Nat.zero_le _)⟩ ?_
  refine W.eq (g2 := F0 m 5 ls []) rfl ?_
  refine lv_iload_n hx hb dX2_hedgeFor_5 rfl (lv_at hl 2 rfl) ?_
  refine rdS (As := [.int w9]) (rest := []) ⟨hx, hb, hml, hown, hts⟩ hK 1 (c_checkWin l D cs H w9 h1 h2) (gin_s mw_11_15 mw_11_16 mw_1_2 mw_11_17) (by decide +kernel) ⟨Nat.le_of_ble_eq_true rfl, Nat.le_of_ble_eq_true rfl⟩ rfl hl.1 rfl (Nat.le_of_ble_eq_true rfl) dX2_hedgeFor_6 ⟨(Nat.zero_le _), (Nat.zero_le _)⟩ ?_
  refine W.eq (g2 := F0 m 9 ls []) rfl ?_
  refine lv_iload_n hx hb dX2_hedgeFor_9 rfl (lv_at hl 3 rfl) ?_
  exact wx_passS (As := [.int o]) (rest := []) ⟨hx, hb, hml, hown, hts⟩ hQ hH hex hlocks hK hT hR 1 (t_checkBase l hl9 D cs z mi H o ho) (gin_s mw_11_18 mw_11_19 mw_1_2 mw_11_20) (by decide +kernel) ⟨Nat.le_of_ble_eq_true rfl, Nat.le_of_ble_eq_true rfl⟩ rfl hl.1 rfl (Nat.le_of_ble_eq_true rfl) dX2_hedgeFor_10
set_option maxHeartbeats 4000000 in
set_option maxRecDepth 100000 in
theorem t_fairWin1 (l : Launch) (hl9 : l.stackTraces = false) (D : va_G) (cs : Nat → ClassId) (z mi : Nat) (H : Heap) {ad : Nat → Nat} {bank rnds cnt mcn : Int32} {N n cap : Nat} {su fa pu : Nat → Int32} {rf : Nat → Option Nat} {wa : Nat → Nat} {wf : Nat → Nat → Int32} {kd : Nat → Nat} (RR : RX D cs H ad bank rnds cnt mcn N n cap su fa pu rf wa wf kd) (k q : Int32) (ho : k < 0 ∨ 10 ≤ k ∨ q < 0 ∨ ¬ q ≤ 36) (b9 : Int32) : Wx z mi l D cs 7 yX2_fairWin cX2_fairWin 6 (some .int) H [.ref (ad 0), .int k, .int q, .int b9] xIAE := by
  refine wx_ent (by decide) (Nat.le_of_ble_eq_true rfl) ?_
  intro p e s m below meth c ls Q hx hb hr hml hown hts hlocks hl hK hT hR hH hex hQ
  have hl : lv_has ls 6 [(0, .ref (ad 0)), (1, .int k), (2, .int q), (3, .int b9)] := hl
  have RR0 := RR
  obtain ⟨hP, hG, hN1, hN, hn, hcap⟩ := RR
  refine lv_iload_n hx hb dX2_fairWin_0 rfl (lv_at hl 1 rfl) ?_
  refine lv_iload_n hx hb dX2_fairWin_1 rfl (lv_at hl 2 rfl) ?_
  exact wx_passS (As := [.int k, .int q]) (rest := []) ⟨hx, hb, hml, hown, hts⟩ hQ hH hex hlocks hK hT hR 2 (t_checkEvent l hl9 D cs z mi H k q ho) (gin_s mw_8_21 mw_8_22 mw_1_2 mw_8_23) (by decide +kernel) ⟨Nat.le_of_ble_eq_true rfl, Nat.le_of_ble_eq_true rfl⟩ rfl hl.1 rfl (Nat.le_of_ble_eq_true rfl) dX2_fairWin_2
set_option maxHeartbeats 4000000 in
set_option maxRecDepth 100000 in
theorem t_fairWin2 (l : Launch) (hl9 : l.stackTraces = false) (D : va_G) (cs : Nat → ClassId) (z mi : Nat) (H : Heap) {ad : Nat → Nat} {bank rnds cnt mcn : Int32} {N n cap : Nat} {su fa pu : Nat → Int32} {rf : Nat → Option Nat} {wa : Nat → Nat} {wf : Nat → Nat → Int32} {kd : Nat → Nat} (RR : RX D cs H ad bank rnds cnt mcn N n cap su fa pu rf wa wf kd) (k9 q9 : Nat) (hk : k9 < 10) (hq : q9 ≤ 36) (o : Int32) (ho : o < 1 ∨ ¬ o ≤ 10) : Wx z mi l D cs 7 yX2_fairWin cX2_fairWin 6 (some .int) H [.ref (ad 0), .int (nI k9), .int (nI q9), .int o] xIAE := by
  refine wx_ent (by decide) (Nat.le_of_ble_eq_true rfl) ?_
  intro p e s m below meth c ls Q hx hb hr hml hown hts hlocks hl hK hT hR hH hex hQ
  have hl : lv_has ls 6 [(0, .ref (ad 0)), (1, .int (nI k9)), (2, .int (nI q9)), (3, .int o)] := hl
  have RR0 := RR
  obtain ⟨hP, hG, hN1, hN, hn, hcap⟩ := RR
  refine lv_iload_n hx hb dX2_fairWin_0 rfl (lv_at hl 1 rfl) ?_
  refine lv_iload_n hx hb dX2_fairWin_1 rfl (lv_at hl 2 rfl) ?_
  refine rdS (As := [.int (nI k9), .int (nI q9)]) (rest := []) ⟨hx, hb, hml, hown, hts⟩ hK 2 (c_checkEvent l D cs H k9 q9 hk hq) (gin_s mw_8_21 mw_8_22 mw_1_2 mw_8_23) (by decide +kernel) ⟨Nat.le_of_ble_eq_true rfl, Nat.le_of_ble_eq_true rfl⟩ rfl hl.1 rfl (Nat.le_of_ble_eq_true rfl) dX2_fairWin_2 ⟨(Nat.zero_le _), (Nat.zero_le _)⟩ ?_
  refine W.eq (g2 := F0 m 5 ls []) rfl ?_
  refine lv_iload_n hx hb dX2_fairWin_5 rfl (lv_at hl 3 rfl) ?_
  exact wx_passS (As := [.int o]) (rest := []) ⟨hx, hb, hml, hown, hts⟩ hQ hH hex hlocks hK hT hR 1 (t_checkBase l hl9 D cs z mi H o ho) (gin_s mw_11_18 mw_11_19 mw_1_2 mw_11_20) (by decide +kernel) ⟨Nat.le_of_ble_eq_true rfl, Nat.le_of_ble_eq_true rfl⟩ rfl hl.1 rfl (Nat.le_of_ble_eq_true rfl) dX2_fairWin_6
set_option maxHeartbeats 4000000 in
set_option maxRecDepth 100000 in
theorem t_lay1 (l : Launch) (hl9 : l.stackTraces = false) (D : va_G) (cs : Nat → ClassId) (z mi : Nat) (H : Heap) {ad : Nat → Nat} {bank rnds cnt mcn : Int32} {N n cap : Nat} {su fa pu : Nat → Int32} {rf : Nat → Option Nat} {wa : Nat → Nat} {wf : Nat → Nat → Int32} {kd : Nat → Nat} (RR : RX D cs H ad bank rnds cnt mcn N n cap su fa pu rf wa wf kd) (o : Int32) (ho : o < 0 ∨ ¬ o < 6) (b9 c9 d9 e9 f9 : Int32) : Wx z mi l D cs 7 yX2_lay cX2_lay 8 (some .int) H [.ref (ad 0), .int o, .int b9, .int c9, .int d9, .int e9, .int f9] xIOB := by
  refine wx_ent (by decide) (Nat.le_of_ble_eq_true rfl) ?_
  intro p e s m below meth c ls Q hx hb hr hml hown hts hlocks hl hK hT hR hH hex hQ
  have hl : lv_has ls 8 [(0, .ref (ad 0)), (1, .int o), (2, .int b9), (3, .int c9), (4, .int d9), (5, .int e9), (6, .int f9)] := hl
  have RR0 := RR
  obtain ⟨hP, hG, hN1, hN, hn, hcap⟩ := RR
  refine lv_iload_n hx hb dX2_lay_0 rfl (lv_at hl 1 rfl) ?_
  exact wx_passS (As := [.int o]) (rest := []) ⟨hx, hb, hml, hown, hts⟩ hQ hH hex hlocks hK hT hR 1 (t_checkPatron l hl9 D cs z mi H o ho) (gin_s mw_11_12 mw_11_13 mw_1_2 mw_11_14) (by decide +kernel) ⟨Nat.le_of_ble_eq_true rfl, Nat.le_of_ble_eq_true rfl⟩ rfl hl.1 rfl (Nat.le_of_ble_eq_true rfl) dX2_lay_1
set_option maxHeartbeats 4000000 in
set_option maxRecDepth 100000 in
theorem t_lay2 (l : Launch) (hl9 : l.stackTraces = false) (D : va_G) (cs : Nat → ClassId) (z mi : Nat) (H : Heap) {ad : Nat → Nat} {bank rnds cnt mcn : Int32} {N n cap : Nat} {su fa pu : Nat → Int32} {rf : Nat → Option Nat} {wa : Nat → Nat} {wf : Nat → Nat → Int32} {kd : Nat → Nat} (RR : RX D cs H ad bank rnds cnt mcn N n cap su fa pu rf wa wf kd) (p9 : Nat) (hp9 : p9 < 6) (k q : Int32) (ho : k < 0 ∨ 10 ≤ k ∨ q < 0 ∨ ¬ q ≤ 36) (d9 e9 f9 : Int32) : Wx z mi l D cs 7 yX2_lay cX2_lay 8 (some .int) H [.ref (ad 0), .int (nI p9), .int k, .int q, .int d9, .int e9, .int f9] xIAE := by
  refine wx_ent (by decide) (Nat.le_of_ble_eq_true rfl) ?_
  intro p e s m below meth c ls Q hx hb hr hml hown hts hlocks hl hK hT hR hH hex hQ
  have hl : lv_has ls 8 [(0, .ref (ad 0)), (1, .int (nI p9)), (2, .int k), (3, .int q), (4, .int d9), (5, .int e9), (6, .int f9)] := hl
  have RR0 := RR
  obtain ⟨hP, hG, hN1, hN, hn, hcap⟩ := RR
  refine lv_iload_n hx hb dX2_lay_0 rfl (lv_at hl 1 rfl) ?_
  refine rdS (As := [.int (nI p9)]) (rest := []) ⟨hx, hb, hml, hown, hts⟩ hK 1 (c_checkPatron l D cs H p9 (by omega)) (gin_s mw_11_12 mw_11_13 mw_1_2 mw_11_14) (by decide +kernel) ⟨Nat.le_of_ble_eq_true rfl, Nat.le_of_ble_eq_true rfl⟩ rfl hl.1 rfl (Nat.le_of_ble_eq_true rfl) dX2_lay_1 ⟨(Nat.zero_le _), (Nat.zero_le _)⟩ ?_
  refine W.eq (g2 := F0 m 4 ls []) rfl ?_
  refine lv_iload_n hx hb dX2_lay_4 rfl (lv_at hl 2 rfl) ?_
  refine lv_iload_n hx hb dX2_lay_5 rfl (lv_at hl 3 rfl) ?_
  exact wx_passS (As := [.int k, .int q]) (rest := []) ⟨hx, hb, hml, hown, hts⟩ hQ hH hex hlocks hK hT hR 2 (t_checkEvent l hl9 D cs z mi H k q ho) (gin_s mw_8_21 mw_8_22 mw_1_2 mw_8_23) (by decide +kernel) ⟨Nat.le_of_ble_eq_true rfl, Nat.le_of_ble_eq_true rfl⟩ rfl hl.1 rfl (Nat.le_of_ble_eq_true rfl) dX2_lay_6
set_option maxHeartbeats 4000000 in
set_option maxRecDepth 100000 in
theorem t_lay3 (l : Launch) (hl9 : l.stackTraces = false) (D : va_G) (cs : Nat → ClassId) (z mi : Nat) (H : Heap) {ad : Nat → Nat} {bank rnds cnt mcn : Int32} {N n cap : Nat} {su fa pu : Nat → Int32} {rf : Nat → Option Nat} {wa : Nat → Nat} {wf : Nat → Nat → Int32} {kd : Nat → Nat} (RR : RX D cs H ad bank rnds cnt mcn N n cap su fa pu rf wa wf kd) (p9 : Nat) (hp9 : p9 < 6) (k9 q9 : Nat) (hk : k9 < 10) (hq : q9 ≤ 36) (o e9 f9 : Int32) (ho : o < 1 ∨ ¬ o ≤ 100) : Wx z mi l D cs 7 yX2_lay cX2_lay 8 (some .int) H [.ref (ad 0), .int (nI p9), .int (nI k9), .int (nI q9), .int o, .int e9, .int f9] xIAE := by
  refine wx_ent (by decide) (Nat.le_of_ble_eq_true rfl) ?_
  intro p e s m below meth c ls Q hx hb hr hml hown hts hlocks hl hK hT hR hH hex hQ
  have hl : lv_has ls 8 [(0, .ref (ad 0)), (1, .int (nI p9)), (2, .int (nI k9)), (3, .int (nI q9)), (4, .int o), (5, .int e9), (6, .int f9)] := hl
  have RR0 := RR
  obtain ⟨hP, hG, hN1, hN, hn, hcap⟩ := RR
  refine lv_iload_n hx hb dX2_lay_0 rfl (lv_at hl 1 rfl) ?_
  refine rdS (As := [.int (nI p9)]) (rest := []) ⟨hx, hb, hml, hown, hts⟩ hK 1 (c_checkPatron l D cs H p9 (by omega)) (gin_s mw_11_12 mw_11_13 mw_1_2 mw_11_14) (by decide +kernel) ⟨Nat.le_of_ble_eq_true rfl, Nat.le_of_ble_eq_true rfl⟩ rfl hl.1 rfl (Nat.le_of_ble_eq_true rfl) dX2_lay_1 ⟨(Nat.zero_le _), (Nat.zero_le _)⟩ ?_
  refine W.eq (g2 := F0 m 4 ls []) rfl ?_
  refine lv_iload_n hx hb dX2_lay_4 rfl (lv_at hl 2 rfl) ?_
  refine lv_iload_n hx hb dX2_lay_5 rfl (lv_at hl 3 rfl) ?_
  refine rdS (As := [.int (nI k9), .int (nI q9)]) (rest := []) ⟨hx, hb, hml, hown, hts⟩ hK 2 (c_checkEvent l D cs H k9 q9 hk hq) (gin_s mw_8_21 mw_8_22 mw_1_2 mw_8_23) (by decide +kernel) ⟨Nat.le_of_ble_eq_true rfl, Nat.le_of_ble_eq_true rfl⟩ rfl hl.1 rfl (Nat.le_of_ble_eq_true rfl) dX2_lay_6 ⟨(Nat.zero_le _), (Nat.zero_le _)⟩ ?_
  refine W.eq (g2 := F0 m 9 ls []) rfl ?_
  refine lv_iload hx hb dX2_lay_9 (lv_at hl 4 rfl) ?_
  refine lv_iconst (v := 1) hx hb dX2_lay_11 (by first | decide | rfl) ?_
  refine lv_icmp_lt (tgt := 22) hx hb dX2_lay_12 (by decide) (fun c_1 => ?_) (fun c_1 => ?_)
  · exact wx_throw (E := xIAE) (ik := 38) (is := 82) (ic := 42) hQ hH hx hb hl9 hml hown hts hT hR hex hlocks hl.1 fit_IAE mw_4_18 mw_4_19 (List.mem_of_getElem? (i := 2) rfl) (hat_IAE hts hT.2.2.2.2.2.2.1) gd_IAE dX2_lay_22 dX2_lay_25 dX2_lay_26 dX2_lay_28 dX2_lay_31 (by decide) (Nat.le_of_ble_eq_true rfl)
  · refine lv_iload hx hb dX2_lay_15 (lv_at hl 4 rfl) ?_
    refine lv_bipush (v := 100) hx hb dX2_lay_17 (by first | decide | rfl) ?_
    refine lv_icmp_le (tgt := 32) hx hb dX2_lay_19 (by decide) (fun c_2 => ?_) (fun c_2 => ?_)
    · rcases ho with h | h <;> contradiction
    · exact wx_throw (E := xIAE) (ik := 38) (is := 82) (ic := 42) hQ hH hx hb hl9 hml hown hts hT hR hex hlocks hl.1 fit_IAE mw_4_18 mw_4_19 (List.mem_of_getElem? (i := 2) rfl) (hat_IAE hts hT.2.2.2.2.2.2.1) gd_IAE dX2_lay_22 dX2_lay_25 dX2_lay_26 dX2_lay_28 dX2_lay_31 (by decide) (Nat.le_of_ble_eq_true rfl)
set_option maxHeartbeats 4000000 in
set_option maxRecDepth 100000 in
theorem t_lay4 (l : Launch) (hl9 : l.stackTraces = false) (D : va_G) (cs : Nat → ClassId) (z mi : Nat) (H : Heap) {ad : Nat → Nat} {bank rnds cnt mcn : Int32} {N n cap : Nat} {su fa pu : Nat → Int32} {rf : Nat → Option Nat} {wa : Nat → Nat} {wf : Nat → Nat → Int32} {kd : Nat → Nat} (RR : RX D cs H ad bank rnds cnt mcn N n cap su fa pu rf wa wf kd) (p9 : Nat) (hp9 : p9 < 6) (k9 q9 : Nat) (hk : k9 < 10) (hq : q9 ≤ 36) (s9 : Int32) (hs1 : ¬ s9 < 1) (hs2 : s9 ≤ 100) (o f9 : Int32) (ho : o < 1 ∨ ¬ o ≤ 20) : Wx z mi l D cs 7 yX2_lay cX2_lay 8 (some .int) H [.ref (ad 0), .int (nI p9), .int (nI k9), .int (nI q9), .int s9, .int o, .int f9] xIAE := by
  refine wx_ent (by decide) (Nat.le_of_ble_eq_true rfl) ?_
  intro p e s m below meth c ls Q hx hb hr hml hown hts hlocks hl hK hT hR hH hex hQ
  have hl : lv_has ls 8 [(0, .ref (ad 0)), (1, .int (nI p9)), (2, .int (nI k9)), (3, .int (nI q9)), (4, .int s9), (5, .int o), (6, .int f9)] := hl
  have RR0 := RR
  obtain ⟨hP, hG, hN1, hN, hn, hcap⟩ := RR
  refine lv_iload_n hx hb dX2_lay_0 rfl (lv_at hl 1 rfl) ?_
  refine rdS (As := [.int (nI p9)]) (rest := []) ⟨hx, hb, hml, hown, hts⟩ hK 1 (c_checkPatron l D cs H p9 (by omega)) (gin_s mw_11_12 mw_11_13 mw_1_2 mw_11_14) (by decide +kernel) ⟨Nat.le_of_ble_eq_true rfl, Nat.le_of_ble_eq_true rfl⟩ rfl hl.1 rfl (Nat.le_of_ble_eq_true rfl) dX2_lay_1 ⟨(Nat.zero_le _), (Nat.zero_le _)⟩ ?_
  refine W.eq (g2 := F0 m 4 ls []) rfl ?_
  refine lv_iload_n hx hb dX2_lay_4 rfl (lv_at hl 2 rfl) ?_
  refine lv_iload_n hx hb dX2_lay_5 rfl (lv_at hl 3 rfl) ?_
  refine rdS (As := [.int (nI k9), .int (nI q9)]) (rest := []) ⟨hx, hb, hml, hown, hts⟩ hK 2 (c_checkEvent l D cs H k9 q9 hk hq) (gin_s mw_8_21 mw_8_22 mw_1_2 mw_8_23) (by decide +kernel) ⟨Nat.le_of_ble_eq_true rfl, Nat.le_of_ble_eq_true rfl⟩ rfl hl.1 rfl (Nat.le_of_ble_eq_true rfl) dX2_lay_6 ⟨(Nat.zero_le _), (Nat.zero_le _)⟩ ?_
  refine W.eq (g2 := F0 m 9 ls []) rfl ?_
  refine lv_iload hx hb dX2_lay_9 (lv_at hl 4 rfl) ?_
  refine lv_iconst (v := 1) hx hb dX2_lay_11 (by first | decide | rfl) ?_
  refine lv_icmp_lt (tgt := 22) hx hb dX2_lay_12 (by decide) (fun c_1 => False.elim (absurd c_1 hs1)) (fun c_1 => ?_)
  refine lv_iload hx hb dX2_lay_15 (lv_at hl 4 rfl) ?_
  refine lv_bipush (v := 100) hx hb dX2_lay_17 (by first | decide | rfl) ?_
  refine lv_icmp_le (tgt := 32) hx hb dX2_lay_19 (by decide) (fun c_2 => ?_) (fun c_2 => False.elim (absurd hs2 c_2))
  refine lv_iload hx hb dX2_lay_32 (lv_at hl 5 rfl) ?_
  exact wx_passS (As := [.int o]) (rest := []) ⟨hx, hb, hml, hown, hts⟩ hQ hH hex hlocks hK hT hR 1 (t_checkWin l hl9 D cs z mi H o ho) (gin_s mw_11_15 mw_11_16 mw_1_2 mw_11_17) (by decide +kernel) ⟨Nat.le_of_ble_eq_true rfl, Nat.le_of_ble_eq_true rfl⟩ rfl hl.1 rfl (Nat.le_of_ble_eq_true rfl) dX2_lay_34
set_option maxHeartbeats 4000000 in
set_option maxRecDepth 100000 in
theorem t_lay5 (l : Launch) (hl9 : l.stackTraces = false) (D : va_G) (cs : Nat → ClassId) (z mi : Nat) (H : Heap) {ad : Nat → Nat} {bank rnds cnt mcn : Int32} {N n cap : Nat} {su fa pu : Nat → Int32} {rf : Nat → Option Nat} {wa : Nat → Nat} {wf : Nat → Nat → Int32} {kd : Nat → Nat} (RR : RX D cs H ad bank rnds cnt mcn N n cap su fa pu rf wa wf kd) (p9 : Nat) (hp9 : p9 < 6) (k9 q9 : Nat) (hk : k9 < 10) (hq : q9 ≤ 36) (s9 : Int32) (hs1 : ¬ s9 < 1) (hs2 : s9 ≤ 100) (w9 : Int32) (h1 : ¬ w9 < 1) (h2 : w9 ≤ 20) (o : Int32) (ho : o < 1 ∨ ¬ o ≤ 10) : Wx z mi l D cs 7 yX2_lay cX2_lay 8 (some .int) H [.ref (ad 0), .int (nI p9), .int (nI k9), .int (nI q9), .int s9, .int w9, .int o] xIAE := by
  refine wx_ent (by decide) (Nat.le_of_ble_eq_true rfl) ?_
  intro p e s m below meth c ls Q hx hb hr hml hown hts hlocks hl hK hT hR hH hex hQ
  have hl : lv_has ls 8 [(0, .ref (ad 0)), (1, .int (nI p9)), (2, .int (nI k9)), (3, .int (nI q9)), (4, .int s9), (5, .int w9), (6, .int o)] := hl
  have RR0 := RR
  obtain ⟨hP, hG, hN1, hN, hn, hcap⟩ := RR
  refine lv_iload_n hx hb dX2_lay_0 rfl (lv_at hl 1 rfl) ?_
  refine rdS (As := [.int (nI p9)]) (rest := []) ⟨hx, hb, hml, hown, hts⟩ hK 1 (c_checkPatron l D cs H p9 (by omega)) (gin_s mw_11_12 mw_11_13 mw_1_2 mw_11_14) (by decide +kernel) ⟨Nat.le_of_ble_eq_true rfl, Nat.le_of_ble_eq_true rfl⟩ rfl hl.1 rfl (Nat.le_of_ble_eq_true rfl) dX2_lay_1 ⟨(Nat.zero_le _), (Nat.zero_le _)⟩ ?_
  refine W.eq (g2 := F0 m 4 ls []) rfl ?_
  refine lv_iload_n hx hb dX2_lay_4 rfl (lv_at hl 2 rfl) ?_
  refine lv_iload_n hx hb dX2_lay_5 rfl (lv_at hl 3 rfl) ?_
  refine rdS (As := [.int (nI k9), .int (nI q9)]) (rest := []) ⟨hx, hb, hml, hown, hts⟩ hK 2 (c_checkEvent l D cs H k9 q9 hk hq) (gin_s mw_8_21 mw_8_22 mw_1_2 mw_8_23) (by decide +kernel) ⟨Nat.le_of_ble_eq_true rfl, Nat.le_of_ble_eq_true rfl⟩ rfl hl.1 rfl (Nat.le_of_ble_eq_true rfl) dX2_lay_6 ⟨(Nat.zero_le _), (Nat.zero_le _)⟩ ?_
  refine W.eq (g2 := F0 m 9 ls []) rfl ?_
  refine lv_iload hx hb dX2_lay_9 (lv_at hl 4 rfl) ?_
  refine lv_iconst (v := 1) hx hb dX2_lay_11 (by first | decide | rfl) ?_
  refine lv_icmp_lt (tgt := 22) hx hb dX2_lay_12 (by decide) (fun c_1 => False.elim (absurd c_1 hs1)) (fun c_1 => ?_)
  refine lv_iload hx hb dX2_lay_15 (lv_at hl 4 rfl) ?_
  refine lv_bipush (v := 100) hx hb dX2_lay_17 (by first | decide | rfl) ?_
  refine lv_icmp_le (tgt := 32) hx hb dX2_lay_19 (by decide) (fun c_2 => ?_) (fun c_2 => False.elim (absurd hs2 c_2))
  refine lv_iload hx hb dX2_lay_32 (lv_at hl 5 rfl) ?_
  refine rdS (As := [.int w9]) (rest := []) ⟨hx, hb, hml, hown, hts⟩ hK 1 (c_checkWin l D cs H w9 h1 h2) (gin_s mw_11_15 mw_11_16 mw_1_2 mw_11_17) (by decide +kernel) ⟨Nat.le_of_ble_eq_true rfl, Nat.le_of_ble_eq_true rfl⟩ rfl hl.1 rfl (Nat.le_of_ble_eq_true rfl) dX2_lay_34 ⟨(Nat.zero_le _), (Nat.zero_le _)⟩ ?_
  refine W.eq (g2 := F0 m 37 ls []) rfl ?_
  refine lv_iload hx hb dX2_lay_37 (lv_at hl 6 rfl) ?_
  exact wx_passS (As := [.int o]) (rest := []) ⟨hx, hb, hml, hown, hts⟩ hQ hH hex hlocks hK hT hR 1 (t_checkBase l hl9 D cs z mi H o ho) (gin_s mw_11_18 mw_11_19 mw_1_2 mw_11_20) (by decide +kernel) ⟨Nat.le_of_ble_eq_true rfl, Nat.le_of_ble_eq_true rfl⟩ rfl hl.1 rfl (Nat.le_of_ble_eq_true rfl) dX2_lay_39
set_option maxHeartbeats 4000000 in
set_option maxRecDepth 100000 in
theorem t_lay6 (l : Launch) (hl9 : l.stackTraces = false) (D : va_G) (cs : Nat → ClassId) (z mi : Nat) (H : Heap) {ad : Nat → Nat} {bank rnds cnt mcn : Int32} {N n cap : Nat} {su fa pu : Nat → Int32} {rf : Nat → Option Nat} {wa : Nat → Nat} {wf : Nat → Nat → Int32} {kd : Nat → Nat} (RR : RX D cs H ad bank rnds cnt mcn N n cap su fa pu rf wa wf kd) (p9 : Nat) (hp9 : p9 < 6) (k9 q9 : Nat) (hk : k9 < 10) (hq : q9 ≤ 36) (s9 : Int32) (hs1 : ¬ s9 < 1) (hs2 : s9 ≤ 100) (w9 : Int32) (h1 : ¬ w9 < 1) (h2 : w9 ≤ 20) (b9 : Int32) (h3 : ¬ b9 < 1) (h4 : b9 ≤ 10) (hn9 : 12 ≤ n) : Wx z mi l D cs 7 yX2_lay cX2_lay 8 (some .int) H [.ref (ad 0), .int (nI p9), .int (nI k9), .int (nI q9), .int s9, .int w9, .int b9] xISE := by
  refine wx_ent (by decide) (Nat.le_of_ble_eq_true rfl) ?_
  intro p e s m below meth c ls Q hx hb hr hml hown hts hlocks hl hK hT hR hH hex hQ
  have hl : lv_has ls 8 [(0, .ref (ad 0)), (1, .int (nI p9)), (2, .int (nI k9)), (3, .int (nI q9)), (4, .int s9), (5, .int w9), (6, .int b9)] := hl
  have RR0 := RR
  obtain ⟨hP, hG, hN1, hN, hn, hcap⟩ := RR
  refine lv_iload_n hx hb dX2_lay_0 rfl (lv_at hl 1 rfl) ?_
  refine rdS (As := [.int (nI p9)]) (rest := []) ⟨hx, hb, hml, hown, hts⟩ hK 1 (c_checkPatron l D cs H p9 (by omega)) (gin_s mw_11_12 mw_11_13 mw_1_2 mw_11_14) (by decide +kernel) ⟨Nat.le_of_ble_eq_true rfl, Nat.le_of_ble_eq_true rfl⟩ rfl hl.1 rfl (Nat.le_of_ble_eq_true rfl) dX2_lay_1 ⟨(Nat.zero_le _), (Nat.zero_le _)⟩ ?_
  refine W.eq (g2 := F0 m 4 ls []) rfl ?_
  refine lv_iload_n hx hb dX2_lay_4 rfl (lv_at hl 2 rfl) ?_
  refine lv_iload_n hx hb dX2_lay_5 rfl (lv_at hl 3 rfl) ?_
  refine rdS (As := [.int (nI k9), .int (nI q9)]) (rest := []) ⟨hx, hb, hml, hown, hts⟩ hK 2 (c_checkEvent l D cs H k9 q9 hk hq) (gin_s mw_8_21 mw_8_22 mw_1_2 mw_8_23) (by decide +kernel) ⟨Nat.le_of_ble_eq_true rfl, Nat.le_of_ble_eq_true rfl⟩ rfl hl.1 rfl (Nat.le_of_ble_eq_true rfl) dX2_lay_6 ⟨(Nat.zero_le _), (Nat.zero_le _)⟩ ?_
  refine W.eq (g2 := F0 m 9 ls []) rfl ?_
  refine lv_iload hx hb dX2_lay_9 (lv_at hl 4 rfl) ?_
  refine lv_iconst (v := 1) hx hb dX2_lay_11 (by first | decide | rfl) ?_
  refine lv_icmp_lt (tgt := 22) hx hb dX2_lay_12 (by decide) (fun c_1 => False.elim (absurd c_1 hs1)) (fun c_1 => ?_)
  refine lv_iload hx hb dX2_lay_15 (lv_at hl 4 rfl) ?_
  refine lv_bipush (v := 100) hx hb dX2_lay_17 (by first | decide | rfl) ?_
  refine lv_icmp_le (tgt := 32) hx hb dX2_lay_19 (by decide) (fun c_2 => ?_) (fun c_2 => False.elim (absurd hs2 c_2))
  refine lv_iload hx hb dX2_lay_32 (lv_at hl 5 rfl) ?_
  refine rdS (As := [.int w9]) (rest := []) ⟨hx, hb, hml, hown, hts⟩ hK 1 (c_checkWin l D cs H w9 h1 h2) (gin_s mw_11_15 mw_11_16 mw_1_2 mw_11_17) (by decide +kernel) ⟨Nat.le_of_ble_eq_true rfl, Nat.le_of_ble_eq_true rfl⟩ rfl hl.1 rfl (Nat.le_of_ble_eq_true rfl) dX2_lay_34 ⟨(Nat.zero_le _), (Nat.zero_le _)⟩ ?_
  refine W.eq (g2 := F0 m 37 ls []) rfl ?_
  refine lv_iload hx hb dX2_lay_37 (lv_at hl 6 rfl) ?_
  refine rdS (As := [.int b9]) (rest := []) ⟨hx, hb, hml, hown, hts⟩ hK 1 (c_checkBase l D cs H b9 h3 h4) (gin_s mw_11_18 mw_11_19 mw_1_2 mw_11_20) (by decide +kernel) ⟨Nat.le_of_ble_eq_true rfl, Nat.le_of_ble_eq_true rfl⟩ rfl hl.1 rfl (Nat.le_of_ble_eq_true rfl) dX2_lay_39 ⟨(Nat.zero_le _), (Nat.zero_le _)⟩ ?_
  refine W.eq (g2 := F0 m 42 ls []) rfl ?_
  refine lv_aload_n hx hb dX2_lay_42 rfl (lv_at hl 0 rfl) ?_
  refine va_get (D := D) (ci := 3) (v := .ref (ad 2)) (C := RX2) (T := TX2) (N := 5) hx hb hts inlX2 hown hK hP 0 rfl rfl 1 (by decide) (hts (Cond.fieldLink RX2 19 "TavernDice" "wagers" "Ljava/util/ArrayList;") mw_1_21) (fun _ h9 => h9) rfl dX2_lay_43 ?_
  refine rdV (As := []) (rest := []) (b := ad 2) ⟨hx, hb, hml, hown, hts⟩ hK 0 (c_size l D cs H (hP.sub [4] rfl)) (gin_v mw_11_21 mw_11_22 mw_11_23 mw_1_20 mw_12_0) (by decide +kernel) ⟨Nat.le_of_ble_eq_true rfl, Nat.le_of_ble_eq_true rfl⟩ (va_recv hK hP (ci := 0) (q0 := 4) rfl rfl) rfl hl.1 rfl (Nat.le_of_ble_eq_true rfl) dX2_lay_46 ⟨(Nat.zero_le _), (Nat.zero_le _)⟩ ?_
  refine W.eq (g2 := F0 m 49 ls [.int (nI n)]) rfl ?_
  refine lv_bipush (v := nI 12) hx hb dX2_lay_49 (by first | decide | rfl) ?_
  refine lv_icmp_lt (tgt := 64) hx hb dX2_lay_51 (by decide) (fun c_3 => False.elim (absurd c_3 (nI_nlt hn9 (by omega)))) (fun c_3 => ?_)
  exact wx_throw (E := xISE) (ik := 49) (is := 94) (ic := 53) hQ hH hx hb hl9 hml hown hts hT hR hex hlocks hl.1 fit_ISE mw_4_20 mw_4_21 (List.mem_of_getElem? (i := 3) rfl) (hat_ISE hts hT.2.2.2.2.2.2.1) gd_ISE dX2_lay_54 dX2_lay_57 dX2_lay_58 dX2_lay_60 dX2_lay_63 (by decide) (Nat.le_of_ble_eq_true rfl)
set_option maxHeartbeats 4000000 in
set_option maxRecDepth 100000 in
theorem t_lay7 (l : Launch) (hl9 : l.stackTraces = false) (D : va_G) (cs : Nat → ClassId) (z mi : Nat) (H : Heap) {ad : Nat → Nat} {bank rnds cnt mcn : Int32} {N n cap : Nat} {su fa pu : Nat → Int32} {rf : Nat → Option Nat} {wa : Nat → Nat} {wf : Nat → Nat → Int32} {kd : Nat → Nat} (RR : RX D cs H ad bank rnds cnt mcn N n cap su fa pu rf wa wf kd) (p9 : Nat) (hp9 : p9 < 6) (k9 q9 : Nat) (hk : k9 < 10) (hq : q9 ≤ 36) (s9 : Int32) (hs1 : ¬ s9 < 1) (hs2 : s9 ≤ 100) (w9 : Int32) (h1 : ¬ w9 < 1) (h2 : w9 ≤ 20) (b9 : Int32) (h3 : ¬ b9 < 1) (h4 : b9 ≤ 10) (hn9 : n < 12) (hpu : ¬ s9 ≤ pu p9) : Wx z mi l D cs 7 yX2_lay cX2_lay 8 (some .int) H [.ref (ad 0), .int (nI p9), .int (nI k9), .int (nI q9), .int s9, .int w9, .int b9] xISE := by
  refine wx_ent (by decide) (Nat.le_of_ble_eq_true rfl) ?_
  intro p e s m below meth c ls Q hx hb hr hml hown hts hlocks hl hK hT hR hH hex hQ
  have hl : lv_has ls 8 [(0, .ref (ad 0)), (1, .int (nI p9)), (2, .int (nI k9)), (3, .int (nI q9)), (4, .int s9), (5, .int w9), (6, .int b9)] := hl
  have RR0 := RR
  obtain ⟨hP, hG, hN1, hN, hn, hcap⟩ := RR
  refine lv_iload_n hx hb dX2_lay_0 rfl (lv_at hl 1 rfl) ?_
  refine rdS (As := [.int (nI p9)]) (rest := []) ⟨hx, hb, hml, hown, hts⟩ hK 1 (c_checkPatron l D cs H p9 (by omega)) (gin_s mw_11_12 mw_11_13 mw_1_2 mw_11_14) (by decide +kernel) ⟨Nat.le_of_ble_eq_true rfl, Nat.le_of_ble_eq_true rfl⟩ rfl hl.1 rfl (Nat.le_of_ble_eq_true rfl) dX2_lay_1 ⟨(Nat.zero_le _), (Nat.zero_le _)⟩ ?_
  refine W.eq (g2 := F0 m 4 ls []) rfl ?_
  refine lv_iload_n hx hb dX2_lay_4 rfl (lv_at hl 2 rfl) ?_
  refine lv_iload_n hx hb dX2_lay_5 rfl (lv_at hl 3 rfl) ?_
  refine rdS (As := [.int (nI k9), .int (nI q9)]) (rest := []) ⟨hx, hb, hml, hown, hts⟩ hK 2 (c_checkEvent l D cs H k9 q9 hk hq) (gin_s mw_8_21 mw_8_22 mw_1_2 mw_8_23) (by decide +kernel) ⟨Nat.le_of_ble_eq_true rfl, Nat.le_of_ble_eq_true rfl⟩ rfl hl.1 rfl (Nat.le_of_ble_eq_true rfl) dX2_lay_6 ⟨(Nat.zero_le _), (Nat.zero_le _)⟩ ?_
  refine W.eq (g2 := F0 m 9 ls []) rfl ?_
  refine lv_iload hx hb dX2_lay_9 (lv_at hl 4 rfl) ?_
  refine lv_iconst (v := 1) hx hb dX2_lay_11 (by first | decide | rfl) ?_
  refine lv_icmp_lt (tgt := 22) hx hb dX2_lay_12 (by decide) (fun c_1 => False.elim (absurd c_1 hs1)) (fun c_1 => ?_)
  refine lv_iload hx hb dX2_lay_15 (lv_at hl 4 rfl) ?_
  refine lv_bipush (v := 100) hx hb dX2_lay_17 (by first | decide | rfl) ?_
  refine lv_icmp_le (tgt := 32) hx hb dX2_lay_19 (by decide) (fun c_2 => ?_) (fun c_2 => False.elim (absurd hs2 c_2))
  refine lv_iload hx hb dX2_lay_32 (lv_at hl 5 rfl) ?_
  refine rdS (As := [.int w9]) (rest := []) ⟨hx, hb, hml, hown, hts⟩ hK 1 (c_checkWin l D cs H w9 h1 h2) (gin_s mw_11_15 mw_11_16 mw_1_2 mw_11_17) (by decide +kernel) ⟨Nat.le_of_ble_eq_true rfl, Nat.le_of_ble_eq_true rfl⟩ rfl hl.1 rfl (Nat.le_of_ble_eq_true rfl) dX2_lay_34 ⟨(Nat.zero_le _), (Nat.zero_le _)⟩ ?_
  refine W.eq (g2 := F0 m 37 ls []) rfl ?_
  refine lv_iload hx hb dX2_lay_37 (lv_at hl 6 rfl) ?_
  refine rdS (As := [.int b9]) (rest := []) ⟨hx, hb, hml, hown, hts⟩ hK 1 (c_checkBase l D cs H b9 h3 h4) (gin_s mw_11_18 mw_11_19 mw_1_2 mw_11_20) (by decide +kernel) ⟨Nat.le_of_ble_eq_true rfl, Nat.le_of_ble_eq_true rfl⟩ rfl hl.1 rfl (Nat.le_of_ble_eq_true rfl) dX2_lay_39 ⟨(Nat.zero_le _), (Nat.zero_le _)⟩ ?_
  refine W.eq (g2 := F0 m 42 ls []) rfl ?_
  refine lv_aload_n hx hb dX2_lay_42 rfl (lv_at hl 0 rfl) ?_
  refine va_get (D := D) (ci := 3) (v := .ref (ad 2)) (C := RX2) (T := TX2) (N := 5) hx hb hts inlX2 hown hK hP 0 rfl rfl 1 (by decide) (hts (Cond.fieldLink RX2 19 "TavernDice" "wagers" "Ljava/util/ArrayList;") mw_1_21) (fun _ h9 => h9) rfl dX2_lay_43 ?_
  refine rdV (As := []) (rest := []) (b := ad 2) ⟨hx, hb, hml, hown, hts⟩ hK 0 (c_size l D cs H (hP.sub [4] rfl)) (gin_v mw_11_21 mw_11_22 mw_11_23 mw_1_20 mw_12_0) (by decide +kernel) ⟨Nat.le_of_ble_eq_true rfl, Nat.le_of_ble_eq_true rfl⟩ (va_recv hK hP (ci := 0) (q0 := 4) rfl rfl) rfl hl.1 rfl (Nat.le_of_ble_eq_true rfl) dX2_lay_46 ⟨(Nat.zero_le _), (Nat.zero_le _)⟩ ?_
  refine W.eq (g2 := F0 m 49 ls [.int (nI n)]) rfl ?_
  refine lv_bipush (v := nI 12) hx hb dX2_lay_49 (by first | decide | rfl) ?_
  refine lv_icmp_lt (tgt := 64) hx hb dX2_lay_51 (by decide) (fun c_3 => ?_) (fun c_3 => False.elim (c_3 (nI_lt hn9 (by omega))))
  refine lv_aload_n hx hb dX2_lay_64 rfl (lv_at hl 0 rfl) ?_
  refine va_get (D := D) (ci := 3) (v := .ref (ad 3)) (C := RX2) (T := TX2) (N := 5) hx hb hts inlX2 hown hK hP 0 rfl rfl 2 (by decide) (hts (Cond.fieldLink RX2 23 "TavernDice" "purses" "[I") mw_1_23) (fun _ h9 => h9) rfl dX2_lay_65 ?_
  refine lv_iload_n hx hb dX2_lay_68 rfl (lv_at hl 1 rfl) ?_
  refine va_iald hx hb hK hP 5 0 rfl rfl (vp_in_nI (by omega) (by omega)) dX2_lay_69 ?_
  refine lv_rwi (y := pu p9) (congrArg pu (nI_clamp (by omega))) ?_
  refine lv_iload hx hb dX2_lay_70 (lv_at hl 4 rfl) ?_
  refine lv_icmp_ge (tgt := 85) hx hb dX2_lay_72 (by decide) (fun c_4 => False.elim (absurd c_4 hpu)) (fun c_4 => ?_)
  exact wx_throw (E := xISE) (ik := 49) (is := 96) (ic := 53) hQ hH hx hb hl9 hml hown hts hT hR hex hlocks hl.1 fit_ISE mw_4_20 mw_4_21 (List.mem_of_getElem? (i := 4) rfl) (hat_ISE hts hT.2.2.2.2.2.2.1) gd_ISE dX2_lay_75 dX2_lay_78 dX2_lay_79 dX2_lay_81 dX2_lay_84 (by decide) (Nat.le_of_ble_eq_true rfl)
set_option maxHeartbeats 4000000 in
set_option maxRecDepth 100000 in
theorem t_setDice1 (l : Launch) (hl9 : l.stackTraces = false) (D : va_G) (cs : Nat → ClassId) (z mi : Nat) (H : Heap) {ad : Nat → Nat} {bank rnds cnt mcn : Int32} {N n cap : Nat} {su fa pu : Nat → Int32} {rf : Nat → Option Nat} {wa : Nat → Nat} {wf : Nat → Nat → Int32} {kd : Nat → Nat} (RR : RX D cs H ad bank rnds cnt mcn N n cap su fa pu rf wa wf kd) (f s9 t9 : Int32) (hv : (dieX f && dieNX s9 && dieNX t9 && (!decide (s9 = 0) || decide (t9 = 0))) = false) : Wx z mi l D cs 7 yX2_setDice cX2_setDice 4 (some .int) H [.ref (ad 0), .int f, .int s9, .int t9] xIAE := by
  refine wx_ent (by decide) (Nat.le_of_ble_eq_true rfl) ?_
  intro p e s m below meth c ls Q hx hb hr hml hown hts hlocks hl hK hT hR hH hex hQ
  have hl : lv_has ls 4 [(0, .ref (ad 0)), (1, .int f), (2, .int s9), (3, .int t9)] := hl
  have RR0 := RR
  obtain ⟨hP, hG, hN1, hN, hn, hcap⟩ := RR
  refine lv_iload_n hx hb dX2_setDice_0 rfl (lv_at hl 1 rfl) ?_
  refine rdS (As := [.int f]) (rest := []) ⟨hx, hb, hml, hown, hts⟩ hK 1 (c_isDie l D cs H f) (gin_s mw_4_23 mw_5_0 mw_1_2 mw_5_1) (by decide +kernel) ⟨Nat.le_of_ble_eq_true rfl, Nat.le_of_ble_eq_true rfl⟩ rfl hl.1 rfl (Nat.le_of_ble_eq_true rfl) dX2_setDice_1 ⟨(Nat.zero_le _), (Nat.zero_le _)⟩ ?_
  refine W.eq (g2 := F0 m 4 ls [.int (b2i (dieX f))]) rfl ?_
  refine lv_if_eq (tgt := 29) hx hb dX2_setDice_4 (by decide) (fun c_1 => ?_) (fun c_1 => ?_)
  · exact wx_throw (E := xIAE) (ik := 38) (is := 40) (ic := 42) hQ hH hx hb hl9 hml hown hts hT hR hex hlocks hl.1 fit_IAE mw_4_18 mw_4_19 (List.mem_of_getElem? (i := 0) rfl) (hat_IAE hts hT.2.2.2.2.2.2.1) gd_IAE dX2_setDice_29 dX2_setDice_32 dX2_setDice_33 dX2_setDice_35 dX2_setDice_38 (by decide) (Nat.le_of_ble_eq_true rfl)
  · refine lv_iload_n hx hb dX2_setDice_7 rfl (lv_at hl 2 rfl) ?_
    refine rdS (As := [.int s9]) (rest := []) ⟨hx, hb, hml, hown, hts⟩ hK 1 (c_isDieOrNone l D cs H s9) (gin_s mw_5_2 mw_5_3 mw_1_2 mw_5_4) (by decide +kernel) ⟨Nat.le_of_ble_eq_true rfl, Nat.le_of_ble_eq_true rfl⟩ rfl hl.1 rfl (Nat.le_of_ble_eq_true rfl) dX2_setDice_8 ⟨(Nat.zero_le _), (Nat.zero_le _)⟩ ?_
    refine W.eq (g2 := F0 m 11 ls [.int (b2i (dieNX s9))]) rfl ?_
    refine lv_if_eq (tgt := 29) hx hb dX2_setDice_11 (by decide) (fun c_2 => ?_) (fun c_2 => ?_)
    · exact wx_throw (E := xIAE) (ik := 38) (is := 40) (ic := 42) hQ hH hx hb hl9 hml hown hts hT hR hex hlocks hl.1 fit_IAE mw_4_18 mw_4_19 (List.mem_of_getElem? (i := 0) rfl) (hat_IAE hts hT.2.2.2.2.2.2.1) gd_IAE dX2_setDice_29 dX2_setDice_32 dX2_setDice_33 dX2_setDice_35 dX2_setDice_38 (by decide) (Nat.le_of_ble_eq_true rfl)
    · refine lv_iload_n hx hb dX2_setDice_14 rfl (lv_at hl 3 rfl) ?_
      refine rdS (As := [.int t9]) (rest := []) ⟨hx, hb, hml, hown, hts⟩ hK 1 (c_isDieOrNone l D cs H t9) (gin_s mw_5_2 mw_5_3 mw_1_2 mw_5_4) (by decide +kernel) ⟨Nat.le_of_ble_eq_true rfl, Nat.le_of_ble_eq_true rfl⟩ rfl hl.1 rfl (Nat.le_of_ble_eq_true rfl) dX2_setDice_15 ⟨(Nat.zero_le _), (Nat.zero_le _)⟩ ?_
      refine W.eq (g2 := F0 m 18 ls [.int (b2i (dieNX t9))]) rfl ?_
      refine lv_if_eq (tgt := 29) hx hb dX2_setDice_18 (by decide) (fun c_3 => ?_) (fun c_3 => ?_)
      · exact wx_throw (E := xIAE) (ik := 38) (is := 40) (ic := 42) hQ hH hx hb hl9 hml hown hts hT hR hex hlocks hl.1 fit_IAE mw_4_18 mw_4_19 (List.mem_of_getElem? (i := 0) rfl) (hat_IAE hts hT.2.2.2.2.2.2.1) gd_IAE dX2_setDice_29 dX2_setDice_32 dX2_setDice_33 dX2_setDice_35 dX2_setDice_38 (by decide) (Nat.le_of_ble_eq_true rfl)
      · refine lv_iload_n hx hb dX2_setDice_21 rfl (lv_at hl 2 rfl) ?_
        refine lv_if_ne (tgt := 39) hx hb dX2_setDice_22 (by decide) (fun c_4 => ?_) (fun c_4 => ?_)
        · first | contradiction | (rw [(b2i_ne0 _).mp c_1, (b2i_ne0 _).mp c_2, (b2i_ne0 _).mp c_3] at hv; simp [c_4] at hv)
        · refine lv_iload_n hx hb dX2_setDice_25 rfl (lv_at hl 3 rfl) ?_
          refine lv_if_eq (tgt := 39) hx hb dX2_setDice_26 (by decide) (fun c_5 => ?_) (fun c_5 => ?_)
          · first | contradiction | (rw [(b2i_ne0 _).mp c_1, (b2i_ne0 _).mp c_2, (b2i_ne0 _).mp c_3] at hv; simp [c_4, c_5] at hv)
          · exact wx_throw (E := xIAE) (ik := 38) (is := 40) (ic := 42) hQ hH hx hb hl9 hml hown hts hT hR hex hlocks hl.1 fit_IAE mw_4_18 mw_4_19 (List.mem_of_getElem? (i := 0) rfl) (hat_IAE hts hT.2.2.2.2.2.2.1) gd_IAE dX2_setDice_29 dX2_setDice_32 dX2_setDice_33 dX2_setDice_35 dX2_setDice_38 (by decide) (Nat.le_of_ble_eq_true rfl)
set_option maxHeartbeats 4000000 in
set_option maxRecDepth 100000 in
theorem t_setDice2 (l : Launch) (hl9 : l.stackTraces = false) (D : va_G) (cs : Nat → ClassId) (z mi : Nat) (H : Heap) {ad : Nat → Nat} {bank rnds cnt mcn : Int32} {N n cap : Nat} {su fa pu : Nat → Int32} {rf : Nat → Option Nat} {wa : Nat → Nat} {wf : Nat → Nat → Int32} {kd : Nat → Nat} (RR : RX D cs H ad bank rnds cnt mcn N n cap su fa pu rf wa wf kd) (f s9 t9 : Int32) (hv : (dieX f && dieNX s9 && dieNX t9 && (!decide (s9 = 0) || decide (t9 = 0))) = true) (hop : 0 < n) : Wx z mi l D cs 7 yX2_setDice cX2_setDice 4 (some .int) H [.ref (ad 0), .int f, .int s9, .int t9] xISE := by
  refine wx_ent (by decide) (Nat.le_of_ble_eq_true rfl) ?_
  intro p e s m below meth c ls Q hx hb hr hml hown hts hlocks hl hK hT hR hH hex hQ
  have hl : lv_has ls 4 [(0, .ref (ad 0)), (1, .int f), (2, .int s9), (3, .int t9)] := hl
  have RR0 := RR
  obtain ⟨hP, hG, hN1, hN, hn, hcap⟩ := RR
  refine lv_iload_n hx hb dX2_setDice_0 rfl (lv_at hl 1 rfl) ?_
  refine rdS (As := [.int f]) (rest := []) ⟨hx, hb, hml, hown, hts⟩ hK 1 (c_isDie l D cs H f) (gin_s mw_4_23 mw_5_0 mw_1_2 mw_5_1) (by decide +kernel) ⟨Nat.le_of_ble_eq_true rfl, Nat.le_of_ble_eq_true rfl⟩ rfl hl.1 rfl (Nat.le_of_ble_eq_true rfl) dX2_setDice_1 ⟨(Nat.zero_le _), (Nat.zero_le _)⟩ ?_
  refine W.eq (g2 := F0 m 4 ls [.int (b2i (dieX f))]) rfl ?_
  refine lv_if_eq (tgt := 29) hx hb dX2_setDice_4 (by decide) (fun c_1 => ?_) (fun c_1 => ?_)
  · first | contradiction | exact absurd hv (by simp [(b2i_eq0 _).mp c_1])
  · refine lv_iload_n hx hb dX2_setDice_7 rfl (lv_at hl 2 rfl) ?_
    refine rdS (As := [.int s9]) (rest := []) ⟨hx, hb, hml, hown, hts⟩ hK 1 (c_isDieOrNone l D cs H s9) (gin_s mw_5_2 mw_5_3 mw_1_2 mw_5_4) (by decide +kernel) ⟨Nat.le_of_ble_eq_true rfl, Nat.le_of_ble_eq_true rfl⟩ rfl hl.1 rfl (Nat.le_of_ble_eq_true rfl) dX2_setDice_8 ⟨(Nat.zero_le _), (Nat.zero_le _)⟩ ?_
    refine W.eq (g2 := F0 m 11 ls [.int (b2i (dieNX s9))]) rfl ?_
    refine lv_if_eq (tgt := 29) hx hb dX2_setDice_11 (by decide) (fun c_2 => ?_) (fun c_2 => ?_)
    · first | contradiction | exact absurd hv (by simp [(b2i_ne0 _).mp c_1, (b2i_eq0 _).mp c_2])
    · refine lv_iload_n hx hb dX2_setDice_14 rfl (lv_at hl 3 rfl) ?_
      refine rdS (As := [.int t9]) (rest := []) ⟨hx, hb, hml, hown, hts⟩ hK 1 (c_isDieOrNone l D cs H t9) (gin_s mw_5_2 mw_5_3 mw_1_2 mw_5_4) (by decide +kernel) ⟨Nat.le_of_ble_eq_true rfl, Nat.le_of_ble_eq_true rfl⟩ rfl hl.1 rfl (Nat.le_of_ble_eq_true rfl) dX2_setDice_15 ⟨(Nat.zero_le _), (Nat.zero_le _)⟩ ?_
      refine W.eq (g2 := F0 m 18 ls [.int (b2i (dieNX t9))]) rfl ?_
      refine lv_if_eq (tgt := 29) hx hb dX2_setDice_18 (by decide) (fun c_3 => ?_) (fun c_3 => ?_)
      · first | contradiction | exact absurd hv (by simp [(b2i_ne0 _).mp c_1, (b2i_ne0 _).mp c_2, (b2i_eq0 _).mp c_3])
      · refine lv_iload_n hx hb dX2_setDice_21 rfl (lv_at hl 2 rfl) ?_
        refine lv_if_ne (tgt := 39) hx hb dX2_setDice_22 (by decide) (fun c_4 => ?_) (fun c_4 => ?_)
        · refine lv_aload_n hx hb dX2_setDice_39 rfl (lv_at hl 0 rfl) ?_
          refine va_get (D := D) (ci := 3) (v := .ref (ad 2)) (C := RX2) (T := TX2) (N := 5) hx hb hts inlX2 hown hK hP 0 rfl rfl 1 (by decide) (hts (Cond.fieldLink RX2 19 "TavernDice" "wagers" "Ljava/util/ArrayList;") mw_1_21) (fun _ h9 => h9) rfl dX2_setDice_40 ?_
          refine rdV (As := []) (rest := []) (b := ad 2) ⟨hx, hb, hml, hown, hts⟩ hK 0 (c_isEmpty l D cs H (by omega) (hP.sub [4] rfl)) (gin_v mw_5_5 mw_5_6 mw_5_7 mw_1_20 mw_5_8) (by decide +kernel) ⟨Nat.le_of_ble_eq_true rfl, Nat.le_of_ble_eq_true rfl⟩ (va_recv hK hP (ci := 0) (q0 := 4) rfl rfl) rfl hl.1 rfl (Nat.le_of_ble_eq_true rfl) dX2_setDice_43 ⟨(Nat.zero_le _), (Nat.zero_le _)⟩ ?_
          refine W.eq (g2 := F0 m 46 ls [.int (b2i (decide (n = 0)))]) rfl ?_
          refine lv_if_ne (tgt := 59) hx hb dX2_setDice_46 (by decide) (fun c_5 => False.elim (absurd ((b2i_ne0 _).mp c_5) (by rw [decide_eq_false (by omega : ¬ n = 0)]; decide))) (fun c_5 => ?_)
          exact wx_throw (E := xISE) (ik := 49) (is := 51) (ic := 53) hQ hH hx hb hl9 hml hown hts hT hR hex hlocks hl.1 fit_ISE mw_4_20 mw_4_21 (List.mem_of_getElem? (i := 1) rfl) (hat_ISE hts hT.2.2.2.2.2.2.1) gd_ISE dX2_setDice_49 dX2_setDice_52 dX2_setDice_53 dX2_setDice_55 dX2_setDice_58 (by decide) (Nat.le_of_ble_eq_true rfl)
        · refine lv_iload_n hx hb dX2_setDice_25 rfl (lv_at hl 3 rfl) ?_
          refine lv_if_eq (tgt := 39) hx hb dX2_setDice_26 (by decide) (fun c_6 => ?_) (fun c_6 => ?_)
          · refine lv_aload_n hx hb dX2_setDice_39 rfl (lv_at hl 0 rfl) ?_
            refine va_get (D := D) (ci := 3) (v := .ref (ad 2)) (C := RX2) (T := TX2) (N := 5) hx hb hts inlX2 hown hK hP 0 rfl rfl 1 (by decide) (hts (Cond.fieldLink RX2 19 "TavernDice" "wagers" "Ljava/util/ArrayList;") mw_1_21) (fun _ h9 => h9) rfl dX2_setDice_40 ?_
            refine rdV (As := []) (rest := []) (b := ad 2) ⟨hx, hb, hml, hown, hts⟩ hK 0 (c_isEmpty l D cs H (by omega) (hP.sub [4] rfl)) (gin_v mw_5_5 mw_5_6 mw_5_7 mw_1_20 mw_5_8) (by decide +kernel) ⟨Nat.le_of_ble_eq_true rfl, Nat.le_of_ble_eq_true rfl⟩ (va_recv hK hP (ci := 0) (q0 := 4) rfl rfl) rfl hl.1 rfl (Nat.le_of_ble_eq_true rfl) dX2_setDice_43 ⟨(Nat.zero_le _), (Nat.zero_le _)⟩ ?_
            refine W.eq (g2 := F0 m 46 ls [.int (b2i (decide (n = 0)))]) rfl ?_
            refine lv_if_ne (tgt := 59) hx hb dX2_setDice_46 (by decide) (fun c_7 => False.elim (absurd ((b2i_ne0 _).mp c_7) (by rw [decide_eq_false (by omega : ¬ n = 0)]; decide))) (fun c_7 => ?_)
            exact wx_throw (E := xISE) (ik := 49) (is := 51) (ic := 53) hQ hH hx hb hl9 hml hown hts hT hR hex hlocks hl.1 fit_ISE mw_4_20 mw_4_21 (List.mem_of_getElem? (i := 1) rfl) (hat_ISE hts hT.2.2.2.2.2.2.1) gd_ISE dX2_setDice_49 dX2_setDice_52 dX2_setDice_53 dX2_setDice_55 dX2_setDice_58 (by decide) (Nat.le_of_ble_eq_true rfl)
          · first | contradiction | (rw [(b2i_ne0 _).mp c_1, (b2i_ne0 _).mp c_2, (b2i_ne0 _).mp c_3] at hv; simp [c_4, c_6] at hv)
