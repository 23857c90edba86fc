/-! the class: what its methods answer where they do not throw; rows by program -/
set_option maxHeartbeats 4000000 in
set_option maxRecDepth 100000 in
theorem c_dice (l : Launch) (D : va_G) (cs : Nat → ClassId) (H : Heap) {ad : Nat → Nat} {bank rnds cnt mcn : Int32} {N n cap : Nat} {su fa pu : Nat → Int32} {rf : Nat → Option Nat} {wa : Nat → Nat} {wf : Nat → Nat → Int32} {kd : Nat → Nat} (RR : RX D cs H ad bank rnds cnt mcn N n cap su fa pu rf wa wf kd) : Rd l D (Ty cs) 1 yX2_dice cX2_dice 1 (some .int) H [.ref (ad 0)] (some (.int cnt)) := by
  refine rd_ent (by decide) (Nat.le_of_ble_eq_true rfl) ?_
  intro p e s m below meth c ls hx hb hr hml hown hts hlocks hl hH hK
  have hl : lv_has ls 1 [(0, .ref (ad 0))] := hl
  have RR0 := RR
  obtain ⟨hP, hG, hN1, hN, hn, hcap⟩ := RR
  refine lv_aload_n hx hb dX2_dice_0 rfl (lv_at hl 0 rfl) ?_
  refine va_get (D := D) (ci := 3) (v := .ref (ad 1)) (C := RX2) (T := TX2) (N := 5) hx hb hts inlX2 hown hK hP 0 rfl rfl 0 (by decide) (hts (Cond.fieldLink RX2 12 "TavernDice" "dice" "LTavernDice$Dice;") mw_1_14) (fun _ h9 => h9) rfl dX2_dice_1 ?_
  refine va_get (D := D) (ci := 1) (v := .int cnt) (C := RX0) (T := TX0) (N := 4) hx hb hts inlX0 hown hK hP 1 rfl rfl 2 (by decide) (hts (Cond.fieldLink RX2 61 "TavernDice$Dice" "count" "I") mw_14_6) (fun _ h9 => h9) rfl dX2_dice_4 ?_
  exact rd_iret hH hx hb hr hlocks (rfl) dX2_dice_7
set_option maxHeartbeats 4000000 in
set_option maxRecDepth 100000 in
theorem c_outcomes (l : Launch) (D : va_G) (cs : Nat → ClassId) (H : Heap) {ad : Nat → Nat} {bank rnds cnt mcn : Int32} {N n cap : Nat} {su fa pu : Nat → Int32} {rf : Nat → Option Nat} {wa : Nat → Nat} {wf : Nat → Nat → Int32} {kd : Nat → Nat} (RR : RX D cs H ad bank rnds cnt mcn N n cap su fa pu rf wa wf kd) : Rd l D (Ty cs) 1 yX2_outcomes cX2_outcomes 1 (some .int) H [.ref (ad 0)] (some (.int (nI N))) := by
  refine rd_ent (by decide) (Nat.le_of_ble_eq_true rfl) ?_
  intro p e s m below meth c ls hx hb hr hml hown hts hlocks hl hH hK
  have hl : lv_has ls 1 [(0, .ref (ad 0))] := hl
  have RR0 := RR
  obtain ⟨hP, hG, hN1, hN, hn, hcap⟩ := RR
  refine lv_aload_n hx hb dX2_outcomes_0 rfl (lv_at hl 0 rfl) ?_
  refine va_get (D := D) (ci := 3) (v := .ref (ad 1)) (C := RX2) (T := TX2) (N := 5) hx hb hts inlX2 hown hK hP 0 rfl rfl 0 (by decide) (hts (Cond.fieldLink RX2 12 "TavernDice" "dice" "LTavernDice$Dice;") mw_1_14) (fun _ h9 => h9) rfl dX2_outcomes_1 ?_
  refine va_get (D := D) (ci := 1) (v := .int (nI N)) (C := RX0) (T := TX0) (N := 4) hx hb hts inlX0 hown hK hP 1 rfl rfl 3 (by decide) (hts (Cond.fieldLink RX2 58 "TavernDice$Dice" "outcomes" "I") mw_5_10) (fun _ h9 => h9) rfl dX2_outcomes_4 ?_
  exact rd_iret hH hx hb hr hlocks (rfl) dX2_outcomes_7
set_option maxHeartbeats 4000000 in
set_option maxRecDepth 100000 in
theorem c_open (l : Launch) (D : va_G) (cs : Nat → ClassId) (H : Heap) {ad : Nat → Nat} {bank rnds cnt mcn : Int32} {N n cap : Nat} {su fa pu : Nat → Int32} {rf : Nat → Option Nat} {wa : Nat → Nat} {wf : Nat → Nat → Int32} {kd : Nat → Nat} (RR : RX D cs H ad bank rnds cnt mcn N n cap su fa pu rf wa wf kd) : Rd l D (Ty cs) 2 yX2_open cX2_open 1 (some .int) H [.ref (ad 0)] (some (.int (nI n))) := by
  refine rd_ent (by decide) (Nat.le_of_ble_eq_true rfl) ?_
  intro p e s m below meth c ls hx hb hr hml hown hts hlocks hl hH hK
  have hl : lv_has ls 1 [(0, .ref (ad 0))] := hl
  have RR0 := RR
  obtain ⟨hP, hG, hN1, hN, hn, hcap⟩ := RR
  refine lv_aload_n hx hb dX2_open_0 rfl (lv_at hl 0 rfl) ?_
  refine va_get (D := D) (ci := 3) (v := .ref (ad 2)) (C := RX2) (T := TX2) (N := 5) hx hb hts inlX2 hown hK hP 0 rfl rfl 1 (by decide) (hts (Cond.fieldLink RX2 19 "TavernDice" "wagers" "Ljava/util/ArrayList;") mw_1_18) (fun _ h9 => h9) rfl dX2_open_1 ?_
  refine rdV (As := []) (rest := []) (b := ad 2) ⟨hx, hb, hml, hown, hts⟩ hK 0 (c_size l D cs H (hP.sub [4] rfl)) (gin_v mw_6_15 mw_6_16 mw_6_17 mw_1_17 mw_6_18) (by decide +kernel) ⟨Nat.le_of_ble_eq_true rfl, Nat.le_of_ble_eq_true rfl⟩ (va_recv hK hP (ci := 0) (q0 := 4) rfl rfl) rfl hl.1 rfl (Nat.le_of_ble_eq_true rfl) dX2_open_4 ⟨(Nat.zero_le _), (Nat.zero_le _)⟩ ?_
  refine W.eq (g2 := F0 m 7 ls [.int (nI n)]) rfl ?_
  exact rd_iret hH hx hb hr hlocks (rfl) dX2_open_7
set_option maxHeartbeats 4000000 in
set_option maxRecDepth 100000 in
theorem c_bank (l : Launch) (D : va_G) (cs : Nat → ClassId) (H : Heap) {ad : Nat → Nat} {bank rnds cnt mcn : Int32} {N n cap : Nat} {su fa pu : Nat → Int32} {rf : Nat → Option Nat} {wa : Nat → Nat} {wf : Nat → Nat → Int32} {kd : Nat → Nat} (RR : RX D cs H ad bank rnds cnt mcn N n cap su fa pu rf wa wf kd) : Rd l D (Ty cs) 1 yX2_bank cX2_bank 1 (some .int) H [.ref (ad 0)] (some (.int bank)) := by
  refine rd_ent (by decide) (Nat.le_of_ble_eq_true rfl) ?_
  intro p e s m below meth c ls hx hb hr hml hown hts hlocks hl hH hK
  have hl : lv_has ls 1 [(0, .ref (ad 0))] := hl
  have RR0 := RR
  obtain ⟨hP, hG, hN1, hN, hn, hcap⟩ := RR
  refine lv_aload_n hx hb dX2_bank_0 rfl (lv_at hl 0 rfl) ?_
  refine va_get (D := D) (ci := 3) (v := .int bank) (C := RX2) (T := TX2) (N := 5) hx hb hts inlX2 hown hK hP 0 rfl rfl 3 (by decide) (hts (Cond.fieldLink RX2 27 "TavernDice" "bank" "I") mw_1_20) (fun _ h9 => h9) rfl dX2_bank_1 ?_
  exact rd_iret hH hx hb hr hlocks (rfl) dX2_bank_4
set_option maxHeartbeats 4000000 in
set_option maxRecDepth 100000 in
theorem c_rounds (l : Launch) (D : va_G) (cs : Nat → ClassId) (H : Heap) {ad : Nat → Nat} {bank rnds cnt mcn : Int32} {N n cap : Nat} {su fa pu : Nat → Int32} {rf : Nat → Option Nat} {wa : Nat → Nat} {wf : Nat → Nat → Int32} {kd : Nat → Nat} (RR : RX D cs H ad bank rnds cnt mcn N n cap su fa pu rf wa wf kd) : Rd l D (Ty cs) 1 yX2_rounds cX2_rounds 1 (some .int) H [.ref (ad 0)] (some (.int rnds)) := by
  refine rd_ent (by decide) (Nat.le_of_ble_eq_true rfl) ?_
  intro p e s m below meth c ls hx hb hr hml hown hts hlocks hl hH hK
  have hl : lv_has ls 1 [(0, .ref (ad 0))] := hl
  have RR0 := RR
  obtain ⟨hP, hG, hN1, hN, hn, hcap⟩ := RR
  refine lv_aload_n hx hb dX2_rounds_0 rfl (lv_at hl 0 rfl) ?_
  refine va_get (D := D) (ci := 3) (v := .int rnds) (C := RX2) (T := TX2) (N := 5) hx hb hts inlX2 hown hK hP 0 rfl rfl 4 (by decide) (hts (Cond.fieldLink RX2 134 "TavernDice" "rounds" "I") mw_8_17) (fun _ h9 => h9) rfl dX2_rounds_1 ?_
  exact rd_iret hH hx hb hr hlocks (rfl) dX2_rounds_4
set_option maxHeartbeats 4000000 in
set_option maxRecDepth 100000 in
theorem c_allEdgesTop (l : Launch) (D : va_G) (cs : Nat → ClassId) (H : Heap) {ad : Nat → Nat} {bank rnds cnt mcn : Int32} {N n cap : Nat} {su fa pu : Nat → Int32} {rf : Nat → Option Nat} {wa : Nat → Nat} {wf : Nat → Nat → Int32} {kd : Nat → Nat} (RR : RX D cs H ad bank rnds cnt mcn N n cap su fa pu rf wa wf kd) : Rd l D (Ty cs) 5 yX2_allEdgesTop cX2_allEdgesTop 1 (some .int) H [.ref (ad 0)] (some (.int (sm (goX N wf) n / cdX (sm (goX N wf) n) (nI N)))) := by
  refine rd_ent (by decide) (Nat.le_of_ble_eq_true rfl) ?_
  intro p e s m below meth c ls hx hb hr hml hown hts hlocks hl hH hK
  have hl : lv_has ls 1 [(0, .ref (ad 0))] := hl
  have RR0 := RR
  obtain ⟨hP, hG, hN1, hN, hn, hcap⟩ := RR
  refine lv_aload_n hx hb dX2_allEdgesTop_0 rfl (lv_at hl 0 rfl) ?_
  refine lv_aload_n hx hb dX2_allEdgesTop_1 rfl (lv_at hl 0 rfl) ?_
  refine rdV (As := []) (rest := [.ref (ad 0)]) (b := ad 0) ⟨hx, hb, hml, hown, hts⟩ hK 0 (c_gainOfAllOverOutcomes l D cs H RR0) (gin_v mw_15_11 mw_15_12 mw_15_13 mw_1_2 mw_15_14) (by decide +kernel) ⟨Nat.le_of_ble_eq_true rfl, Nat.le_of_ble_eq_true rfl⟩ (va_recv hK hP (ci := 3) (q0 := 0) rfl rfl) rfl hl.1 rfl (Nat.le_of_ble_eq_true rfl) dX2_allEdgesTop_2 ⟨(Nat.zero_le _), (Nat.zero_le _)⟩ ?_
  refine W.eq (g2 := F0 m 5 ls [.int (sm (goX N wf) n), .ref (ad 0)]) rfl ?_
  refine rdV (As := [.int (sm (goX N wf) n)]) (rest := []) (b := ad 0) ⟨hx, hb, hml, hown, hts⟩ hK 1 (c_lowestTop l D cs H RR0 (sm (goX N wf) n)) (gin_v mw_16_0 mw_16_1 mw_16_2 mw_1_2 mw_16_3) (by decide +kernel) ⟨Nat.le_of_ble_eq_true rfl, Nat.le_of_ble_eq_true rfl⟩ (va_recv hK hP (ci := 3) (q0 := 0) rfl rfl) rfl hl.1 rfl (Nat.le_of_ble_eq_true rfl) dX2_allEdgesTop_5 ⟨(Nat.zero_le _), (Nat.zero_le _)⟩ ?_
  refine W.eq (g2 := F0 m 8 ls [.int ((sm (goX N wf) n) / cdX (sm (goX N wf) n) (nI N))]) rfl ?_
  exact rd_iret hH hx hb hr hlocks (rfl) dX2_allEdgesTop_8
set_option maxHeartbeats 4000000 in
set_option maxRecDepth 100000 in
theorem c_allEdgesBottom (l : Launch) (D : va_G) (cs : Nat → ClassId) (H : Heap) {ad : Nat → Nat} {bank rnds cnt mcn : Int32} {N n cap : Nat} {su fa pu : Nat → Int32} {rf : Nat → Option Nat} {wa : Nat → Nat} {wf : Nat → Nat → Int32} {kd : Nat → Nat} (RR : RX D cs H ad bank rnds cnt mcn N n cap su fa pu rf wa wf kd) : Rd l D (Ty cs) 5 yX2_allEdgesBottom cX2_allEdgesBottom 1 (some .int) H [.ref (ad 0)] (some (.int (nI N / cdX (sm (goX N wf) n) (nI N)))) := by
  refine rd_ent (by decide) (Nat.le_of_ble_eq_true rfl) ?_
  intro p e s m below meth c ls hx hb hr hml hown hts hlocks hl hH hK
  have hl : lv_has ls 1 [(0, .ref (ad 0))] := hl
  have RR0 := RR
  obtain ⟨hP, hG, hN1, hN, hn, hcap⟩ := RR
  refine lv_aload_n hx hb dX2_allEdgesBottom_0 rfl (lv_at hl 0 rfl) ?_
  refine lv_aload_n hx hb dX2_allEdgesBottom_1 rfl (lv_at hl 0 rfl) ?_
  refine rdV (As := []) (rest := [.ref (ad 0)]) (b := ad 0) ⟨hx, hb, hml, hown, hts⟩ hK 0 (c_gainOfAllOverOutcomes l D cs H RR0) (gin_v mw_15_11 mw_15_12 mw_15_13 mw_1_2 mw_15_14) (by decide +kernel) ⟨Nat.le_of_ble_eq_true rfl, Nat.le_of_ble_eq_true rfl⟩ (va_recv hK hP (ci := 3) (q0 := 0) rfl rfl) rfl hl.1 rfl (Nat.le_of_ble_eq_true rfl) dX2_allEdgesBottom_2 ⟨(Nat.zero_le _), (Nat.zero_le _)⟩ ?_
  refine W.eq (g2 := F0 m 5 ls [.int (sm (goX N wf) n), .ref (ad 0)]) rfl ?_
  refine rdV (As := [.int (sm (goX N wf) n)]) (rest := []) (b := ad 0) ⟨hx, hb, hml, hown, hts⟩ hK 1 (c_lowestBottom l D cs H RR0 (sm (goX N wf) n)) (gin_v mw_16_15 mw_16_16 mw_16_17 mw_1_2 mw_16_18) (by decide +kernel) ⟨Nat.le_of_ble_eq_true rfl, Nat.le_of_ble_eq_true rfl⟩ (va_recv hK hP (ci := 3) (q0 := 0) rfl rfl) rfl hl.1 rfl (Nat.le_of_ble_eq_true rfl) dX2_allEdgesBottom_5 ⟨(Nat.zero_le _), (Nat.zero_le _)⟩ ?_
  refine W.eq (g2 := F0 m 8 ls [.int (nI N / cdX (sm (goX N wf) n) (nI N))]) rfl ?_
  exact rd_iret hH hx hb hr hlocks (rfl) dX2_allEdgesBottom_8
set_option maxHeartbeats 4000000 in
set_option maxRecDepth 100000 in
theorem c_worstGain (l : Launch) (D : va_G) (cs : Nat → ClassId) (H : Heap) {ad : Nat → Nat} {bank rnds cnt mcn : Int32} {N n cap : Nat} {su fa pu : Nat → Int32} {rf : Nat → Option Nat} {wa : Nat → Nat} {wf : Nat → Nat → Int32} {kd : Nat → Nat} (RR : RX D cs H ad bank rnds cnt mcn N n cap su fa pu rf wa wf kd) : Rd l D (Ty cs) 6 yX2_worstGain cX2_worstGain 1 (some .int) H [.ref (ad 0)] (some (.int ((fun o => sm (gnX su fa wf kd o) n) (wst (fun o => sm (gnX su fa wf kd o) n) N)))) := by
  refine rd_ent (by decide) (Nat.le_of_ble_eq_true rfl) ?_
  intro p e s m below meth c ls hx hb hr hml hown hts hlocks hl hH hK
  have hl : lv_has ls 1 [(0, .ref (ad 0))] := hl
  have RR0 := RR
  obtain ⟨hP, hG, hN1, hN, hn, hcap⟩ := RR
  refine lv_aload_n hx hb dX2_worstGain_0 rfl (lv_at hl 0 rfl) ?_
  refine lv_aload_n hx hb dX2_worstGain_1 rfl (lv_at hl 0 rfl) ?_
  refine rdV (As := []) (rest := [.ref (ad 0)]) (b := ad 0) ⟨hx, hb, hml, hown, hts⟩ hK 0 (c_worstOutcome l D cs H RR0) (gin_v mw_17_3 mw_17_4 mw_17_5 mw_1_2 mw_17_6) (by decide +kernel) ⟨Nat.le_of_ble_eq_true rfl, Nat.le_of_ble_eq_true rfl⟩ (va_recv hK hP (ci := 3) (q0 := 0) rfl rfl) rfl hl.1 rfl (Nat.le_of_ble_eq_true rfl) dX2_worstGain_2 ⟨(Nat.zero_le _), (Nat.zero_le _)⟩ ?_
  refine W.eq (g2 := F0 m 5 ls [.int (nI (wst (fun o => sm (gnX su fa wf kd o) n) N)), .ref (ad 0)]) rfl ?_
  refine rdV (As := [.int (nI (wst (fun o => sm (gnX su fa wf kd o) n) N))]) (rest := []) (b := ad 0) ⟨hx, hb, hml, hown, hts⟩ hK 1 (c_gainOfAll l D cs H RR0 (wst (fun o => sm (gnX su fa wf kd o) n) N) (by have g := wst_lt (fun o => sm (gnX su fa wf kd o) n) hN1; omega)) (gin_v mw_8_22 mw_8_23 mw_9_0 mw_1_2 mw_9_1) (by decide +kernel) ⟨Nat.le_of_ble_eq_true rfl, Nat.le_of_ble_eq_true rfl⟩ (va_recv hK hP (ci := 3) (q0 := 0) rfl rfl) rfl hl.1 rfl (Nat.le_of_ble_eq_true rfl) dX2_worstGain_5 ⟨(Nat.zero_le _), (Nat.zero_le _)⟩ ?_
  refine W.eq (g2 := F0 m 8 ls [.int ((fun o => sm (gnX su fa wf kd o) n) (wst (fun o => sm (gnX su fa wf kd o) n) N))]) rfl ?_
  exact rd_iret hH hx hb hr hlocks (rfl) dX2_worstGain_8
set_option maxHeartbeats 4000000 in
set_option maxRecDepth 100000 in
theorem c_dearestWager (l : Launch) (D : va_G) (cs : Nat → ClassId) (H : Heap) {ad : Nat → Nat} {bank rnds cnt mcn : Int32} {N n cap : Nat} {su fa pu : Nat → Int32} {rf : Nat → Option Nat} {wa : Nat → Nat} {wf : Nat → Nat → Int32} {kd : Nat → Nat} (RR : RX D cs H ad bank rnds cnt mcn N n cap su fa pu rf wa wf kd) : Rd l D (Ty cs) 4 yX2_dearestWager cX2_dearestWager 10 (some .int) H [.ref (ad 0)] (some (.int (drs N wf n).1)) := by
  refine rd_ent (by decide) (Nat.le_of_ble_eq_true rfl) ?_
  intro p e s m below meth c ls hx hb hr hml hown hts hlocks hl hH hK
  have hl : lv_has ls 10 [(0, .ref (ad 0))] := hl
  have RR0 := RR
  obtain ⟨hP, hG, hN1, hN, hn, hcap⟩ := RR
  refine lv_iconst (v := (drs N wf 0).1) hx hb dX2_dearestWager_0 (by first | decide | rfl) ?_
  refine lv_istore_n (lv' := [(1, .int ((drs N wf 0).1)), (0, .ref (ad 0))]) hx hb dX2_dearestWager_1 rfl hl (by decide) rfl (fun ls hl => ?_)
  refine lv_lconst (v := (drs N wf 0).2.1) hx hb dX2_dearestWager_2 (by first | decide | rfl) ?_
  refine lv_lstore_n (lv' := [(2, .long ((drs N wf 0).2.1)), (1, .int ((drs N wf 0).1)), (0, .ref (ad 0))]) hx hb dX2_dearestWager_3 rfl hl (by decide) rfl (fun ls hl => ?_)
  refine lv_lconst (v := (drs N wf 0).2.2) hx hb dX2_dearestWager_4 (by first | decide | rfl) ?_
  refine lv_lstore (lv' := [(4, .long ((drs N wf 0).2.2)), (2, .long ((drs N wf 0).2.1)), (1, .int ((drs N wf 0).1)), (0, .ref (ad 0))]) hx hb dX2_dearestWager_5 hl (by decide) rfl (fun ls hl => ?_)
  refine lv_iconst (v := nI 0) hx hb dX2_dearestWager_7 (by first | decide | rfl) ?_
  refine lv_istore (lv' := [(6, .int (nI 0)), (4, .long ((drs N wf 0).2.2)), (2, .long ((drs N wf 0).2.1)), (1, .int ((drs N wf 0).1)), (0, .ref (ad 0))]) hx hb dX2_dearestWager_8 hl (by decide) rfl (fun ls hl => ?_)
  have loop10 : ∀ (n9 : Nat) (i : Nat) (ls : Array Slot), i ≤ n → n + 1 ≤ i + n9 → lv_has ls 10 [(0, .ref (ad 0)), (1, .int ((drs N wf i).1)), (2, .long ((drs N wf i).2.1)), (4, .long ((drs N wf i).2.2)), (6, .int (nI i))] → RdW p l e 4 s m [.ref (ad 0)] below meth c H (some (.int (drs N wf n).1)) (F0 m 10 ls []) := by
    intro n9
    induction n9 with
    | zero => intro i  ls hi hf hl; exact absurd hf (by omega)
    | succ n9 ih10 =>
      intro i  ls hi hf hl
      refine lv_iload hx hb dX2_dearestWager_10 (lv_at hl 4 rfl) ?_
      refine lv_aload_n hx hb dX2_dearestWager_12 rfl (lv_at hl 0 rfl) ?_
      refine va_get (D := D) (ci := 3) (v := .ref (ad 2)) (C := RX2) (T := TX2) (N := 5) hx hb hts inlX2 hown hK hP 0 rfl rfl 1 (by decide) (hts (Cond.fieldLink RX2 19 "TavernDice" "wagers" "Ljava/util/ArrayList;") mw_1_18) (fun _ h9 => h9) rfl dX2_dearestWager_13 ?_
      refine rdV (As := []) (rest := [.int (nI i)]) (b := ad 2) ⟨hx, hb, hml, hown, hts⟩ hK 0 (c_size l D cs H (hP.sub [4] rfl)) (gin_v mw_6_15 mw_6_16 mw_6_17 mw_1_17 mw_6_18) (by decide +kernel) ⟨Nat.le_of_ble_eq_true rfl, Nat.le_of_ble_eq_true rfl⟩ (va_recv hK hP (ci := 0) (q0 := 4) rfl rfl) rfl hl.1 rfl (Nat.le_of_ble_eq_true rfl) dX2_dearestWager_16 ⟨(Nat.zero_le _), (Nat.zero_le _)⟩ ?_
      refine W.eq (g2 := F0 m 19 ls [.int (nI n), .int (nI i)]) rfl ?_
      refine lv_icmp_ge (tgt := 86) hx hb dX2_dearestWager_19 (by decide) (fun c_1 => ?_) (fun c_1 => ?_)
      · refine lv_iload_n hx hb dX2_dearestWager_86 rfl (lv_at hl 1 rfl) ?_
        exact rd_iret hH hx hb hr hlocks (rv (by rw [show i = n from (by have g := (nI_leI (by omega) (by omega)).mp c_1; omega)])) dX2_dearestWager_87
      · have hlt : i < n := by
          rcases Nat.lt_or_ge i n with q | q
          · exact q
          · exact absurd (nI_le q (by omega)) c_1
        refine lv_aload_n hx hb dX2_dearestWager_22 rfl (lv_at hl 0 rfl) ?_
        refine va_get (D := D) (ci := 3) (v := .ref (ad 2)) (C := RX2) (T := TX2) (N := 5) hx hb hts inlX2 hown hK hP 0 rfl rfl 1 (by decide) (hts (Cond.fieldLink RX2 19 "TavernDice" "wagers" "Ljava/util/ArrayList;") mw_1_18) (fun _ h9 => h9) rfl dX2_dearestWager_23 ?_
        refine lv_iload hx hb dX2_dearestWager_26 (lv_at hl 4 rfl) ?_
        refine rdV (As := [.int (nI i)]) (rest := []) (b := ad 2) ⟨hx, hb, hml, hown, hts⟩ hK 1 (c_get l D cs H (hP.sub [4] rfl) (hG i hlt).2.1 i hlt (hG i hlt).2.2.2.2.2 (by omega) (by omega) (hG i hlt).2.2.1) (gin_v mw_9_5 mw_9_6 mw_9_7 mw_1_17 mw_9_8) (by decide +kernel) ⟨Nat.le_of_ble_eq_true rfl, Nat.le_of_ble_eq_true rfl⟩ (va_recv hK hP (ci := 0) (q0 := 4) rfl rfl) rfl hl.1 rfl (Nat.le_of_ble_eq_true rfl) dX2_dearestWager_28 ⟨(Nat.zero_le _), (Nat.zero_le _)⟩ ?_
        refine W.eq (g2 := F0 m 31 ls [.ref (wa i)]) rfl ?_
        refine va_castSelf hx hb hown (hts (Cond.classLink RX2 98 RX1) mw_10_16) (va_recv hK (hG i hlt).1 (ci := 2) (q0 := 0) rfl rfl) dX2_dearestWager_31 ?_
        refine lv_astore (lv' := [(7, .ref (wa i)), (0, .ref (ad 0)), (1, .int ((drs N wf i).1)), (2, .long ((drs N wf i).2.1)), (4, .long ((drs N wf i).2.2)), (6, .int (nI i))]) hx hb dX2_dearestWager_34 hl (by decide) rfl (fun ls hl => ?_)
        refine lv_aload_n hx hb dX2_dearestWager_36 rfl (lv_at hl 1 rfl) ?_
        refine lv_aload hx hb dX2_dearestWager_37 (lv_at hl 0 rfl) ?_
        refine rdV (As := [.ref (wa i)]) (rest := []) (b := ad 0) ⟨hx, hb, hml, hown, hts⟩ hK 1 (c_gainOverOutcomes l D cs H RR0 i hlt) (gin_v mw_15_15 mw_15_16 mw_15_17 mw_1_2 mw_15_18) (by decide +kernel) ⟨Nat.le_of_ble_eq_true rfl, Nat.le_of_ble_eq_true rfl⟩ (va_recv hK hP (ci := 3) (q0 := 0) rfl rfl) rfl hl.1 rfl (Nat.le_of_ble_eq_true rfl) dX2_dearestWager_39 ⟨(Nat.zero_le _), (Nat.zero_le _)⟩ ?_
        refine W.eq (g2 := F0 m 42 ls [.int (goX N wf i)]) rfl ?_
        refine lv_i2l hx hb dX2_dearestWager_42 rfl ?_
        refine lv_lstore (lv' := [(8, .long ((goX N wf i).toInt64)), (7, .ref (wa i)), (0, .ref (ad 0)), (1, .int ((drs N wf i).1)), (2, .long ((drs N wf i).2.1)), (4, .long ((drs N wf i).2.2)), (6, .int (nI i))]) hx hb dX2_dearestWager_43 hl (by decide) rfl (fun ls hl => ?_)
        refine lv_iload_n hx hb dX2_dearestWager_45 rfl (lv_at hl 3 rfl) ?_
        refine lv_if_lt (tgt := 66) hx hb dX2_dearestWager_46 (by decide) (fun c_2 => ?_) (fun c_2 => ?_)
        · refine lv_iload hx hb dX2_dearestWager_66 (lv_at hl 6 rfl) ?_
          refine lv_istore_n (lv' := [(1, .int (nI i)), (8, .long ((goX N wf i).toInt64)), (7, .ref (wa i)), (0, .ref (ad 0)), (2, .long ((drs N wf i).2.1)), (4, .long ((drs N wf i).2.2)), (6, .int (nI i))]) hx hb dX2_dearestWager_68 rfl hl (by decide) rfl (fun ls hl => ?_)
          refine lv_lload hx hb dX2_dearestWager_69 (lv_at hl 1 rfl) ?_
          refine lv_lstore_n (lv' := [(2, .long ((goX N wf i).toInt64)), (1, .int (nI i)), (8, .long ((goX N wf i).toInt64)), (7, .ref (wa i)), (0, .ref (ad 0)), (4, .long ((drs N wf i).2.2)), (6, .int (nI i))]) hx hb dX2_dearestWager_71 rfl hl (by decide) rfl (fun ls hl => ?_)
          refine lv_aload hx hb dX2_dearestWager_72 (lv_at hl 3 rfl) ?_
          refine va_get (D := D) (ci := 2) (v := .int (wf i 3)) (C := RX1) (T := TX1) (N := 6) hx hb hts inlX1 hown hK (hG i hlt).1 0 rfl rfl 3 (by decide) (hts (Cond.fieldLink RX2 121 "TavernDice$Wager" "stake" "I") mw_6_8) (fun _ h9 => h9) rfl dX2_dearestWager_74 ?_
          refine lv_i2l hx hb dX2_dearestWager_77 rfl ?_
          refine lv_lstore (lv' := [(4, .long ((wf i 3).toInt64)), (2, .long ((goX N wf i).toInt64)), (1, .int (nI i)), (8, .long ((goX N wf i).toInt64)), (7, .ref (wa i)), (0, .ref (ad 0)), (6, .int (nI i))]) hx hb dX2_dearestWager_78 hl (by decide) rfl (fun ls hl => ?_)
          have hT : drs N wf (i + 1) = (nI i, (goX N wf i).toInt64, (wf i 3).toInt64) := if_pos (Or.inl c_2)
          have hl : lv_has ls 10 [(0, .ref (ad 0)), (1, .int ((drs N wf (i + 1)).1)), (2, .long ((drs N wf (i + 1)).2.1)), (4, .long ((drs N wf (i + 1)).2.2)), (6, .int (nI i))] := by rw [hT]; exact lv_sub hl [5, 2, 1, 0, 6] rfl
          refine lv_iinc (v := nI (i + 1)) (lv' := [(6, .int (nI (i + 1))), (0, .ref (ad 0)), (1, .int ((drs N wf (i + 1)).1)), (2, .long ((drs N wf (i + 1)).2.1)), (4, .long ((drs N wf (i + 1)).2.2))]) hx hb dX2_dearestWager_80 hl (k := 4) rfl (nI_1 i) (by decide) rfl (fun ls hl => ?_)
          refine lv_goto (tgt := 10) hx hb dX2_dearestWager_83 (by decide) ?_
          exact ih10 (i + 1) ls (by omega) (by omega) (lv_sub hl [1, 2, 3, 4, 0] rfl)
        · refine lv_lload hx hb dX2_dearestWager_49 (lv_at hl 0 rfl) ?_
          refine lv_lload hx hb dX2_dearestWager_51 (lv_at hl 5 rfl) ?_
          refine lv_lmul hx hb dX2_dearestWager_53 ?_
          refine lv_lload_n hx hb dX2_dearestWager_54 rfl (lv_at hl 4 rfl) ?_
          refine lv_aload hx hb dX2_dearestWager_55 (lv_at hl 1 rfl) ?_
          refine va_get (D := D) (ci := 2) (v := .int (wf i 3)) (C := RX1) (T := TX1) (N := 6) hx hb hts inlX1 hown hK (hG i hlt).1 0 rfl rfl 3 (by decide) (hts (Cond.fieldLink RX2 121 "TavernDice$Wager" "stake" "I") mw_6_8) (fun _ h9 => h9) rfl dX2_dearestWager_57 ?_
          refine lv_i2l hx hb dX2_dearestWager_60 rfl ?_
          refine lv_lmul hx hb dX2_dearestWager_61 ?_
          refine W.lcmp hx hb dX2_dearestWager_62 ?_
          refine lv_if_le (tgt := 80) hx hb dX2_dearestWager_63 (by decide) (fun c_3 => ?_) (fun c_3 => ?_)
          · have hT : drs N wf (i + 1) = drs N wf i := if_neg (fun z => z.elim c_2 ((lcmp_le _ _).mp c_3))
            have hl : lv_has ls 10 [(0, .ref (ad 0)), (1, .int ((drs N wf (i + 1)).1)), (2, .long ((drs N wf (i + 1)).2.1)), (4, .long ((drs N wf (i + 1)).2.2)), (6, .int (nI i))] := by rw [hT]; exact lv_sub hl [2, 3, 4, 5, 6] rfl
            refine lv_iinc (v := nI (i + 1)) (lv' := [(6, .int (nI (i + 1))), (0, .ref (ad 0)), (1, .int ((drs N wf (i + 1)).1)), (2, .long ((drs N wf (i + 1)).2.1)), (4, .long ((drs N wf (i + 1)).2.2))]) hx hb dX2_dearestWager_80 hl (k := 4) rfl (nI_1 i) (by decide) rfl (fun ls hl => ?_)
            refine lv_goto (tgt := 10) hx hb dX2_dearestWager_83 (by decide) ?_
            exact ih10 (i + 1) ls (by omega) (by omega) (lv_sub hl [1, 2, 3, 4, 0] rfl)
          · refine lv_iload hx hb dX2_dearestWager_66 (lv_at hl 6 rfl) ?_
            refine lv_istore_n (lv' := [(1, .int (nI i)), (8, .long ((goX N wf i).toInt64)), (7, .ref (wa i)), (0, .ref (ad 0)), (2, .long ((drs N wf i).2.1)), (4, .long ((drs N wf i).2.2)), (6, .int (nI i))]) hx hb dX2_dearestWager_68 rfl hl (by decide) rfl (fun ls hl => ?_)
            refine lv_lload hx hb dX2_dearestWager_69 (lv_at hl 1 rfl) ?_
            refine lv_lstore_n (lv' := [(2, .long ((goX N wf i).toInt64)), (1, .int (nI i)), (8, .long ((goX N wf i).toInt64)), (7, .ref (wa i)), (0, .ref (ad 0)), (4, .long ((drs N wf i).2.2)), (6, .int (nI i))]) hx hb dX2_dearestWager_71 rfl hl (by decide) rfl (fun ls hl => ?_)
            refine lv_aload hx hb dX2_dearestWager_72 (lv_at hl 3 rfl) ?_
            refine va_get (D := D) (ci := 2) (v := .int (wf i 3)) (C := RX1) (T := TX1) (N := 6) hx hb hts inlX1 hown hK (hG i hlt).1 0 rfl rfl 3 (by decide) (hts (Cond.fieldLink RX2 121 "TavernDice$Wager" "stake" "I") mw_6_8) (fun _ h9 => h9) rfl dX2_dearestWager_74 ?_
            refine lv_i2l hx hb dX2_dearestWager_77 rfl ?_
            refine lv_lstore (lv' := [(4, .long ((wf i 3).toInt64)), (2, .long ((goX N wf i).toInt64)), (1, .int (nI i)), (8, .long ((goX N wf i).toInt64)), (7, .ref (wa i)), (0, .ref (ad 0)), (6, .int (nI i))]) hx hb dX2_dearestWager_78 hl (by decide) rfl (fun ls hl => ?_)
            have hT : drs N wf (i + 1) = (nI i, (goX N wf i).toInt64, (wf i 3).toInt64) := if_pos (Or.inr (Classical.not_not.mp (fun z => c_3 ((lcmp_le _ _).mpr z))))
            have hl : lv_has ls 10 [(0, .ref (ad 0)), (1, .int ((drs N wf (i + 1)).1)), (2, .long ((drs N wf (i + 1)).2.1)), (4, .long ((drs N wf (i + 1)).2.2)), (6, .int (nI i))] := by rw [hT]; exact lv_sub hl [5, 2, 1, 0, 6] rfl
            refine lv_iinc (v := nI (i + 1)) (lv' := [(6, .int (nI (i + 1))), (0, .ref (ad 0)), (1, .int ((drs N wf (i + 1)).1)), (2, .long ((drs N wf (i + 1)).2.1)), (4, .long ((drs N wf (i + 1)).2.2))]) hx hb dX2_dearestWager_80 hl (k := 4) rfl (nI_1 i) (by decide) rfl (fun ls hl => ?_)
            refine lv_goto (tgt := 10) hx hb dX2_dearestWager_83 (by decide) ?_
            exact ih10 (i + 1) ls (by omega) (by omega) (lv_sub hl [1, 2, 3, 4, 0] rfl)
  exact loop10 (n + 1) 0 ls (Nat.zero_le _) (by omega) (lv_sub hl [4, 3, 2, 1, 0] rfl)
set_option maxHeartbeats 4000000 in
set_option maxRecDepth 100000 in
theorem c_checkOutcome (l : Launch) (D : va_G) (cs : Nat → ClassId) (H : Heap) {ad : Nat → Nat} {bank rnds cnt mcn : Int32} {N n cap : Nat} {su fa pu : Nat → Int32} {rf : Nat → Option Nat} {wa : Nat → Nat} {wf : Nat → Nat → Int32} {kd : Nat → Nat} (RR : RX D cs H ad bank rnds cnt mcn N n cap su fa pu rf wa wf kd) (o : Nat) (ho : o < N) : Rd l D (Ty cs) 1 yX2_checkOutcome cX2_checkOutcome 2 none H [.ref (ad 0), .int (nI o)] (none) := by
  refine rd_ent (by decide) (Nat.le_of_ble_eq_true rfl) ?_
  intro p e s m below meth c ls hx hb hr hml hown hts hlocks hl hH hK
  have hl : lv_has ls 2 [(0, .ref (ad 0)), (1, .int (nI o))] := hl
  have RR0 := RR
  obtain ⟨hP, hG, hN1, hN, hn, hcap⟩ := RR
  refine lv_iload_n hx hb dX2_checkOutcome_0 rfl (lv_at hl 1 rfl) ?_
  refine lv_if_lt (tgt := 15) hx hb dX2_checkOutcome_1 (by decide) (fun c_1 => False.elim (absurd c_1 (nI_pos (by omega)))) (fun c_1 => ?_)
  refine lv_iload_n hx hb dX2_checkOutcome_4 rfl (lv_at hl 1 rfl) ?_
  refine lv_aload_n hx hb dX2_checkOutcome_5 rfl (lv_at hl 0 rfl) ?_
  refine va_get (D := D) (ci := 3) (v := .ref (ad 1)) (C := RX2) (T := TX2) (N := 5) hx hb hts inlX2 hown hK hP 0 rfl rfl 0 (by decide) (hts (Cond.fieldLink RX2 12 "TavernDice" "dice" "LTavernDice$Dice;") mw_1_14) (fun _ h9 => h9) rfl dX2_checkOutcome_6 ?_
  refine va_get (D := D) (ci := 1) (v := .int (nI N)) (C := RX0) (T := TX0) (N := 4) hx hb hts inlX0 hown hK hP 1 rfl rfl 3 (by decide) (hts (Cond.fieldLink RX2 58 "TavernDice$Dice" "outcomes" "I") mw_5_10) (fun _ h9 => h9) rfl dX2_checkOutcome_9 ?_
  refine lv_icmp_lt (tgt := 26) hx hb dX2_checkOutcome_12 (by decide) (fun c_2 => ?_) (fun c_2 => False.elim (absurd (nI_lt ho (by omega)) c_2))
  exact rd_vret hH hx hb hr hlocks (rfl) dX2_checkOutcome_26
set_option maxHeartbeats 4000000 in
set_option maxRecDepth 100000 in
theorem c_checkWager (l : Launch) (D : va_G) (cs : Nat → ClassId) (H : Heap) {ad : Nat → Nat} {bank rnds cnt mcn : Int32} {N n cap : Nat} {su fa pu : Nat → Int32} {rf : Nat → Option Nat} {wa : Nat → Nat} {wf : Nat → Nat → Int32} {kd : Nat → Nat} (RR : RX D cs H ad bank rnds cnt mcn N n cap su fa pu rf wa wf kd) (i : Nat) (hi : i < n) : Rd l D (Ty cs) 2 yX2_checkWager cX2_checkWager 2 none H [.ref (ad 0), .int (nI i)] (none) := by
  refine rd_ent (by decide) (Nat.le_of_ble_eq_true rfl) ?_
  intro p e s m below meth c ls hx hb hr hml hown hts hlocks hl hH hK
  have hl : lv_has ls 2 [(0, .ref (ad 0)), (1, .int (nI i))] := hl
  have RR0 := RR
  obtain ⟨hP, hG, hN1, hN, hn, hcap⟩ := RR
  refine lv_iload_n hx hb dX2_checkWager_0 rfl (lv_at hl 1 rfl) ?_
  refine lv_if_lt (tgt := 15) hx hb dX2_checkWager_1 (by decide) (fun c_1 => False.elim (absurd c_1 (nI_pos (by omega)))) (fun c_1 => ?_)
  refine lv_iload_n hx hb dX2_checkWager_4 rfl (lv_at hl 1 rfl) ?_
  refine lv_aload_n hx hb dX2_checkWager_5 rfl (lv_at hl 0 rfl) ?_
  refine va_get (D := D) (ci := 3) (v := .ref (ad 2)) (C := RX2) (T := TX2) (N := 5) hx hb hts inlX2 hown hK hP 0 rfl rfl 1 (by decide) (hts (Cond.fieldLink RX2 19 "TavernDice" "wagers" "Ljava/util/ArrayList;") mw_1_18) (fun _ h9 => h9) rfl dX2_checkWager_6 ?_
  refine rdV (As := []) (rest := [.int (nI i)]) (b := ad 2) ⟨hx, hb, hml, hown, hts⟩ hK 0 (c_size l D cs H (hP.sub [4] rfl)) (gin_v mw_6_15 mw_6_16 mw_6_17 mw_1_17 mw_6_18) (by decide +kernel) ⟨Nat.le_of_ble_eq_true rfl, Nat.le_of_ble_eq_true rfl⟩ (va_recv hK hP (ci := 0) (q0 := 4) rfl rfl) rfl hl.1 rfl (Nat.le_of_ble_eq_true rfl) dX2_checkWager_9 ⟨(Nat.zero_le _), (Nat.zero_le _)⟩ ?_
  refine W.eq (g2 := F0 m 12 ls [.int (nI n), .int (nI i)]) rfl ?_
  refine lv_icmp_lt (tgt := 26) hx hb dX2_checkWager_12 (by decide) (fun c_2 => ?_) (fun c_2 => False.elim (absurd (nI_lt hi (by omega)) c_2))
  exact rd_vret hH hx hb hr hlocks (rfl) dX2_checkWager_26
set_option maxHeartbeats 4000000 in
set_option maxRecDepth 100000 in
theorem c_checkPatron (l : Launch) (D : va_G) (cs : Nat → ClassId) (H : Heap) (p9 : Nat) (hp9 : p9 < 6) : Rd l D (Ty cs) 1 yX2_checkPatron cX2_checkPatron 1 none H [.int (nI p9)] (none) := by
  refine rd_ent (by decide) (Nat.le_of_ble_eq_true rfl) ?_
  intro p e s m below meth c ls hx hb hr hml hown hts hlocks hl hH hK
  have hl : lv_has ls 1 [(0, .int (nI p9))] := hl
  refine lv_iload_n hx hb dX2_checkPatron_0 rfl (lv_at hl 0 rfl) ?_
  refine lv_if_lt (tgt := 10) hx hb dX2_checkPatron_1 (by decide) (fun c_1 => False.elim (absurd c_1 (nI_pos (by omega)))) (fun c_1 => ?_)
  refine lv_iload_n hx hb dX2_checkPatron_4 rfl (lv_at hl 0 rfl) ?_
  refine lv_bipush (v := nI 6) hx hb dX2_checkPatron_5 (by first | decide | rfl) ?_
  refine lv_icmp_lt (tgt := 21) hx hb dX2_checkPatron_7 (by decide) (fun c_2 => ?_) (fun c_2 => False.elim (absurd (nI_lt hp9 (by omega)) c_2))
  exact rd_vret hH hx hb hr hlocks (rfl) dX2_checkPatron_21
set_option maxHeartbeats 4000000 in
set_option maxRecDepth 100000 in
theorem c_checkEvent (l : Launch) (D : va_G) (cs : Nat → ClassId) (H : Heap) (k q : Nat) (hk : k < 10) (hq : q ≤ 36) : Rd l D (Ty cs) 1 yX2_checkEvent cX2_checkEvent 2 none H [.int (nI k), .int (nI q)] (none) := by
  refine rd_ent (by decide) (Nat.le_of_ble_eq_true rfl) ?_
  intro p e s m below meth c ls hx hb hr hml hown hts hlocks hl hH hK
  have hl : lv_has ls 2 [(0, .int (nI k)), (1, .int (nI q))] := hl
  refine lv_iload_n hx hb dX2_checkEvent_0 rfl (lv_at hl 0 rfl) ?_
  refine lv_if_lt (tgt := 20) hx hb dX2_checkEvent_1 (by decide) (fun c_1 => False.elim (absurd c_1 (nI_pos (by omega)))) (fun c_1 => ?_)
  refine lv_iload_n hx hb dX2_checkEvent_4 rfl (lv_at hl 0 rfl) ?_
  refine lv_bipush (v := nI 10) hx hb dX2_checkEvent_5 (by first | decide | rfl) ?_
  refine lv_icmp_ge (tgt := 20) hx hb dX2_checkEvent_7 (by decide) (fun c_2 => False.elim (absurd c_2 (nI_ge hk (by omega)))) (fun c_2 => ?_)
  refine lv_iload_n hx hb dX2_checkEvent_10 rfl (lv_at hl 1 rfl) ?_
  refine lv_if_lt (tgt := 20) hx hb dX2_checkEvent_11 (by decide) (fun c_3 => False.elim (absurd c_3 (nI_pos (by omega)))) (fun c_3 => ?_)
  refine lv_iload_n hx hb dX2_checkEvent_14 rfl (lv_at hl 1 rfl) ?_
  refine lv_bipush (v := nI 36) hx hb dX2_checkEvent_15 (by first | decide | rfl) ?_
  refine lv_icmp_le (tgt := 31) hx hb dX2_checkEvent_17 (by decide) (fun c_4 => ?_) (fun c_4 => False.elim (absurd (nI_le hq (by omega)) c_4))
  exact rd_vret hH hx hb hr hlocks (rfl) dX2_checkEvent_31
set_option maxHeartbeats 4000000 in
set_option maxRecDepth 100000 in
theorem c_checkWin (l : Launch) (D : va_G) (cs : Nat → ClassId) (H : Heap) (wn : Int32) (h1 : ¬ wn < 1) (h2 : wn ≤ 20) : Rd l D (Ty cs) 1 yX2_checkWin cX2_checkWin 1 none H [.int wn] (none) := by
  refine rd_ent (by decide) (Nat.le_of_ble_eq_true rfl) ?_
  intro p e s m below meth c ls hx hb hr hml hown hts hlocks hl hH hK
  have hl : lv_has ls 1 [(0, .int wn)] := hl
  refine lv_iload_n hx hb dX2_checkWin_0 rfl (lv_at hl 0 rfl) ?_
  refine lv_iconst (v := 1) hx hb dX2_checkWin_1 (by first | decide | rfl) ?_
  refine lv_icmp_lt (tgt := 11) hx hb dX2_checkWin_2 (by decide) (fun c_1 => False.elim (h1 c_1)) (fun c_1 => ?_)
  refine lv_iload_n hx hb dX2_checkWin_5 rfl (lv_at hl 0 rfl) ?_
  refine lv_bipush (v := 20) hx hb dX2_checkWin_6 (by first | decide | rfl) ?_
  refine lv_icmp_le (tgt := 22) hx hb dX2_checkWin_8 (by decide) (fun c_2 => ?_) (fun c_2 => False.elim (c_2 h2))
  exact rd_vret hH hx hb hr hlocks (rfl) dX2_checkWin_22
set_option maxHeartbeats 4000000 in
set_option maxRecDepth 100000 in
theorem c_checkBase (l : Launch) (D : va_G) (cs : Nat → ClassId) (H : Heap) (bs : Int32) (h1 : ¬ bs < 1) (h2 : bs ≤ 10) : Rd l D (Ty cs) 1 yX2_checkBase cX2_checkBase 1 none H [.int bs] (none) := by
  refine rd_ent (by decide) (Nat.le_of_ble_eq_true rfl) ?_
  intro p e s m below meth c ls hx hb hr hml hown hts hlocks hl hH hK
  have hl : lv_has ls 1 [(0, .int bs)] := hl
  refine lv_iload_n hx hb dX2_checkBase_0 rfl (lv_at hl 0 rfl) ?_
  refine lv_iconst (v := 1) hx hb dX2_checkBase_1 (by first | decide | rfl) ?_
  refine lv_icmp_lt (tgt := 11) hx hb dX2_checkBase_2 (by decide) (fun c_1 => False.elim (h1 c_1)) (fun c_1 => ?_)
  refine lv_iload_n hx hb dX2_checkBase_5 rfl (lv_at hl 0 rfl) ?_
  refine lv_bipush (v := 10) hx hb dX2_checkBase_6 (by first | decide | rfl) ?_
  refine lv_icmp_le (tgt := 22) hx hb dX2_checkBase_8 (by decide) (fun c_2 => ?_) (fun c_2 => False.elim (c_2 h2))
  exact rd_vret hH hx hb hr hlocks (rfl) dX2_checkBase_22
set_option maxHeartbeats 4000000 in
set_option maxRecDepth 100000 in
theorem c_ways (l : Launch) (D : va_G) (cs : Nat → ClassId) (H : Heap) {ad : Nat → Nat} {bank rnds cnt mcn : Int32} {N n cap : Nat} {su fa pu : Nat → Int32} {rf : Nat → Option Nat} {wa : Nat → Nat} {wf : Nat → Nat → Int32} {kd : Nat → Nat} (RR : RX D cs H ad bank rnds cnt mcn N n cap su fa pu rf wa wf kd) (k q : Nat) (hk : k < 10) (hq : q ≤ 36) : Rd l D (Ty cs) 5 yX2_ways cX2_ways 3 (some .int) H [.ref (ad 0), .int (nI k), .int (nI q)] (some (.int (nI (cn (comesX su fa k (nI q)) N)))) := by
  refine rd_ent (by decide) (Nat.le_of_ble_eq_true rfl) ?_
  intro p e s m below meth c ls hx hb hr hml hown hts hlocks hl hH hK
  have hl : lv_has ls 3 [(0, .ref (ad 0)), (1, .int (nI k)), (2, .int (nI q))] := hl
  have RR0 := RR
  obtain ⟨hP, hG, hN1, hN, hn, hcap⟩ := RR
  refine lv_iload_n hx hb dX2_ways_0 rfl (lv_at hl 1 rfl) ?_
  refine lv_iload_n hx hb dX2_ways_1 rfl (lv_at hl 2 rfl) ?_
  refine rdS (As := [.int (nI k), .int (nI q)]) (rest := []) ⟨hx, hb, hml, hown, hts⟩ hK 2 (c_checkEvent l D cs H k q hk hq) (gin_s mw_10_22 mw_10_23 mw_1_2 mw_11_0) (by decide +kernel) ⟨Nat.le_of_ble_eq_true rfl, Nat.le_of_ble_eq_true rfl⟩ rfl hl.1 rfl (Nat.le_of_ble_eq_true rfl) dX2_ways_2 ⟨(Nat.zero_le _), (Nat.zero_le _)⟩ ?_
  refine W.eq (g2 := F0 m 5 ls []) rfl ?_
  refine lv_aload_n hx hb dX2_ways_5 rfl (lv_at hl 0 rfl) ?_
  refine va_get (D := D) (ci := 3) (v := .ref (ad 1)) (C := RX2) (T := TX2) (N := 5) hx hb hts inlX2 hown hK hP 0 rfl rfl 0 (by decide) (hts (Cond.fieldLink RX2 12 "TavernDice" "dice" "LTavernDice$Dice;") mw_1_14) (fun _ h9 => h9) rfl dX2_ways_6 ?_
  refine lv_iload_n hx hb dX2_ways_9 rfl (lv_at hl 1 rfl) ?_
  refine lv_iload_n hx hb dX2_ways_10 rfl (lv_at hl 2 rfl) ?_
  refine rdV (As := [.int (nI k), .int (nI q)]) (rest := []) (b := ad 1) ⟨hx, hb, hml, hown, hts⟩ hK 2 (c_countWays l D cs H (hP.sub [1, 2, 3] rfl) hN k hk (nI q)) (gin_v mw_11_7 mw_11_8 mw_11_9 mw_1_13 mw_11_10) (by decide +kernel) ⟨Nat.le_of_ble_eq_true rfl, Nat.le_of_ble_eq_true rfl⟩ (va_recv hK hP (ci := 1) (q0 := 1) rfl rfl) rfl hl.1 rfl (Nat.le_of_ble_eq_true rfl) dX2_ways_11 ⟨(Nat.zero_le _), (Nat.zero_le _)⟩ ?_
  refine W.eq (g2 := F0 m 14 ls [.int (nI (cn (comesX su fa k (nI q)) N))]) rfl ?_
  exact rd_iret hH hx hb hr hlocks (rfl) dX2_ways_14
set_option maxHeartbeats 4000000 in
set_option maxRecDepth 100000 in
theorem c_purseOf (l : Launch) (D : va_G) (cs : Nat → ClassId) (H : Heap) {ad : Nat → Nat} {bank rnds cnt mcn : Int32} {N n cap : Nat} {su fa pu : Nat → Int32} {rf : Nat → Option Nat} {wa : Nat → Nat} {wf : Nat → Nat → Int32} {kd : Nat → Nat} (RR : RX D cs H ad bank rnds cnt mcn N n cap su fa pu rf wa wf kd) (p9 : Nat) (hp9 : p9 < 6) : Rd l D (Ty cs) 3 yX2_purseOf cX2_purseOf 2 (some .int) H [.ref (ad 0), .int (nI p9)] (some (.int (pu p9))) := by
  refine rd_ent (by decide) (Nat.le_of_ble_eq_true rfl) ?_
  intro p e s m below meth c ls hx hb hr hml hown hts hlocks hl hH hK
  have hl : lv_has ls 2 [(0, .ref (ad 0)), (1, .int (nI p9))] := hl
  have RR0 := RR
  obtain ⟨hP, hG, hN1, hN, hn, hcap⟩ := RR
  refine lv_iload_n hx hb dX2_purseOf_0 rfl (lv_at hl 1 rfl) ?_
  refine rdS (As := [.int (nI p9)]) (rest := []) ⟨hx, hb, hml, hown, hts⟩ hK 1 (c_checkPatron l D cs H p9 (by omega)) (gin_s mw_10_19 mw_10_20 mw_1_2 mw_10_21) (by decide +kernel) ⟨Nat.le_of_ble_eq_true rfl, Nat.le_of_ble_eq_true rfl⟩ rfl hl.1 rfl (Nat.le_of_ble_eq_true rfl) dX2_purseOf_1 ⟨(Nat.zero_le _), (Nat.zero_le _)⟩ ?_
  refine W.eq (g2 := F0 m 4 ls []) rfl ?_
  refine lv_aload_n hx hb dX2_purseOf_4 rfl (lv_at hl 0 rfl) ?_
  refine va_get (D := D) (ci := 3) (v := .ref (ad 3)) (C := RX2) (T := TX2) (N := 5) hx hb hts inlX2 hown hK hP 0 rfl rfl 2 (by decide) (hts (Cond.fieldLink RX2 23 "TavernDice" "purses" "[I") mw_1_19) (fun _ h9 => h9) rfl dX2_purseOf_5 ?_
  refine lv_iload_n hx hb dX2_purseOf_8 rfl (lv_at hl 1 rfl) ?_
  refine va_iald hx hb hK hP 5 0 rfl rfl (vp_in_nI hp9 (by omega)) dX2_purseOf_9 ?_
  refine lv_rwi (y := pu p9) (congrArg pu (nI_clamp (by omega))) ?_
  exact rd_iret hH hx hb hr hlocks (rfl) dX2_purseOf_10
set_option maxHeartbeats 4000000 in
set_option maxRecDepth 100000 in
theorem c_patronOf (l : Launch) (D : va_G) (cs : Nat → ClassId) (H : Heap) {ad : Nat → Nat} {bank rnds cnt mcn : Int32} {N n cap : Nat} {su fa pu : Nat → Int32} {rf : Nat → Option Nat} {wa : Nat → Nat} {wf : Nat → Nat → Int32} {kd : Nat → Nat} (RR : RX D cs H ad bank rnds cnt mcn N n cap su fa pu rf wa wf kd) (i : Nat) (hlt : i < n) : Rd l D (Ty cs) 5 yX2_patronOf cX2_patronOf 2 (some .int) H [.ref (ad 0), .int (nI i)] (some (.int (wf i 0))) := by
  refine rd_ent (by decide) (Nat.le_of_ble_eq_true rfl) ?_
  intro p e s m below meth c ls hx hb hr hml hown hts hlocks hl hH hK
  have hl : lv_has ls 2 [(0, .ref (ad 0)), (1, .int (nI i))] := hl
  have RR0 := RR
  obtain ⟨hP, hG, hN1, hN, hn, hcap⟩ := RR
  refine lv_aload_n hx hb dX2_patronOf_0 rfl (lv_at hl 0 rfl) ?_
  refine lv_iload_n hx hb dX2_patronOf_1 rfl (lv_at hl 1 rfl) ?_
  refine rdV (As := [.int (nI i)]) (rest := []) (b := ad 0) ⟨hx, hb, hml, hown, hts⟩ hK 1 (c_checkWager l D cs H RR0 i hlt) (gin_v mw_6_9 mw_6_10 mw_6_11 mw_1_2 mw_6_12) (by decide +kernel) ⟨Nat.le_of_ble_eq_true rfl, Nat.le_of_ble_eq_true rfl⟩ (va_recv hK hP (ci := 3) (q0 := 0) rfl rfl) rfl hl.1 rfl (Nat.le_of_ble_eq_true rfl) dX2_patronOf_2 ⟨(Nat.zero_le _), (Nat.zero_le _)⟩ ?_
  refine W.eq (g2 := F0 m 5 ls []) rfl ?_
  refine lv_aload_n hx hb dX2_patronOf_5 rfl (lv_at hl 0 rfl) ?_
  refine va_get (D := D) (ci := 3) (v := .ref (ad 2)) (C := RX2) (T := TX2) (N := 5) hx hb hts inlX2 hown hK hP 0 rfl rfl 1 (by decide) (hts (Cond.fieldLink RX2 19 "TavernDice" "wagers" "Ljava/util/ArrayList;") mw_1_18) (fun _ h9 => h9) rfl dX2_patronOf_6 ?_
  refine lv_iload_n hx hb dX2_patronOf_9 rfl (lv_at hl 1 rfl) ?_
  refine rdV (As := [.int (nI i)]) (rest := []) (b := ad 2) ⟨hx, hb, hml, hown, hts⟩ hK 1 (c_get l D cs H (hP.sub [4] rfl) (hG i hlt).2.1 i hlt (hG i hlt).2.2.2.2.2 (by omega) (by omega) (hG i hlt).2.2.1) (gin_v mw_9_5 mw_9_6 mw_9_7 mw_1_17 mw_9_8) (by decide +kernel) ⟨Nat.le_of_ble_eq_true rfl, Nat.le_of_ble_eq_true rfl⟩ (va_recv hK hP (ci := 0) (q0 := 4) rfl rfl) rfl hl.1 rfl (Nat.le_of_ble_eq_true rfl) dX2_patronOf_10 ⟨(Nat.zero_le _), (Nat.zero_le _)⟩ ?_
  refine W.eq (g2 := F0 m 13 ls [.ref (wa i)]) rfl ?_
  refine va_castSelf hx hb hown (hts (Cond.classLink RX2 98 RX1) mw_10_16) (va_recv hK (hG i hlt).1 (ci := 2) (q0 := 0) rfl rfl) dX2_patronOf_13 ?_
  refine va_get (D := D) (ci := 2) (v := .int (wf i 0)) (C := RX1) (T := TX1) (N := 6) hx hb hts inlX1 hown hK (hG i hlt).1 0 rfl rfl 0 (by decide) (hts (Cond.fieldLink RX2 118 "TavernDice$Wager" "patron" "I") mw_6_7) (fun _ h9 => h9) rfl dX2_patronOf_16 ?_
  exact rd_iret hH hx hb hr hlocks (rfl) dX2_patronOf_19
set_option maxHeartbeats 4000000 in
set_option maxRecDepth 100000 in
theorem c_stakeOf (l : Launch) (D : va_G) (cs : Nat → ClassId) (H : Heap) {ad : Nat → Nat} {bank rnds cnt mcn : Int32} {N n cap : Nat} {su fa pu : Nat → Int32} {rf : Nat → Option Nat} {wa : Nat → Nat} {wf : Nat → Nat → Int32} {kd : Nat → Nat} (RR : RX D cs H ad bank rnds cnt mcn N n cap su fa pu rf wa wf kd) (i : Nat) (hlt : i < n) : Rd l D (Ty cs) 5 yX2_stakeOf cX2_stakeOf 2 (some .int) H [.ref (ad 0), .int (nI i)] (some (.int (wf i 3))) := by
  refine rd_ent (by decide) (Nat.le_of_ble_eq_true rfl) ?_
  intro p e s m below meth c ls hx hb hr hml hown hts hlocks hl hH hK
  have hl : lv_has ls 2 [(0, .ref (ad 0)), (1, .int (nI i))] := hl
  have RR0 := RR
  obtain ⟨hP, hG, hN1, hN, hn, hcap⟩ := RR
  refine lv_aload_n hx hb dX2_stakeOf_0 rfl (lv_at hl 0 rfl) ?_
  refine lv_iload_n hx hb dX2_stakeOf_1 rfl (lv_at hl 1 rfl) ?_
  refine rdV (As := [.int (nI i)]) (rest := []) (b := ad 0) ⟨hx, hb, hml, hown, hts⟩ hK 1 (c_checkWager l D cs H RR0 i hlt) (gin_v mw_6_9 mw_6_10 mw_6_11 mw_1_2 mw_6_12) (by decide +kernel) ⟨Nat.le_of_ble_eq_true rfl, Nat.le_of_ble_eq_true rfl⟩ (va_recv hK hP (ci := 3) (q0 := 0) rfl rfl) rfl hl.1 rfl (Nat.le_of_ble_eq_true rfl) dX2_stakeOf_2 ⟨(Nat.zero_le _), (Nat.zero_le _)⟩ ?_
  refine W.eq (g2 := F0 m 5 ls []) rfl ?_
  refine lv_aload_n hx hb dX2_stakeOf_5 rfl (lv_at hl 0 rfl) ?_
  refine va_get (D := D) (ci := 3) (v := .ref (ad 2)) (C := RX2) (T := TX2) (N := 5) hx hb hts inlX2 hown hK hP 0 rfl rfl 1 (by decide) (hts (Cond.fieldLink RX2 19 "TavernDice" "wagers" "Ljava/util/ArrayList;") mw_1_18) (fun _ h9 => h9) rfl dX2_stakeOf_6 ?_
  refine lv_iload_n hx hb dX2_stakeOf_9 rfl (lv_at hl 1 rfl) ?_
  refine rdV (As := [.int (nI i)]) (rest := []) (b := ad 2) ⟨hx, hb, hml, hown, hts⟩ hK 1 (c_get l D cs H (hP.sub [4] rfl) (hG i hlt).2.1 i hlt (hG i hlt).2.2.2.2.2 (by omega) (by omega) (hG i hlt).2.2.1) (gin_v mw_9_5 mw_9_6 mw_9_7 mw_1_17 mw_9_8) (by decide +kernel) ⟨Nat.le_of_ble_eq_true rfl, Nat.le_of_ble_eq_true rfl⟩ (va_recv hK hP (ci := 0) (q0 := 4) rfl rfl) rfl hl.1 rfl (Nat.le_of_ble_eq_true rfl) dX2_stakeOf_10 ⟨(Nat.zero_le _), (Nat.zero_le _)⟩ ?_
  refine W.eq (g2 := F0 m 13 ls [.ref (wa i)]) rfl ?_
  refine va_castSelf hx hb hown (hts (Cond.classLink RX2 98 RX1) mw_10_16) (va_recv hK (hG i hlt).1 (ci := 2) (q0 := 0) rfl rfl) dX2_stakeOf_13 ?_
  refine va_get (D := D) (ci := 2) (v := .int (wf i 3)) (C := RX1) (T := TX1) (N := 6) hx hb hts inlX1 hown hK (hG i hlt).1 0 rfl rfl 3 (by decide) (hts (Cond.fieldLink RX2 121 "TavernDice$Wager" "stake" "I") mw_6_8) (fun _ h9 => h9) rfl dX2_stakeOf_16 ?_
  exact rd_iret hH hx hb hr hlocks (rfl) dX2_stakeOf_19
set_option maxHeartbeats 4000000 in
set_option maxRecDepth 100000 in
theorem c_bringsOf (l : Launch) (D : va_G) (cs : Nat → ClassId) (H : Heap) {ad : Nat → Nat} {bank rnds cnt mcn : Int32} {N n cap : Nat} {su fa pu : Nat → Int32} {rf : Nat → Option Nat} {wa : Nat → Nat} {wf : Nat → Nat → Int32} {kd : Nat → Nat} (RR : RX D cs H ad bank rnds cnt mcn N n cap su fa pu rf wa wf kd) (i : Nat) (hlt : i < n) : Rd l D (Ty cs) 5 yX2_bringsOf cX2_bringsOf 2 (some .int) H [.ref (ad 0), .int (nI i)] (some (.int (wf i 4))) := by
  refine rd_ent (by decide) (Nat.le_of_ble_eq_true rfl) ?_
  intro p e s m below meth c ls hx hb hr hml hown hts hlocks hl hH hK
  have hl : lv_has ls 2 [(0, .ref (ad 0)), (1, .int (nI i))] := hl
  have RR0 := RR
  obtain ⟨hP, hG, hN1, hN, hn, hcap⟩ := RR
  refine lv_aload_n hx hb dX2_bringsOf_0 rfl (lv_at hl 0 rfl) ?_
  refine lv_iload_n hx hb dX2_bringsOf_1 rfl (lv_at hl 1 rfl) ?_
  refine rdV (As := [.int (nI i)]) (rest := []) (b := ad 0) ⟨hx, hb, hml, hown, hts⟩ hK 1 (c_checkWager l D cs H RR0 i hlt) (gin_v mw_6_9 mw_6_10 mw_6_11 mw_1_2 mw_6_12) (by decide +kernel) ⟨Nat.le_of_ble_eq_true rfl, Nat.le_of_ble_eq_true rfl⟩ (va_recv hK hP (ci := 3) (q0 := 0) rfl rfl) rfl hl.1 rfl (Nat.le_of_ble_eq_true rfl) dX2_bringsOf_2 ⟨(Nat.zero_le _), (Nat.zero_le _)⟩ ?_
  refine W.eq (g2 := F0 m 5 ls []) rfl ?_
  refine lv_aload_n hx hb dX2_bringsOf_5 rfl (lv_at hl 0 rfl) ?_
  refine va_get (D := D) (ci := 3) (v := .ref (ad 2)) (C := RX2) (T := TX2) (N := 5) hx hb hts inlX2 hown hK hP 0 rfl rfl 1 (by decide) (hts (Cond.fieldLink RX2 19 "TavernDice" "wagers" "Ljava/util/ArrayList;") mw_1_18) (fun _ h9 => h9) rfl dX2_bringsOf_6 ?_
  refine lv_iload_n hx hb dX2_bringsOf_9 rfl (lv_at hl 1 rfl) ?_
  refine rdV (As := [.int (nI i)]) (rest := []) (b := ad 2) ⟨hx, hb, hml, hown, hts⟩ hK 1 (c_get l D cs H (hP.sub [4] rfl) (hG i hlt).2.1 i hlt (hG i hlt).2.2.2.2.2 (by omega) (by omega) (hG i hlt).2.2.1) (gin_v mw_9_5 mw_9_6 mw_9_7 mw_1_17 mw_9_8) (by decide +kernel) ⟨Nat.le_of_ble_eq_true rfl, Nat.le_of_ble_eq_true rfl⟩ (va_recv hK hP (ci := 0) (q0 := 4) rfl rfl) rfl hl.1 rfl (Nat.le_of_ble_eq_true rfl) dX2_bringsOf_10 ⟨(Nat.zero_le _), (Nat.zero_le _)⟩ ?_
  refine W.eq (g2 := F0 m 13 ls [.ref (wa i)]) rfl ?_
  refine va_castSelf hx hb hown (hts (Cond.classLink RX2 98 RX1) mw_10_16) (va_recv hK (hG i hlt).1 (ci := 2) (q0 := 0) rfl rfl) dX2_bringsOf_13 ?_
  refine va_get (D := D) (ci := 2) (v := .int (wf i 4)) (C := RX1) (T := TX1) (N := 6) hx hb hts inlX1 hown hK (hG i hlt).1 0 rfl rfl 4 (by decide) (hts (Cond.fieldLink RX2 140 "TavernDice$Wager" "brings" "I") mw_9_4) (fun _ h9 => h9) rfl dX2_bringsOf_16 ?_
  exact rd_iret hH hx hb hr hlocks (rfl) dX2_bringsOf_19
set_option maxHeartbeats 4000000 in
set_option maxRecDepth 100000 in
theorem c_edgeTop (l : Launch) (D : va_G) (cs : Nat → ClassId) (H : Heap) {ad : Nat → Nat} {bank rnds cnt mcn : Int32} {N n cap : Nat} {su fa pu : Nat → Int32} {rf : Nat → Option Nat} {wa : Nat → Nat} {wf : Nat → Nat → Int32} {kd : Nat → Nat} (RR : RX D cs H ad bank rnds cnt mcn N n cap su fa pu rf wa wf kd) (i : Nat) (hlt : i < n) : Rd l D (Ty cs) 5 yX2_edgeTop cX2_edgeTop 2 (some .int) H [.ref (ad 0), .int (nI i)] (some (.int (goX N wf i / cdX (goX N wf i) (nI N)))) := by
  refine rd_ent (by decide) (Nat.le_of_ble_eq_true rfl) ?_
  intro p e s m below meth c ls hx hb hr hml hown hts hlocks hl hH hK
  have hl : lv_has ls 2 [(0, .ref (ad 0)), (1, .int (nI i))] := hl
  have RR0 := RR
  obtain ⟨hP, hG, hN1, hN, hn, hcap⟩ := RR
  refine lv_aload_n hx hb dX2_edgeTop_0 rfl (lv_at hl 0 rfl) ?_
  refine lv_iload_n hx hb dX2_edgeTop_1 rfl (lv_at hl 1 rfl) ?_
  refine rdV (As := [.int (nI i)]) (rest := []) (b := ad 0) ⟨hx, hb, hml, hown, hts⟩ hK 1 (c_checkWager l D cs H RR0 i hlt) (gin_v mw_6_9 mw_6_10 mw_6_11 mw_1_2 mw_6_12) (by decide +kernel) ⟨Nat.le_of_ble_eq_true rfl, Nat.le_of_ble_eq_true rfl⟩ (va_recv hK hP (ci := 3) (q0 := 0) rfl rfl) rfl hl.1 rfl (Nat.le_of_ble_eq_true rfl) dX2_edgeTop_2 ⟨(Nat.zero_le _), (Nat.zero_le _)⟩ ?_
  refine W.eq (g2 := F0 m 5 ls []) rfl ?_
  refine lv_aload_n hx hb dX2_edgeTop_5 rfl (lv_at hl 0 rfl) ?_
  refine lv_aload_n hx hb dX2_edgeTop_6 rfl (lv_at hl 0 rfl) ?_
  refine lv_aload_n hx hb dX2_edgeTop_7 rfl (lv_at hl 0 rfl) ?_
  refine va_get (D := D) (ci := 3) (v := .ref (ad 2)) (C := RX2) (T := TX2) (N := 5) hx hb hts inlX2 hown hK hP 0 rfl rfl 1 (by decide) (hts (Cond.fieldLink RX2 19 "TavernDice" "wagers" "Ljava/util/ArrayList;") mw_1_18) (fun _ h9 => h9) rfl dX2_edgeTop_8 ?_
  refine lv_iload_n hx hb dX2_edgeTop_11 rfl (lv_at hl 1 rfl) ?_
  refine rdV (As := [.int (nI i)]) (rest := [.ref (ad 0), .ref (ad 0)]) (b := ad 2) ⟨hx, hb, hml, hown, hts⟩ hK 1 (c_get l D cs H (hP.sub [4] rfl) (hG i hlt).2.1 i hlt (hG i hlt).2.2.2.2.2 (by omega) (by omega) (hG i hlt).2.2.1) (gin_v mw_9_5 mw_9_6 mw_9_7 mw_1_17 mw_9_8) (by decide +kernel) ⟨Nat.le_of_ble_eq_true rfl, Nat.le_of_ble_eq_true rfl⟩ (va_recv hK hP (ci := 0) (q0 := 4) rfl rfl) rfl hl.1 rfl (Nat.le_of_ble_eq_true rfl) dX2_edgeTop_12 ⟨(Nat.zero_le _), (Nat.zero_le _)⟩ ?_
  refine W.eq (g2 := F0 m 15 ls [.ref (wa i), .ref (ad 0), .ref (ad 0)]) rfl ?_
  refine va_castSelf hx hb hown (hts (Cond.classLink RX2 98 RX1) mw_10_16) (va_recv hK (hG i hlt).1 (ci := 2) (q0 := 0) rfl rfl) dX2_edgeTop_15 ?_
  refine rdV (As := [.ref (wa i)]) (rest := [.ref (ad 0)]) (b := ad 0) ⟨hx, hb, hml, hown, hts⟩ hK 1 (c_gainOverOutcomes l D cs H RR0 i hlt) (gin_v mw_15_15 mw_15_16 mw_15_17 mw_1_2 mw_15_18) (by decide +kernel) ⟨Nat.le_of_ble_eq_true rfl, Nat.le_of_ble_eq_true rfl⟩ (va_recv hK hP (ci := 3) (q0 := 0) rfl rfl) rfl hl.1 rfl (Nat.le_of_ble_eq_true rfl) dX2_edgeTop_18 ⟨(Nat.zero_le _), (Nat.zero_le _)⟩ ?_
  refine W.eq (g2 := F0 m 21 ls [.int (goX N wf i), .ref (ad 0)]) rfl ?_
  refine rdV (As := [.int (goX N wf i)]) (rest := []) (b := ad 0) ⟨hx, hb, hml, hown, hts⟩ hK 1 (c_lowestTop l D cs H RR0 (goX N wf i)) (gin_v mw_16_0 mw_16_1 mw_16_2 mw_1_2 mw_16_3) (by decide +kernel) ⟨Nat.le_of_ble_eq_true rfl, Nat.le_of_ble_eq_true rfl⟩ (va_recv hK hP (ci := 3) (q0 := 0) rfl rfl) rfl hl.1 rfl (Nat.le_of_ble_eq_true rfl) dX2_edgeTop_21 ⟨(Nat.zero_le _), (Nat.zero_le _)⟩ ?_
  refine W.eq (g2 := F0 m 24 ls [.int ((goX N wf i) / cdX (goX N wf i) (nI N))]) rfl ?_
  exact rd_iret hH hx hb hr hlocks (rfl) dX2_edgeTop_24
set_option maxHeartbeats 4000000 in
set_option maxRecDepth 100000 in
theorem c_edgeBottom (l : Launch) (D : va_G) (cs : Nat → ClassId) (H : Heap) {ad : Nat → Nat} {bank rnds cnt mcn : Int32} {N n cap : Nat} {su fa pu : Nat → Int32} {rf : Nat → Option Nat} {wa : Nat → Nat} {wf : Nat → Nat → Int32} {kd : Nat → Nat} (RR : RX D cs H ad bank rnds cnt mcn N n cap su fa pu rf wa wf kd) (i : Nat) (hlt : i < n) : Rd l D (Ty cs) 5 yX2_edgeBottom cX2_edgeBottom 2 (some .int) H [.ref (ad 0), .int (nI i)] (some (.int (nI N / cdX (goX N wf i) (nI N)))) := by
  refine rd_ent (by decide) (Nat.le_of_ble_eq_true rfl) ?_
  intro p e s m below meth c ls hx hb hr hml hown hts hlocks hl hH hK
  have hl : lv_has ls 2 [(0, .ref (ad 0)), (1, .int (nI i))] := hl
  have RR0 := RR
  obtain ⟨hP, hG, hN1, hN, hn, hcap⟩ := RR
  refine lv_aload_n hx hb dX2_edgeBottom_0 rfl (lv_at hl 0 rfl) ?_
  refine lv_iload_n hx hb dX2_edgeBottom_1 rfl (lv_at hl 1 rfl) ?_
  refine rdV (As := [.int (nI i)]) (rest := []) (b := ad 0) ⟨hx, hb, hml, hown, hts⟩ hK 1 (c_checkWager l D cs H RR0 i hlt) (gin_v mw_6_9 mw_6_10 mw_6_11 mw_1_2 mw_6_12) (by decide +kernel) ⟨Nat.le_of_ble_eq_true rfl, Nat.le_of_ble_eq_true rfl⟩ (va_recv hK hP (ci := 3) (q0 := 0) rfl rfl) rfl hl.1 rfl (Nat.le_of_ble_eq_true rfl) dX2_edgeBottom_2 ⟨(Nat.zero_le _), (Nat.zero_le _)⟩ ?_
  refine W.eq (g2 := F0 m 5 ls []) rfl ?_
  refine lv_aload_n hx hb dX2_edgeBottom_5 rfl (lv_at hl 0 rfl) ?_
  refine lv_aload_n hx hb dX2_edgeBottom_6 rfl (lv_at hl 0 rfl) ?_
  refine lv_aload_n hx hb dX2_edgeBottom_7 rfl (lv_at hl 0 rfl) ?_
  refine va_get (D := D) (ci := 3) (v := .ref (ad 2)) (C := RX2) (T := TX2) (N := 5) hx hb hts inlX2 hown hK hP 0 rfl rfl 1 (by decide) (hts (Cond.fieldLink RX2 19 "TavernDice" "wagers" "Ljava/util/ArrayList;") mw_1_18) (fun _ h9 => h9) rfl dX2_edgeBottom_8 ?_
  refine lv_iload_n hx hb dX2_edgeBottom_11 rfl (lv_at hl 1 rfl) ?_
  refine rdV (As := [.int (nI i)]) (rest := [.ref (ad 0), .ref (ad 0)]) (b := ad 2) ⟨hx, hb, hml, hown, hts⟩ hK 1 (c_get l D cs H (hP.sub [4] rfl) (hG i hlt).2.1 i hlt (hG i hlt).2.2.2.2.2 (by omega) (by omega) (hG i hlt).2.2.1) (gin_v mw_9_5 mw_9_6 mw_9_7 mw_1_17 mw_9_8) (by decide +kernel) ⟨Nat.le_of_ble_eq_true rfl, Nat.le_of_ble_eq_true rfl⟩ (va_recv hK hP (ci := 0) (q0 := 4) rfl rfl) rfl hl.1 rfl (Nat.le_of_ble_eq_true rfl) dX2_edgeBottom_12 ⟨(Nat.zero_le _), (Nat.zero_le _)⟩ ?_
  refine W.eq (g2 := F0 m 15 ls [.ref (wa i), .ref (ad 0), .ref (ad 0)]) rfl ?_
  refine va_castSelf hx hb hown (hts (Cond.classLink RX2 98 RX1) mw_10_16) (va_recv hK (hG i hlt).1 (ci := 2) (q0 := 0) rfl rfl) dX2_edgeBottom_15 ?_
  refine rdV (As := [.ref (wa i)]) (rest := [.ref (ad 0)]) (b := ad 0) ⟨hx, hb, hml, hown, hts⟩ hK 1 (c_gainOverOutcomes l D cs H RR0 i hlt) (gin_v mw_15_15 mw_15_16 mw_15_17 mw_1_2 mw_15_18) (by decide +kernel) ⟨Nat.le_of_ble_eq_true rfl, Nat.le_of_ble_eq_true rfl⟩ (va_recv hK hP (ci := 3) (q0 := 0) rfl rfl) rfl hl.1 rfl (Nat.le_of_ble_eq_true rfl) dX2_edgeBottom_18 ⟨(Nat.zero_le _), (Nat.zero_le _)⟩ ?_
  refine W.eq (g2 := F0 m 21 ls [.int (goX N wf i), .ref (ad 0)]) rfl ?_
  refine rdV (As := [.int (goX N wf i)]) (rest := []) (b := ad 0) ⟨hx, hb, hml, hown, hts⟩ hK 1 (c_lowestBottom l D cs H RR0 (goX N wf i)) (gin_v mw_16_15 mw_16_16 mw_16_17 mw_1_2 mw_16_18) (by decide +kernel) ⟨Nat.le_of_ble_eq_true rfl, Nat.le_of_ble_eq_true rfl⟩ (va_recv hK hP (ci := 3) (q0 := 0) rfl rfl) rfl hl.1 rfl (Nat.le_of_ble_eq_true rfl) dX2_edgeBottom_21 ⟨(Nat.zero_le _), (Nat.zero_le _)⟩ ?_
  refine W.eq (g2 := F0 m 24 ls [.int (nI N / cdX (goX N wf i) (nI N))]) rfl ?_
  exact rd_iret hH hx hb hr hlocks (rfl) dX2_edgeBottom_24
set_option maxHeartbeats 4000000 in
set_option maxRecDepth 100000 in
theorem c_gainAt (l : Launch) (D : va_G) (cs : Nat → ClassId) (H : Heap) {ad : Nat → Nat} {bank rnds cnt mcn : Int32} {N n cap : Nat} {su fa pu : Nat → Int32} {rf : Nat → Option Nat} {wa : Nat → Nat} {wf : Nat → Nat → Int32} {kd : Nat → Nat} (RR : RX D cs H ad bank rnds cnt mcn N n cap su fa pu rf wa wf kd) (o : Nat) (ho : o < N) : Rd l D (Ty cs) 5 yX2_gainAt cX2_gainAt 2 (some .int) H [.ref (ad 0), .int (nI o)] (some (.int (sm (gnX su fa wf kd o) n))) := by
  refine rd_ent (by decide) (Nat.le_of_ble_eq_true rfl) ?_
  intro p e s m below meth c ls hx hb hr hml hown hts hlocks hl hH hK
  have hl : lv_has ls 2 [(0, .ref (ad 0)), (1, .int (nI o))] := hl
  have RR0 := RR
  obtain ⟨hP, hG, hN1, hN, hn, hcap⟩ := RR
  refine lv_aload_n hx hb dX2_gainAt_0 rfl (lv_at hl 0 rfl) ?_
  refine lv_iload_n hx hb dX2_gainAt_1 rfl (lv_at hl 1 rfl) ?_
  refine rdV (As := [.int (nI o)]) (rest := []) (b := ad 0) ⟨hx, hb, hml, hown, hts⟩ hK 1 (c_checkOutcome l D cs H RR0 o ho) (gin_v mw_8_18 mw_8_19 mw_8_20 mw_1_2 mw_8_21) (by decide +kernel) ⟨Nat.le_of_ble_eq_true rfl, Nat.le_of_ble_eq_true rfl⟩ (va_recv hK hP (ci := 3) (q0 := 0) rfl rfl) rfl hl.1 rfl (Nat.le_of_ble_eq_true rfl) dX2_gainAt_2 ⟨(Nat.zero_le _), (Nat.zero_le _)⟩ ?_
  refine W.eq (g2 := F0 m 5 ls []) rfl ?_
  refine lv_aload_n hx hb dX2_gainAt_5 rfl (lv_at hl 0 rfl) ?_
  refine lv_iload_n hx hb dX2_gainAt_6 rfl (lv_at hl 1 rfl) ?_
  refine rdV (As := [.int (nI o)]) (rest := []) (b := ad 0) ⟨hx, hb, hml, hown, hts⟩ hK 1 (c_gainOfAll l D cs H RR0 o (by omega)) (gin_v mw_8_22 mw_8_23 mw_9_0 mw_1_2 mw_9_1) (by decide +kernel) ⟨Nat.le_of_ble_eq_true rfl, Nat.le_of_ble_eq_true rfl⟩ (va_recv hK hP (ci := 3) (q0 := 0) rfl rfl) rfl hl.1 rfl (Nat.le_of_ble_eq_true rfl) dX2_gainAt_7 ⟨(Nat.zero_le _), (Nat.zero_le _)⟩ ?_
  refine W.eq (g2 := F0 m 10 ls [.int (sm (gnX su fa wf kd o) n)]) rfl ?_
  exact rd_iret hH hx hb hr hlocks (rfl) dX2_gainAt_10
set_option maxHeartbeats 4000000 in
set_option maxRecDepth 100000 in
theorem c_purseAt (l : Launch) (D : va_G) (cs : Nat → ClassId) (H : Heap) {ad : Nat → Nat} {bank rnds cnt mcn : Int32} {N n cap : Nat} {su fa pu : Nat → Int32} {rf : Nat → Option Nat} {wa : Nat → Nat} {wf : Nat → Nat → Int32} {kd : Nat → Nat} (RR : RX D cs H ad bank rnds cnt mcn N n cap su fa pu rf wa wf kd) (p9 : Nat) (hp9 : p9 < 6) (o : Nat) (ho : o < N) : Rd l D (Ty cs) 5 yX2_purseAt cX2_purseAt 3 (some .int) H [.ref (ad 0), .int (nI p9), .int (nI o)] (some (.int (behX su fa pu wf kd (nI p9) p9 o n))) := by
  refine rd_ent (by decide) (Nat.le_of_ble_eq_true rfl) ?_
  intro p e s m below meth c ls hx hb hr hml hown hts hlocks hl hH hK
  have hl : lv_has ls 3 [(0, .ref (ad 0)), (1, .int (nI p9)), (2, .int (nI o))] := hl
  have RR0 := RR
  obtain ⟨hP, hG, hN1, hN, hn, hcap⟩ := RR
  refine lv_iload_n hx hb dX2_purseAt_0 rfl (lv_at hl 1 rfl) ?_
  refine rdS (As := [.int (nI p9)]) (rest := []) ⟨hx, hb, hml, hown, hts⟩ hK 1 (c_checkPatron l D cs H p9 (by omega)) (gin_s mw_10_19 mw_10_20 mw_1_2 mw_10_21) (by decide +kernel) ⟨Nat.le_of_ble_eq_true rfl, Nat.le_of_ble_eq_true rfl⟩ rfl hl.1 rfl (Nat.le_of_ble_eq_true rfl) dX2_purseAt_1 ⟨(Nat.zero_le _), (Nat.zero_le _)⟩ ?_
  refine W.eq (g2 := F0 m 4 ls []) rfl ?_
  refine lv_aload_n hx hb dX2_purseAt_4 rfl (lv_at hl 0 rfl) ?_
  refine lv_iload_n hx hb dX2_purseAt_5 rfl (lv_at hl 2 rfl) ?_
  refine rdV (As := [.int (nI o)]) (rest := []) (b := ad 0) ⟨hx, hb, hml, hown, hts⟩ hK 1 (c_checkOutcome l D cs H RR0 o ho) (gin_v mw_8_18 mw_8_19 mw_8_20 mw_1_2 mw_8_21) (by decide +kernel) ⟨Nat.le_of_ble_eq_true rfl, Nat.le_of_ble_eq_true rfl⟩ (va_recv hK hP (ci := 3) (q0 := 0) rfl rfl) rfl hl.1 rfl (Nat.le_of_ble_eq_true rfl) dX2_purseAt_6 ⟨(Nat.zero_le _), (Nat.zero_le _)⟩ ?_
  refine W.eq (g2 := F0 m 9 ls []) rfl ?_
  refine lv_aload_n hx hb dX2_purseAt_9 rfl (lv_at hl 0 rfl) ?_
  refine lv_iload_n hx hb dX2_purseAt_10 rfl (lv_at hl 1 rfl) ?_
  refine lv_iload_n hx hb dX2_purseAt_11 rfl (lv_at hl 2 rfl) ?_
  refine rdV (As := [.int (nI p9), .int (nI o)]) (rest := []) (b := ad 0) ⟨hx, hb, hml, hown, hts⟩ hK 2 (c_purseBehind l D cs H RR0 p9 (by omega) o (by omega)) (gin_v mw_10_4 mw_10_5 mw_10_6 mw_1_2 mw_10_7) (by decide +kernel) ⟨Nat.le_of_ble_eq_true rfl, Nat.le_of_ble_eq_true rfl⟩ (va_recv hK hP (ci := 3) (q0 := 0) rfl rfl) rfl hl.1 rfl (Nat.le_of_ble_eq_true rfl) dX2_purseAt_12 ⟨(Nat.zero_le _), (Nat.zero_le _)⟩ ?_
  refine W.eq (g2 := F0 m 15 ls [.int (behX su fa pu wf kd (nI p9) p9 o n)]) rfl ?_
  exact rd_iret hH hx hb hr hlocks (rfl) dX2_purseAt_15
set_option maxHeartbeats 4000000 in
set_option maxRecDepth 100000 in
theorem c_leastPurse (l : Launch) (D : va_G) (cs : Nat → ClassId) (H : Heap) {ad : Nat → Nat} {bank rnds cnt mcn : Int32} {N n cap : Nat} {su fa pu : Nat → Int32} {rf : Nat → Option Nat} {wa : Nat → Nat} {wf : Nat → Nat → Int32} {kd : Nat → Nat} (RR : RX D cs H ad bank rnds cnt mcn N n cap su fa pu rf wa wf kd) (p9 : Nat) (hp9 : p9 < 6) : Rd l D (Ty cs) 5 yX2_leastPurse cX2_leastPurse 4 (some .int) H [.ref (ad 0), .int (nI p9)] (some (.int (mnX (fun o => behX su fa pu wf kd (nI p9) p9 o n) (N - 1)))) := by
  refine rd_ent (by decide) (Nat.le_of_ble_eq_true rfl) ?_
  intro p e s m below meth c ls hx hb hr hml hown hts hlocks hl hH hK
  have hl : lv_has ls 4 [(0, .ref (ad 0)), (1, .int (nI p9))] := hl
  have RR0 := RR
  obtain ⟨hP, hG, hN1, hN, hn, hcap⟩ := RR
  refine lv_iload_n hx hb dX2_leastPurse_0 rfl (lv_at hl 1 rfl) ?_
  refine rdS (As := [.int (nI p9)]) (rest := []) ⟨hx, hb, hml, hown, hts⟩ hK 1 (c_checkPatron l D cs H p9 (by omega)) (gin_s mw_10_19 mw_10_20 mw_1_2 mw_10_21) (by decide +kernel) ⟨Nat.le_of_ble_eq_true rfl, Nat.le_of_ble_eq_true rfl⟩ rfl hl.1 rfl (Nat.le_of_ble_eq_true rfl) dX2_leastPurse_1 ⟨(Nat.zero_le _), (Nat.zero_le _)⟩ ?_
  refine W.eq (g2 := F0 m 4 ls []) rfl ?_
  refine lv_aload_n hx hb dX2_leastPurse_4 rfl (lv_at hl 0 rfl) ?_
  refine lv_iload_n hx hb dX2_leastPurse_5 rfl (lv_at hl 1 rfl) ?_
  refine lv_iconst (v := nI 0) hx hb dX2_leastPurse_6 (by first | decide | rfl) ?_
  refine rdV (As := [.int (nI p9), .int (nI 0)]) (rest := []) (b := ad 0) ⟨hx, hb, hml, hown, hts⟩ hK 2 (c_purseBehind l D cs H RR0 p9 (by omega) 0 (by omega)) (gin_v mw_10_4 mw_10_5 mw_10_6 mw_1_2 mw_10_7) (by decide +kernel) ⟨Nat.le_of_ble_eq_true rfl, Nat.le_of_ble_eq_true rfl⟩ (va_recv hK hP (ci := 3) (q0 := 0) rfl rfl) rfl hl.1 rfl (Nat.le_of_ble_eq_true rfl) dX2_leastPurse_7 ⟨(Nat.zero_le _), (Nat.zero_le _)⟩ ?_
  refine W.eq (g2 := F0 m 10 ls [.int (behX su fa pu wf kd (nI p9) p9 0 n)]) rfl ?_
  refine lv_rwi (y := mnX (fun o => behX su fa pu wf kd (nI p9) p9 o n) 0) (rfl) ?_
  refine lv_istore_n (lv' := [(2, .int (mnX (fun o => behX su fa pu wf kd (nI p9) p9 o n) 0)), (0, .ref (ad 0)), (1, .int (nI p9))]) hx hb dX2_leastPurse_10 rfl hl (by decide) rfl (fun ls hl => ?_)
  refine lv_iconst (v := nI (0 + 1)) hx hb dX2_leastPurse_11 (by first | decide | rfl) ?_
  refine lv_istore_n (lv' := [(3, .int (nI (0 + 1))), (2, .int (mnX (fun o => behX su fa pu wf kd (nI p9) p9 o n) 0)), (0, .ref (ad 0)), (1, .int (nI p9))]) hx hb dX2_leastPurse_12 rfl hl (by decide) rfl (fun ls hl => ?_)
  have loop13 : ∀ (n9 : Nat) (j : Nat) (ls : Array Slot), j + 1 ≤ N → N ≤ j + n9 → lv_has ls 4 [(0, .ref (ad 0)), (1, .int (nI p9)), (2, .int (mnX (fun o => behX su fa pu wf kd (nI p9) p9 o n) j)), (3, .int (nI (j + 1)))] → RdW p l e 5 s m [.ref (ad 0), .int (nI p9)] below meth c H (some (.int (mnX (fun o => behX su fa pu wf kd (nI p9) p9 o n) (N - 1)))) (F0 m 13 ls []) := by
    intro n9
    induction n9 with
    | zero => intro j  ls hi hf hl; exact absurd hf (by omega)
    | succ n9 ih13 =>
      intro j  ls hi hf hl
      refine lv_iload_n hx hb dX2_leastPurse_13 rfl (lv_at hl 3 rfl) ?_
      refine lv_aload_n hx hb dX2_leastPurse_14 rfl (lv_at hl 0 rfl) ?_
      refine va_get (D := D) (ci := 3) (v := .ref (ad 1)) (C := RX2) (T := TX2) (N := 5) hx hb hts inlX2 hown hK hP 0 rfl rfl 0 (by decide) (hts (Cond.fieldLink RX2 12 "TavernDice" "dice" "LTavernDice$Dice;") mw_1_14) (fun _ h9 => h9) rfl dX2_leastPurse_15 ?_
      refine va_get (D := D) (ci := 1) (v := .int (nI N)) (C := RX0) (T := TX0) (N := 4) hx hb hts inlX0 hown hK hP 1 rfl rfl 3 (by decide) (hts (Cond.fieldLink RX2 58 "TavernDice$Dice" "outcomes" "I") mw_5_10) (fun _ h9 => h9) rfl dX2_leastPurse_18 ?_
      refine lv_icmp_ge (tgt := 41) hx hb dX2_leastPurse_21 (by decide) (fun c_1 => ?_) (fun c_1 => ?_)
      · refine lv_iload_n hx hb dX2_leastPurse_41 rfl (lv_at hl 2 rfl) ?_
        exact rd_iret hH hx hb hr hlocks (rv (by rw [show N - 1 = j from by have g := (nI_leI (by omega) (by omega)).mp c_1; omega])) dX2_leastPurse_42
      · have hlt : j + 1 < N := by
          rcases Nat.lt_or_ge (j + 1) N with q | q
          · exact q
          · exact absurd (nI_le q (by omega)) c_1
        refine lv_iload_n hx hb dX2_leastPurse_24 rfl (lv_at hl 2 rfl) ?_
        refine lv_aload_n hx hb dX2_leastPurse_25 rfl (lv_at hl 0 rfl) ?_
        refine lv_iload_n hx hb dX2_leastPurse_26 rfl (lv_at hl 1 rfl) ?_
        refine lv_iload_n hx hb dX2_leastPurse_27 rfl (lv_at hl 3 rfl) ?_
        refine rdV (As := [.int (nI p9), .int (nI (j + 1))]) (rest := [.int (mnX (fun o => behX su fa pu wf kd (nI p9) p9 o n) j)]) (b := ad 0) ⟨hx, hb, hml, hown, hts⟩ hK 2 (c_purseBehind l D cs H RR0 p9 (by omega) ((j + 1)) (by omega)) (gin_v mw_10_4 mw_10_5 mw_10_6 mw_1_2 mw_10_7) (by decide +kernel) ⟨Nat.le_of_ble_eq_true rfl, Nat.le_of_ble_eq_true rfl⟩ (va_recv hK hP (ci := 3) (q0 := 0) rfl rfl) rfl hl.1 rfl (Nat.le_of_ble_eq_true rfl) dX2_leastPurse_28 ⟨(Nat.zero_le _), (Nat.zero_le _)⟩ ?_
        refine W.eq (g2 := F0 m 31 ls [.int (behX su fa pu wf kd (nI p9) p9 ((j + 1)) n), .int (mnX (fun o => behX su fa pu wf kd (nI p9) p9 o n) j)]) rfl ?_
        refine lv_rwi (y := (fun o => behX su fa pu wf kd (nI p9) p9 o n) (j + 1)) (rfl) ?_
        refine va_mmin hx hb (hml.trans hl.1.symm) hown (hts (Cond.methodLink RX2 159 Lib.Math.min.name) mw_18_19) (hts (Cond.static Lib.Math.min.name) mw_2_10) (hts (Cond.initialized "java/lang/Math") mw_2_11) (hts (Cond.code Lib.Math.min.name Lib.Math.min.code 2 (some .int)) mw_2_12) (Nat.le_of_ble_eq_true rfl) (Nat.le_of_ble_eq_true rfl) (Nat.zero_le _) (Nat.zero_le _) dX2_leastPurse_31 ?_
        refine lv_rwi (y := mnX (fun o => behX su fa pu wf kd (nI p9) p9 o n) (j + 1)) (rfl) ?_
        refine lv_istore_n (lv' := [(2, .int (mnX (fun o => behX su fa pu wf kd (nI p9) p9 o n) (j + 1))), (0, .ref (ad 0)), (1, .int (nI p9)), (3, .int (nI (j + 1)))]) hx hb dX2_leastPurse_34 rfl hl (by decide) rfl (fun ls hl => ?_)
        refine lv_iinc (v := nI (j + 1 + 1)) (lv' := [(3, .int (nI (j + 1 + 1))), (2, .int (mnX (fun o => behX su fa pu wf kd (nI p9) p9 o n) (j + 1))), (0, .ref (ad 0)), (1, .int (nI p9))]) hx hb dX2_leastPurse_35 hl (k := 3) rfl (nI_1 _) (by decide) rfl (fun ls hl => ?_)
        refine lv_goto (tgt := 13) hx hb dX2_leastPurse_38 (by decide) ?_
        exact ih13 (j + 1) ls (by omega) (by omega) (lv_sub hl [2, 3, 1, 0] rfl)
  exact loop13 N 0 ls hN1 (by omega) (lv_sub hl [2, 3, 1, 0] rfl)
set_option maxHeartbeats 4000000 in
set_option maxRecDepth 100000 in
theorem c_isHedged (l : Launch) (D : va_G) (cs : Nat → ClassId) (H : Heap) {ad : Nat → Nat} {bank rnds cnt mcn : Int32} {N n cap : Nat} {su fa pu : Nat → Int32} {rf : Nat → Option Nat} {wa : Nat → Nat} {wf : Nat → Nat → Int32} {kd : Nat → Nat} (RR : RX D cs H ad bank rnds cnt mcn N n cap su fa pu rf wa wf kd) (p9 : Nat) (hp9 : p9 < 6) : Rd l D (Ty cs) 5 yX2_isHedged cX2_isHedged 4 (some .boolean) H [.ref (ad 0), .int (nI p9)] (some (.int (b2i (alleq (fun o => behX su fa pu wf kd (nI p9) p9 o n) N)))) := by
  refine rd_ent (by decide) (Nat.le_of_ble_eq_true rfl) ?_
  intro p e s m below meth c ls hx hb hr hml hown hts hlocks hl hH hK
  have hl : lv_has ls 4 [(0, .ref (ad 0)), (1, .int (nI p9))] := hl
  have RR0 := RR
  obtain ⟨hP, hG, hN1, hN, hn, hcap⟩ := RR
  refine lv_iload_n hx hb dX2_isHedged_0 rfl (lv_at hl 1 rfl) ?_
  refine rdS (As := [.int (nI p9)]) (rest := []) ⟨hx, hb, hml, hown, hts⟩ hK 1 (c_checkPatron l D cs H p9 (by omega)) (gin_s mw_10_19 mw_10_20 mw_1_2 mw_10_21) (by decide +kernel) ⟨Nat.le_of_ble_eq_true rfl, Nat.le_of_ble_eq_true rfl⟩ rfl hl.1 rfl (Nat.le_of_ble_eq_true rfl) dX2_isHedged_1 ⟨(Nat.zero_le _), (Nat.zero_le _)⟩ ?_
  refine W.eq (g2 := F0 m 4 ls []) rfl ?_
  refine lv_aload_n hx hb dX2_isHedged_4 rfl (lv_at hl 0 rfl) ?_
  refine lv_iload_n hx hb dX2_isHedged_5 rfl (lv_at hl 1 rfl) ?_
  refine lv_iconst (v := nI 0) hx hb dX2_isHedged_6 (by first | decide | rfl) ?_
  refine rdV (As := [.int (nI p9), .int (nI 0)]) (rest := []) (b := ad 0) ⟨hx, hb, hml, hown, hts⟩ hK 2 (c_purseBehind l D cs H RR0 p9 (by omega) 0 (by omega)) (gin_v mw_10_4 mw_10_5 mw_10_6 mw_1_2 mw_10_7) (by decide +kernel) ⟨Nat.le_of_ble_eq_true rfl, Nat.le_of_ble_eq_true rfl⟩ (va_recv hK hP (ci := 3) (q0 := 0) rfl rfl) rfl hl.1 rfl (Nat.le_of_ble_eq_true rfl) dX2_isHedged_7 ⟨(Nat.zero_le _), (Nat.zero_le _)⟩ ?_
  refine W.eq (g2 := F0 m 10 ls [.int (behX su fa pu wf kd (nI p9) p9 0 n)]) rfl ?_
  refine lv_rwi (y := (fun o => behX su fa pu wf kd (nI p9) p9 o n) 0) (rfl) ?_
  refine lv_istore_n (lv' := [(2, .int ((fun o => behX su fa pu wf kd (nI p9) p9 o n) 0)), (0, .ref (ad 0)), (1, .int (nI p9))]) hx hb dX2_isHedged_10 rfl hl (by decide) rfl (fun ls hl => ?_)
  refine lv_iconst (v := nI (0 + 1)) hx hb dX2_isHedged_11 (by first | decide | rfl) ?_
  refine lv_istore_n (lv' := [(3, .int (nI (0 + 1))), (2, .int ((fun o => behX su fa pu wf kd (nI p9) p9 o n) 0)), (0, .ref (ad 0)), (1, .int (nI p9))]) hx hb dX2_isHedged_12 rfl hl (by decide) rfl (fun ls hl => ?_)
  have loop13 : ∀ (n9 : Nat) (j : Nat) (ls : Array Slot), j + 1 ≤ N → N ≤ j + n9 → (∀ o, o < j + 1 → (fun o => behX su fa pu wf kd (nI p9) p9 o n) o = (fun o => behX su fa pu wf kd (nI p9) p9 o n) 0) → lv_has ls 4 [(0, .ref (ad 0)), (1, .int (nI p9)), (2, .int ((fun o => behX su fa pu wf kd (nI p9) p9 o n) 0)), (3, .int (nI (j + 1)))] → RdW p l e 5 s m [.ref (ad 0), .int (nI p9)] below meth c H (some (.int (b2i (alleq (fun o => behX su fa pu wf kd (nI p9) p9 o n) N)))) (F0 m 13 ls []) := by
    intro n9
    induction n9 with
    | zero => intro j  ls hi hf hE hl; exact absurd hf (by omega)
    | succ n9 ih13 =>
      intro j  ls hi hf hE hl
      refine lv_iload_n hx hb dX2_isHedged_13 rfl (lv_at hl 3 rfl) ?_
      refine lv_aload_n hx hb dX2_isHedged_14 rfl (lv_at hl 0 rfl) ?_
      refine va_get (D := D) (ci := 3) (v := .ref (ad 1)) (C := RX2) (T := TX2) (N := 5) hx hb hts inlX2 hown hK hP 0 rfl rfl 0 (by decide) (hts (Cond.fieldLink RX2 12 "TavernDice" "dice" "LTavernDice$Dice;") mw_1_14) (fun _ h9 => h9) rfl dX2_isHedged_15 ?_
      refine va_get (D := D) (ci := 1) (v := .int (nI N)) (C := RX0) (T := TX0) (N := 4) hx hb hts inlX0 hown hK hP 1 rfl rfl 3 (by decide) (hts (Cond.fieldLink RX2 58 "TavernDice$Dice" "outcomes" "I") mw_5_10) (fun _ h9 => h9) rfl dX2_isHedged_18 ?_
      refine lv_icmp_ge (tgt := 42) hx hb dX2_isHedged_21 (by decide) (fun c_1 => ?_) (fun c_1 => ?_)
      · refine lv_iconst (v := 1) hx hb dX2_isHedged_42 (by first | decide | rfl) ?_
        exact rd_zret hH hx hb hr hlocks (rb1 (decide_eq_true (fun o ho => hE o (by have g := (nI_leI (by omega) (by omega)).mp c_1; omega)))) (by decide) dX2_isHedged_43
      · have hlt : j + 1 < N := by
          rcases Nat.lt_or_ge (j + 1) N with q | q
          · exact q
          · exact absurd (nI_le q (by omega)) c_1
        refine lv_aload_n hx hb dX2_isHedged_24 rfl (lv_at hl 0 rfl) ?_
        refine lv_iload_n hx hb dX2_isHedged_25 rfl (lv_at hl 1 rfl) ?_
        refine lv_iload_n hx hb dX2_isHedged_26 rfl (lv_at hl 3 rfl) ?_
        refine rdV (As := [.int (nI p9), .int (nI (j + 1))]) (rest := []) (b := ad 0) ⟨hx, hb, hml, hown, hts⟩ hK 2 (c_purseBehind l D cs H RR0 p9 (by omega) ((j + 1)) (by omega)) (gin_v mw_10_4 mw_10_5 mw_10_6 mw_1_2 mw_10_7) (by decide +kernel) ⟨Nat.le_of_ble_eq_true rfl, Nat.le_of_ble_eq_true rfl⟩ (va_recv hK hP (ci := 3) (q0 := 0) rfl rfl) rfl hl.1 rfl (Nat.le_of_ble_eq_true rfl) dX2_isHedged_27 ⟨(Nat.zero_le _), (Nat.zero_le _)⟩ ?_
        refine W.eq (g2 := F0 m 30 ls [.int (behX su fa pu wf kd (nI p9) p9 ((j + 1)) n)]) rfl ?_
        refine lv_rwi (y := (fun o => behX su fa pu wf kd (nI p9) p9 o n) (j + 1)) (rfl) ?_
        refine lv_iload_n hx hb dX2_isHedged_30 rfl (lv_at hl 2 rfl) ?_
        refine lv_icmp_eq (tgt := 36) hx hb dX2_isHedged_31 (by decide) (fun c_2 => ?_) (fun c_2 => ?_)
        · refine lv_iinc (v := nI (j + 1 + 1)) (lv' := [(3, .int (nI (j + 1 + 1))), (0, .ref (ad 0)), (1, .int (nI p9)), (2, .int ((fun o => behX su fa pu wf kd (nI p9) p9 o n) 0))]) hx hb dX2_isHedged_36 hl (k := 3) rfl (nI_1 _) (by decide) rfl (fun ls hl => ?_)
          refine lv_goto (tgt := 13) hx hb dX2_isHedged_39 (by decide) ?_
          exact ih13 (j + 1) ls (by omega) (by omega) (fun o ho => by
              rcases Nat.lt_or_ge o (j + 1) with q | q
              · exact hE o q
              · rw [show o = j + 1 by omega]; exact c_2) (lv_sub hl [1, 2, 3, 0] rfl)
        · refine lv_iconst (v := 0) hx hb dX2_isHedged_34 (by first | decide | rfl) ?_
          exact rd_zret hH hx hb hr hlocks (rb0 (decide_eq_false (fun z => c_2 (z (j + 1) hlt)))) (by decide) dX2_isHedged_35
  exact loop13 N 0 ls hN1 (by omega) (fun o ho => by rw [show o = 0 by omega]) (lv_sub hl [2, 3, 1, 0] rfl)
set_option maxHeartbeats 4000000 in
set_option maxRecDepth 100000 in
theorem c_fairWin (l : Launch) (D : va_G) (cs : Nat → ClassId) (H : Heap) {ad : Nat → Nat} {bank rnds cnt mcn : Int32} {N n cap : Nat} {su fa pu : Nat → Int32} {rf : Nat → Option Nat} {wa : Nat → Nat} {wf : Nat → Nat → Int32} {kd : Nat → Nat} (RR : RX D cs H ad bank rnds cnt mcn N n cap su fa pu rf wa wf kd) (k q : Nat) (hk : k < 10) (hq : q ≤ 36) (bs : Int32) (h3 : ¬ bs < 1) (h4 : bs ≤ 10) : Rd l D (Ty cs) 5 yX2_fairWin cX2_fairWin 6 (some .int) H [.ref (ad 0), .int (nI k), .int (nI q), .int bs] (some (.int (nI (lst9 (fwP N (cn (comesX su fa k (nI q)) N) bs) 20)))) := by
  refine rd_ent (by decide) (Nat.le_of_ble_eq_true rfl) ?_
  intro p e s m below meth c ls hx hb hr hml hown hts hlocks hl hH hK
  have hl : lv_has ls 6 [(0, .ref (ad 0)), (1, .int (nI k)), (2, .int (nI q)), (3, .int bs)] := hl
  have RR0 := RR
  obtain ⟨hP, hG, hN1, hN, hn, hcap⟩ := RR
  refine lv_iload_n hx hb dX2_fairWin_0 rfl (lv_at hl 1 rfl) ?_
  refine lv_iload_n hx hb dX2_fairWin_1 rfl (lv_at hl 2 rfl) ?_
  refine rdS (As := [.int (nI k), .int (nI q)]) (rest := []) ⟨hx, hb, hml, hown, hts⟩ hK 2 (c_checkEvent l D cs H k q hk hq) (gin_s mw_10_22 mw_10_23 mw_1_2 mw_11_0) (by decide +kernel) ⟨Nat.le_of_ble_eq_true rfl, Nat.le_of_ble_eq_true rfl⟩ rfl hl.1 rfl (Nat.le_of_ble_eq_true rfl) dX2_fairWin_2 ⟨(Nat.zero_le _), (Nat.zero_le _)⟩ ?_
  refine W.eq (g2 := F0 m 5 ls []) rfl ?_
  refine lv_iload_n hx hb dX2_fairWin_5 rfl (lv_at hl 3 rfl) ?_
  refine rdS (As := [.int bs]) (rest := []) ⟨hx, hb, hml, hown, hts⟩ hK 1 (c_checkBase l D cs H bs h3 h4) (gin_s mw_11_4 mw_11_5 mw_1_2 mw_11_6) (by decide +kernel) ⟨Nat.le_of_ble_eq_true rfl, Nat.le_of_ble_eq_true rfl⟩ rfl hl.1 rfl (Nat.le_of_ble_eq_true rfl) dX2_fairWin_6 ⟨(Nat.zero_le _), (Nat.zero_le _)⟩ ?_
  refine W.eq (g2 := F0 m 9 ls []) rfl ?_
  refine lv_aload_n hx hb dX2_fairWin_9 rfl (lv_at hl 0 rfl) ?_
  refine va_get (D := D) (ci := 3) (v := .ref (ad 1)) (C := RX2) (T := TX2) (N := 5) hx hb hts inlX2 hown hK hP 0 rfl rfl 0 (by decide) (hts (Cond.fieldLink RX2 12 "TavernDice" "dice" "LTavernDice$Dice;") mw_1_14) (fun _ h9 => h9) rfl dX2_fairWin_10 ?_
  refine lv_iload_n hx hb dX2_fairWin_13 rfl (lv_at hl 1 rfl) ?_
  refine lv_iload_n hx hb dX2_fairWin_14 rfl (lv_at hl 2 rfl) ?_
  refine rdV (As := [.int (nI k), .int (nI q)]) (rest := []) (b := ad 1) ⟨hx, hb, hml, hown, hts⟩ hK 2 (c_countWays l D cs H (hP.sub [1, 2, 3] rfl) hN k hk (nI q)) (gin_v mw_11_7 mw_11_8 mw_11_9 mw_1_13 mw_11_10) (by decide +kernel) ⟨Nat.le_of_ble_eq_true rfl, Nat.le_of_ble_eq_true rfl⟩ (va_recv hK hP (ci := 1) (q0 := 1) rfl rfl) rfl hl.1 rfl (Nat.le_of_ble_eq_true rfl) dX2_fairWin_15 ⟨(Nat.zero_le _), (Nat.zero_le _)⟩ ?_
  refine W.eq (g2 := F0 m 18 ls [.int (nI (cn (comesX su fa k (nI q)) N))]) rfl ?_
  refine lv_istore (lv' := [(4, .int (nI (cn (comesX su fa k (nI q)) N))), (0, .ref (ad 0)), (1, .int (nI k)), (2, .int (nI q)), (3, .int bs)]) hx hb dX2_fairWin_18 hl (by decide) rfl (fun ls hl => ?_)
  refine lv_bipush (v := nI 20) hx hb dX2_fairWin_20 (by first | decide | rfl) ?_
  refine lv_istore (lv' := [(5, .int (nI 20)), (4, .int (nI (cn (comesX su fa k (nI q)) N))), (0, .ref (ad 0)), (1, .int (nI k)), (2, .int (nI q)), (3, .int bs)]) hx hb dX2_fairWin_22 hl (by decide) rfl (fun ls hl => ?_)
  have loop24 : ∀ (n9 : Nat) (j : Nat) (ls : Array Slot), j ≤ 20 → j + 1 ≤ n9 → lst9 (fwP N (cn (comesX su fa k (nI q)) N) bs) j = lst9 (fwP N (cn (comesX su fa k (nI q)) N) bs) 20 → lv_has ls 6 [(0, .ref (ad 0)), (1, .int (nI k)), (2, .int (nI q)), (3, .int bs), (4, .int (nI (cn (comesX su fa k (nI q)) N))), (5, .int (nI j))] → RdW p l e 5 s m [.ref (ad 0), .int (nI k), .int (nI q), .int bs] below meth c H (some (.int (nI (lst9 (fwP N (cn (comesX su fa k (nI q)) N) bs) 20)))) (F0 m 24 ls []) := by
    intro n9
    induction n9 with
    | zero => intro j  ls hi hf hE hl; exact absurd hf (by omega)
    | succ n9 ih24 =>
      intro j  ls hi hf hE hl
      refine lv_iload hx hb dX2_fairWin_24 (lv_at hl 5 rfl) ?_
      refine lv_iconst (v := nI 1) hx hb dX2_fairWin_26 (by first | decide | rfl) ?_
      refine lv_icmp_lt (tgt := 61) hx hb dX2_fairWin_27 (by decide) (fun c_1 => ?_) (fun c_1 => ?_)
      · refine lv_iconst (v := 0) hx hb dX2_fairWin_61 (by first | decide | rfl) ?_
        exact rd_iret hH hx hb hr hlocks (rv (by rw [← hE, show j = 0 by have g := (nI_ltI (by omega) (by omega)).mp c_1; omega]; rfl)) dX2_fairWin_62
      · obtain ⟨u, rfl⟩ : ∃ u, j = u + 1 := ⟨j - 1, by
          rcases Nat.lt_or_ge j 1 with q9 | q9
          · exact absurd (nI_lt q9 (by omega)) c_1
          · omega⟩
        refine lv_aload_n hx hb dX2_fairWin_30 rfl (lv_at hl 0 rfl) ?_
        refine va_get (D := D) (ci := 3) (v := .ref (ad 1)) (C := RX2) (T := TX2) (N := 5) hx hb hts inlX2 hown hK hP 0 rfl rfl 0 (by decide) (hts (Cond.fieldLink RX2 12 "TavernDice" "dice" "LTavernDice$Dice;") mw_1_14) (fun _ h9 => h9) rfl dX2_fairWin_31 ?_
        refine lv_bipush (v := 100) hx hb dX2_fairWin_34 (by first | decide | rfl) ?_
        refine lv_bipush (v := 100) hx hb dX2_fairWin_36 (by first | decide | rfl) ?_
        refine lv_iload hx hb dX2_fairWin_38 (lv_at hl 5 rfl) ?_
        refine lv_iload_n hx hb dX2_fairWin_40 rfl (lv_at hl 3 rfl) ?_
        refine rdS (As := [.int 100, .int (nI (u + 1)), .int bs]) (rest := [.int 100, .ref (ad 1)]) ⟨hx, hb, hml, hown, hts⟩ hK 3 (c_broughtBy l D cs H 100 (nI (u + 1)) bs) (gin_s mw_11_12 mw_11_13 mw_1_2 mw_11_14) (by decide +kernel) ⟨Nat.le_of_ble_eq_true rfl, Nat.le_of_ble_eq_true rfl⟩ rfl hl.1 rfl (Nat.le_of_ble_eq_true rfl) dX2_fairWin_41 ⟨(Nat.zero_le _), (Nat.zero_le _)⟩ ?_
        refine W.eq (g2 := F0 m 44 ls [.int (brX 100 (nI (u + 1)) bs), .int 100, .ref (ad 1)]) rfl ?_
        refine lv_iload hx hb dX2_fairWin_44 (lv_at hl 4 rfl) ?_
        refine rdV (As := [.int 100, .int (brX 100 (nI (u + 1)) bs), .int (nI (cn (comesX su fa k (nI q)) N))]) (rest := []) (b := ad 1) ⟨hx, hb, hml, hown, hts⟩ hK 3 (c_gainOver l D cs H (hP.sub [1, 2, 3] rfl) 100 (brX 100 (nI (u + 1)) bs) (nI (cn (comesX su fa k (nI q)) N))) (gin_v mw_15_20 mw_15_21 mw_15_22 mw_1_13 mw_15_23) (by decide +kernel) ⟨Nat.le_of_ble_eq_true rfl, Nat.le_of_ble_eq_true rfl⟩ (va_recv hK hP (ci := 1) (q0 := 1) rfl rfl) rfl hl.1 rfl (Nat.le_of_ble_eq_true rfl) dX2_fairWin_46 ⟨(Nat.zero_le _), (Nat.zero_le _)⟩ ?_
        refine W.eq (g2 := F0 m 49 ls [.int (100 * (nI N - (nI (cn (comesX su fa k (nI q)) N))) - (brX 100 (nI (u + 1)) bs) * (nI (cn (comesX su fa k (nI q)) N)))]) rfl ?_
        refine lv_if_lt (tgt := 55) hx hb dX2_fairWin_49 (by decide) (fun c_2 => ?_) (fun c_2 => ?_)
        · refine lv_iinc (v := nI u) (lv' := [(5, .int (nI u)), (0, .ref (ad 0)), (1, .int (nI k)), (2, .int (nI q)), (3, .int bs), (4, .int (nI (cn (comesX su fa k (nI q)) N)))]) hx hb dX2_fairWin_55 hl (k := 5) rfl (pk_m1 u) (by decide) rfl (fun ls hl => ?_)
          refine lv_goto (tgt := 24) hx hb dX2_fairWin_58 (by decide) ?_
          exact ih24 u ls (by omega) (by omega) (by rw [← hE]; exact (if_neg (fun z => absurd (of_decide_eq_true z) (fun z9 => (fa_of_lt c_2).2.1 z9))).symm) (lv_sub hl [1, 2, 3, 4, 5, 0] rfl)
        · refine lv_iload hx hb dX2_fairWin_52 (lv_at hl 5 rfl) ?_
          exact rd_iret hH hx hb hr hlocks (rv (by rw [← hE]; exact congrArg nI (if_pos (decide_eq_true (fa_of_nlt c_2))).symm)) dX2_fairWin_54
  exact loop24 21 20 ls (by omega) (by omega) rfl (lv_sub hl [2, 3, 4, 5, 1, 0] rfl)
