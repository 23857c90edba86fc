/-! the law calls the class: answers of what reads; rows by program -/
set_option maxHeartbeats 4000000 in
set_option maxRecDepth 100000 in
theorem c_chance (l : Launch) (D : va_G) (cs : Nat → ClassId) (H : Heap) {ad : Nat → Nat} {bank rnds cnt mcn : Int32} {N n cap : Nat} {su fa pu : Nat → Int32} {rf : Nat → Option Nat} {wa : Nat → Nat} {wf : Nat → Nat → Int32} {kd : Nat → Nat} (RR : RX D cs H ad bank rnds cnt mcn N n cap su fa pu rf wa wf kd) (k q : Nat) (hk : k < 10) (hq : q ≤ 36) (hnan : vf_n64 (FP.ddiv (FP.i2d (nI (cn (comesX su fa k (nI q)) N))) (FP.i2d (nI N)))) : Rd l D (Ty cs) 5 yX2_chance cX2_chance 3 (some .double) H [.ref (ad 0), .int (nI k), .int (nI q)] (some (.double (FP.ddiv (FP.i2d (nI (cn (comesX su fa k (nI q)) N))) (FP.i2d (nI N))))) := by
  refine rd_ent (by decide) (Nat.le_of_ble_eq_true rfl) ?_
  intro p e s m below meth c ls hx hb hr hml hown hts hlocks hl hH hK
  have hl : lv_has ls 3 [(0, .ref (ad 0)), (1, .int (nI k)), (2, .int (nI q))] := hl
  have RR0 := RR
  obtain ⟨hP, hG, hN1, hN, hn, hcap⟩ := RR
  refine lv_iload_n hx hb dX2_chance_0 rfl (lv_at hl 1 rfl) ?_
  refine lv_iload_n hx hb dX2_chance_1 rfl (lv_at hl 2 rfl) ?_
  refine rdS (As := [.int (nI k), .int (nI q)]) (rest := []) ⟨hx, hb, hml, hown, hts⟩ hK 2 (c_checkEvent l D cs H k q hk hq) (gin_s mw_8_21 mw_8_22 mw_1_2 mw_8_23) (by decide +kernel) ⟨Nat.le_of_ble_eq_true rfl, Nat.le_of_ble_eq_true rfl⟩ rfl hl.1 rfl (Nat.le_of_ble_eq_true rfl) dX2_chance_2 ⟨(Nat.zero_le _), (Nat.zero_le _)⟩ ?_
  refine W.eq (g2 := F0 m 5 ls []) rfl ?_
  refine lv_aload_n hx hb dX2_chance_5 rfl (lv_at hl 0 rfl) ?_
  refine va_get (D := D) (ci := 3) (v := .ref (ad 1)) (C := RX2) (T := TX2) (N := 5) hx hb hts inlX2 hown hK hP 0 rfl rfl 0 (by decide) (hts (Cond.fieldLink RX2 12 "TavernDice" "dice" "LTavernDice$Dice;") mw_1_17) (fun _ h9 => h9) rfl dX2_chance_6 ?_
  refine lv_iload_n hx hb dX2_chance_9 rfl (lv_at hl 1 rfl) ?_
  refine lv_iload_n hx hb dX2_chance_10 rfl (lv_at hl 2 rfl) ?_
  refine rdV (As := [.int (nI k), .int (nI q)]) (rest := []) (b := ad 1) ⟨hx, hb, hml, hown, hts⟩ hK 2 (c_countWays l D cs H (hP.sub [1, 2, 3] rfl) hN k hk (nI q)) (gin_v mw_9_0 mw_9_1 mw_9_2 mw_1_16 mw_9_3) (by decide +kernel) ⟨Nat.le_of_ble_eq_true rfl, Nat.le_of_ble_eq_true rfl⟩ (va_recv hK hP (ci := 1) (q0 := 1) rfl rfl) rfl hl.1 rfl (Nat.le_of_ble_eq_true rfl) dX2_chance_11 ⟨(Nat.zero_le _), (Nat.zero_le _)⟩ ?_
  refine W.eq (g2 := F0 m 14 ls [.int (nI (cn (comesX su fa k (nI q)) N))]) rfl ?_
  refine lv_i2d hx hb dX2_chance_14 ?_
  refine lv_aload_n hx hb dX2_chance_15 rfl (lv_at hl 0 rfl) ?_
  refine va_get (D := D) (ci := 3) (v := .ref (ad 1)) (C := RX2) (T := TX2) (N := 5) hx hb hts inlX2 hown hK hP 0 rfl rfl 0 (by decide) (hts (Cond.fieldLink RX2 12 "TavernDice" "dice" "LTavernDice$Dice;") mw_1_17) (fun _ h9 => h9) rfl dX2_chance_16 ?_
  refine va_get (D := D) (ci := 1) (v := .int (nI N)) (C := RX0) (T := TX0) (N := 4) hx hb hts inlX0 hown hK hP 1 rfl rfl 3 (by decide) (hts (Cond.fieldLink RX2 58 "TavernDice$Dice" "outcomes" "I") mw_4_22) (fun _ h9 => h9) rfl dX2_chance_19 ?_
  refine lv_i2d hx hb dX2_chance_22 ?_
  refine lv_ddiv hx hb dX2_chance_23 (hnan) ?_
  exact rd_dret hH hx hb hr hlocks (rfl) dX2_chance_24
set_option maxHeartbeats 4000000 in
set_option maxRecDepth 100000 in
theorem w_sumOf (l : Launch) (hl9 : l.stackTraces = false) (D : va_G) (cs : Nat → ClassId) (z mi : Nat) (H : Heap) {tl : va_W} {ad : Nat → Nat} {bank rnds cnt mcn : Int32} {N n cap : Nat} {su fa pu : Nat → Int32} {rf : Nat → Option Nat} {wa : Nat → Nat} {wf : Nat → Nat → Int32} {kd : Nat → Nat} (hRX : ∀ H9 : Heap, va_P D vwCl tl H9 → RX D cs H9 ad bank rnds cnt mcn N n cap su fa pu rf wa wf kd) {oo : Nat} {fo : Nat → Int64} (o : Nat) (ho : o < N) (post : Option Value → va_W → Prop) (hpost : ∀ f9 : Nat → Int64, f9 0 = (su o).toInt64 → post (some (.int 0)) ([(oo, .inl (cs 3, 1, .inr (.inl (f9))))] ++ tl)) (hP : va_P D vwCl ([(oo, .inl (cs 3, 1, .inr (.inl (fo))))] ++ tl) H) (hD : va_D (fun _ => True) ([(oo, .inl (cs 3, 1, .inr (.inl (fo))))] ++ tl)) : Wh z mi l D cs 10 0 0 yL_sumOf cL_sumOf 4 (some .int) [(0, 9, 12, 21)] ([(oo, .inl (cs 3, 1, .inr (.inl (fo))))] ++ tl) H [.ref (ad 0), .int (nI o), .ref oo] post := by
  refine wh_ent (by decide) (Nat.le_of_ble_eq_true rfl) hP hD ?_
  clear hP hD H
  intro p e s m below meth c ls A Q H hx hb hr hml hown hts hlocks hl hK hQ hA hH hT hR htab hP hD hS
  clear hH
  have hl : lv_has ls 4 [(0, .ref (ad 0)), (1, .int (nI o)), (2, .ref oo)] := hl
  have RR0 := hRX H (tl_P hP)
  refine lv_aload_n hx hb dL_sumOf_0 rfl (lv_at hl 2 rfl) ?_
  refine lv_iconst (v := 0) hx hb dL_sumOf_1 (by first | decide | rfl) ?_
  refine lv_aload_n hx hb dL_sumOf_2 rfl (lv_at hl 0 rfl) ?_
  refine lv_iload_n hx hb dL_sumOf_3 rfl (lv_at hl 1 rfl) ?_
  refine rdV (As := [.int (nI o)]) (rest := [.int 0, .ref oo]) (b := ad 0) ⟨hx, hb, hml, hown, hts⟩ hK 1 (c_sumOf l D cs H RR0 o ho) (gin_v mw_7_11 mw_7_12 mw_7_13 mw_1_2 mw_7_14) (by decide +kernel) ⟨Nat.le_of_ble_eq_true rfl, Nat.le_of_ble_eq_true rfl⟩ (va_recv hK RR0.1 (ci := 3) (q0 := 0) rfl rfl) rfl hl.1 rfl (Nat.le_of_ble_eq_true rfl) dL_sumOf_4 ⟨(Nat.le_of_ble_eq_true rfl), (Nat.le_of_ble_eq_true rfl)⟩ ?_
  refine W.eq (g2 := F0 m 7 ls [.int (su o), .int 0, .ref oo]) rfl ?_
  refine lv_i2l hx hb dL_sumOf_7 rfl ?_
  refine va_last hx hb hK hP hD hS 0 3 rfl rfl (vp_in_nI (n := 0) (by omega) (by omega)) dL_sumOf_8 (fun H locs hP hD hS => ?_)
  have g9 : vp_updL fo (0 : Int32).toNatClampNeg ((su o).toInt64) = vp_updL fo 0 ((su o).toInt64) := congrArg (fun z => vp_updL fo z ((su o).toInt64)) (by decide)
  have hP : va_P D vwCl ([(oo, .inl (cs 3, 1, .inr (.inl (vp_updL fo 0 ((su o).toInt64)))))] ++ tl) H := Eq.mp (congrArg (fun z9 => va_P D vwCl ([(oo, .inl (cs 3, 1, .inr (.inl (z9))))] ++ tl) H) g9) hP
  have hD : va_D _ ([(oo, .inl (cs 3, 1, .inr (.inl (vp_updL fo 0 ((su o).toInt64)))))] ++ tl) := Eq.mp (congrArg (fun z9 => va_D _ ([(oo, .inl (cs 3, 1, .inr (.inl (z9))))] ++ tl)) g9) hD
  refine lv_goto (tgt := 15) hx hb dL_sumOf_9 (by decide) ?_
  refine lv_iconst (v := 0) hx hb dL_sumOf_15 (by first | decide | rfl) ?_
  exact wr_iret hQ hx hb hr hlocks hP hD hS (hpost _ rfl) dL_sumOf_16
set_option maxHeartbeats 4000000 in
set_option maxRecDepth 100000 in
theorem w_gainAt (l : Launch) (hl9 : l.stackTraces = false) (D : va_G) (cs : Nat → ClassId) (z mi : Nat) (H : Heap) {tl : va_W} {ad : Nat → Nat} {bank rnds cnt mcn : Int32} {N n cap : Nat} {su fa pu : Nat → Int32} {rf : Nat → Option Nat} {wa : Nat → Nat} {wf : Nat → Nat → Int32} {kd : Nat → Nat} (hRX : ∀ H9 : Heap, va_P D vwCl tl H9 → RX D cs H9 ad bank rnds cnt mcn N n cap su fa pu rf wa wf kd) {oo : Nat} {fo : Nat → Int64} (o : Nat) (ho : o < N) (post : Option Value → va_W → Prop) (hpost : ∀ f9 : Nat → Int64, f9 0 = (sm (gnX su fa wf kd o) n).toInt64 → post (some (.int 0)) ([(oo, .inl (cs 3, 1, .inr (.inl (f9))))] ++ tl)) (hP : va_P D vwCl ([(oo, .inl (cs 3, 1, .inr (.inl (fo))))] ++ tl) H) (hD : va_D (fun _ => True) ([(oo, .inl (cs 3, 1, .inr (.inl (fo))))] ++ tl)) : Wh z mi l D cs 10 0 0 yL_gainAt cL_gainAt 4 (some .int) [(0, 9, 12, 21)] ([(oo, .inl (cs 3, 1, .inr (.inl (fo))))] ++ tl) H [.ref (ad 0), .int (nI o), .ref oo] post := by
  refine wh_ent (by decide) (Nat.le_of_ble_eq_true rfl) hP hD ?_
  clear hP hD H
  intro p e s m below meth c ls A Q H hx hb hr hml hown hts hlocks hl hK hQ hA hH hT hR htab hP hD hS
  clear hH
  have hl : lv_has ls 4 [(0, .ref (ad 0)), (1, .int (nI o)), (2, .ref oo)] := hl
  have RR0 := hRX H (tl_P hP)
  refine lv_aload_n hx hb dL_gainAt_0 rfl (lv_at hl 2 rfl) ?_
  refine lv_iconst (v := 0) hx hb dL_gainAt_1 (by first | decide | rfl) ?_
  refine lv_aload_n hx hb dL_gainAt_2 rfl (lv_at hl 0 rfl) ?_
  refine lv_iload_n hx hb dL_gainAt_3 rfl (lv_at hl 1 rfl) ?_
  refine rdV (As := [.int (nI o)]) (rest := [.int 0, .ref oo]) (b := ad 0) ⟨hx, hb, hml, hown, hts⟩ hK 1 (c_gainAt l D cs H RR0 o ho) (gin_v mw_26_2 mw_26_3 mw_26_4 mw_1_2 mw_26_5) (by decide +kernel) ⟨Nat.le_of_ble_eq_true rfl, Nat.le_of_ble_eq_true rfl⟩ (va_recv hK RR0.1 (ci := 3) (q0 := 0) rfl rfl) rfl hl.1 rfl (Nat.le_of_ble_eq_true rfl) dL_gainAt_4 ⟨(Nat.le_of_ble_eq_true rfl), (Nat.le_of_ble_eq_true rfl)⟩ ?_
  refine W.eq (g2 := F0 m 7 ls [.int (sm (gnX su fa wf kd o) n), .int 0, .ref oo]) rfl ?_
  refine lv_i2l hx hb dL_gainAt_7 rfl ?_
  refine va_last hx hb hK hP hD hS 0 3 rfl rfl (vp_in_nI (n := 0) (by omega) (by omega)) dL_gainAt_8 (fun H locs hP hD hS => ?_)
  have g9 : vp_updL fo (0 : Int32).toNatClampNeg ((sm (gnX su fa wf kd o) n).toInt64) = vp_updL fo 0 ((sm (gnX su fa wf kd o) n).toInt64) := congrArg (fun z => vp_updL fo z ((sm (gnX su fa wf kd o) n).toInt64)) (by decide)
  have hP : va_P D vwCl ([(oo, .inl (cs 3, 1, .inr (.inl (vp_updL fo 0 ((sm (gnX su fa wf kd o) n).toInt64)))))] ++ tl) H := Eq.mp (congrArg (fun z9 => va_P D vwCl ([(oo, .inl (cs 3, 1, .inr (.inl (z9))))] ++ tl) H) g9) hP
  have hD : va_D _ ([(oo, .inl (cs 3, 1, .inr (.inl (vp_updL fo 0 ((sm (gnX su fa wf kd o) n).toInt64)))))] ++ tl) := Eq.mp (congrArg (fun z9 => va_D _ ([(oo, .inl (cs 3, 1, .inr (.inl (z9))))] ++ tl)) g9) hD
  refine lv_goto (tgt := 15) hx hb dL_gainAt_9 (by decide) ?_
  refine lv_iconst (v := 0) hx hb dL_gainAt_15 (by first | decide | rfl) ?_
  exact wr_iret hQ hx hb hr hlocks hP hD hS (hpost _ rfl) dL_gainAt_16
set_option maxHeartbeats 4000000 in
set_option maxRecDepth 100000 in
theorem w_patronOf (l : Launch) (hl9 : l.stackTraces = false) (D : va_G) (cs : Nat → ClassId) (z mi : Nat) (H : Heap) {tl : va_W} {ad : Nat → Nat} {bank rnds cnt mcn : Int32} {N n cap : Nat} {su fa pu : Nat → Int32} {rf : Nat → Option Nat} {wa : Nat → Nat} {wf : Nat → Nat → Int32} {kd : Nat → Nat} (hRX : ∀ H9 : Heap, va_P D vwCl tl H9 → RX D cs H9 ad bank rnds cnt mcn N n cap su fa pu rf wa wf kd) {oo : Nat} {fo : Nat → Int64} (i : Nat) (hlt : i < n) (post : Option Value → va_W → Prop) (hpost : ∀ f9 : Nat → Int64, f9 0 = (wf i 0).toInt64 → post (some (.int 0)) ([(oo, .inl (cs 3, 1, .inr (.inl (f9))))] ++ tl)) (hP : va_P D vwCl ([(oo, .inl (cs 3, 1, .inr (.inl (fo))))] ++ tl) H) (hD : va_D (fun _ => True) ([(oo, .inl (cs 3, 1, .inr (.inl (fo))))] ++ tl)) : Wh z mi l D cs 10 0 0 yL_patronOf cL_patronOf 4 (some .int) [(0, 9, 12, 21)] ([(oo, .inl (cs 3, 1, .inr (.inl (fo))))] ++ tl) H [.ref (ad 0), .int (nI i), .ref oo] post := by
  refine wh_ent (by decide) (Nat.le_of_ble_eq_true rfl) hP hD ?_
  clear hP hD H
  intro p e s m below meth c ls A Q H hx hb hr hml hown hts hlocks hl hK hQ hA hH hT hR htab hP hD hS
  clear hH
  have hl : lv_has ls 4 [(0, .ref (ad 0)), (1, .int (nI i)), (2, .ref oo)] := hl
  have RR0 := hRX H (tl_P hP)
  refine lv_aload_n hx hb dL_patronOf_0 rfl (lv_at hl 2 rfl) ?_
  refine lv_iconst (v := 0) hx hb dL_patronOf_1 (by first | decide | rfl) ?_
  refine lv_aload_n hx hb dL_patronOf_2 rfl (lv_at hl 0 rfl) ?_
  refine lv_iload_n hx hb dL_patronOf_3 rfl (lv_at hl 1 rfl) ?_
  refine rdV (As := [.int (nI i)]) (rest := [.int 0, .ref oo]) (b := ad 0) ⟨hx, hb, hml, hown, hts⟩ hK 1 (c_patronOf l D cs H RR0 i hlt) (gin_v mw_19_23 mw_20_0 mw_20_1 mw_1_2 mw_20_2) (by decide +kernel) ⟨Nat.le_of_ble_eq_true rfl, Nat.le_of_ble_eq_true rfl⟩ (va_recv hK RR0.1 (ci := 3) (q0 := 0) rfl rfl) rfl hl.1 rfl (Nat.le_of_ble_eq_true rfl) dL_patronOf_4 ⟨(Nat.le_of_ble_eq_true rfl), (Nat.le_of_ble_eq_true rfl)⟩ ?_
  refine W.eq (g2 := F0 m 7 ls [.int (wf i 0), .int 0, .ref oo]) rfl ?_
  refine lv_i2l hx hb dL_patronOf_7 rfl ?_
  refine va_last hx hb hK hP hD hS 0 3 rfl rfl (vp_in_nI (n := 0) (by omega) (by omega)) dL_patronOf_8 (fun H locs hP hD hS => ?_)
  have g9 : vp_updL fo (0 : Int32).toNatClampNeg ((wf i 0).toInt64) = vp_updL fo 0 ((wf i 0).toInt64) := congrArg (fun z => vp_updL fo z ((wf i 0).toInt64)) (by decide)
  have hP : va_P D vwCl ([(oo, .inl (cs 3, 1, .inr (.inl (vp_updL fo 0 ((wf i 0).toInt64)))))] ++ tl) H := Eq.mp (congrArg (fun z9 => va_P D vwCl ([(oo, .inl (cs 3, 1, .inr (.inl (z9))))] ++ tl) H) g9) hP
  have hD : va_D _ ([(oo, .inl (cs 3, 1, .inr (.inl (vp_updL fo 0 ((wf i 0).toInt64)))))] ++ tl) := Eq.mp (congrArg (fun z9 => va_D _ ([(oo, .inl (cs 3, 1, .inr (.inl (z9))))] ++ tl)) g9) hD
  refine lv_goto (tgt := 15) hx hb dL_patronOf_9 (by decide) ?_
  refine lv_iconst (v := 0) hx hb dL_patronOf_15 (by first | decide | rfl) ?_
  exact wr_iret hQ hx hb hr hlocks hP hD hS (hpost _ rfl) dL_patronOf_16
set_option maxHeartbeats 4000000 in
set_option maxRecDepth 100000 in
theorem w_stakeOf (l : Launch) (hl9 : l.stackTraces = false) (D : va_G) (cs : Nat → ClassId) (z mi : Nat) (H : Heap) {tl : va_W} {ad : Nat → Nat} {bank rnds cnt mcn : Int32} {N n cap : Nat} {su fa pu : Nat → Int32} {rf : Nat → Option Nat} {wa : Nat → Nat} {wf : Nat → Nat → Int32} {kd : Nat → Nat} (hRX : ∀ H9 : Heap, va_P D vwCl tl H9 → RX D cs H9 ad bank rnds cnt mcn N n cap su fa pu rf wa wf kd) {oo : Nat} {fo : Nat → Int64} (i : Nat) (hlt : i < n) (post : Option Value → va_W → Prop) (hpost : ∀ f9 : Nat → Int64, f9 0 = (wf i 3).toInt64 → post (some (.int 0)) ([(oo, .inl (cs 3, 1, .inr (.inl (f9))))] ++ tl)) (hP : va_P D vwCl ([(oo, .inl (cs 3, 1, .inr (.inl (fo))))] ++ tl) H) (hD : va_D (fun _ => True) ([(oo, .inl (cs 3, 1, .inr (.inl (fo))))] ++ tl)) : Wh z mi l D cs 10 0 0 yL_stakeOf cL_stakeOf 4 (some .int) [(0, 9, 12, 21)] ([(oo, .inl (cs 3, 1, .inr (.inl (fo))))] ++ tl) H [.ref (ad 0), .int (nI i), .ref oo] post := by
  refine wh_ent (by decide) (Nat.le_of_ble_eq_true rfl) hP hD ?_
  clear hP hD H
  intro p e s m below meth c ls A Q H hx hb hr hml hown hts hlocks hl hK hQ hA hH hT hR htab hP hD hS
  clear hH
  have hl : lv_has ls 4 [(0, .ref (ad 0)), (1, .int (nI i)), (2, .ref oo)] := hl
  have RR0 := hRX H (tl_P hP)
  refine lv_aload_n hx hb dL_stakeOf_0 rfl (lv_at hl 2 rfl) ?_
  refine lv_iconst (v := 0) hx hb dL_stakeOf_1 (by first | decide | rfl) ?_
  refine lv_aload_n hx hb dL_stakeOf_2 rfl (lv_at hl 0 rfl) ?_
  refine lv_iload_n hx hb dL_stakeOf_3 rfl (lv_at hl 1 rfl) ?_
  refine rdV (As := [.int (nI i)]) (rest := [.int 0, .ref oo]) (b := ad 0) ⟨hx, hb, hml, hown, hts⟩ hK 1 (c_stakeOf l D cs H RR0 i hlt) (gin_v mw_20_14 mw_20_15 mw_20_16 mw_1_2 mw_20_17) (by decide +kernel) ⟨Nat.le_of_ble_eq_true rfl, Nat.le_of_ble_eq_true rfl⟩ (va_recv hK RR0.1 (ci := 3) (q0 := 0) rfl rfl) rfl hl.1 rfl (Nat.le_of_ble_eq_true rfl) dL_stakeOf_4 ⟨(Nat.le_of_ble_eq_true rfl), (Nat.le_of_ble_eq_true rfl)⟩ ?_
  refine W.eq (g2 := F0 m 7 ls [.int (wf i 3), .int 0, .ref oo]) rfl ?_
  refine lv_i2l hx hb dL_stakeOf_7 rfl ?_
  refine va_last hx hb hK hP hD hS 0 3 rfl rfl (vp_in_nI (n := 0) (by omega) (by omega)) dL_stakeOf_8 (fun H locs hP hD hS => ?_)
  have g9 : vp_updL fo (0 : Int32).toNatClampNeg ((wf i 3).toInt64) = vp_updL fo 0 ((wf i 3).toInt64) := congrArg (fun z => vp_updL fo z ((wf i 3).toInt64)) (by decide)
  have hP : va_P D vwCl ([(oo, .inl (cs 3, 1, .inr (.inl (vp_updL fo 0 ((wf i 3).toInt64)))))] ++ tl) H := Eq.mp (congrArg (fun z9 => va_P D vwCl ([(oo, .inl (cs 3, 1, .inr (.inl (z9))))] ++ tl) H) g9) hP
  have hD : va_D _ ([(oo, .inl (cs 3, 1, .inr (.inl (vp_updL fo 0 ((wf i 3).toInt64)))))] ++ tl) := Eq.mp (congrArg (fun z9 => va_D _ ([(oo, .inl (cs 3, 1, .inr (.inl (z9))))] ++ tl)) g9) hD
  refine lv_goto (tgt := 15) hx hb dL_stakeOf_9 (by decide) ?_
  refine lv_iconst (v := 0) hx hb dL_stakeOf_15 (by first | decide | rfl) ?_
  exact wr_iret hQ hx hb hr hlocks hP hD hS (hpost _ rfl) dL_stakeOf_16
set_option maxHeartbeats 4000000 in
set_option maxRecDepth 100000 in
theorem w_bringsOf (l : Launch) (hl9 : l.stackTraces = false) (D : va_G) (cs : Nat → ClassId) (z mi : Nat) (H : Heap) {tl : va_W} {ad : Nat → Nat} {bank rnds cnt mcn : Int32} {N n cap : Nat} {su fa pu : Nat → Int32} {rf : Nat → Option Nat} {wa : Nat → Nat} {wf : Nat → Nat → Int32} {kd : Nat → Nat} (hRX : ∀ H9 : Heap, va_P D vwCl tl H9 → RX D cs H9 ad bank rnds cnt mcn N n cap su fa pu rf wa wf kd) {oo : Nat} {fo : Nat → Int64} (i : Nat) (hlt : i < n) (post : Option Value → va_W → Prop) (hpost : ∀ f9 : Nat → Int64, f9 0 = (wf i 4).toInt64 → post (some (.int 0)) ([(oo, .inl (cs 3, 1, .inr (.inl (f9))))] ++ tl)) (hP : va_P D vwCl ([(oo, .inl (cs 3, 1, .inr (.inl (fo))))] ++ tl) H) (hD : va_D (fun _ => True) ([(oo, .inl (cs 3, 1, .inr (.inl (fo))))] ++ tl)) : Wh z mi l D cs 10 0 0 yL_bringsOf cL_bringsOf 4 (some .int) [(0, 9, 12, 21)] ([(oo, .inl (cs 3, 1, .inr (.inl (fo))))] ++ tl) H [.ref (ad 0), .int (nI i), .ref oo] post := by
  refine wh_ent (by decide) (Nat.le_of_ble_eq_true rfl) hP hD ?_
  clear hP hD H
  intro p e s m below meth c ls A Q H hx hb hr hml hown hts hlocks hl hK hQ hA hH hT hR htab hP hD hS
  clear hH
  have hl : lv_has ls 4 [(0, .ref (ad 0)), (1, .int (nI i)), (2, .ref oo)] := hl
  have RR0 := hRX H (tl_P hP)
  refine lv_aload_n hx hb dL_bringsOf_0 rfl (lv_at hl 2 rfl) ?_
  refine lv_iconst (v := 0) hx hb dL_bringsOf_1 (by first | decide | rfl) ?_
  refine lv_aload_n hx hb dL_bringsOf_2 rfl (lv_at hl 0 rfl) ?_
  refine lv_iload_n hx hb dL_bringsOf_3 rfl (lv_at hl 1 rfl) ?_
  refine rdV (As := [.int (nI i)]) (rest := [.int 0, .ref oo]) (b := ad 0) ⟨hx, hb, hml, hown, hts⟩ hK 1 (c_bringsOf l D cs H RR0 i hlt) (gin_v mw_21_1 mw_21_2 mw_21_3 mw_1_2 mw_21_4) (by decide +kernel) ⟨Nat.le_of_ble_eq_true rfl, Nat.le_of_ble_eq_true rfl⟩ (va_recv hK RR0.1 (ci := 3) (q0 := 0) rfl rfl) rfl hl.1 rfl (Nat.le_of_ble_eq_true rfl) dL_bringsOf_4 ⟨(Nat.le_of_ble_eq_true rfl), (Nat.le_of_ble_eq_true rfl)⟩ ?_
  refine W.eq (g2 := F0 m 7 ls [.int (wf i 4), .int 0, .ref oo]) rfl ?_
  refine lv_i2l hx hb dL_bringsOf_7 rfl ?_
  refine va_last hx hb hK hP hD hS 0 3 rfl rfl (vp_in_nI (n := 0) (by omega) (by omega)) dL_bringsOf_8 (fun H locs hP hD hS => ?_)
  have g9 : vp_updL fo (0 : Int32).toNatClampNeg ((wf i 4).toInt64) = vp_updL fo 0 ((wf i 4).toInt64) := congrArg (fun z => vp_updL fo z ((wf i 4).toInt64)) (by decide)
  have hP : va_P D vwCl ([(oo, .inl (cs 3, 1, .inr (.inl (vp_updL fo 0 ((wf i 4).toInt64)))))] ++ tl) H := Eq.mp (congrArg (fun z9 => va_P D vwCl ([(oo, .inl (cs 3, 1, .inr (.inl (z9))))] ++ tl) H) g9) hP
  have hD : va_D _ ([(oo, .inl (cs 3, 1, .inr (.inl (vp_updL fo 0 ((wf i 4).toInt64)))))] ++ tl) := Eq.mp (congrArg (fun z9 => va_D _ ([(oo, .inl (cs 3, 1, .inr (.inl (z9))))] ++ tl)) g9) hD
  refine lv_goto (tgt := 15) hx hb dL_bringsOf_9 (by decide) ?_
  refine lv_iconst (v := 0) hx hb dL_bringsOf_15 (by first | decide | rfl) ?_
  exact wr_iret hQ hx hb hr hlocks hP hD hS (hpost _ rfl) dL_bringsOf_16
set_option maxHeartbeats 4000000 in
set_option maxRecDepth 100000 in
theorem w_edgeTop (l : Launch) (hl9 : l.stackTraces = false) (D : va_G) (cs : Nat → ClassId) (z mi : Nat) (H : Heap) {tl : va_W} {ad : Nat → Nat} {bank rnds cnt mcn : Int32} {N n cap : Nat} {su fa pu : Nat → Int32} {rf : Nat → Option Nat} {wa : Nat → Nat} {wf : Nat → Nat → Int32} {kd : Nat → Nat} (hRX : ∀ H9 : Heap, va_P D vwCl tl H9 → RX D cs H9 ad bank rnds cnt mcn N n cap su fa pu rf wa wf kd) {oo : Nat} {fo : Nat → Int64} (i : Nat) (hlt : i < n) (post : Option Value → va_W → Prop) (hpost : ∀ f9 : Nat → Int64, f9 0 = (goX N wf i / cdX (goX N wf i) (nI N)).toInt64 → post (some (.int 0)) ([(oo, .inl (cs 3, 1, .inr (.inl (f9))))] ++ tl)) (hP : va_P D vwCl ([(oo, .inl (cs 3, 1, .inr (.inl (fo))))] ++ tl) H) (hD : va_D (fun _ => True) ([(oo, .inl (cs 3, 1, .inr (.inl (fo))))] ++ tl)) : Wh z mi l D cs 10 0 0 yL_edgeTop cL_edgeTop 4 (some .int) [(0, 9, 12, 21)] ([(oo, .inl (cs 3, 1, .inr (.inl (fo))))] ++ tl) H [.ref (ad 0), .int (nI i), .ref oo] post := by
  refine wh_ent (by decide) (Nat.le_of_ble_eq_true rfl) hP hD ?_
  clear hP hD H
  intro p e s m below meth c ls A Q H hx hb hr hml hown hts hlocks hl hK hQ hA hH hT hR htab hP hD hS
  clear hH
  have hl : lv_has ls 4 [(0, .ref (ad 0)), (1, .int (nI i)), (2, .ref oo)] := hl
  have RR0 := hRX H (tl_P hP)
  refine lv_aload_n hx hb dL_edgeTop_0 rfl (lv_at hl 2 rfl) ?_
  refine lv_iconst (v := 0) hx hb dL_edgeTop_1 (by first | decide | rfl) ?_
  refine lv_aload_n hx hb dL_edgeTop_2 rfl (lv_at hl 0 rfl) ?_
  refine lv_iload_n hx hb dL_edgeTop_3 rfl (lv_at hl 1 rfl) ?_
  refine rdV (As := [.int (nI i)]) (rest := [.int 0, .ref oo]) (b := ad 0) ⟨hx, hb, hml, hown, hts⟩ hK 1 (c_edgeTop l D cs H RR0 i hlt) (gin_v mw_22_0 mw_22_1 mw_22_2 mw_1_2 mw_22_3) (by decide +kernel) ⟨Nat.le_of_ble_eq_true rfl, Nat.le_of_ble_eq_true rfl⟩ (va_recv hK RR0.1 (ci := 3) (q0 := 0) rfl rfl) rfl hl.1 rfl (Nat.le_of_ble_eq_true rfl) dL_edgeTop_4 ⟨(Nat.le_of_ble_eq_true rfl), (Nat.le_of_ble_eq_true rfl)⟩ ?_
  refine W.eq (g2 := F0 m 7 ls [.int (goX N wf i / cdX (goX N wf i) (nI N)), .int 0, .ref oo]) rfl ?_
  refine lv_i2l hx hb dL_edgeTop_7 rfl ?_
  refine va_last hx hb hK hP hD hS 0 3 rfl rfl (vp_in_nI (n := 0) (by omega) (by omega)) dL_edgeTop_8 (fun H locs hP hD hS => ?_)
  have g9 : vp_updL fo (0 : Int32).toNatClampNeg ((goX N wf i / cdX (goX N wf i) (nI N)).toInt64) = vp_updL fo 0 ((goX N wf i / cdX (goX N wf i) (nI N)).toInt64) := congrArg (fun z => vp_updL fo z ((goX N wf i / cdX (goX N wf i) (nI N)).toInt64)) (by decide)
  have hP : va_P D vwCl ([(oo, .inl (cs 3, 1, .inr (.inl (vp_updL fo 0 ((goX N wf i / cdX (goX N wf i) (nI N)).toInt64)))))] ++ tl) H := Eq.mp (congrArg (fun z9 => va_P D vwCl ([(oo, .inl (cs 3, 1, .inr (.inl (z9))))] ++ tl) H) g9) hP
  have hD : va_D _ ([(oo, .inl (cs 3, 1, .inr (.inl (vp_updL fo 0 ((goX N wf i / cdX (goX N wf i) (nI N)).toInt64)))))] ++ tl) := Eq.mp (congrArg (fun z9 => va_D _ ([(oo, .inl (cs 3, 1, .inr (.inl (z9))))] ++ tl)) g9) hD
  refine lv_goto (tgt := 15) hx hb dL_edgeTop_9 (by decide) ?_
  refine lv_iconst (v := 0) hx hb dL_edgeTop_15 (by first | decide | rfl) ?_
  exact wr_iret hQ hx hb hr hlocks hP hD hS (hpost _ rfl) dL_edgeTop_16
set_option maxHeartbeats 4000000 in
set_option maxRecDepth 100000 in
theorem w_edgeBottom (l : Launch) (hl9 : l.stackTraces = false) (D : va_G) (cs : Nat → ClassId) (z mi : Nat) (H : Heap) {tl : va_W} {ad : Nat → Nat} {bank rnds cnt mcn : Int32} {N n cap : Nat} {su fa pu : Nat → Int32} {rf : Nat → Option Nat} {wa : Nat → Nat} {wf : Nat → Nat → Int32} {kd : Nat → Nat} (hRX : ∀ H9 : Heap, va_P D vwCl tl H9 → RX D cs H9 ad bank rnds cnt mcn N n cap su fa pu rf wa wf kd) {oo : Nat} {fo : Nat → Int64} (i : Nat) (hlt : i < n) (post : Option Value → va_W → Prop) (hpost : ∀ f9 : Nat → Int64, f9 0 = (nI N / cdX (goX N wf i) (nI N)).toInt64 → post (some (.int 0)) ([(oo, .inl (cs 3, 1, .inr (.inl (f9))))] ++ tl)) (hP : va_P D vwCl ([(oo, .inl (cs 3, 1, .inr (.inl (fo))))] ++ tl) H) (hD : va_D (fun _ => True) ([(oo, .inl (cs 3, 1, .inr (.inl (fo))))] ++ tl)) : Wh z mi l D cs 10 0 0 yL_edgeBottom cL_edgeBottom 4 (some .int) [(0, 9, 12, 21)] ([(oo, .inl (cs 3, 1, .inr (.inl (fo))))] ++ tl) H [.ref (ad 0), .int (nI i), .ref oo] post := by
  refine wh_ent (by decide) (Nat.le_of_ble_eq_true rfl) hP hD ?_
  clear hP hD H
  intro p e s m below meth c ls A Q H hx hb hr hml hown hts hlocks hl hK hQ hA hH hT hR htab hP hD hS
  clear hH
  have hl : lv_has ls 4 [(0, .ref (ad 0)), (1, .int (nI i)), (2, .ref oo)] := hl
  have RR0 := hRX H (tl_P hP)
  refine lv_aload_n hx hb dL_edgeBottom_0 rfl (lv_at hl 2 rfl) ?_
  refine lv_iconst (v := 0) hx hb dL_edgeBottom_1 (by first | decide | rfl) ?_
  refine lv_aload_n hx hb dL_edgeBottom_2 rfl (lv_at hl 0 rfl) ?_
  refine lv_iload_n hx hb dL_edgeBottom_3 rfl (lv_at hl 1 rfl) ?_
  refine rdV (As := [.int (nI i)]) (rest := [.int 0, .ref oo]) (b := ad 0) ⟨hx, hb, hml, hown, hts⟩ hK 1 (c_edgeBottom l D cs H RR0 i hlt) (gin_v mw_23_19 mw_23_20 mw_23_21 mw_1_2 mw_23_22) (by decide +kernel) ⟨Nat.le_of_ble_eq_true rfl, Nat.le_of_ble_eq_true rfl⟩ (va_recv hK RR0.1 (ci := 3) (q0 := 0) rfl rfl) rfl hl.1 rfl (Nat.le_of_ble_eq_true rfl) dL_edgeBottom_4 ⟨(Nat.le_of_ble_eq_true rfl), (Nat.le_of_ble_eq_true rfl)⟩ ?_
  refine W.eq (g2 := F0 m 7 ls [.int (nI N / cdX (goX N wf i) (nI N)), .int 0, .ref oo]) rfl ?_
  refine lv_i2l hx hb dL_edgeBottom_7 rfl ?_
  refine va_last hx hb hK hP hD hS 0 3 rfl rfl (vp_in_nI (n := 0) (by omega) (by omega)) dL_edgeBottom_8 (fun H locs hP hD hS => ?_)
  have g9 : vp_updL fo (0 : Int32).toNatClampNeg ((nI N / cdX (goX N wf i) (nI N)).toInt64) = vp_updL fo 0 ((nI N / cdX (goX N wf i) (nI N)).toInt64) := congrArg (fun z => vp_updL fo z ((nI N / cdX (goX N wf i) (nI N)).toInt64)) (by decide)
  have hP : va_P D vwCl ([(oo, .inl (cs 3, 1, .inr (.inl (vp_updL fo 0 ((nI N / cdX (goX N wf i) (nI N)).toInt64)))))] ++ tl) H := Eq.mp (congrArg (fun z9 => va_P D vwCl ([(oo, .inl (cs 3, 1, .inr (.inl (z9))))] ++ tl) H) g9) hP
  have hD : va_D _ ([(oo, .inl (cs 3, 1, .inr (.inl (vp_updL fo 0 ((nI N / cdX (goX N wf i) (nI N)).toInt64)))))] ++ tl) := Eq.mp (congrArg (fun z9 => va_D _ ([(oo, .inl (cs 3, 1, .inr (.inl (z9))))] ++ tl)) g9) hD
  refine lv_goto (tgt := 15) hx hb dL_edgeBottom_9 (by decide) ?_
  refine lv_iconst (v := 0) hx hb dL_edgeBottom_15 (by first | decide | rfl) ?_
  exact wr_iret hQ hx hb hr hlocks hP hD hS (hpost _ rfl) dL_edgeBottom_16
set_option maxHeartbeats 4000000 in
set_option maxRecDepth 100000 in
theorem w_purseOf (l : Launch) (hl9 : l.stackTraces = false) (D : va_G) (cs : Nat → ClassId) (z mi : Nat) (H : Heap) {tl : va_W} {ad : Nat → Nat} {bank rnds cnt mcn : Int32} {N n cap : Nat} {su fa pu : Nat → Int32} {rf : Nat → Option Nat} {wa : Nat → Nat} {wf : Nat → Nat → Int32} {kd : Nat → Nat} (hRX : ∀ H9 : Heap, va_P D vwCl tl H9 → RX D cs H9 ad bank rnds cnt mcn N n cap su fa pu rf wa wf kd) {oo : Nat} {fo : Nat → Int64} (p9 : Nat) (hp9 : p9 < 6) (post : Option Value → va_W → Prop) (hpost : ∀ f9 : Nat → Int64, f9 0 = (pu p9).toInt64 → post (some (.int 0)) ([(oo, .inl (cs 3, 1, .inr (.inl (f9))))] ++ tl)) (hP : va_P D vwCl ([(oo, .inl (cs 3, 1, .inr (.inl (fo))))] ++ tl) H) (hD : va_D (fun _ => True) ([(oo, .inl (cs 3, 1, .inr (.inl (fo))))] ++ tl)) : Wh z mi l D cs 10 0 0 yL_purseOf cL_purseOf 4 (some .int) [(0, 9, 12, 21)] ([(oo, .inl (cs 3, 1, .inr (.inl (fo))))] ++ tl) H [.ref (ad 0), .int (nI p9), .ref oo] post := by
  refine wh_ent (by decide) (Nat.le_of_ble_eq_true rfl) hP hD ?_
  clear hP hD H
  intro p e s m below meth c ls A Q H hx hb hr hml hown hts hlocks hl hK hQ hA hH hT hR htab hP hD hS
  clear hH
  have hl : lv_has ls 4 [(0, .ref (ad 0)), (1, .int (nI p9)), (2, .ref oo)] := hl
  have RR0 := hRX H (tl_P hP)
  refine lv_aload_n hx hb dL_purseOf_0 rfl (lv_at hl 2 rfl) ?_
  refine lv_iconst (v := 0) hx hb dL_purseOf_1 (by first | decide | rfl) ?_
  refine lv_aload_n hx hb dL_purseOf_2 rfl (lv_at hl 0 rfl) ?_
  refine lv_iload_n hx hb dL_purseOf_3 rfl (lv_at hl 1 rfl) ?_
  refine rdV (As := [.int (nI p9)]) (rest := [.int 0, .ref oo]) (b := ad 0) ⟨hx, hb, hml, hown, hts⟩ hK 1 (c_purseOf l D cs H RR0 p9 hp9) (gin_v mw_19_12 mw_19_13 mw_19_14 mw_1_2 mw_19_15) (by decide +kernel) ⟨Nat.le_of_ble_eq_true rfl, Nat.le_of_ble_eq_true rfl⟩ (va_recv hK RR0.1 (ci := 3) (q0 := 0) rfl rfl) rfl hl.1 rfl (Nat.le_of_ble_eq_true rfl) dL_purseOf_4 ⟨(Nat.le_of_ble_eq_true rfl), (Nat.le_of_ble_eq_true rfl)⟩ ?_
  refine W.eq (g2 := F0 m 7 ls [.int (pu p9), .int 0, .ref oo]) rfl ?_
  refine lv_i2l hx hb dL_purseOf_7 rfl ?_
  refine va_last hx hb hK hP hD hS 0 3 rfl rfl (vp_in_nI (n := 0) (by omega) (by omega)) dL_purseOf_8 (fun H locs hP hD hS => ?_)
  have g9 : vp_updL fo (0 : Int32).toNatClampNeg ((pu p9).toInt64) = vp_updL fo 0 ((pu p9).toInt64) := congrArg (fun z => vp_updL fo z ((pu p9).toInt64)) (by decide)
  have hP : va_P D vwCl ([(oo, .inl (cs 3, 1, .inr (.inl (vp_updL fo 0 ((pu p9).toInt64)))))] ++ tl) H := Eq.mp (congrArg (fun z9 => va_P D vwCl ([(oo, .inl (cs 3, 1, .inr (.inl (z9))))] ++ tl) H) g9) hP
  have hD : va_D _ ([(oo, .inl (cs 3, 1, .inr (.inl (vp_updL fo 0 ((pu p9).toInt64)))))] ++ tl) := Eq.mp (congrArg (fun z9 => va_D _ ([(oo, .inl (cs 3, 1, .inr (.inl (z9))))] ++ tl)) g9) hD
  refine lv_goto (tgt := 15) hx hb dL_purseOf_9 (by decide) ?_
  refine lv_iconst (v := 0) hx hb dL_purseOf_15 (by first | decide | rfl) ?_
  exact wr_iret hQ hx hb hr hlocks hP hD hS (hpost _ rfl) dL_purseOf_16
set_option maxHeartbeats 4000000 in
set_option maxRecDepth 100000 in
theorem w_leastPurse (l : Launch) (hl9 : l.stackTraces = false) (D : va_G) (cs : Nat → ClassId) (z mi : Nat) (H : Heap) {tl : va_W} {ad : Nat → Nat} {bank rnds cnt mcn : Int32} {N n cap : Nat} {su fa pu : Nat → Int32} {rf : Nat → Option Nat} {wa : Nat → Nat} {wf : Nat → Nat → Int32} {kd : Nat → Nat} (hRX : ∀ H9 : Heap, va_P D vwCl tl H9 → RX D cs H9 ad bank rnds cnt mcn N n cap su fa pu rf wa wf kd) {oo : Nat} {fo : Nat → Int64} (p9 : Nat) (hp9 : p9 < 6) (post : Option Value → va_W → Prop) (hpost : ∀ f9 : Nat → Int64, f9 0 = (mnX (fun o => behX su fa pu wf kd (nI p9) p9 o n) (N - 1)).toInt64 → post (some (.int 0)) ([(oo, .inl (cs 3, 1, .inr (.inl (f9))))] ++ tl)) (hP : va_P D vwCl ([(oo, .inl (cs 3, 1, .inr (.inl (fo))))] ++ tl) H) (hD : va_D (fun _ => True) ([(oo, .inl (cs 3, 1, .inr (.inl (fo))))] ++ tl)) : Wh z mi l D cs 10 0 0 yL_leastPurse cL_leastPurse 4 (some .int) [(0, 9, 12, 21)] ([(oo, .inl (cs 3, 1, .inr (.inl (fo))))] ++ tl) H [.ref (ad 0), .int (nI p9), .ref oo] post := by
  refine wh_ent (by decide) (Nat.le_of_ble_eq_true rfl) hP hD ?_
  clear hP hD H
  intro p e s m below meth c ls A Q H hx hb hr hml hown hts hlocks hl hK hQ hA hH hT hR htab hP hD hS
  clear hH
  have hl : lv_has ls 4 [(0, .ref (ad 0)), (1, .int (nI p9)), (2, .ref oo)] := hl
  have RR0 := hRX H (tl_P hP)
  refine lv_aload_n hx hb dL_leastPurse_0 rfl (lv_at hl 2 rfl) ?_
  refine lv_iconst (v := 0) hx hb dL_leastPurse_1 (by first | decide | rfl) ?_
  refine lv_aload_n hx hb dL_leastPurse_2 rfl (lv_at hl 0 rfl) ?_
  refine lv_iload_n hx hb dL_leastPurse_3 rfl (lv_at hl 1 rfl) ?_
  refine rdV (As := [.int (nI p9)]) (rest := [.int 0, .ref oo]) (b := ad 0) ⟨hx, hb, hml, hown, hts⟩ hK 1 (c_leastPurse l D cs H RR0 p9 hp9) (gin_v mw_28_1 mw_28_2 mw_28_3 mw_1_2 mw_28_4) (by decide +kernel) ⟨Nat.le_of_ble_eq_true rfl, Nat.le_of_ble_eq_true rfl⟩ (va_recv hK RR0.1 (ci := 3) (q0 := 0) rfl rfl) rfl hl.1 rfl (Nat.le_of_ble_eq_true rfl) dL_leastPurse_4 ⟨(Nat.le_of_ble_eq_true rfl), (Nat.le_of_ble_eq_true rfl)⟩ ?_
  refine W.eq (g2 := F0 m 7 ls [.int (mnX (fun o => behX su fa pu wf kd (nI p9) p9 o n) (N - 1)), .int 0, .ref oo]) rfl ?_
  refine lv_i2l hx hb dL_leastPurse_7 rfl ?_
  refine va_last hx hb hK hP hD hS 0 3 rfl rfl (vp_in_nI (n := 0) (by omega) (by omega)) dL_leastPurse_8 (fun H locs hP hD hS => ?_)
  have g9 : vp_updL fo (0 : Int32).toNatClampNeg ((mnX (fun o => behX su fa pu wf kd (nI p9) p9 o n) (N - 1)).toInt64) = vp_updL fo 0 ((mnX (fun o => behX su fa pu wf kd (nI p9) p9 o n) (N - 1)).toInt64) := congrArg (fun z => vp_updL fo z ((mnX (fun o => behX su fa pu wf kd (nI p9) p9 o n) (N - 1)).toInt64)) (by decide)
  have hP : va_P D vwCl ([(oo, .inl (cs 3, 1, .inr (.inl (vp_updL fo 0 ((mnX (fun o => behX su fa pu wf kd (nI p9) p9 o n) (N - 1)).toInt64)))))] ++ tl) H := Eq.mp (congrArg (fun z9 => va_P D vwCl ([(oo, .inl (cs 3, 1, .inr (.inl (z9))))] ++ tl) H) g9) hP
  have hD : va_D _ ([(oo, .inl (cs 3, 1, .inr (.inl (vp_updL fo 0 ((mnX (fun o => behX su fa pu wf kd (nI p9) p9 o n) (N - 1)).toInt64)))))] ++ tl) := Eq.mp (congrArg (fun z9 => va_D _ ([(oo, .inl (cs 3, 1, .inr (.inl (z9))))] ++ tl)) g9) hD
  refine lv_goto (tgt := 15) hx hb dL_leastPurse_9 (by decide) ?_
  refine lv_iconst (v := 0) hx hb dL_leastPurse_15 (by first | decide | rfl) ?_
  exact wr_iret hQ hx hb hr hlocks hP hD hS (hpost _ rfl) dL_leastPurse_16
set_option maxHeartbeats 4000000 in
set_option maxRecDepth 100000 in
theorem w_purseAt (l : Launch) (hl9 : l.stackTraces = false) (D : va_G) (cs : Nat → ClassId) (z mi : Nat) (H : Heap) {tl : va_W} {ad : Nat → Nat} {bank rnds cnt mcn : Int32} {N n cap : Nat} {su fa pu : Nat → Int32} {rf : Nat → Option Nat} {wa : Nat → Nat} {wf : Nat → Nat → Int32} {kd : Nat → Nat} (hRX : ∀ H9 : Heap, va_P D vwCl tl H9 → RX D cs H9 ad bank rnds cnt mcn N n cap su fa pu rf wa wf kd) {oo : Nat} {fo : Nat → Int64} (p9 : Nat) (hp9 : p9 < 6) (o : Nat) (ho : o < N) (post : Option Value → va_W → Prop) (hpost : ∀ f9 : Nat → Int64, f9 0 = (behX su fa pu wf kd (nI p9) p9 o n).toInt64 → post (some (.int 0)) ([(oo, .inl (cs 3, 1, .inr (.inl (f9))))] ++ tl)) (hP : va_P D vwCl ([(oo, .inl (cs 3, 1, .inr (.inl (fo))))] ++ tl) H) (hD : va_D (fun _ => True) ([(oo, .inl (cs 3, 1, .inr (.inl (fo))))] ++ tl)) : Wh z mi l D cs 10 0 0 yL_purseAt cL_purseAt 5 (some .int) [(0, 10, 13, 21)] ([(oo, .inl (cs 3, 1, .inr (.inl (fo))))] ++ tl) H [.ref (ad 0), .int (nI p9), .int (nI o), .ref oo] post := by
  refine wh_ent (by decide) (Nat.le_of_ble_eq_true rfl) hP hD ?_
  clear hP hD H
  intro p e s m below meth c ls A Q H hx hb hr hml hown hts hlocks hl hK hQ hA hH hT hR htab hP hD hS
  clear hH
  have hl : lv_has ls 5 [(0, .ref (ad 0)), (1, .int (nI p9)), (2, .int (nI o)), (3, .ref oo)] := hl
  have RR0 := hRX H (tl_P hP)
  refine lv_aload_n hx hb dL_purseAt_0 rfl (lv_at hl 3 rfl) ?_
  refine lv_iconst (v := 0) hx hb dL_purseAt_1 (by first | decide | rfl) ?_
  refine lv_aload_n hx hb dL_purseAt_2 rfl (lv_at hl 0 rfl) ?_
  refine lv_iload_n hx hb dL_purseAt_3 rfl (lv_at hl 1 rfl) ?_
  refine lv_iload_n hx hb dL_purseAt_4 rfl (lv_at hl 2 rfl) ?_
  refine rdV (As := [.int (nI p9), .int (nI o)]) (rest := [.int 0, .ref oo]) (b := ad 0) ⟨hx, hb, hml, hown, hts⟩ hK 2 (c_purseAt l D cs H RR0 p9 hp9 o ho) (gin_v mw_27_10 mw_27_11 mw_27_12 mw_1_2 mw_27_13) (by decide +kernel) ⟨Nat.le_of_ble_eq_true rfl, Nat.le_of_ble_eq_true rfl⟩ (va_recv hK RR0.1 (ci := 3) (q0 := 0) rfl rfl) rfl hl.1 rfl (Nat.le_of_ble_eq_true rfl) dL_purseAt_5 ⟨(Nat.le_of_ble_eq_true rfl), (Nat.le_of_ble_eq_true rfl)⟩ ?_
  refine W.eq (g2 := F0 m 8 ls [.int (behX su fa pu wf kd (nI p9) p9 o n), .int 0, .ref oo]) rfl ?_
  refine lv_i2l hx hb dL_purseAt_8 rfl ?_
  refine va_last hx hb hK hP hD hS 0 3 rfl rfl (vp_in_nI (n := 0) (by omega) (by omega)) dL_purseAt_9 (fun H locs hP hD hS => ?_)
  have g9 : vp_updL fo (0 : Int32).toNatClampNeg ((behX su fa pu wf kd (nI p9) p9 o n).toInt64) = vp_updL fo 0 ((behX su fa pu wf kd (nI p9) p9 o n).toInt64) := congrArg (fun z => vp_updL fo z ((behX su fa pu wf kd (nI p9) p9 o n).toInt64)) (by decide)
  have hP : va_P D vwCl ([(oo, .inl (cs 3, 1, .inr (.inl (vp_updL fo 0 ((behX su fa pu wf kd (nI p9) p9 o n).toInt64)))))] ++ tl) H := Eq.mp (congrArg (fun z9 => va_P D vwCl ([(oo, .inl (cs 3, 1, .inr (.inl (z9))))] ++ tl) H) g9) hP
  have hD : va_D _ ([(oo, .inl (cs 3, 1, .inr (.inl (vp_updL fo 0 ((behX su fa pu wf kd (nI p9) p9 o n).toInt64)))))] ++ tl) := Eq.mp (congrArg (fun z9 => va_D _ ([(oo, .inl (cs 3, 1, .inr (.inl (z9))))] ++ tl)) g9) hD
  refine lv_goto (tgt := 17) hx hb dL_purseAt_10 (by decide) ?_
  refine lv_iconst (v := 0) hx hb dL_purseAt_17 (by first | decide | rfl) ?_
  exact wr_iret hQ hx hb hr hlocks hP hD hS (hpost _ rfl) dL_purseAt_18
set_option maxHeartbeats 4000000 in
set_option maxRecDepth 100000 in
theorem w_ways (l : Launch) (hl9 : l.stackTraces = false) (D : va_G) (cs : Nat → ClassId) (z mi : Nat) (H : Heap) {tl : va_W} {ad : Nat → Nat} {bank rnds cnt mcn : Int32} {N n cap : Nat} {su fa pu : Nat → Int32} {rf : Nat → Option Nat} {wa : Nat → Nat} {wf : Nat → Nat → Int32} {kd : Nat → Nat} (hRX : ∀ H9 : Heap, va_P D vwCl tl H9 → RX D cs H9 ad bank rnds cnt mcn N n cap su fa pu rf wa wf kd) {oo : Nat} {fo : Nat → Int64} (k q : Nat) (hk : k < 10) (hq : q ≤ 36) (post : Option Value → va_W → Prop) (hpost : ∀ f9 : Nat → Int64, f9 0 = (nI (cn (comesX su fa k (nI q)) N)).toInt64 → post (some (.int 0)) ([(oo, .inl (cs 3, 1, .inr (.inl (f9))))] ++ tl)) (hP : va_P D vwCl ([(oo, .inl (cs 3, 1, .inr (.inl (fo))))] ++ tl) H) (hD : va_D (fun _ => True) ([(oo, .inl (cs 3, 1, .inr (.inl (fo))))] ++ tl)) : Wh z mi l D cs 10 0 0 yL_ways cL_ways 5 (some .int) [(0, 10, 13, 13)] ([(oo, .inl (cs 3, 1, .inr (.inl (fo))))] ++ tl) H [.ref (ad 0), .int (nI k), .int (nI q), .ref oo] post := by
  refine wh_ent (by decide) (Nat.le_of_ble_eq_true rfl) hP hD ?_
  clear hP hD H
  intro p e s m below meth c ls A Q H hx hb hr hml hown hts hlocks hl hK hQ hA hH hT hR htab hP hD hS
  clear hH
  have hl : lv_has ls 5 [(0, .ref (ad 0)), (1, .int (nI k)), (2, .int (nI q)), (3, .ref oo)] := hl
  have RR0 := hRX H (tl_P hP)
  refine lv_aload_n hx hb dL_ways_0 rfl (lv_at hl 3 rfl) ?_
  refine lv_iconst (v := 0) hx hb dL_ways_1 (by first | decide | rfl) ?_
  refine lv_aload_n hx hb dL_ways_2 rfl (lv_at hl 0 rfl) ?_
  refine lv_iload_n hx hb dL_ways_3 rfl (lv_at hl 1 rfl) ?_
  refine lv_iload_n hx hb dL_ways_4 rfl (lv_at hl 2 rfl) ?_
  refine rdV (As := [.int (nI k), .int (nI q)]) (rest := [.int 0, .ref oo]) (b := ad 0) ⟨hx, hb, hml, hown, hts⟩ hK 2 (c_ways l D cs H RR0 k q hk hq) (gin_v mw_8_17 mw_8_18 mw_8_19 mw_1_2 mw_8_20) (by decide +kernel) ⟨Nat.le_of_ble_eq_true rfl, Nat.le_of_ble_eq_true rfl⟩ (va_recv hK RR0.1 (ci := 3) (q0 := 0) rfl rfl) rfl hl.1 rfl (Nat.le_of_ble_eq_true rfl) dL_ways_5 ⟨(Nat.le_of_ble_eq_true rfl), (Nat.le_of_ble_eq_true rfl)⟩ ?_
  refine W.eq (g2 := F0 m 8 ls [.int (nI (cn (comesX su fa k (nI q)) N)), .int 0, .ref oo]) rfl ?_
  refine lv_i2l hx hb dL_ways_8 rfl ?_
  refine va_last hx hb hK hP hD hS 0 3 rfl rfl (vp_in_nI (n := 0) (by omega) (by omega)) dL_ways_9 (fun H locs hP hD hS => ?_)
  have g9 : vp_updL fo (0 : Int32).toNatClampNeg ((nI (cn (comesX su fa k (nI q)) N)).toInt64) = vp_updL fo 0 ((nI (cn (comesX su fa k (nI q)) N)).toInt64) := congrArg (fun z => vp_updL fo z ((nI (cn (comesX su fa k (nI q)) N)).toInt64)) (by decide)
  have hP : va_P D vwCl ([(oo, .inl (cs 3, 1, .inr (.inl (vp_updL fo 0 ((nI (cn (comesX su fa k (nI q)) N)).toInt64)))))] ++ tl) H := Eq.mp (congrArg (fun z9 => va_P D vwCl ([(oo, .inl (cs 3, 1, .inr (.inl (z9))))] ++ tl) H) g9) hP
  have hD : va_D _ ([(oo, .inl (cs 3, 1, .inr (.inl (vp_updL fo 0 ((nI (cn (comesX su fa k (nI q)) N)).toInt64)))))] ++ tl) := Eq.mp (congrArg (fun z9 => va_D _ ([(oo, .inl (cs 3, 1, .inr (.inl (z9))))] ++ tl)) g9) hD
  refine lv_goto (tgt := 17) hx hb dL_ways_10 (by decide) ?_
  refine lv_iconst (v := 0) hx hb dL_ways_17 (by first | decide | rfl) ?_
  exact wr_iret hQ hx hb hr hlocks hP hD hS (hpost _ rfl) dL_ways_18
set_option maxHeartbeats 4000000 in
set_option maxRecDepth 100000 in
theorem w_hedgeFor (l : Launch) (hl9 : l.stackTraces = false) (D : va_G) (cs : Nat → ClassId) (z mi : Nat) (H : Heap) {tl : va_W} {ad : Nat → Nat} {bank rnds cnt mcn : Int32} {N n cap : Nat} {su fa pu : Nat → Int32} {rf : Nat → Option Nat} {wa : Nat → Nat} {wf : Nat → Nat → Int32} {kd : Nat → Nat} (hRX : ∀ H9 : Heap, va_P D vwCl tl H9 → RX D cs H9 ad bank rnds cnt mcn N n cap su fa pu rf wa wf kd) {oo : Nat} {fo : Nat → Int64} (i : Nat) (hlt : i < n) (wn bs : Int32) (h1 : ¬ wn < 1) (h2 : wn ≤ 20) (h3 : ¬ bs < 1) (h4 : bs ≤ 10) (post : Option Value → va_W → Prop) (hpost : ∀ f9 : Nat → Int64, f9 0 = (fst9I (fst9 (hgP (wf i 4) (wf i 3) wn bs) 999 1)).toInt64 → post (some (.int 0)) ([(oo, .inl (cs 3, 1, .inr (.inl (f9))))] ++ tl)) (hP : va_P D vwCl ([(oo, .inl (cs 3, 1, .inr (.inl (fo))))] ++ tl) H) (hD : va_D (fun _ => True) ([(oo, .inl (cs 3, 1, .inr (.inl (fo))))] ++ tl)) : Wh z mi l D cs 10 0 0 yL_hedgeFor cL_hedgeFor 6 (some .int) [(0, 12, 15, 21), (0, 12, 19, 13)] ([(oo, .inl (cs 3, 1, .inr (.inl (fo))))] ++ tl) H [.ref (ad 0), .int (nI i), .int wn, .int bs, .ref oo] post := by
  refine wh_ent (by decide) (Nat.le_of_ble_eq_true rfl) hP hD ?_
  clear hP hD H
  intro p e s m below meth c ls A Q H hx hb hr hml hown hts hlocks hl hK hQ hA hH hT hR htab hP hD hS
  clear hH
  have hl : lv_has ls 6 [(0, .ref (ad 0)), (1, .int (nI i)), (2, .int wn), (3, .int bs), (4, .ref oo)] := hl
  have RR0 := hRX H (tl_P hP)
  refine lv_aload hx hb dL_hedgeFor_0 (lv_at hl 4 rfl) ?_
  refine lv_iconst (v := 0) hx hb dL_hedgeFor_2 (by first | decide | rfl) ?_
  refine lv_aload_n hx hb dL_hedgeFor_3 rfl (lv_at hl 0 rfl) ?_
  refine lv_iload_n hx hb dL_hedgeFor_4 rfl (lv_at hl 1 rfl) ?_
  refine lv_iload_n hx hb dL_hedgeFor_5 rfl (lv_at hl 2 rfl) ?_
  refine lv_iload_n hx hb dL_hedgeFor_6 rfl (lv_at hl 3 rfl) ?_
  refine rdV (As := [.int (nI i), .int wn, .int bs]) (rest := [.int 0, .ref oo]) (b := ad 0) ⟨hx, hb, hml, hown, hts⟩ hK 3 (c_hedgeFor l D cs H RR0 i hlt wn bs h1 h2 h3 h4) (gin_v mw_29_8 mw_29_9 mw_29_10 mw_1_2 mw_29_11) (by decide +kernel) ⟨Nat.le_of_ble_eq_true rfl, Nat.le_of_ble_eq_true rfl⟩ (va_recv hK RR0.1 (ci := 3) (q0 := 0) rfl rfl) rfl hl.1 rfl (Nat.le_of_ble_eq_true rfl) dL_hedgeFor_7 ⟨(Nat.le_of_ble_eq_true rfl), (Nat.le_of_ble_eq_true rfl)⟩ ?_
  refine W.eq (g2 := F0 m 10 ls [.int (fst9I (fst9 (hgP (wf i 4) (wf i 3) wn bs) 999 1)), .int 0, .ref oo]) rfl ?_
  refine lv_i2l hx hb dL_hedgeFor_10 rfl ?_
  refine va_last hx hb hK hP hD hS 0 3 rfl rfl (vp_in_nI (n := 0) (by omega) (by omega)) dL_hedgeFor_11 (fun H locs hP hD hS => ?_)
  have g9 : vp_updL fo (0 : Int32).toNatClampNeg ((fst9I (fst9 (hgP (wf i 4) (wf i 3) wn bs) 999 1)).toInt64) = vp_updL fo 0 ((fst9I (fst9 (hgP (wf i 4) (wf i 3) wn bs) 999 1)).toInt64) := congrArg (fun z => vp_updL fo z ((fst9I (fst9 (hgP (wf i 4) (wf i 3) wn bs) 999 1)).toInt64)) (by decide)
  have hP : va_P D vwCl ([(oo, .inl (cs 3, 1, .inr (.inl (vp_updL fo 0 ((fst9I (fst9 (hgP (wf i 4) (wf i 3) wn bs) 999 1)).toInt64)))))] ++ tl) H := Eq.mp (congrArg (fun z9 => va_P D vwCl ([(oo, .inl (cs 3, 1, .inr (.inl (z9))))] ++ tl) H) g9) hP
  have hD : va_D _ ([(oo, .inl (cs 3, 1, .inr (.inl (vp_updL fo 0 ((fst9I (fst9 (hgP (wf i 4) (wf i 3) wn bs) 999 1)).toInt64)))))] ++ tl) := Eq.mp (congrArg (fun z9 => va_D _ ([(oo, .inl (cs 3, 1, .inr (.inl (z9))))] ++ tl)) g9) hD
  refine lv_goto (tgt := 23) hx hb dL_hedgeFor_12 (by decide) ?_
  refine lv_iconst (v := 0) hx hb dL_hedgeFor_23 (by first | decide | rfl) ?_
  exact wr_iret hQ hx hb hr hlocks hP hD hS (hpost _ rfl) dL_hedgeFor_24
set_option maxHeartbeats 4000000 in
set_option maxRecDepth 100000 in
theorem w_fairWin (l : Launch) (hl9 : l.stackTraces = false) (D : va_G) (cs : Nat → ClassId) (z mi : Nat) (H : Heap) {tl : va_W} {ad : Nat → Nat} {bank rnds cnt mcn : Int32} {N n cap : Nat} {su fa pu : Nat → Int32} {rf : Nat → Option Nat} {wa : Nat → Nat} {wf : Nat → Nat → Int32} {kd : Nat → Nat} (hRX : ∀ H9 : Heap, va_P D vwCl tl H9 → RX D cs H9 ad bank rnds cnt mcn N n cap su fa pu rf wa wf kd) {oo : Nat} {fo : Nat → Int64} (k q : Nat) (hk : k < 10) (hq : q ≤ 36) (bs : Int32) (h3 : ¬ bs < 1) (h4 : bs ≤ 10) (post : Option Value → va_W → Prop) (hpost : ∀ f9 : Nat → Int64, f9 0 = (nI (lst9 (fwP N (cn (comesX su fa k (nI q)) N) bs) 20)).toInt64 → post (some (.int 0)) ([(oo, .inl (cs 3, 1, .inr (.inl (f9))))] ++ tl)) (hP : va_P D vwCl ([(oo, .inl (cs 3, 1, .inr (.inl (fo))))] ++ tl) H) (hD : va_D (fun _ => True) ([(oo, .inl (cs 3, 1, .inr (.inl (fo))))] ++ tl)) : Wh z mi l D cs 10 0 0 yL_fairWin cL_fairWin 6 (some .int) [(0, 12, 15, 13)] ([(oo, .inl (cs 3, 1, .inr (.inl (fo))))] ++ tl) H [.ref (ad 0), .int (nI k), .int (nI q), .int bs, .ref oo] post := by
  refine wh_ent (by decide) (Nat.le_of_ble_eq_true rfl) hP hD ?_
  clear hP hD H
  intro p e s m below meth c ls A Q H hx hb hr hml hown hts hlocks hl hK hQ hA hH hT hR htab hP hD hS
  clear hH
  have hl : lv_has ls 6 [(0, .ref (ad 0)), (1, .int (nI k)), (2, .int (nI q)), (3, .int bs), (4, .ref oo)] := hl
  have RR0 := hRX H (tl_P hP)
  refine lv_aload hx hb dL_fairWin_0 (lv_at hl 4 rfl) ?_
  refine lv_iconst (v := 0) hx hb dL_fairWin_2 (by first | decide | rfl) ?_
  refine lv_aload_n hx hb dL_fairWin_3 rfl (lv_at hl 0 rfl) ?_
  refine lv_iload_n hx hb dL_fairWin_4 rfl (lv_at hl 1 rfl) ?_
  refine lv_iload_n hx hb dL_fairWin_5 rfl (lv_at hl 2 rfl) ?_
  refine lv_iload_n hx hb dL_fairWin_6 rfl (lv_at hl 3 rfl) ?_
  refine rdV (As := [.int (nI k), .int (nI q), .int bs]) (rest := [.int 0, .ref oo]) (b := ad 0) ⟨hx, hb, hml, hown, hts⟩ hK 3 (c_fairWin l D cs H RR0 k q hk hq bs h3 h4) (gin_v mw_29_23 mw_30_0 mw_30_1 mw_1_2 mw_30_2) (by decide +kernel) ⟨Nat.le_of_ble_eq_true rfl, Nat.le_of_ble_eq_true rfl⟩ (va_recv hK RR0.1 (ci := 3) (q0 := 0) rfl rfl) rfl hl.1 rfl (Nat.le_of_ble_eq_true rfl) dL_fairWin_7 ⟨(Nat.le_of_ble_eq_true rfl), (Nat.le_of_ble_eq_true rfl)⟩ ?_
  refine W.eq (g2 := F0 m 10 ls [.int (nI (lst9 (fwP N (cn (comesX su fa k (nI q)) N) bs) 20)), .int 0, .ref oo]) rfl ?_
  refine lv_i2l hx hb dL_fairWin_10 rfl ?_
  refine va_last hx hb hK hP hD hS 0 3 rfl rfl (vp_in_nI (n := 0) (by omega) (by omega)) dL_fairWin_11 (fun H locs hP hD hS => ?_)
  have g9 : vp_updL fo (0 : Int32).toNatClampNeg ((nI (lst9 (fwP N (cn (comesX su fa k (nI q)) N) bs) 20)).toInt64) = vp_updL fo 0 ((nI (lst9 (fwP N (cn (comesX su fa k (nI q)) N) bs) 20)).toInt64) := congrArg (fun z => vp_updL fo z ((nI (lst9 (fwP N (cn (comesX su fa k (nI q)) N) bs) 20)).toInt64)) (by decide)
  have hP : va_P D vwCl ([(oo, .inl (cs 3, 1, .inr (.inl (vp_updL fo 0 ((nI (lst9 (fwP N (cn (comesX su fa k (nI q)) N) bs) 20)).toInt64)))))] ++ tl) H := Eq.mp (congrArg (fun z9 => va_P D vwCl ([(oo, .inl (cs 3, 1, .inr (.inl (z9))))] ++ tl) H) g9) hP
  have hD : va_D _ ([(oo, .inl (cs 3, 1, .inr (.inl (vp_updL fo 0 ((nI (lst9 (fwP N (cn (comesX su fa k (nI q)) N) bs) 20)).toInt64)))))] ++ tl) := Eq.mp (congrArg (fun z9 => va_D _ ([(oo, .inl (cs 3, 1, .inr (.inl (z9))))] ++ tl)) g9) hD
  refine lv_goto (tgt := 19) hx hb dL_fairWin_12 (by decide) ?_
  refine lv_iconst (v := 0) hx hb dL_fairWin_19 (by first | decide | rfl) ?_
  exact wr_iret hQ hx hb hr hlocks hP hD hS (hpost _ rfl) dL_fairWin_20
set_option maxHeartbeats 4000000 in
set_option maxRecDepth 100000 in
theorem w_isHedged (l : Launch) (hl9 : l.stackTraces = false) (D : va_G) (cs : Nat → ClassId) (z mi : Nat) (H : Heap) {tl : va_W} {ad : Nat → Nat} {bank rnds cnt mcn : Int32} {N n cap : Nat} {su fa pu : Nat → Int32} {rf : Nat → Option Nat} {wa : Nat → Nat} {wf : Nat → Nat → Int32} {kd : Nat → Nat} (hRX : ∀ H9 : Heap, va_P D vwCl tl H9 → RX D cs H9 ad bank rnds cnt mcn N n cap su fa pu rf wa wf kd) {oo : Nat} {fo : Nat → Int64} (p9 : Nat) (hp9 : p9 < 6) (post : Option Value → va_W → Prop) (hpost : ∀ f9 : Nat → Int64, f9 0 = (if alleq (fun o => behX su fa pu wf kd (nI p9) p9 o n) N then 1 else 0) → post (some (.int 0)) ([(oo, .inl (cs 3, 1, .inr (.inl (f9))))] ++ tl)) (hP : va_P D vwCl ([(oo, .inl (cs 3, 1, .inr (.inl (fo))))] ++ tl) H) (hD : va_D (fun _ => True) ([(oo, .inl (cs 3, 1, .inr (.inl (fo))))] ++ tl)) : Wh z mi l D cs 10 0 0 yL_isHedged cL_isHedged 4 (some .int) [(0, 16, 19, 21)] ([(oo, .inl (cs 3, 1, .inr (.inl (fo))))] ++ tl) H [.ref (ad 0), .int (nI p9), .ref oo] post := by
  refine wh_ent (by decide) (Nat.le_of_ble_eq_true rfl) hP hD ?_
  clear hP hD H
  intro p e s m below meth c ls A Q H hx hb hr hml hown hts hlocks hl hK hQ hA hH hT hR htab hP hD hS
  clear hH
  have hl : lv_has ls 4 [(0, .ref (ad 0)), (1, .int (nI p9)), (2, .ref oo)] := hl
  have RR0 := hRX H (tl_P hP)
  refine lv_aload_n hx hb dL_isHedged_0 rfl (lv_at hl 2 rfl) ?_
  refine lv_iconst (v := 0) hx hb dL_isHedged_1 (by first | decide | rfl) ?_
  refine lv_aload_n hx hb dL_isHedged_2 rfl (lv_at hl 0 rfl) ?_
  refine lv_iload_n hx hb dL_isHedged_3 rfl (lv_at hl 1 rfl) ?_
  refine rdV (As := [.int (nI p9)]) (rest := [.int 0, .ref oo]) (b := ad 0) ⟨hx, hb, hml, hown, hts⟩ hK 1 (c_isHedged l D cs H RR0 p9 hp9) (gin_v mw_28_17 mw_28_18 mw_28_19 mw_1_2 mw_28_20) (by decide +kernel) ⟨Nat.le_of_ble_eq_true rfl, Nat.le_of_ble_eq_true rfl⟩ (va_recv hK RR0.1 (ci := 3) (q0 := 0) rfl rfl) rfl hl.1 rfl (Nat.le_of_ble_eq_true rfl) dL_isHedged_4 ⟨(Nat.le_of_ble_eq_true rfl), (Nat.le_of_ble_eq_true rfl)⟩ ?_
  refine W.eq (g2 := F0 m 7 ls [.int (b2i (alleq (fun o => behX su fa pu wf kd (nI p9) p9 o n) N)), .int 0, .ref oo]) rfl ?_
  refine lv_if_eq (tgt := 14) hx hb dL_isHedged_7 (by decide) (fun c_1 => ?_) (fun c_1 => ?_)
  · refine lv_lconst (v := 0) hx hb dL_isHedged_14 (by first | decide | rfl) ?_
    refine va_last hx hb hK hP hD hS 0 3 rfl rfl (vp_in_nI (n := 0) (by omega) (by omega)) dL_isHedged_15 (fun H locs hP hD hS => ?_)
    have g9 : vp_updL fo (0 : Int32).toNatClampNeg 0 = vp_updL fo 0 (0) := congrArg (fun z => vp_updL fo z (0)) (by decide)
    have hP : va_P D vwCl ([(oo, .inl (cs 3, 1, .inr (.inl (vp_updL fo 0 (0)))))] ++ tl) H := Eq.mp (congrArg (fun z9 => va_P D vwCl ([(oo, .inl (cs 3, 1, .inr (.inl (z9))))] ++ tl) H) g9) hP
    have hD : va_D _ ([(oo, .inl (cs 3, 1, .inr (.inl (vp_updL fo 0 (0)))))] ++ tl) := Eq.mp (congrArg (fun z9 => va_D _ ([(oo, .inl (cs 3, 1, .inr (.inl (z9))))] ++ tl)) g9) hD
    refine lv_goto (tgt := 22) hx hb dL_isHedged_16 (by decide) ?_
    refine lv_iconst (v := 0) hx hb dL_isHedged_22 (by first | decide | rfl) ?_
    exact wr_iret hQ hx hb hr hlocks hP hD hS (hpost _ (by rw [(b2i_eq0 _).mp c_1]; rfl)) dL_isHedged_23
  · refine lv_lconst (v := 1) hx hb dL_isHedged_10 (by first | decide | rfl) ?_
    refine lv_goto (tgt := 15) hx hb dL_isHedged_11 (by decide) ?_
    refine va_last hx hb hK hP hD hS 0 3 rfl rfl (vp_in_nI (n := 0) (by omega) (by omega)) dL_isHedged_15 (fun H locs hP hD hS => ?_)
    have g9 : vp_updL fo (0 : Int32).toNatClampNeg 1 = vp_updL fo 0 (1) := congrArg (fun z => vp_updL fo z (1)) (by decide)
    have hP : va_P D vwCl ([(oo, .inl (cs 3, 1, .inr (.inl (vp_updL fo 0 (1)))))] ++ tl) H := Eq.mp (congrArg (fun z9 => va_P D vwCl ([(oo, .inl (cs 3, 1, .inr (.inl (z9))))] ++ tl) H) g9) hP
    have hD : va_D _ ([(oo, .inl (cs 3, 1, .inr (.inl (vp_updL fo 0 (1)))))] ++ tl) := Eq.mp (congrArg (fun z9 => va_D _ ([(oo, .inl (cs 3, 1, .inr (.inl (z9))))] ++ tl)) g9) hD
    refine lv_goto (tgt := 22) hx hb dL_isHedged_16 (by decide) ?_
    refine lv_iconst (v := 0) hx hb dL_isHedged_22 (by first | decide | rfl) ?_
    exact wr_iret hQ hx hb hr hlocks hP hD hS (hpost _ (by rw [(b2i_ne0 _).mp c_1]; rfl)) dL_isHedged_23
set_option maxHeartbeats 4000000 in
set_option maxRecDepth 100000 in
theorem w_chance (l : Launch) (hl9 : l.stackTraces = false) (D : va_G) (cs : Nat → ClassId) (z mi : Nat) (H : Heap) {tl : va_W} {ad : Nat → Nat} {bank rnds cnt mcn : Int32} {N n cap : Nat} {su fa pu : Nat → Int32} {rf : Nat → Option Nat} {wa : Nat → Nat} {wf : Nat → Nat → Int32} {kd : Nat → Nat} (hRX : ∀ H9 : Heap, va_P D vwCl tl H9 → RX D cs H9 ad bank rnds cnt mcn N n cap su fa pu rf wa wf kd) {od : Nat} {fd : Nat → UInt64} (k q : Nat) (hk : k < 10) (hq : q ≤ 36) (hnan : vf_n64 (FP.ddiv (FP.i2d (nI (cn (comesX su fa k (nI q)) N))) (FP.i2d (nI N)))) (post : Option Value → va_W → Prop) (hpost : ∀ f9 : Nat → UInt64, f9 0 = FP.ddiv (FP.i2d (nI (cn (comesX su fa k (nI q)) N))) (FP.i2d (nI N)) → post (some (.int 0)) ([(od, .inl (cs 4, 1, .inr (.inr (.inr (.inl (f9))))))] ++ tl)) (hP : va_P D vwCl ([(od, .inl (cs 4, 1, .inr (.inr (.inr (.inl (fd))))))] ++ tl) H) (hD : va_D (fun _ => True) ([(od, .inl (cs 4, 1, .inr (.inr (.inr (.inl (fd))))))] ++ tl)) : Wh z mi l D cs 10 0 0 yL_chance cL_chance 5 (some .int) [(0, 9, 12, 13)] ([(od, .inl (cs 4, 1, .inr (.inr (.inr (.inl (fd))))))] ++ tl) H [.ref (ad 0), .int (nI k), .int (nI q), .ref od] post := by
  refine wh_ent (by decide) (Nat.le_of_ble_eq_true rfl) hP hD ?_
  clear hP hD H
  intro p e s m below meth c ls A Q H hx hb hr hml hown hts hlocks hl hK hQ hA hH hT hR htab hP hD hS
  clear hH
  have hl : lv_has ls 5 [(0, .ref (ad 0)), (1, .int (nI k)), (2, .int (nI q)), (3, .ref od)] := hl
  have RR0 := hRX H (tl_P hP)
  refine lv_aload_n hx hb dL_chance_0 rfl (lv_at hl 3 rfl) ?_
  refine lv_iconst (v := 0) hx hb dL_chance_1 (by first | decide | rfl) ?_
  refine lv_aload_n hx hb dL_chance_2 rfl (lv_at hl 0 rfl) ?_
  refine lv_iload_n hx hb dL_chance_3 rfl (lv_at hl 1 rfl) ?_
  refine lv_iload_n hx hb dL_chance_4 rfl (lv_at hl 2 rfl) ?_
  refine rdV (As := [.int (nI k), .int (nI q)]) (rest := [.int 0, .ref od]) (b := ad 0) ⟨hx, hb, hml, hown, hts⟩ hK 2 (c_chance l D cs H RR0 k q hk hq hnan) (gin_v mw_10_18 mw_10_19 mw_10_20 mw_1_2 mw_10_21) (by decide +kernel) ⟨Nat.le_of_ble_eq_true rfl, Nat.le_of_ble_eq_true rfl⟩ (va_recv hK RR0.1 (ci := 3) (q0 := 0) rfl rfl) rfl hl.1 rfl (Nat.le_of_ble_eq_true rfl) dL_chance_5 ⟨(Nat.le_of_ble_eq_true rfl), (Nat.le_of_ble_eq_true rfl)⟩ ?_
  refine W.eq (g2 := F0 m 8 ls [.double (FP.ddiv (FP.i2d (nI (cn (comesX su fa k (nI q)) N))) (FP.i2d (nI N))), .int 0, .ref od]) rfl ?_
  refine va_dast hx hb hK hP hD hS 0 4 rfl rfl (vp_in_nI (n := 0) (by omega) (by omega)) dL_chance_8 (fun H locs hP hD hS => ?_)
  have g9 : vf_upd fd (0 : Int32).toNatClampNeg (FP.ddiv (FP.i2d (nI (cn (comesX su fa k (nI q)) N))) (FP.i2d (nI N))) = vf_upd fd 0 (FP.ddiv (FP.i2d (nI (cn (comesX su fa k (nI q)) N))) (FP.i2d (nI N))) := congrArg (fun z => vf_upd fd z (FP.ddiv (FP.i2d (nI (cn (comesX su fa k (nI q)) N))) (FP.i2d (nI N)))) (by decide)
  have hP : va_P D vwCl ([(od, .inl (cs 4, 1, .inr (.inr (.inr (.inl (vf_upd fd 0 (FP.ddiv (FP.i2d (nI (cn (comesX su fa k (nI q)) N))) (FP.i2d (nI N)))))))))] ++ tl) H := Eq.mp (congrArg (fun z9 => va_P D vwCl ([(od, .inl (cs 4, 1, .inr (.inr (.inr (.inl (z9))))))] ++ tl) H) g9) hP
  have hD : va_D _ ([(od, .inl (cs 4, 1, .inr (.inr (.inr (.inl (vf_upd fd 0 (FP.ddiv (FP.i2d (nI (cn (comesX su fa k (nI q)) N))) (FP.i2d (nI N)))))))))] ++ tl) := Eq.mp (congrArg (fun z9 => va_D _ ([(od, .inl (cs 4, 1, .inr (.inr (.inr (.inl (z9))))))] ++ tl)) g9) hD
  refine lv_goto (tgt := 16) hx hb dL_chance_9 (by decide) ?_
  refine lv_iconst (v := 0) hx hb dL_chance_16 (by first | decide | rfl) ?_
  exact wr_iret hQ hx hb hr hlocks hP hD hS (hpost _ rfl) dL_chance_17
