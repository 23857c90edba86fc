/-! the class: methods that write, first part; rows by program -/
set_option maxHeartbeats 4000000 in
set_option maxRecDepth 100000 in
theorem k_wager (l : Launch) (D : va_G) (cs : Nat → ClassId) (z mi : Nat) (H : Heap)  (b : Nat) (p9 k9 v9 s9 r9 y9 : Int32) {tl : va_W} (post : Option Value → va_W → Prop) (hpost : post none ([(b, .inr (2, [.int p9, .int k9, .int v9, .int s9, .int r9, .int y9]))] ++ tl)) (hP : va_P D vwCl ([(b, .inr (2, [.int 0, .int 0, .int 0, .int 0, .int 0, .int 0]))] ++ tl) H) (hD : va_D (fun _ => True) ([(b, .inr (2, [.int 0, .int 0, .int 0, .int 0, .int 0, .int 0]))] ++ tl)) : Ws z mi l D cs 2 0 0 yX1_init cX1_init 7 none ([(b, .inr (2, [.int 0, .int 0, .int 0, .int 0, .int 0, .int 0]))] ++ tl) H [.ref b, .int p9, .int k9, .int v9, .int s9, .int r9, .int y9] post := by
  refine ws_ent (by decide) (Nat.le_of_ble_eq_true rfl) hP hD ?_
  clear hP hD H
  intro p e s m below meth c ls A Q H hx hb hr hml hown hts hlocks hin hl hK hQ hA hH hT hP hD hS
  clear hH
  have hl : lv_has ls 7 [(0, .ref b), (1, .int p9), (2, .int k9), (3, .int v9), (4, .int s9), (5, .int r9), (6, .int y9)] := hl
  refine lv_aload_n hx hb dX1_init_0 rfl (lv_at hl 0 rfl) ?_
  refine W.objInit hx hb hown (hts (Cond.methodLink RX1 1 objectInit) mw_11_18) (hts (Cond.instanceMethod objectInit) mw_1_9) (hts (Cond.code objectInit ⟨#[0xb1]⟩ 1 none) mw_1_10) rfl (by rw [hml]; exact hl.1) rfl dX1_init_1 (Nat.le_of_ble_eq_true rfl) (Nat.le_of_ble_eq_true rfl) ?_
  refine W.eq (g2 := F0 m 4 ls []) rfl ?_
  refine lv_aload_n hx hb dX1_init_4 rfl (lv_at hl 0 rfl) ?_
  refine lv_iload_n hx hb dX1_init_5 rfl (lv_at hl 1 rfl) ?_
  refine va_putF (D := D) (ci := 2) (v := .int p9) (ty := .int) (C := RX1) (T := TX1) (N := 6) hx hb hts inlX1 tyX1 tyX1_ok nmX1 hown hK hP hD hS 0 rfl rfl 0 (by decide) (hts (Cond.fieldLink RX1 7 "TavernDice$Wager" "patron" "I") mw_11_19) (fun _ h9 => h9) rfl hin rfl (by decide +kernel) rfl rfl (Nat.le_of_ble_eq_true rfl) dX1_init_6 (fun H locs hP hD hS => ?_)
  have hP : va_P D vwCl ([(b, .inr (2, [.int p9, .int 0, .int 0, .int 0, .int 0, .int 0]))] ++ tl) H := hP
  have hD : va_D _ ([(b, .inr (2, [.int p9, .int 0, .int 0, .int 0, .int 0, .int 0]))] ++ tl) := hD
  refine lv_aload_n hx hb dX1_init_9 rfl (lv_at hl 0 rfl) ?_
  refine lv_iload_n hx hb dX1_init_10 rfl (lv_at hl 2 rfl) ?_
  refine va_putF (D := D) (ci := 2) (v := .int k9) (ty := .int) (C := RX1) (T := TX1) (N := 6) hx hb hts inlX1 tyX1 tyX1_ok nmX1 hown hK hP hD hS 0 rfl rfl 1 (by decide) (hts (Cond.fieldLink RX1 13 "TavernDice$Wager" "kind" "I") mw_11_20) (fun _ h9 => h9) rfl hin rfl (by decide +kernel) rfl rfl (Nat.le_of_ble_eq_true rfl) dX1_init_11 (fun H locs hP hD hS => ?_)
  have hP : va_P D vwCl ([(b, .inr (2, [.int p9, .int k9, .int 0, .int 0, .int 0, .int 0]))] ++ tl) H := hP
  have hD : va_D _ ([(b, .inr (2, [.int p9, .int k9, .int 0, .int 0, .int 0, .int 0]))] ++ tl) := hD
  refine lv_aload_n hx hb dX1_init_14 rfl (lv_at hl 0 rfl) ?_
  refine lv_iload_n hx hb dX1_init_15 rfl (lv_at hl 3 rfl) ?_
  refine va_putF (D := D) (ci := 2) (v := .int v9) (ty := .int) (C := RX1) (T := TX1) (N := 6) hx hb hts inlX1 tyX1 tyX1_ok nmX1 hown hK hP hD hS 0 rfl rfl 2 (by decide) (hts (Cond.fieldLink RX1 16 "TavernDice$Wager" "number" "I") mw_11_21) (fun _ h9 => h9) rfl hin rfl (by decide +kernel) rfl rfl (Nat.le_of_ble_eq_true rfl) dX1_init_16 (fun H locs hP hD hS => ?_)
  have hP : va_P D vwCl ([(b, .inr (2, [.int p9, .int k9, .int v9, .int 0, .int 0, .int 0]))] ++ tl) H := hP
  have hD : va_D _ ([(b, .inr (2, [.int p9, .int k9, .int v9, .int 0, .int 0, .int 0]))] ++ tl) := hD
  refine lv_aload_n hx hb dX1_init_19 rfl (lv_at hl 0 rfl) ?_
  refine lv_iload hx hb dX1_init_20 (lv_at hl 4 rfl) ?_
  refine va_putF (D := D) (ci := 2) (v := .int s9) (ty := .int) (C := RX1) (T := TX1) (N := 6) hx hb hts inlX1 tyX1 tyX1_ok nmX1 hown hK hP hD hS 0 rfl rfl 3 (by decide) (hts (Cond.fieldLink RX1 19 "TavernDice$Wager" "stake" "I") mw_11_22) (fun _ h9 => h9) rfl hin rfl (by decide +kernel) rfl rfl (Nat.le_of_ble_eq_true rfl) dX1_init_22 (fun H locs hP hD hS => ?_)
  have hP : va_P D vwCl ([(b, .inr (2, [.int p9, .int k9, .int v9, .int s9, .int 0, .int 0]))] ++ tl) H := hP
  have hD : va_D _ ([(b, .inr (2, [.int p9, .int k9, .int v9, .int s9, .int 0, .int 0]))] ++ tl) := hD
  refine lv_aload_n hx hb dX1_init_25 rfl (lv_at hl 0 rfl) ?_
  refine lv_iload hx hb dX1_init_26 (lv_at hl 5 rfl) ?_
  refine va_putF (D := D) (ci := 2) (v := .int r9) (ty := .int) (C := RX1) (T := TX1) (N := 6) hx hb hts inlX1 tyX1 tyX1_ok nmX1 hown hK hP hD hS 0 rfl rfl 4 (by decide) (hts (Cond.fieldLink RX1 22 "TavernDice$Wager" "brings" "I") mw_11_23) (fun _ h9 => h9) rfl hin rfl (by decide +kernel) rfl rfl (Nat.le_of_ble_eq_true rfl) dX1_init_28 (fun H locs hP hD hS => ?_)
  have hP : va_P D vwCl ([(b, .inr (2, [.int p9, .int k9, .int v9, .int s9, .int r9, .int 0]))] ++ tl) H := hP
  have hD : va_D _ ([(b, .inr (2, [.int p9, .int k9, .int v9, .int s9, .int r9, .int 0]))] ++ tl) := hD
  refine lv_aload_n hx hb dX1_init_31 rfl (lv_at hl 0 rfl) ?_
  refine lv_iload hx hb dX1_init_32 (lv_at hl 6 rfl) ?_
  refine va_putF (D := D) (ci := 2) (v := .int y9) (ty := .int) (C := RX1) (T := TX1) (N := 6) hx hb hts inlX1 tyX1 tyX1_ok nmX1 hown hK hP hD hS 0 rfl rfl 5 (by decide) (hts (Cond.fieldLink RX1 25 "TavernDice$Wager" "ways" "I") mw_12_0) (fun _ h9 => h9) rfl hin rfl (by decide +kernel) rfl rfl (Nat.le_of_ble_eq_true rfl) dX1_init_34 (fun H locs hP hD hS => ?_)
  have hP : va_P D vwCl ([(b, .inr (2, [.int p9, .int k9, .int v9, .int s9, .int r9, .int y9]))] ++ tl) H := hP
  have hD : va_D _ ([(b, .inr (2, [.int p9, .int k9, .int v9, .int s9, .int r9, .int y9]))] ++ tl) := hD
  exact wr_vret hQ hx hb hr hlocks hP hD hS (hpost) dX1_init_37
set_option maxHeartbeats 4000000 in
set_option maxRecDepth 100000 in
theorem k_addOutcome (l : Launch) (D : va_G) (cs : Nat → ClassId) (z mi : Nat) (H : Heap)  {b s4 f5 : Nat} {cnt : Int32} {N : Nat} {su fa : Nat → Int32} (A9 B9 C9 : Nat) (hN : N < 1728) {tl : va_W} (post : Option Value → va_W → Prop) (hpost : post none ([(b, .inr (1, [.ref s4, .ref f5, .int cnt, .int (nI (N + 1))])), (s4, .inl (cs 0, 1728, .inl ((upd su N (nI (A9 + B9 + C9)))))), (f5, .inl (cs 0, 1728, .inl ((upd fa N (bitX (nI A9) ||| bitX (nI B9) ||| bitX (nI C9))))))] ++ tl)) (hP : va_P D vwCl ([(b, .inr (1, [.ref s4, .ref f5, .int cnt, .int (nI N)])), (s4, .inl (cs 0, 1728, .inl (su))), (f5, .inl (cs 0, 1728, .inl (fa)))] ++ tl) H) (hD : va_D (fun _ => True) ([(b, .inr (1, [.ref s4, .ref f5, .int cnt, .int (nI N)])), (s4, .inl (cs 0, 1728, .inl (su))), (f5, .inl (cs 0, 1728, .inl (fa)))] ++ tl)) : Ws z mi l D cs 3 0 0 yX0_addOutcome cX0_addOutcome 4 none ([(b, .inr (1, [.ref s4, .ref f5, .int cnt, .int (nI N)])), (s4, .inl (cs 0, 1728, .inl (su))), (f5, .inl (cs 0, 1728, .inl (fa)))] ++ tl) H [.ref b, .int (nI A9), .int (nI B9), .int (nI C9)] post := by
  refine ws_ent (by decide) (Nat.le_of_ble_eq_true rfl) hP hD ?_
  clear hP hD H
  intro p e s m below meth c ls A Q H hx hb hr hml hown hts hlocks hin hl hK hQ hA hH hT hP hD hS
  clear hH
  have hl : lv_has ls 4 [(0, .ref b), (1, .int (nI A9)), (2, .int (nI B9)), (3, .int (nI C9))] := hl
  refine lv_aload_n hx hb dX0_addOutcome_0 rfl (lv_at hl 0 rfl) ?_
  refine va_get (D := D) (ci := 1) (v := .int (nI N)) (C := RX0) (T := TX0) (N := 4) hx hb hts inlX0 hown hK hP 0 rfl rfl 3 (by decide) (hts (Cond.fieldLink RX0 26 "TavernDice$Dice" "outcomes" "I") mw_2_8) (fun _ h9 => h9) rfl dX0_addOutcome_1 ?_
  refine lv_sipush (v := nI 1728) hx hb dX0_addOutcome_4 (by first | decide | rfl) ?_
  refine lv_icmp_ge (tgt := 57) hx hb dX0_addOutcome_7 (by decide) (fun c_1 => False.elim (absurd c_1 (nI_ge hN (by decide)))) (fun c_1 => ?_)
  refine lv_aload_n hx hb dX0_addOutcome_10 rfl (lv_at hl 0 rfl) ?_
  refine va_get (D := D) (ci := 1) (v := .ref s4) (C := RX0) (T := TX0) (N := 4) hx hb hts inlX0 hown hK hP 0 rfl rfl 0 (by decide) (hts (Cond.fieldLink RX0 9 "TavernDice$Dice" "sums" "[I") mw_2_1) (fun _ h9 => h9) rfl dX0_addOutcome_11 ?_
  refine lv_aload_n hx hb dX0_addOutcome_14 rfl (lv_at hl 0 rfl) ?_
  refine va_get (D := D) (ci := 1) (v := .int (nI N)) (C := RX0) (T := TX0) (N := 4) hx hb hts inlX0 hown hK hP 0 rfl rfl 3 (by decide) (hts (Cond.fieldLink RX0 26 "TavernDice$Dice" "outcomes" "I") mw_2_8) (fun _ h9 => h9) rfl dX0_addOutcome_15 ?_
  refine lv_iload_n hx hb dX0_addOutcome_18 rfl (lv_at hl 1 rfl) ?_
  refine lv_iload_n hx hb dX0_addOutcome_19 rfl (lv_at hl 2 rfl) ?_
  refine lv_iadd hx hb dX0_addOutcome_20 ?_
  refine lv_rwi (y := nI (A9 + B9)) (nI_add _ _) ?_
  refine lv_iload_n hx hb dX0_addOutcome_21 rfl (lv_at hl 3 rfl) ?_
  refine lv_iadd hx hb dX0_addOutcome_22 ?_
  refine lv_rwi (y := nI (A9 + B9 + C9)) (nI_add _ _) ?_
  refine va_iast hx hb hK hP hD hS 1 0 rfl rfl (vp_in_nI hN (by omega)) dX0_addOutcome_23 (fun H locs hP hD hS => ?_)
  have g9 : upd su (nI N).toNatClampNeg (nI (A9 + B9 + C9)) = upd su N (nI (A9 + B9 + C9)) := by rw [nI_clamp (by omega)]
  have hP : va_P D vwCl ([(b, .inr (1, [.ref s4, .ref f5, .int cnt, .int (nI N)])), (s4, .inl (cs 0, 1728, .inl (upd su N (nI (A9 + B9 + C9))))), (f5, .inl (cs 0, 1728, .inl (fa)))] ++ tl) H := Eq.mp (congrArg (fun z9 => va_P D vwCl ([(b, .inr (1, [.ref s4, .ref f5, .int cnt, .int (nI N)])), (s4, .inl (cs 0, 1728, .inl (z9))), (f5, .inl (cs 0, 1728, .inl (fa)))] ++ tl) H) g9) hP
  have hD : va_D _ ([(b, .inr (1, [.ref s4, .ref f5, .int cnt, .int (nI N)])), (s4, .inl (cs 0, 1728, .inl (upd su N (nI (A9 + B9 + C9))))), (f5, .inl (cs 0, 1728, .inl (fa)))] ++ tl) := Eq.mp (congrArg (fun z9 => va_D _ ([(b, .inr (1, [.ref s4, .ref f5, .int cnt, .int (nI N)])), (s4, .inl (cs 0, 1728, .inl (z9))), (f5, .inl (cs 0, 1728, .inl (fa)))] ++ tl)) g9) hD
  refine lv_aload_n hx hb dX0_addOutcome_24 rfl (lv_at hl 0 rfl) ?_
  refine va_get (D := D) (ci := 1) (v := .ref f5) (C := RX0) (T := TX0) (N := 4) hx hb hts inlX0 hown hK hP 0 rfl rfl 1 (by decide) (hts (Cond.fieldLink RX0 15 "TavernDice$Dice" "faces" "[I") mw_2_2) (fun _ h9 => h9) rfl dX0_addOutcome_25 ?_
  refine lv_aload_n hx hb dX0_addOutcome_28 rfl (lv_at hl 0 rfl) ?_
  refine va_get (D := D) (ci := 1) (v := .int (nI N)) (C := RX0) (T := TX0) (N := 4) hx hb hts inlX0 hown hK hP 0 rfl rfl 3 (by decide) (hts (Cond.fieldLink RX0 26 "TavernDice$Dice" "outcomes" "I") mw_2_8) (fun _ h9 => h9) rfl dX0_addOutcome_29 ?_
  refine lv_iload_n hx hb dX0_addOutcome_32 rfl (lv_at hl 1 rfl) ?_
  refine rdS (As := [.int (nI A9)]) (rest := [.int (nI N), .ref f5]) ⟨hx, hb, hml, hown, hts⟩ hK 1 (c_bitOf l D cs H (nI A9)) (gin_s mw_2_17 mw_2_18 mw_1_13 mw_2_19) (by decide +kernel) ⟨Nat.le_of_ble_eq_true rfl, Nat.le_of_ble_eq_true rfl⟩ rfl hl.1 rfl (Nat.le_of_ble_eq_true rfl) dX0_addOutcome_33 ⟨(Nat.le_of_ble_eq_true rfl), (Nat.le_of_ble_eq_true rfl)⟩ ?_
  refine W.eq (g2 := F0 m 36 ls [.int (bitX (nI A9)), .int (nI N), .ref f5]) rfl ?_
  refine lv_iload_n hx hb dX0_addOutcome_36 rfl (lv_at hl 2 rfl) ?_
  refine rdS (As := [.int (nI B9)]) (rest := [.int (bitX (nI A9)), .int (nI N), .ref f5]) ⟨hx, hb, hml, hown, hts⟩ hK 1 (c_bitOf l D cs H (nI B9)) (gin_s mw_2_17 mw_2_18 mw_1_13 mw_2_19) (by decide +kernel) ⟨Nat.le_of_ble_eq_true rfl, Nat.le_of_ble_eq_true rfl⟩ rfl hl.1 rfl (Nat.le_of_ble_eq_true rfl) dX0_addOutcome_37 ⟨(Nat.le_of_ble_eq_true rfl), (Nat.le_of_ble_eq_true rfl)⟩ ?_
  refine W.eq (g2 := F0 m 40 ls [.int (bitX (nI B9)), .int (bitX (nI A9)), .int (nI N), .ref f5]) rfl ?_
  refine lv_ior hx hb dX0_addOutcome_40 ?_
  refine lv_iload_n hx hb dX0_addOutcome_41 rfl (lv_at hl 3 rfl) ?_
  refine rdS (As := [.int (nI C9)]) (rest := [.int ((bitX (nI A9)) ||| (bitX (nI B9))), .int (nI N), .ref f5]) ⟨hx, hb, hml, hown, hts⟩ hK 1 (c_bitOf l D cs H (nI C9)) (gin_s mw_2_17 mw_2_18 mw_1_13 mw_2_19) (by decide +kernel) ⟨Nat.le_of_ble_eq_true rfl, Nat.le_of_ble_eq_true rfl⟩ rfl hl.1 rfl (Nat.le_of_ble_eq_true rfl) dX0_addOutcome_42 ⟨(Nat.le_of_ble_eq_true rfl), (Nat.le_of_ble_eq_true rfl)⟩ ?_
  refine W.eq (g2 := F0 m 45 ls [.int (bitX (nI C9)), .int ((bitX (nI A9)) ||| (bitX (nI B9))), .int (nI N), .ref f5]) rfl ?_
  refine lv_ior hx hb dX0_addOutcome_45 ?_
  refine va_iast hx hb hK hP hD hS 2 0 rfl rfl (vp_in_nI hN (by omega)) dX0_addOutcome_46 (fun H locs hP hD hS => ?_)
  have g9 : upd fa (nI N).toNatClampNeg (((bitX (nI A9)) ||| (bitX (nI B9))) ||| (bitX (nI C9))) = upd fa N (bitX (nI A9) ||| bitX (nI B9) ||| bitX (nI C9)) := by rw [nI_clamp (by omega)]
  have hP : va_P D vwCl ([(b, .inr (1, [.ref s4, .ref f5, .int cnt, .int (nI N)])), (s4, .inl (cs 0, 1728, .inl (upd su N (nI (A9 + B9 + C9))))), (f5, .inl (cs 0, 1728, .inl (upd fa N (bitX (nI A9) ||| bitX (nI B9) ||| bitX (nI C9)))))] ++ tl) H := Eq.mp (congrArg (fun z9 => va_P D vwCl ([(b, .inr (1, [.ref s4, .ref f5, .int cnt, .int (nI N)])), (s4, .inl (cs 0, 1728, .inl (upd su N (nI (A9 + B9 + C9))))), (f5, .inl (cs 0, 1728, .inl (z9)))] ++ tl) H) g9) hP
  have hD : va_D _ ([(b, .inr (1, [.ref s4, .ref f5, .int cnt, .int (nI N)])), (s4, .inl (cs 0, 1728, .inl (upd su N (nI (A9 + B9 + C9))))), (f5, .inl (cs 0, 1728, .inl (upd fa N (bitX (nI A9) ||| bitX (nI B9) ||| bitX (nI C9)))))] ++ tl) := Eq.mp (congrArg (fun z9 => va_D _ ([(b, .inr (1, [.ref s4, .ref f5, .int cnt, .int (nI N)])), (s4, .inl (cs 0, 1728, .inl (upd su N (nI (A9 + B9 + C9))))), (f5, .inl (cs 0, 1728, .inl (z9)))] ++ tl)) g9) hD
  refine lv_aload_n hx hb dX0_addOutcome_47 rfl (lv_at hl 0 rfl) ?_
  refine lv_dup hx hb dX0_addOutcome_48 rfl ?_
  refine va_get (D := D) (ci := 1) (v := .int (nI N)) (C := RX0) (T := TX0) (N := 4) hx hb hts inlX0 hown hK hP 0 rfl rfl 3 (by decide) (hts (Cond.fieldLink RX0 26 "TavernDice$Dice" "outcomes" "I") mw_2_8) (fun _ h9 => h9) rfl dX0_addOutcome_49 ?_
  refine lv_iconst (v := 1) hx hb dX0_addOutcome_52 (by first | decide | rfl) ?_
  refine lv_iadd hx hb dX0_addOutcome_53 ?_
  refine lv_rwi (y := nI (N + 1)) (nI_1 N) ?_
  refine va_put (D := D) (ci := 1) (v := .int (nI (N + 1))) (ty := .int) (C := RX0) (T := TX0) (N := 4) hx hb hts inlX0 tyX0 tyX0_ok nmX0 hown hK hP hD hS 0 rfl rfl 3 (by decide) (hts (Cond.fieldLink RX0 26 "TavernDice$Dice" "outcomes" "I") mw_2_8) (fun _ h9 => h9) rfl (by decide +kernel) rfl rfl (Nat.le_of_ble_eq_true rfl) dX0_addOutcome_54 (fun H locs hP hD hS => ?_)
  have hP : va_P D vwCl ([(b, .inr (1, [.ref s4, .ref f5, .int cnt, .int (nI (N + 1))])), (s4, .inl (cs 0, 1728, .inl (upd su N (nI (A9 + B9 + C9))))), (f5, .inl (cs 0, 1728, .inl (upd fa N (bitX (nI A9) ||| bitX (nI B9) ||| bitX (nI C9)))))] ++ tl) H := hP
  have hD : va_D _ ([(b, .inr (1, [.ref s4, .ref f5, .int cnt, .int (nI (N + 1))])), (s4, .inl (cs 0, 1728, .inl (upd su N (nI (A9 + B9 + C9))))), (f5, .inl (cs 0, 1728, .inl (upd fa N (bitX (nI A9) ||| bitX (nI B9) ||| bitX (nI C9)))))] ++ tl) := hD
  exact wr_vret hQ hx hb hr hlocks hP hD hS (hpost) dX0_addOutcome_57
set_option maxHeartbeats 4000000 in
set_option maxRecDepth 100000 in
theorem k_layOut1 (l : Launch) (D : va_G) (cs : Nat → ClassId) (z mi : Nat) (H : Heap)  {dd s4 f5 : Nat} {cnt : Int32} {N : Nat} {su fa : Nat → Int32} (f1 f2 f3 : Nat) (h1 : f1 ≤ 12) (h2 : f2 ≤ 12) (h3 : f3 ≤ 12) (hf2 : f2 = 0) (hf3 : f3 = 0) (hNN : f1 * exN f2 * exN f3 ≤ 1728) {tl : va_W} (post : Option Value → va_W → Prop) (hpost : ∀ su9 fa9 : Nat → Int32, laid f2 f3 su9 fa9 (f1 * exN f2 * exN f3) → post none ([(dd, .inr (1, [.ref s4, .ref f5, .int (nI (1 + 0 + 0)), .int (nI (f1 * exN f2 * exN f3))])), (s4, .inl (cs 0, 1728, .inl (su9))), (f5, .inl (cs 0, 1728, .inl (fa9)))] ++ tl)) (hP : va_P D vwCl ([(dd, .inr (1, [.ref s4, .ref f5, .int cnt, .int (nI N)])), (s4, .inl (cs 0, 1728, .inl (su))), (f5, .inl (cs 0, 1728, .inl (fa)))] ++ tl) H) (hD : va_D (fun _ => True) ([(dd, .inr (1, [.ref s4, .ref f5, .int cnt, .int (nI N)])), (s4, .inl (cs 0, 1728, .inl (su))), (f5, .inl (cs 0, 1728, .inl (fa)))] ++ tl)) : Ws z mi l D cs 4 0 0 yX0_layOut cX0_layOut 7 none ([(dd, .inr (1, [.ref s4, .ref f5, .int cnt, .int (nI N)])), (s4, .inl (cs 0, 1728, .inl (su))), (f5, .inl (cs 0, 1728, .inl (fa)))] ++ tl) H [.ref dd, .int (nI f1), .int (nI f2), .int (nI f3)] post := by
  refine ws_ent (by decide) (Nat.le_of_ble_eq_true rfl) hP hD ?_
  clear hP hD H
  intro p e s m below meth c ls A Q H hx hb hr hml hown hts hlocks hin hl hK hQ hA hH hT hP hD hS
  clear hH
  have hl : lv_has ls 7 [(0, .ref dd), (1, .int (nI f1)), (2, .int (nI f2)), (3, .int (nI f3))] := hl
  have hl2 := lb_le f2
  have hl3 := lb_le f3
  have he2 := ex_le h2
  have he3 := ex_le h3
  refine lv_aload_n hx hb dX0_layOut_0 rfl (lv_at hl 0 rfl) ?_
  refine lv_iconst (v := 1) hx hb dX0_layOut_1 (by first | decide | rfl) ?_
  refine lv_iload_n hx hb dX0_layOut_2 rfl (lv_at hl 2 rfl) ?_
  refine lv_if_le (tgt := 10) hx hb dX0_layOut_3 (by decide) (fun c_1 => ?_) (fun c_1 => False.elim (c_1 (by rw [hf2]; decide)))
  refine lv_iconst (v := nI 0) hx hb dX0_layOut_10 (by first | decide | rfl) ?_
  refine lv_iadd hx hb dX0_layOut_11 ?_
  refine lv_rwi (y := nI (1 + 0)) (nI_add _ _) ?_
  refine lv_iload_n hx hb dX0_layOut_12 rfl (lv_at hl 3 rfl) ?_
  refine lv_if_le (tgt := 20) hx hb dX0_layOut_13 (by decide) (fun c_2 => ?_) (fun c_2 => False.elim (c_2 (by rw [hf3]; decide)))
  refine lv_iconst (v := nI 0) hx hb dX0_layOut_20 (by first | decide | rfl) ?_
  refine lv_iadd hx hb dX0_layOut_21 ?_
  refine lv_rwi (y := nI (1 + 0 + 0)) (nI_add _ _) ?_
  refine va_put (D := D) (ci := 1) (v := .int (nI (1 + 0 + 0))) (ty := .int) (C := RX0) (T := TX0) (N := 4) hx hb hts inlX0 tyX0 tyX0_ok nmX0 hown hK hP hD hS 0 rfl rfl 2 (by decide) (hts (Cond.fieldLink RX0 22 "TavernDice$Dice" "count" "I") mw_2_7) (fun _ h9 => h9) rfl (by decide +kernel) rfl rfl (Nat.le_of_ble_eq_true rfl) dX0_layOut_22 (fun H locs hP hD hS => ?_)
  have hP : va_P D vwCl ([(dd, .inr (1, [.ref s4, .ref f5, .int (nI (1 + 0 + 0)), .int (nI N)])), (s4, .inl (cs 0, 1728, .inl (su))), (f5, .inl (cs 0, 1728, .inl (fa)))] ++ tl) H := hP
  have hD : va_D _ ([(dd, .inr (1, [.ref s4, .ref f5, .int (nI (1 + 0 + 0)), .int (nI N)])), (s4, .inl (cs 0, 1728, .inl (su))), (f5, .inl (cs 0, 1728, .inl (fa)))] ++ tl) := hD
  refine lv_aload_n hx hb dX0_layOut_25 rfl (lv_at hl 0 rfl) ?_
  refine lv_iconst (v := nI 0) hx hb dX0_layOut_26 (by first | decide | rfl) ?_
  refine va_put (D := D) (ci := 1) (v := .int (nI 0)) (ty := .int) (C := RX0) (T := TX0) (N := 4) hx hb hts inlX0 tyX0 tyX0_ok nmX0 hown hK hP hD hS 0 rfl rfl 3 (by decide) (hts (Cond.fieldLink RX0 26 "TavernDice$Dice" "outcomes" "I") mw_2_8) (fun _ h9 => h9) rfl (by decide +kernel) rfl rfl (Nat.le_of_ble_eq_true rfl) dX0_layOut_27 (fun H locs hP hD hS => ?_)
  have hP : va_P D vwCl ([(dd, .inr (1, [.ref s4, .ref f5, .int (nI (1 + 0 + 0)), .int (nI 0)])), (s4, .inl (cs 0, 1728, .inl (su))), (f5, .inl (cs 0, 1728, .inl (fa)))] ++ tl) H := hP
  have hD : va_D _ ([(dd, .inr (1, [.ref s4, .ref f5, .int (nI (1 + 0 + 0)), .int (nI 0)])), (s4, .inl (cs 0, 1728, .inl (su))), (f5, .inl (cs 0, 1728, .inl (fa)))] ++ tl) := hD
  refine lv_iconst (v := nI (0 + 1)) hx hb dX0_layOut_30 (by first | decide | rfl) ?_
  refine lv_istore (lv' := [(4, .int (nI (0 + 1))), (0, .ref dd), (1, .int (nI f1)), (2, .int (nI f2)), (3, .int (nI f3))]) hx hb dX0_layOut_31 hl (by decide) rfl (fun ls hl => ?_)
  have loop33 : ∀ (n9 : Nat) (x : Nat) (su9 fa9 : Nat → Int32) (H : Heap) (locs : List Loc) (ls : Array Slot), x ≤ f1 → laid f2 f3 su9 fa9 (x * exN f2 * exN f3) → f1 + 1 ≤ x + n9 → va_P D vwCl ([(dd, .inr (1, [.ref s4, .ref f5, .int (nI (1 + 0 + 0)), .int (nI (x * exN f2 * exN f3))])), (s4, .inl (cs 0, 1728, .inl (su9))), (f5, .inl (cs 0, 1728, .inl (fa9)))] ++ tl) H → va_D A ([(dd, .inr (1, [.ref s4, .ref f5, .int (nI (1 + 0 + 0)), .int (nI (x * exN f2 * exN f3))])), (s4, .inl (cs 0, 1728, .inl (su9))), (f5, .inl (cs 0, 1728, .inl (fa9)))] ++ tl) → va_S A s.heap H locs → lv_has ls 7 [(0, .ref dd), (1, .int (nI f1)), (2, .int (nI f2)), (3, .int (nI f3)), (4, .int (nI (x + 1)))] → W p l e (rmL 4 0 0) s m [.ref dd, .int (nI f1), .int (nI f2), .int (nI f3)].toArray below meth c H locs (0) (0) Q (F0 m 33 ls []) := by
    intro n9
    induction n9 with
    | zero => intro x  su9 fa9  H locs ls hxa hL9 hf hP hD hS hl; exact absurd hf (by omega)
    | succ n9 ih33 =>
      intro x  su9 fa9  H locs ls hxa hL9 hf hP hD hS hl
      refine lv_iload hx hb dX0_layOut_33 (lv_at hl 4 rfl) ?_
      refine lv_iload_n hx hb dX0_layOut_35 rfl (lv_at hl 1 rfl) ?_
      refine lv_icmp_gt (tgt := 93) hx hb dX0_layOut_36 (by decide) (fun c_3 => ?_) (fun c_3 => ?_)
      · have hx9 : x = f1 := by have g := (nI_ltI (by omega) (by omega)).mp c_3; omega
        subst hx9
        exact wr_vret hQ hx hb hr hlocks hP hD hS (hpost _ _ hL9) dX0_layOut_93
      · have hx8 : x < f1 := by
          rcases Nat.lt_or_ge x f1 with q | q
          · exact q
          · exact absurd (nI_lt (by omega) (by omega)) c_3
        refine lv_iconst (v := nI 1) hx hb dX0_layOut_39 (by first | decide | rfl) ?_
        refine lv_iload_n hx hb dX0_layOut_40 rfl (lv_at hl 2 rfl) ?_
        refine va_mmin hx hb (hml.trans hl.1.symm) hown (hts (Cond.methodLink RX0 29 Lib.Math.min.name) mw_2_9) (hts (Cond.static Lib.Math.min.name) mw_2_10) (hts (Cond.initialized "java/lang/Math") mw_2_11) (hts (Cond.code Lib.Math.min.name Lib.Math.min.code 2 (some .int)) mw_2_12) (Nat.le_of_ble_eq_true rfl) (Nat.le_of_ble_eq_true rfl) (Nat.le_of_ble_eq_true rfl) (Nat.le_of_ble_eq_true rfl) dX0_layOut_41 ?_
        refine lv_rwi (y := nI (lbN f2 + 0)) (mn_lb (by omega)) ?_
        refine lv_istore (lv' := [(5, .int (nI (lbN f2 + 0))), (0, .ref dd), (1, .int (nI f1)), (2, .int (nI f2)), (3, .int (nI f3)), (4, .int (nI (x + 1)))]) hx hb dX0_layOut_44 hl (by decide) rfl (fun ls hl => ?_)
        have loop46 : ∀ (n9 : Nat) (y : Nat) (su8 fa8 : Nat → Int32) (H : Heap) (locs : List Loc) (ls : Array Slot), y ≤ exN f2 → laid f2 f3 su8 fa8 ((x * exN f2 + y) * exN f3) → exN f2 + 1 ≤ y + n9 → va_P D vwCl ([(dd, .inr (1, [.ref s4, .ref f5, .int (nI (1 + 0 + 0)), .int (nI ((x * exN f2 + y) * exN f3))])), (s4, .inl (cs 0, 1728, .inl (su8))), (f5, .inl (cs 0, 1728, .inl (fa8)))] ++ tl) H → va_D A ([(dd, .inr (1, [.ref s4, .ref f5, .int (nI (1 + 0 + 0)), .int (nI ((x * exN f2 + y) * exN f3))])), (s4, .inl (cs 0, 1728, .inl (su8))), (f5, .inl (cs 0, 1728, .inl (fa8)))] ++ tl) → va_S A s.heap H locs → lv_has ls 7 [(0, .ref dd), (1, .int (nI f1)), (2, .int (nI f2)), (3, .int (nI f3)), (4, .int (nI (x + 1))), (5, .int (nI (lbN f2 + y)))] → W p l e (rmL 4 0 0) s m [.ref dd, .int (nI f1), .int (nI f2), .int (nI f3)].toArray below meth c H locs (0) (0) Q (F0 m 46 ls []) := by
          intro n9
          induction n9 with
          | zero => intro y  su8 fa8  H locs ls hyb hL8 hf hP hD hS hl; exact absurd hf (by omega)
          | succ n9 ih46 =>
            intro y  su8 fa8  H locs ls hyb hL8 hf hP hD hS hl
            refine lv_iload hx hb dX0_layOut_46 (lv_at hl 5 rfl) ?_
            refine lv_iload_n hx hb dX0_layOut_48 rfl (lv_at hl 2 rfl) ?_
            refine lv_icmp_gt (tgt := 87) hx hb dX0_layOut_49 (by decide) (fun c_4 => ?_) (fun c_4 => ?_)
            · have hy9 : y = exN f2 := by have g := (nI_ltI (by omega) (by omega)).mp c_4; have := lb_ex f2; omega
              have eM : (x * exN f2 + y) * exN f3 = (x + 1) * exN f2 * exN f3 := by rw [hy9, Nat.add_mul x 1, Nat.one_mul]
              have hL9 : laid f2 f3 su8 fa8 ((x + 1) * exN f2 * exN f3) := eM ▸ hL8
              have g9 : ((x * exN f2 + y) * exN f3) = (x + 1) * exN f2 * exN f3 := eM
              have hP : va_P D vwCl ([(dd, .inr (1, [.ref s4, .ref f5, .int (nI (1 + 0 + 0)), .int (nI ((x + 1) * exN f2 * exN f3))])), (s4, .inl (cs 0, 1728, .inl (su8))), (f5, .inl (cs 0, 1728, .inl (fa8)))] ++ tl) H := Eq.mp (congrArg (fun n9 => va_P D vwCl ([(dd, .inr (1, [.ref s4, .ref f5, .int (nI (1 + 0 + 0)), .int (nI n9)])), (s4, .inl (cs 0, 1728, .inl (su8))), (f5, .inl (cs 0, 1728, .inl (fa8)))] ++ tl) H) g9) hP
              have hD : va_D _ ([(dd, .inr (1, [.ref s4, .ref f5, .int (nI (1 + 0 + 0)), .int (nI ((x + 1) * exN f2 * exN f3))])), (s4, .inl (cs 0, 1728, .inl (su8))), (f5, .inl (cs 0, 1728, .inl (fa8)))] ++ tl) := Eq.mp (congrArg (fun n9 => va_D _ ([(dd, .inr (1, [.ref s4, .ref f5, .int (nI (1 + 0 + 0)), .int (nI n9)])), (s4, .inl (cs 0, 1728, .inl (su8))), (f5, .inl (cs 0, 1728, .inl (fa8)))] ++ tl)) g9) hD
              refine lv_iinc (v := nI (x + 1 + 1)) (lv' := [(4, .int (nI (x + 1 + 1))), (0, .ref dd), (1, .int (nI f1)), (2, .int (nI f2)), (3, .int (nI f3)), (5, .int (nI (lbN f2 + y)))]) hx hb dX0_layOut_87 hl (k := 4) rfl (nI_1 _) (by decide) rfl (fun ls hl => ?_)
              refine lv_goto (tgt := 33) hx hb dX0_layOut_90 (by decide) ?_
              exact ih33 (x + 1) _ _ H _ ls (by omega) hL9 (by omega) hP hD hS (lv_sub hl [1, 2, 3, 4, 0] rfl)
            · have hy8 : y < exN f2 := by
                rcases Nat.lt_or_ge y (exN f2) with q | q
                · exact q
                · exact absurd (nI_lt (by have := lb_ex f2; omega) (by omega)) c_4
              refine lv_iconst (v := nI 1) hx hb dX0_layOut_52 (by first | decide | rfl) ?_
              refine lv_iload_n hx hb dX0_layOut_53 rfl (lv_at hl 3 rfl) ?_
              refine va_mmin hx hb (hml.trans hl.1.symm) hown (hts (Cond.methodLink RX0 29 Lib.Math.min.name) mw_2_9) (hts (Cond.static Lib.Math.min.name) mw_2_10) (hts (Cond.initialized "java/lang/Math") mw_2_11) (hts (Cond.code Lib.Math.min.name Lib.Math.min.code 2 (some .int)) mw_2_12) (Nat.le_of_ble_eq_true rfl) (Nat.le_of_ble_eq_true rfl) (Nat.le_of_ble_eq_true rfl) (Nat.le_of_ble_eq_true rfl) dX0_layOut_54 ?_
              refine lv_rwi (y := nI (lbN f3 + 0)) (mn_lb (by omega)) ?_
              refine lv_istore (lv' := [(6, .int (nI (lbN f3 + 0))), (0, .ref dd), (1, .int (nI f1)), (2, .int (nI f2)), (3, .int (nI f3)), (4, .int (nI (x + 1))), (5, .int (nI (lbN f2 + y)))]) hx hb dX0_layOut_57 hl (by decide) rfl (fun ls hl => ?_)
              have loop59 : ∀ (n9 : Nat) (z9 : Nat) (su7 fa7 : Nat → Int32) (H : Heap) (locs : List Loc) (ls : Array Slot), z9 ≤ exN f3 → laid f2 f3 su7 fa7 ((x * exN f2 + y) * exN f3 + z9) → exN f3 + 1 ≤ z9 + n9 → va_P D vwCl ([(dd, .inr (1, [.ref s4, .ref f5, .int (nI (1 + 0 + 0)), .int (nI ((x * exN f2 + y) * exN f3 + z9))])), (s4, .inl (cs 0, 1728, .inl (su7))), (f5, .inl (cs 0, 1728, .inl (fa7)))] ++ tl) H → va_D A ([(dd, .inr (1, [.ref s4, .ref f5, .int (nI (1 + 0 + 0)), .int (nI ((x * exN f2 + y) * exN f3 + z9))])), (s4, .inl (cs 0, 1728, .inl (su7))), (f5, .inl (cs 0, 1728, .inl (fa7)))] ++ tl) → va_S A s.heap H locs → lv_has ls 7 [(0, .ref dd), (1, .int (nI f1)), (2, .int (nI f2)), (3, .int (nI f3)), (4, .int (nI (x + 1))), (5, .int (nI (lbN f2 + y))), (6, .int (nI (lbN f3 + z9)))] → W p l e (rmL 4 0 0) s m [.ref dd, .int (nI f1), .int (nI f2), .int (nI f3)].toArray below meth c H locs (0) (0) Q (F0 m 59 ls []) := by
                intro n9
                induction n9 with
                | zero => intro z9  su7 fa7  H locs ls hzc hL7 hf hP hD hS hl; exact absurd hf (by omega)
                | succ n9 ih59 =>
                  intro z9  su7 fa7  H locs ls hzc hL7 hf hP hD hS hl
                  refine lv_iload hx hb dX0_layOut_59 (lv_at hl 6 rfl) ?_
                  refine lv_iload_n hx hb dX0_layOut_61 rfl (lv_at hl 3 rfl) ?_
                  refine lv_icmp_gt (tgt := 81) hx hb dX0_layOut_62 (by decide) (fun c_5 => ?_) (fun c_5 => ?_)
                  · have hz9 : z9 = exN f3 := by have g := (nI_ltI (by omega) (by omega)).mp c_5; have := lb_ex f3; omega
                    have eM : (x * exN f2 + y) * exN f3 + z9 = (x * exN f2 + (y + 1)) * exN f3 := by rw [hz9, ← Nat.add_assoc, Nat.add_mul (x * exN f2 + y) 1, Nat.one_mul]
                    have hL8 : laid f2 f3 su7 fa7 ((x * exN f2 + (y + 1)) * exN f3) := eM ▸ hL7
                    have g9 : ((x * exN f2 + y) * exN f3 + z9) = (x * exN f2 + (y + 1)) * exN f3 := eM
                    have hP : va_P D vwCl ([(dd, .inr (1, [.ref s4, .ref f5, .int (nI (1 + 0 + 0)), .int (nI ((x * exN f2 + (y + 1)) * exN f3))])), (s4, .inl (cs 0, 1728, .inl (su7))), (f5, .inl (cs 0, 1728, .inl (fa7)))] ++ tl) H := Eq.mp (congrArg (fun n9 => va_P D vwCl ([(dd, .inr (1, [.ref s4, .ref f5, .int (nI (1 + 0 + 0)), .int (nI n9)])), (s4, .inl (cs 0, 1728, .inl (su7))), (f5, .inl (cs 0, 1728, .inl (fa7)))] ++ tl) H) g9) hP
                    have hD : va_D _ ([(dd, .inr (1, [.ref s4, .ref f5, .int (nI (1 + 0 + 0)), .int (nI ((x * exN f2 + (y + 1)) * exN f3))])), (s4, .inl (cs 0, 1728, .inl (su7))), (f5, .inl (cs 0, 1728, .inl (fa7)))] ++ tl) := Eq.mp (congrArg (fun n9 => va_D _ ([(dd, .inr (1, [.ref s4, .ref f5, .int (nI (1 + 0 + 0)), .int (nI n9)])), (s4, .inl (cs 0, 1728, .inl (su7))), (f5, .inl (cs 0, 1728, .inl (fa7)))] ++ tl)) g9) hD
                    refine lv_iinc (v := nI (lbN f2 + (y + 1))) (lv' := [(5, .int (nI (lbN f2 + (y + 1)))), (0, .ref dd), (1, .int (nI f1)), (2, .int (nI f2)), (3, .int (nI f3)), (4, .int (nI (x + 1))), (6, .int (nI (lbN f3 + z9)))]) hx hb dX0_layOut_81 hl (k := 5) rfl (nI_1 _) (by decide) rfl (fun ls hl => ?_)
                    refine lv_goto (tgt := 46) hx hb dX0_layOut_84 (by decide) ?_
                    exact ih46 (y + 1) _ _ H _ ls (by omega) hL8 (by omega) hP hD hS (lv_sub hl [1, 2, 3, 4, 5, 0] rfl)
                  · have hz8 : z9 < exN f3 := by
                      rcases Nat.lt_or_ge z9 (exN f3) with q | q
                      · exact q
                      · exact absurd (nI_lt (by have := lb_ex f3; omega) (by omega)) c_5
                    refine lv_aload_n hx hb dX0_layOut_65 rfl (lv_at hl 0 rfl) ?_
                    refine lv_iload hx hb dX0_layOut_66 (lv_at hl 4 rfl) ?_
                    refine lv_iload hx hb dX0_layOut_68 (lv_at hl 5 rfl) ?_
                    refine lv_iload hx hb dX0_layOut_70 (lv_at hl 6 rfl) ?_
                    have hP : va_P D vwCl ([(dd, .inr (1, [.ref s4, .ref f5, .int (nI (1 + 0 + 0)), .int (nI ((x * exN f2 + y) * exN f3 + z9))])), (s4, .inl (cs 0, 1728, .inl (su7))), (f5, .inl (cs 0, 1728, .inl (fa7)))] ++ tl) H := hP
                    have hD : va_D _ ([(dd, .inr (1, [.ref s4, .ref f5, .int (nI (1 + 0 + 0)), .int (nI ((x * exN f2 + y) * exN f3 + z9))])), (s4, .inl (cs 0, 1728, .inl (su7))), (f5, .inl (cs 0, 1728, .inl (fa7)))] ++ tl) := hD
                    refine wtV (As := [.int (nI (x + 1)), .int (nI (lbN f2 + y)), .int (nI (lbN f3 + z9))]) (rest := []) (b := dd) ⟨hx, hb, hml, hown, hts⟩ hT hK 3 (k_addOutcome l D cs z mi H (x + 1) (lbN f2 + y) (lbN f3 + z9) (Nat.lt_of_lt_of_le (lay_lt hx8 hy8 hz8) hNN) (fun ov w1 => ov = none ∧ w1 = [(dd, .inr (1, [.ref s4, .ref f5, .int (nI (1 + 0 + 0)), .int (nI (((x * exN f2 + y) * exN f3 + z9) + 1))])), (s4, .inl (cs 0, 1728, .inl ((upd su7 (((x * exN f2 + y) * exN f3 + z9)) (nI ((x + 1) + (lbN f2 + y) + (lbN f3 + z9))))))), (f5, .inl (cs 0, 1728, .inl ((upd fa7 (((x * exN f2 + y) * exN f3 + z9)) (bitX (nI (x + 1)) ||| bitX (nI (lbN f2 + y)) ||| bitX (nI (lbN f3 + z9)))))))] ++ tl) ⟨rfl, rfl⟩ hP (hD.weaken (fun _ _ _ _ => trivial))) (gin_v mw_2_13 mw_2_14 mw_2_15 mw_1_13 mw_2_16) (by decide +kernel) ⟨Nat.le_of_ble_eq_true rfl, Nat.le_of_ble_eq_true rfl⟩ (va_recv hK hP (ci := 1) (q0 := 0) rfl rfl) rfl hl.1 rfl (Nat.le_of_ble_eq_true rfl) dX0_layOut_72 ⟨(Nat.le_of_ble_eq_true rfl), (Nat.le_of_ble_eq_true rfl)⟩ hD hS hA (fun ov9 w9 H locs hp9 hP hD hS => ?_)
                    obtain ⟨rfl, rfl⟩ := hp9
                    have hP : va_P D vwCl ([(dd, .inr (1, [.ref s4, .ref f5, .int (nI (1 + 0 + 0)), .int (nI (((x * exN f2 + y) * exN f3 + z9) + 1))])), (s4, .inl (cs 0, 1728, .inl ((upd su7 (((x * exN f2 + y) * exN f3 + z9)) (nI ((x + 1) + (lbN f2 + y) + (lbN f3 + z9))))))), (f5, .inl (cs 0, 1728, .inl ((upd fa7 (((x * exN f2 + y) * exN f3 + z9)) (bitX (nI (x + 1)) ||| bitX (nI (lbN f2 + y)) ||| bitX (nI (lbN f3 + z9)))))))] ++ tl) H := hP
                    have hD : va_D _ ([(dd, .inr (1, [.ref s4, .ref f5, .int (nI (1 + 0 + 0)), .int (nI (((x * exN f2 + y) * exN f3 + z9) + 1))])), (s4, .inl (cs 0, 1728, .inl ((upd su7 (((x * exN f2 + y) * exN f3 + z9)) (nI ((x + 1) + (lbN f2 + y) + (lbN f3 + z9))))))), (f5, .inl (cs 0, 1728, .inl ((upd fa7 (((x * exN f2 + y) * exN f3 + z9)) (bitX (nI (x + 1)) ||| bitX (nI (lbN f2 + y)) ||| bitX (nI (lbN f3 + z9)))))))] ++ tl) := hD
                    refine W.eq (g2 := F0 m 75 ls []) rfl ?_
                    refine lv_iinc (v := nI (lbN f3 + (z9 + 1))) (lv' := [(6, .int (nI (lbN f3 + (z9 + 1)))), (0, .ref dd), (1, .int (nI f1)), (2, .int (nI f2)), (3, .int (nI f3)), (4, .int (nI (x + 1))), (5, .int (nI (lbN f2 + y)))]) hx hb dX0_layOut_75 hl (k := 6) rfl (nI_1 _) (by decide) rfl (fun ls hl => ?_)
                    refine lv_goto (tgt := 59) hx hb dX0_layOut_78 (by decide) ?_
                    exact ih59 (z9 + 1) _ _ H _ ls (by omega) (laid_s hL7 rfl hy8 hz8) (by omega) hP hD hS (lv_sub hl [1, 2, 3, 4, 5, 6, 0] rfl)
              exact loop59 (exN f3 + 1) 0 _ _ H _ ls (Nat.zero_le _) hL8 (by omega) hP hD hS (lv_sub hl [1, 2, 3, 4, 5, 6, 0] rfl)
        exact loop46 (exN f2 + 1) 0 _ _ H _ ls (Nat.zero_le _) hL9 (by omega) hP hD hS (lv_sub hl [1, 2, 3, 4, 5, 0] rfl)
  have g9 : 0 = 0 * exN f2 * exN f3 := by rw [Nat.zero_mul, Nat.zero_mul]
  have hP : va_P D vwCl ([(dd, .inr (1, [.ref s4, .ref f5, .int (nI (1 + 0 + 0)), .int (nI (0 * exN f2 * exN f3))])), (s4, .inl (cs 0, 1728, .inl (su))), (f5, .inl (cs 0, 1728, .inl (fa)))] ++ tl) H := Eq.mp (congrArg (fun n9 => va_P D vwCl ([(dd, .inr (1, [.ref s4, .ref f5, .int (nI (1 + 0 + 0)), .int (nI n9)])), (s4, .inl (cs 0, 1728, .inl (su))), (f5, .inl (cs 0, 1728, .inl (fa)))] ++ tl) H) g9) hP
  have hD : va_D _ ([(dd, .inr (1, [.ref s4, .ref f5, .int (nI (1 + 0 + 0)), .int (nI (0 * exN f2 * exN f3))])), (s4, .inl (cs 0, 1728, .inl (su))), (f5, .inl (cs 0, 1728, .inl (fa)))] ++ tl) := Eq.mp (congrArg (fun n9 => va_D _ ([(dd, .inr (1, [.ref s4, .ref f5, .int (nI (1 + 0 + 0)), .int (nI n9)])), (s4, .inl (cs 0, 1728, .inl (su))), (f5, .inl (cs 0, 1728, .inl (fa)))] ++ tl)) g9) hD
  exact loop33 (f1 + 1) 0 _ _ H _ ls (Nat.zero_le _) (by rw [Nat.zero_mul, Nat.zero_mul]; exact laid_0 _ _ _ _) (by omega) hP hD hS (lv_sub hl [1, 2, 3, 4, 0] rfl)
set_option maxHeartbeats 4000000 in
set_option maxRecDepth 100000 in
theorem k_layOut2 (l : Launch) (D : va_G) (cs : Nat → ClassId) (z mi : Nat) (H : Heap)  {dd s4 f5 : Nat} {cnt : Int32} {N : Nat} {su fa : Nat → Int32} (f1 f2 f3 : Nat) (h1 : f1 ≤ 12) (h2 : f2 ≤ 12) (h3 : f3 ≤ 12) (hf2 : 0 < f2) (hf3 : f3 = 0) (hNN : f1 * exN f2 * exN f3 ≤ 1728) {tl : va_W} (post : Option Value → va_W → Prop) (hpost : ∀ su9 fa9 : Nat → Int32, laid f2 f3 su9 fa9 (f1 * exN f2 * exN f3) → post none ([(dd, .inr (1, [.ref s4, .ref f5, .int (nI (1 + 1 + 0)), .int (nI (f1 * exN f2 * exN f3))])), (s4, .inl (cs 0, 1728, .inl (su9))), (f5, .inl (cs 0, 1728, .inl (fa9)))] ++ tl)) (hP : va_P D vwCl ([(dd, .inr (1, [.ref s4, .ref f5, .int cnt, .int (nI N)])), (s4, .inl (cs 0, 1728, .inl (su))), (f5, .inl (cs 0, 1728, .inl (fa)))] ++ tl) H) (hD : va_D (fun _ => True) ([(dd, .inr (1, [.ref s4, .ref f5, .int cnt, .int (nI N)])), (s4, .inl (cs 0, 1728, .inl (su))), (f5, .inl (cs 0, 1728, .inl (fa)))] ++ tl)) : Ws z mi l D cs 4 0 0 yX0_layOut cX0_layOut 7 none ([(dd, .inr (1, [.ref s4, .ref f5, .int cnt, .int (nI N)])), (s4, .inl (cs 0, 1728, .inl (su))), (f5, .inl (cs 0, 1728, .inl (fa)))] ++ tl) H [.ref dd, .int (nI f1), .int (nI f2), .int (nI f3)] post := by
  refine ws_ent (by decide) (Nat.le_of_ble_eq_true rfl) hP hD ?_
  clear hP hD H
  intro p e s m below meth c ls A Q H hx hb hr hml hown hts hlocks hin hl hK hQ hA hH hT hP hD hS
  clear hH
  have hl : lv_has ls 7 [(0, .ref dd), (1, .int (nI f1)), (2, .int (nI f2)), (3, .int (nI f3))] := hl
  have hl2 := lb_le f2
  have hl3 := lb_le f3
  have he2 := ex_le h2
  have he3 := ex_le h3
  refine lv_aload_n hx hb dX0_layOut_0 rfl (lv_at hl 0 rfl) ?_
  refine lv_iconst (v := 1) hx hb dX0_layOut_1 (by first | decide | rfl) ?_
  refine lv_iload_n hx hb dX0_layOut_2 rfl (lv_at hl 2 rfl) ?_
  refine lv_if_le (tgt := 10) hx hb dX0_layOut_3 (by decide) (fun c_1 => False.elim (absurd c_1 (nI_nle hf2 (by omega)))) (fun c_1 => ?_)
  refine lv_iconst (v := nI 1) hx hb dX0_layOut_6 (by first | decide | rfl) ?_
  refine lv_goto (tgt := 11) hx hb dX0_layOut_7 (by decide) ?_
  refine lv_iadd hx hb dX0_layOut_11 ?_
  refine lv_rwi (y := nI (1 + 1)) (nI_add _ _) ?_
  refine lv_iload_n hx hb dX0_layOut_12 rfl (lv_at hl 3 rfl) ?_
  refine lv_if_le (tgt := 20) hx hb dX0_layOut_13 (by decide) (fun c_2 => ?_) (fun c_2 => False.elim (c_2 (by rw [hf3]; decide)))
  refine lv_iconst (v := nI 0) hx hb dX0_layOut_20 (by first | decide | rfl) ?_
  refine lv_iadd hx hb dX0_layOut_21 ?_
  refine lv_rwi (y := nI (1 + 1 + 0)) (nI_add _ _) ?_
  refine va_put (D := D) (ci := 1) (v := .int (nI (1 + 1 + 0))) (ty := .int) (C := RX0) (T := TX0) (N := 4) hx hb hts inlX0 tyX0 tyX0_ok nmX0 hown hK hP hD hS 0 rfl rfl 2 (by decide) (hts (Cond.fieldLink RX0 22 "TavernDice$Dice" "count" "I") mw_2_7) (fun _ h9 => h9) rfl (by decide +kernel) rfl rfl (Nat.le_of_ble_eq_true rfl) dX0_layOut_22 (fun H locs hP hD hS => ?_)
  have hP : va_P D vwCl ([(dd, .inr (1, [.ref s4, .ref f5, .int (nI (1 + 1 + 0)), .int (nI N)])), (s4, .inl (cs 0, 1728, .inl (su))), (f5, .inl (cs 0, 1728, .inl (fa)))] ++ tl) H := hP
  have hD : va_D _ ([(dd, .inr (1, [.ref s4, .ref f5, .int (nI (1 + 1 + 0)), .int (nI N)])), (s4, .inl (cs 0, 1728, .inl (su))), (f5, .inl (cs 0, 1728, .inl (fa)))] ++ tl) := hD
  refine lv_aload_n hx hb dX0_layOut_25 rfl (lv_at hl 0 rfl) ?_
  refine lv_iconst (v := nI 0) hx hb dX0_layOut_26 (by first | decide | rfl) ?_
  refine va_put (D := D) (ci := 1) (v := .int (nI 0)) (ty := .int) (C := RX0) (T := TX0) (N := 4) hx hb hts inlX0 tyX0 tyX0_ok nmX0 hown hK hP hD hS 0 rfl rfl 3 (by decide) (hts (Cond.fieldLink RX0 26 "TavernDice$Dice" "outcomes" "I") mw_2_8) (fun _ h9 => h9) rfl (by decide +kernel) rfl rfl (Nat.le_of_ble_eq_true rfl) dX0_layOut_27 (fun H locs hP hD hS => ?_)
  have hP : va_P D vwCl ([(dd, .inr (1, [.ref s4, .ref f5, .int (nI (1 + 1 + 0)), .int (nI 0)])), (s4, .inl (cs 0, 1728, .inl (su))), (f5, .inl (cs 0, 1728, .inl (fa)))] ++ tl) H := hP
  have hD : va_D _ ([(dd, .inr (1, [.ref s4, .ref f5, .int (nI (1 + 1 + 0)), .int (nI 0)])), (s4, .inl (cs 0, 1728, .inl (su))), (f5, .inl (cs 0, 1728, .inl (fa)))] ++ tl) := hD
  refine lv_iconst (v := nI (0 + 1)) hx hb dX0_layOut_30 (by first | decide | rfl) ?_
  refine lv_istore (lv' := [(4, .int (nI (0 + 1))), (0, .ref dd), (1, .int (nI f1)), (2, .int (nI f2)), (3, .int (nI f3))]) hx hb dX0_layOut_31 hl (by decide) rfl (fun ls hl => ?_)
  have loop33 : ∀ (n9 : Nat) (x : Nat) (su9 fa9 : Nat → Int32) (H : Heap) (locs : List Loc) (ls : Array Slot), x ≤ f1 → laid f2 f3 su9 fa9 (x * exN f2 * exN f3) → f1 + 1 ≤ x + n9 → va_P D vwCl ([(dd, .inr (1, [.ref s4, .ref f5, .int (nI (1 + 1 + 0)), .int (nI (x * exN f2 * exN f3))])), (s4, .inl (cs 0, 1728, .inl (su9))), (f5, .inl (cs 0, 1728, .inl (fa9)))] ++ tl) H → va_D A ([(dd, .inr (1, [.ref s4, .ref f5, .int (nI (1 + 1 + 0)), .int (nI (x * exN f2 * exN f3))])), (s4, .inl (cs 0, 1728, .inl (su9))), (f5, .inl (cs 0, 1728, .inl (fa9)))] ++ tl) → va_S A s.heap H locs → lv_has ls 7 [(0, .ref dd), (1, .int (nI f1)), (2, .int (nI f2)), (3, .int (nI f3)), (4, .int (nI (x + 1)))] → W p l e (rmL 4 0 0) s m [.ref dd, .int (nI f1), .int (nI f2), .int (nI f3)].toArray below meth c H locs (0) (0) Q (F0 m 33 ls []) := by
    intro n9
    induction n9 with
    | zero => intro x  su9 fa9  H locs ls hxa hL9 hf hP hD hS hl; exact absurd hf (by omega)
    | succ n9 ih33 =>
      intro x  su9 fa9  H locs ls hxa hL9 hf hP hD hS hl
      refine lv_iload hx hb dX0_layOut_33 (lv_at hl 4 rfl) ?_
      refine lv_iload_n hx hb dX0_layOut_35 rfl (lv_at hl 1 rfl) ?_
      refine lv_icmp_gt (tgt := 93) hx hb dX0_layOut_36 (by decide) (fun c_3 => ?_) (fun c_3 => ?_)
      · have hx9 : x = f1 := by have g := (nI_ltI (by omega) (by omega)).mp c_3; omega
        subst hx9
        exact wr_vret hQ hx hb hr hlocks hP hD hS (hpost _ _ hL9) dX0_layOut_93
      · have hx8 : x < f1 := by
          rcases Nat.lt_or_ge x f1 with q | q
          · exact q
          · exact absurd (nI_lt (by omega) (by omega)) c_3
        refine lv_iconst (v := nI 1) hx hb dX0_layOut_39 (by first | decide | rfl) ?_
        refine lv_iload_n hx hb dX0_layOut_40 rfl (lv_at hl 2 rfl) ?_
        refine va_mmin hx hb (hml.trans hl.1.symm) hown (hts (Cond.methodLink RX0 29 Lib.Math.min.name) mw_2_9) (hts (Cond.static Lib.Math.min.name) mw_2_10) (hts (Cond.initialized "java/lang/Math") mw_2_11) (hts (Cond.code Lib.Math.min.name Lib.Math.min.code 2 (some .int)) mw_2_12) (Nat.le_of_ble_eq_true rfl) (Nat.le_of_ble_eq_true rfl) (Nat.le_of_ble_eq_true rfl) (Nat.le_of_ble_eq_true rfl) dX0_layOut_41 ?_
        refine lv_rwi (y := nI (lbN f2 + 0)) (mn_lb (by omega)) ?_
        refine lv_istore (lv' := [(5, .int (nI (lbN f2 + 0))), (0, .ref dd), (1, .int (nI f1)), (2, .int (nI f2)), (3, .int (nI f3)), (4, .int (nI (x + 1)))]) hx hb dX0_layOut_44 hl (by decide) rfl (fun ls hl => ?_)
        have loop46 : ∀ (n9 : Nat) (y : Nat) (su8 fa8 : Nat → Int32) (H : Heap) (locs : List Loc) (ls : Array Slot), y ≤ exN f2 → laid f2 f3 su8 fa8 ((x * exN f2 + y) * exN f3) → exN f2 + 1 ≤ y + n9 → va_P D vwCl ([(dd, .inr (1, [.ref s4, .ref f5, .int (nI (1 + 1 + 0)), .int (nI ((x * exN f2 + y) * exN f3))])), (s4, .inl (cs 0, 1728, .inl (su8))), (f5, .inl (cs 0, 1728, .inl (fa8)))] ++ tl) H → va_D A ([(dd, .inr (1, [.ref s4, .ref f5, .int (nI (1 + 1 + 0)), .int (nI ((x * exN f2 + y) * exN f3))])), (s4, .inl (cs 0, 1728, .inl (su8))), (f5, .inl (cs 0, 1728, .inl (fa8)))] ++ tl) → va_S A s.heap H locs → lv_has ls 7 [(0, .ref dd), (1, .int (nI f1)), (2, .int (nI f2)), (3, .int (nI f3)), (4, .int (nI (x + 1))), (5, .int (nI (lbN f2 + y)))] → W p l e (rmL 4 0 0) s m [.ref dd, .int (nI f1), .int (nI f2), .int (nI f3)].toArray below meth c H locs (0) (0) Q (F0 m 46 ls []) := by
          intro n9
          induction n9 with
          | zero => intro y  su8 fa8  H locs ls hyb hL8 hf hP hD hS hl; exact absurd hf (by omega)
          | succ n9 ih46 =>
            intro y  su8 fa8  H locs ls hyb hL8 hf hP hD hS hl
            refine lv_iload hx hb dX0_layOut_46 (lv_at hl 5 rfl) ?_
            refine lv_iload_n hx hb dX0_layOut_48 rfl (lv_at hl 2 rfl) ?_
            refine lv_icmp_gt (tgt := 87) hx hb dX0_layOut_49 (by decide) (fun c_4 => ?_) (fun c_4 => ?_)
            · have hy9 : y = exN f2 := by have g := (nI_ltI (by omega) (by omega)).mp c_4; have := lb_ex f2; omega
              have eM : (x * exN f2 + y) * exN f3 = (x + 1) * exN f2 * exN f3 := by rw [hy9, Nat.add_mul x 1, Nat.one_mul]
              have hL9 : laid f2 f3 su8 fa8 ((x + 1) * exN f2 * exN f3) := eM ▸ hL8
              have g9 : ((x * exN f2 + y) * exN f3) = (x + 1) * exN f2 * exN f3 := eM
              have hP : va_P D vwCl ([(dd, .inr (1, [.ref s4, .ref f5, .int (nI (1 + 1 + 0)), .int (nI ((x + 1) * exN f2 * exN f3))])), (s4, .inl (cs 0, 1728, .inl (su8))), (f5, .inl (cs 0, 1728, .inl (fa8)))] ++ tl) H := Eq.mp (congrArg (fun n9 => va_P D vwCl ([(dd, .inr (1, [.ref s4, .ref f5, .int (nI (1 + 1 + 0)), .int (nI n9)])), (s4, .inl (cs 0, 1728, .inl (su8))), (f5, .inl (cs 0, 1728, .inl (fa8)))] ++ tl) H) g9) hP
              have hD : va_D _ ([(dd, .inr (1, [.ref s4, .ref f5, .int (nI (1 + 1 + 0)), .int (nI ((x + 1) * exN f2 * exN f3))])), (s4, .inl (cs 0, 1728, .inl (su8))), (f5, .inl (cs 0, 1728, .inl (fa8)))] ++ tl) := Eq.mp (congrArg (fun n9 => va_D _ ([(dd, .inr (1, [.ref s4, .ref f5, .int (nI (1 + 1 + 0)), .int (nI n9)])), (s4, .inl (cs 0, 1728, .inl (su8))), (f5, .inl (cs 0, 1728, .inl (fa8)))] ++ tl)) g9) hD
              refine lv_iinc (v := nI (x + 1 + 1)) (lv' := [(4, .int (nI (x + 1 + 1))), (0, .ref dd), (1, .int (nI f1)), (2, .int (nI f2)), (3, .int (nI f3)), (5, .int (nI (lbN f2 + y)))]) hx hb dX0_layOut_87 hl (k := 4) rfl (nI_1 _) (by decide) rfl (fun ls hl => ?_)
              refine lv_goto (tgt := 33) hx hb dX0_layOut_90 (by decide) ?_
              exact ih33 (x + 1) _ _ H _ ls (by omega) hL9 (by omega) hP hD hS (lv_sub hl [1, 2, 3, 4, 0] rfl)
            · have hy8 : y < exN f2 := by
                rcases Nat.lt_or_ge y (exN f2) with q | q
                · exact q
                · exact absurd (nI_lt (by have := lb_ex f2; omega) (by omega)) c_4
              refine lv_iconst (v := nI 1) hx hb dX0_layOut_52 (by first | decide | rfl) ?_
              refine lv_iload_n hx hb dX0_layOut_53 rfl (lv_at hl 3 rfl) ?_
              refine va_mmin hx hb (hml.trans hl.1.symm) hown (hts (Cond.methodLink RX0 29 Lib.Math.min.name) mw_2_9) (hts (Cond.static Lib.Math.min.name) mw_2_10) (hts (Cond.initialized "java/lang/Math") mw_2_11) (hts (Cond.code Lib.Math.min.name Lib.Math.min.code 2 (some .int)) mw_2_12) (Nat.le_of_ble_eq_true rfl) (Nat.le_of_ble_eq_true rfl) (Nat.le_of_ble_eq_true rfl) (Nat.le_of_ble_eq_true rfl) dX0_layOut_54 ?_
              refine lv_rwi (y := nI (lbN f3 + 0)) (mn_lb (by omega)) ?_
              refine lv_istore (lv' := [(6, .int (nI (lbN f3 + 0))), (0, .ref dd), (1, .int (nI f1)), (2, .int (nI f2)), (3, .int (nI f3)), (4, .int (nI (x + 1))), (5, .int (nI (lbN f2 + y)))]) hx hb dX0_layOut_57 hl (by decide) rfl (fun ls hl => ?_)
              have loop59 : ∀ (n9 : Nat) (z9 : Nat) (su7 fa7 : Nat → Int32) (H : Heap) (locs : List Loc) (ls : Array Slot), z9 ≤ exN f3 → laid f2 f3 su7 fa7 ((x * exN f2 + y) * exN f3 + z9) → exN f3 + 1 ≤ z9 + n9 → va_P D vwCl ([(dd, .inr (1, [.ref s4, .ref f5, .int (nI (1 + 1 + 0)), .int (nI ((x * exN f2 + y) * exN f3 + z9))])), (s4, .inl (cs 0, 1728, .inl (su7))), (f5, .inl (cs 0, 1728, .inl (fa7)))] ++ tl) H → va_D A ([(dd, .inr (1, [.ref s4, .ref f5, .int (nI (1 + 1 + 0)), .int (nI ((x * exN f2 + y) * exN f3 + z9))])), (s4, .inl (cs 0, 1728, .inl (su7))), (f5, .inl (cs 0, 1728, .inl (fa7)))] ++ tl) → va_S A s.heap H locs → lv_has ls 7 [(0, .ref dd), (1, .int (nI f1)), (2, .int (nI f2)), (3, .int (nI f3)), (4, .int (nI (x + 1))), (5, .int (nI (lbN f2 + y))), (6, .int (nI (lbN f3 + z9)))] → W p l e (rmL 4 0 0) s m [.ref dd, .int (nI f1), .int (nI f2), .int (nI f3)].toArray below meth c H locs (0) (0) Q (F0 m 59 ls []) := by
                intro n9
                induction n9 with
                | zero => intro z9  su7 fa7  H locs ls hzc hL7 hf hP hD hS hl; exact absurd hf (by omega)
                | succ n9 ih59 =>
                  intro z9  su7 fa7  H locs ls hzc hL7 hf hP hD hS hl
                  refine lv_iload hx hb dX0_layOut_59 (lv_at hl 6 rfl) ?_
                  refine lv_iload_n hx hb dX0_layOut_61 rfl (lv_at hl 3 rfl) ?_
                  refine lv_icmp_gt (tgt := 81) hx hb dX0_layOut_62 (by decide) (fun c_5 => ?_) (fun c_5 => ?_)
                  · have hz9 : z9 = exN f3 := by have g := (nI_ltI (by omega) (by omega)).mp c_5; have := lb_ex f3; omega
                    have eM : (x * exN f2 + y) * exN f3 + z9 = (x * exN f2 + (y + 1)) * exN f3 := by rw [hz9, ← Nat.add_assoc, Nat.add_mul (x * exN f2 + y) 1, Nat.one_mul]
                    have hL8 : laid f2 f3 su7 fa7 ((x * exN f2 + (y + 1)) * exN f3) := eM ▸ hL7
                    have g9 : ((x * exN f2 + y) * exN f3 + z9) = (x * exN f2 + (y + 1)) * exN f3 := eM
                    have hP : va_P D vwCl ([(dd, .inr (1, [.ref s4, .ref f5, .int (nI (1 + 1 + 0)), .int (nI ((x * exN f2 + (y + 1)) * exN f3))])), (s4, .inl (cs 0, 1728, .inl (su7))), (f5, .inl (cs 0, 1728, .inl (fa7)))] ++ tl) H := Eq.mp (congrArg (fun n9 => va_P D vwCl ([(dd, .inr (1, [.ref s4, .ref f5, .int (nI (1 + 1 + 0)), .int (nI n9)])), (s4, .inl (cs 0, 1728, .inl (su7))), (f5, .inl (cs 0, 1728, .inl (fa7)))] ++ tl) H) g9) hP
                    have hD : va_D _ ([(dd, .inr (1, [.ref s4, .ref f5, .int (nI (1 + 1 + 0)), .int (nI ((x * exN f2 + (y + 1)) * exN f3))])), (s4, .inl (cs 0, 1728, .inl (su7))), (f5, .inl (cs 0, 1728, .inl (fa7)))] ++ tl) := Eq.mp (congrArg (fun n9 => va_D _ ([(dd, .inr (1, [.ref s4, .ref f5, .int (nI (1 + 1 + 0)), .int (nI n9)])), (s4, .inl (cs 0, 1728, .inl (su7))), (f5, .inl (cs 0, 1728, .inl (fa7)))] ++ tl)) g9) hD
                    refine lv_iinc (v := nI (lbN f2 + (y + 1))) (lv' := [(5, .int (nI (lbN f2 + (y + 1)))), (0, .ref dd), (1, .int (nI f1)), (2, .int (nI f2)), (3, .int (nI f3)), (4, .int (nI (x + 1))), (6, .int (nI (lbN f3 + z9)))]) hx hb dX0_layOut_81 hl (k := 5) rfl (nI_1 _) (by decide) rfl (fun ls hl => ?_)
                    refine lv_goto (tgt := 46) hx hb dX0_layOut_84 (by decide) ?_
                    exact ih46 (y + 1) _ _ H _ ls (by omega) hL8 (by omega) hP hD hS (lv_sub hl [1, 2, 3, 4, 5, 0] rfl)
                  · have hz8 : z9 < exN f3 := by
                      rcases Nat.lt_or_ge z9 (exN f3) with q | q
                      · exact q
                      · exact absurd (nI_lt (by have := lb_ex f3; omega) (by omega)) c_5
                    refine lv_aload_n hx hb dX0_layOut_65 rfl (lv_at hl 0 rfl) ?_
                    refine lv_iload hx hb dX0_layOut_66 (lv_at hl 4 rfl) ?_
                    refine lv_iload hx hb dX0_layOut_68 (lv_at hl 5 rfl) ?_
                    refine lv_iload hx hb dX0_layOut_70 (lv_at hl 6 rfl) ?_
                    have hP : va_P D vwCl ([(dd, .inr (1, [.ref s4, .ref f5, .int (nI (1 + 1 + 0)), .int (nI ((x * exN f2 + y) * exN f3 + z9))])), (s4, .inl (cs 0, 1728, .inl (su7))), (f5, .inl (cs 0, 1728, .inl (fa7)))] ++ tl) H := hP
                    have hD : va_D _ ([(dd, .inr (1, [.ref s4, .ref f5, .int (nI (1 + 1 + 0)), .int (nI ((x * exN f2 + y) * exN f3 + z9))])), (s4, .inl (cs 0, 1728, .inl (su7))), (f5, .inl (cs 0, 1728, .inl (fa7)))] ++ tl) := hD
                    refine wtV (As := [.int (nI (x + 1)), .int (nI (lbN f2 + y)), .int (nI (lbN f3 + z9))]) (rest := []) (b := dd) ⟨hx, hb, hml, hown, hts⟩ hT hK 3 (k_addOutcome l D cs z mi H (x + 1) (lbN f2 + y) (lbN f3 + z9) (Nat.lt_of_lt_of_le (lay_lt hx8 hy8 hz8) hNN) (fun ov w1 => ov = none ∧ w1 = [(dd, .inr (1, [.ref s4, .ref f5, .int (nI (1 + 1 + 0)), .int (nI (((x * exN f2 + y) * exN f3 + z9) + 1))])), (s4, .inl (cs 0, 1728, .inl ((upd su7 (((x * exN f2 + y) * exN f3 + z9)) (nI ((x + 1) + (lbN f2 + y) + (lbN f3 + z9))))))), (f5, .inl (cs 0, 1728, .inl ((upd fa7 (((x * exN f2 + y) * exN f3 + z9)) (bitX (nI (x + 1)) ||| bitX (nI (lbN f2 + y)) ||| bitX (nI (lbN f3 + z9)))))))] ++ tl) ⟨rfl, rfl⟩ hP (hD.weaken (fun _ _ _ _ => trivial))) (gin_v mw_2_13 mw_2_14 mw_2_15 mw_1_13 mw_2_16) (by decide +kernel) ⟨Nat.le_of_ble_eq_true rfl, Nat.le_of_ble_eq_true rfl⟩ (va_recv hK hP (ci := 1) (q0 := 0) rfl rfl) rfl hl.1 rfl (Nat.le_of_ble_eq_true rfl) dX0_layOut_72 ⟨(Nat.le_of_ble_eq_true rfl), (Nat.le_of_ble_eq_true rfl)⟩ hD hS hA (fun ov9 w9 H locs hp9 hP hD hS => ?_)
                    obtain ⟨rfl, rfl⟩ := hp9
                    have hP : va_P D vwCl ([(dd, .inr (1, [.ref s4, .ref f5, .int (nI (1 + 1 + 0)), .int (nI (((x * exN f2 + y) * exN f3 + z9) + 1))])), (s4, .inl (cs 0, 1728, .inl ((upd su7 (((x * exN f2 + y) * exN f3 + z9)) (nI ((x + 1) + (lbN f2 + y) + (lbN f3 + z9))))))), (f5, .inl (cs 0, 1728, .inl ((upd fa7 (((x * exN f2 + y) * exN f3 + z9)) (bitX (nI (x + 1)) ||| bitX (nI (lbN f2 + y)) ||| bitX (nI (lbN f3 + z9)))))))] ++ tl) H := hP
                    have hD : va_D _ ([(dd, .inr (1, [.ref s4, .ref f5, .int (nI (1 + 1 + 0)), .int (nI (((x * exN f2 + y) * exN f3 + z9) + 1))])), (s4, .inl (cs 0, 1728, .inl ((upd su7 (((x * exN f2 + y) * exN f3 + z9)) (nI ((x + 1) + (lbN f2 + y) + (lbN f3 + z9))))))), (f5, .inl (cs 0, 1728, .inl ((upd fa7 (((x * exN f2 + y) * exN f3 + z9)) (bitX (nI (x + 1)) ||| bitX (nI (lbN f2 + y)) ||| bitX (nI (lbN f3 + z9)))))))] ++ tl) := hD
                    refine W.eq (g2 := F0 m 75 ls []) rfl ?_
                    refine lv_iinc (v := nI (lbN f3 + (z9 + 1))) (lv' := [(6, .int (nI (lbN f3 + (z9 + 1)))), (0, .ref dd), (1, .int (nI f1)), (2, .int (nI f2)), (3, .int (nI f3)), (4, .int (nI (x + 1))), (5, .int (nI (lbN f2 + y)))]) hx hb dX0_layOut_75 hl (k := 6) rfl (nI_1 _) (by decide) rfl (fun ls hl => ?_)
                    refine lv_goto (tgt := 59) hx hb dX0_layOut_78 (by decide) ?_
                    exact ih59 (z9 + 1) _ _ H _ ls (by omega) (laid_s hL7 rfl hy8 hz8) (by omega) hP hD hS (lv_sub hl [1, 2, 3, 4, 5, 6, 0] rfl)
              exact loop59 (exN f3 + 1) 0 _ _ H _ ls (Nat.zero_le _) hL8 (by omega) hP hD hS (lv_sub hl [1, 2, 3, 4, 5, 6, 0] rfl)
        exact loop46 (exN f2 + 1) 0 _ _ H _ ls (Nat.zero_le _) hL9 (by omega) hP hD hS (lv_sub hl [1, 2, 3, 4, 5, 0] rfl)
  have g9 : 0 = 0 * exN f2 * exN f3 := by rw [Nat.zero_mul, Nat.zero_mul]
  have hP : va_P D vwCl ([(dd, .inr (1, [.ref s4, .ref f5, .int (nI (1 + 1 + 0)), .int (nI (0 * exN f2 * exN f3))])), (s4, .inl (cs 0, 1728, .inl (su))), (f5, .inl (cs 0, 1728, .inl (fa)))] ++ tl) H := Eq.mp (congrArg (fun n9 => va_P D vwCl ([(dd, .inr (1, [.ref s4, .ref f5, .int (nI (1 + 1 + 0)), .int (nI n9)])), (s4, .inl (cs 0, 1728, .inl (su))), (f5, .inl (cs 0, 1728, .inl (fa)))] ++ tl) H) g9) hP
  have hD : va_D _ ([(dd, .inr (1, [.ref s4, .ref f5, .int (nI (1 + 1 + 0)), .int (nI (0 * exN f2 * exN f3))])), (s4, .inl (cs 0, 1728, .inl (su))), (f5, .inl (cs 0, 1728, .inl (fa)))] ++ tl) := Eq.mp (congrArg (fun n9 => va_D _ ([(dd, .inr (1, [.ref s4, .ref f5, .int (nI (1 + 1 + 0)), .int (nI n9)])), (s4, .inl (cs 0, 1728, .inl (su))), (f5, .inl (cs 0, 1728, .inl (fa)))] ++ tl)) g9) hD
  exact loop33 (f1 + 1) 0 _ _ H _ ls (Nat.zero_le _) (by rw [Nat.zero_mul, Nat.zero_mul]; exact laid_0 _ _ _ _) (by omega) hP hD hS (lv_sub hl [1, 2, 3, 4, 0] rfl)
set_option maxHeartbeats 4000000 in
set_option maxRecDepth 100000 in
theorem k_layOut3 (l : Launch) (D : va_G) (cs : Nat → ClassId) (z mi : Nat) (H : Heap)  {dd s4 f5 : Nat} {cnt : Int32} {N : Nat} {su fa : Nat → Int32} (f1 f2 f3 : Nat) (h1 : f1 ≤ 12) (h2 : f2 ≤ 12) (h3 : f3 ≤ 12) (hf2 : 0 < f2) (hf3 : 0 < f3) (hNN : f1 * exN f2 * exN f3 ≤ 1728) {tl : va_W} (post : Option Value → va_W → Prop) (hpost : ∀ su9 fa9 : Nat → Int32, laid f2 f3 su9 fa9 (f1 * exN f2 * exN f3) → post none ([(dd, .inr (1, [.ref s4, .ref f5, .int (nI (1 + 1 + 1)), .int (nI (f1 * exN f2 * exN f3))])), (s4, .inl (cs 0, 1728, .inl (su9))), (f5, .inl (cs 0, 1728, .inl (fa9)))] ++ tl)) (hP : va_P D vwCl ([(dd, .inr (1, [.ref s4, .ref f5, .int cnt, .int (nI N)])), (s4, .inl (cs 0, 1728, .inl (su))), (f5, .inl (cs 0, 1728, .inl (fa)))] ++ tl) H) (hD : va_D (fun _ => True) ([(dd, .inr (1, [.ref s4, .ref f5, .int cnt, .int (nI N)])), (s4, .inl (cs 0, 1728, .inl (su))), (f5, .inl (cs 0, 1728, .inl (fa)))] ++ tl)) : Ws z mi l D cs 4 0 0 yX0_layOut cX0_layOut 7 none ([(dd, .inr (1, [.ref s4, .ref f5, .int cnt, .int (nI N)])), (s4, .inl (cs 0, 1728, .inl (su))), (f5, .inl (cs 0, 1728, .inl (fa)))] ++ tl) H [.ref dd, .int (nI f1), .int (nI f2), .int (nI f3)] post := by
  refine ws_ent (by decide) (Nat.le_of_ble_eq_true rfl) hP hD ?_
  clear hP hD H
  intro p e s m below meth c ls A Q H hx hb hr hml hown hts hlocks hin hl hK hQ hA hH hT hP hD hS
  clear hH
  have hl : lv_has ls 7 [(0, .ref dd), (1, .int (nI f1)), (2, .int (nI f2)), (3, .int (nI f3))] := hl
  have hl2 := lb_le f2
  have hl3 := lb_le f3
  have he2 := ex_le h2
  have he3 := ex_le h3
  refine lv_aload_n hx hb dX0_layOut_0 rfl (lv_at hl 0 rfl) ?_
  refine lv_iconst (v := 1) hx hb dX0_layOut_1 (by first | decide | rfl) ?_
  refine lv_iload_n hx hb dX0_layOut_2 rfl (lv_at hl 2 rfl) ?_
  refine lv_if_le (tgt := 10) hx hb dX0_layOut_3 (by decide) (fun c_1 => False.elim (absurd c_1 (nI_nle hf2 (by omega)))) (fun c_1 => ?_)
  refine lv_iconst (v := nI 1) hx hb dX0_layOut_6 (by first | decide | rfl) ?_
  refine lv_goto (tgt := 11) hx hb dX0_layOut_7 (by decide) ?_
  refine lv_iadd hx hb dX0_layOut_11 ?_
  refine lv_rwi (y := nI (1 + 1)) (nI_add _ _) ?_
  refine lv_iload_n hx hb dX0_layOut_12 rfl (lv_at hl 3 rfl) ?_
  refine lv_if_le (tgt := 20) hx hb dX0_layOut_13 (by decide) (fun c_2 => False.elim (absurd c_2 (nI_nle hf3 (by omega)))) (fun c_2 => ?_)
  refine lv_iconst (v := nI 1) hx hb dX0_layOut_16 (by first | decide | rfl) ?_
  refine lv_goto (tgt := 21) hx hb dX0_layOut_17 (by decide) ?_
  refine lv_iadd hx hb dX0_layOut_21 ?_
  refine lv_rwi (y := nI (1 + 1 + 1)) (nI_add _ _) ?_
  refine va_put (D := D) (ci := 1) (v := .int (nI (1 + 1 + 1))) (ty := .int) (C := RX0) (T := TX0) (N := 4) hx hb hts inlX0 tyX0 tyX0_ok nmX0 hown hK hP hD hS 0 rfl rfl 2 (by decide) (hts (Cond.fieldLink RX0 22 "TavernDice$Dice" "count" "I") mw_2_7) (fun _ h9 => h9) rfl (by decide +kernel) rfl rfl (Nat.le_of_ble_eq_true rfl) dX0_layOut_22 (fun H locs hP hD hS => ?_)
  have hP : va_P D vwCl ([(dd, .inr (1, [.ref s4, .ref f5, .int (nI (1 + 1 + 1)), .int (nI N)])), (s4, .inl (cs 0, 1728, .inl (su))), (f5, .inl (cs 0, 1728, .inl (fa)))] ++ tl) H := hP
  have hD : va_D _ ([(dd, .inr (1, [.ref s4, .ref f5, .int (nI (1 + 1 + 1)), .int (nI N)])), (s4, .inl (cs 0, 1728, .inl (su))), (f5, .inl (cs 0, 1728, .inl (fa)))] ++ tl) := hD
  refine lv_aload_n hx hb dX0_layOut_25 rfl (lv_at hl 0 rfl) ?_
  refine lv_iconst (v := nI 0) hx hb dX0_layOut_26 (by first | decide | rfl) ?_
  refine va_put (D := D) (ci := 1) (v := .int (nI 0)) (ty := .int) (C := RX0) (T := TX0) (N := 4) hx hb hts inlX0 tyX0 tyX0_ok nmX0 hown hK hP hD hS 0 rfl rfl 3 (by decide) (hts (Cond.fieldLink RX0 26 "TavernDice$Dice" "outcomes" "I") mw_2_8) (fun _ h9 => h9) rfl (by decide +kernel) rfl rfl (Nat.le_of_ble_eq_true rfl) dX0_layOut_27 (fun H locs hP hD hS => ?_)
  have hP : va_P D vwCl ([(dd, .inr (1, [.ref s4, .ref f5, .int (nI (1 + 1 + 1)), .int (nI 0)])), (s4, .inl (cs 0, 1728, .inl (su))), (f5, .inl (cs 0, 1728, .inl (fa)))] ++ tl) H := hP
  have hD : va_D _ ([(dd, .inr (1, [.ref s4, .ref f5, .int (nI (1 + 1 + 1)), .int (nI 0)])), (s4, .inl (cs 0, 1728, .inl (su))), (f5, .inl (cs 0, 1728, .inl (fa)))] ++ tl) := hD
  refine lv_iconst (v := nI (0 + 1)) hx hb dX0_layOut_30 (by first | decide | rfl) ?_
  refine lv_istore (lv' := [(4, .int (nI (0 + 1))), (0, .ref dd), (1, .int (nI f1)), (2, .int (nI f2)), (3, .int (nI f3))]) hx hb dX0_layOut_31 hl (by decide) rfl (fun ls hl => ?_)
  have loop33 : ∀ (n9 : Nat) (x : Nat) (su9 fa9 : Nat → Int32) (H : Heap) (locs : List Loc) (ls : Array Slot), x ≤ f1 → laid f2 f3 su9 fa9 (x * exN f2 * exN f3) → f1 + 1 ≤ x + n9 → va_P D vwCl ([(dd, .inr (1, [.ref s4, .ref f5, .int (nI (1 + 1 + 1)), .int (nI (x * exN f2 * exN f3))])), (s4, .inl (cs 0, 1728, .inl (su9))), (f5, .inl (cs 0, 1728, .inl (fa9)))] ++ tl) H → va_D A ([(dd, .inr (1, [.ref s4, .ref f5, .int (nI (1 + 1 + 1)), .int (nI (x * exN f2 * exN f3))])), (s4, .inl (cs 0, 1728, .inl (su9))), (f5, .inl (cs 0, 1728, .inl (fa9)))] ++ tl) → va_S A s.heap H locs → lv_has ls 7 [(0, .ref dd), (1, .int (nI f1)), (2, .int (nI f2)), (3, .int (nI f3)), (4, .int (nI (x + 1)))] → W p l e (rmL 4 0 0) s m [.ref dd, .int (nI f1), .int (nI f2), .int (nI f3)].toArray below meth c H locs (0) (0) Q (F0 m 33 ls []) := by
    intro n9
    induction n9 with
    | zero => intro x  su9 fa9  H locs ls hxa hL9 hf hP hD hS hl; exact absurd hf (by omega)
    | succ n9 ih33 =>
      intro x  su9 fa9  H locs ls hxa hL9 hf hP hD hS hl
      refine lv_iload hx hb dX0_layOut_33 (lv_at hl 4 rfl) ?_
      refine lv_iload_n hx hb dX0_layOut_35 rfl (lv_at hl 1 rfl) ?_
      refine lv_icmp_gt (tgt := 93) hx hb dX0_layOut_36 (by decide) (fun c_3 => ?_) (fun c_3 => ?_)
      · have hx9 : x = f1 := by have g := (nI_ltI (by omega) (by omega)).mp c_3; omega
        subst hx9
        exact wr_vret hQ hx hb hr hlocks hP hD hS (hpost _ _ hL9) dX0_layOut_93
      · have hx8 : x < f1 := by
          rcases Nat.lt_or_ge x f1 with q | q
          · exact q
          · exact absurd (nI_lt (by omega) (by omega)) c_3
        refine lv_iconst (v := nI 1) hx hb dX0_layOut_39 (by first | decide | rfl) ?_
        refine lv_iload_n hx hb dX0_layOut_40 rfl (lv_at hl 2 rfl) ?_
        refine va_mmin hx hb (hml.trans hl.1.symm) hown (hts (Cond.methodLink RX0 29 Lib.Math.min.name) mw_2_9) (hts (Cond.static Lib.Math.min.name) mw_2_10) (hts (Cond.initialized "java/lang/Math") mw_2_11) (hts (Cond.code Lib.Math.min.name Lib.Math.min.code 2 (some .int)) mw_2_12) (Nat.le_of_ble_eq_true rfl) (Nat.le_of_ble_eq_true rfl) (Nat.le_of_ble_eq_true rfl) (Nat.le_of_ble_eq_true rfl) dX0_layOut_41 ?_
        refine lv_rwi (y := nI (lbN f2 + 0)) (mn_lb (by omega)) ?_
        refine lv_istore (lv' := [(5, .int (nI (lbN f2 + 0))), (0, .ref dd), (1, .int (nI f1)), (2, .int (nI f2)), (3, .int (nI f3)), (4, .int (nI (x + 1)))]) hx hb dX0_layOut_44 hl (by decide) rfl (fun ls hl => ?_)
        have loop46 : ∀ (n9 : Nat) (y : Nat) (su8 fa8 : Nat → Int32) (H : Heap) (locs : List Loc) (ls : Array Slot), y ≤ exN f2 → laid f2 f3 su8 fa8 ((x * exN f2 + y) * exN f3) → exN f2 + 1 ≤ y + n9 → va_P D vwCl ([(dd, .inr (1, [.ref s4, .ref f5, .int (nI (1 + 1 + 1)), .int (nI ((x * exN f2 + y) * exN f3))])), (s4, .inl (cs 0, 1728, .inl (su8))), (f5, .inl (cs 0, 1728, .inl (fa8)))] ++ tl) H → va_D A ([(dd, .inr (1, [.ref s4, .ref f5, .int (nI (1 + 1 + 1)), .int (nI ((x * exN f2 + y) * exN f3))])), (s4, .inl (cs 0, 1728, .inl (su8))), (f5, .inl (cs 0, 1728, .inl (fa8)))] ++ tl) → va_S A s.heap H locs → lv_has ls 7 [(0, .ref dd), (1, .int (nI f1)), (2, .int (nI f2)), (3, .int (nI f3)), (4, .int (nI (x + 1))), (5, .int (nI (lbN f2 + y)))] → W p l e (rmL 4 0 0) s m [.ref dd, .int (nI f1), .int (nI f2), .int (nI f3)].toArray below meth c H locs (0) (0) Q (F0 m 46 ls []) := by
          intro n9
          induction n9 with
          | zero => intro y  su8 fa8  H locs ls hyb hL8 hf hP hD hS hl; exact absurd hf (by omega)
          | succ n9 ih46 =>
            intro y  su8 fa8  H locs ls hyb hL8 hf hP hD hS hl
            refine lv_iload hx hb dX0_layOut_46 (lv_at hl 5 rfl) ?_
            refine lv_iload_n hx hb dX0_layOut_48 rfl (lv_at hl 2 rfl) ?_
            refine lv_icmp_gt (tgt := 87) hx hb dX0_layOut_49 (by decide) (fun c_4 => ?_) (fun c_4 => ?_)
            · have hy9 : y = exN f2 := by have g := (nI_ltI (by omega) (by omega)).mp c_4; have := lb_ex f2; omega
              have eM : (x * exN f2 + y) * exN f3 = (x + 1) * exN f2 * exN f3 := by rw [hy9, Nat.add_mul x 1, Nat.one_mul]
              have hL9 : laid f2 f3 su8 fa8 ((x + 1) * exN f2 * exN f3) := eM ▸ hL8
              have g9 : ((x * exN f2 + y) * exN f3) = (x + 1) * exN f2 * exN f3 := eM
              have hP : va_P D vwCl ([(dd, .inr (1, [.ref s4, .ref f5, .int (nI (1 + 1 + 1)), .int (nI ((x + 1) * exN f2 * exN f3))])), (s4, .inl (cs 0, 1728, .inl (su8))), (f5, .inl (cs 0, 1728, .inl (fa8)))] ++ tl) H := Eq.mp (congrArg (fun n9 => va_P D vwCl ([(dd, .inr (1, [.ref s4, .ref f5, .int (nI (1 + 1 + 1)), .int (nI n9)])), (s4, .inl (cs 0, 1728, .inl (su8))), (f5, .inl (cs 0, 1728, .inl (fa8)))] ++ tl) H) g9) hP
              have hD : va_D _ ([(dd, .inr (1, [.ref s4, .ref f5, .int (nI (1 + 1 + 1)), .int (nI ((x + 1) * exN f2 * exN f3))])), (s4, .inl (cs 0, 1728, .inl (su8))), (f5, .inl (cs 0, 1728, .inl (fa8)))] ++ tl) := Eq.mp (congrArg (fun n9 => va_D _ ([(dd, .inr (1, [.ref s4, .ref f5, .int (nI (1 + 1 + 1)), .int (nI n9)])), (s4, .inl (cs 0, 1728, .inl (su8))), (f5, .inl (cs 0, 1728, .inl (fa8)))] ++ tl)) g9) hD
              refine lv_iinc (v := nI (x + 1 + 1)) (lv' := [(4, .int (nI (x + 1 + 1))), (0, .ref dd), (1, .int (nI f1)), (2, .int (nI f2)), (3, .int (nI f3)), (5, .int (nI (lbN f2 + y)))]) hx hb dX0_layOut_87 hl (k := 4) rfl (nI_1 _) (by decide) rfl (fun ls hl => ?_)
              refine lv_goto (tgt := 33) hx hb dX0_layOut_90 (by decide) ?_
              exact ih33 (x + 1) _ _ H _ ls (by omega) hL9 (by omega) hP hD hS (lv_sub hl [1, 2, 3, 4, 0] rfl)
            · have hy8 : y < exN f2 := by
                rcases Nat.lt_or_ge y (exN f2) with q | q
                · exact q
                · exact absurd (nI_lt (by have := lb_ex f2; omega) (by omega)) c_4
              refine lv_iconst (v := nI 1) hx hb dX0_layOut_52 (by first | decide | rfl) ?_
              refine lv_iload_n hx hb dX0_layOut_53 rfl (lv_at hl 3 rfl) ?_
              refine va_mmin hx hb (hml.trans hl.1.symm) hown (hts (Cond.methodLink RX0 29 Lib.Math.min.name) mw_2_9) (hts (Cond.static Lib.Math.min.name) mw_2_10) (hts (Cond.initialized "java/lang/Math") mw_2_11) (hts (Cond.code Lib.Math.min.name Lib.Math.min.code 2 (some .int)) mw_2_12) (Nat.le_of_ble_eq_true rfl) (Nat.le_of_ble_eq_true rfl) (Nat.le_of_ble_eq_true rfl) (Nat.le_of_ble_eq_true rfl) dX0_layOut_54 ?_
              refine lv_rwi (y := nI (lbN f3 + 0)) (mn_lb (by omega)) ?_
              refine lv_istore (lv' := [(6, .int (nI (lbN f3 + 0))), (0, .ref dd), (1, .int (nI f1)), (2, .int (nI f2)), (3, .int (nI f3)), (4, .int (nI (x + 1))), (5, .int (nI (lbN f2 + y)))]) hx hb dX0_layOut_57 hl (by decide) rfl (fun ls hl => ?_)
              have loop59 : ∀ (n9 : Nat) (z9 : Nat) (su7 fa7 : Nat → Int32) (H : Heap) (locs : List Loc) (ls : Array Slot), z9 ≤ exN f3 → laid f2 f3 su7 fa7 ((x * exN f2 + y) * exN f3 + z9) → exN f3 + 1 ≤ z9 + n9 → va_P D vwCl ([(dd, .inr (1, [.ref s4, .ref f5, .int (nI (1 + 1 + 1)), .int (nI ((x * exN f2 + y) * exN f3 + z9))])), (s4, .inl (cs 0, 1728, .inl (su7))), (f5, .inl (cs 0, 1728, .inl (fa7)))] ++ tl) H → va_D A ([(dd, .inr (1, [.ref s4, .ref f5, .int (nI (1 + 1 + 1)), .int (nI ((x * exN f2 + y) * exN f3 + z9))])), (s4, .inl (cs 0, 1728, .inl (su7))), (f5, .inl (cs 0, 1728, .inl (fa7)))] ++ tl) → va_S A s.heap H locs → lv_has ls 7 [(0, .ref dd), (1, .int (nI f1)), (2, .int (nI f2)), (3, .int (nI f3)), (4, .int (nI (x + 1))), (5, .int (nI (lbN f2 + y))), (6, .int (nI (lbN f3 + z9)))] → W p l e (rmL 4 0 0) s m [.ref dd, .int (nI f1), .int (nI f2), .int (nI f3)].toArray below meth c H locs (0) (0) Q (F0 m 59 ls []) := by
                intro n9
                induction n9 with
                | zero => intro z9  su7 fa7  H locs ls hzc hL7 hf hP hD hS hl; exact absurd hf (by omega)
                | succ n9 ih59 =>
                  intro z9  su7 fa7  H locs ls hzc hL7 hf hP hD hS hl
                  refine lv_iload hx hb dX0_layOut_59 (lv_at hl 6 rfl) ?_
                  refine lv_iload_n hx hb dX0_layOut_61 rfl (lv_at hl 3 rfl) ?_
                  refine lv_icmp_gt (tgt := 81) hx hb dX0_layOut_62 (by decide) (fun c_5 => ?_) (fun c_5 => ?_)
                  · have hz9 : z9 = exN f3 := by have g := (nI_ltI (by omega) (by omega)).mp c_5; have := lb_ex f3; omega
                    have eM : (x * exN f2 + y) * exN f3 + z9 = (x * exN f2 + (y + 1)) * exN f3 := by rw [hz9, ← Nat.add_assoc, Nat.add_mul (x * exN f2 + y) 1, Nat.one_mul]
                    have hL8 : laid f2 f3 su7 fa7 ((x * exN f2 + (y + 1)) * exN f3) := eM ▸ hL7
                    have g9 : ((x * exN f2 + y) * exN f3 + z9) = (x * exN f2 + (y + 1)) * exN f3 := eM
                    have hP : va_P D vwCl ([(dd, .inr (1, [.ref s4, .ref f5, .int (nI (1 + 1 + 1)), .int (nI ((x * exN f2 + (y + 1)) * exN f3))])), (s4, .inl (cs 0, 1728, .inl (su7))), (f5, .inl (cs 0, 1728, .inl (fa7)))] ++ tl) H := Eq.mp (congrArg (fun n9 => va_P D vwCl ([(dd, .inr (1, [.ref s4, .ref f5, .int (nI (1 + 1 + 1)), .int (nI n9)])), (s4, .inl (cs 0, 1728, .inl (su7))), (f5, .inl (cs 0, 1728, .inl (fa7)))] ++ tl) H) g9) hP
                    have hD : va_D _ ([(dd, .inr (1, [.ref s4, .ref f5, .int (nI (1 + 1 + 1)), .int (nI ((x * exN f2 + (y + 1)) * exN f3))])), (s4, .inl (cs 0, 1728, .inl (su7))), (f5, .inl (cs 0, 1728, .inl (fa7)))] ++ tl) := Eq.mp (congrArg (fun n9 => va_D _ ([(dd, .inr (1, [.ref s4, .ref f5, .int (nI (1 + 1 + 1)), .int (nI n9)])), (s4, .inl (cs 0, 1728, .inl (su7))), (f5, .inl (cs 0, 1728, .inl (fa7)))] ++ tl)) g9) hD
                    refine lv_iinc (v := nI (lbN f2 + (y + 1))) (lv' := [(5, .int (nI (lbN f2 + (y + 1)))), (0, .ref dd), (1, .int (nI f1)), (2, .int (nI f2)), (3, .int (nI f3)), (4, .int (nI (x + 1))), (6, .int (nI (lbN f3 + z9)))]) hx hb dX0_layOut_81 hl (k := 5) rfl (nI_1 _) (by decide) rfl (fun ls hl => ?_)
                    refine lv_goto (tgt := 46) hx hb dX0_layOut_84 (by decide) ?_
                    exact ih46 (y + 1) _ _ H _ ls (by omega) hL8 (by omega) hP hD hS (lv_sub hl [1, 2, 3, 4, 5, 0] rfl)
                  · have hz8 : z9 < exN f3 := by
                      rcases Nat.lt_or_ge z9 (exN f3) with q | q
                      · exact q
                      · exact absurd (nI_lt (by have := lb_ex f3; omega) (by omega)) c_5
                    refine lv_aload_n hx hb dX0_layOut_65 rfl (lv_at hl 0 rfl) ?_
                    refine lv_iload hx hb dX0_layOut_66 (lv_at hl 4 rfl) ?_
                    refine lv_iload hx hb dX0_layOut_68 (lv_at hl 5 rfl) ?_
                    refine lv_iload hx hb dX0_layOut_70 (lv_at hl 6 rfl) ?_
                    have hP : va_P D vwCl ([(dd, .inr (1, [.ref s4, .ref f5, .int (nI (1 + 1 + 1)), .int (nI ((x * exN f2 + y) * exN f3 + z9))])), (s4, .inl (cs 0, 1728, .inl (su7))), (f5, .inl (cs 0, 1728, .inl (fa7)))] ++ tl) H := hP
                    have hD : va_D _ ([(dd, .inr (1, [.ref s4, .ref f5, .int (nI (1 + 1 + 1)), .int (nI ((x * exN f2 + y) * exN f3 + z9))])), (s4, .inl (cs 0, 1728, .inl (su7))), (f5, .inl (cs 0, 1728, .inl (fa7)))] ++ tl) := hD
                    refine wtV (As := [.int (nI (x + 1)), .int (nI (lbN f2 + y)), .int (nI (lbN f3 + z9))]) (rest := []) (b := dd) ⟨hx, hb, hml, hown, hts⟩ hT hK 3 (k_addOutcome l D cs z mi H (x + 1) (lbN f2 + y) (lbN f3 + z9) (Nat.lt_of_lt_of_le (lay_lt hx8 hy8 hz8) hNN) (fun ov w1 => ov = none ∧ w1 = [(dd, .inr (1, [.ref s4, .ref f5, .int (nI (1 + 1 + 1)), .int (nI (((x * exN f2 + y) * exN f3 + z9) + 1))])), (s4, .inl (cs 0, 1728, .inl ((upd su7 (((x * exN f2 + y) * exN f3 + z9)) (nI ((x + 1) + (lbN f2 + y) + (lbN f3 + z9))))))), (f5, .inl (cs 0, 1728, .inl ((upd fa7 (((x * exN f2 + y) * exN f3 + z9)) (bitX (nI (x + 1)) ||| bitX (nI (lbN f2 + y)) ||| bitX (nI (lbN f3 + z9)))))))] ++ tl) ⟨rfl, rfl⟩ hP (hD.weaken (fun _ _ _ _ => trivial))) (gin_v mw_2_13 mw_2_14 mw_2_15 mw_1_13 mw_2_16) (by decide +kernel) ⟨Nat.le_of_ble_eq_true rfl, Nat.le_of_ble_eq_true rfl⟩ (va_recv hK hP (ci := 1) (q0 := 0) rfl rfl) rfl hl.1 rfl (Nat.le_of_ble_eq_true rfl) dX0_layOut_72 ⟨(Nat.le_of_ble_eq_true rfl), (Nat.le_of_ble_eq_true rfl)⟩ hD hS hA (fun ov9 w9 H locs hp9 hP hD hS => ?_)
                    obtain ⟨rfl, rfl⟩ := hp9
                    have hP : va_P D vwCl ([(dd, .inr (1, [.ref s4, .ref f5, .int (nI (1 + 1 + 1)), .int (nI (((x * exN f2 + y) * exN f3 + z9) + 1))])), (s4, .inl (cs 0, 1728, .inl ((upd su7 (((x * exN f2 + y) * exN f3 + z9)) (nI ((x + 1) + (lbN f2 + y) + (lbN f3 + z9))))))), (f5, .inl (cs 0, 1728, .inl ((upd fa7 (((x * exN f2 + y) * exN f3 + z9)) (bitX (nI (x + 1)) ||| bitX (nI (lbN f2 + y)) ||| bitX (nI (lbN f3 + z9)))))))] ++ tl) H := hP
                    have hD : va_D _ ([(dd, .inr (1, [.ref s4, .ref f5, .int (nI (1 + 1 + 1)), .int (nI (((x * exN f2 + y) * exN f3 + z9) + 1))])), (s4, .inl (cs 0, 1728, .inl ((upd su7 (((x * exN f2 + y) * exN f3 + z9)) (nI ((x + 1) + (lbN f2 + y) + (lbN f3 + z9))))))), (f5, .inl (cs 0, 1728, .inl ((upd fa7 (((x * exN f2 + y) * exN f3 + z9)) (bitX (nI (x + 1)) ||| bitX (nI (lbN f2 + y)) ||| bitX (nI (lbN f3 + z9)))))))] ++ tl) := hD
                    refine W.eq (g2 := F0 m 75 ls []) rfl ?_
                    refine lv_iinc (v := nI (lbN f3 + (z9 + 1))) (lv' := [(6, .int (nI (lbN f3 + (z9 + 1)))), (0, .ref dd), (1, .int (nI f1)), (2, .int (nI f2)), (3, .int (nI f3)), (4, .int (nI (x + 1))), (5, .int (nI (lbN f2 + y)))]) hx hb dX0_layOut_75 hl (k := 6) rfl (nI_1 _) (by decide) rfl (fun ls hl => ?_)
                    refine lv_goto (tgt := 59) hx hb dX0_layOut_78 (by decide) ?_
                    exact ih59 (z9 + 1) _ _ H _ ls (by omega) (laid_s hL7 rfl hy8 hz8) (by omega) hP hD hS (lv_sub hl [1, 2, 3, 4, 5, 6, 0] rfl)
              exact loop59 (exN f3 + 1) 0 _ _ H _ ls (Nat.zero_le _) hL8 (by omega) hP hD hS (lv_sub hl [1, 2, 3, 4, 5, 6, 0] rfl)
        exact loop46 (exN f2 + 1) 0 _ _ H _ ls (Nat.zero_le _) hL9 (by omega) hP hD hS (lv_sub hl [1, 2, 3, 4, 5, 0] rfl)
  have g9 : 0 = 0 * exN f2 * exN f3 := by rw [Nat.zero_mul, Nat.zero_mul]
  have hP : va_P D vwCl ([(dd, .inr (1, [.ref s4, .ref f5, .int (nI (1 + 1 + 1)), .int (nI (0 * exN f2 * exN f3))])), (s4, .inl (cs 0, 1728, .inl (su))), (f5, .inl (cs 0, 1728, .inl (fa)))] ++ tl) H := Eq.mp (congrArg (fun n9 => va_P D vwCl ([(dd, .inr (1, [.ref s4, .ref f5, .int (nI (1 + 1 + 1)), .int (nI n9)])), (s4, .inl (cs 0, 1728, .inl (su))), (f5, .inl (cs 0, 1728, .inl (fa)))] ++ tl) H) g9) hP
  have hD : va_D _ ([(dd, .inr (1, [.ref s4, .ref f5, .int (nI (1 + 1 + 1)), .int (nI (0 * exN f2 * exN f3))])), (s4, .inl (cs 0, 1728, .inl (su))), (f5, .inl (cs 0, 1728, .inl (fa)))] ++ tl) := Eq.mp (congrArg (fun n9 => va_D _ ([(dd, .inr (1, [.ref s4, .ref f5, .int (nI (1 + 1 + 1)), .int (nI n9)])), (s4, .inl (cs 0, 1728, .inl (su))), (f5, .inl (cs 0, 1728, .inl (fa)))] ++ tl)) g9) hD
  exact loop33 (f1 + 1) 0 _ _ H _ ls (Nat.zero_le _) (by rw [Nat.zero_mul, Nat.zero_mul]; exact laid_0 _ _ _ _) (by omega) hP hD hS (lv_sub hl [1, 2, 3, 4, 0] rfl)
