/-! the reference: its public methods, first part; rows by program -/
set_option maxHeartbeats 4000000 in
set_option maxRecDepth 100000 in
theorem mp_dice (l : Launch) (D : va_G) (cs : Nat → ClassId) (H : Heap) {am : Nat → Nat} {th bank rnds : Int32} {dn N n : Nat} {fc pu wh kn nm sk br ht sg : Nat → Int32} {fn : Nat → Nat} (hF : FM fn dn N n fc) (post : Option Value → va_W → Prop) (hpost : post (some (.int (nI dn))) (wM cs am 0 bank rnds dn N n fc pu wh kn nm sk br ht sg)) (hP : va_P D vwCl (wM cs am th bank rnds dn N n fc pu wh kn nm sk br ht sg) H) (hD : va_D (fun _ => True) (wM cs am th bank rnds dn N n fc pu wh kn nm sk br ht sg)) : Wr l D cs 2 0 0 yX3_dice cX3_dice 1 (some .int) (wM cs am th bank rnds dn N n fc pu wh kn nm sk br ht sg) H [.ref (am 0)] post := by
  refine wr_ent (by decide) (Nat.le_of_ble_eq_true rfl) hP hD ?_
  clear hP hD H
  intro p e s m below meth c ls A Q H hx hb hr hml hown hts hlocks hin hl hK hQ hA hH hP hD hS
  clear hH
  have hl : lv_has ls 1 [(0, .ref (am 0))] := hl
  have hF0 := hF
  obtain ⟨hF3, hd1, hd3, hNe, hN1, hN, hn⟩ := hF
  refine lv_aload_n hx hb dX3_dice_0 rfl (lv_at hl 0 rfl) ?_
  refine lv_aload_n hx hb dX3_dice_1 rfl (lv_at hl 0 rfl) ?_
  refine va_get (D := D) (ci := 4) (v := .int (nI dn)) (C := RX3) (T := TX3) (N := 15) hx hb hts inlX3 hown hK hP 0 rfl rfl 2 (by decide) (hts (Cond.fieldLink RX3 13 "TavernDiceModel" "dice" "I") mw_3_20) (fun _ h9 => h9) rfl dX3_dice_2 ?_
  refine wrV (As := [.int (nI dn)]) (rest := []) (b := am 0) ⟨hx, hb, hml, hown, hts⟩ hK 1 (m_ok l D cs H (nI dn) (fun ov w1 => ov = some (.int (nI dn)) ∧ w1 = wM cs am 0 bank rnds dn N n fc pu wh kn nm sk br ht sg) ⟨rfl, rfl⟩ hP (hD.weaken (fun _ _ _ _ => trivial))) (gin_v mw_6_19 mw_6_20 mw_6_21 mw_1_5 mw_6_22) (by decide +kernel) ⟨Nat.le_of_ble_eq_true rfl, Nat.le_of_ble_eq_true rfl⟩ (va_recv hK hP (ci := 4) (q0 := 0) rfl rfl) rfl hl.1 rfl (Nat.le_of_ble_eq_true rfl) dX3_dice_5 ⟨(Nat.le_of_ble_eq_true rfl), (Nat.le_of_ble_eq_true rfl)⟩ hD hS hA (fun ov9 w9 H locs hp9 hP hD hS => ?_)
  obtain ⟨rfl, rfl⟩ := hp9
  have hP : va_P D vwCl (wM cs am 0 bank rnds dn N n fc pu wh kn nm sk br ht sg) H := hP
  have hD : va_D _ (wM cs am 0 bank rnds dn N n fc pu wh kn nm sk br ht sg) := hD
  refine W.eq (g2 := F0 m 8 ls [.int (nI dn)]) rfl ?_
  exact wr_iret hQ hx hb hr hlocks hP hD hS (hpost) dX3_dice_8
set_option maxHeartbeats 4000000 in
set_option maxRecDepth 100000 in
theorem mp_outcomes (l : Launch) (D : va_G) (cs : Nat → ClassId) (H : Heap) {am : Nat → Nat} {th bank rnds : Int32} {dn N n : Nat} {fc pu wh kn nm sk br ht sg : Nat → Int32} {fn : Nat → Nat} (hF : FM fn dn N n fc) (post : Option Value → va_W → Prop) (hpost : post (some (.int (nI N))) (wM cs am 0 bank rnds dn N n fc pu wh kn nm sk br ht sg)) (hP : va_P D vwCl (wM cs am th bank rnds dn N n fc pu wh kn nm sk br ht sg) H) (hD : va_D (fun _ => True) (wM cs am th bank rnds dn N n fc pu wh kn nm sk br ht sg)) : Wr l D cs 2 0 0 yX3_outcomes cX3_outcomes 1 (some .int) (wM cs am th bank rnds dn N n fc pu wh kn nm sk br ht sg) H [.ref (am 0)] post := by
  refine wr_ent (by decide) (Nat.le_of_ble_eq_true rfl) hP hD ?_
  clear hP hD H
  intro p e s m below meth c ls A Q H hx hb hr hml hown hts hlocks hin hl hK hQ hA hH hP hD hS
  clear hH
  have hl : lv_has ls 1 [(0, .ref (am 0))] := hl
  have hF0 := hF
  obtain ⟨hF3, hd1, hd3, hNe, hN1, hN, hn⟩ := hF
  refine lv_aload_n hx hb dX3_outcomes_0 rfl (lv_at hl 0 rfl) ?_
  refine lv_aload_n hx hb dX3_outcomes_1 rfl (lv_at hl 0 rfl) ?_
  refine va_get (D := D) (ci := 4) (v := .int (nI N)) (C := RX3) (T := TX3) (N := 15) hx hb hts inlX3 hown hK hP 0 rfl rfl 3 (by decide) (hts (Cond.fieldLink RX3 17 "TavernDiceModel" "outcomes" "I") mw_3_21) (fun _ h9 => h9) rfl dX3_outcomes_2 ?_
  refine wrV (As := [.int (nI N)]) (rest := []) (b := am 0) ⟨hx, hb, hml, hown, hts⟩ hK 1 (m_ok l D cs H (nI N) (fun ov w1 => ov = some (.int (nI N)) ∧ w1 = wM cs am 0 bank rnds dn N n fc pu wh kn nm sk br ht sg) ⟨rfl, rfl⟩ hP (hD.weaken (fun _ _ _ _ => trivial))) (gin_v mw_6_19 mw_6_20 mw_6_21 mw_1_5 mw_6_22) (by decide +kernel) ⟨Nat.le_of_ble_eq_true rfl, Nat.le_of_ble_eq_true rfl⟩ (va_recv hK hP (ci := 4) (q0 := 0) rfl rfl) rfl hl.1 rfl (Nat.le_of_ble_eq_true rfl) dX3_outcomes_5 ⟨(Nat.le_of_ble_eq_true rfl), (Nat.le_of_ble_eq_true rfl)⟩ hD hS hA (fun ov9 w9 H locs hp9 hP hD hS => ?_)
  obtain ⟨rfl, rfl⟩ := hp9
  have hP : va_P D vwCl (wM cs am 0 bank rnds dn N n fc pu wh kn nm sk br ht sg) H := hP
  have hD : va_D _ (wM cs am 0 bank rnds dn N n fc pu wh kn nm sk br ht sg) := hD
  refine W.eq (g2 := F0 m 8 ls [.int (nI N)]) rfl ?_
  exact wr_iret hQ hx hb hr hlocks hP hD hS (hpost) dX3_outcomes_8
set_option maxHeartbeats 4000000 in
set_option maxRecDepth 100000 in
theorem mp_open (l : Launch) (D : va_G) (cs : Nat → ClassId) (H : Heap) {am : Nat → Nat} {th bank rnds : Int32} {dn N n : Nat} {fc pu wh kn nm sk br ht sg : Nat → Int32} {fn : Nat → Nat} (hF : FM fn dn N n fc) (post : Option Value → va_W → Prop) (hpost : post (some (.int (nI n))) (wM cs am 0 bank rnds dn N n fc pu wh kn nm sk br ht sg)) (hP : va_P D vwCl (wM cs am th bank rnds dn N n fc pu wh kn nm sk br ht sg) H) (hD : va_D (fun _ => True) (wM cs am th bank rnds dn N n fc pu wh kn nm sk br ht sg)) : Wr l D cs 2 0 0 yX3_open cX3_open 1 (some .int) (wM cs am th bank rnds dn N n fc pu wh kn nm sk br ht sg) H [.ref (am 0)] post := by
  refine wr_ent (by decide) (Nat.le_of_ble_eq_true rfl) hP hD ?_
  clear hP hD H
  intro p e s m below meth c ls A Q H hx hb hr hml hown hts hlocks hin hl hK hQ hA hH hP hD hS
  clear hH
  have hl : lv_has ls 1 [(0, .ref (am 0))] := hl
  have hF0 := hF
  obtain ⟨hF3, hd1, hd3, hNe, hN1, hN, hn⟩ := hF
  refine lv_aload_n hx hb dX3_open_0 rfl (lv_at hl 0 rfl) ?_
  refine lv_aload_n hx hb dX3_open_1 rfl (lv_at hl 0 rfl) ?_
  refine va_get (D := D) (ci := 4) (v := .int (nI n)) (C := RX3) (T := TX3) (N := 15) hx hb hts inlX3 hown hK hP 0 rfl rfl 7 (by decide) (hts (Cond.fieldLink RX3 51 "TavernDiceModel" "open" "I") mw_5_16) (fun _ h9 => h9) rfl dX3_open_2 ?_
  refine wrV (As := [.int (nI n)]) (rest := []) (b := am 0) ⟨hx, hb, hml, hown, hts⟩ hK 1 (m_ok l D cs H (nI n) (fun ov w1 => ov = some (.int (nI n)) ∧ w1 = wM cs am 0 bank rnds dn N n fc pu wh kn nm sk br ht sg) ⟨rfl, rfl⟩ hP (hD.weaken (fun _ _ _ _ => trivial))) (gin_v mw_6_19 mw_6_20 mw_6_21 mw_1_5 mw_6_22) (by decide +kernel) ⟨Nat.le_of_ble_eq_true rfl, Nat.le_of_ble_eq_true rfl⟩ (va_recv hK hP (ci := 4) (q0 := 0) rfl rfl) rfl hl.1 rfl (Nat.le_of_ble_eq_true rfl) dX3_open_5 ⟨(Nat.le_of_ble_eq_true rfl), (Nat.le_of_ble_eq_true rfl)⟩ hD hS hA (fun ov9 w9 H locs hp9 hP hD hS => ?_)
  obtain ⟨rfl, rfl⟩ := hp9
  have hP : va_P D vwCl (wM cs am 0 bank rnds dn N n fc pu wh kn nm sk br ht sg) H := hP
  have hD : va_D _ (wM cs am 0 bank rnds dn N n fc pu wh kn nm sk br ht sg) := hD
  refine W.eq (g2 := F0 m 8 ls [.int (nI n)]) rfl ?_
  exact wr_iret hQ hx hb hr hlocks hP hD hS (hpost) dX3_open_8
set_option maxHeartbeats 4000000 in
set_option maxRecDepth 100000 in
theorem mp_bank (l : Launch) (D : va_G) (cs : Nat → ClassId) (H : Heap) {am : Nat → Nat} {th bank rnds : Int32} {dn N n : Nat} {fc pu wh kn nm sk br ht sg : Nat → Int32} {fn : Nat → Nat} (hF : FM fn dn N n fc) (post : Option Value → va_W → Prop) (hpost : post (some (.int (bank))) (wM cs am 0 bank rnds dn N n fc pu wh kn nm sk br ht sg)) (hP : va_P D vwCl (wM cs am th bank rnds dn N n fc pu wh kn nm sk br ht sg) H) (hD : va_D (fun _ => True) (wM cs am th bank rnds dn N n fc pu wh kn nm sk br ht sg)) : Wr l D cs 2 0 0 yX3_bank cX3_bank 1 (some .int) (wM cs am th bank rnds dn N n fc pu wh kn nm sk br ht sg) H [.ref (am 0)] post := by
  refine wr_ent (by decide) (Nat.le_of_ble_eq_true rfl) hP hD ?_
  clear hP hD H
  intro p e s m below meth c ls A Q H hx hb hr hml hown hts hlocks hin hl hK hQ hA hH hP hD hS
  clear hH
  have hl : lv_has ls 1 [(0, .ref (am 0))] := hl
  have hF0 := hF
  obtain ⟨hF3, hd1, hd3, hNe, hN1, hN, hn⟩ := hF
  refine lv_aload_n hx hb dX3_bank_0 rfl (lv_at hl 0 rfl) ?_
  refine lv_aload_n hx hb dX3_bank_1 rfl (lv_at hl 0 rfl) ?_
  refine va_get (D := D) (ci := 4) (v := .int bank) (C := RX3) (T := TX3) (N := 15) hx hb hts inlX3 hown hK hP 0 rfl rfl 5 (by decide) (hts (Cond.fieldLink RX3 23 "TavernDiceModel" "bank" "I") mw_3_23) (fun _ h9 => h9) rfl dX3_bank_2 ?_
  refine wrV (As := [.int bank]) (rest := []) (b := am 0) ⟨hx, hb, hml, hown, hts⟩ hK 1 (m_ok l D cs H bank (fun ov w1 => ov = some (.int bank) ∧ w1 = wM cs am 0 bank rnds dn N n fc pu wh kn nm sk br ht sg) ⟨rfl, rfl⟩ hP (hD.weaken (fun _ _ _ _ => trivial))) (gin_v mw_6_19 mw_6_20 mw_6_21 mw_1_5 mw_6_22) (by decide +kernel) ⟨Nat.le_of_ble_eq_true rfl, Nat.le_of_ble_eq_true rfl⟩ (va_recv hK hP (ci := 4) (q0 := 0) rfl rfl) rfl hl.1 rfl (Nat.le_of_ble_eq_true rfl) dX3_bank_5 ⟨(Nat.le_of_ble_eq_true rfl), (Nat.le_of_ble_eq_true rfl)⟩ hD hS hA (fun ov9 w9 H locs hp9 hP hD hS => ?_)
  obtain ⟨rfl, rfl⟩ := hp9
  have hP : va_P D vwCl (wM cs am 0 bank rnds dn N n fc pu wh kn nm sk br ht sg) H := hP
  have hD : va_D _ (wM cs am 0 bank rnds dn N n fc pu wh kn nm sk br ht sg) := hD
  refine W.eq (g2 := F0 m 8 ls [.int bank]) rfl ?_
  exact wr_iret hQ hx hb hr hlocks hP hD hS (hpost) dX3_bank_8
set_option maxHeartbeats 4000000 in
set_option maxRecDepth 100000 in
theorem mp_rounds (l : Launch) (D : va_G) (cs : Nat → ClassId) (H : Heap) {am : Nat → Nat} {th bank rnds : Int32} {dn N n : Nat} {fc pu wh kn nm sk br ht sg : Nat → Int32} {fn : Nat → Nat} (hF : FM fn dn N n fc) (post : Option Value → va_W → Prop) (hpost : post (some (.int (rnds))) (wM cs am 0 bank rnds dn N n fc pu wh kn nm sk br ht sg)) (hP : va_P D vwCl (wM cs am th bank rnds dn N n fc pu wh kn nm sk br ht sg) H) (hD : va_D (fun _ => True) (wM cs am th bank rnds dn N n fc pu wh kn nm sk br ht sg)) : Wr l D cs 2 0 0 yX3_rounds cX3_rounds 1 (some .int) (wM cs am th bank rnds dn N n fc pu wh kn nm sk br ht sg) H [.ref (am 0)] post := by
  refine wr_ent (by decide) (Nat.le_of_ble_eq_true rfl) hP hD ?_
  clear hP hD H
  intro p e s m below meth c ls A Q H hx hb hr hml hown hts hlocks hin hl hK hQ hA hH hP hD hS
  clear hH
  have hl : lv_has ls 1 [(0, .ref (am 0))] := hl
  have hF0 := hF
  obtain ⟨hF3, hd1, hd3, hNe, hN1, hN, hn⟩ := hF
  refine lv_aload_n hx hb dX3_rounds_0 rfl (lv_at hl 0 rfl) ?_
  refine lv_aload_n hx hb dX3_rounds_1 rfl (lv_at hl 0 rfl) ?_
  refine va_get (D := D) (ci := 4) (v := .int rnds) (C := RX3) (T := TX3) (N := 15) hx hb hts inlX3 hown hK hP 0 rfl rfl 6 (by decide) (hts (Cond.fieldLink RX3 130 "TavernDiceModel" "rounds" "I") mw_18_4) (fun _ h9 => h9) rfl dX3_rounds_2 ?_
  refine wrV (As := [.int rnds]) (rest := []) (b := am 0) ⟨hx, hb, hml, hown, hts⟩ hK 1 (m_ok l D cs H rnds (fun ov w1 => ov = some (.int rnds) ∧ w1 = wM cs am 0 bank rnds dn N n fc pu wh kn nm sk br ht sg) ⟨rfl, rfl⟩ hP (hD.weaken (fun _ _ _ _ => trivial))) (gin_v mw_6_19 mw_6_20 mw_6_21 mw_1_5 mw_6_22) (by decide +kernel) ⟨Nat.le_of_ble_eq_true rfl, Nat.le_of_ble_eq_true rfl⟩ (va_recv hK hP (ci := 4) (q0 := 0) rfl rfl) rfl hl.1 rfl (Nat.le_of_ble_eq_true rfl) dX3_rounds_5 ⟨(Nat.le_of_ble_eq_true rfl), (Nat.le_of_ble_eq_true rfl)⟩ hD hS hA (fun ov9 w9 H locs hp9 hP hD hS => ?_)
  obtain ⟨rfl, rfl⟩ := hp9
  have hP : va_P D vwCl (wM cs am 0 bank rnds dn N n fc pu wh kn nm sk br ht sg) H := hP
  have hD : va_D _ (wM cs am 0 bank rnds dn N n fc pu wh kn nm sk br ht sg) := hD
  refine W.eq (g2 := F0 m 8 ls [.int rnds]) rfl ?_
  exact wr_iret hQ hx hb hr hlocks hP hD hS (hpost) dX3_rounds_8
set_option maxHeartbeats 4000000 in
set_option maxRecDepth 100000 in
theorem mp_staked (l : Launch) (D : va_G) (cs : Nat → ClassId) (H : Heap) {am : Nat → Nat} {th bank rnds : Int32} {dn N n : Nat} {fc pu wh kn nm sk br ht sg : Nat → Int32} {fn : Nat → Nat} (hF : FM fn dn N n fc) (post : Option Value → va_W → Prop) (hpost : post (some (.int (sm sk n))) (wM cs am 0 bank rnds dn N n fc pu wh kn nm sk br ht sg)) (hP : va_P D vwCl (wM cs am th bank rnds dn N n fc pu wh kn nm sk br ht sg) H) (hD : va_D (fun _ => True) (wM cs am th bank rnds dn N n fc pu wh kn nm sk br ht sg)) : Wr l D cs 2 0 0 yX3_staked cX3_staked 1 (some .int) (wM cs am th bank rnds dn N n fc pu wh kn nm sk br ht sg) H [.ref (am 0)] post := by
  refine wr_ent (by decide) (Nat.le_of_ble_eq_true rfl) hP hD ?_
  clear hP hD H
  intro p e s m below meth c ls A Q H hx hb hr hml hown hts hlocks hin hl hK hQ hA hH hP hD hS
  clear hH
  have hl : lv_has ls 1 [(0, .ref (am 0))] := hl
  have hF0 := hF
  obtain ⟨hF3, hd1, hd3, hNe, hN1, hN, hn⟩ := hF
  refine lv_aload_n hx hb dX3_staked_0 rfl (lv_at hl 0 rfl) ?_
  refine lv_aload_n hx hb dX3_staked_1 rfl (lv_at hl 0 rfl) ?_
  refine rdV (As := []) (rest := [.ref (am 0)]) (b := am 0) ⟨hx, hb, hml, hown, hts⟩ hK 0 (m_allStakes l D cs H hP hF0) (gin_v mw_21_17 mw_21_18 mw_21_19 mw_1_5 mw_21_20) (by decide +kernel) ⟨Nat.le_of_ble_eq_true rfl, Nat.le_of_ble_eq_true rfl⟩ (va_recv hK hP (ci := 4) (q0 := 0) rfl rfl) rfl hl.1 rfl (Nat.le_of_ble_eq_true rfl) dX3_staked_2 ⟨(Nat.le_of_ble_eq_true rfl), (Nat.le_of_ble_eq_true rfl)⟩ ?_
  refine W.eq (g2 := F0 m 5 ls [.int (sm sk n), .ref (am 0)]) rfl ?_
  refine wrV (As := [.int (sm sk n)]) (rest := []) (b := am 0) ⟨hx, hb, hml, hown, hts⟩ hK 1 (m_ok l D cs H (sm sk n) (fun ov w1 => ov = some (.int (sm sk n)) ∧ w1 = wM cs am 0 bank rnds dn N n fc pu wh kn nm sk br ht sg) ⟨rfl, rfl⟩ hP (hD.weaken (fun _ _ _ _ => trivial))) (gin_v mw_6_19 mw_6_20 mw_6_21 mw_1_5 mw_6_22) (by decide +kernel) ⟨Nat.le_of_ble_eq_true rfl, Nat.le_of_ble_eq_true rfl⟩ (va_recv hK hP (ci := 4) (q0 := 0) rfl rfl) rfl hl.1 rfl (Nat.le_of_ble_eq_true rfl) dX3_staked_5 ⟨(Nat.le_of_ble_eq_true rfl), (Nat.le_of_ble_eq_true rfl)⟩ hD hS hA (fun ov9 w9 H locs hp9 hP hD hS => ?_)
  obtain ⟨rfl, rfl⟩ := hp9
  have hP : va_P D vwCl (wM cs am 0 bank rnds dn N n fc pu wh kn nm sk br ht sg) H := hP
  have hD : va_D _ (wM cs am 0 bank rnds dn N n fc pu wh kn nm sk br ht sg) := hD
  refine W.eq (g2 := F0 m 8 ls [.int (sm sk n)]) rfl ?_
  exact wr_iret hQ hx hb hr hlocks hP hD hS (hpost) dX3_staked_8
set_option maxHeartbeats 4000000 in
set_option maxRecDepth 100000 in
theorem mp_allEdgesTop (l : Launch) (D : va_G) (cs : Nat → ClassId) (H : Heap) {am : Nat → Nat} {th bank rnds : Int32} {dn N n : Nat} {fc pu wh kn nm sk br ht sg : Nat → Int32} {fn : Nat → Nat} (hF : FM fn dn N n fc) {kd : Nat → Nat} (hkd : ∀ i, i < n → kn i = nI (kd i) ∧ kd i < 10) (u : Nat) (hu1 : absI (sm (edM fn dn N kd nm sk br) n) = nI u) (hu2 : u < 2 ^ 31) (post : Option Value → va_W → Prop) (hpost : ∀ sg9 : Nat → Int32, post (some (.int (sm (edM fn dn N kd nm sk br) n / nI (Nat.gcd u N)))) (wM cs am 0 bank rnds dn N n fc pu wh kn nm sk br ht sg9)) (hP : va_P D vwCl (wM cs am th bank rnds dn N n fc pu wh kn nm sk br ht sg) H) (hD : va_D (fun _ => True) (wM cs am th bank rnds dn N n fc pu wh kn nm sk br ht sg)) : Wr l D cs 7 0 0 yX3_allEdgesTop cX3_allEdgesTop 1 (some .int) (wM cs am th bank rnds dn N n fc pu wh kn nm sk br ht sg) H [.ref (am 0)] post := by
  refine wr_ent (by decide) (Nat.le_of_ble_eq_true rfl) hP hD ?_
  clear hP hD H
  intro p e s m below meth c ls A Q H hx hb hr hml hown hts hlocks hin hl hK hQ hA hH hP hD hS
  clear hH
  have hl : lv_has ls 1 [(0, .ref (am 0))] := hl
  have hF0 := hF
  obtain ⟨hF3, hd1, hd3, hNe, hN1, hN, hn⟩ := hF
  refine lv_aload_n hx hb dX3_allEdgesTop_0 rfl (lv_at hl 0 rfl) ?_
  refine lv_aload_n hx hb dX3_allEdgesTop_1 rfl (lv_at hl 0 rfl) ?_
  refine lv_aload_n hx hb dX3_allEdgesTop_2 rfl (lv_at hl 0 rfl) ?_
  refine wrV (As := []) (rest := [.ref (am 0), .ref (am 0)]) (b := am 0) ⟨hx, hb, hml, hown, hts⟩ hK 0 (m_edges l D cs H hF0 hkd (fun ov w1 => ov = some (.int (sm (edM fn dn N kd nm sk br) n)) ∧ ∃ (sg9 : Nat → Int32), w1 = wM cs am th bank rnds dn N n fc pu wh kn nm sk br ht sg9) (fun sg9 => ⟨rfl, sg9, rfl⟩) hP (hD.weaken (fun _ _ _ _ => trivial))) (gin_v mw_24_23 mw_25_0 mw_25_1 mw_1_5 mw_25_2) (by decide +kernel) ⟨Nat.le_of_ble_eq_true rfl, Nat.le_of_ble_eq_true rfl⟩ (va_recv hK hP (ci := 4) (q0 := 0) rfl rfl) rfl hl.1 rfl (Nat.le_of_ble_eq_true rfl) dX3_allEdgesTop_3 ⟨(Nat.le_of_ble_eq_true rfl), (Nat.le_of_ble_eq_true rfl)⟩ hD hS hA (fun ov9 w9 H locs hp9 hP hD hS => ?_)
  obtain ⟨rfl, sgz1, rfl⟩ := hp9
  have hP : va_P D vwCl (wM cs am th bank rnds dn N n fc pu wh kn nm sk br ht sgz1) H := hP
  have hD : va_D _ (wM cs am th bank rnds dn N n fc pu wh kn nm sk br ht sgz1) := hD
  refine W.eq (g2 := F0 m 6 ls [.int (sm (edM fn dn N kd nm sk br) n), .ref (am 0), .ref (am 0)]) rfl ?_
  refine rdV (As := [.int (sm (edM fn dn N kd nm sk br) n)]) (rest := [.ref (am 0)]) (b := am 0) ⟨hx, hb, hml, hown, hts⟩ hK 1 (m_top l D cs H hP hF0 (sm (edM fn dn N kd nm sk br) n) u hu1 hu2) (gin_v mw_23_8 mw_23_9 mw_23_10 mw_1_5 mw_23_11) (by decide +kernel) ⟨Nat.le_of_ble_eq_true rfl, Nat.le_of_ble_eq_true rfl⟩ (va_recv hK hP (ci := 4) (q0 := 0) rfl rfl) rfl hl.1 rfl (Nat.le_of_ble_eq_true rfl) dX3_allEdgesTop_6 ⟨(Nat.le_of_ble_eq_true rfl), (Nat.le_of_ble_eq_true rfl)⟩ ?_
  refine W.eq (g2 := F0 m 9 ls [.int ((sm (edM fn dn N kd nm sk br) n) / nI (Nat.gcd u N)), .ref (am 0)]) rfl ?_
  refine wrV (As := [.int ((sm (edM fn dn N kd nm sk br) n) / nI (Nat.gcd u N))]) (rest := []) (b := am 0) ⟨hx, hb, hml, hown, hts⟩ hK 1 (m_ok l D cs H ((sm (edM fn dn N kd nm sk br) n) / nI (Nat.gcd u N)) (fun ov w1 => ov = some (.int ((sm (edM fn dn N kd nm sk br) n) / nI (Nat.gcd u N))) ∧ w1 = wM cs am 0 bank rnds dn N n fc pu wh kn nm sk br ht sgz1) ⟨rfl, rfl⟩ hP (hD.weaken (fun _ _ _ _ => trivial))) (gin_v mw_6_19 mw_6_20 mw_6_21 mw_1_5 mw_6_22) (by decide +kernel) ⟨Nat.le_of_ble_eq_true rfl, Nat.le_of_ble_eq_true rfl⟩ (va_recv hK hP (ci := 4) (q0 := 0) rfl rfl) rfl hl.1 rfl (Nat.le_of_ble_eq_true rfl) dX3_allEdgesTop_9 ⟨(Nat.le_of_ble_eq_true rfl), (Nat.le_of_ble_eq_true rfl)⟩ hD hS hA (fun ov9 w9 H locs hp9 hP hD hS => ?_)
  obtain ⟨rfl, rfl⟩ := hp9
  have hP : va_P D vwCl (wM cs am 0 bank rnds dn N n fc pu wh kn nm sk br ht sgz1) H := hP
  have hD : va_D _ (wM cs am 0 bank rnds dn N n fc pu wh kn nm sk br ht sgz1) := hD
  refine W.eq (g2 := F0 m 12 ls [.int ((sm (edM fn dn N kd nm sk br) n) / nI (Nat.gcd u N))]) rfl ?_
  exact wr_iret hQ hx hb hr hlocks hP hD hS (hpost sgz1) dX3_allEdgesTop_12
set_option maxHeartbeats 4000000 in
set_option maxRecDepth 100000 in
theorem mp_allEdgesBottom (l : Launch) (D : va_G) (cs : Nat → ClassId) (H : Heap) {am : Nat → Nat} {th bank rnds : Int32} {dn N n : Nat} {fc pu wh kn nm sk br ht sg : Nat → Int32} {fn : Nat → Nat} (hF : FM fn dn N n fc) {kd : Nat → Nat} (hkd : ∀ i, i < n → kn i = nI (kd i) ∧ kd i < 10) (u : Nat) (hu1 : absI (sm (edM fn dn N kd nm sk br) n) = nI u) (hu2 : u < 2 ^ 31) (post : Option Value → va_W → Prop) (hpost : ∀ sg9 : Nat → Int32, post (some (.int (nI N / nI (Nat.gcd u N)))) (wM cs am 0 bank rnds dn N n fc pu wh kn nm sk br ht sg9)) (hP : va_P D vwCl (wM cs am th bank rnds dn N n fc pu wh kn nm sk br ht sg) H) (hD : va_D (fun _ => True) (wM cs am th bank rnds dn N n fc pu wh kn nm sk br ht sg)) : Wr l D cs 7 0 0 yX3_allEdgesBottom cX3_allEdgesBottom 1 (some .int) (wM cs am th bank rnds dn N n fc pu wh kn nm sk br ht sg) H [.ref (am 0)] post := by
  refine wr_ent (by decide) (Nat.le_of_ble_eq_true rfl) hP hD ?_
  clear hP hD H
  intro p e s m below meth c ls A Q H hx hb hr hml hown hts hlocks hin hl hK hQ hA hH hP hD hS
  clear hH
  have hl : lv_has ls 1 [(0, .ref (am 0))] := hl
  have hF0 := hF
  obtain ⟨hF3, hd1, hd3, hNe, hN1, hN, hn⟩ := hF
  refine lv_aload_n hx hb dX3_allEdgesBottom_0 rfl (lv_at hl 0 rfl) ?_
  refine lv_aload_n hx hb dX3_allEdgesBottom_1 rfl (lv_at hl 0 rfl) ?_
  refine lv_aload_n hx hb dX3_allEdgesBottom_2 rfl (lv_at hl 0 rfl) ?_
  refine wrV (As := []) (rest := [.ref (am 0), .ref (am 0)]) (b := am 0) ⟨hx, hb, hml, hown, hts⟩ hK 0 (m_edges l D cs H hF0 hkd (fun ov w1 => ov = some (.int (sm (edM fn dn N kd nm sk br) n)) ∧ ∃ (sg9 : Nat → Int32), w1 = wM cs am th bank rnds dn N n fc pu wh kn nm sk br ht sg9) (fun sg9 => ⟨rfl, sg9, rfl⟩) hP (hD.weaken (fun _ _ _ _ => trivial))) (gin_v mw_24_23 mw_25_0 mw_25_1 mw_1_5 mw_25_2) (by decide +kernel) ⟨Nat.le_of_ble_eq_true rfl, Nat.le_of_ble_eq_true rfl⟩ (va_recv hK hP (ci := 4) (q0 := 0) rfl rfl) rfl hl.1 rfl (Nat.le_of_ble_eq_true rfl) dX3_allEdgesBottom_3 ⟨(Nat.le_of_ble_eq_true rfl), (Nat.le_of_ble_eq_true rfl)⟩ hD hS hA (fun ov9 w9 H locs hp9 hP hD hS => ?_)
  obtain ⟨rfl, sgz1, rfl⟩ := hp9
  have hP : va_P D vwCl (wM cs am th bank rnds dn N n fc pu wh kn nm sk br ht sgz1) H := hP
  have hD : va_D _ (wM cs am th bank rnds dn N n fc pu wh kn nm sk br ht sgz1) := hD
  refine W.eq (g2 := F0 m 6 ls [.int (sm (edM fn dn N kd nm sk br) n), .ref (am 0), .ref (am 0)]) rfl ?_
  refine rdV (As := [.int (sm (edM fn dn N kd nm sk br) n)]) (rest := [.ref (am 0)]) (b := am 0) ⟨hx, hb, hml, hown, hts⟩ hK 1 (m_bottom l D cs H hP hF0 (sm (edM fn dn N kd nm sk br) n) u hu1 hu2) (gin_v mw_24_7 mw_24_8 mw_24_9 mw_1_5 mw_24_10) (by decide +kernel) ⟨Nat.le_of_ble_eq_true rfl, Nat.le_of_ble_eq_true rfl⟩ (va_recv hK hP (ci := 4) (q0 := 0) rfl rfl) rfl hl.1 rfl (Nat.le_of_ble_eq_true rfl) dX3_allEdgesBottom_6 ⟨(Nat.le_of_ble_eq_true rfl), (Nat.le_of_ble_eq_true rfl)⟩ ?_
  refine W.eq (g2 := F0 m 9 ls [.int (nI N / nI (Nat.gcd u N)), .ref (am 0)]) rfl ?_
  refine wrV (As := [.int (nI N / nI (Nat.gcd u N))]) (rest := []) (b := am 0) ⟨hx, hb, hml, hown, hts⟩ hK 1 (m_ok l D cs H (nI N / nI (Nat.gcd u N)) (fun ov w1 => ov = some (.int (nI N / nI (Nat.gcd u N))) ∧ w1 = wM cs am 0 bank rnds dn N n fc pu wh kn nm sk br ht sgz1) ⟨rfl, rfl⟩ hP (hD.weaken (fun _ _ _ _ => trivial))) (gin_v mw_6_19 mw_6_20 mw_6_21 mw_1_5 mw_6_22) (by decide +kernel) ⟨Nat.le_of_ble_eq_true rfl, Nat.le_of_ble_eq_true rfl⟩ (va_recv hK hP (ci := 4) (q0 := 0) rfl rfl) rfl hl.1 rfl (Nat.le_of_ble_eq_true rfl) dX3_allEdgesBottom_9 ⟨(Nat.le_of_ble_eq_true rfl), (Nat.le_of_ble_eq_true rfl)⟩ hD hS hA (fun ov9 w9 H locs hp9 hP hD hS => ?_)
  obtain ⟨rfl, rfl⟩ := hp9
  have hP : va_P D vwCl (wM cs am 0 bank rnds dn N n fc pu wh kn nm sk br ht sgz1) H := hP
  have hD : va_D _ (wM cs am 0 bank rnds dn N n fc pu wh kn nm sk br ht sgz1) := hD
  refine W.eq (g2 := F0 m 12 ls [.int (nI N / nI (Nat.gcd u N))]) rfl ?_
  exact wr_iret hQ hx hb hr hlocks hP hD hS (hpost sgz1) dX3_allEdgesBottom_12
set_option maxHeartbeats 4000000 in
set_option maxRecDepth 100000 in
theorem mp_dearestWager (l : Launch) (D : va_G) (cs : Nat → ClassId) (H : Heap) {am : Nat → Nat} {th bank rnds : Int32} {dn N n : Nat} {fc pu wh kn nm sk br ht sg : Nat → Int32} {fn : Nat → Nat} (hF : FM fn dn N n fc) {kd : Nat → Nat} (hkd : ∀ i, i < n → kn i = nI (kd i) ∧ kd i < 10) (post : Option Value → va_W → Prop) (hpost : ∀ sg9 : Nat → Int32, post (some (.int (fst9I (drM (edM fn dn N kd nm sk br) sk n)))) (wM cs am 0 bank rnds dn N n fc pu wh kn nm sk br ht sg9)) (hP : va_P D vwCl (wM cs am th bank rnds dn N n fc pu wh kn nm sk br ht sg) H) (hD : va_D (fun _ => True) (wM cs am th bank rnds dn N n fc pu wh kn nm sk br ht sg)) : Wr l D cs 7 0 0 yX3_dearestWager cX3_dearestWager 1 (some .int) (wM cs am th bank rnds dn N n fc pu wh kn nm sk br ht sg) H [.ref (am 0)] post := by
  refine wr_ent (by decide) (Nat.le_of_ble_eq_true rfl) hP hD ?_
  clear hP hD H
  intro p e s m below meth c ls A Q H hx hb hr hml hown hts hlocks hin hl hK hQ hA hH hP hD hS
  clear hH
  have hl : lv_has ls 1 [(0, .ref (am 0))] := hl
  have hF0 := hF
  obtain ⟨hF3, hd1, hd3, hNe, hN1, hN, hn⟩ := hF
  refine lv_aload_n hx hb dX3_dearestWager_0 rfl (lv_at hl 0 rfl) ?_
  refine lv_aload_n hx hb dX3_dearestWager_1 rfl (lv_at hl 0 rfl) ?_
  refine wrV (As := []) (rest := [.ref (am 0)]) (b := am 0) ⟨hx, hb, hml, hown, hts⟩ hK 0 (m_dear l D cs H hF0 hkd (fun ov w1 => ov = some (.int (fst9I (drM (edM fn dn N kd nm sk br) sk n))) ∧ ∃ (sg9 : Nat → Int32), w1 = wM cs am th bank rnds dn N n fc pu wh kn nm sk br ht sg9) (fun sg9 => ⟨rfl, sg9, rfl⟩) hP (hD.weaken (fun _ _ _ _ => trivial))) (gin_v mw_25_19 mw_25_20 mw_25_21 mw_1_5 mw_25_22) (by decide +kernel) ⟨Nat.le_of_ble_eq_true rfl, Nat.le_of_ble_eq_true rfl⟩ (va_recv hK hP (ci := 4) (q0 := 0) rfl rfl) rfl hl.1 rfl (Nat.le_of_ble_eq_true rfl) dX3_dearestWager_2 ⟨(Nat.le_of_ble_eq_true rfl), (Nat.le_of_ble_eq_true rfl)⟩ hD hS hA (fun ov9 w9 H locs hp9 hP hD hS => ?_)
  obtain ⟨rfl, sgz1, rfl⟩ := hp9
  have hP : va_P D vwCl (wM cs am th bank rnds dn N n fc pu wh kn nm sk br ht sgz1) H := hP
  have hD : va_D _ (wM cs am th bank rnds dn N n fc pu wh kn nm sk br ht sgz1) := hD
  refine W.eq (g2 := F0 m 5 ls [.int (fst9I (drM (edM fn dn N kd nm sk br) sk n)), .ref (am 0)]) rfl ?_
  refine wrV (As := [.int (fst9I (drM (edM fn dn N kd nm sk br) sk n))]) (rest := []) (b := am 0) ⟨hx, hb, hml, hown, hts⟩ hK 1 (m_ok l D cs H (fst9I (drM (edM fn dn N kd nm sk br) sk n)) (fun ov w1 => ov = some (.int (fst9I (drM (edM fn dn N kd nm sk br) sk n))) ∧ w1 = wM cs am 0 bank rnds dn N n fc pu wh kn nm sk br ht sgz1) ⟨rfl, rfl⟩ hP (hD.weaken (fun _ _ _ _ => trivial))) (gin_v mw_6_19 mw_6_20 mw_6_21 mw_1_5 mw_6_22) (by decide +kernel) ⟨Nat.le_of_ble_eq_true rfl, Nat.le_of_ble_eq_true rfl⟩ (va_recv hK hP (ci := 4) (q0 := 0) rfl rfl) rfl hl.1 rfl (Nat.le_of_ble_eq_true rfl) dX3_dearestWager_5 ⟨(Nat.le_of_ble_eq_true rfl), (Nat.le_of_ble_eq_true rfl)⟩ hD hS hA (fun ov9 w9 H locs hp9 hP hD hS => ?_)
  obtain ⟨rfl, rfl⟩ := hp9
  have hP : va_P D vwCl (wM cs am 0 bank rnds dn N n fc pu wh kn nm sk br ht sgz1) H := hP
  have hD : va_D _ (wM cs am 0 bank rnds dn N n fc pu wh kn nm sk br ht sgz1) := hD
  refine W.eq (g2 := F0 m 8 ls [.int (fst9I (drM (edM fn dn N kd nm sk br) sk n))]) rfl ?_
  exact wr_iret hQ hx hb hr hlocks hP hD hS (hpost sgz1) dX3_dearestWager_8
set_option maxHeartbeats 4000000 in
set_option maxRecDepth 100000 in
theorem mp_worstGain (l : Launch) (D : va_G) (cs : Nat → ClassId) (H : Heap) {am : Nat → Nat} {th bank rnds : Int32} {dn N n : Nat} {fc pu wh kn nm sk br ht sg : Nat → Int32} {fn : Nat → Nat} (hF : FM fn dn N n fc) (post : Option Value → va_W → Prop) (hpost : post (some (.int (sm (gnM ht sk br (wst (fun o => sm (gnM ht sk br o) n) N)) n))) (wM cs am 0 bank rnds dn N n fc pu wh kn nm sk br ht sg)) (hP : va_P D vwCl (wM cs am th bank rnds dn N n fc pu wh kn nm sk br ht sg) H) (hD : va_D (fun _ => True) (wM cs am th bank rnds dn N n fc pu wh kn nm sk br ht sg)) : Wr l D cs 3 0 0 yX3_worstGain cX3_worstGain 1 (some .int) (wM cs am th bank rnds dn N n fc pu wh kn nm sk br ht sg) H [.ref (am 0)] post := by
  refine wr_ent (by decide) (Nat.le_of_ble_eq_true rfl) hP hD ?_
  clear hP hD H
  intro p e s m below meth c ls A Q H hx hb hr hml hown hts hlocks hin hl hK hQ hA hH hP hD hS
  clear hH
  have hl : lv_has ls 1 [(0, .ref (am 0))] := hl
  have hF0 := hF
  obtain ⟨hF3, hd1, hd3, hNe, hN1, hN, hn⟩ := hF
  have hw9 := wst_lt (fun o => sm (gnM ht sk br o) n) hN1
  refine lv_aload_n hx hb dX3_worstGain_0 rfl (lv_at hl 0 rfl) ?_
  refine lv_aload_n hx hb dX3_worstGain_1 rfl (lv_at hl 0 rfl) ?_
  refine lv_aload_n hx hb dX3_worstGain_2 rfl (lv_at hl 0 rfl) ?_
  refine rdV (As := []) (rest := [.ref (am 0), .ref (am 0)]) (b := am 0) ⟨hx, hb, hml, hown, hts⟩ hK 0 (m_worst l D cs H hP hF0) (gin_v mw_26_22 mw_26_23 mw_27_0 mw_1_5 mw_27_1) (by decide +kernel) ⟨Nat.le_of_ble_eq_true rfl, Nat.le_of_ble_eq_true rfl⟩ (va_recv hK hP (ci := 4) (q0 := 0) rfl rfl) rfl hl.1 rfl (Nat.le_of_ble_eq_true rfl) dX3_worstGain_3 ⟨(Nat.le_of_ble_eq_true rfl), (Nat.le_of_ble_eq_true rfl)⟩ ?_
  refine W.eq (g2 := F0 m 6 ls [.int (nI (wst (fun o => sm (gnM ht sk br o) n) N)), .ref (am 0), .ref (am 0)]) rfl ?_
  refine rdV (As := [.int (nI (wst (fun o => sm (gnM ht sk br o) n) N))]) (rest := [.ref (am 0)]) (b := am 0) ⟨hx, hb, hml, hown, hts⟩ hK 1 (m_gain l D cs H hP hF0 ((wst (fun o => sm (gnM ht sk br o) n) N)) (by omega)) (gin_v mw_18_5 mw_18_6 mw_18_7 mw_1_5 mw_18_8) (by decide +kernel) ⟨Nat.le_of_ble_eq_true rfl, Nat.le_of_ble_eq_true rfl⟩ (va_recv hK hP (ci := 4) (q0 := 0) rfl rfl) rfl hl.1 rfl (Nat.le_of_ble_eq_true rfl) dX3_worstGain_6 ⟨(Nat.le_of_ble_eq_true rfl), (Nat.le_of_ble_eq_true rfl)⟩ ?_
  refine W.eq (g2 := F0 m 9 ls [.int (sm (gnM ht sk br ((wst (fun o => sm (gnM ht sk br o) n) N))) n), .ref (am 0)]) rfl ?_
  refine wrV (As := [.int (sm (gnM ht sk br ((wst (fun o => sm (gnM ht sk br o) n) N))) n)]) (rest := []) (b := am 0) ⟨hx, hb, hml, hown, hts⟩ hK 1 (m_ok l D cs H (sm (gnM ht sk br ((wst (fun o => sm (gnM ht sk br o) n) N))) n) (fun ov w1 => ov = some (.int (sm (gnM ht sk br ((wst (fun o => sm (gnM ht sk br o) n) N))) n)) ∧ w1 = wM cs am 0 bank rnds dn N n fc pu wh kn nm sk br ht sg) ⟨rfl, rfl⟩ hP (hD.weaken (fun _ _ _ _ => trivial))) (gin_v mw_6_19 mw_6_20 mw_6_21 mw_1_5 mw_6_22) (by decide +kernel) ⟨Nat.le_of_ble_eq_true rfl, Nat.le_of_ble_eq_true rfl⟩ (va_recv hK hP (ci := 4) (q0 := 0) rfl rfl) rfl hl.1 rfl (Nat.le_of_ble_eq_true rfl) dX3_worstGain_9 ⟨(Nat.le_of_ble_eq_true rfl), (Nat.le_of_ble_eq_true rfl)⟩ hD hS hA (fun ov9 w9 H locs hp9 hP hD hS => ?_)
  obtain ⟨rfl, rfl⟩ := hp9
  have hP : va_P D vwCl (wM cs am 0 bank rnds dn N n fc pu wh kn nm sk br ht sg) H := hP
  have hD : va_D _ (wM cs am 0 bank rnds dn N n fc pu wh kn nm sk br ht sg) := hD
  refine W.eq (g2 := F0 m 12 ls [.int (sm (gnM ht sk br ((wst (fun o => sm (gnM ht sk br o) n) N))) n)]) rfl ?_
  exact wr_iret hQ hx hb hr hlocks hP hD hS (hpost) dX3_worstGain_12
set_option maxHeartbeats 4000000 in
set_option maxRecDepth 100000 in
theorem mp_worstOutcome (l : Launch) (D : va_G) (cs : Nat → ClassId) (H : Heap) {am : Nat → Nat} {th bank rnds : Int32} {dn N n : Nat} {fc pu wh kn nm sk br ht sg : Nat → Int32} {fn : Nat → Nat} (hF : FM fn dn N n fc) (post : Option Value → va_W → Prop) (hpost : post (some (.int (nI (wst (fun o => sm (gnM ht sk br o) n) N)))) (wM cs am 0 bank rnds dn N n fc pu wh kn nm sk br ht sg)) (hP : va_P D vwCl (wM cs am th bank rnds dn N n fc pu wh kn nm sk br ht sg) H) (hD : va_D (fun _ => True) (wM cs am th bank rnds dn N n fc pu wh kn nm sk br ht sg)) : Wr l D cs 3 0 0 yX3_worstOutcome cX3_worstOutcome 1 (some .int) (wM cs am th bank rnds dn N n fc pu wh kn nm sk br ht sg) H [.ref (am 0)] post := by
  refine wr_ent (by decide) (Nat.le_of_ble_eq_true rfl) hP hD ?_
  clear hP hD H
  intro p e s m below meth c ls A Q H hx hb hr hml hown hts hlocks hin hl hK hQ hA hH hP hD hS
  clear hH
  have hl : lv_has ls 1 [(0, .ref (am 0))] := hl
  have hF0 := hF
  obtain ⟨hF3, hd1, hd3, hNe, hN1, hN, hn⟩ := hF
  refine lv_aload_n hx hb dX3_worstOutcome_0 rfl (lv_at hl 0 rfl) ?_
  refine lv_aload_n hx hb dX3_worstOutcome_1 rfl (lv_at hl 0 rfl) ?_
  refine rdV (As := []) (rest := [.ref (am 0)]) (b := am 0) ⟨hx, hb, hml, hown, hts⟩ hK 0 (m_worst l D cs H hP hF0) (gin_v mw_26_22 mw_26_23 mw_27_0 mw_1_5 mw_27_1) (by decide +kernel) ⟨Nat.le_of_ble_eq_true rfl, Nat.le_of_ble_eq_true rfl⟩ (va_recv hK hP (ci := 4) (q0 := 0) rfl rfl) rfl hl.1 rfl (Nat.le_of_ble_eq_true rfl) dX3_worstOutcome_2 ⟨(Nat.le_of_ble_eq_true rfl), (Nat.le_of_ble_eq_true rfl)⟩ ?_
  refine W.eq (g2 := F0 m 5 ls [.int (nI (wst (fun o => sm (gnM ht sk br o) n) N)), .ref (am 0)]) rfl ?_
  refine wrV (As := [.int (nI (wst (fun o => sm (gnM ht sk br o) n) N))]) (rest := []) (b := am 0) ⟨hx, hb, hml, hown, hts⟩ hK 1 (m_ok l D cs H (nI (wst (fun o => sm (gnM ht sk br o) n) N)) (fun ov w1 => ov = some (.int (nI (wst (fun o => sm (gnM ht sk br o) n) N))) ∧ w1 = wM cs am 0 bank rnds dn N n fc pu wh kn nm sk br ht sg) ⟨rfl, rfl⟩ hP (hD.weaken (fun _ _ _ _ => trivial))) (gin_v mw_6_19 mw_6_20 mw_6_21 mw_1_5 mw_6_22) (by decide +kernel) ⟨Nat.le_of_ble_eq_true rfl, Nat.le_of_ble_eq_true rfl⟩ (va_recv hK hP (ci := 4) (q0 := 0) rfl rfl) rfl hl.1 rfl (Nat.le_of_ble_eq_true rfl) dX3_worstOutcome_5 ⟨(Nat.le_of_ble_eq_true rfl), (Nat.le_of_ble_eq_true rfl)⟩ hD hS hA (fun ov9 w9 H locs hp9 hP hD hS => ?_)
  obtain ⟨rfl, rfl⟩ := hp9
  have hP : va_P D vwCl (wM cs am 0 bank rnds dn N n fc pu wh kn nm sk br ht sg) H := hP
  have hD : va_D _ (wM cs am 0 bank rnds dn N n fc pu wh kn nm sk br ht sg) := hD
  refine W.eq (g2 := F0 m 8 ls [.int (nI (wst (fun o => sm (gnM ht sk br o) n) N))]) rfl ?_
  exact wr_iret hQ hx hb hr hlocks hP hD hS (hpost) dX3_worstOutcome_8
set_option maxHeartbeats 4000000 in
set_option maxRecDepth 100000 in
theorem mp_sumOf (l : Launch) (D : va_G) (cs : Nat → ClassId) (H : Heap) {am : Nat → Nat} {th bank rnds : Int32} {dn N n : Nat} {fc pu wh kn nm sk br ht sg : Nat → Int32} {fn : Nat → Nat} (hF : FM fn dn N n fc) (o : Nat) (ho : o < N) (hv : inM (nI o) 0 (nI N - 1) = true) (post : Option Value → va_W → Prop) (hpost : post (some (.int (nI (smN (fcN fn o) dn)))) (wM cs am 0 bank rnds dn N n fc pu wh kn nm sk br ht sg)) (hP : va_P D vwCl (wM cs am th bank rnds dn N n fc pu wh kn nm sk br ht sg) H) (hD : va_D (fun _ => True) (wM cs am th bank rnds dn N n fc pu wh kn nm sk br ht sg)) : Wr l D cs 4 0 0 yX3_sumOf cX3_sumOf 2 (some .int) (wM cs am th bank rnds dn N n fc pu wh kn nm sk br ht sg) H [.ref (am 0), .int (nI o)] post := by
  refine wr_ent (by decide) (Nat.le_of_ble_eq_true rfl) hP hD ?_
  clear hP hD H
  intro p e s m below meth c ls A Q H hx hb hr hml hown hts hlocks hin hl hK hQ hA hH hP hD hS
  clear hH
  have hl : lv_has ls 2 [(0, .ref (am 0)), (1, .int (nI o))] := hl
  have hF0 := hF
  obtain ⟨hF3, hd1, hd3, hNe, hN1, hN, hn⟩ := hF
  refine lv_aload_n hx hb dX3_sumOf_0 rfl (lv_at hl 0 rfl) ?_
  refine lv_iconst (v := 0) hx hb dX3_sumOf_1 (by first | decide | rfl) ?_
  refine va_put (D := D) (ci := 4) (v := .int 0) (ty := .int) (C := RX3) (T := TX3) (N := 15) hx hb hts inlX3 tyX3 tyX3_ok nmX3 hown hK hP hD hS 0 rfl rfl 0 (by decide) (hts (Cond.fieldLink RX3 48 "TavernDiceModel" "thrown" "I") mw_5_15) (fun _ h9 => h9) rfl (by decide +kernel) rfl rfl (Nat.le_of_ble_eq_true rfl) dX3_sumOf_2 (fun H locs hP hD hS => ?_)
  have hP : va_P D vwCl (wM cs am 0 bank rnds dn N n fc pu wh kn nm sk br ht sg) H := hP
  have hD : va_D _ (wM cs am 0 bank rnds dn N n fc pu wh kn nm sk br ht sg) := hD
  refine lv_aload_n hx hb dX3_sumOf_5 rfl (lv_at hl 0 rfl) ?_
  refine lv_iload_n hx hb dX3_sumOf_6 rfl (lv_at hl 1 rfl) ?_
  refine rdV (As := [.int (nI o)]) (rest := []) (b := am 0) ⟨hx, hb, hml, hown, hts⟩ hK 1 (m_isOutcome l D cs H hP hF0 (nI o)) (gin_v mw_8_2 mw_8_3 mw_8_4 mw_1_5 mw_8_5) (by decide +kernel) ⟨Nat.le_of_ble_eq_true rfl, Nat.le_of_ble_eq_true rfl⟩ (va_recv hK hP (ci := 4) (q0 := 0) rfl rfl) rfl hl.1 rfl (Nat.le_of_ble_eq_true rfl) dX3_sumOf_7 ⟨(Nat.le_of_ble_eq_true rfl), (Nat.le_of_ble_eq_true rfl)⟩ ?_
  refine W.eq (g2 := F0 m 10 ls [.int (b2i (inM (nI o) 0 (nI N - 1)))]) rfl ?_
  refine lv_if_eq (tgt := 21) hx hb dX3_sumOf_10 (by decide) (fun c_1 => False.elim (absurd c_1 ((b2i_ne0 _).mpr hv))) (fun c_1 => ?_)
  refine lv_aload_n hx hb dX3_sumOf_13 rfl (lv_at hl 0 rfl) ?_
  refine lv_iload_n hx hb dX3_sumOf_14 rfl (lv_at hl 1 rfl) ?_
  refine rdV (As := [.int (nI o)]) (rest := []) (b := am 0) ⟨hx, hb, hml, hown, hts⟩ hK 1 (m_sum l D cs H hP hF0 o (by omega)) (gin_v mw_8_6 mw_8_7 mw_8_8 mw_1_5 mw_8_9) (by decide +kernel) ⟨Nat.le_of_ble_eq_true rfl, Nat.le_of_ble_eq_true rfl⟩ (va_recv hK hP (ci := 4) (q0 := 0) rfl rfl) rfl hl.1 rfl (Nat.le_of_ble_eq_true rfl) dX3_sumOf_15 ⟨(Nat.le_of_ble_eq_true rfl), (Nat.le_of_ble_eq_true rfl)⟩ ?_
  refine W.eq (g2 := F0 m 18 ls [.int (nI (smN (fcN fn o) dn))]) rfl ?_
  refine lv_goto (tgt := 26) hx hb dX3_sumOf_18 (by decide) ?_
  exact wr_iret hQ hx hb hr hlocks hP hD hS (hpost) dX3_sumOf_26
set_option maxHeartbeats 4000000 in
set_option maxRecDepth 100000 in
theorem mp_sumOf_no (l : Launch) (D : va_G) (cs : Nat → ClassId) (H : Heap) {am : Nat → Nat} {th bank rnds : Int32} {dn N n : Nat} {fc pu wh kn nm sk br ht sg : Nat → Int32} {fn : Nat → Nat} (hF : FM fn dn N n fc) (w : Int32) (hv : inM w 0 (nI N - 1) = false) (post : Option Value → va_W → Prop) (hpost : post (some (.int (0))) (wM cs am 1 bank rnds dn N n fc pu wh kn nm sk br ht sg)) (hP : va_P D vwCl (wM cs am th bank rnds dn N n fc pu wh kn nm sk br ht sg) H) (hD : va_D (fun _ => True) (wM cs am th bank rnds dn N n fc pu wh kn nm sk br ht sg)) : Wr l D cs 4 0 0 yX3_sumOf cX3_sumOf 2 (some .int) (wM cs am th bank rnds dn N n fc pu wh kn nm sk br ht sg) H [.ref (am 0), .int w] post := by
  refine wr_ent (by decide) (Nat.le_of_ble_eq_true rfl) hP hD ?_
  clear hP hD H
  intro p e s m below meth c ls A Q H hx hb hr hml hown hts hlocks hin hl hK hQ hA hH hP hD hS
  clear hH
  have hl : lv_has ls 2 [(0, .ref (am 0)), (1, .int w)] := hl
  have hF0 := hF
  obtain ⟨hF3, hd1, hd3, hNe, hN1, hN, hn⟩ := hF
  refine lv_aload_n hx hb dX3_sumOf_0 rfl (lv_at hl 0 rfl) ?_
  refine lv_iconst (v := 0) hx hb dX3_sumOf_1 (by first | decide | rfl) ?_
  refine va_put (D := D) (ci := 4) (v := .int 0) (ty := .int) (C := RX3) (T := TX3) (N := 15) hx hb hts inlX3 tyX3 tyX3_ok nmX3 hown hK hP hD hS 0 rfl rfl 0 (by decide) (hts (Cond.fieldLink RX3 48 "TavernDiceModel" "thrown" "I") mw_5_15) (fun _ h9 => h9) rfl (by decide +kernel) rfl rfl (Nat.le_of_ble_eq_true rfl) dX3_sumOf_2 (fun H locs hP hD hS => ?_)
  have hP : va_P D vwCl (wM cs am 0 bank rnds dn N n fc pu wh kn nm sk br ht sg) H := hP
  have hD : va_D _ (wM cs am 0 bank rnds dn N n fc pu wh kn nm sk br ht sg) := hD
  refine lv_aload_n hx hb dX3_sumOf_5 rfl (lv_at hl 0 rfl) ?_
  refine lv_iload_n hx hb dX3_sumOf_6 rfl (lv_at hl 1 rfl) ?_
  refine rdV (As := [.int w]) (rest := []) (b := am 0) ⟨hx, hb, hml, hown, hts⟩ hK 1 (m_isOutcome l D cs H hP hF0 w) (gin_v mw_8_2 mw_8_3 mw_8_4 mw_1_5 mw_8_5) (by decide +kernel) ⟨Nat.le_of_ble_eq_true rfl, Nat.le_of_ble_eq_true rfl⟩ (va_recv hK hP (ci := 4) (q0 := 0) rfl rfl) rfl hl.1 rfl (Nat.le_of_ble_eq_true rfl) dX3_sumOf_7 ⟨(Nat.le_of_ble_eq_true rfl), (Nat.le_of_ble_eq_true rfl)⟩ ?_
  refine W.eq (g2 := F0 m 10 ls [.int (b2i (inM w 0 (nI N - 1)))]) rfl ?_
  refine lv_if_eq (tgt := 21) hx hb dX3_sumOf_10 (by decide) (fun c_1 => ?_) (fun c_1 => False.elim (c_1 ((b2i_eq0 _).mpr hv)))
  refine lv_aload_n hx hb dX3_sumOf_21 rfl (lv_at hl 0 rfl) ?_
  refine lv_iconst (v := 1) hx hb dX3_sumOf_22 (by first | decide | rfl) ?_
  refine wrV (As := [.int 1]) (rest := []) (b := am 0) ⟨hx, hb, hml, hown, hts⟩ hK 1 (m_no l D cs H 1 (fun ov w1 => ov = some (.int 0) ∧ w1 = wM cs am 1 bank rnds dn N n fc pu wh kn nm sk br ht sg) ⟨rfl, rfl⟩ hP (hD.weaken (fun _ _ _ _ => trivial))) (gin_v mw_6_2 mw_6_3 mw_6_4 mw_1_5 mw_6_5) (by decide +kernel) ⟨Nat.le_of_ble_eq_true rfl, Nat.le_of_ble_eq_true rfl⟩ (va_recv hK hP (ci := 4) (q0 := 0) rfl rfl) rfl hl.1 rfl (Nat.le_of_ble_eq_true rfl) dX3_sumOf_23 ⟨(Nat.le_of_ble_eq_true rfl), (Nat.le_of_ble_eq_true rfl)⟩ hD hS hA (fun ov9 w9 H locs hp9 hP hD hS => ?_)
  obtain ⟨rfl, rfl⟩ := hp9
  have hP : va_P D vwCl (wM cs am 1 bank rnds dn N n fc pu wh kn nm sk br ht sg) H := hP
  have hD : va_D _ (wM cs am 1 bank rnds dn N n fc pu wh kn nm sk br ht sg) := hD
  refine W.eq (g2 := F0 m 26 ls [.int 0]) rfl ?_
  exact wr_iret hQ hx hb hr hlocks hP hD hS (hpost) dX3_sumOf_26
set_option maxHeartbeats 4000000 in
set_option maxRecDepth 100000 in
theorem mp_gainAt (l : Launch) (D : va_G) (cs : Nat → ClassId) (H : Heap) {am : Nat → Nat} {th bank rnds : Int32} {dn N n : Nat} {fc pu wh kn nm sk br ht sg : Nat → Int32} {fn : Nat → Nat} (hF : FM fn dn N n fc) (o : Nat) (ho : o < N) (hv : inM (nI o) 0 (nI N - 1) = true) (post : Option Value → va_W → Prop) (hpost : post (some (.int (sm (gnM ht sk br o) n))) (wM cs am 0 bank rnds dn N n fc pu wh kn nm sk br ht sg)) (hP : va_P D vwCl (wM cs am th bank rnds dn N n fc pu wh kn nm sk br ht sg) H) (hD : va_D (fun _ => True) (wM cs am th bank rnds dn N n fc pu wh kn nm sk br ht sg)) : Wr l D cs 4 0 0 yX3_gainAt cX3_gainAt 2 (some .int) (wM cs am th bank rnds dn N n fc pu wh kn nm sk br ht sg) H [.ref (am 0), .int (nI o)] post := by
  refine wr_ent (by decide) (Nat.le_of_ble_eq_true rfl) hP hD ?_
  clear hP hD H
  intro p e s m below meth c ls A Q H hx hb hr hml hown hts hlocks hin hl hK hQ hA hH hP hD hS
  clear hH
  have hl : lv_has ls 2 [(0, .ref (am 0)), (1, .int (nI o))] := hl
  have hF0 := hF
  obtain ⟨hF3, hd1, hd3, hNe, hN1, hN, hn⟩ := hF
  refine lv_aload_n hx hb dX3_gainAt_0 rfl (lv_at hl 0 rfl) ?_
  refine lv_iconst (v := 0) hx hb dX3_gainAt_1 (by first | decide | rfl) ?_
  refine va_put (D := D) (ci := 4) (v := .int 0) (ty := .int) (C := RX3) (T := TX3) (N := 15) hx hb hts inlX3 tyX3 tyX3_ok nmX3 hown hK hP hD hS 0 rfl rfl 0 (by decide) (hts (Cond.fieldLink RX3 48 "TavernDiceModel" "thrown" "I") mw_5_15) (fun _ h9 => h9) rfl (by decide +kernel) rfl rfl (Nat.le_of_ble_eq_true rfl) dX3_gainAt_2 (fun H locs hP hD hS => ?_)
  have hP : va_P D vwCl (wM cs am 0 bank rnds dn N n fc pu wh kn nm sk br ht sg) H := hP
  have hD : va_D _ (wM cs am 0 bank rnds dn N n fc pu wh kn nm sk br ht sg) := hD
  refine lv_aload_n hx hb dX3_gainAt_5 rfl (lv_at hl 0 rfl) ?_
  refine lv_iload_n hx hb dX3_gainAt_6 rfl (lv_at hl 1 rfl) ?_
  refine rdV (As := [.int (nI o)]) (rest := []) (b := am 0) ⟨hx, hb, hml, hown, hts⟩ hK 1 (m_isOutcome l D cs H hP hF0 (nI o)) (gin_v mw_8_2 mw_8_3 mw_8_4 mw_1_5 mw_8_5) (by decide +kernel) ⟨Nat.le_of_ble_eq_true rfl, Nat.le_of_ble_eq_true rfl⟩ (va_recv hK hP (ci := 4) (q0 := 0) rfl rfl) rfl hl.1 rfl (Nat.le_of_ble_eq_true rfl) dX3_gainAt_7 ⟨(Nat.le_of_ble_eq_true rfl), (Nat.le_of_ble_eq_true rfl)⟩ ?_
  refine W.eq (g2 := F0 m 10 ls [.int (b2i (inM (nI o) 0 (nI N - 1)))]) rfl ?_
  refine lv_if_eq (tgt := 21) hx hb dX3_gainAt_10 (by decide) (fun c_1 => False.elim (absurd c_1 ((b2i_ne0 _).mpr hv))) (fun c_1 => ?_)
  refine lv_aload_n hx hb dX3_gainAt_13 rfl (lv_at hl 0 rfl) ?_
  refine lv_iload_n hx hb dX3_gainAt_14 rfl (lv_at hl 1 rfl) ?_
  refine rdV (As := [.int (nI o)]) (rest := []) (b := am 0) ⟨hx, hb, hml, hown, hts⟩ hK 1 (m_gain l D cs H hP hF0 o (by omega)) (gin_v mw_18_5 mw_18_6 mw_18_7 mw_1_5 mw_18_8) (by decide +kernel) ⟨Nat.le_of_ble_eq_true rfl, Nat.le_of_ble_eq_true rfl⟩ (va_recv hK hP (ci := 4) (q0 := 0) rfl rfl) rfl hl.1 rfl (Nat.le_of_ble_eq_true rfl) dX3_gainAt_15 ⟨(Nat.le_of_ble_eq_true rfl), (Nat.le_of_ble_eq_true rfl)⟩ ?_
  refine W.eq (g2 := F0 m 18 ls [.int (sm (gnM ht sk br o) n)]) rfl ?_
  refine lv_goto (tgt := 26) hx hb dX3_gainAt_18 (by decide) ?_
  exact wr_iret hQ hx hb hr hlocks hP hD hS (hpost) dX3_gainAt_26
set_option maxHeartbeats 4000000 in
set_option maxRecDepth 100000 in
theorem mp_gainAt_no (l : Launch) (D : va_G) (cs : Nat → ClassId) (H : Heap) {am : Nat → Nat} {th bank rnds : Int32} {dn N n : Nat} {fc pu wh kn nm sk br ht sg : Nat → Int32} {fn : Nat → Nat} (hF : FM fn dn N n fc) (w : Int32) (hv : inM w 0 (nI N - 1) = false) (post : Option Value → va_W → Prop) (hpost : post (some (.int (0))) (wM cs am 1 bank rnds dn N n fc pu wh kn nm sk br ht sg)) (hP : va_P D vwCl (wM cs am th bank rnds dn N n fc pu wh kn nm sk br ht sg) H) (hD : va_D (fun _ => True) (wM cs am th bank rnds dn N n fc pu wh kn nm sk br ht sg)) : Wr l D cs 4 0 0 yX3_gainAt cX3_gainAt 2 (some .int) (wM cs am th bank rnds dn N n fc pu wh kn nm sk br ht sg) H [.ref (am 0), .int w] post := by
  refine wr_ent (by decide) (Nat.le_of_ble_eq_true rfl) hP hD ?_
  clear hP hD H
  intro p e s m below meth c ls A Q H hx hb hr hml hown hts hlocks hin hl hK hQ hA hH hP hD hS
  clear hH
  have hl : lv_has ls 2 [(0, .ref (am 0)), (1, .int w)] := hl
  have hF0 := hF
  obtain ⟨hF3, hd1, hd3, hNe, hN1, hN, hn⟩ := hF
  refine lv_aload_n hx hb dX3_gainAt_0 rfl (lv_at hl 0 rfl) ?_
  refine lv_iconst (v := 0) hx hb dX3_gainAt_1 (by first | decide | rfl) ?_
  refine va_put (D := D) (ci := 4) (v := .int 0) (ty := .int) (C := RX3) (T := TX3) (N := 15) hx hb hts inlX3 tyX3 tyX3_ok nmX3 hown hK hP hD hS 0 rfl rfl 0 (by decide) (hts (Cond.fieldLink RX3 48 "TavernDiceModel" "thrown" "I") mw_5_15) (fun _ h9 => h9) rfl (by decide +kernel) rfl rfl (Nat.le_of_ble_eq_true rfl) dX3_gainAt_2 (fun H locs hP hD hS => ?_)
  have hP : va_P D vwCl (wM cs am 0 bank rnds dn N n fc pu wh kn nm sk br ht sg) H := hP
  have hD : va_D _ (wM cs am 0 bank rnds dn N n fc pu wh kn nm sk br ht sg) := hD
  refine lv_aload_n hx hb dX3_gainAt_5 rfl (lv_at hl 0 rfl) ?_
  refine lv_iload_n hx hb dX3_gainAt_6 rfl (lv_at hl 1 rfl) ?_
  refine rdV (As := [.int w]) (rest := []) (b := am 0) ⟨hx, hb, hml, hown, hts⟩ hK 1 (m_isOutcome l D cs H hP hF0 w) (gin_v mw_8_2 mw_8_3 mw_8_4 mw_1_5 mw_8_5) (by decide +kernel) ⟨Nat.le_of_ble_eq_true rfl, Nat.le_of_ble_eq_true rfl⟩ (va_recv hK hP (ci := 4) (q0 := 0) rfl rfl) rfl hl.1 rfl (Nat.le_of_ble_eq_true rfl) dX3_gainAt_7 ⟨(Nat.le_of_ble_eq_true rfl), (Nat.le_of_ble_eq_true rfl)⟩ ?_
  refine W.eq (g2 := F0 m 10 ls [.int (b2i (inM w 0 (nI N - 1)))]) rfl ?_
  refine lv_if_eq (tgt := 21) hx hb dX3_gainAt_10 (by decide) (fun c_1 => ?_) (fun c_1 => False.elim (c_1 ((b2i_eq0 _).mpr hv)))
  refine lv_aload_n hx hb dX3_gainAt_21 rfl (lv_at hl 0 rfl) ?_
  refine lv_iconst (v := 1) hx hb dX3_gainAt_22 (by first | decide | rfl) ?_
  refine wrV (As := [.int 1]) (rest := []) (b := am 0) ⟨hx, hb, hml, hown, hts⟩ hK 1 (m_no l D cs H 1 (fun ov w1 => ov = some (.int 0) ∧ w1 = wM cs am 1 bank rnds dn N n fc pu wh kn nm sk br ht sg) ⟨rfl, rfl⟩ hP (hD.weaken (fun _ _ _ _ => trivial))) (gin_v mw_6_2 mw_6_3 mw_6_4 mw_1_5 mw_6_5) (by decide +kernel) ⟨Nat.le_of_ble_eq_true rfl, Nat.le_of_ble_eq_true rfl⟩ (va_recv hK hP (ci := 4) (q0 := 0) rfl rfl) rfl hl.1 rfl (Nat.le_of_ble_eq_true rfl) dX3_gainAt_23 ⟨(Nat.le_of_ble_eq_true rfl), (Nat.le_of_ble_eq_true rfl)⟩ hD hS hA (fun ov9 w9 H locs hp9 hP hD hS => ?_)
  obtain ⟨rfl, rfl⟩ := hp9
  have hP : va_P D vwCl (wM cs am 1 bank rnds dn N n fc pu wh kn nm sk br ht sg) H := hP
  have hD : va_D _ (wM cs am 1 bank rnds dn N n fc pu wh kn nm sk br ht sg) := hD
  refine W.eq (g2 := F0 m 26 ls [.int 0]) rfl ?_
  exact wr_iret hQ hx hb hr hlocks hP hD hS (hpost) dX3_gainAt_26
set_option maxHeartbeats 4000000 in
set_option maxRecDepth 100000 in
theorem mp_ways (l : Launch) (D : va_G) (cs : Nat → ClassId) (H : Heap) {am : Nat → Nat} {th bank rnds : Int32} {dn N n : Nat} {fc pu wh kn nm sk br ht sg : Nat → Int32} {fn : Nat → Nat} (hF : FM fn dn N n fc) (k q9 : Nat) (hk : k < 10) (hq : q9 ≤ 36) (hv : (inM (nI k) 0 9 && inM (nI q9) 0 36) = true) (post : Option Value → va_W → Prop) (hpost : ∀ sg9 : Nat → Int32, post (some (.int (manyM fn dn N k (nI q9)))) (wM cs am 0 bank rnds dn N n fc pu wh kn nm sk br ht sg9)) (hP : va_P D vwCl (wM cs am th bank rnds dn N n fc pu wh kn nm sk br ht sg) H) (hD : va_D (fun _ => True) (wM cs am th bank rnds dn N n fc pu wh kn nm sk br ht sg)) : Wr l D cs 5 0 0 yX3_ways cX3_ways 3 (some .int) (wM cs am th bank rnds dn N n fc pu wh kn nm sk br ht sg) H [.ref (am 0), .int (nI k), .int (nI q9)] post := by
  refine wr_ent (by decide) (Nat.le_of_ble_eq_true rfl) hP hD ?_
  clear hP hD H
  intro p e s m below meth c ls A Q H hx hb hr hml hown hts hlocks hin hl hK hQ hA hH hP hD hS
  clear hH
  have hl : lv_has ls 3 [(0, .ref (am 0)), (1, .int (nI k)), (2, .int (nI q9))] := hl
  have hF0 := hF
  obtain ⟨hF3, hd1, hd3, hNe, hN1, hN, hn⟩ := hF
  refine lv_aload_n hx hb dX3_ways_0 rfl (lv_at hl 0 rfl) ?_
  refine lv_iconst (v := 0) hx hb dX3_ways_1 (by first | decide | rfl) ?_
  refine va_put (D := D) (ci := 4) (v := .int 0) (ty := .int) (C := RX3) (T := TX3) (N := 15) hx hb hts inlX3 tyX3 tyX3_ok nmX3 hown hK hP hD hS 0 rfl rfl 0 (by decide) (hts (Cond.fieldLink RX3 48 "TavernDiceModel" "thrown" "I") mw_5_15) (fun _ h9 => h9) rfl (by decide +kernel) rfl rfl (Nat.le_of_ble_eq_true rfl) dX3_ways_2 (fun H locs hP hD hS => ?_)
  have hP : va_P D vwCl (wM cs am 0 bank rnds dn N n fc pu wh kn nm sk br ht sg) H := hP
  have hD : va_D _ (wM cs am 0 bank rnds dn N n fc pu wh kn nm sk br ht sg) := hD
  refine lv_iload_n hx hb dX3_ways_5 rfl (lv_at hl 1 rfl) ?_
  refine lv_iload_n hx hb dX3_ways_6 rfl (lv_at hl 2 rfl) ?_
  refine rdS (As := [.int (nI k), .int (nI q9)]) (rest := []) ⟨hx, hb, hml, hown, hts⟩ hK 2 (m_isEvent l D cs H (nI k) (nI q9)) (gin_s mw_9_23 mw_10_0 mw_1_5 mw_10_1) (by decide +kernel) ⟨Nat.le_of_ble_eq_true rfl, Nat.le_of_ble_eq_true rfl⟩ rfl hl.1 rfl (Nat.le_of_ble_eq_true rfl) dX3_ways_7 ⟨(Nat.le_of_ble_eq_true rfl), (Nat.le_of_ble_eq_true rfl)⟩ ?_
  refine W.eq (g2 := F0 m 10 ls [.int (b2i (inM (nI k) 0 9 && inM (nI q9) 0 36))]) rfl ?_
  refine lv_if_eq (tgt := 22) hx hb dX3_ways_10 (by decide) (fun c_1 => False.elim (absurd c_1 ((b2i_ne0 _).mpr hv))) (fun c_1 => ?_)
  refine lv_aload_n hx hb dX3_ways_13 rfl (lv_at hl 0 rfl) ?_
  refine lv_iload_n hx hb dX3_ways_14 rfl (lv_at hl 1 rfl) ?_
  refine lv_iload_n hx hb dX3_ways_15 rfl (lv_at hl 2 rfl) ?_
  refine wrV (As := [.int (nI k), .int (nI q9)]) (rest := []) (b := am 0) ⟨hx, hb, hml, hown, hts⟩ hK 2 (m_manyA l D cs H hF0 k hk (nI q9) (fun ov w1 => ov = some (.int (manyM fn dn N k (nI q9))) ∧ ∃ (sg9 : Nat → Int32), w1 = wM cs am 0 bank rnds dn N n fc pu wh kn nm sk br ht sg9) (fun sg9 => ⟨rfl, sg9, rfl⟩) hP (hD.weaken (fun _ _ _ _ => trivial))) (gin_v mw_10_2 mw_10_3 mw_10_4 mw_1_5 mw_10_5) (by decide +kernel) ⟨Nat.le_of_ble_eq_true rfl, Nat.le_of_ble_eq_true rfl⟩ (va_recv hK hP (ci := 4) (q0 := 0) rfl rfl) rfl hl.1 rfl (Nat.le_of_ble_eq_true rfl) dX3_ways_16 ⟨(Nat.le_of_ble_eq_true rfl), (Nat.le_of_ble_eq_true rfl)⟩ hD hS hA (fun ov9 w9 H locs hp9 hP hD hS => ?_)
  obtain ⟨rfl, sgz1, rfl⟩ := hp9
  have hP : va_P D vwCl (wM cs am 0 bank rnds dn N n fc pu wh kn nm sk br ht sgz1) H := hP
  have hD : va_D _ (wM cs am 0 bank rnds dn N n fc pu wh kn nm sk br ht sgz1) := hD
  refine W.eq (g2 := F0 m 19 ls [.int (manyM fn dn N k (nI q9))]) rfl ?_
  refine lv_goto (tgt := 27) hx hb dX3_ways_19 (by decide) ?_
  exact wr_iret hQ hx hb hr hlocks hP hD hS (hpost sgz1) dX3_ways_27
set_option maxHeartbeats 4000000 in
set_option maxRecDepth 100000 in
theorem mp_ways_no (l : Launch) (D : va_G) (cs : Nat → ClassId) (H : Heap) {am : Nat → Nat} {th bank rnds : Int32} {dn N n : Nat} {fc pu wh kn nm sk br ht sg : Nat → Int32} {fn : Nat → Nat} (hF : FM fn dn N n fc) (k q9 : Int32) (hv : (inM k 0 9 && inM q9 0 36) = false) (post : Option Value → va_W → Prop) (hpost : post (some (.int (0))) (wM cs am 1 bank rnds dn N n fc pu wh kn nm sk br ht sg)) (hP : va_P D vwCl (wM cs am th bank rnds dn N n fc pu wh kn nm sk br ht sg) H) (hD : va_D (fun _ => True) (wM cs am th bank rnds dn N n fc pu wh kn nm sk br ht sg)) : Wr l D cs 5 0 0 yX3_ways cX3_ways 3 (some .int) (wM cs am th bank rnds dn N n fc pu wh kn nm sk br ht sg) H [.ref (am 0), .int k, .int q9] post := by
  refine wr_ent (by decide) (Nat.le_of_ble_eq_true rfl) hP hD ?_
  clear hP hD H
  intro p e s m below meth c ls A Q H hx hb hr hml hown hts hlocks hin hl hK hQ hA hH hP hD hS
  clear hH
  have hl : lv_has ls 3 [(0, .ref (am 0)), (1, .int k), (2, .int q9)] := hl
  have hF0 := hF
  obtain ⟨hF3, hd1, hd3, hNe, hN1, hN, hn⟩ := hF
  refine lv_aload_n hx hb dX3_ways_0 rfl (lv_at hl 0 rfl) ?_
  refine lv_iconst (v := 0) hx hb dX3_ways_1 (by first | decide | rfl) ?_
  refine va_put (D := D) (ci := 4) (v := .int 0) (ty := .int) (C := RX3) (T := TX3) (N := 15) hx hb hts inlX3 tyX3 tyX3_ok nmX3 hown hK hP hD hS 0 rfl rfl 0 (by decide) (hts (Cond.fieldLink RX3 48 "TavernDiceModel" "thrown" "I") mw_5_15) (fun _ h9 => h9) rfl (by decide +kernel) rfl rfl (Nat.le_of_ble_eq_true rfl) dX3_ways_2 (fun H locs hP hD hS => ?_)
  have hP : va_P D vwCl (wM cs am 0 bank rnds dn N n fc pu wh kn nm sk br ht sg) H := hP
  have hD : va_D _ (wM cs am 0 bank rnds dn N n fc pu wh kn nm sk br ht sg) := hD
  refine lv_iload_n hx hb dX3_ways_5 rfl (lv_at hl 1 rfl) ?_
  refine lv_iload_n hx hb dX3_ways_6 rfl (lv_at hl 2 rfl) ?_
  refine rdS (As := [.int k, .int q9]) (rest := []) ⟨hx, hb, hml, hown, hts⟩ hK 2 (m_isEvent l D cs H k q9) (gin_s mw_9_23 mw_10_0 mw_1_5 mw_10_1) (by decide +kernel) ⟨Nat.le_of_ble_eq_true rfl, Nat.le_of_ble_eq_true rfl⟩ rfl hl.1 rfl (Nat.le_of_ble_eq_true rfl) dX3_ways_7 ⟨(Nat.le_of_ble_eq_true rfl), (Nat.le_of_ble_eq_true rfl)⟩ ?_
  refine W.eq (g2 := F0 m 10 ls [.int (b2i (inM k 0 9 && inM q9 0 36))]) rfl ?_
  refine lv_if_eq (tgt := 22) hx hb dX3_ways_10 (by decide) (fun c_1 => ?_) (fun c_1 => False.elim (c_1 ((b2i_eq0 _).mpr hv)))
  refine lv_aload_n hx hb dX3_ways_22 rfl (lv_at hl 0 rfl) ?_
  refine lv_iconst (v := 1) hx hb dX3_ways_23 (by first | decide | rfl) ?_
  refine wrV (As := [.int 1]) (rest := []) (b := am 0) ⟨hx, hb, hml, hown, hts⟩ hK 1 (m_no l D cs H 1 (fun ov w1 => ov = some (.int 0) ∧ w1 = wM cs am 1 bank rnds dn N n fc pu wh kn nm sk br ht sg) ⟨rfl, rfl⟩ hP (hD.weaken (fun _ _ _ _ => trivial))) (gin_v mw_6_2 mw_6_3 mw_6_4 mw_1_5 mw_6_5) (by decide +kernel) ⟨Nat.le_of_ble_eq_true rfl, Nat.le_of_ble_eq_true rfl⟩ (va_recv hK hP (ci := 4) (q0 := 0) rfl rfl) rfl hl.1 rfl (Nat.le_of_ble_eq_true rfl) dX3_ways_24 ⟨(Nat.le_of_ble_eq_true rfl), (Nat.le_of_ble_eq_true rfl)⟩ hD hS hA (fun ov9 w9 H locs hp9 hP hD hS => ?_)
  obtain ⟨rfl, rfl⟩ := hp9
  have hP : va_P D vwCl (wM cs am 1 bank rnds dn N n fc pu wh kn nm sk br ht sg) H := hP
  have hD : va_D _ (wM cs am 1 bank rnds dn N n fc pu wh kn nm sk br ht sg) := hD
  refine W.eq (g2 := F0 m 27 ls [.int 0]) rfl ?_
  exact wr_iret hQ hx hb hr hlocks hP hD hS (hpost) dX3_ways_27
set_option maxHeartbeats 4000000 in
set_option maxRecDepth 100000 in
theorem mp_purseOf (l : Launch) (D : va_G) (cs : Nat → ClassId) (H : Heap) {am : Nat → Nat} {th bank rnds : Int32} {dn N n : Nat} {fc pu wh kn nm sk br ht sg : Nat → Int32} {fn : Nat → Nat} (hF : FM fn dn N n fc) (p9 : Nat) (hp9 : p9 < 6) (hv : inM (nI p9) 0 5 = true) (post : Option Value → va_W → Prop) (hpost : post (some (.int (pu p9))) (wM cs am 0 bank rnds dn N n fc pu wh kn nm sk br ht sg)) (hP : va_P D vwCl (wM cs am th bank rnds dn N n fc pu wh kn nm sk br ht sg) H) (hD : va_D (fun _ => True) (wM cs am th bank rnds dn N n fc pu wh kn nm sk br ht sg)) : Wr l D cs 3 0 0 yX3_purseOf cX3_purseOf 2 (some .int) (wM cs am th bank rnds dn N n fc pu wh kn nm sk br ht sg) H [.ref (am 0), .int (nI p9)] post := by
  refine wr_ent (by decide) (Nat.le_of_ble_eq_true rfl) hP hD ?_
  clear hP hD H
  intro p e s m below meth c ls A Q H hx hb hr hml hown hts hlocks hin hl hK hQ hA hH hP hD hS
  clear hH
  have hl : lv_has ls 2 [(0, .ref (am 0)), (1, .int (nI p9))] := hl
  have hF0 := hF
  obtain ⟨hF3, hd1, hd3, hNe, hN1, hN, hn⟩ := hF
  refine lv_aload_n hx hb dX3_purseOf_0 rfl (lv_at hl 0 rfl) ?_
  refine lv_iconst (v := 0) hx hb dX3_purseOf_1 (by first | decide | rfl) ?_
  refine va_put (D := D) (ci := 4) (v := .int 0) (ty := .int) (C := RX3) (T := TX3) (N := 15) hx hb hts inlX3 tyX3 tyX3_ok nmX3 hown hK hP hD hS 0 rfl rfl 0 (by decide) (hts (Cond.fieldLink RX3 48 "TavernDiceModel" "thrown" "I") mw_5_15) (fun _ h9 => h9) rfl (by decide +kernel) rfl rfl (Nat.le_of_ble_eq_true rfl) dX3_purseOf_2 (fun H locs hP hD hS => ?_)
  have hP : va_P D vwCl (wM cs am 0 bank rnds dn N n fc pu wh kn nm sk br ht sg) H := hP
  have hD : va_D _ (wM cs am 0 bank rnds dn N n fc pu wh kn nm sk br ht sg) := hD
  refine lv_iload_n hx hb dX3_purseOf_5 rfl (lv_at hl 1 rfl) ?_
  refine rdS (As := [.int (nI p9)]) (rest := []) ⟨hx, hb, hml, hown, hts⟩ hK 1 (m_isPatron l D cs H (nI p9)) (gin_s mw_14_17 mw_14_18 mw_1_5 mw_14_19) (by decide +kernel) ⟨Nat.le_of_ble_eq_true rfl, Nat.le_of_ble_eq_true rfl⟩ rfl hl.1 rfl (Nat.le_of_ble_eq_true rfl) dX3_purseOf_6 ⟨(Nat.le_of_ble_eq_true rfl), (Nat.le_of_ble_eq_true rfl)⟩ ?_
  refine W.eq (g2 := F0 m 9 ls [.int (b2i (inM (nI p9) 0 5))]) rfl ?_
  refine lv_if_eq (tgt := 21) hx hb dX3_purseOf_9 (by decide) (fun c_1 => False.elim (absurd c_1 ((b2i_ne0 _).mpr hv))) (fun c_1 => ?_)
  refine lv_aload_n hx hb dX3_purseOf_12 rfl (lv_at hl 0 rfl) ?_
  refine va_get (D := D) (ci := 4) (v := .ref (am 2)) (C := RX3) (T := TX3) (N := 15) hx hb hts inlX3 hown hK hP 0 rfl rfl 4 (by decide) (hts (Cond.fieldLink RX3 20 "TavernDiceModel" "purse" "[I") mw_3_22) (fun _ h9 => h9) rfl dX3_purseOf_13 ?_
  refine lv_iload_n hx hb dX3_purseOf_16 rfl (lv_at hl 1 rfl) ?_
  refine va_iald hx hb hK hP 2 0 rfl rfl (vp_in_nI hp9 (by omega)) dX3_purseOf_17 ?_
  refine lv_rwi (y := pu p9) (congrArg pu (nI_clamp (by omega))) ?_
  refine lv_goto (tgt := 26) hx hb dX3_purseOf_18 (by decide) ?_
  exact wr_iret hQ hx hb hr hlocks hP hD hS (hpost) dX3_purseOf_26
set_option maxHeartbeats 4000000 in
set_option maxRecDepth 100000 in
theorem mp_purseOf_no (l : Launch) (D : va_G) (cs : Nat → ClassId) (H : Heap) {am : Nat → Nat} {th bank rnds : Int32} {dn N n : Nat} {fc pu wh kn nm sk br ht sg : Nat → Int32} {fn : Nat → Nat} (hF : FM fn dn N n fc) (w : Int32) (hv : inM w 0 5 = false) (post : Option Value → va_W → Prop) (hpost : post (some (.int (0))) (wM cs am 1 bank rnds dn N n fc pu wh kn nm sk br ht sg)) (hP : va_P D vwCl (wM cs am th bank rnds dn N n fc pu wh kn nm sk br ht sg) H) (hD : va_D (fun _ => True) (wM cs am th bank rnds dn N n fc pu wh kn nm sk br ht sg)) : Wr l D cs 3 0 0 yX3_purseOf cX3_purseOf 2 (some .int) (wM cs am th bank rnds dn N n fc pu wh kn nm sk br ht sg) H [.ref (am 0), .int w] post := by
  refine wr_ent (by decide) (Nat.le_of_ble_eq_true rfl) hP hD ?_
  clear hP hD H
  intro p e s m below meth c ls A Q H hx hb hr hml hown hts hlocks hin hl hK hQ hA hH hP hD hS
  clear hH
  have hl : lv_has ls 2 [(0, .ref (am 0)), (1, .int w)] := hl
  have hF0 := hF
  obtain ⟨hF3, hd1, hd3, hNe, hN1, hN, hn⟩ := hF
  refine lv_aload_n hx hb dX3_purseOf_0 rfl (lv_at hl 0 rfl) ?_
  refine lv_iconst (v := 0) hx hb dX3_purseOf_1 (by first | decide | rfl) ?_
  refine va_put (D := D) (ci := 4) (v := .int 0) (ty := .int) (C := RX3) (T := TX3) (N := 15) hx hb hts inlX3 tyX3 tyX3_ok nmX3 hown hK hP hD hS 0 rfl rfl 0 (by decide) (hts (Cond.fieldLink RX3 48 "TavernDiceModel" "thrown" "I") mw_5_15) (fun _ h9 => h9) rfl (by decide +kernel) rfl rfl (Nat.le_of_ble_eq_true rfl) dX3_purseOf_2 (fun H locs hP hD hS => ?_)
  have hP : va_P D vwCl (wM cs am 0 bank rnds dn N n fc pu wh kn nm sk br ht sg) H := hP
  have hD : va_D _ (wM cs am 0 bank rnds dn N n fc pu wh kn nm sk br ht sg) := hD
  refine lv_iload_n hx hb dX3_purseOf_5 rfl (lv_at hl 1 rfl) ?_
  refine rdS (As := [.int w]) (rest := []) ⟨hx, hb, hml, hown, hts⟩ hK 1 (m_isPatron l D cs H w) (gin_s mw_14_17 mw_14_18 mw_1_5 mw_14_19) (by decide +kernel) ⟨Nat.le_of_ble_eq_true rfl, Nat.le_of_ble_eq_true rfl⟩ rfl hl.1 rfl (Nat.le_of_ble_eq_true rfl) dX3_purseOf_6 ⟨(Nat.le_of_ble_eq_true rfl), (Nat.le_of_ble_eq_true rfl)⟩ ?_
  refine W.eq (g2 := F0 m 9 ls [.int (b2i (inM w 0 5))]) rfl ?_
  refine lv_if_eq (tgt := 21) hx hb dX3_purseOf_9 (by decide) (fun c_1 => ?_) (fun c_1 => False.elim (c_1 ((b2i_eq0 _).mpr hv)))
  refine lv_aload_n hx hb dX3_purseOf_21 rfl (lv_at hl 0 rfl) ?_
  refine lv_iconst (v := 1) hx hb dX3_purseOf_22 (by first | decide | rfl) ?_
  refine wrV (As := [.int 1]) (rest := []) (b := am 0) ⟨hx, hb, hml, hown, hts⟩ hK 1 (m_no l D cs H 1 (fun ov w1 => ov = some (.int 0) ∧ w1 = wM cs am 1 bank rnds dn N n fc pu wh kn nm sk br ht sg) ⟨rfl, rfl⟩ hP (hD.weaken (fun _ _ _ _ => trivial))) (gin_v mw_6_2 mw_6_3 mw_6_4 mw_1_5 mw_6_5) (by decide +kernel) ⟨Nat.le_of_ble_eq_true rfl, Nat.le_of_ble_eq_true rfl⟩ (va_recv hK hP (ci := 4) (q0 := 0) rfl rfl) rfl hl.1 rfl (Nat.le_of_ble_eq_true rfl) dX3_purseOf_23 ⟨(Nat.le_of_ble_eq_true rfl), (Nat.le_of_ble_eq_true rfl)⟩ hD hS hA (fun ov9 w9 H locs hp9 hP hD hS => ?_)
  obtain ⟨rfl, rfl⟩ := hp9
  have hP : va_P D vwCl (wM cs am 1 bank rnds dn N n fc pu wh kn nm sk br ht sg) H := hP
  have hD : va_D _ (wM cs am 1 bank rnds dn N n fc pu wh kn nm sk br ht sg) := hD
  refine W.eq (g2 := F0 m 26 ls [.int 0]) rfl ?_
  exact wr_iret hQ hx hb hr hlocks hP hD hS (hpost) dX3_purseOf_26
set_option maxHeartbeats 4000000 in
set_option maxRecDepth 100000 in
theorem mp_leastPurse (l : Launch) (D : va_G) (cs : Nat → ClassId) (H : Heap) {am : Nat → Nat} {th bank rnds : Int32} {dn N n : Nat} {fc pu wh kn nm sk br ht sg : Nat → Int32} {fn : Nat → Nat} (hF : FM fn dn N n fc) (p9 : Nat) (hp9 : p9 < 6) (hv : inM (nI p9) 0 5 = true) (post : Option Value → va_W → Prop) (hpost : post (some (.int (mnX (fun o => behM pu wh sk br ht (nI p9) p9 o n) (N - 1)))) (wM cs am 0 bank rnds dn N n fc pu wh kn nm sk br ht sg)) (hP : va_P D vwCl (wM cs am th bank rnds dn N n fc pu wh kn nm sk br ht sg) H) (hD : va_D (fun _ => True) (wM cs am th bank rnds dn N n fc pu wh kn nm sk br ht sg)) : Wr l D cs 3 0 0 yX3_leastPurse cX3_leastPurse 2 (some .int) (wM cs am th bank rnds dn N n fc pu wh kn nm sk br ht sg) H [.ref (am 0), .int (nI p9)] post := by
  refine wr_ent (by decide) (Nat.le_of_ble_eq_true rfl) hP hD ?_
  clear hP hD H
  intro p e s m below meth c ls A Q H hx hb hr hml hown hts hlocks hin hl hK hQ hA hH hP hD hS
  clear hH
  have hl : lv_has ls 2 [(0, .ref (am 0)), (1, .int (nI p9))] := hl
  have hF0 := hF
  obtain ⟨hF3, hd1, hd3, hNe, hN1, hN, hn⟩ := hF
  refine lv_aload_n hx hb dX3_leastPurse_0 rfl (lv_at hl 0 rfl) ?_
  refine lv_iconst (v := 0) hx hb dX3_leastPurse_1 (by first | decide | rfl) ?_
  refine va_put (D := D) (ci := 4) (v := .int 0) (ty := .int) (C := RX3) (T := TX3) (N := 15) hx hb hts inlX3 tyX3 tyX3_ok nmX3 hown hK hP hD hS 0 rfl rfl 0 (by decide) (hts (Cond.fieldLink RX3 48 "TavernDiceModel" "thrown" "I") mw_5_15) (fun _ h9 => h9) rfl (by decide +kernel) rfl rfl (Nat.le_of_ble_eq_true rfl) dX3_leastPurse_2 (fun H locs hP hD hS => ?_)
  have hP : va_P D vwCl (wM cs am 0 bank rnds dn N n fc pu wh kn nm sk br ht sg) H := hP
  have hD : va_D _ (wM cs am 0 bank rnds dn N n fc pu wh kn nm sk br ht sg) := hD
  refine lv_iload_n hx hb dX3_leastPurse_5 rfl (lv_at hl 1 rfl) ?_
  refine rdS (As := [.int (nI p9)]) (rest := []) ⟨hx, hb, hml, hown, hts⟩ hK 1 (m_isPatron l D cs H (nI p9)) (gin_s mw_14_17 mw_14_18 mw_1_5 mw_14_19) (by decide +kernel) ⟨Nat.le_of_ble_eq_true rfl, Nat.le_of_ble_eq_true rfl⟩ rfl hl.1 rfl (Nat.le_of_ble_eq_true rfl) dX3_leastPurse_6 ⟨(Nat.le_of_ble_eq_true rfl), (Nat.le_of_ble_eq_true rfl)⟩ ?_
  refine W.eq (g2 := F0 m 9 ls [.int (b2i (inM (nI p9) 0 5))]) rfl ?_
  refine lv_if_eq (tgt := 20) hx hb dX3_leastPurse_9 (by decide) (fun c_1 => False.elim (absurd c_1 ((b2i_ne0 _).mpr hv))) (fun c_1 => ?_)
  refine lv_aload_n hx hb dX3_leastPurse_12 rfl (lv_at hl 0 rfl) ?_
  refine lv_iload_n hx hb dX3_leastPurse_13 rfl (lv_at hl 1 rfl) ?_
  refine rdV (As := [.int (nI p9)]) (rest := []) (b := am 0) ⟨hx, hb, hml, hown, hts⟩ hK 1 (m_least l D cs H hP hF0 p9 (by omega)) (gin_v mw_28_10 mw_28_11 mw_28_12 mw_1_5 mw_28_13) (by decide +kernel) ⟨Nat.le_of_ble_eq_true rfl, Nat.le_of_ble_eq_true rfl⟩ (va_recv hK hP (ci := 4) (q0 := 0) rfl rfl) rfl hl.1 rfl (Nat.le_of_ble_eq_true rfl) dX3_leastPurse_14 ⟨(Nat.le_of_ble_eq_true rfl), (Nat.le_of_ble_eq_true rfl)⟩ ?_
  refine W.eq (g2 := F0 m 17 ls [.int (mnX (fun o => behM pu wh sk br ht (nI p9) p9 o n) (N - 1))]) rfl ?_
  refine lv_goto (tgt := 25) hx hb dX3_leastPurse_17 (by decide) ?_
  exact wr_iret hQ hx hb hr hlocks hP hD hS (hpost) dX3_leastPurse_25
set_option maxHeartbeats 4000000 in
set_option maxRecDepth 100000 in
theorem mp_leastPurse_no (l : Launch) (D : va_G) (cs : Nat → ClassId) (H : Heap) {am : Nat → Nat} {th bank rnds : Int32} {dn N n : Nat} {fc pu wh kn nm sk br ht sg : Nat → Int32} {fn : Nat → Nat} (hF : FM fn dn N n fc) (w : Int32) (hv : inM w 0 5 = false) (post : Option Value → va_W → Prop) (hpost : post (some (.int (0))) (wM cs am 1 bank rnds dn N n fc pu wh kn nm sk br ht sg)) (hP : va_P D vwCl (wM cs am th bank rnds dn N n fc pu wh kn nm sk br ht sg) H) (hD : va_D (fun _ => True) (wM cs am th bank rnds dn N n fc pu wh kn nm sk br ht sg)) : Wr l D cs 3 0 0 yX3_leastPurse cX3_leastPurse 2 (some .int) (wM cs am th bank rnds dn N n fc pu wh kn nm sk br ht sg) H [.ref (am 0), .int w] post := by
  refine wr_ent (by decide) (Nat.le_of_ble_eq_true rfl) hP hD ?_
  clear hP hD H
  intro p e s m below meth c ls A Q H hx hb hr hml hown hts hlocks hin hl hK hQ hA hH hP hD hS
  clear hH
  have hl : lv_has ls 2 [(0, .ref (am 0)), (1, .int w)] := hl
  have hF0 := hF
  obtain ⟨hF3, hd1, hd3, hNe, hN1, hN, hn⟩ := hF
  refine lv_aload_n hx hb dX3_leastPurse_0 rfl (lv_at hl 0 rfl) ?_
  refine lv_iconst (v := 0) hx hb dX3_leastPurse_1 (by first | decide | rfl) ?_
  refine va_put (D := D) (ci := 4) (v := .int 0) (ty := .int) (C := RX3) (T := TX3) (N := 15) hx hb hts inlX3 tyX3 tyX3_ok nmX3 hown hK hP hD hS 0 rfl rfl 0 (by decide) (hts (Cond.fieldLink RX3 48 "TavernDiceModel" "thrown" "I") mw_5_15) (fun _ h9 => h9) rfl (by decide +kernel) rfl rfl (Nat.le_of_ble_eq_true rfl) dX3_leastPurse_2 (fun H locs hP hD hS => ?_)
  have hP : va_P D vwCl (wM cs am 0 bank rnds dn N n fc pu wh kn nm sk br ht sg) H := hP
  have hD : va_D _ (wM cs am 0 bank rnds dn N n fc pu wh kn nm sk br ht sg) := hD
  refine lv_iload_n hx hb dX3_leastPurse_5 rfl (lv_at hl 1 rfl) ?_
  refine rdS (As := [.int w]) (rest := []) ⟨hx, hb, hml, hown, hts⟩ hK 1 (m_isPatron l D cs H w) (gin_s mw_14_17 mw_14_18 mw_1_5 mw_14_19) (by decide +kernel) ⟨Nat.le_of_ble_eq_true rfl, Nat.le_of_ble_eq_true rfl⟩ rfl hl.1 rfl (Nat.le_of_ble_eq_true rfl) dX3_leastPurse_6 ⟨(Nat.le_of_ble_eq_true rfl), (Nat.le_of_ble_eq_true rfl)⟩ ?_
  refine W.eq (g2 := F0 m 9 ls [.int (b2i (inM w 0 5))]) rfl ?_
  refine lv_if_eq (tgt := 20) hx hb dX3_leastPurse_9 (by decide) (fun c_1 => ?_) (fun c_1 => False.elim (c_1 ((b2i_eq0 _).mpr hv)))
  refine lv_aload_n hx hb dX3_leastPurse_20 rfl (lv_at hl 0 rfl) ?_
  refine lv_iconst (v := 1) hx hb dX3_leastPurse_21 (by first | decide | rfl) ?_
  refine wrV (As := [.int 1]) (rest := []) (b := am 0) ⟨hx, hb, hml, hown, hts⟩ hK 1 (m_no l D cs H 1 (fun ov w1 => ov = some (.int 0) ∧ w1 = wM cs am 1 bank rnds dn N n fc pu wh kn nm sk br ht sg) ⟨rfl, rfl⟩ hP (hD.weaken (fun _ _ _ _ => trivial))) (gin_v mw_6_2 mw_6_3 mw_6_4 mw_1_5 mw_6_5) (by decide +kernel) ⟨Nat.le_of_ble_eq_true rfl, Nat.le_of_ble_eq_true rfl⟩ (va_recv hK hP (ci := 4) (q0 := 0) rfl rfl) rfl hl.1 rfl (Nat.le_of_ble_eq_true rfl) dX3_leastPurse_22 ⟨(Nat.le_of_ble_eq_true rfl), (Nat.le_of_ble_eq_true rfl)⟩ hD hS hA (fun ov9 w9 H locs hp9 hP hD hS => ?_)
  obtain ⟨rfl, rfl⟩ := hp9
  have hP : va_P D vwCl (wM cs am 1 bank rnds dn N n fc pu wh kn nm sk br ht sg) H := hP
  have hD : va_D _ (wM cs am 1 bank rnds dn N n fc pu wh kn nm sk br ht sg) := hD
  refine W.eq (g2 := F0 m 25 ls [.int 0]) rfl ?_
  exact wr_iret hQ hx hb hr hlocks hP hD hS (hpost) dX3_leastPurse_25
set_option maxHeartbeats 4000000 in
set_option maxRecDepth 100000 in
theorem mp_of3 (l : Launch) (D : va_G) (cs : Nat → ClassId) (H : Heap) {am : Nat → Nat} {th bank rnds : Int32} {dn N n : Nat} {fc pu wh kn nm sk br ht sg : Nat → Int32} {fn : Nat → Nat} (hF : FM fn dn N n fc) (i : Nat) (hlt : i < n) (hv : inM (nI i) 0 (nI n - 1) = true) (post : Option Value → va_W → Prop) (hpost : post (some (.int (wh i))) (wM cs am 0 bank rnds dn N n fc pu wh kn nm sk br ht sg)) (hP : va_P D vwCl (wM cs am th bank rnds dn N n fc pu wh kn nm sk br ht sg) H) (hD : va_D (fun _ => True) (wM cs am th bank rnds dn N n fc pu wh kn nm sk br ht sg)) : Wr l D cs 3 0 0 yX3_of cX3_of 3 (some .int) (wM cs am th bank rnds dn N n fc pu wh kn nm sk br ht sg) H [.ref (am 0), .int (nI i), .ref (am 3)] post := by
  refine wr_ent (by decide) (Nat.le_of_ble_eq_true rfl) hP hD ?_
  clear hP hD H
  intro p e s m below meth c ls A Q H hx hb hr hml hown hts hlocks hin hl hK hQ hA hH hP hD hS
  clear hH
  have hl : lv_has ls 3 [(0, .ref (am 0)), (1, .int (nI i)), (2, .ref (am 3))] := hl
  have hF0 := hF
  obtain ⟨hF3, hd1, hd3, hNe, hN1, hN, hn⟩ := hF
  refine lv_aload_n hx hb dX3_of_0 rfl (lv_at hl 0 rfl) ?_
  refine lv_iconst (v := 0) hx hb dX3_of_1 (by first | decide | rfl) ?_
  refine va_put (D := D) (ci := 4) (v := .int 0) (ty := .int) (C := RX3) (T := TX3) (N := 15) hx hb hts inlX3 tyX3 tyX3_ok nmX3 hown hK hP hD hS 0 rfl rfl 0 (by decide) (hts (Cond.fieldLink RX3 48 "TavernDiceModel" "thrown" "I") mw_5_15) (fun _ h9 => h9) rfl (by decide +kernel) rfl rfl (Nat.le_of_ble_eq_true rfl) dX3_of_2 (fun H locs hP hD hS => ?_)
  have hP : va_P D vwCl (wM cs am 0 bank rnds dn N n fc pu wh kn nm sk br ht sg) H := hP
  have hD : va_D _ (wM cs am 0 bank rnds dn N n fc pu wh kn nm sk br ht sg) := hD
  refine lv_aload_n hx hb dX3_of_5 rfl (lv_at hl 0 rfl) ?_
  refine lv_iload_n hx hb dX3_of_6 rfl (lv_at hl 1 rfl) ?_
  refine rdV (As := [.int (nI i)]) (rest := []) (b := am 0) ⟨hx, hb, hml, hown, hts⟩ hK 1 (m_isWager l D cs H hP hF0 (nI i)) (gin_v mw_16_12 mw_16_13 mw_16_14 mw_1_5 mw_16_15) (by decide +kernel) ⟨Nat.le_of_ble_eq_true rfl, Nat.le_of_ble_eq_true rfl⟩ (va_recv hK hP (ci := 4) (q0 := 0) rfl rfl) rfl hl.1 rfl (Nat.le_of_ble_eq_true rfl) dX3_of_7 ⟨(Nat.le_of_ble_eq_true rfl), (Nat.le_of_ble_eq_true rfl)⟩ ?_
  refine W.eq (g2 := F0 m 10 ls [.int (b2i (inM (nI i) 0 (nI n - 1)))]) rfl ?_
  refine lv_if_eq (tgt := 19) hx hb dX3_of_10 (by decide) (fun c_1 => False.elim (absurd c_1 ((b2i_ne0 _).mpr hv))) (fun c_1 => ?_)
  refine lv_aload_n hx hb dX3_of_13 rfl (lv_at hl 2 rfl) ?_
  refine lv_iload_n hx hb dX3_of_14 rfl (lv_at hl 1 rfl) ?_
  refine va_iald hx hb hK hP 3 0 rfl rfl (vp_in_nI (by omega) (by omega)) dX3_of_15 ?_
  refine lv_rwi (y := wh i) (congrArg wh (nI_clamp (by omega))) ?_
  refine lv_goto (tgt := 24) hx hb dX3_of_16 (by decide) ?_
  exact wr_iret hQ hx hb hr hlocks hP hD hS (hpost) dX3_of_24
set_option maxHeartbeats 4000000 in
set_option maxRecDepth 100000 in
theorem mp_of3_no (l : Launch) (D : va_G) (cs : Nat → ClassId) (H : Heap) {am : Nat → Nat} {th bank rnds : Int32} {dn N n : Nat} {fc pu wh kn nm sk br ht sg : Nat → Int32} {fn : Nat → Nat} (hF : FM fn dn N n fc) (w : Int32) (hv : inM w 0 (nI n - 1) = false) (post : Option Value → va_W → Prop) (hpost : post (some (.int (0))) (wM cs am 1 bank rnds dn N n fc pu wh kn nm sk br ht sg)) (hP : va_P D vwCl (wM cs am th bank rnds dn N n fc pu wh kn nm sk br ht sg) H) (hD : va_D (fun _ => True) (wM cs am th bank rnds dn N n fc pu wh kn nm sk br ht sg)) : Wr l D cs 3 0 0 yX3_of cX3_of 3 (some .int) (wM cs am th bank rnds dn N n fc pu wh kn nm sk br ht sg) H [.ref (am 0), .int w, .ref (am 3)] post := by
  refine wr_ent (by decide) (Nat.le_of_ble_eq_true rfl) hP hD ?_
  clear hP hD H
  intro p e s m below meth c ls A Q H hx hb hr hml hown hts hlocks hin hl hK hQ hA hH hP hD hS
  clear hH
  have hl : lv_has ls 3 [(0, .ref (am 0)), (1, .int w), (2, .ref (am 3))] := hl
  have hF0 := hF
  obtain ⟨hF3, hd1, hd3, hNe, hN1, hN, hn⟩ := hF
  refine lv_aload_n hx hb dX3_of_0 rfl (lv_at hl 0 rfl) ?_
  refine lv_iconst (v := 0) hx hb dX3_of_1 (by first | decide | rfl) ?_
  refine va_put (D := D) (ci := 4) (v := .int 0) (ty := .int) (C := RX3) (T := TX3) (N := 15) hx hb hts inlX3 tyX3 tyX3_ok nmX3 hown hK hP hD hS 0 rfl rfl 0 (by decide) (hts (Cond.fieldLink RX3 48 "TavernDiceModel" "thrown" "I") mw_5_15) (fun _ h9 => h9) rfl (by decide +kernel) rfl rfl (Nat.le_of_ble_eq_true rfl) dX3_of_2 (fun H locs hP hD hS => ?_)
  have hP : va_P D vwCl (wM cs am 0 bank rnds dn N n fc pu wh kn nm sk br ht sg) H := hP
  have hD : va_D _ (wM cs am 0 bank rnds dn N n fc pu wh kn nm sk br ht sg) := hD
  refine lv_aload_n hx hb dX3_of_5 rfl (lv_at hl 0 rfl) ?_
  refine lv_iload_n hx hb dX3_of_6 rfl (lv_at hl 1 rfl) ?_
  refine rdV (As := [.int w]) (rest := []) (b := am 0) ⟨hx, hb, hml, hown, hts⟩ hK 1 (m_isWager l D cs H hP hF0 w) (gin_v mw_16_12 mw_16_13 mw_16_14 mw_1_5 mw_16_15) (by decide +kernel) ⟨Nat.le_of_ble_eq_true rfl, Nat.le_of_ble_eq_true rfl⟩ (va_recv hK hP (ci := 4) (q0 := 0) rfl rfl) rfl hl.1 rfl (Nat.le_of_ble_eq_true rfl) dX3_of_7 ⟨(Nat.le_of_ble_eq_true rfl), (Nat.le_of_ble_eq_true rfl)⟩ ?_
  refine W.eq (g2 := F0 m 10 ls [.int (b2i (inM w 0 (nI n - 1)))]) rfl ?_
  refine lv_if_eq (tgt := 19) hx hb dX3_of_10 (by decide) (fun c_1 => ?_) (fun c_1 => False.elim (c_1 ((b2i_eq0 _).mpr hv)))
  refine lv_aload_n hx hb dX3_of_19 rfl (lv_at hl 0 rfl) ?_
  refine lv_iconst (v := 1) hx hb dX3_of_20 (by first | decide | rfl) ?_
  refine wrV (As := [.int 1]) (rest := []) (b := am 0) ⟨hx, hb, hml, hown, hts⟩ hK 1 (m_no l D cs H 1 (fun ov w1 => ov = some (.int 0) ∧ w1 = wM cs am 1 bank rnds dn N n fc pu wh kn nm sk br ht sg) ⟨rfl, rfl⟩ hP (hD.weaken (fun _ _ _ _ => trivial))) (gin_v mw_6_2 mw_6_3 mw_6_4 mw_1_5 mw_6_5) (by decide +kernel) ⟨Nat.le_of_ble_eq_true rfl, Nat.le_of_ble_eq_true rfl⟩ (va_recv hK hP (ci := 4) (q0 := 0) rfl rfl) rfl hl.1 rfl (Nat.le_of_ble_eq_true rfl) dX3_of_21 ⟨(Nat.le_of_ble_eq_true rfl), (Nat.le_of_ble_eq_true rfl)⟩ hD hS hA (fun ov9 w9 H locs hp9 hP hD hS => ?_)
  obtain ⟨rfl, rfl⟩ := hp9
  have hP : va_P D vwCl (wM cs am 1 bank rnds dn N n fc pu wh kn nm sk br ht sg) H := hP
  have hD : va_D _ (wM cs am 1 bank rnds dn N n fc pu wh kn nm sk br ht sg) := hD
  refine W.eq (g2 := F0 m 24 ls [.int 0]) rfl ?_
  exact wr_iret hQ hx hb hr hlocks hP hD hS (hpost) dX3_of_24
set_option maxHeartbeats 4000000 in
set_option maxRecDepth 100000 in
theorem mp_patronOf (l : Launch) (D : va_G) (cs : Nat → ClassId) (H : Heap) {am : Nat → Nat} {th bank rnds : Int32} {dn N n : Nat} {fc pu wh kn nm sk br ht sg : Nat → Int32} {fn : Nat → Nat} (hF : FM fn dn N n fc) (i : Nat) (hlt : i < n) (hv : inM (nI i) 0 (nI n - 1) = true) (post : Option Value → va_W → Prop) (hpost : post (some (.int (wh i))) (wM cs am 0 bank rnds dn N n fc pu wh kn nm sk br ht sg)) (hP : va_P D vwCl (wM cs am th bank rnds dn N n fc pu wh kn nm sk br ht sg) H) (hD : va_D (fun _ => True) (wM cs am th bank rnds dn N n fc pu wh kn nm sk br ht sg)) : Wr l D cs 4 0 0 yX3_patronOf cX3_patronOf 2 (some .int) (wM cs am th bank rnds dn N n fc pu wh kn nm sk br ht sg) H [.ref (am 0), .int (nI i)] post := by
  refine wr_ent (by decide) (Nat.le_of_ble_eq_true rfl) hP hD ?_
  clear hP hD H
  intro p e s m below meth c ls A Q H hx hb hr hml hown hts hlocks hin hl hK hQ hA hH hP hD hS
  clear hH
  have hl : lv_has ls 2 [(0, .ref (am 0)), (1, .int (nI i))] := hl
  have hF0 := hF
  obtain ⟨hF3, hd1, hd3, hNe, hN1, hN, hn⟩ := hF
  refine lv_aload_n hx hb dX3_patronOf_0 rfl (lv_at hl 0 rfl) ?_
  refine lv_iload_n hx hb dX3_patronOf_1 rfl (lv_at hl 1 rfl) ?_
  refine lv_aload_n hx hb dX3_patronOf_2 rfl (lv_at hl 0 rfl) ?_
  refine va_get (D := D) (ci := 4) (v := .ref (am 3)) (C := RX3) (T := TX3) (N := 15) hx hb hts inlX3 hown hK hP 0 rfl rfl 8 (by decide) (hts (Cond.fieldLink RX3 26 "TavernDiceModel" "who" "[I") mw_4_0) (fun _ h9 => h9) rfl dX3_patronOf_3 ?_
  refine wrV (As := [.int (nI i), .ref (am 3)]) (rest := []) (b := am 0) ⟨hx, hb, hml, hown, hts⟩ hK 2 (mp_of3 l D cs H hF0 i hlt hv (fun ov w1 => ov = some (.int (wh i)) ∧ w1 = wM cs am 0 bank rnds dn N n fc pu wh kn nm sk br ht sg) ⟨rfl, rfl⟩ hP (hD.weaken (fun _ _ _ _ => trivial))) (gin_v mw_20_7 mw_20_8 mw_20_9 mw_1_5 mw_20_10) (by decide +kernel) ⟨Nat.le_of_ble_eq_true rfl, Nat.le_of_ble_eq_true rfl⟩ (va_recv hK hP (ci := 4) (q0 := 0) rfl rfl) rfl hl.1 rfl (Nat.le_of_ble_eq_true rfl) dX3_patronOf_6 ⟨(Nat.le_of_ble_eq_true rfl), (Nat.le_of_ble_eq_true rfl)⟩ hD hS hA (fun ov9 w9 H locs hp9 hP hD hS => ?_)
  obtain ⟨rfl, rfl⟩ := hp9
  have hP : va_P D vwCl (wM cs am 0 bank rnds dn N n fc pu wh kn nm sk br ht sg) H := hP
  have hD : va_D _ (wM cs am 0 bank rnds dn N n fc pu wh kn nm sk br ht sg) := hD
  refine W.eq (g2 := F0 m 9 ls [.int (wh i)]) rfl ?_
  exact wr_iret hQ hx hb hr hlocks hP hD hS (hpost) dX3_patronOf_9
set_option maxHeartbeats 4000000 in
set_option maxRecDepth 100000 in
theorem mp_patronOf_no (l : Launch) (D : va_G) (cs : Nat → ClassId) (H : Heap) {am : Nat → Nat} {th bank rnds : Int32} {dn N n : Nat} {fc pu wh kn nm sk br ht sg : Nat → Int32} {fn : Nat → Nat} (hF : FM fn dn N n fc) (w : Int32) (hv : inM w 0 (nI n - 1) = false) (post : Option Value → va_W → Prop) (hpost : post (some (.int (0))) (wM cs am 1 bank rnds dn N n fc pu wh kn nm sk br ht sg)) (hP : va_P D vwCl (wM cs am th bank rnds dn N n fc pu wh kn nm sk br ht sg) H) (hD : va_D (fun _ => True) (wM cs am th bank rnds dn N n fc pu wh kn nm sk br ht sg)) : Wr l D cs 4 0 0 yX3_patronOf cX3_patronOf 2 (some .int) (wM cs am th bank rnds dn N n fc pu wh kn nm sk br ht sg) H [.ref (am 0), .int w] post := by
  refine wr_ent (by decide) (Nat.le_of_ble_eq_true rfl) hP hD ?_
  clear hP hD H
  intro p e s m below meth c ls A Q H hx hb hr hml hown hts hlocks hin hl hK hQ hA hH hP hD hS
  clear hH
  have hl : lv_has ls 2 [(0, .ref (am 0)), (1, .int w)] := hl
  have hF0 := hF
  obtain ⟨hF3, hd1, hd3, hNe, hN1, hN, hn⟩ := hF
  refine lv_aload_n hx hb dX3_patronOf_0 rfl (lv_at hl 0 rfl) ?_
  refine lv_iload_n hx hb dX3_patronOf_1 rfl (lv_at hl 1 rfl) ?_
  refine lv_aload_n hx hb dX3_patronOf_2 rfl (lv_at hl 0 rfl) ?_
  refine va_get (D := D) (ci := 4) (v := .ref (am 3)) (C := RX3) (T := TX3) (N := 15) hx hb hts inlX3 hown hK hP 0 rfl rfl 8 (by decide) (hts (Cond.fieldLink RX3 26 "TavernDiceModel" "who" "[I") mw_4_0) (fun _ h9 => h9) rfl dX3_patronOf_3 ?_
  refine wrV (As := [.int w, .ref (am 3)]) (rest := []) (b := am 0) ⟨hx, hb, hml, hown, hts⟩ hK 2 (mp_of3_no l D cs H hF0 w hv (fun ov w1 => ov = some (.int (0)) ∧ w1 = wM cs am 1 bank rnds dn N n fc pu wh kn nm sk br ht sg) ⟨rfl, rfl⟩ hP (hD.weaken (fun _ _ _ _ => trivial))) (gin_v mw_20_7 mw_20_8 mw_20_9 mw_1_5 mw_20_10) (by decide +kernel) ⟨Nat.le_of_ble_eq_true rfl, Nat.le_of_ble_eq_true rfl⟩ (va_recv hK hP (ci := 4) (q0 := 0) rfl rfl) rfl hl.1 rfl (Nat.le_of_ble_eq_true rfl) dX3_patronOf_6 ⟨(Nat.le_of_ble_eq_true rfl), (Nat.le_of_ble_eq_true rfl)⟩ hD hS hA (fun ov9 w9 H locs hp9 hP hD hS => ?_)
  obtain ⟨rfl, rfl⟩ := hp9
  have hP : va_P D vwCl (wM cs am 1 bank rnds dn N n fc pu wh kn nm sk br ht sg) H := hP
  have hD : va_D _ (wM cs am 1 bank rnds dn N n fc pu wh kn nm sk br ht sg) := hD
  refine W.eq (g2 := F0 m 9 ls [.int 0]) rfl ?_
  exact wr_iret hQ hx hb hr hlocks hP hD hS (hpost) dX3_patronOf_9
set_option maxHeartbeats 4000000 in
set_option maxRecDepth 100000 in
theorem mp_of6 (l : Launch) (D : va_G) (cs : Nat → ClassId) (H : Heap) {am : Nat → Nat} {th bank rnds : Int32} {dn N n : Nat} {fc pu wh kn nm sk br ht sg : Nat → Int32} {fn : Nat → Nat} (hF : FM fn dn N n fc) (i : Nat) (hlt : i < n) (hv : inM (nI i) 0 (nI n - 1) = true) (post : Option Value → va_W → Prop) (hpost : post (some (.int (sk i))) (wM cs am 0 bank rnds dn N n fc pu wh kn nm sk br ht sg)) (hP : va_P D vwCl (wM cs am th bank rnds dn N n fc pu wh kn nm sk br ht sg) H) (hD : va_D (fun _ => True) (wM cs am th bank rnds dn N n fc pu wh kn nm sk br ht sg)) : Wr l D cs 3 0 0 yX3_of cX3_of 3 (some .int) (wM cs am th bank rnds dn N n fc pu wh kn nm sk br ht sg) H [.ref (am 0), .int (nI i), .ref (am 6)] post := by
  refine wr_ent (by decide) (Nat.le_of_ble_eq_true rfl) hP hD ?_
  clear hP hD H
  intro p e s m below meth c ls A Q H hx hb hr hml hown hts hlocks hin hl hK hQ hA hH hP hD hS
  clear hH
  have hl : lv_has ls 3 [(0, .ref (am 0)), (1, .int (nI i)), (2, .ref (am 6))] := hl
  have hF0 := hF
  obtain ⟨hF3, hd1, hd3, hNe, hN1, hN, hn⟩ := hF
  refine lv_aload_n hx hb dX3_of_0 rfl (lv_at hl 0 rfl) ?_
  refine lv_iconst (v := 0) hx hb dX3_of_1 (by first | decide | rfl) ?_
  refine va_put (D := D) (ci := 4) (v := .int 0) (ty := .int) (C := RX3) (T := TX3) (N := 15) hx hb hts inlX3 tyX3 tyX3_ok nmX3 hown hK hP hD hS 0 rfl rfl 0 (by decide) (hts (Cond.fieldLink RX3 48 "TavernDiceModel" "thrown" "I") mw_5_15) (fun _ h9 => h9) rfl (by decide +kernel) rfl rfl (Nat.le_of_ble_eq_true rfl) dX3_of_2 (fun H locs hP hD hS => ?_)
  have hP : va_P D vwCl (wM cs am 0 bank rnds dn N n fc pu wh kn nm sk br ht sg) H := hP
  have hD : va_D _ (wM cs am 0 bank rnds dn N n fc pu wh kn nm sk br ht sg) := hD
  refine lv_aload_n hx hb dX3_of_5 rfl (lv_at hl 0 rfl) ?_
  refine lv_iload_n hx hb dX3_of_6 rfl (lv_at hl 1 rfl) ?_
  refine rdV (As := [.int (nI i)]) (rest := []) (b := am 0) ⟨hx, hb, hml, hown, hts⟩ hK 1 (m_isWager l D cs H hP hF0 (nI i)) (gin_v mw_16_12 mw_16_13 mw_16_14 mw_1_5 mw_16_15) (by decide +kernel) ⟨Nat.le_of_ble_eq_true rfl, Nat.le_of_ble_eq_true rfl⟩ (va_recv hK hP (ci := 4) (q0 := 0) rfl rfl) rfl hl.1 rfl (Nat.le_of_ble_eq_true rfl) dX3_of_7 ⟨(Nat.le_of_ble_eq_true rfl), (Nat.le_of_ble_eq_true rfl)⟩ ?_
  refine W.eq (g2 := F0 m 10 ls [.int (b2i (inM (nI i) 0 (nI n - 1)))]) rfl ?_
  refine lv_if_eq (tgt := 19) hx hb dX3_of_10 (by decide) (fun c_1 => False.elim (absurd c_1 ((b2i_ne0 _).mpr hv))) (fun c_1 => ?_)
  refine lv_aload_n hx hb dX3_of_13 rfl (lv_at hl 2 rfl) ?_
  refine lv_iload_n hx hb dX3_of_14 rfl (lv_at hl 1 rfl) ?_
  refine va_iald hx hb hK hP 6 0 rfl rfl (vp_in_nI (by omega) (by omega)) dX3_of_15 ?_
  refine lv_rwi (y := sk i) (congrArg sk (nI_clamp (by omega))) ?_
  refine lv_goto (tgt := 24) hx hb dX3_of_16 (by decide) ?_
  exact wr_iret hQ hx hb hr hlocks hP hD hS (hpost) dX3_of_24
set_option maxHeartbeats 4000000 in
set_option maxRecDepth 100000 in
theorem mp_of6_no (l : Launch) (D : va_G) (cs : Nat → ClassId) (H : Heap) {am : Nat → Nat} {th bank rnds : Int32} {dn N n : Nat} {fc pu wh kn nm sk br ht sg : Nat → Int32} {fn : Nat → Nat} (hF : FM fn dn N n fc) (w : Int32) (hv : inM w 0 (nI n - 1) = false) (post : Option Value → va_W → Prop) (hpost : post (some (.int (0))) (wM cs am 1 bank rnds dn N n fc pu wh kn nm sk br ht sg)) (hP : va_P D vwCl (wM cs am th bank rnds dn N n fc pu wh kn nm sk br ht sg) H) (hD : va_D (fun _ => True) (wM cs am th bank rnds dn N n fc pu wh kn nm sk br ht sg)) : Wr l D cs 3 0 0 yX3_of cX3_of 3 (some .int) (wM cs am th bank rnds dn N n fc pu wh kn nm sk br ht sg) H [.ref (am 0), .int w, .ref (am 6)] post := by
  refine wr_ent (by decide) (Nat.le_of_ble_eq_true rfl) hP hD ?_
  clear hP hD H
  intro p e s m below meth c ls A Q H hx hb hr hml hown hts hlocks hin hl hK hQ hA hH hP hD hS
  clear hH
  have hl : lv_has ls 3 [(0, .ref (am 0)), (1, .int w), (2, .ref (am 6))] := hl
  have hF0 := hF
  obtain ⟨hF3, hd1, hd3, hNe, hN1, hN, hn⟩ := hF
  refine lv_aload_n hx hb dX3_of_0 rfl (lv_at hl 0 rfl) ?_
  refine lv_iconst (v := 0) hx hb dX3_of_1 (by first | decide | rfl) ?_
  refine va_put (D := D) (ci := 4) (v := .int 0) (ty := .int) (C := RX3) (T := TX3) (N := 15) hx hb hts inlX3 tyX3 tyX3_ok nmX3 hown hK hP hD hS 0 rfl rfl 0 (by decide) (hts (Cond.fieldLink RX3 48 "TavernDiceModel" "thrown" "I") mw_5_15) (fun _ h9 => h9) rfl (by decide +kernel) rfl rfl (Nat.le_of_ble_eq_true rfl) dX3_of_2 (fun H locs hP hD hS => ?_)
  have hP : va_P D vwCl (wM cs am 0 bank rnds dn N n fc pu wh kn nm sk br ht sg) H := hP
  have hD : va_D _ (wM cs am 0 bank rnds dn N n fc pu wh kn nm sk br ht sg) := hD
  refine lv_aload_n hx hb dX3_of_5 rfl (lv_at hl 0 rfl) ?_
  refine lv_iload_n hx hb dX3_of_6 rfl (lv_at hl 1 rfl) ?_
  refine rdV (As := [.int w]) (rest := []) (b := am 0) ⟨hx, hb, hml, hown, hts⟩ hK 1 (m_isWager l D cs H hP hF0 w) (gin_v mw_16_12 mw_16_13 mw_16_14 mw_1_5 mw_16_15) (by decide +kernel) ⟨Nat.le_of_ble_eq_true rfl, Nat.le_of_ble_eq_true rfl⟩ (va_recv hK hP (ci := 4) (q0 := 0) rfl rfl) rfl hl.1 rfl (Nat.le_of_ble_eq_true rfl) dX3_of_7 ⟨(Nat.le_of_ble_eq_true rfl), (Nat.le_of_ble_eq_true rfl)⟩ ?_
  refine W.eq (g2 := F0 m 10 ls [.int (b2i (inM w 0 (nI n - 1)))]) rfl ?_
  refine lv_if_eq (tgt := 19) hx hb dX3_of_10 (by decide) (fun c_1 => ?_) (fun c_1 => False.elim (c_1 ((b2i_eq0 _).mpr hv)))
  refine lv_aload_n hx hb dX3_of_19 rfl (lv_at hl 0 rfl) ?_
  refine lv_iconst (v := 1) hx hb dX3_of_20 (by first | decide | rfl) ?_
  refine wrV (As := [.int 1]) (rest := []) (b := am 0) ⟨hx, hb, hml, hown, hts⟩ hK 1 (m_no l D cs H 1 (fun ov w1 => ov = some (.int 0) ∧ w1 = wM cs am 1 bank rnds dn N n fc pu wh kn nm sk br ht sg) ⟨rfl, rfl⟩ hP (hD.weaken (fun _ _ _ _ => trivial))) (gin_v mw_6_2 mw_6_3 mw_6_4 mw_1_5 mw_6_5) (by decide +kernel) ⟨Nat.le_of_ble_eq_true rfl, Nat.le_of_ble_eq_true rfl⟩ (va_recv hK hP (ci := 4) (q0 := 0) rfl rfl) rfl hl.1 rfl (Nat.le_of_ble_eq_true rfl) dX3_of_21 ⟨(Nat.le_of_ble_eq_true rfl), (Nat.le_of_ble_eq_true rfl)⟩ hD hS hA (fun ov9 w9 H locs hp9 hP hD hS => ?_)
  obtain ⟨rfl, rfl⟩ := hp9
  have hP : va_P D vwCl (wM cs am 1 bank rnds dn N n fc pu wh kn nm sk br ht sg) H := hP
  have hD : va_D _ (wM cs am 1 bank rnds dn N n fc pu wh kn nm sk br ht sg) := hD
  refine W.eq (g2 := F0 m 24 ls [.int 0]) rfl ?_
  exact wr_iret hQ hx hb hr hlocks hP hD hS (hpost) dX3_of_24
set_option maxHeartbeats 4000000 in
set_option maxRecDepth 100000 in
theorem mp_stakeOf (l : Launch) (D : va_G) (cs : Nat → ClassId) (H : Heap) {am : Nat → Nat} {th bank rnds : Int32} {dn N n : Nat} {fc pu wh kn nm sk br ht sg : Nat → Int32} {fn : Nat → Nat} (hF : FM fn dn N n fc) (i : Nat) (hlt : i < n) (hv : inM (nI i) 0 (nI n - 1) = true) (post : Option Value → va_W → Prop) (hpost : post (some (.int (sk i))) (wM cs am 0 bank rnds dn N n fc pu wh kn nm sk br ht sg)) (hP : va_P D vwCl (wM cs am th bank rnds dn N n fc pu wh kn nm sk br ht sg) H) (hD : va_D (fun _ => True) (wM cs am th bank rnds dn N n fc pu wh kn nm sk br ht sg)) : Wr l D cs 4 0 0 yX3_stakeOf cX3_stakeOf 2 (some .int) (wM cs am th bank rnds dn N n fc pu wh kn nm sk br ht sg) H [.ref (am 0), .int (nI i)] post := by
  refine wr_ent (by decide) (Nat.le_of_ble_eq_true rfl) hP hD ?_
  clear hP hD H
  intro p e s m below meth c ls A Q H hx hb hr hml hown hts hlocks hin hl hK hQ hA hH hP hD hS
  clear hH
  have hl : lv_has ls 2 [(0, .ref (am 0)), (1, .int (nI i))] := hl
  have hF0 := hF
  obtain ⟨hF3, hd1, hd3, hNe, hN1, hN, hn⟩ := hF
  refine lv_aload_n hx hb dX3_stakeOf_0 rfl (lv_at hl 0 rfl) ?_
  refine lv_iload_n hx hb dX3_stakeOf_1 rfl (lv_at hl 1 rfl) ?_
  refine lv_aload_n hx hb dX3_stakeOf_2 rfl (lv_at hl 0 rfl) ?_
  refine va_get (D := D) (ci := 4) (v := .ref (am 6)) (C := RX3) (T := TX3) (N := 15) hx hb hts inlX3 hown hK hP 0 rfl rfl 11 (by decide) (hts (Cond.fieldLink RX3 35 "TavernDiceModel" "stake" "[I") mw_4_3) (fun _ h9 => h9) rfl dX3_stakeOf_3 ?_
  refine wrV (As := [.int (nI i), .ref (am 6)]) (rest := []) (b := am 0) ⟨hx, hb, hml, hown, hts⟩ hK 2 (mp_of6 l D cs H hF0 i hlt hv (fun ov w1 => ov = some (.int (sk i)) ∧ w1 = wM cs am 0 bank rnds dn N n fc pu wh kn nm sk br ht sg) ⟨rfl, rfl⟩ hP (hD.weaken (fun _ _ _ _ => trivial))) (gin_v mw_20_7 mw_20_8 mw_20_9 mw_1_5 mw_20_10) (by decide +kernel) ⟨Nat.le_of_ble_eq_true rfl, Nat.le_of_ble_eq_true rfl⟩ (va_recv hK hP (ci := 4) (q0 := 0) rfl rfl) rfl hl.1 rfl (Nat.le_of_ble_eq_true rfl) dX3_stakeOf_6 ⟨(Nat.le_of_ble_eq_true rfl), (Nat.le_of_ble_eq_true rfl)⟩ hD hS hA (fun ov9 w9 H locs hp9 hP hD hS => ?_)
  obtain ⟨rfl, rfl⟩ := hp9
  have hP : va_P D vwCl (wM cs am 0 bank rnds dn N n fc pu wh kn nm sk br ht sg) H := hP
  have hD : va_D _ (wM cs am 0 bank rnds dn N n fc pu wh kn nm sk br ht sg) := hD
  refine W.eq (g2 := F0 m 9 ls [.int (sk i)]) rfl ?_
  exact wr_iret hQ hx hb hr hlocks hP hD hS (hpost) dX3_stakeOf_9
set_option maxHeartbeats 4000000 in
set_option maxRecDepth 100000 in
theorem mp_stakeOf_no (l : Launch) (D : va_G) (cs : Nat → ClassId) (H : Heap) {am : Nat → Nat} {th bank rnds : Int32} {dn N n : Nat} {fc pu wh kn nm sk br ht sg : Nat → Int32} {fn : Nat → Nat} (hF : FM fn dn N n fc) (w : Int32) (hv : inM w 0 (nI n - 1) = false) (post : Option Value → va_W → Prop) (hpost : post (some (.int (0))) (wM cs am 1 bank rnds dn N n fc pu wh kn nm sk br ht sg)) (hP : va_P D vwCl (wM cs am th bank rnds dn N n fc pu wh kn nm sk br ht sg) H) (hD : va_D (fun _ => True) (wM cs am th bank rnds dn N n fc pu wh kn nm sk br ht sg)) : Wr l D cs 4 0 0 yX3_stakeOf cX3_stakeOf 2 (some .int) (wM cs am th bank rnds dn N n fc pu wh kn nm sk br ht sg) H [.ref (am 0), .int w] post := by
  refine wr_ent (by decide) (Nat.le_of_ble_eq_true rfl) hP hD ?_
  clear hP hD H
  intro p e s m below meth c ls A Q H hx hb hr hml hown hts hlocks hin hl hK hQ hA hH hP hD hS
  clear hH
  have hl : lv_has ls 2 [(0, .ref (am 0)), (1, .int w)] := hl
  have hF0 := hF
  obtain ⟨hF3, hd1, hd3, hNe, hN1, hN, hn⟩ := hF
  refine lv_aload_n hx hb dX3_stakeOf_0 rfl (lv_at hl 0 rfl) ?_
  refine lv_iload_n hx hb dX3_stakeOf_1 rfl (lv_at hl 1 rfl) ?_
  refine lv_aload_n hx hb dX3_stakeOf_2 rfl (lv_at hl 0 rfl) ?_
  refine va_get (D := D) (ci := 4) (v := .ref (am 6)) (C := RX3) (T := TX3) (N := 15) hx hb hts inlX3 hown hK hP 0 rfl rfl 11 (by decide) (hts (Cond.fieldLink RX3 35 "TavernDiceModel" "stake" "[I") mw_4_3) (fun _ h9 => h9) rfl dX3_stakeOf_3 ?_
  refine wrV (As := [.int w, .ref (am 6)]) (rest := []) (b := am 0) ⟨hx, hb, hml, hown, hts⟩ hK 2 (mp_of6_no l D cs H hF0 w hv (fun ov w1 => ov = some (.int (0)) ∧ w1 = wM cs am 1 bank rnds dn N n fc pu wh kn nm sk br ht sg) ⟨rfl, rfl⟩ hP (hD.weaken (fun _ _ _ _ => trivial))) (gin_v mw_20_7 mw_20_8 mw_20_9 mw_1_5 mw_20_10) (by decide +kernel) ⟨Nat.le_of_ble_eq_true rfl, Nat.le_of_ble_eq_true rfl⟩ (va_recv hK hP (ci := 4) (q0 := 0) rfl rfl) rfl hl.1 rfl (Nat.le_of_ble_eq_true rfl) dX3_stakeOf_6 ⟨(Nat.le_of_ble_eq_true rfl), (Nat.le_of_ble_eq_true rfl)⟩ hD hS hA (fun ov9 w9 H locs hp9 hP hD hS => ?_)
  obtain ⟨rfl, rfl⟩ := hp9
  have hP : va_P D vwCl (wM cs am 1 bank rnds dn N n fc pu wh kn nm sk br ht sg) H := hP
  have hD : va_D _ (wM cs am 1 bank rnds dn N n fc pu wh kn nm sk br ht sg) := hD
  refine W.eq (g2 := F0 m 9 ls [.int 0]) rfl ?_
  exact wr_iret hQ hx hb hr hlocks hP hD hS (hpost) dX3_stakeOf_9
set_option maxHeartbeats 4000000 in
set_option maxRecDepth 100000 in
theorem mp_of7 (l : Launch) (D : va_G) (cs : Nat → ClassId) (H : Heap) {am : Nat → Nat} {th bank rnds : Int32} {dn N n : Nat} {fc pu wh kn nm sk br ht sg : Nat → Int32} {fn : Nat → Nat} (hF : FM fn dn N n fc) (i : Nat) (hlt : i < n) (hv : inM (nI i) 0 (nI n - 1) = true) (post : Option Value → va_W → Prop) (hpost : post (some (.int (br i))) (wM cs am 0 bank rnds dn N n fc pu wh kn nm sk br ht sg)) (hP : va_P D vwCl (wM cs am th bank rnds dn N n fc pu wh kn nm sk br ht sg) H) (hD : va_D (fun _ => True) (wM cs am th bank rnds dn N n fc pu wh kn nm sk br ht sg)) : Wr l D cs 3 0 0 yX3_of cX3_of 3 (some .int) (wM cs am th bank rnds dn N n fc pu wh kn nm sk br ht sg) H [.ref (am 0), .int (nI i), .ref (am 7)] post := by
  refine wr_ent (by decide) (Nat.le_of_ble_eq_true rfl) hP hD ?_
  clear hP hD H
  intro p e s m below meth c ls A Q H hx hb hr hml hown hts hlocks hin hl hK hQ hA hH hP hD hS
  clear hH
  have hl : lv_has ls 3 [(0, .ref (am 0)), (1, .int (nI i)), (2, .ref (am 7))] := hl
  have hF0 := hF
  obtain ⟨hF3, hd1, hd3, hNe, hN1, hN, hn⟩ := hF
  refine lv_aload_n hx hb dX3_of_0 rfl (lv_at hl 0 rfl) ?_
  refine lv_iconst (v := 0) hx hb dX3_of_1 (by first | decide | rfl) ?_
  refine va_put (D := D) (ci := 4) (v := .int 0) (ty := .int) (C := RX3) (T := TX3) (N := 15) hx hb hts inlX3 tyX3 tyX3_ok nmX3 hown hK hP hD hS 0 rfl rfl 0 (by decide) (hts (Cond.fieldLink RX3 48 "TavernDiceModel" "thrown" "I") mw_5_15) (fun _ h9 => h9) rfl (by decide +kernel) rfl rfl (Nat.le_of_ble_eq_true rfl) dX3_of_2 (fun H locs hP hD hS => ?_)
  have hP : va_P D vwCl (wM cs am 0 bank rnds dn N n fc pu wh kn nm sk br ht sg) H := hP
  have hD : va_D _ (wM cs am 0 bank rnds dn N n fc pu wh kn nm sk br ht sg) := hD
  refine lv_aload_n hx hb dX3_of_5 rfl (lv_at hl 0 rfl) ?_
  refine lv_iload_n hx hb dX3_of_6 rfl (lv_at hl 1 rfl) ?_
  refine rdV (As := [.int (nI i)]) (rest := []) (b := am 0) ⟨hx, hb, hml, hown, hts⟩ hK 1 (m_isWager l D cs H hP hF0 (nI i)) (gin_v mw_16_12 mw_16_13 mw_16_14 mw_1_5 mw_16_15) (by decide +kernel) ⟨Nat.le_of_ble_eq_true rfl, Nat.le_of_ble_eq_true rfl⟩ (va_recv hK hP (ci := 4) (q0 := 0) rfl rfl) rfl hl.1 rfl (Nat.le_of_ble_eq_true rfl) dX3_of_7 ⟨(Nat.le_of_ble_eq_true rfl), (Nat.le_of_ble_eq_true rfl)⟩ ?_
  refine W.eq (g2 := F0 m 10 ls [.int (b2i (inM (nI i) 0 (nI n - 1)))]) rfl ?_
  refine lv_if_eq (tgt := 19) hx hb dX3_of_10 (by decide) (fun c_1 => False.elim (absurd c_1 ((b2i_ne0 _).mpr hv))) (fun c_1 => ?_)
  refine lv_aload_n hx hb dX3_of_13 rfl (lv_at hl 2 rfl) ?_
  refine lv_iload_n hx hb dX3_of_14 rfl (lv_at hl 1 rfl) ?_
  refine va_iald hx hb hK hP 7 0 rfl rfl (vp_in_nI (by omega) (by omega)) dX3_of_15 ?_
  refine lv_rwi (y := br i) (congrArg br (nI_clamp (by omega))) ?_
  refine lv_goto (tgt := 24) hx hb dX3_of_16 (by decide) ?_
  exact wr_iret hQ hx hb hr hlocks hP hD hS (hpost) dX3_of_24
set_option maxHeartbeats 4000000 in
set_option maxRecDepth 100000 in
theorem mp_of7_no (l : Launch) (D : va_G) (cs : Nat → ClassId) (H : Heap) {am : Nat → Nat} {th bank rnds : Int32} {dn N n : Nat} {fc pu wh kn nm sk br ht sg : Nat → Int32} {fn : Nat → Nat} (hF : FM fn dn N n fc) (w : Int32) (hv : inM w 0 (nI n - 1) = false) (post : Option Value → va_W → Prop) (hpost : post (some (.int (0))) (wM cs am 1 bank rnds dn N n fc pu wh kn nm sk br ht sg)) (hP : va_P D vwCl (wM cs am th bank rnds dn N n fc pu wh kn nm sk br ht sg) H) (hD : va_D (fun _ => True) (wM cs am th bank rnds dn N n fc pu wh kn nm sk br ht sg)) : Wr l D cs 3 0 0 yX3_of cX3_of 3 (some .int) (wM cs am th bank rnds dn N n fc pu wh kn nm sk br ht sg) H [.ref (am 0), .int w, .ref (am 7)] post := by
  refine wr_ent (by decide) (Nat.le_of_ble_eq_true rfl) hP hD ?_
  clear hP hD H
  intro p e s m below meth c ls A Q H hx hb hr hml hown hts hlocks hin hl hK hQ hA hH hP hD hS
  clear hH
  have hl : lv_has ls 3 [(0, .ref (am 0)), (1, .int w), (2, .ref (am 7))] := hl
  have hF0 := hF
  obtain ⟨hF3, hd1, hd3, hNe, hN1, hN, hn⟩ := hF
  refine lv_aload_n hx hb dX3_of_0 rfl (lv_at hl 0 rfl) ?_
  refine lv_iconst (v := 0) hx hb dX3_of_1 (by first | decide | rfl) ?_
  refine va_put (D := D) (ci := 4) (v := .int 0) (ty := .int) (C := RX3) (T := TX3) (N := 15) hx hb hts inlX3 tyX3 tyX3_ok nmX3 hown hK hP hD hS 0 rfl rfl 0 (by decide) (hts (Cond.fieldLink RX3 48 "TavernDiceModel" "thrown" "I") mw_5_15) (fun _ h9 => h9) rfl (by decide +kernel) rfl rfl (Nat.le_of_ble_eq_true rfl) dX3_of_2 (fun H locs hP hD hS => ?_)
  have hP : va_P D vwCl (wM cs am 0 bank rnds dn N n fc pu wh kn nm sk br ht sg) H := hP
  have hD : va_D _ (wM cs am 0 bank rnds dn N n fc pu wh kn nm sk br ht sg) := hD
  refine lv_aload_n hx hb dX3_of_5 rfl (lv_at hl 0 rfl) ?_
  refine lv_iload_n hx hb dX3_of_6 rfl (lv_at hl 1 rfl) ?_
  refine rdV (As := [.int w]) (rest := []) (b := am 0) ⟨hx, hb, hml, hown, hts⟩ hK 1 (m_isWager l D cs H hP hF0 w) (gin_v mw_16_12 mw_16_13 mw_16_14 mw_1_5 mw_16_15) (by decide +kernel) ⟨Nat.le_of_ble_eq_true rfl, Nat.le_of_ble_eq_true rfl⟩ (va_recv hK hP (ci := 4) (q0 := 0) rfl rfl) rfl hl.1 rfl (Nat.le_of_ble_eq_true rfl) dX3_of_7 ⟨(Nat.le_of_ble_eq_true rfl), (Nat.le_of_ble_eq_true rfl)⟩ ?_
  refine W.eq (g2 := F0 m 10 ls [.int (b2i (inM w 0 (nI n - 1)))]) rfl ?_
  refine lv_if_eq (tgt := 19) hx hb dX3_of_10 (by decide) (fun c_1 => ?_) (fun c_1 => False.elim (c_1 ((b2i_eq0 _).mpr hv)))
  refine lv_aload_n hx hb dX3_of_19 rfl (lv_at hl 0 rfl) ?_
  refine lv_iconst (v := 1) hx hb dX3_of_20 (by first | decide | rfl) ?_
  refine wrV (As := [.int 1]) (rest := []) (b := am 0) ⟨hx, hb, hml, hown, hts⟩ hK 1 (m_no l D cs H 1 (fun ov w1 => ov = some (.int 0) ∧ w1 = wM cs am 1 bank rnds dn N n fc pu wh kn nm sk br ht sg) ⟨rfl, rfl⟩ hP (hD.weaken (fun _ _ _ _ => trivial))) (gin_v mw_6_2 mw_6_3 mw_6_4 mw_1_5 mw_6_5) (by decide +kernel) ⟨Nat.le_of_ble_eq_true rfl, Nat.le_of_ble_eq_true rfl⟩ (va_recv hK hP (ci := 4) (q0 := 0) rfl rfl) rfl hl.1 rfl (Nat.le_of_ble_eq_true rfl) dX3_of_21 ⟨(Nat.le_of_ble_eq_true rfl), (Nat.le_of_ble_eq_true rfl)⟩ hD hS hA (fun ov9 w9 H locs hp9 hP hD hS => ?_)
  obtain ⟨rfl, rfl⟩ := hp9
  have hP : va_P D vwCl (wM cs am 1 bank rnds dn N n fc pu wh kn nm sk br ht sg) H := hP
  have hD : va_D _ (wM cs am 1 bank rnds dn N n fc pu wh kn nm sk br ht sg) := hD
  refine W.eq (g2 := F0 m 24 ls [.int 0]) rfl ?_
  exact wr_iret hQ hx hb hr hlocks hP hD hS (hpost) dX3_of_24
set_option maxHeartbeats 4000000 in
set_option maxRecDepth 100000 in
theorem mp_bringsOf (l : Launch) (D : va_G) (cs : Nat → ClassId) (H : Heap) {am : Nat → Nat} {th bank rnds : Int32} {dn N n : Nat} {fc pu wh kn nm sk br ht sg : Nat → Int32} {fn : Nat → Nat} (hF : FM fn dn N n fc) (i : Nat) (hlt : i < n) (hv : inM (nI i) 0 (nI n - 1) = true) (post : Option Value → va_W → Prop) (hpost : post (some (.int (br i))) (wM cs am 0 bank rnds dn N n fc pu wh kn nm sk br ht sg)) (hP : va_P D vwCl (wM cs am th bank rnds dn N n fc pu wh kn nm sk br ht sg) H) (hD : va_D (fun _ => True) (wM cs am th bank rnds dn N n fc pu wh kn nm sk br ht sg)) : Wr l D cs 4 0 0 yX3_bringsOf cX3_bringsOf 2 (some .int) (wM cs am th bank rnds dn N n fc pu wh kn nm sk br ht sg) H [.ref (am 0), .int (nI i)] post := by
  refine wr_ent (by decide) (Nat.le_of_ble_eq_true rfl) hP hD ?_
  clear hP hD H
  intro p e s m below meth c ls A Q H hx hb hr hml hown hts hlocks hin hl hK hQ hA hH hP hD hS
  clear hH
  have hl : lv_has ls 2 [(0, .ref (am 0)), (1, .int (nI i))] := hl
  have hF0 := hF
  obtain ⟨hF3, hd1, hd3, hNe, hN1, hN, hn⟩ := hF
  refine lv_aload_n hx hb dX3_bringsOf_0 rfl (lv_at hl 0 rfl) ?_
  refine lv_iload_n hx hb dX3_bringsOf_1 rfl (lv_at hl 1 rfl) ?_
  refine lv_aload_n hx hb dX3_bringsOf_2 rfl (lv_at hl 0 rfl) ?_
  refine va_get (D := D) (ci := 4) (v := .ref (am 7)) (C := RX3) (T := TX3) (N := 15) hx hb hts inlX3 hown hK hP 0 rfl rfl 12 (by decide) (hts (Cond.fieldLink RX3 38 "TavernDiceModel" "brings" "[I") mw_4_4) (fun _ h9 => h9) rfl dX3_bringsOf_3 ?_
  refine wrV (As := [.int (nI i), .ref (am 7)]) (rest := []) (b := am 0) ⟨hx, hb, hml, hown, hts⟩ hK 2 (mp_of7 l D cs H hF0 i hlt hv (fun ov w1 => ov = some (.int (br i)) ∧ w1 = wM cs am 0 bank rnds dn N n fc pu wh kn nm sk br ht sg) ⟨rfl, rfl⟩ hP (hD.weaken (fun _ _ _ _ => trivial))) (gin_v mw_20_7 mw_20_8 mw_20_9 mw_1_5 mw_20_10) (by decide +kernel) ⟨Nat.le_of_ble_eq_true rfl, Nat.le_of_ble_eq_true rfl⟩ (va_recv hK hP (ci := 4) (q0 := 0) rfl rfl) rfl hl.1 rfl (Nat.le_of_ble_eq_true rfl) dX3_bringsOf_6 ⟨(Nat.le_of_ble_eq_true rfl), (Nat.le_of_ble_eq_true rfl)⟩ hD hS hA (fun ov9 w9 H locs hp9 hP hD hS => ?_)
  obtain ⟨rfl, rfl⟩ := hp9
  have hP : va_P D vwCl (wM cs am 0 bank rnds dn N n fc pu wh kn nm sk br ht sg) H := hP
  have hD : va_D _ (wM cs am 0 bank rnds dn N n fc pu wh kn nm sk br ht sg) := hD
  refine W.eq (g2 := F0 m 9 ls [.int (br i)]) rfl ?_
  exact wr_iret hQ hx hb hr hlocks hP hD hS (hpost) dX3_bringsOf_9
set_option maxHeartbeats 4000000 in
set_option maxRecDepth 100000 in
theorem mp_bringsOf_no (l : Launch) (D : va_G) (cs : Nat → ClassId) (H : Heap) {am : Nat → Nat} {th bank rnds : Int32} {dn N n : Nat} {fc pu wh kn nm sk br ht sg : Nat → Int32} {fn : Nat → Nat} (hF : FM fn dn N n fc) (w : Int32) (hv : inM w 0 (nI n - 1) = false) (post : Option Value → va_W → Prop) (hpost : post (some (.int (0))) (wM cs am 1 bank rnds dn N n fc pu wh kn nm sk br ht sg)) (hP : va_P D vwCl (wM cs am th bank rnds dn N n fc pu wh kn nm sk br ht sg) H) (hD : va_D (fun _ => True) (wM cs am th bank rnds dn N n fc pu wh kn nm sk br ht sg)) : Wr l D cs 4 0 0 yX3_bringsOf cX3_bringsOf 2 (some .int) (wM cs am th bank rnds dn N n fc pu wh kn nm sk br ht sg) H [.ref (am 0), .int w] post := by
  refine wr_ent (by decide) (Nat.le_of_ble_eq_true rfl) hP hD ?_
  clear hP hD H
  intro p e s m below meth c ls A Q H hx hb hr hml hown hts hlocks hin hl hK hQ hA hH hP hD hS
  clear hH
  have hl : lv_has ls 2 [(0, .ref (am 0)), (1, .int w)] := hl
  have hF0 := hF
  obtain ⟨hF3, hd1, hd3, hNe, hN1, hN, hn⟩ := hF
  refine lv_aload_n hx hb dX3_bringsOf_0 rfl (lv_at hl 0 rfl) ?_
  refine lv_iload_n hx hb dX3_bringsOf_1 rfl (lv_at hl 1 rfl) ?_
  refine lv_aload_n hx hb dX3_bringsOf_2 rfl (lv_at hl 0 rfl) ?_
  refine va_get (D := D) (ci := 4) (v := .ref (am 7)) (C := RX3) (T := TX3) (N := 15) hx hb hts inlX3 hown hK hP 0 rfl rfl 12 (by decide) (hts (Cond.fieldLink RX3 38 "TavernDiceModel" "brings" "[I") mw_4_4) (fun _ h9 => h9) rfl dX3_bringsOf_3 ?_
  refine wrV (As := [.int w, .ref (am 7)]) (rest := []) (b := am 0) ⟨hx, hb, hml, hown, hts⟩ hK 2 (mp_of7_no l D cs H hF0 w hv (fun ov w1 => ov = some (.int (0)) ∧ w1 = wM cs am 1 bank rnds dn N n fc pu wh kn nm sk br ht sg) ⟨rfl, rfl⟩ hP (hD.weaken (fun _ _ _ _ => trivial))) (gin_v mw_20_7 mw_20_8 mw_20_9 mw_1_5 mw_20_10) (by decide +kernel) ⟨Nat.le_of_ble_eq_true rfl, Nat.le_of_ble_eq_true rfl⟩ (va_recv hK hP (ci := 4) (q0 := 0) rfl rfl) rfl hl.1 rfl (Nat.le_of_ble_eq_true rfl) dX3_bringsOf_6 ⟨(Nat.le_of_ble_eq_true rfl), (Nat.le_of_ble_eq_true rfl)⟩ hD hS hA (fun ov9 w9 H locs hp9 hP hD hS => ?_)
  obtain ⟨rfl, rfl⟩ := hp9
  have hP : va_P D vwCl (wM cs am 1 bank rnds dn N n fc pu wh kn nm sk br ht sg) H := hP
  have hD : va_D _ (wM cs am 1 bank rnds dn N n fc pu wh kn nm sk br ht sg) := hD
  refine W.eq (g2 := F0 m 9 ls [.int 0]) rfl ?_
  exact wr_iret hQ hx hb hr hlocks hP hD hS (hpost) dX3_bringsOf_9
set_option maxHeartbeats 4000000 in
set_option maxRecDepth 100000 in
theorem mp_edgeTop (l : Launch) (D : va_G) (cs : Nat → ClassId) (H : Heap) {am : Nat → Nat} {th bank rnds : Int32} {dn N n : Nat} {fc pu wh kn nm sk br ht sg : Nat → Int32} {fn : Nat → Nat} (hF : FM fn dn N n fc) {kd : Nat → Nat} (hkd : ∀ i, i < n → kn i = nI (kd i) ∧ kd i < 10) (i : Nat) (hlt : i < n) (hv : inM (nI i) 0 (nI n - 1) = true) (u : Nat) (hu1 : absI (edM fn dn N kd nm sk br i) = nI u) (hu2 : u < 2 ^ 31) (post : Option Value → va_W → Prop) (hpost : ∀ sg9 : Nat → Int32, post (some (.int (edM fn dn N kd nm sk br i / nI (Nat.gcd u N)))) (wM cs am 0 bank rnds dn N n fc pu wh kn nm sk br ht sg9)) (hP : va_P D vwCl (wM cs am th bank rnds dn N n fc pu wh kn nm sk br ht sg) H) (hD : va_D (fun _ => True) (wM cs am th bank rnds dn N n fc pu wh kn nm sk br ht sg)) : Wr l D cs 6 0 0 yX3_edgeTop cX3_edgeTop 2 (some .int) (wM cs am th bank rnds dn N n fc pu wh kn nm sk br ht sg) H [.ref (am 0), .int (nI i)] post := by
  refine wr_ent (by decide) (Nat.le_of_ble_eq_true rfl) hP hD ?_
  clear hP hD H
  intro p e s m below meth c ls A Q H hx hb hr hml hown hts hlocks hin hl hK hQ hA hH hP hD hS
  clear hH
  have hl : lv_has ls 2 [(0, .ref (am 0)), (1, .int (nI i))] := hl
  have hF0 := hF
  obtain ⟨hF3, hd1, hd3, hNe, hN1, hN, hn⟩ := hF
  refine lv_aload_n hx hb dX3_edgeTop_0 rfl (lv_at hl 0 rfl) ?_
  refine lv_iconst (v := 0) hx hb dX3_edgeTop_1 (by first | decide | rfl) ?_
  refine va_put (D := D) (ci := 4) (v := .int 0) (ty := .int) (C := RX3) (T := TX3) (N := 15) hx hb hts inlX3 tyX3 tyX3_ok nmX3 hown hK hP hD hS 0 rfl rfl 0 (by decide) (hts (Cond.fieldLink RX3 48 "TavernDiceModel" "thrown" "I") mw_5_15) (fun _ h9 => h9) rfl (by decide +kernel) rfl rfl (Nat.le_of_ble_eq_true rfl) dX3_edgeTop_2 (fun H locs hP hD hS => ?_)
  have hP : va_P D vwCl (wM cs am 0 bank rnds dn N n fc pu wh kn nm sk br ht sg) H := hP
  have hD : va_D _ (wM cs am 0 bank rnds dn N n fc pu wh kn nm sk br ht sg) := hD
  refine lv_aload_n hx hb dX3_edgeTop_5 rfl (lv_at hl 0 rfl) ?_
  refine lv_iload_n hx hb dX3_edgeTop_6 rfl (lv_at hl 1 rfl) ?_
  refine rdV (As := [.int (nI i)]) (rest := []) (b := am 0) ⟨hx, hb, hml, hown, hts⟩ hK 1 (m_isWager l D cs H hP hF0 (nI i)) (gin_v mw_16_12 mw_16_13 mw_16_14 mw_1_5 mw_16_15) (by decide +kernel) ⟨Nat.le_of_ble_eq_true rfl, Nat.le_of_ble_eq_true rfl⟩ (va_recv hK hP (ci := 4) (q0 := 0) rfl rfl) rfl hl.1 rfl (Nat.le_of_ble_eq_true rfl) dX3_edgeTop_7 ⟨(Nat.le_of_ble_eq_true rfl), (Nat.le_of_ble_eq_true rfl)⟩ ?_
  refine W.eq (g2 := F0 m 10 ls [.int (b2i (inM (nI i) 0 (nI n - 1)))]) rfl ?_
  refine lv_if_eq (tgt := 25) hx hb dX3_edgeTop_10 (by decide) (fun c_1 => False.elim (absurd c_1 ((b2i_ne0 _).mpr hv))) (fun c_1 => ?_)
  refine lv_aload_n hx hb dX3_edgeTop_13 rfl (lv_at hl 0 rfl) ?_
  refine lv_aload_n hx hb dX3_edgeTop_14 rfl (lv_at hl 0 rfl) ?_
  refine lv_iload_n hx hb dX3_edgeTop_15 rfl (lv_at hl 1 rfl) ?_
  refine wrV (As := [.int (nI i)]) (rest := [.ref (am 0)]) (b := am 0) ⟨hx, hb, hml, hown, hts⟩ hK 1 (m_edge l D cs H hF0 hkd i hlt (fun ov w1 => ov = some (.int (edM fn dn N kd nm sk br i)) ∧ ∃ (sg9 : Nat → Int32), w1 = wM cs am 0 bank rnds dn N n fc pu wh kn nm sk br ht sg9) (fun sg9 => ⟨rfl, sg9, rfl⟩) hP (hD.weaken (fun _ _ _ _ => trivial))) (gin_v mw_23_4 mw_23_5 mw_23_6 mw_1_5 mw_23_7) (by decide +kernel) ⟨Nat.le_of_ble_eq_true rfl, Nat.le_of_ble_eq_true rfl⟩ (va_recv hK hP (ci := 4) (q0 := 0) rfl rfl) rfl hl.1 rfl (Nat.le_of_ble_eq_true rfl) dX3_edgeTop_16 ⟨(Nat.le_of_ble_eq_true rfl), (Nat.le_of_ble_eq_true rfl)⟩ hD hS hA (fun ov9 w9 H locs hp9 hP hD hS => ?_)
  obtain ⟨rfl, sgz1, rfl⟩ := hp9
  have hP : va_P D vwCl (wM cs am 0 bank rnds dn N n fc pu wh kn nm sk br ht sgz1) H := hP
  have hD : va_D _ (wM cs am 0 bank rnds dn N n fc pu wh kn nm sk br ht sgz1) := hD
  refine W.eq (g2 := F0 m 19 ls [.int (edM fn dn N kd nm sk br i), .ref (am 0)]) rfl ?_
  refine rdV (As := [.int (edM fn dn N kd nm sk br i)]) (rest := []) (b := am 0) ⟨hx, hb, hml, hown, hts⟩ hK 1 (m_top l D cs H hP hF0 (edM fn dn N kd nm sk br i) u hu1 hu2) (gin_v mw_23_8 mw_23_9 mw_23_10 mw_1_5 mw_23_11) (by decide +kernel) ⟨Nat.le_of_ble_eq_true rfl, Nat.le_of_ble_eq_true rfl⟩ (va_recv hK hP (ci := 4) (q0 := 0) rfl rfl) rfl hl.1 rfl (Nat.le_of_ble_eq_true rfl) dX3_edgeTop_19 ⟨(Nat.le_of_ble_eq_true rfl), (Nat.le_of_ble_eq_true rfl)⟩ ?_
  refine W.eq (g2 := F0 m 22 ls [.int ((edM fn dn N kd nm sk br i) / nI (Nat.gcd u N))]) rfl ?_
  refine lv_goto (tgt := 30) hx hb dX3_edgeTop_22 (by decide) ?_
  exact wr_iret hQ hx hb hr hlocks hP hD hS (hpost sgz1) dX3_edgeTop_30
set_option maxHeartbeats 4000000 in
set_option maxRecDepth 100000 in
theorem mp_edgeTop_no (l : Launch) (D : va_G) (cs : Nat → ClassId) (H : Heap) {am : Nat → Nat} {th bank rnds : Int32} {dn N n : Nat} {fc pu wh kn nm sk br ht sg : Nat → Int32} {fn : Nat → Nat} (hF : FM fn dn N n fc) (w : Int32) (hv : inM w 0 (nI n - 1) = false) (post : Option Value → va_W → Prop) (hpost : post (some (.int (0))) (wM cs am 1 bank rnds dn N n fc pu wh kn nm sk br ht sg)) (hP : va_P D vwCl (wM cs am th bank rnds dn N n fc pu wh kn nm sk br ht sg) H) (hD : va_D (fun _ => True) (wM cs am th bank rnds dn N n fc pu wh kn nm sk br ht sg)) : Wr l D cs 6 0 0 yX3_edgeTop cX3_edgeTop 2 (some .int) (wM cs am th bank rnds dn N n fc pu wh kn nm sk br ht sg) H [.ref (am 0), .int w] post := by
  refine wr_ent (by decide) (Nat.le_of_ble_eq_true rfl) hP hD ?_
  clear hP hD H
  intro p e s m below meth c ls A Q H hx hb hr hml hown hts hlocks hin hl hK hQ hA hH hP hD hS
  clear hH
  have hl : lv_has ls 2 [(0, .ref (am 0)), (1, .int w)] := hl
  have hF0 := hF
  obtain ⟨hF3, hd1, hd3, hNe, hN1, hN, hn⟩ := hF
  refine lv_aload_n hx hb dX3_edgeTop_0 rfl (lv_at hl 0 rfl) ?_
  refine lv_iconst (v := 0) hx hb dX3_edgeTop_1 (by first | decide | rfl) ?_
  refine va_put (D := D) (ci := 4) (v := .int 0) (ty := .int) (C := RX3) (T := TX3) (N := 15) hx hb hts inlX3 tyX3 tyX3_ok nmX3 hown hK hP hD hS 0 rfl rfl 0 (by decide) (hts (Cond.fieldLink RX3 48 "TavernDiceModel" "thrown" "I") mw_5_15) (fun _ h9 => h9) rfl (by decide +kernel) rfl rfl (Nat.le_of_ble_eq_true rfl) dX3_edgeTop_2 (fun H locs hP hD hS => ?_)
  have hP : va_P D vwCl (wM cs am 0 bank rnds dn N n fc pu wh kn nm sk br ht sg) H := hP
  have hD : va_D _ (wM cs am 0 bank rnds dn N n fc pu wh kn nm sk br ht sg) := hD
  refine lv_aload_n hx hb dX3_edgeTop_5 rfl (lv_at hl 0 rfl) ?_
  refine lv_iload_n hx hb dX3_edgeTop_6 rfl (lv_at hl 1 rfl) ?_
  refine rdV (As := [.int w]) (rest := []) (b := am 0) ⟨hx, hb, hml, hown, hts⟩ hK 1 (m_isWager l D cs H hP hF0 w) (gin_v mw_16_12 mw_16_13 mw_16_14 mw_1_5 mw_16_15) (by decide +kernel) ⟨Nat.le_of_ble_eq_true rfl, Nat.le_of_ble_eq_true rfl⟩ (va_recv hK hP (ci := 4) (q0 := 0) rfl rfl) rfl hl.1 rfl (Nat.le_of_ble_eq_true rfl) dX3_edgeTop_7 ⟨(Nat.le_of_ble_eq_true rfl), (Nat.le_of_ble_eq_true rfl)⟩ ?_
  refine W.eq (g2 := F0 m 10 ls [.int (b2i (inM w 0 (nI n - 1)))]) rfl ?_
  refine lv_if_eq (tgt := 25) hx hb dX3_edgeTop_10 (by decide) (fun c_1 => ?_) (fun c_1 => False.elim (c_1 ((b2i_eq0 _).mpr hv)))
  refine lv_aload_n hx hb dX3_edgeTop_25 rfl (lv_at hl 0 rfl) ?_
  refine lv_iconst (v := 1) hx hb dX3_edgeTop_26 (by first | decide | rfl) ?_
  refine wrV (As := [.int 1]) (rest := []) (b := am 0) ⟨hx, hb, hml, hown, hts⟩ hK 1 (m_no l D cs H 1 (fun ov w1 => ov = some (.int 0) ∧ w1 = wM cs am 1 bank rnds dn N n fc pu wh kn nm sk br ht sg) ⟨rfl, rfl⟩ hP (hD.weaken (fun _ _ _ _ => trivial))) (gin_v mw_6_2 mw_6_3 mw_6_4 mw_1_5 mw_6_5) (by decide +kernel) ⟨Nat.le_of_ble_eq_true rfl, Nat.le_of_ble_eq_true rfl⟩ (va_recv hK hP (ci := 4) (q0 := 0) rfl rfl) rfl hl.1 rfl (Nat.le_of_ble_eq_true rfl) dX3_edgeTop_27 ⟨(Nat.le_of_ble_eq_true rfl), (Nat.le_of_ble_eq_true rfl)⟩ hD hS hA (fun ov9 w9 H locs hp9 hP hD hS => ?_)
  obtain ⟨rfl, rfl⟩ := hp9
  have hP : va_P D vwCl (wM cs am 1 bank rnds dn N n fc pu wh kn nm sk br ht sg) H := hP
  have hD : va_D _ (wM cs am 1 bank rnds dn N n fc pu wh kn nm sk br ht sg) := hD
  refine W.eq (g2 := F0 m 30 ls [.int 0]) rfl ?_
  exact wr_iret hQ hx hb hr hlocks hP hD hS (hpost) dX3_edgeTop_30
set_option maxHeartbeats 4000000 in
set_option maxRecDepth 100000 in
theorem mp_edgeBottom (l : Launch) (D : va_G) (cs : Nat → ClassId) (H : Heap) {am : Nat → Nat} {th bank rnds : Int32} {dn N n : Nat} {fc pu wh kn nm sk br ht sg : Nat → Int32} {fn : Nat → Nat} (hF : FM fn dn N n fc) {kd : Nat → Nat} (hkd : ∀ i, i < n → kn i = nI (kd i) ∧ kd i < 10) (i : Nat) (hlt : i < n) (hv : inM (nI i) 0 (nI n - 1) = true) (u : Nat) (hu1 : absI (edM fn dn N kd nm sk br i) = nI u) (hu2 : u < 2 ^ 31) (post : Option Value → va_W → Prop) (hpost : ∀ sg9 : Nat → Int32, post (some (.int (nI N / nI (Nat.gcd u N)))) (wM cs am 0 bank rnds dn N n fc pu wh kn nm sk br ht sg9)) (hP : va_P D vwCl (wM cs am th bank rnds dn N n fc pu wh kn nm sk br ht sg) H) (hD : va_D (fun _ => True) (wM cs am th bank rnds dn N n fc pu wh kn nm sk br ht sg)) : Wr l D cs 6 0 0 yX3_edgeBottom cX3_edgeBottom 2 (some .int) (wM cs am th bank rnds dn N n fc pu wh kn nm sk br ht sg) H [.ref (am 0), .int (nI i)] post := by
  refine wr_ent (by decide) (Nat.le_of_ble_eq_true rfl) hP hD ?_
  clear hP hD H
  intro p e s m below meth c ls A Q H hx hb hr hml hown hts hlocks hin hl hK hQ hA hH hP hD hS
  clear hH
  have hl : lv_has ls 2 [(0, .ref (am 0)), (1, .int (nI i))] := hl
  have hF0 := hF
  obtain ⟨hF3, hd1, hd3, hNe, hN1, hN, hn⟩ := hF
  refine lv_aload_n hx hb dX3_edgeBottom_0 rfl (lv_at hl 0 rfl) ?_
  refine lv_iconst (v := 0) hx hb dX3_edgeBottom_1 (by first | decide | rfl) ?_
  refine va_put (D := D) (ci := 4) (v := .int 0) (ty := .int) (C := RX3) (T := TX3) (N := 15) hx hb hts inlX3 tyX3 tyX3_ok nmX3 hown hK hP hD hS 0 rfl rfl 0 (by decide) (hts (Cond.fieldLink RX3 48 "TavernDiceModel" "thrown" "I") mw_5_15) (fun _ h9 => h9) rfl (by decide +kernel) rfl rfl (Nat.le_of_ble_eq_true rfl) dX3_edgeBottom_2 (fun H locs hP hD hS => ?_)
  have hP : va_P D vwCl (wM cs am 0 bank rnds dn N n fc pu wh kn nm sk br ht sg) H := hP
  have hD : va_D _ (wM cs am 0 bank rnds dn N n fc pu wh kn nm sk br ht sg) := hD
  refine lv_aload_n hx hb dX3_edgeBottom_5 rfl (lv_at hl 0 rfl) ?_
  refine lv_iload_n hx hb dX3_edgeBottom_6 rfl (lv_at hl 1 rfl) ?_
  refine rdV (As := [.int (nI i)]) (rest := []) (b := am 0) ⟨hx, hb, hml, hown, hts⟩ hK 1 (m_isWager l D cs H hP hF0 (nI i)) (gin_v mw_16_12 mw_16_13 mw_16_14 mw_1_5 mw_16_15) (by decide +kernel) ⟨Nat.le_of_ble_eq_true rfl, Nat.le_of_ble_eq_true rfl⟩ (va_recv hK hP (ci := 4) (q0 := 0) rfl rfl) rfl hl.1 rfl (Nat.le_of_ble_eq_true rfl) dX3_edgeBottom_7 ⟨(Nat.le_of_ble_eq_true rfl), (Nat.le_of_ble_eq_true rfl)⟩ ?_
  refine W.eq (g2 := F0 m 10 ls [.int (b2i (inM (nI i) 0 (nI n - 1)))]) rfl ?_
  refine lv_if_eq (tgt := 25) hx hb dX3_edgeBottom_10 (by decide) (fun c_1 => False.elim (absurd c_1 ((b2i_ne0 _).mpr hv))) (fun c_1 => ?_)
  refine lv_aload_n hx hb dX3_edgeBottom_13 rfl (lv_at hl 0 rfl) ?_
  refine lv_aload_n hx hb dX3_edgeBottom_14 rfl (lv_at hl 0 rfl) ?_
  refine lv_iload_n hx hb dX3_edgeBottom_15 rfl (lv_at hl 1 rfl) ?_
  refine wrV (As := [.int (nI i)]) (rest := [.ref (am 0)]) (b := am 0) ⟨hx, hb, hml, hown, hts⟩ hK 1 (m_edge l D cs H hF0 hkd i hlt (fun ov w1 => ov = some (.int (edM fn dn N kd nm sk br i)) ∧ ∃ (sg9 : Nat → Int32), w1 = wM cs am 0 bank rnds dn N n fc pu wh kn nm sk br ht sg9) (fun sg9 => ⟨rfl, sg9, rfl⟩) hP (hD.weaken (fun _ _ _ _ => trivial))) (gin_v mw_23_4 mw_23_5 mw_23_6 mw_1_5 mw_23_7) (by decide +kernel) ⟨Nat.le_of_ble_eq_true rfl, Nat.le_of_ble_eq_true rfl⟩ (va_recv hK hP (ci := 4) (q0 := 0) rfl rfl) rfl hl.1 rfl (Nat.le_of_ble_eq_true rfl) dX3_edgeBottom_16 ⟨(Nat.le_of_ble_eq_true rfl), (Nat.le_of_ble_eq_true rfl)⟩ hD hS hA (fun ov9 w9 H locs hp9 hP hD hS => ?_)
  obtain ⟨rfl, sgz1, rfl⟩ := hp9
  have hP : va_P D vwCl (wM cs am 0 bank rnds dn N n fc pu wh kn nm sk br ht sgz1) H := hP
  have hD : va_D _ (wM cs am 0 bank rnds dn N n fc pu wh kn nm sk br ht sgz1) := hD
  refine W.eq (g2 := F0 m 19 ls [.int (edM fn dn N kd nm sk br i), .ref (am 0)]) rfl ?_
  refine rdV (As := [.int (edM fn dn N kd nm sk br i)]) (rest := []) (b := am 0) ⟨hx, hb, hml, hown, hts⟩ hK 1 (m_bottom l D cs H hP hF0 (edM fn dn N kd nm sk br i) u hu1 hu2) (gin_v mw_24_7 mw_24_8 mw_24_9 mw_1_5 mw_24_10) (by decide +kernel) ⟨Nat.le_of_ble_eq_true rfl, Nat.le_of_ble_eq_true rfl⟩ (va_recv hK hP (ci := 4) (q0 := 0) rfl rfl) rfl hl.1 rfl (Nat.le_of_ble_eq_true rfl) dX3_edgeBottom_19 ⟨(Nat.le_of_ble_eq_true rfl), (Nat.le_of_ble_eq_true rfl)⟩ ?_
  refine W.eq (g2 := F0 m 22 ls [.int (nI N / nI (Nat.gcd u N))]) rfl ?_
  refine lv_goto (tgt := 30) hx hb dX3_edgeBottom_22 (by decide) ?_
  exact wr_iret hQ hx hb hr hlocks hP hD hS (hpost sgz1) dX3_edgeBottom_30
set_option maxHeartbeats 4000000 in
set_option maxRecDepth 100000 in
theorem mp_edgeBottom_no (l : Launch) (D : va_G) (cs : Nat → ClassId) (H : Heap) {am : Nat → Nat} {th bank rnds : Int32} {dn N n : Nat} {fc pu wh kn nm sk br ht sg : Nat → Int32} {fn : Nat → Nat} (hF : FM fn dn N n fc) (w : Int32) (hv : inM w 0 (nI n - 1) = false) (post : Option Value → va_W → Prop) (hpost : post (some (.int (0))) (wM cs am 1 bank rnds dn N n fc pu wh kn nm sk br ht sg)) (hP : va_P D vwCl (wM cs am th bank rnds dn N n fc pu wh kn nm sk br ht sg) H) (hD : va_D (fun _ => True) (wM cs am th bank rnds dn N n fc pu wh kn nm sk br ht sg)) : Wr l D cs 6 0 0 yX3_edgeBottom cX3_edgeBottom 2 (some .int) (wM cs am th bank rnds dn N n fc pu wh kn nm sk br ht sg) H [.ref (am 0), .int w] post := by
  refine wr_ent (by decide) (Nat.le_of_ble_eq_true rfl) hP hD ?_
  clear hP hD H
  intro p e s m below meth c ls A Q H hx hb hr hml hown hts hlocks hin hl hK hQ hA hH hP hD hS
  clear hH
  have hl : lv_has ls 2 [(0, .ref (am 0)), (1, .int w)] := hl
  have hF0 := hF
  obtain ⟨hF3, hd1, hd3, hNe, hN1, hN, hn⟩ := hF
  refine lv_aload_n hx hb dX3_edgeBottom_0 rfl (lv_at hl 0 rfl) ?_
  refine lv_iconst (v := 0) hx hb dX3_edgeBottom_1 (by first | decide | rfl) ?_
  refine va_put (D := D) (ci := 4) (v := .int 0) (ty := .int) (C := RX3) (T := TX3) (N := 15) hx hb hts inlX3 tyX3 tyX3_ok nmX3 hown hK hP hD hS 0 rfl rfl 0 (by decide) (hts (Cond.fieldLink RX3 48 "TavernDiceModel" "thrown" "I") mw_5_15) (fun _ h9 => h9) rfl (by decide +kernel) rfl rfl (Nat.le_of_ble_eq_true rfl) dX3_edgeBottom_2 (fun H locs hP hD hS => ?_)
  have hP : va_P D vwCl (wM cs am 0 bank rnds dn N n fc pu wh kn nm sk br ht sg) H := hP
  have hD : va_D _ (wM cs am 0 bank rnds dn N n fc pu wh kn nm sk br ht sg) := hD
  refine lv_aload_n hx hb dX3_edgeBottom_5 rfl (lv_at hl 0 rfl) ?_
  refine lv_iload_n hx hb dX3_edgeBottom_6 rfl (lv_at hl 1 rfl) ?_
  refine rdV (As := [.int w]) (rest := []) (b := am 0) ⟨hx, hb, hml, hown, hts⟩ hK 1 (m_isWager l D cs H hP hF0 w) (gin_v mw_16_12 mw_16_13 mw_16_14 mw_1_5 mw_16_15) (by decide +kernel) ⟨Nat.le_of_ble_eq_true rfl, Nat.le_of_ble_eq_true rfl⟩ (va_recv hK hP (ci := 4) (q0 := 0) rfl rfl) rfl hl.1 rfl (Nat.le_of_ble_eq_true rfl) dX3_edgeBottom_7 ⟨(Nat.le_of_ble_eq_true rfl), (Nat.le_of_ble_eq_true rfl)⟩ ?_
  refine W.eq (g2 := F0 m 10 ls [.int (b2i (inM w 0 (nI n - 1)))]) rfl ?_
  refine lv_if_eq (tgt := 25) hx hb dX3_edgeBottom_10 (by decide) (fun c_1 => ?_) (fun c_1 => False.elim (c_1 ((b2i_eq0 _).mpr hv)))
  refine lv_aload_n hx hb dX3_edgeBottom_25 rfl (lv_at hl 0 rfl) ?_
  refine lv_iconst (v := 1) hx hb dX3_edgeBottom_26 (by first | decide | rfl) ?_
  refine wrV (As := [.int 1]) (rest := []) (b := am 0) ⟨hx, hb, hml, hown, hts⟩ hK 1 (m_no l D cs H 1 (fun ov w1 => ov = some (.int 0) ∧ w1 = wM cs am 1 bank rnds dn N n fc pu wh kn nm sk br ht sg) ⟨rfl, rfl⟩ hP (hD.weaken (fun _ _ _ _ => trivial))) (gin_v mw_6_2 mw_6_3 mw_6_4 mw_1_5 mw_6_5) (by decide +kernel) ⟨Nat.le_of_ble_eq_true rfl, Nat.le_of_ble_eq_true rfl⟩ (va_recv hK hP (ci := 4) (q0 := 0) rfl rfl) rfl hl.1 rfl (Nat.le_of_ble_eq_true rfl) dX3_edgeBottom_27 ⟨(Nat.le_of_ble_eq_true rfl), (Nat.le_of_ble_eq_true rfl)⟩ hD hS hA (fun ov9 w9 H locs hp9 hP hD hS => ?_)
  obtain ⟨rfl, rfl⟩ := hp9
  have hP : va_P D vwCl (wM cs am 1 bank rnds dn N n fc pu wh kn nm sk br ht sg) H := hP
  have hD : va_D _ (wM cs am 1 bank rnds dn N n fc pu wh kn nm sk br ht sg) := hD
  refine W.eq (g2 := F0 m 30 ls [.int 0]) rfl ?_
  exact wr_iret hQ hx hb hr hlocks hP hD hS (hpost) dX3_edgeBottom_30
set_option maxHeartbeats 4000000 in
set_option maxRecDepth 100000 in
theorem mp_purseAt (l : Launch) (D : va_G) (cs : Nat → ClassId) (H : Heap) {am : Nat → Nat} {th bank rnds : Int32} {dn N n : Nat} {fc pu wh kn nm sk br ht sg : Nat → Int32} {fn : Nat → Nat} (hF : FM fn dn N n fc) (p9 : Nat) (hp9 : p9 < 6) (hv2 : inM (nI p9) 0 5 = true) (o : Nat) (ho : o < N) (hv : inM (nI o) 0 (nI N - 1) = true) (post : Option Value → va_W → Prop) (hpost : post (some (.int (behM pu wh sk br ht (nI p9) p9 o n))) (wM cs am 0 bank rnds dn N n fc pu wh kn nm sk br ht sg)) (hP : va_P D vwCl (wM cs am th bank rnds dn N n fc pu wh kn nm sk br ht sg) H) (hD : va_D (fun _ => True) (wM cs am th bank rnds dn N n fc pu wh kn nm sk br ht sg)) : Wr l D cs 3 0 0 yX3_purseAt cX3_purseAt 3 (some .int) (wM cs am th bank rnds dn N n fc pu wh kn nm sk br ht sg) H [.ref (am 0), .int (nI p9), .int (nI o)] post := by
  refine wr_ent (by decide) (Nat.le_of_ble_eq_true rfl) hP hD ?_
  clear hP hD H
  intro p e s m below meth c ls A Q H hx hb hr hml hown hts hlocks hin hl hK hQ hA hH hP hD hS
  clear hH
  have hl : lv_has ls 3 [(0, .ref (am 0)), (1, .int (nI p9)), (2, .int (nI o))] := hl
  have hF0 := hF
  obtain ⟨hF3, hd1, hd3, hNe, hN1, hN, hn⟩ := hF
  refine lv_aload_n hx hb dX3_purseAt_0 rfl (lv_at hl 0 rfl) ?_
  refine lv_iconst (v := 0) hx hb dX3_purseAt_1 (by first | decide | rfl) ?_
  refine va_put (D := D) (ci := 4) (v := .int 0) (ty := .int) (C := RX3) (T := TX3) (N := 15) hx hb hts inlX3 tyX3 tyX3_ok nmX3 hown hK hP hD hS 0 rfl rfl 0 (by decide) (hts (Cond.fieldLink RX3 48 "TavernDiceModel" "thrown" "I") mw_5_15) (fun _ h9 => h9) rfl (by decide +kernel) rfl rfl (Nat.le_of_ble_eq_true rfl) dX3_purseAt_2 (fun H locs hP hD hS => ?_)
  have hP : va_P D vwCl (wM cs am 0 bank rnds dn N n fc pu wh kn nm sk br ht sg) H := hP
  have hD : va_D _ (wM cs am 0 bank rnds dn N n fc pu wh kn nm sk br ht sg) := hD
  refine lv_iload_n hx hb dX3_purseAt_5 rfl (lv_at hl 1 rfl) ?_
  refine rdS (As := [.int (nI p9)]) (rest := []) ⟨hx, hb, hml, hown, hts⟩ hK 1 (m_isPatron l D cs H (nI p9)) (gin_s mw_14_17 mw_14_18 mw_1_5 mw_14_19) (by decide +kernel) ⟨Nat.le_of_ble_eq_true rfl, Nat.le_of_ble_eq_true rfl⟩ rfl hl.1 rfl (Nat.le_of_ble_eq_true rfl) dX3_purseAt_6 ⟨(Nat.le_of_ble_eq_true rfl), (Nat.le_of_ble_eq_true rfl)⟩ ?_
  refine W.eq (g2 := F0 m 9 ls [.int (b2i (inM (nI p9) 0 5))]) rfl ?_
  refine lv_if_eq (tgt := 29) hx hb dX3_purseAt_9 (by decide) (fun c_1 => False.elim (absurd c_1 ((b2i_ne0 _).mpr hv2))) (fun c_1 => ?_)
  refine lv_aload_n hx hb dX3_purseAt_12 rfl (lv_at hl 0 rfl) ?_
  refine lv_iload_n hx hb dX3_purseAt_13 rfl (lv_at hl 2 rfl) ?_
  refine rdV (As := [.int (nI o)]) (rest := []) (b := am 0) ⟨hx, hb, hml, hown, hts⟩ hK 1 (m_isOutcome l D cs H hP hF0 (nI o)) (gin_v mw_8_2 mw_8_3 mw_8_4 mw_1_5 mw_8_5) (by decide +kernel) ⟨Nat.le_of_ble_eq_true rfl, Nat.le_of_ble_eq_true rfl⟩ (va_recv hK hP (ci := 4) (q0 := 0) rfl rfl) rfl hl.1 rfl (Nat.le_of_ble_eq_true rfl) dX3_purseAt_14 ⟨(Nat.le_of_ble_eq_true rfl), (Nat.le_of_ble_eq_true rfl)⟩ ?_
  refine W.eq (g2 := F0 m 17 ls [.int (b2i (inM (nI o) 0 (nI N - 1)))]) rfl ?_
  refine lv_if_eq (tgt := 29) hx hb dX3_purseAt_17 (by decide) (fun c_2 => False.elim (absurd c_2 ((b2i_ne0 _).mpr hv))) (fun c_2 => ?_)
  refine lv_aload_n hx hb dX3_purseAt_20 rfl (lv_at hl 0 rfl) ?_
  refine lv_iload_n hx hb dX3_purseAt_21 rfl (lv_at hl 1 rfl) ?_
  refine lv_iload_n hx hb dX3_purseAt_22 rfl (lv_at hl 2 rfl) ?_
  refine rdV (As := [.int (nI p9), .int (nI o)]) (rest := []) (b := am 0) ⟨hx, hb, hml, hown, hts⟩ hK 2 (m_behind l D cs H hP hF0 p9 (by omega) o (by omega)) (gin_v mw_27_18 mw_27_19 mw_27_20 mw_1_5 mw_27_21) (by decide +kernel) ⟨Nat.le_of_ble_eq_true rfl, Nat.le_of_ble_eq_true rfl⟩ (va_recv hK hP (ci := 4) (q0 := 0) rfl rfl) rfl hl.1 rfl (Nat.le_of_ble_eq_true rfl) dX3_purseAt_23 ⟨(Nat.le_of_ble_eq_true rfl), (Nat.le_of_ble_eq_true rfl)⟩ ?_
  refine W.eq (g2 := F0 m 26 ls [.int (behM pu wh sk br ht (nI p9) p9 o n)]) rfl ?_
  refine lv_goto (tgt := 34) hx hb dX3_purseAt_26 (by decide) ?_
  exact wr_iret hQ hx hb hr hlocks hP hD hS (hpost) dX3_purseAt_34
set_option maxHeartbeats 4000000 in
set_option maxRecDepth 100000 in
theorem mp_purseAt_no1 (l : Launch) (D : va_G) (cs : Nat → ClassId) (H : Heap) {am : Nat → Nat} {th bank rnds : Int32} {dn N n : Nat} {fc pu wh kn nm sk br ht sg : Nat → Int32} {fn : Nat → Nat} (hF : FM fn dn N n fc) (w : Int32) (hv : inM w 0 5 = false) (o : Int32) (post : Option Value → va_W → Prop) (hpost : post (some (.int (0))) (wM cs am 1 bank rnds dn N n fc pu wh kn nm sk br ht sg)) (hP : va_P D vwCl (wM cs am th bank rnds dn N n fc pu wh kn nm sk br ht sg) H) (hD : va_D (fun _ => True) (wM cs am th bank rnds dn N n fc pu wh kn nm sk br ht sg)) : Wr l D cs 3 0 0 yX3_purseAt cX3_purseAt 3 (some .int) (wM cs am th bank rnds dn N n fc pu wh kn nm sk br ht sg) H [.ref (am 0), .int w, .int o] post := by
  refine wr_ent (by decide) (Nat.le_of_ble_eq_true rfl) hP hD ?_
  clear hP hD H
  intro p e s m below meth c ls A Q H hx hb hr hml hown hts hlocks hin hl hK hQ hA hH hP hD hS
  clear hH
  have hl : lv_has ls 3 [(0, .ref (am 0)), (1, .int w), (2, .int o)] := hl
  have hF0 := hF
  obtain ⟨hF3, hd1, hd3, hNe, hN1, hN, hn⟩ := hF
  refine lv_aload_n hx hb dX3_purseAt_0 rfl (lv_at hl 0 rfl) ?_
  refine lv_iconst (v := 0) hx hb dX3_purseAt_1 (by first | decide | rfl) ?_
  refine va_put (D := D) (ci := 4) (v := .int 0) (ty := .int) (C := RX3) (T := TX3) (N := 15) hx hb hts inlX3 tyX3 tyX3_ok nmX3 hown hK hP hD hS 0 rfl rfl 0 (by decide) (hts (Cond.fieldLink RX3 48 "TavernDiceModel" "thrown" "I") mw_5_15) (fun _ h9 => h9) rfl (by decide +kernel) rfl rfl (Nat.le_of_ble_eq_true rfl) dX3_purseAt_2 (fun H locs hP hD hS => ?_)
  have hP : va_P D vwCl (wM cs am 0 bank rnds dn N n fc pu wh kn nm sk br ht sg) H := hP
  have hD : va_D _ (wM cs am 0 bank rnds dn N n fc pu wh kn nm sk br ht sg) := hD
  refine lv_iload_n hx hb dX3_purseAt_5 rfl (lv_at hl 1 rfl) ?_
  refine rdS (As := [.int w]) (rest := []) ⟨hx, hb, hml, hown, hts⟩ hK 1 (m_isPatron l D cs H w) (gin_s mw_14_17 mw_14_18 mw_1_5 mw_14_19) (by decide +kernel) ⟨Nat.le_of_ble_eq_true rfl, Nat.le_of_ble_eq_true rfl⟩ rfl hl.1 rfl (Nat.le_of_ble_eq_true rfl) dX3_purseAt_6 ⟨(Nat.le_of_ble_eq_true rfl), (Nat.le_of_ble_eq_true rfl)⟩ ?_
  refine W.eq (g2 := F0 m 9 ls [.int (b2i (inM w 0 5))]) rfl ?_
  refine lv_if_eq (tgt := 29) hx hb dX3_purseAt_9 (by decide) (fun c_1 => ?_) (fun c_1 => False.elim (c_1 ((b2i_eq0 _).mpr hv)))
  refine lv_aload_n hx hb dX3_purseAt_29 rfl (lv_at hl 0 rfl) ?_
  refine lv_iconst (v := 1) hx hb dX3_purseAt_30 (by first | decide | rfl) ?_
  refine wrV (As := [.int 1]) (rest := []) (b := am 0) ⟨hx, hb, hml, hown, hts⟩ hK 1 (m_no l D cs H 1 (fun ov w1 => ov = some (.int 0) ∧ w1 = wM cs am 1 bank rnds dn N n fc pu wh kn nm sk br ht sg) ⟨rfl, rfl⟩ hP (hD.weaken (fun _ _ _ _ => trivial))) (gin_v mw_6_2 mw_6_3 mw_6_4 mw_1_5 mw_6_5) (by decide +kernel) ⟨Nat.le_of_ble_eq_true rfl, Nat.le_of_ble_eq_true rfl⟩ (va_recv hK hP (ci := 4) (q0 := 0) rfl rfl) rfl hl.1 rfl (Nat.le_of_ble_eq_true rfl) dX3_purseAt_31 ⟨(Nat.le_of_ble_eq_true rfl), (Nat.le_of_ble_eq_true rfl)⟩ hD hS hA (fun ov9 w9 H locs hp9 hP hD hS => ?_)
  obtain ⟨rfl, rfl⟩ := hp9
  have hP : va_P D vwCl (wM cs am 1 bank rnds dn N n fc pu wh kn nm sk br ht sg) H := hP
  have hD : va_D _ (wM cs am 1 bank rnds dn N n fc pu wh kn nm sk br ht sg) := hD
  refine W.eq (g2 := F0 m 34 ls [.int 0]) rfl ?_
  exact wr_iret hQ hx hb hr hlocks hP hD hS (hpost) dX3_purseAt_34
set_option maxHeartbeats 4000000 in
set_option maxRecDepth 100000 in
theorem mp_purseAt_no2 (l : Launch) (D : va_G) (cs : Nat → ClassId) (H : Heap) {am : Nat → Nat} {th bank rnds : Int32} {dn N n : Nat} {fc pu wh kn nm sk br ht sg : Nat → Int32} {fn : Nat → Nat} (hF : FM fn dn N n fc) (p9 : Nat) (hp9 : p9 < 6) (hv2 : inM (nI p9) 0 5 = true) (w : Int32) (hv : inM w 0 (nI N - 1) = false) (post : Option Value → va_W → Prop) (hpost : post (some (.int (0))) (wM cs am 1 bank rnds dn N n fc pu wh kn nm sk br ht sg)) (hP : va_P D vwCl (wM cs am th bank rnds dn N n fc pu wh kn nm sk br ht sg) H) (hD : va_D (fun _ => True) (wM cs am th bank rnds dn N n fc pu wh kn nm sk br ht sg)) : Wr l D cs 3 0 0 yX3_purseAt cX3_purseAt 3 (some .int) (wM cs am th bank rnds dn N n fc pu wh kn nm sk br ht sg) H [.ref (am 0), .int (nI p9), .int w] post := by
  refine wr_ent (by decide) (Nat.le_of_ble_eq_true rfl) hP hD ?_
  clear hP hD H
  intro p e s m below meth c ls A Q H hx hb hr hml hown hts hlocks hin hl hK hQ hA hH hP hD hS
  clear hH
  have hl : lv_has ls 3 [(0, .ref (am 0)), (1, .int (nI p9)), (2, .int w)] := hl
  have hF0 := hF
  obtain ⟨hF3, hd1, hd3, hNe, hN1, hN, hn⟩ := hF
  refine lv_aload_n hx hb dX3_purseAt_0 rfl (lv_at hl 0 rfl) ?_
  refine lv_iconst (v := 0) hx hb dX3_purseAt_1 (by first | decide | rfl) ?_
  refine va_put (D := D) (ci := 4) (v := .int 0) (ty := .int) (C := RX3) (T := TX3) (N := 15) hx hb hts inlX3 tyX3 tyX3_ok nmX3 hown hK hP hD hS 0 rfl rfl 0 (by decide) (hts (Cond.fieldLink RX3 48 "TavernDiceModel" "thrown" "I") mw_5_15) (fun _ h9 => h9) rfl (by decide +kernel) rfl rfl (Nat.le_of_ble_eq_true rfl) dX3_purseAt_2 (fun H locs hP hD hS => ?_)
  have hP : va_P D vwCl (wM cs am 0 bank rnds dn N n fc pu wh kn nm sk br ht sg) H := hP
  have hD : va_D _ (wM cs am 0 bank rnds dn N n fc pu wh kn nm sk br ht sg) := hD
  refine lv_iload_n hx hb dX3_purseAt_5 rfl (lv_at hl 1 rfl) ?_
  refine rdS (As := [.int (nI p9)]) (rest := []) ⟨hx, hb, hml, hown, hts⟩ hK 1 (m_isPatron l D cs H (nI p9)) (gin_s mw_14_17 mw_14_18 mw_1_5 mw_14_19) (by decide +kernel) ⟨Nat.le_of_ble_eq_true rfl, Nat.le_of_ble_eq_true rfl⟩ rfl hl.1 rfl (Nat.le_of_ble_eq_true rfl) dX3_purseAt_6 ⟨(Nat.le_of_ble_eq_true rfl), (Nat.le_of_ble_eq_true rfl)⟩ ?_
  refine W.eq (g2 := F0 m 9 ls [.int (b2i (inM (nI p9) 0 5))]) rfl ?_
  refine lv_if_eq (tgt := 29) hx hb dX3_purseAt_9 (by decide) (fun c_1 => False.elim (absurd c_1 ((b2i_ne0 _).mpr hv2))) (fun c_1 => ?_)
  refine lv_aload_n hx hb dX3_purseAt_12 rfl (lv_at hl 0 rfl) ?_
  refine lv_iload_n hx hb dX3_purseAt_13 rfl (lv_at hl 2 rfl) ?_
  refine rdV (As := [.int w]) (rest := []) (b := am 0) ⟨hx, hb, hml, hown, hts⟩ hK 1 (m_isOutcome l D cs H hP hF0 w) (gin_v mw_8_2 mw_8_3 mw_8_4 mw_1_5 mw_8_5) (by decide +kernel) ⟨Nat.le_of_ble_eq_true rfl, Nat.le_of_ble_eq_true rfl⟩ (va_recv hK hP (ci := 4) (q0 := 0) rfl rfl) rfl hl.1 rfl (Nat.le_of_ble_eq_true rfl) dX3_purseAt_14 ⟨(Nat.le_of_ble_eq_true rfl), (Nat.le_of_ble_eq_true rfl)⟩ ?_
  refine W.eq (g2 := F0 m 17 ls [.int (b2i (inM w 0 (nI N - 1)))]) rfl ?_
  refine lv_if_eq (tgt := 29) hx hb dX3_purseAt_17 (by decide) (fun c_2 => ?_) (fun c_2 => False.elim (c_2 ((b2i_eq0 _).mpr hv)))
  refine lv_aload_n hx hb dX3_purseAt_29 rfl (lv_at hl 0 rfl) ?_
  refine lv_iconst (v := 1) hx hb dX3_purseAt_30 (by first | decide | rfl) ?_
  refine wrV (As := [.int 1]) (rest := []) (b := am 0) ⟨hx, hb, hml, hown, hts⟩ hK 1 (m_no l D cs H 1 (fun ov w1 => ov = some (.int 0) ∧ w1 = wM cs am 1 bank rnds dn N n fc pu wh kn nm sk br ht sg) ⟨rfl, rfl⟩ hP (hD.weaken (fun _ _ _ _ => trivial))) (gin_v mw_6_2 mw_6_3 mw_6_4 mw_1_5 mw_6_5) (by decide +kernel) ⟨Nat.le_of_ble_eq_true rfl, Nat.le_of_ble_eq_true rfl⟩ (va_recv hK hP (ci := 4) (q0 := 0) rfl rfl) rfl hl.1 rfl (Nat.le_of_ble_eq_true rfl) dX3_purseAt_31 ⟨(Nat.le_of_ble_eq_true rfl), (Nat.le_of_ble_eq_true rfl)⟩ hD hS hA (fun ov9 w9 H locs hp9 hP hD hS => ?_)
  obtain ⟨rfl, rfl⟩ := hp9
  have hP : va_P D vwCl (wM cs am 1 bank rnds dn N n fc pu wh kn nm sk br ht sg) H := hP
  have hD : va_D _ (wM cs am 1 bank rnds dn N n fc pu wh kn nm sk br ht sg) := hD
  refine W.eq (g2 := F0 m 34 ls [.int 0]) rfl ?_
  exact wr_iret hQ hx hb hr hlocks hP hD hS (hpost) dX3_purseAt_34
set_option maxHeartbeats 4000000 in
set_option maxRecDepth 100000 in
theorem mp_isHedged (l : Launch) (D : va_G) (cs : Nat → ClassId) (H : Heap) {am : Nat → Nat} {th bank rnds : Int32} {dn N n : Nat} {fc pu wh kn nm sk br ht sg : Nat → Int32} {fn : Nat → Nat} (hF : FM fn dn N n fc) (p9 : Nat) (hp9 : p9 < 6) (hv : inM (nI p9) 0 5 = true) (post : Option Value → va_W → Prop) (hpost : post (some (.int (b2i (alleq (fun o => behM pu wh sk br ht (nI p9) p9 o n) N)))) (wM cs am 0 bank rnds dn N n fc pu wh kn nm sk br ht sg)) (hP : va_P D vwCl (wM cs am th bank rnds dn N n fc pu wh kn nm sk br ht sg) H) (hD : va_D (fun _ => True) (wM cs am th bank rnds dn N n fc pu wh kn nm sk br ht sg)) : Wr l D cs 3 0 0 yX3_isHedged cX3_isHedged 2 (some .boolean) (wM cs am th bank rnds dn N n fc pu wh kn nm sk br ht sg) H [.ref (am 0), .int (nI p9)] post := by
  refine wr_ent (by decide) (Nat.le_of_ble_eq_true rfl) hP hD ?_
  clear hP hD H
  intro p e s m below meth c ls A Q H hx hb hr hml hown hts hlocks hin hl hK hQ hA hH hP hD hS
  clear hH
  have hl : lv_has ls 2 [(0, .ref (am 0)), (1, .int (nI p9))] := hl
  have hF0 := hF
  obtain ⟨hF3, hd1, hd3, hNe, hN1, hN, hn⟩ := hF
  refine lv_aload_n hx hb dX3_isHedged_0 rfl (lv_at hl 0 rfl) ?_
  refine lv_iload_n hx hb dX3_isHedged_1 rfl (lv_at hl 1 rfl) ?_
  refine rdS (As := [.int (nI p9)]) (rest := [.ref (am 0)]) ⟨hx, hb, hml, hown, hts⟩ hK 1 (m_isPatron l D cs H (nI p9)) (gin_s mw_14_17 mw_14_18 mw_1_5 mw_14_19) (by decide +kernel) ⟨Nat.le_of_ble_eq_true rfl, Nat.le_of_ble_eq_true rfl⟩ rfl hl.1 rfl (Nat.le_of_ble_eq_true rfl) dX3_isHedged_2 ⟨(Nat.le_of_ble_eq_true rfl), (Nat.le_of_ble_eq_true rfl)⟩ ?_
  refine W.eq (g2 := F0 m 5 ls [.int (b2i (inM (nI p9) 0 5)), .ref (am 0)]) rfl ?_
  refine lv_if_eq (tgt := 12) hx hb dX3_isHedged_5 (by decide) (fun c_1 => False.elim (absurd c_1 ((b2i_ne0 _).mpr hv))) (fun c_1 => ?_)
  refine lv_iconst (v := 0) hx hb dX3_isHedged_8 (by first | decide | rfl) ?_
  refine lv_goto (tgt := 13) hx hb dX3_isHedged_9 (by decide) ?_
  refine va_put (D := D) (ci := 4) (v := .int 0) (ty := .int) (C := RX3) (T := TX3) (N := 15) hx hb hts inlX3 tyX3 tyX3_ok nmX3 hown hK hP hD hS 0 rfl rfl 0 (by decide) (hts (Cond.fieldLink RX3 48 "TavernDiceModel" "thrown" "I") mw_5_15) (fun _ h9 => h9) rfl (by decide +kernel) rfl rfl (Nat.le_of_ble_eq_true rfl) dX3_isHedged_13 (fun H locs hP hD hS => ?_)
  have hP : va_P D vwCl (wM cs am 0 bank rnds dn N n fc pu wh kn nm sk br ht sg) H := hP
  have hD : va_D _ (wM cs am 0 bank rnds dn N n fc pu wh kn nm sk br ht sg) := hD
  refine lv_aload_n hx hb dX3_isHedged_16 rfl (lv_at hl 0 rfl) ?_
  refine va_get (D := D) (ci := 4) (v := .int 0) (C := RX3) (T := TX3) (N := 15) hx hb hts inlX3 hown hK hP 0 rfl rfl 0 (by decide) (hts (Cond.fieldLink RX3 48 "TavernDiceModel" "thrown" "I") mw_5_15) (fun _ h9 => h9) rfl dX3_isHedged_17 ?_
  refine lv_if_ne (tgt := 35) hx hb dX3_isHedged_20 (by decide) (fun c_2 => False.elim (c_2 rfl)) (fun c_2 => ?_)
  refine lv_aload_n hx hb dX3_isHedged_23 rfl (lv_at hl 0 rfl) ?_
  refine lv_iload_n hx hb dX3_isHedged_24 rfl (lv_at hl 1 rfl) ?_
  refine rdV (As := [.int (nI p9)]) (rest := []) (b := am 0) ⟨hx, hb, hml, hown, hts⟩ hK 1 (m_hedged l D cs H hP hF0 p9 (by omega)) (gin_v mw_29_1 mw_29_2 mw_29_3 mw_1_5 mw_29_4) (by decide +kernel) ⟨Nat.le_of_ble_eq_true rfl, Nat.le_of_ble_eq_true rfl⟩ (va_recv hK hP (ci := 4) (q0 := 0) rfl rfl) rfl hl.1 rfl (Nat.le_of_ble_eq_true rfl) dX3_isHedged_25 ⟨(Nat.le_of_ble_eq_true rfl), (Nat.le_of_ble_eq_true rfl)⟩ ?_
  refine W.eq (g2 := F0 m 28 ls [.int (b2i (alleq (fun o => behM pu wh sk br ht (nI p9) p9 o n) N))]) rfl ?_
  refine lv_if_eq (tgt := 35) hx hb dX3_isHedged_28 (by decide) (fun c_3 => ?_) (fun c_3 => ?_)
  · refine lv_iconst (v := 0) hx hb dX3_isHedged_35 (by first | decide | rfl) ?_
    exact wr_zret hQ hx hb hr hlocks hP hD hS (by rw [(b2i_eq0 _).mp c_3] at hpost; exact hpost) (by decide) dX3_isHedged_36
  · refine lv_iconst (v := 1) hx hb dX3_isHedged_31 (by first | decide | rfl) ?_
    refine lv_goto (tgt := 36) hx hb dX3_isHedged_32 (by decide) ?_
    exact wr_zret hQ hx hb hr hlocks hP hD hS (by rw [(b2i_ne0 _).mp c_3] at hpost; exact hpost) (by decide) dX3_isHedged_36
set_option maxHeartbeats 4000000 in
set_option maxRecDepth 100000 in
theorem mp_isHedged_no (l : Launch) (D : va_G) (cs : Nat → ClassId) (H : Heap) {am : Nat → Nat} {th bank rnds : Int32} {dn N n : Nat} {fc pu wh kn nm sk br ht sg : Nat → Int32} {fn : Nat → Nat} (hF : FM fn dn N n fc) (w : Int32) (hv : inM w 0 5 = false) (post : Option Value → va_W → Prop) (hpost : post (some (.int (0))) (wM cs am 1 bank rnds dn N n fc pu wh kn nm sk br ht sg)) (hP : va_P D vwCl (wM cs am th bank rnds dn N n fc pu wh kn nm sk br ht sg) H) (hD : va_D (fun _ => True) (wM cs am th bank rnds dn N n fc pu wh kn nm sk br ht sg)) : Wr l D cs 3 0 0 yX3_isHedged cX3_isHedged 2 (some .boolean) (wM cs am th bank rnds dn N n fc pu wh kn nm sk br ht sg) H [.ref (am 0), .int w] post := by
  refine wr_ent (by decide) (Nat.le_of_ble_eq_true rfl) hP hD ?_
  clear hP hD H
  intro p e s m below meth c ls A Q H hx hb hr hml hown hts hlocks hin hl hK hQ hA hH hP hD hS
  clear hH
  have hl : lv_has ls 2 [(0, .ref (am 0)), (1, .int w)] := hl
  have hF0 := hF
  obtain ⟨hF3, hd1, hd3, hNe, hN1, hN, hn⟩ := hF
  refine lv_aload_n hx hb dX3_isHedged_0 rfl (lv_at hl 0 rfl) ?_
  refine lv_iload_n hx hb dX3_isHedged_1 rfl (lv_at hl 1 rfl) ?_
  refine rdS (As := [.int w]) (rest := [.ref (am 0)]) ⟨hx, hb, hml, hown, hts⟩ hK 1 (m_isPatron l D cs H w) (gin_s mw_14_17 mw_14_18 mw_1_5 mw_14_19) (by decide +kernel) ⟨Nat.le_of_ble_eq_true rfl, Nat.le_of_ble_eq_true rfl⟩ rfl hl.1 rfl (Nat.le_of_ble_eq_true rfl) dX3_isHedged_2 ⟨(Nat.le_of_ble_eq_true rfl), (Nat.le_of_ble_eq_true rfl)⟩ ?_
  refine W.eq (g2 := F0 m 5 ls [.int (b2i (inM w 0 5)), .ref (am 0)]) rfl ?_
  refine lv_if_eq (tgt := 12) hx hb dX3_isHedged_5 (by decide) (fun c_1 => ?_) (fun c_1 => False.elim (c_1 ((b2i_eq0 _).mpr hv)))
  refine lv_iconst (v := 1) hx hb dX3_isHedged_12 (by first | decide | rfl) ?_
  refine va_put (D := D) (ci := 4) (v := .int 1) (ty := .int) (C := RX3) (T := TX3) (N := 15) hx hb hts inlX3 tyX3 tyX3_ok nmX3 hown hK hP hD hS 0 rfl rfl 0 (by decide) (hts (Cond.fieldLink RX3 48 "TavernDiceModel" "thrown" "I") mw_5_15) (fun _ h9 => h9) rfl (by decide +kernel) rfl rfl (Nat.le_of_ble_eq_true rfl) dX3_isHedged_13 (fun H locs hP hD hS => ?_)
  have hP : va_P D vwCl (wM cs am 1 bank rnds dn N n fc pu wh kn nm sk br ht sg) H := hP
  have hD : va_D _ (wM cs am 1 bank rnds dn N n fc pu wh kn nm sk br ht sg) := hD
  refine lv_aload_n hx hb dX3_isHedged_16 rfl (lv_at hl 0 rfl) ?_
  refine va_get (D := D) (ci := 4) (v := .int 1) (C := RX3) (T := TX3) (N := 15) hx hb hts inlX3 hown hK hP 0 rfl rfl 0 (by decide) (hts (Cond.fieldLink RX3 48 "TavernDiceModel" "thrown" "I") mw_5_15) (fun _ h9 => h9) rfl dX3_isHedged_17 ?_
  refine lv_if_ne (tgt := 35) hx hb dX3_isHedged_20 (by decide) (fun c_2 => ?_) (fun c_2 => False.elim (absurd c_2 (by decide)))
  refine lv_iconst (v := 0) hx hb dX3_isHedged_35 (by first | decide | rfl) ?_
  exact wr_zret hQ hx hb hr hlocks hP hD hS (hpost) (by decide) dX3_isHedged_36
set_option maxHeartbeats 4000000 in
set_option maxRecDepth 100000 in
theorem mp_hedgeFor (l : Launch) (D : va_G) (cs : Nat → ClassId) (H : Heap) {am : Nat → Nat} {th bank rnds : Int32} {dn N n : Nat} {fc pu wh kn nm sk br ht sg : Nat → Int32} {fn : Nat → Nat} (hF : FM fn dn N n fc) (i : Nat) (hlt : i < n) (hv : inM (nI i) 0 (nI n - 1) = true) (wn bs : Int32) (hw1 : inM wn 1 20 = true) (hw2 : inM bs 1 10 = true) (hbs : ¬ bs = 0) (post : Option Value → va_W → Prop) (hpost : post (some (.int (fst9I (fst9 (hgM (sk i + br i) wn bs) 999 1)))) (wM cs am 0 bank rnds dn N n fc pu wh kn nm sk br ht sg)) (hP : va_P D vwCl (wM cs am th bank rnds dn N n fc pu wh kn nm sk br ht sg) H) (hD : va_D (fun _ => True) (wM cs am th bank rnds dn N n fc pu wh kn nm sk br ht sg)) : Wr l D cs 3 0 0 yX3_hedgeFor cX3_hedgeFor 4 (some .int) (wM cs am th bank rnds dn N n fc pu wh kn nm sk br ht sg) H [.ref (am 0), .int (nI i), .int wn, .int bs] post := by
  refine wr_ent (by decide) (Nat.le_of_ble_eq_true rfl) hP hD ?_
  clear hP hD H
  intro p e s m below meth c ls A Q H hx hb hr hml hown hts hlocks hin hl hK hQ hA hH hP hD hS
  clear hH
  have hl : lv_has ls 4 [(0, .ref (am 0)), (1, .int (nI i)), (2, .int wn), (3, .int bs)] := hl
  have hF0 := hF
  obtain ⟨hF3, hd1, hd3, hNe, hN1, hN, hn⟩ := hF
  refine lv_aload_n hx hb dX3_hedgeFor_0 rfl (lv_at hl 0 rfl) ?_
  refine lv_iconst (v := 0) hx hb dX3_hedgeFor_1 (by first | decide | rfl) ?_
  refine va_put (D := D) (ci := 4) (v := .int 0) (ty := .int) (C := RX3) (T := TX3) (N := 15) hx hb hts inlX3 tyX3 tyX3_ok nmX3 hown hK hP hD hS 0 rfl rfl 0 (by decide) (hts (Cond.fieldLink RX3 48 "TavernDiceModel" "thrown" "I") mw_5_15) (fun _ h9 => h9) rfl (by decide +kernel) rfl rfl (Nat.le_of_ble_eq_true rfl) dX3_hedgeFor_2 (fun H locs hP hD hS => ?_)
  have hP : va_P D vwCl (wM cs am 0 bank rnds dn N n fc pu wh kn nm sk br ht sg) H := hP
  have hD : va_D _ (wM cs am 0 bank rnds dn N n fc pu wh kn nm sk br ht sg) := hD
  refine lv_aload_n hx hb dX3_hedgeFor_5 rfl (lv_at hl 0 rfl) ?_
  refine lv_iload_n hx hb dX3_hedgeFor_6 rfl (lv_at hl 1 rfl) ?_
  refine rdV (As := [.int (nI i)]) (rest := []) (b := am 0) ⟨hx, hb, hml, hown, hts⟩ hK 1 (m_isWager l D cs H hP hF0 (nI i)) (gin_v mw_16_12 mw_16_13 mw_16_14 mw_1_5 mw_16_15) (by decide +kernel) ⟨Nat.le_of_ble_eq_true rfl, Nat.le_of_ble_eq_true rfl⟩ (va_recv hK hP (ci := 4) (q0 := 0) rfl rfl) rfl hl.1 rfl (Nat.le_of_ble_eq_true rfl) dX3_hedgeFor_7 ⟨(Nat.le_of_ble_eq_true rfl), (Nat.le_of_ble_eq_true rfl)⟩ ?_
  refine W.eq (g2 := F0 m 10 ls [.int (b2i (inM (nI i) 0 (nI n - 1)))]) rfl ?_
  refine lv_if_ne (tgt := 19) hx hb dX3_hedgeFor_10 (by decide) (fun c_1 => ?_) (fun c_1 => False.elim (absurd c_1 ((b2i_ne0 _).mpr hv)))
  refine lv_iload_n hx hb dX3_hedgeFor_19 rfl (lv_at hl 2 rfl) ?_
  refine lv_iconst (v := 1) hx hb dX3_hedgeFor_20 (by first | decide | rfl) ?_
  refine lv_bipush (v := 20) hx hb dX3_hedgeFor_21 (by first | decide | rfl) ?_
  refine rdS (As := [.int wn, .int 1, .int 20]) (rest := []) ⟨hx, hb, hml, hown, hts⟩ hK 3 (m_isIn l D cs H wn 1 20) (gin_s mw_5_23 mw_6_0 mw_1_5 mw_6_1) (by decide +kernel) ⟨Nat.le_of_ble_eq_true rfl, Nat.le_of_ble_eq_true rfl⟩ rfl hl.1 rfl (Nat.le_of_ble_eq_true rfl) dX3_hedgeFor_23 ⟨(Nat.le_of_ble_eq_true rfl), (Nat.le_of_ble_eq_true rfl)⟩ ?_
  refine W.eq (g2 := F0 m 26 ls [.int (b2i (inM wn 1 20))]) rfl ?_
  refine lv_if_eq (tgt := 61) hx hb dX3_hedgeFor_26 (by decide) (fun c_2 => False.elim (absurd c_2 ((b2i_ne0 _).mpr hw1))) (fun c_2 => ?_)
  refine lv_iload_n hx hb dX3_hedgeFor_29 rfl (lv_at hl 3 rfl) ?_
  refine lv_iconst (v := 1) hx hb dX3_hedgeFor_30 (by first | decide | rfl) ?_
  refine lv_bipush (v := 10) hx hb dX3_hedgeFor_31 (by first | decide | rfl) ?_
  refine rdS (As := [.int bs, .int 1, .int 10]) (rest := []) ⟨hx, hb, hml, hown, hts⟩ hK 3 (m_isIn l D cs H bs 1 10) (gin_s mw_5_23 mw_6_0 mw_1_5 mw_6_1) (by decide +kernel) ⟨Nat.le_of_ble_eq_true rfl, Nat.le_of_ble_eq_true rfl⟩ rfl hl.1 rfl (Nat.le_of_ble_eq_true rfl) dX3_hedgeFor_33 ⟨(Nat.le_of_ble_eq_true rfl), (Nat.le_of_ble_eq_true rfl)⟩ ?_
  refine W.eq (g2 := F0 m 36 ls [.int (b2i (inM bs 1 10))]) rfl ?_
  refine lv_if_eq (tgt := 61) hx hb dX3_hedgeFor_36 (by decide) (fun c_3 => False.elim (absurd c_3 ((b2i_ne0 _).mpr hw2))) (fun c_3 => ?_)
  refine lv_aload_n hx hb dX3_hedgeFor_39 rfl (lv_at hl 0 rfl) ?_
  refine lv_aload_n hx hb dX3_hedgeFor_40 rfl (lv_at hl 0 rfl) ?_
  refine va_get (D := D) (ci := 4) (v := .ref (am 6)) (C := RX3) (T := TX3) (N := 15) hx hb hts inlX3 hown hK hP 0 rfl rfl 11 (by decide) (hts (Cond.fieldLink RX3 35 "TavernDiceModel" "stake" "[I") mw_4_3) (fun _ h9 => h9) rfl dX3_hedgeFor_41 ?_
  refine lv_iload_n hx hb dX3_hedgeFor_44 rfl (lv_at hl 1 rfl) ?_
  refine va_iald hx hb hK hP 6 0 rfl rfl (vp_in_nI (by omega) (by omega)) dX3_hedgeFor_45 ?_
  refine lv_rwi (y := sk i) (congrArg sk (nI_clamp (by omega))) ?_
  refine lv_aload_n hx hb dX3_hedgeFor_46 rfl (lv_at hl 0 rfl) ?_
  refine va_get (D := D) (ci := 4) (v := .ref (am 7)) (C := RX3) (T := TX3) (N := 15) hx hb hts inlX3 hown hK hP 0 rfl rfl 12 (by decide) (hts (Cond.fieldLink RX3 38 "TavernDiceModel" "brings" "[I") mw_4_4) (fun _ h9 => h9) rfl dX3_hedgeFor_47 ?_
  refine lv_iload_n hx hb dX3_hedgeFor_50 rfl (lv_at hl 1 rfl) ?_
  refine va_iald hx hb hK hP 7 0 rfl rfl (vp_in_nI (by omega) (by omega)) dX3_hedgeFor_51 ?_
  refine lv_rwi (y := br i) (congrArg br (nI_clamp (by omega))) ?_
  refine lv_iadd hx hb dX3_hedgeFor_52 ?_
  refine lv_iload_n hx hb dX3_hedgeFor_53 rfl (lv_at hl 2 rfl) ?_
  refine lv_iload_n hx hb dX3_hedgeFor_54 rfl (lv_at hl 3 rfl) ?_
  refine rdV (As := [.int ((sk i) + (br i)), .int wn, .int bs]) (rest := []) (b := am 0) ⟨hx, hb, hml, hown, hts⟩ hK 3 (m_hedge l D cs H ((sk i) + (br i)) wn bs hbs) (gin_v mw_29_16 mw_29_17 mw_29_18 mw_1_5 mw_29_19) (by decide +kernel) ⟨Nat.le_of_ble_eq_true rfl, Nat.le_of_ble_eq_true rfl⟩ (va_recv hK hP (ci := 4) (q0 := 0) rfl rfl) rfl hl.1 rfl (Nat.le_of_ble_eq_true rfl) dX3_hedgeFor_55 ⟨(Nat.le_of_ble_eq_true rfl), (Nat.le_of_ble_eq_true rfl)⟩ ?_
  refine W.eq (g2 := F0 m 58 ls [.int (fst9I (fst9 (hgM ((sk i) + (br i)) wn bs) 999 1))]) rfl ?_
  refine lv_goto (tgt := 66) hx hb dX3_hedgeFor_58 (by decide) ?_
  exact wr_iret hQ hx hb hr hlocks hP hD hS (hpost) dX3_hedgeFor_66
set_option maxHeartbeats 4000000 in
set_option maxRecDepth 100000 in
theorem mp_hedgeFor_no1 (l : Launch) (D : va_G) (cs : Nat → ClassId) (H : Heap) {am : Nat → Nat} {th bank rnds : Int32} {dn N n : Nat} {fc pu wh kn nm sk br ht sg : Nat → Int32} {fn : Nat → Nat} (hF : FM fn dn N n fc) (w : Int32) (hv : inM w 0 (nI n - 1) = false) (wn bs : Int32) (post : Option Value → va_W → Prop) (hpost : post (some (.int (0))) (wM cs am 1 bank rnds dn N n fc pu wh kn nm sk br ht sg)) (hP : va_P D vwCl (wM cs am th bank rnds dn N n fc pu wh kn nm sk br ht sg) H) (hD : va_D (fun _ => True) (wM cs am th bank rnds dn N n fc pu wh kn nm sk br ht sg)) : Wr l D cs 3 0 0 yX3_hedgeFor cX3_hedgeFor 4 (some .int) (wM cs am th bank rnds dn N n fc pu wh kn nm sk br ht sg) H [.ref (am 0), .int w, .int wn, .int bs] post := by
  refine wr_ent (by decide) (Nat.le_of_ble_eq_true rfl) hP hD ?_
  clear hP hD H
  intro p e s m below meth c ls A Q H hx hb hr hml hown hts hlocks hin hl hK hQ hA hH hP hD hS
  clear hH
  have hl : lv_has ls 4 [(0, .ref (am 0)), (1, .int w), (2, .int wn), (3, .int bs)] := hl
  have hF0 := hF
  obtain ⟨hF3, hd1, hd3, hNe, hN1, hN, hn⟩ := hF
  refine lv_aload_n hx hb dX3_hedgeFor_0 rfl (lv_at hl 0 rfl) ?_
  refine lv_iconst (v := 0) hx hb dX3_hedgeFor_1 (by first | decide | rfl) ?_
  refine va_put (D := D) (ci := 4) (v := .int 0) (ty := .int) (C := RX3) (T := TX3) (N := 15) hx hb hts inlX3 tyX3 tyX3_ok nmX3 hown hK hP hD hS 0 rfl rfl 0 (by decide) (hts (Cond.fieldLink RX3 48 "TavernDiceModel" "thrown" "I") mw_5_15) (fun _ h9 => h9) rfl (by decide +kernel) rfl rfl (Nat.le_of_ble_eq_true rfl) dX3_hedgeFor_2 (fun H locs hP hD hS => ?_)
  have hP : va_P D vwCl (wM cs am 0 bank rnds dn N n fc pu wh kn nm sk br ht sg) H := hP
  have hD : va_D _ (wM cs am 0 bank rnds dn N n fc pu wh kn nm sk br ht sg) := hD
  refine lv_aload_n hx hb dX3_hedgeFor_5 rfl (lv_at hl 0 rfl) ?_
  refine lv_iload_n hx hb dX3_hedgeFor_6 rfl (lv_at hl 1 rfl) ?_
  refine rdV (As := [.int w]) (rest := []) (b := am 0) ⟨hx, hb, hml, hown, hts⟩ hK 1 (m_isWager l D cs H hP hF0 w) (gin_v mw_16_12 mw_16_13 mw_16_14 mw_1_5 mw_16_15) (by decide +kernel) ⟨Nat.le_of_ble_eq_true rfl, Nat.le_of_ble_eq_true rfl⟩ (va_recv hK hP (ci := 4) (q0 := 0) rfl rfl) rfl hl.1 rfl (Nat.le_of_ble_eq_true rfl) dX3_hedgeFor_7 ⟨(Nat.le_of_ble_eq_true rfl), (Nat.le_of_ble_eq_true rfl)⟩ ?_
  refine W.eq (g2 := F0 m 10 ls [.int (b2i (inM w 0 (nI n - 1)))]) rfl ?_
  refine lv_if_ne (tgt := 19) hx hb dX3_hedgeFor_10 (by decide) (fun c_1 => False.elim (c_1 ((b2i_eq0 _).mpr hv))) (fun c_1 => ?_)
  refine lv_aload_n hx hb dX3_hedgeFor_13 rfl (lv_at hl 0 rfl) ?_
  refine lv_iconst (v := 1) hx hb dX3_hedgeFor_14 (by first | decide | rfl) ?_
  refine wrV (As := [.int 1]) (rest := []) (b := am 0) ⟨hx, hb, hml, hown, hts⟩ hK 1 (m_no l D cs H 1 (fun ov w1 => ov = some (.int 0) ∧ w1 = wM cs am 1 bank rnds dn N n fc pu wh kn nm sk br ht sg) ⟨rfl, rfl⟩ hP (hD.weaken (fun _ _ _ _ => trivial))) (gin_v mw_6_2 mw_6_3 mw_6_4 mw_1_5 mw_6_5) (by decide +kernel) ⟨Nat.le_of_ble_eq_true rfl, Nat.le_of_ble_eq_true rfl⟩ (va_recv hK hP (ci := 4) (q0 := 0) rfl rfl) rfl hl.1 rfl (Nat.le_of_ble_eq_true rfl) dX3_hedgeFor_15 ⟨(Nat.le_of_ble_eq_true rfl), (Nat.le_of_ble_eq_true rfl)⟩ hD hS hA (fun ov9 w9 H locs hp9 hP hD hS => ?_)
  obtain ⟨rfl, rfl⟩ := hp9
  have hP : va_P D vwCl (wM cs am 1 bank rnds dn N n fc pu wh kn nm sk br ht sg) H := hP
  have hD : va_D _ (wM cs am 1 bank rnds dn N n fc pu wh kn nm sk br ht sg) := hD
  refine W.eq (g2 := F0 m 18 ls [.int 0]) rfl ?_
  exact wr_iret hQ hx hb hr hlocks hP hD hS (hpost) dX3_hedgeFor_18
set_option maxHeartbeats 4000000 in
set_option maxRecDepth 100000 in
theorem mp_hedgeFor_no2 (l : Launch) (D : va_G) (cs : Nat → ClassId) (H : Heap) {am : Nat → Nat} {th bank rnds : Int32} {dn N n : Nat} {fc pu wh kn nm sk br ht sg : Nat → Int32} {fn : Nat → Nat} (hF : FM fn dn N n fc) (i : Nat) (hlt : i < n) (hv : inM (nI i) 0 (nI n - 1) = true) (wn bs : Int32) (hw : (inM wn 1 20 && inM bs 1 10) = false) (post : Option Value → va_W → Prop) (hpost : post (some (.int (0))) (wM cs am 2 bank rnds dn N n fc pu wh kn nm sk br ht sg)) (hP : va_P D vwCl (wM cs am th bank rnds dn N n fc pu wh kn nm sk br ht sg) H) (hD : va_D (fun _ => True) (wM cs am th bank rnds dn N n fc pu wh kn nm sk br ht sg)) : Wr l D cs 3 0 0 yX3_hedgeFor cX3_hedgeFor 4 (some .int) (wM cs am th bank rnds dn N n fc pu wh kn nm sk br ht sg) H [.ref (am 0), .int (nI i), .int wn, .int bs] post := by
  refine wr_ent (by decide) (Nat.le_of_ble_eq_true rfl) hP hD ?_
  clear hP hD H
  intro p e s m below meth c ls A Q H hx hb hr hml hown hts hlocks hin hl hK hQ hA hH hP hD hS
  clear hH
  have hl : lv_has ls 4 [(0, .ref (am 0)), (1, .int (nI i)), (2, .int wn), (3, .int bs)] := hl
  have hF0 := hF
  obtain ⟨hF3, hd1, hd3, hNe, hN1, hN, hn⟩ := hF
  refine lv_aload_n hx hb dX3_hedgeFor_0 rfl (lv_at hl 0 rfl) ?_
  refine lv_iconst (v := 0) hx hb dX3_hedgeFor_1 (by first | decide | rfl) ?_
  refine va_put (D := D) (ci := 4) (v := .int 0) (ty := .int) (C := RX3) (T := TX3) (N := 15) hx hb hts inlX3 tyX3 tyX3_ok nmX3 hown hK hP hD hS 0 rfl rfl 0 (by decide) (hts (Cond.fieldLink RX3 48 "TavernDiceModel" "thrown" "I") mw_5_15) (fun _ h9 => h9) rfl (by decide +kernel) rfl rfl (Nat.le_of_ble_eq_true rfl) dX3_hedgeFor_2 (fun H locs hP hD hS => ?_)
  have hP : va_P D vwCl (wM cs am 0 bank rnds dn N n fc pu wh kn nm sk br ht sg) H := hP
  have hD : va_D _ (wM cs am 0 bank rnds dn N n fc pu wh kn nm sk br ht sg) := hD
  refine lv_aload_n hx hb dX3_hedgeFor_5 rfl (lv_at hl 0 rfl) ?_
  refine lv_iload_n hx hb dX3_hedgeFor_6 rfl (lv_at hl 1 rfl) ?_
  refine rdV (As := [.int (nI i)]) (rest := []) (b := am 0) ⟨hx, hb, hml, hown, hts⟩ hK 1 (m_isWager l D cs H hP hF0 (nI i)) (gin_v mw_16_12 mw_16_13 mw_16_14 mw_1_5 mw_16_15) (by decide +kernel) ⟨Nat.le_of_ble_eq_true rfl, Nat.le_of_ble_eq_true rfl⟩ (va_recv hK hP (ci := 4) (q0 := 0) rfl rfl) rfl hl.1 rfl (Nat.le_of_ble_eq_true rfl) dX3_hedgeFor_7 ⟨(Nat.le_of_ble_eq_true rfl), (Nat.le_of_ble_eq_true rfl)⟩ ?_
  refine W.eq (g2 := F0 m 10 ls [.int (b2i (inM (nI i) 0 (nI n - 1)))]) rfl ?_
  refine lv_if_ne (tgt := 19) hx hb dX3_hedgeFor_10 (by decide) (fun c_1 => ?_) (fun c_1 => False.elim (absurd c_1 ((b2i_ne0 _).mpr hv)))
  refine lv_iload_n hx hb dX3_hedgeFor_19 rfl (lv_at hl 2 rfl) ?_
  refine lv_iconst (v := 1) hx hb dX3_hedgeFor_20 (by first | decide | rfl) ?_
  refine lv_bipush (v := 20) hx hb dX3_hedgeFor_21 (by first | decide | rfl) ?_
  refine rdS (As := [.int wn, .int 1, .int 20]) (rest := []) ⟨hx, hb, hml, hown, hts⟩ hK 3 (m_isIn l D cs H wn 1 20) (gin_s mw_5_23 mw_6_0 mw_1_5 mw_6_1) (by decide +kernel) ⟨Nat.le_of_ble_eq_true rfl, Nat.le_of_ble_eq_true rfl⟩ rfl hl.1 rfl (Nat.le_of_ble_eq_true rfl) dX3_hedgeFor_23 ⟨(Nat.le_of_ble_eq_true rfl), (Nat.le_of_ble_eq_true rfl)⟩ ?_
  refine W.eq (g2 := F0 m 26 ls [.int (b2i (inM wn 1 20))]) rfl ?_
  refine lv_if_eq (tgt := 61) hx hb dX3_hedgeFor_26 (by decide) (fun c_2 => ?_) (fun c_2 => ?_)
  · refine lv_aload_n hx hb dX3_hedgeFor_61 rfl (lv_at hl 0 rfl) ?_
    refine lv_iconst (v := 2) hx hb dX3_hedgeFor_62 (by first | decide | rfl) ?_
    refine wrV (As := [.int 2]) (rest := []) (b := am 0) ⟨hx, hb, hml, hown, hts⟩ hK 1 (m_no l D cs H 2 (fun ov w1 => ov = some (.int 0) ∧ w1 = wM cs am 2 bank rnds dn N n fc pu wh kn nm sk br ht sg) ⟨rfl, rfl⟩ hP (hD.weaken (fun _ _ _ _ => trivial))) (gin_v mw_6_2 mw_6_3 mw_6_4 mw_1_5 mw_6_5) (by decide +kernel) ⟨Nat.le_of_ble_eq_true rfl, Nat.le_of_ble_eq_true rfl⟩ (va_recv hK hP (ci := 4) (q0 := 0) rfl rfl) rfl hl.1 rfl (Nat.le_of_ble_eq_true rfl) dX3_hedgeFor_63 ⟨(Nat.le_of_ble_eq_true rfl), (Nat.le_of_ble_eq_true rfl)⟩ hD hS hA (fun ov9 w9 H locs hp9 hP hD hS => ?_)
    obtain ⟨rfl, rfl⟩ := hp9
    have hP : va_P D vwCl (wM cs am 2 bank rnds dn N n fc pu wh kn nm sk br ht sg) H := hP
    have hD : va_D _ (wM cs am 2 bank rnds dn N n fc pu wh kn nm sk br ht sg) := hD
    refine W.eq (g2 := F0 m 66 ls [.int 0]) rfl ?_
    exact wr_iret hQ hx hb hr hlocks hP hD hS (hpost) dX3_hedgeFor_66
  · refine lv_iload_n hx hb dX3_hedgeFor_29 rfl (lv_at hl 3 rfl) ?_
    refine lv_iconst (v := 1) hx hb dX3_hedgeFor_30 (by first | decide | rfl) ?_
    refine lv_bipush (v := 10) hx hb dX3_hedgeFor_31 (by first | decide | rfl) ?_
    refine rdS (As := [.int bs, .int 1, .int 10]) (rest := []) ⟨hx, hb, hml, hown, hts⟩ hK 3 (m_isIn l D cs H bs 1 10) (gin_s mw_5_23 mw_6_0 mw_1_5 mw_6_1) (by decide +kernel) ⟨Nat.le_of_ble_eq_true rfl, Nat.le_of_ble_eq_true rfl⟩ rfl hl.1 rfl (Nat.le_of_ble_eq_true rfl) dX3_hedgeFor_33 ⟨(Nat.le_of_ble_eq_true rfl), (Nat.le_of_ble_eq_true rfl)⟩ ?_
    refine W.eq (g2 := F0 m 36 ls [.int (b2i (inM bs 1 10))]) rfl ?_
    refine lv_if_eq (tgt := 61) hx hb dX3_hedgeFor_36 (by decide) (fun c_3 => ?_) (fun c_3 => False.elim (absurd hw (by rw [(b2i_ne0 _).mp c_2, (b2i_ne0 _).mp c_3]; decide)))
    refine lv_aload_n hx hb dX3_hedgeFor_61 rfl (lv_at hl 0 rfl) ?_
    refine lv_iconst (v := 2) hx hb dX3_hedgeFor_62 (by first | decide | rfl) ?_
    refine wrV (As := [.int 2]) (rest := []) (b := am 0) ⟨hx, hb, hml, hown, hts⟩ hK 1 (m_no l D cs H 2 (fun ov w1 => ov = some (.int 0) ∧ w1 = wM cs am 2 bank rnds dn N n fc pu wh kn nm sk br ht sg) ⟨rfl, rfl⟩ hP (hD.weaken (fun _ _ _ _ => trivial))) (gin_v mw_6_2 mw_6_3 mw_6_4 mw_1_5 mw_6_5) (by decide +kernel) ⟨Nat.le_of_ble_eq_true rfl, Nat.le_of_ble_eq_true rfl⟩ (va_recv hK hP (ci := 4) (q0 := 0) rfl rfl) rfl hl.1 rfl (Nat.le_of_ble_eq_true rfl) dX3_hedgeFor_63 ⟨(Nat.le_of_ble_eq_true rfl), (Nat.le_of_ble_eq_true rfl)⟩ hD hS hA (fun ov9 w9 H locs hp9 hP hD hS => ?_)
    obtain ⟨rfl, rfl⟩ := hp9
    have hP : va_P D vwCl (wM cs am 2 bank rnds dn N n fc pu wh kn nm sk br ht sg) H := hP
    have hD : va_D _ (wM cs am 2 bank rnds dn N n fc pu wh kn nm sk br ht sg) := hD
    refine W.eq (g2 := F0 m 66 ls [.int 0]) rfl ?_
    exact wr_iret hQ hx hb hr hlocks hP hD hS (hpost) dX3_hedgeFor_66
