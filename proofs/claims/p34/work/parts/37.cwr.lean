/-! the class: methods that write, second part; rows by program -/
set_option maxHeartbeats 4000000 in
set_option maxRecDepth 100000 in
theorem k_dice (l : Launch) (D : va_G) (cs : Nat → ClassId) (z mi : Nat) (H : Heap)  (b : Nat) {tl : va_W} (post : Option Value → va_W → Prop) (hpost : ∀ (q8 q17 : Nat) (su9 fa9 : Nat → Int32), laid 6 0 su9 fa9 (6 * exN 6 * exN 0) → post none ([(b, .inr (1, [.ref q8, .ref q17, .int (nI (1 + 1 + 0)), .int (nI ((6 * exN 6 * exN 0)))])), (q8, .inl (cs 0, 1728, .inl (su9))), (q17, .inl (cs 0, 1728, .inl (fa9)))] ++ tl)) (hP : va_P D vwCl ([(b, .inr (1, [.null, .null, .int 0, .int 0]))] ++ tl) H) (hD : va_D (fun _ => True) ([(b, .inr (1, [.null, .null, .int 0, .int 0]))] ++ tl)) : Ws z mi l D cs 5 2 3456 yX0_init cX0_init 1 none ([(b, .inr (1, [.null, .null, .int 0, .int 0]))] ++ tl) H [.ref b] post := by
  refine ws_ent (by decide) (Nat.le_of_ble_eq_true rfl) hP hD ?_
  clear hP hD H
  intro p e s m below meth c ls A Q H hx hb hr hml hown hts hlocks hin hl hK hQ hA hH hT hP hD hS
  clear hH
  have hl : lv_has ls 1 [(0, .ref b)] := hl
  refine lv_aload_n hx hb dX0_init_0 rfl (lv_at hl 0 rfl) ?_
  refine W.objInit hx hb hown (hts (Cond.methodLink RX0 3 objectInit) mw_2_0) (hts (Cond.instanceMethod objectInit) mw_1_9) (hts (Cond.code objectInit ⟨#[0xb1]⟩ 1 none) mw_1_10) rfl (by rw [hml]; exact hl.1) rfl dX0_init_1 (Nat.le_of_ble_eq_true rfl) (Nat.le_of_ble_eq_true rfl) ?_
  refine W.eq (g2 := F0 m 4 ls []) rfl ?_
  refine lv_aload_n hx hb dX0_init_4 rfl (lv_at hl 0 rfl) ?_
  refine lv_sipush (v := 1728) hx hb dX0_init_5 (by first | decide | rfl) ?_
  refine nwI (N' := 1728) hx hb (hts (Cond.arrayClass .int) mw_1_4) hK hP hD hS hA (by decide) (by decide) (by decide) (Nat.le_of_ble_eq_true rfl) (Nat.le_of_ble_eq_true rfl) dX0_init_8 (fun q8 H hP hD hS => ?_)
  have hP : va_P D vwCl ([(b, .inr (1, [.null, .null, .int 0, .int 0])), (q8, .inl (cs 0, 1728, .inl (fun _ => 0)))] ++ tl) H := va_P.swap hP
  have hD : va_D _ ([(b, .inr (1, [.null, .null, .int 0, .int 0])), (q8, .inl (cs 0, 1728, .inl (fun _ => 0)))] ++ tl) := va_D.swap hD
  refine va_putF (D := D) (ci := 1) (v := .ref q8) (ty := (.array .int)) (C := RX0) (T := TX0) (N := 4) hx hb hts inlX0 tyX0 tyX0_ok nmX0 hown hK hP hD hS 0 rfl rfl 0 (by decide) (hts (Cond.fieldLink RX0 9 "TavernDice$Dice" "sums" "[I") mw_2_1) (fun _ h9 => h9) rfl hin rfl (by decide +kernel) rfl rfl (Nat.le_of_ble_eq_true rfl) dX0_init_10 (fun H locs hP hD hS => ?_)
  have hP : va_P D vwCl ([(b, .inr (1, [.ref q8, .null, .int 0, .int 0])), (q8, .inl (cs 0, 1728, .inl (fun _ => 0)))] ++ tl) H := hP
  have hD : va_D _ ([(b, .inr (1, [.ref q8, .null, .int 0, .int 0])), (q8, .inl (cs 0, 1728, .inl (fun _ => 0)))] ++ tl) := hD
  refine lv_aload_n hx hb dX0_init_13 rfl (lv_at hl 0 rfl) ?_
  refine lv_sipush (v := 1728) hx hb dX0_init_14 (by first | decide | rfl) ?_
  refine nwI (N' := 1728) hx hb (hts (Cond.arrayClass .int) mw_1_4) hK hP hD hS hA (by decide) (by decide) (by decide) (Nat.le_of_ble_eq_true rfl) (Nat.le_of_ble_eq_true rfl) dX0_init_17 (fun q17 H hP hD hS => ?_)
  have hP : va_P D vwCl ([(b, .inr (1, [.ref q8, .null, .int 0, .int 0])), (q8, .inl (cs 0, 1728, .inl (fun _ => 0))), (q17, .inl (cs 0, 1728, .inl (fun _ => 0)))] ++ tl) H := va_P.swap hP
  have hD : va_D _ ([(b, .inr (1, [.ref q8, .null, .int 0, .int 0])), (q8, .inl (cs 0, 1728, .inl (fun _ => 0))), (q17, .inl (cs 0, 1728, .inl (fun _ => 0)))] ++ tl) := va_D.swap hD
  refine va_putF (D := D) (ci := 1) (v := .ref q17) (ty := (.array .int)) (C := RX0) (T := TX0) (N := 4) hx hb hts inlX0 tyX0 tyX0_ok nmX0 hown hK hP hD hS 0 rfl rfl 1 (by decide) (hts (Cond.fieldLink RX0 15 "TavernDice$Dice" "faces" "[I") mw_2_2) (fun _ h9 => h9) rfl hin rfl (by decide +kernel) rfl rfl (Nat.le_of_ble_eq_true rfl) dX0_init_19 (fun H locs hP hD hS => ?_)
  have hP : va_P D vwCl ([(b, .inr (1, [.ref q8, .ref q17, .int 0, .int 0])), (q8, .inl (cs 0, 1728, .inl (fun _ => 0))), (q17, .inl (cs 0, 1728, .inl (fun _ => 0)))] ++ tl) H := hP
  have hD : va_D _ ([(b, .inr (1, [.ref q8, .ref q17, .int 0, .int 0])), (q8, .inl (cs 0, 1728, .inl (fun _ => 0))), (q17, .inl (cs 0, 1728, .inl (fun _ => 0)))] ++ tl) := hD
  refine lv_aload_n hx hb dX0_init_22 rfl (lv_at hl 0 rfl) ?_
  refine lv_bipush (v := nI 6) hx hb dX0_init_23 (by first | decide | rfl) ?_
  refine lv_bipush (v := nI 6) hx hb dX0_init_25 (by first | decide | rfl) ?_
  refine lv_iconst (v := nI 0) hx hb dX0_init_27 (by first | decide | rfl) ?_
  have hP : va_P D vwCl ([(b, .inr (1, [.ref q8, .ref q17, .int 0, .int 0])), (q8, .inl (cs 0, 1728, .inl (fun _ => 0))), (q17, .inl (cs 0, 1728, .inl (fun _ => 0)))] ++ tl) H := hP
  have hD : va_D _ ([(b, .inr (1, [.ref q8, .ref q17, .int 0, .int 0])), (q8, .inl (cs 0, 1728, .inl (fun _ => 0))), (q17, .inl (cs 0, 1728, .inl (fun _ => 0)))] ++ tl) := hD
  refine wtV (As := [.int (nI 6), .int (nI 6), .int (nI 0)]) (rest := []) (b := b) ⟨hx, hb, hml, hown, hts⟩ hT hK 3 (k_layOut2 l D cs z mi H 6 6 0 (by decide) (by decide) (by decide) (by decide) rfl (by decide) (fun ov w1 => ∃ (sl1 fl1 : Nat → Int32), (laid 6 0 sl1 fl1 (6 * exN 6 * exN 0)) ∧ ov = none ∧ w1 = [(b, .inr (1, [.ref q8, .ref q17, .int (nI (1 + 1 + 0)), .int (nI ((6 * exN 6 * exN 0)))])), (q8, .inl (cs 0, 1728, .inl (sl1))), (q17, .inl (cs 0, 1728, .inl (fl1)))] ++ tl) (fun sl1 fl1 h9 => ⟨sl1, fl1, h9, rfl, rfl⟩) hP (hD.weaken (fun _ _ _ _ => trivial))) (gin_v mw_2_3 mw_2_4 mw_2_5 mw_1_13 mw_2_6) (by decide +kernel) ⟨Nat.le_of_ble_eq_true rfl, Nat.le_of_ble_eq_true rfl⟩ (va_recv hK hP (ci := 1) (q0 := 0) rfl rfl) rfl hl.1 rfl (Nat.le_of_ble_eq_true rfl) dX0_init_28 ⟨(Nat.le_of_ble_eq_true rfl), (Nat.le_of_ble_eq_true rfl)⟩ hD hS hA (fun ov9 w9 H locs hp9 hP hD hS => ?_)
  obtain ⟨sl1, fl1, hl1, rfl, rfl⟩ := hp9
  have hP : va_P D vwCl ([(b, .inr (1, [.ref q8, .ref q17, .int (nI (1 + 1 + 0)), .int (nI ((6 * exN 6 * exN 0)))])), (q8, .inl (cs 0, 1728, .inl (sl1))), (q17, .inl (cs 0, 1728, .inl (fl1)))] ++ tl) H := hP
  have hD : va_D _ ([(b, .inr (1, [.ref q8, .ref q17, .int (nI (1 + 1 + 0)), .int (nI ((6 * exN 6 * exN 0)))])), (q8, .inl (cs 0, 1728, .inl (sl1))), (q17, .inl (cs 0, 1728, .inl (fl1)))] ++ tl) := hD
  refine W.eq (g2 := F0 m 31 ls []) rfl ?_
  refine W.widen (k := 2) (n := 3456) (Nat.le_of_ble_eq_true rfl) (Nat.le_of_ble_eq_true rfl) ?_
  exact wr_vret hQ hx hb hr hlocks hP hD hS (hpost _ _ _ _ hl1) dX0_init_31
set_option maxHeartbeats 4000000 in
set_option maxRecDepth 100000 in
theorem k_ac (l : Launch) (D : va_G) (cs : Nat → ClassId) (z mi : Nat) (H : Heap)  (b : Nat) {tl : va_W} (post : Option Value → va_W → Prop) (hpost : post none ([(b, .inr (0, [.int 0, .null, .int 0]))] ++ tl)) (hP : va_P D vwCl ([(b, .inr (0, [.int 0, .null, .int 0]))] ++ tl) H) (hD : va_D (fun _ => True) ([(b, .inr (0, [.int 0, .null, .int 0]))] ++ tl)) : Ws z mi l D cs 2 0 0 yJxa1e45_init_da8c8 cJxa1e45_init_da8c8 1 none ([(b, .inr (0, [.int 0, .null, .int 0]))] ++ tl) H [.ref b] post := by
  refine ws_ent (by decide) (Nat.le_of_ble_eq_true rfl) hP hD ?_
  clear hP hD H
  intro p e s m below meth c ls A Q H hx hb hr hml hown hts hlocks hin hl hK hQ hA hH hT hP hD hS
  clear hH
  have hl : lv_has ls 1 [(0, .ref b)] := hl
  refine lv_aload_n hx hb dJxa1e45_init_da8c8_0 rfl (lv_at hl 0 rfl) ?_
  refine W.objInit hx hb hown (hts (Cond.methodLink RJxa1e45 1 objectInit) mw_3_10) (hts (Cond.instanceMethod objectInit) mw_1_9) (hts (Cond.code objectInit ⟨#[0xb1]⟩ 1 none) mw_1_10) rfl (by rw [hml]; exact hl.1) rfl dJxa1e45_init_da8c8_1 (Nat.le_of_ble_eq_true rfl) (Nat.le_of_ble_eq_true rfl) ?_
  refine W.eq (g2 := F0 m 4 ls []) rfl ?_
  exact wr_vret hQ hx hb hr hlocks hP hD hS (hpost) dJxa1e45_init_da8c8_4
set_option maxHeartbeats 4000000 in
set_option maxRecDepth 100000 in
theorem k_al (l : Launch) (D : va_G) (cs : Nat → ClassId) (z mi : Nat) (H : Heap)  (b : Nat) {tl : va_W} (post : Option Value → va_W → Prop) (hpost : post none ([(b, .inr (0, [.int 0, .null, .int 0]))] ++ tl)) (hP : va_P D vwCl ([(b, .inr (0, [.int 0, .null, .int 0]))] ++ tl) H) (hD : va_D (fun _ => True) ([(b, .inr (0, [.int 0, .null, .int 0]))] ++ tl)) : Ws z mi l D cs 3 0 0 yJxc12de_init_da8c8 cJxc12de_init_da8c8 1 none ([(b, .inr (0, [.int 0, .null, .int 0]))] ++ tl) H [.ref b] post := by
  refine ws_ent (by decide) (Nat.le_of_ble_eq_true rfl) hP hD ?_
  clear hP hD H
  intro p e s m below meth c ls A Q H hx hb hr hml hown hts hlocks hin hl hK hQ hA hH hT hP hD hS
  clear hH
  have hl : lv_has ls 1 [(0, .ref b)] := hl
  refine lv_aload_n hx hb dJxc12de_init_da8c8_0 rfl (lv_at hl 0 rfl) ?_
  have hP : va_P D vwCl ([(b, .inr (0, [.int 0, .null, .int 0]))] ++ tl) H := hP
  have hD : va_D _ ([(b, .inr (0, [.int 0, .null, .int 0]))] ++ tl) := hD
  refine wtI (As := []) (rest := []) (b := b) ⟨hx, hb, hml, hown, hts⟩ hT hK 0 (k_ac l D cs z mi H b (fun ov w1 => ov = none ∧ w1 = [(b, .inr (0, [.int 0, .null, .int 0]))] ++ tl) ⟨rfl, rfl⟩ hP (hD.weaken (fun _ _ _ _ => trivial))) mw_3_9 mw_3_6 mw_3_7 mw_3_8 rfl (by decide +kernel) ⟨Nat.le_of_ble_eq_true rfl, Nat.le_of_ble_eq_true rfl⟩ rfl hl.1 rfl (Nat.le_of_ble_eq_true rfl) dJxc12de_init_da8c8_1 ⟨(Nat.le_of_ble_eq_true rfl), (Nat.le_of_ble_eq_true rfl)⟩ hD hS hA (fun ov9 w9 H locs hp9 hP hD hS => ?_)
  obtain ⟨rfl, rfl⟩ := hp9
  have hP : va_P D vwCl ([(b, .inr (0, [.int 0, .null, .int 0]))] ++ tl) H := hP
  have hD : va_D _ ([(b, .inr (0, [.int 0, .null, .int 0]))] ++ tl) := hD
  refine W.eq (g2 := F0 m 4 ls []) rfl ?_
  refine lv_aload_n hx hb dJxc12de_init_da8c8_4 rfl (lv_at hl 0 rfl) ?_
  refine lv_iconst (v := 0) hx hb dJxc12de_init_da8c8_5 (by first | decide | rfl) ?_
  refine va_put (D := D) (ci := 0) (v := .int 0) (ty := .int) (C := RJx4a65c) (T := TJx4a65c) (N := 3) hx hb hts inlJx4a65c tyJx4a65c tyJx4a65c_ok nmJx4a65c hown hK hP hD hS 0 rfl rfl 0 (by decide) (hts (Cond.fieldLink RJxc12de 7 "java/util/AbstractList" "modCount" "I") mw_3_5) (fun _ h9 => h9) rfl (by decide +kernel) rfl rfl (Nat.le_of_ble_eq_true rfl) dJxc12de_init_da8c8_6 (fun H locs hP hD hS => ?_)
  have hP : va_P D vwCl ([(b, .inr (0, [.int 0, .null, .int 0]))] ++ tl) H := hP
  have hD : va_D _ ([(b, .inr (0, [.int 0, .null, .int 0]))] ++ tl) := hD
  exact wr_vret hQ hx hb hr hlocks hP hD hS (hpost) dJxc12de_init_da8c8_9
set_option maxHeartbeats 4000000 in
set_option maxRecDepth 100000 in
theorem k_list (l : Launch) (D : va_G) (cs : Nat → ClassId) (z mi : Nat) (H : Heap)  (b : Nat) {tl : va_W} (post : Option Value → va_W → Prop) (hpost : post none ([(b, .inr (0, [.int 0, .ref z, .int 0]))] ++ tl)) (hP : va_P D vwCl ([(b, .inr (0, [.int 0, .null, .int 0]))] ++ tl) H) (hD : va_D (fun _ => True) ([(b, .inr (0, [.int 0, .null, .int 0]))] ++ tl)) : Ws z mi l D cs 4 0 0 yJx4a65c_init_da8c8 cJx4a65c_init_da8c8 1 none ([(b, .inr (0, [.int 0, .null, .int 0]))] ++ tl) H [.ref b] post := by
  refine ws_ent (by decide) (Nat.le_of_ble_eq_true rfl) hP hD ?_
  clear hP hD H
  intro p e s m below meth c ls A Q H hx hb hr hml hown hts hlocks hin hl hK hQ hA hH hT hP hD hS
  clear hH
  have hl : lv_has ls 1 [(0, .ref b)] := hl
  refine lv_aload_n hx hb dJx4a65c_init_da8c8_0 rfl (lv_at hl 0 rfl) ?_
  have hP : va_P D vwCl ([(b, .inr (0, [.int 0, .null, .int 0]))] ++ tl) H := hP
  have hD : va_D _ ([(b, .inr (0, [.int 0, .null, .int 0]))] ++ tl) := hD
  refine wtI (As := []) (rest := []) (b := b) ⟨hx, hb, hml, hown, hts⟩ hT hK 0 (k_al l D cs z mi H b (fun ov w1 => ov = none ∧ w1 = [(b, .inr (0, [.int 0, .null, .int 0]))] ++ tl) ⟨rfl, rfl⟩ hP (hD.weaken (fun _ _ _ _ => trivial))) mw_3_4 mw_3_1 mw_3_2 mw_3_3 rfl (by decide +kernel) ⟨Nat.le_of_ble_eq_true rfl, Nat.le_of_ble_eq_true rfl⟩ rfl hl.1 rfl (Nat.le_of_ble_eq_true rfl) dJx4a65c_init_da8c8_1 ⟨(Nat.le_of_ble_eq_true rfl), (Nat.le_of_ble_eq_true rfl)⟩ hD hS hA (fun ov9 w9 H locs hp9 hP hD hS => ?_)
  obtain ⟨rfl, rfl⟩ := hp9
  have hP : va_P D vwCl ([(b, .inr (0, [.int 0, .null, .int 0]))] ++ tl) H := hP
  have hD : va_D _ ([(b, .inr (0, [.int 0, .null, .int 0]))] ++ tl) := hD
  refine W.eq (g2 := F0 m 4 ls []) rfl ?_
  refine lv_aload_n hx hb dJx4a65c_init_da8c8_4 rfl (lv_at hl 0 rfl) ?_
  refine va_gets hx hb hT.1 hS hown (hts (Cond.fieldLink RJx4a65c 39 "java/util/ArrayList" "DEFAULTCAPACITY_EMPTY_ELEMENTDATA" "[Ljava/lang/Object;") mw_2_23) (fun _ h9 => h9) dJx4a65c_init_da8c8_5 ?_
  refine va_put (D := D) (ci := 0) (v := .ref z) (ty := (.array (.object "java/lang/Object"))) (C := RJx4a65c) (T := TJx4a65c) (N := 3) hx hb hts inlJx4a65c tyJx4a65c tyJx4a65c_ok nmJx4a65c hown hK hP hD hS 0 rfl rfl 1 (by decide) (hts (Cond.fieldLink RJx4a65c 9 "java/util/ArrayList" "elementData" "[Ljava/lang/Object;") mw_3_0) (fun _ h9 => h9) rfl (by decide +kernel) rfl rfl (Nat.le_of_ble_eq_true rfl) dJx4a65c_init_da8c8_8 (fun H locs hP hD hS => ?_)
  have hP : va_P D vwCl ([(b, .inr (0, [.int 0, .ref z, .int 0]))] ++ tl) H := hP
  have hD : va_D _ ([(b, .inr (0, [.int 0, .ref z, .int 0]))] ++ tl) := hD
  exact wr_vret hQ hx hb hr hlocks hP hD hS (hpost) dJx4a65c_init_da8c8_11
