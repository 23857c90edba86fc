/-! the law calls the class: throws; rows by program -/
set_option maxHeartbeats 4000000 in
set_option maxRecDepth 100000 in
theorem v_sumOf (l : Launch) (hl9 : l.stackTraces = false) (D : va_G) (cs : Nat → ClassId) (z mi : Nat) (H : Heap) {tl : va_W} {ad : Nat → Nat} {bank rnds cnt mcn : Int32} {N n cap : Nat} {su fa pu : Nat → Int32} {rf : Nat → Option Nat} {wa : Nat → Nat} {wf : Nat → Nat → Int32} {kd : Nat → Nat} (hRX : ∀ H9 : Heap, va_P D vwCl tl H9 → RX D cs H9 ad bank rnds cnt mcn N n cap su fa pu rf wa wf kd) {oo : Nat} (o : Int32) (ho : o < 0 ∨ ¬ o < nI N) (post : Option Value → va_W → Prop) (hpost : post (some (.int 1)) (tl)) (hP : va_P D vwCl (tl) H) (hD : va_D (fun _ => True) (tl)) : Wh z mi l D cs 10 1 6 yL_sumOf cL_sumOf 4 (some .int) [(0, 9, 12, 21)] (tl) H [.ref (ad 0), .int o, .ref oo] post := by
  refine wh_ent (by decide) (Nat.le_of_ble_eq_true rfl) hP hD ?_
  clear hP hD H
  intro p e s m below meth c ls A Q H hx hb hr hml hown hts hlocks hl hK hQ hA hH hT hR htab hP hD hS
  clear hH
  have hl : lv_has ls 4 [(0, .ref (ad 0)), (1, .int o), (2, .ref oo)] := hl
  have RR0 := hRX H hP
  refine lv_aload_n hx hb dL_sumOf_0 rfl (lv_at hl 2 rfl) ?_
  refine lv_iconst (v := 0) hx hb dL_sumOf_1 (by first | decide | rfl) ?_
  refine lv_aload_n hx hb dL_sumOf_2 rfl (lv_at hl 0 rfl) ?_
  refine lv_iload_n hx hb dL_sumOf_3 rfl (lv_at hl 1 rfl) ?_
  refine wh_catchV (As := [.int o]) (rest := [.int 0, .ref oo]) (b := ad 0) ⟨hx, hb, hml, hown, hts⟩ hT hR hK 1 (t_sumOf l hl9 D cs z mi H RR0 o ho) (gin_v mw_7_11 mw_7_12 mw_7_13 mw_1_2 mw_7_14) (by decide +kernel) ⟨Nat.le_of_ble_eq_true rfl, Nat.le_of_ble_eq_true rfl⟩ (va_recv hK RR0.1 (ci := 3) (q0 := 0) rfl rfl) rfl hl.1 rfl (Nat.le_of_ble_eq_true rfl) dL_sumOf_4 ⟨Nat.le_of_ble_eq_true rfl, Nat.le_of_ble_eq_true rfl⟩ hP hD hS hA (fun qx9 ce9 H locs hP hD hS hc1 hc2 hc3 => ?_)
  refine vx_catch (E := xIOB) (name := xIOB) hown [] ⟨0, 9, 12, 21⟩ [] (htab.trans rfl) (fun z9 hz9 => absurd hz9 List.not_mem_nil) rfl (by decide) (hts (Cond.classLink RL 21 "java/lang/IndexOutOfBoundsException") mw_7_10) (cd_use hT.2.2.2.2.2.2.1 cd_IOB) hc1 hc2 hc3 ?_
  refine W.eq (g2 := F0 m 12 ls [.ref qx9]) rfl ?_
  refine lv_astore_n (lv' := [(3, .ref qx9), (0, .ref (ad 0)), (1, .int o), (2, .ref oo)]) hx hb dL_sumOf_12 rfl hl (by decide) rfl (fun ls hl => ?_)
  refine lv_iconst (v := 1) hx hb dL_sumOf_13 (by first | decide | rfl) ?_
  refine W.widen (k := 1) (n := 6) (Nat.le_of_ble_eq_true rfl) (Nat.le_of_ble_eq_true rfl) ?_
  exact wr_iret hQ hx hb hr hlocks hP hD hS (hpost) dL_sumOf_14
set_option maxHeartbeats 4000000 in
set_option maxRecDepth 100000 in
theorem v_settle (l : Launch) (hl9 : l.stackTraces = false) (D : va_G) (cs : Nat → ClassId) (z mi : Nat) (H : Heap) {tl : va_W} {ad : Nat → Nat} {bank rnds cnt mcn : Int32} {N n cap : Nat} {su fa pu : Nat → Int32} {rf : Nat → Option Nat} {wa : Nat → Nat} {wf : Nat → Nat → Int32} {kd : Nat → Nat} (hRX : ∀ H9 : Heap, va_P D vwCl tl H9 → RX D cs H9 ad bank rnds cnt mcn N n cap su fa pu rf wa wf kd) {oo : Nat} (o : Int32) (ho : o < 0 ∨ ¬ o < nI N) (post : Option Value → va_W → Prop) (hpost : post (some (.int 1)) (tl)) (hP : va_P D vwCl (tl) H) (hD : va_D (fun _ => True) (tl)) : Wh z mi l D cs 10 1 6 yL_settle cL_settle 4 (some .int) [(0, 9, 12, 21)] (tl) H [.ref (ad 0), .int o, .ref oo] post := by
  refine wh_ent (by decide) (Nat.le_of_ble_eq_true rfl) hP hD ?_
  clear hP hD H
  intro p e s m below meth c ls A Q H hx hb hr hml hown hts hlocks hl hK hQ hA hH hT hR htab hP hD hS
  clear hH
  have hl : lv_has ls 4 [(0, .ref (ad 0)), (1, .int o), (2, .ref oo)] := hl
  have RR0 := hRX H hP
  refine lv_aload_n hx hb dL_settle_0 rfl (lv_at hl 2 rfl) ?_
  refine lv_iconst (v := 0) hx hb dL_settle_1 (by first | decide | rfl) ?_
  refine lv_aload_n hx hb dL_settle_2 rfl (lv_at hl 0 rfl) ?_
  refine lv_iload_n hx hb dL_settle_3 rfl (lv_at hl 1 rfl) ?_
  refine wh_catchV (As := [.int o]) (rest := [.int 0, .ref oo]) (b := ad 0) ⟨hx, hb, hml, hown, hts⟩ hT hR hK 1 (t_settle l hl9 D cs z mi H RR0 o ho) (gin_v mw_16_19 mw_16_20 mw_16_21 mw_1_2 mw_16_22) (by decide +kernel) ⟨Nat.le_of_ble_eq_true rfl, Nat.le_of_ble_eq_true rfl⟩ (va_recv hK RR0.1 (ci := 3) (q0 := 0) rfl rfl) rfl hl.1 rfl (Nat.le_of_ble_eq_true rfl) dL_settle_4 ⟨Nat.le_of_ble_eq_true rfl, Nat.le_of_ble_eq_true rfl⟩ hP hD hS hA (fun qx9 ce9 H locs hP hD hS hc1 hc2 hc3 => ?_)
  refine vx_catch (E := xIOB) (name := xIOB) hown [] ⟨0, 9, 12, 21⟩ [] (htab.trans rfl) (fun z9 hz9 => absurd hz9 List.not_mem_nil) rfl (by decide) (hts (Cond.classLink RL 21 "java/lang/IndexOutOfBoundsException") mw_7_10) (cd_use hT.2.2.2.2.2.2.1 cd_IOB) hc1 hc2 hc3 ?_
  refine W.eq (g2 := F0 m 12 ls [.ref qx9]) rfl ?_
  refine lv_astore_n (lv' := [(3, .ref qx9), (0, .ref (ad 0)), (1, .int o), (2, .ref oo)]) hx hb dL_settle_12 rfl hl (by decide) rfl (fun ls hl => ?_)
  refine lv_iconst (v := 1) hx hb dL_settle_13 (by first | decide | rfl) ?_
  refine W.widen (k := 1) (n := 6) (Nat.le_of_ble_eq_true rfl) (Nat.le_of_ble_eq_true rfl) ?_
  exact wr_iret hQ hx hb hr hlocks hP hD hS (hpost) dL_settle_14
set_option maxHeartbeats 4000000 in
set_option maxRecDepth 100000 in
theorem v_gainAt (l : Launch) (hl9 : l.stackTraces = false) (D : va_G) (cs : Nat → ClassId) (z mi : Nat) (H : Heap) {tl : va_W} {ad : Nat → Nat} {bank rnds cnt mcn : Int32} {N n cap : Nat} {su fa pu : Nat → Int32} {rf : Nat → Option Nat} {wa : Nat → Nat} {wf : Nat → Nat → Int32} {kd : Nat → Nat} (hRX : ∀ H9 : Heap, va_P D vwCl tl H9 → RX D cs H9 ad bank rnds cnt mcn N n cap su fa pu rf wa wf kd) {oo : Nat} (o : Int32) (ho : o < 0 ∨ ¬ o < nI N) (post : Option Value → va_W → Prop) (hpost : post (some (.int 1)) (tl)) (hP : va_P D vwCl (tl) H) (hD : va_D (fun _ => True) (tl)) : Wh z mi l D cs 10 1 6 yL_gainAt cL_gainAt 4 (some .int) [(0, 9, 12, 21)] (tl) H [.ref (ad 0), .int o, .ref oo] post := by
  refine wh_ent (by decide) (Nat.le_of_ble_eq_true rfl) hP hD ?_
  clear hP hD H
  intro p e s m below meth c ls A Q H hx hb hr hml hown hts hlocks hl hK hQ hA hH hT hR htab hP hD hS
  clear hH
  have hl : lv_has ls 4 [(0, .ref (ad 0)), (1, .int o), (2, .ref oo)] := hl
  have RR0 := hRX H hP
  refine lv_aload_n hx hb dL_gainAt_0 rfl (lv_at hl 2 rfl) ?_
  refine lv_iconst (v := 0) hx hb dL_gainAt_1 (by first | decide | rfl) ?_
  refine lv_aload_n hx hb dL_gainAt_2 rfl (lv_at hl 0 rfl) ?_
  refine lv_iload_n hx hb dL_gainAt_3 rfl (lv_at hl 1 rfl) ?_
  refine wh_catchV (As := [.int o]) (rest := [.int 0, .ref oo]) (b := ad 0) ⟨hx, hb, hml, hown, hts⟩ hT hR hK 1 (t_gainAt l hl9 D cs z mi H RR0 o ho) (gin_v mw_26_2 mw_26_3 mw_26_4 mw_1_2 mw_26_5) (by decide +kernel) ⟨Nat.le_of_ble_eq_true rfl, Nat.le_of_ble_eq_true rfl⟩ (va_recv hK RR0.1 (ci := 3) (q0 := 0) rfl rfl) rfl hl.1 rfl (Nat.le_of_ble_eq_true rfl) dL_gainAt_4 ⟨Nat.le_of_ble_eq_true rfl, Nat.le_of_ble_eq_true rfl⟩ hP hD hS hA (fun qx9 ce9 H locs hP hD hS hc1 hc2 hc3 => ?_)
  refine vx_catch (E := xIOB) (name := xIOB) hown [] ⟨0, 9, 12, 21⟩ [] (htab.trans rfl) (fun z9 hz9 => absurd hz9 List.not_mem_nil) rfl (by decide) (hts (Cond.classLink RL 21 "java/lang/IndexOutOfBoundsException") mw_7_10) (cd_use hT.2.2.2.2.2.2.1 cd_IOB) hc1 hc2 hc3 ?_
  refine W.eq (g2 := F0 m 12 ls [.ref qx9]) rfl ?_
  refine lv_astore_n (lv' := [(3, .ref qx9), (0, .ref (ad 0)), (1, .int o), (2, .ref oo)]) hx hb dL_gainAt_12 rfl hl (by decide) rfl (fun ls hl => ?_)
  refine lv_iconst (v := 1) hx hb dL_gainAt_13 (by first | decide | rfl) ?_
  refine W.widen (k := 1) (n := 6) (Nat.le_of_ble_eq_true rfl) (Nat.le_of_ble_eq_true rfl) ?_
  exact wr_iret hQ hx hb hr hlocks hP hD hS (hpost) dL_gainAt_14
set_option maxHeartbeats 4000000 in
set_option maxRecDepth 100000 in
theorem v_takeBack (l : Launch) (hl9 : l.stackTraces = false) (D : va_G) (cs : Nat → ClassId) (z mi : Nat) (H : Heap) {tl : va_W} {ad : Nat → Nat} {bank rnds cnt mcn : Int32} {N n cap : Nat} {su fa pu : Nat → Int32} {rf : Nat → Option Nat} {wa : Nat → Nat} {wf : Nat → Nat → Int32} {kd : Nat → Nat} (hRX : ∀ H9 : Heap, va_P D vwCl tl H9 → RX D cs H9 ad bank rnds cnt mcn N n cap su fa pu rf wa wf kd) {oo : Nat} (o : Int32) (ho : o < 0 ∨ ¬ o < nI n) (post : Option Value → va_W → Prop) (hpost : post (some (.int 1)) (tl)) (hP : va_P D vwCl (tl) H) (hD : va_D (fun _ => True) (tl)) : Wh z mi l D cs 10 1 6 yL_takeBack cL_takeBack 4 (some .int) [(0, 9, 12, 21)] (tl) H [.ref (ad 0), .int o, .ref oo] post := by
  refine wh_ent (by decide) (Nat.le_of_ble_eq_true rfl) hP hD ?_
  clear hP hD H
  intro p e s m below meth c ls A Q H hx hb hr hml hown hts hlocks hl hK hQ hA hH hT hR htab hP hD hS
  clear hH
  have hl : lv_has ls 4 [(0, .ref (ad 0)), (1, .int o), (2, .ref oo)] := hl
  have RR0 := hRX H hP
  refine lv_aload_n hx hb dL_takeBack_0 rfl (lv_at hl 2 rfl) ?_
  refine lv_iconst (v := 0) hx hb dL_takeBack_1 (by first | decide | rfl) ?_
  refine lv_aload_n hx hb dL_takeBack_2 rfl (lv_at hl 0 rfl) ?_
  refine lv_iload_n hx hb dL_takeBack_3 rfl (lv_at hl 1 rfl) ?_
  refine wh_catchV (As := [.int o]) (rest := [.int 0, .ref oo]) (b := ad 0) ⟨hx, hb, hml, hown, hts⟩ hT hR hK 1 (t_takeBack l hl9 D cs z mi H RR0 o ho) (gin_v mw_15_3 mw_15_4 mw_15_5 mw_1_2 mw_15_6) (by decide +kernel) ⟨Nat.le_of_ble_eq_true rfl, Nat.le_of_ble_eq_true rfl⟩ (va_recv hK RR0.1 (ci := 3) (q0 := 0) rfl rfl) rfl hl.1 rfl (Nat.le_of_ble_eq_true rfl) dL_takeBack_4 ⟨Nat.le_of_ble_eq_true rfl, Nat.le_of_ble_eq_true rfl⟩ hP hD hS hA (fun qx9 ce9 H locs hP hD hS hc1 hc2 hc3 => ?_)
  refine vx_catch (E := xIOB) (name := xIOB) hown [] ⟨0, 9, 12, 21⟩ [] (htab.trans rfl) (fun z9 hz9 => absurd hz9 List.not_mem_nil) rfl (by decide) (hts (Cond.classLink RL 21 "java/lang/IndexOutOfBoundsException") mw_7_10) (cd_use hT.2.2.2.2.2.2.1 cd_IOB) hc1 hc2 hc3 ?_
  refine W.eq (g2 := F0 m 12 ls [.ref qx9]) rfl ?_
  refine lv_astore_n (lv' := [(3, .ref qx9), (0, .ref (ad 0)), (1, .int o), (2, .ref oo)]) hx hb dL_takeBack_12 rfl hl (by decide) rfl (fun ls hl => ?_)
  refine lv_iconst (v := 1) hx hb dL_takeBack_13 (by first | decide | rfl) ?_
  refine W.widen (k := 1) (n := 6) (Nat.le_of_ble_eq_true rfl) (Nat.le_of_ble_eq_true rfl) ?_
  exact wr_iret hQ hx hb hr hlocks hP hD hS (hpost) dL_takeBack_14
set_option maxHeartbeats 4000000 in
set_option maxRecDepth 100000 in
theorem v_patronOf (l : Launch) (hl9 : l.stackTraces = false) (D : va_G) (cs : Nat → ClassId) (z mi : Nat) (H : Heap) {tl : va_W} {ad : Nat → Nat} {bank rnds cnt mcn : Int32} {N n cap : Nat} {su fa pu : Nat → Int32} {rf : Nat → Option Nat} {wa : Nat → Nat} {wf : Nat → Nat → Int32} {kd : Nat → Nat} (hRX : ∀ H9 : Heap, va_P D vwCl tl H9 → RX D cs H9 ad bank rnds cnt mcn N n cap su fa pu rf wa wf kd) {oo : Nat} (o : Int32) (ho : o < 0 ∨ ¬ o < nI n) (post : Option Value → va_W → Prop) (hpost : post (some (.int 1)) (tl)) (hP : va_P D vwCl (tl) H) (hD : va_D (fun _ => True) (tl)) : Wh z mi l D cs 10 1 6 yL_patronOf cL_patronOf 4 (some .int) [(0, 9, 12, 21)] (tl) H [.ref (ad 0), .int o, .ref oo] post := by
  refine wh_ent (by decide) (Nat.le_of_ble_eq_true rfl) hP hD ?_
  clear hP hD H
  intro p e s m below meth c ls A Q H hx hb hr hml hown hts hlocks hl hK hQ hA hH hT hR htab hP hD hS
  clear hH
  have hl : lv_has ls 4 [(0, .ref (ad 0)), (1, .int o), (2, .ref oo)] := hl
  have RR0 := hRX H hP
  refine lv_aload_n hx hb dL_patronOf_0 rfl (lv_at hl 2 rfl) ?_
  refine lv_iconst (v := 0) hx hb dL_patronOf_1 (by first | decide | rfl) ?_
  refine lv_aload_n hx hb dL_patronOf_2 rfl (lv_at hl 0 rfl) ?_
  refine lv_iload_n hx hb dL_patronOf_3 rfl (lv_at hl 1 rfl) ?_
  refine wh_catchV (As := [.int o]) (rest := [.int 0, .ref oo]) (b := ad 0) ⟨hx, hb, hml, hown, hts⟩ hT hR hK 1 (t_patronOf l hl9 D cs z mi H RR0 o ho) (gin_v mw_19_23 mw_20_0 mw_20_1 mw_1_2 mw_20_2) (by decide +kernel) ⟨Nat.le_of_ble_eq_true rfl, Nat.le_of_ble_eq_true rfl⟩ (va_recv hK RR0.1 (ci := 3) (q0 := 0) rfl rfl) rfl hl.1 rfl (Nat.le_of_ble_eq_true rfl) dL_patronOf_4 ⟨Nat.le_of_ble_eq_true rfl, Nat.le_of_ble_eq_true rfl⟩ hP hD hS hA (fun qx9 ce9 H locs hP hD hS hc1 hc2 hc3 => ?_)
  refine vx_catch (E := xIOB) (name := xIOB) hown [] ⟨0, 9, 12, 21⟩ [] (htab.trans rfl) (fun z9 hz9 => absurd hz9 List.not_mem_nil) rfl (by decide) (hts (Cond.classLink RL 21 "java/lang/IndexOutOfBoundsException") mw_7_10) (cd_use hT.2.2.2.2.2.2.1 cd_IOB) hc1 hc2 hc3 ?_
  refine W.eq (g2 := F0 m 12 ls [.ref qx9]) rfl ?_
  refine lv_astore_n (lv' := [(3, .ref qx9), (0, .ref (ad 0)), (1, .int o), (2, .ref oo)]) hx hb dL_patronOf_12 rfl hl (by decide) rfl (fun ls hl => ?_)
  refine lv_iconst (v := 1) hx hb dL_patronOf_13 (by first | decide | rfl) ?_
  refine W.widen (k := 1) (n := 6) (Nat.le_of_ble_eq_true rfl) (Nat.le_of_ble_eq_true rfl) ?_
  exact wr_iret hQ hx hb hr hlocks hP hD hS (hpost) dL_patronOf_14
set_option maxHeartbeats 4000000 in
set_option maxRecDepth 100000 in
theorem v_stakeOf (l : Launch) (hl9 : l.stackTraces = false) (D : va_G) (cs : Nat → ClassId) (z mi : Nat) (H : Heap) {tl : va_W} {ad : Nat → Nat} {bank rnds cnt mcn : Int32} {N n cap : Nat} {su fa pu : Nat → Int32} {rf : Nat → Option Nat} {wa : Nat → Nat} {wf : Nat → Nat → Int32} {kd : Nat → Nat} (hRX : ∀ H9 : Heap, va_P D vwCl tl H9 → RX D cs H9 ad bank rnds cnt mcn N n cap su fa pu rf wa wf kd) {oo : Nat} (o : Int32) (ho : o < 0 ∨ ¬ o < nI n) (post : Option Value → va_W → Prop) (hpost : post (some (.int 1)) (tl)) (hP : va_P D vwCl (tl) H) (hD : va_D (fun _ => True) (tl)) : Wh z mi l D cs 10 1 6 yL_stakeOf cL_stakeOf 4 (some .int) [(0, 9, 12, 21)] (tl) H [.ref (ad 0), .int o, .ref oo] post := by
  refine wh_ent (by decide) (Nat.le_of_ble_eq_true rfl) hP hD ?_
  clear hP hD H
  intro p e s m below meth c ls A Q H hx hb hr hml hown hts hlocks hl hK hQ hA hH hT hR htab hP hD hS
  clear hH
  have hl : lv_has ls 4 [(0, .ref (ad 0)), (1, .int o), (2, .ref oo)] := hl
  have RR0 := hRX H hP
  refine lv_aload_n hx hb dL_stakeOf_0 rfl (lv_at hl 2 rfl) ?_
  refine lv_iconst (v := 0) hx hb dL_stakeOf_1 (by first | decide | rfl) ?_
  refine lv_aload_n hx hb dL_stakeOf_2 rfl (lv_at hl 0 rfl) ?_
  refine lv_iload_n hx hb dL_stakeOf_3 rfl (lv_at hl 1 rfl) ?_
  refine wh_catchV (As := [.int o]) (rest := [.int 0, .ref oo]) (b := ad 0) ⟨hx, hb, hml, hown, hts⟩ hT hR hK 1 (t_stakeOf l hl9 D cs z mi H RR0 o ho) (gin_v mw_20_14 mw_20_15 mw_20_16 mw_1_2 mw_20_17) (by decide +kernel) ⟨Nat.le_of_ble_eq_true rfl, Nat.le_of_ble_eq_true rfl⟩ (va_recv hK RR0.1 (ci := 3) (q0 := 0) rfl rfl) rfl hl.1 rfl (Nat.le_of_ble_eq_true rfl) dL_stakeOf_4 ⟨Nat.le_of_ble_eq_true rfl, Nat.le_of_ble_eq_true rfl⟩ hP hD hS hA (fun qx9 ce9 H locs hP hD hS hc1 hc2 hc3 => ?_)
  refine vx_catch (E := xIOB) (name := xIOB) hown [] ⟨0, 9, 12, 21⟩ [] (htab.trans rfl) (fun z9 hz9 => absurd hz9 List.not_mem_nil) rfl (by decide) (hts (Cond.classLink RL 21 "java/lang/IndexOutOfBoundsException") mw_7_10) (cd_use hT.2.2.2.2.2.2.1 cd_IOB) hc1 hc2 hc3 ?_
  refine W.eq (g2 := F0 m 12 ls [.ref qx9]) rfl ?_
  refine lv_astore_n (lv' := [(3, .ref qx9), (0, .ref (ad 0)), (1, .int o), (2, .ref oo)]) hx hb dL_stakeOf_12 rfl hl (by decide) rfl (fun ls hl => ?_)
  refine lv_iconst (v := 1) hx hb dL_stakeOf_13 (by first | decide | rfl) ?_
  refine W.widen (k := 1) (n := 6) (Nat.le_of_ble_eq_true rfl) (Nat.le_of_ble_eq_true rfl) ?_
  exact wr_iret hQ hx hb hr hlocks hP hD hS (hpost) dL_stakeOf_14
set_option maxHeartbeats 4000000 in
set_option maxRecDepth 100000 in
theorem v_bringsOf (l : Launch) (hl9 : l.stackTraces = false) (D : va_G) (cs : Nat → ClassId) (z mi : Nat) (H : Heap) {tl : va_W} {ad : Nat → Nat} {bank rnds cnt mcn : Int32} {N n cap : Nat} {su fa pu : Nat → Int32} {rf : Nat → Option Nat} {wa : Nat → Nat} {wf : Nat → Nat → Int32} {kd : Nat → Nat} (hRX : ∀ H9 : Heap, va_P D vwCl tl H9 → RX D cs H9 ad bank rnds cnt mcn N n cap su fa pu rf wa wf kd) {oo : Nat} (o : Int32) (ho : o < 0 ∨ ¬ o < nI n) (post : Option Value → va_W → Prop) (hpost : post (some (.int 1)) (tl)) (hP : va_P D vwCl (tl) H) (hD : va_D (fun _ => True) (tl)) : Wh z mi l D cs 10 1 6 yL_bringsOf cL_bringsOf 4 (some .int) [(0, 9, 12, 21)] (tl) H [.ref (ad 0), .int o, .ref oo] post := by
  refine wh_ent (by decide) (Nat.le_of_ble_eq_true rfl) hP hD ?_
  clear hP hD H
  intro p e s m below meth c ls A Q H hx hb hr hml hown hts hlocks hl hK hQ hA hH hT hR htab hP hD hS
  clear hH
  have hl : lv_has ls 4 [(0, .ref (ad 0)), (1, .int o), (2, .ref oo)] := hl
  have RR0 := hRX H hP
  refine lv_aload_n hx hb dL_bringsOf_0 rfl (lv_at hl 2 rfl) ?_
  refine lv_iconst (v := 0) hx hb dL_bringsOf_1 (by first | decide | rfl) ?_
  refine lv_aload_n hx hb dL_bringsOf_2 rfl (lv_at hl 0 rfl) ?_
  refine lv_iload_n hx hb dL_bringsOf_3 rfl (lv_at hl 1 rfl) ?_
  refine wh_catchV (As := [.int o]) (rest := [.int 0, .ref oo]) (b := ad 0) ⟨hx, hb, hml, hown, hts⟩ hT hR hK 1 (t_bringsOf l hl9 D cs z mi H RR0 o ho) (gin_v mw_21_1 mw_21_2 mw_21_3 mw_1_2 mw_21_4) (by decide +kernel) ⟨Nat.le_of_ble_eq_true rfl, Nat.le_of_ble_eq_true rfl⟩ (va_recv hK RR0.1 (ci := 3) (q0 := 0) rfl rfl) rfl hl.1 rfl (Nat.le_of_ble_eq_true rfl) dL_bringsOf_4 ⟨Nat.le_of_ble_eq_true rfl, Nat.le_of_ble_eq_true rfl⟩ hP hD hS hA (fun qx9 ce9 H locs hP hD hS hc1 hc2 hc3 => ?_)
  refine vx_catch (E := xIOB) (name := xIOB) hown [] ⟨0, 9, 12, 21⟩ [] (htab.trans rfl) (fun z9 hz9 => absurd hz9 List.not_mem_nil) rfl (by decide) (hts (Cond.classLink RL 21 "java/lang/IndexOutOfBoundsException") mw_7_10) (cd_use hT.2.2.2.2.2.2.1 cd_IOB) hc1 hc2 hc3 ?_
  refine W.eq (g2 := F0 m 12 ls [.ref qx9]) rfl ?_
  refine lv_astore_n (lv' := [(3, .ref qx9), (0, .ref (ad 0)), (1, .int o), (2, .ref oo)]) hx hb dL_bringsOf_12 rfl hl (by decide) rfl (fun ls hl => ?_)
  refine lv_iconst (v := 1) hx hb dL_bringsOf_13 (by first | decide | rfl) ?_
  refine W.widen (k := 1) (n := 6) (Nat.le_of_ble_eq_true rfl) (Nat.le_of_ble_eq_true rfl) ?_
  exact wr_iret hQ hx hb hr hlocks hP hD hS (hpost) dL_bringsOf_14
set_option maxHeartbeats 4000000 in
set_option maxRecDepth 100000 in
theorem v_edgeTop (l : Launch) (hl9 : l.stackTraces = false) (D : va_G) (cs : Nat → ClassId) (z mi : Nat) (H : Heap) {tl : va_W} {ad : Nat → Nat} {bank rnds cnt mcn : Int32} {N n cap : Nat} {su fa pu : Nat → Int32} {rf : Nat → Option Nat} {wa : Nat → Nat} {wf : Nat → Nat → Int32} {kd : Nat → Nat} (hRX : ∀ H9 : Heap, va_P D vwCl tl H9 → RX D cs H9 ad bank rnds cnt mcn N n cap su fa pu rf wa wf kd) {oo : Nat} (o : Int32) (ho : o < 0 ∨ ¬ o < nI n) (post : Option Value → va_W → Prop) (hpost : post (some (.int 1)) (tl)) (hP : va_P D vwCl (tl) H) (hD : va_D (fun _ => True) (tl)) : Wh z mi l D cs 10 1 6 yL_edgeTop cL_edgeTop 4 (some .int) [(0, 9, 12, 21)] (tl) H [.ref (ad 0), .int o, .ref oo] post := by
  refine wh_ent (by decide) (Nat.le_of_ble_eq_true rfl) hP hD ?_
  clear hP hD H
  intro p e s m below meth c ls A Q H hx hb hr hml hown hts hlocks hl hK hQ hA hH hT hR htab hP hD hS
  clear hH
  have hl : lv_has ls 4 [(0, .ref (ad 0)), (1, .int o), (2, .ref oo)] := hl
  have RR0 := hRX H hP
  refine lv_aload_n hx hb dL_edgeTop_0 rfl (lv_at hl 2 rfl) ?_
  refine lv_iconst (v := 0) hx hb dL_edgeTop_1 (by first | decide | rfl) ?_
  refine lv_aload_n hx hb dL_edgeTop_2 rfl (lv_at hl 0 rfl) ?_
  refine lv_iload_n hx hb dL_edgeTop_3 rfl (lv_at hl 1 rfl) ?_
  refine wh_catchV (As := [.int o]) (rest := [.int 0, .ref oo]) (b := ad 0) ⟨hx, hb, hml, hown, hts⟩ hT hR hK 1 (t_edgeTop l hl9 D cs z mi H RR0 o ho) (gin_v mw_22_0 mw_22_1 mw_22_2 mw_1_2 mw_22_3) (by decide +kernel) ⟨Nat.le_of_ble_eq_true rfl, Nat.le_of_ble_eq_true rfl⟩ (va_recv hK RR0.1 (ci := 3) (q0 := 0) rfl rfl) rfl hl.1 rfl (Nat.le_of_ble_eq_true rfl) dL_edgeTop_4 ⟨Nat.le_of_ble_eq_true rfl, Nat.le_of_ble_eq_true rfl⟩ hP hD hS hA (fun qx9 ce9 H locs hP hD hS hc1 hc2 hc3 => ?_)
  refine vx_catch (E := xIOB) (name := xIOB) hown [] ⟨0, 9, 12, 21⟩ [] (htab.trans rfl) (fun z9 hz9 => absurd hz9 List.not_mem_nil) rfl (by decide) (hts (Cond.classLink RL 21 "java/lang/IndexOutOfBoundsException") mw_7_10) (cd_use hT.2.2.2.2.2.2.1 cd_IOB) hc1 hc2 hc3 ?_
  refine W.eq (g2 := F0 m 12 ls [.ref qx9]) rfl ?_
  refine lv_astore_n (lv' := [(3, .ref qx9), (0, .ref (ad 0)), (1, .int o), (2, .ref oo)]) hx hb dL_edgeTop_12 rfl hl (by decide) rfl (fun ls hl => ?_)
  refine lv_iconst (v := 1) hx hb dL_edgeTop_13 (by first | decide | rfl) ?_
  refine W.widen (k := 1) (n := 6) (Nat.le_of_ble_eq_true rfl) (Nat.le_of_ble_eq_true rfl) ?_
  exact wr_iret hQ hx hb hr hlocks hP hD hS (hpost) dL_edgeTop_14
set_option maxHeartbeats 4000000 in
set_option maxRecDepth 100000 in
theorem v_edgeBottom (l : Launch) (hl9 : l.stackTraces = false) (D : va_G) (cs : Nat → ClassId) (z mi : Nat) (H : Heap) {tl : va_W} {ad : Nat → Nat} {bank rnds cnt mcn : Int32} {N n cap : Nat} {su fa pu : Nat → Int32} {rf : Nat → Option Nat} {wa : Nat → Nat} {wf : Nat → Nat → Int32} {kd : Nat → Nat} (hRX : ∀ H9 : Heap, va_P D vwCl tl H9 → RX D cs H9 ad bank rnds cnt mcn N n cap su fa pu rf wa wf kd) {oo : Nat} (o : Int32) (ho : o < 0 ∨ ¬ o < nI n) (post : Option Value → va_W → Prop) (hpost : post (some (.int 1)) (tl)) (hP : va_P D vwCl (tl) H) (hD : va_D (fun _ => True) (tl)) : Wh z mi l D cs 10 1 6 yL_edgeBottom cL_edgeBottom 4 (some .int) [(0, 9, 12, 21)] (tl) H [.ref (ad 0), .int o, .ref oo] post := by
  refine wh_ent (by decide) (Nat.le_of_ble_eq_true rfl) hP hD ?_
  clear hP hD H
  intro p e s m below meth c ls A Q H hx hb hr hml hown hts hlocks hl hK hQ hA hH hT hR htab hP hD hS
  clear hH
  have hl : lv_has ls 4 [(0, .ref (ad 0)), (1, .int o), (2, .ref oo)] := hl
  have RR0 := hRX H hP
  refine lv_aload_n hx hb dL_edgeBottom_0 rfl (lv_at hl 2 rfl) ?_
  refine lv_iconst (v := 0) hx hb dL_edgeBottom_1 (by first | decide | rfl) ?_
  refine lv_aload_n hx hb dL_edgeBottom_2 rfl (lv_at hl 0 rfl) ?_
  refine lv_iload_n hx hb dL_edgeBottom_3 rfl (lv_at hl 1 rfl) ?_
  refine wh_catchV (As := [.int o]) (rest := [.int 0, .ref oo]) (b := ad 0) ⟨hx, hb, hml, hown, hts⟩ hT hR hK 1 (t_edgeBottom l hl9 D cs z mi H RR0 o ho) (gin_v mw_23_19 mw_23_20 mw_23_21 mw_1_2 mw_23_22) (by decide +kernel) ⟨Nat.le_of_ble_eq_true rfl, Nat.le_of_ble_eq_true rfl⟩ (va_recv hK RR0.1 (ci := 3) (q0 := 0) rfl rfl) rfl hl.1 rfl (Nat.le_of_ble_eq_true rfl) dL_edgeBottom_4 ⟨Nat.le_of_ble_eq_true rfl, Nat.le_of_ble_eq_true rfl⟩ hP hD hS hA (fun qx9 ce9 H locs hP hD hS hc1 hc2 hc3 => ?_)
  refine vx_catch (E := xIOB) (name := xIOB) hown [] ⟨0, 9, 12, 21⟩ [] (htab.trans rfl) (fun z9 hz9 => absurd hz9 List.not_mem_nil) rfl (by decide) (hts (Cond.classLink RL 21 "java/lang/IndexOutOfBoundsException") mw_7_10) (cd_use hT.2.2.2.2.2.2.1 cd_IOB) hc1 hc2 hc3 ?_
  refine W.eq (g2 := F0 m 12 ls [.ref qx9]) rfl ?_
  refine lv_astore_n (lv' := [(3, .ref qx9), (0, .ref (ad 0)), (1, .int o), (2, .ref oo)]) hx hb dL_edgeBottom_12 rfl hl (by decide) rfl (fun ls hl => ?_)
  refine lv_iconst (v := 1) hx hb dL_edgeBottom_13 (by first | decide | rfl) ?_
  refine W.widen (k := 1) (n := 6) (Nat.le_of_ble_eq_true rfl) (Nat.le_of_ble_eq_true rfl) ?_
  exact wr_iret hQ hx hb hr hlocks hP hD hS (hpost) dL_edgeBottom_14
set_option maxHeartbeats 4000000 in
set_option maxRecDepth 100000 in
theorem v_purseOf (l : Launch) (hl9 : l.stackTraces = false) (D : va_G) (cs : Nat → ClassId) (z mi : Nat) (H : Heap) {tl : va_W} {ad : Nat → Nat} {bank rnds cnt mcn : Int32} {N n cap : Nat} {su fa pu : Nat → Int32} {rf : Nat → Option Nat} {wa : Nat → Nat} {wf : Nat → Nat → Int32} {kd : Nat → Nat} (hRX : ∀ H9 : Heap, va_P D vwCl tl H9 → RX D cs H9 ad bank rnds cnt mcn N n cap su fa pu rf wa wf kd) {oo : Nat} (o : Int32) (ho : o < 0 ∨ ¬ o < 6) (post : Option Value → va_W → Prop) (hpost : post (some (.int 1)) (tl)) (hP : va_P D vwCl (tl) H) (hD : va_D (fun _ => True) (tl)) : Wh z mi l D cs 10 1 6 yL_purseOf cL_purseOf 4 (some .int) [(0, 9, 12, 21)] (tl) H [.ref (ad 0), .int o, .ref oo] post := by
  refine wh_ent (by decide) (Nat.le_of_ble_eq_true rfl) hP hD ?_
  clear hP hD H
  intro p e s m below meth c ls A Q H hx hb hr hml hown hts hlocks hl hK hQ hA hH hT hR htab hP hD hS
  clear hH
  have hl : lv_has ls 4 [(0, .ref (ad 0)), (1, .int o), (2, .ref oo)] := hl
  have RR0 := hRX H hP
  refine lv_aload_n hx hb dL_purseOf_0 rfl (lv_at hl 2 rfl) ?_
  refine lv_iconst (v := 0) hx hb dL_purseOf_1 (by first | decide | rfl) ?_
  refine lv_aload_n hx hb dL_purseOf_2 rfl (lv_at hl 0 rfl) ?_
  refine lv_iload_n hx hb dL_purseOf_3 rfl (lv_at hl 1 rfl) ?_
  refine wh_catchV (As := [.int o]) (rest := [.int 0, .ref oo]) (b := ad 0) ⟨hx, hb, hml, hown, hts⟩ hT hR hK 1 (t_purseOf l hl9 D cs z mi H RR0 o ho) (gin_v mw_19_12 mw_19_13 mw_19_14 mw_1_2 mw_19_15) (by decide +kernel) ⟨Nat.le_of_ble_eq_true rfl, Nat.le_of_ble_eq_true rfl⟩ (va_recv hK RR0.1 (ci := 3) (q0 := 0) rfl rfl) rfl hl.1 rfl (Nat.le_of_ble_eq_true rfl) dL_purseOf_4 ⟨Nat.le_of_ble_eq_true rfl, Nat.le_of_ble_eq_true rfl⟩ hP hD hS hA (fun qx9 ce9 H locs hP hD hS hc1 hc2 hc3 => ?_)
  refine vx_catch (E := xIOB) (name := xIOB) hown [] ⟨0, 9, 12, 21⟩ [] (htab.trans rfl) (fun z9 hz9 => absurd hz9 List.not_mem_nil) rfl (by decide) (hts (Cond.classLink RL 21 "java/lang/IndexOutOfBoundsException") mw_7_10) (cd_use hT.2.2.2.2.2.2.1 cd_IOB) hc1 hc2 hc3 ?_
  refine W.eq (g2 := F0 m 12 ls [.ref qx9]) rfl ?_
  refine lv_astore_n (lv' := [(3, .ref qx9), (0, .ref (ad 0)), (1, .int o), (2, .ref oo)]) hx hb dL_purseOf_12 rfl hl (by decide) rfl (fun ls hl => ?_)
  refine lv_iconst (v := 1) hx hb dL_purseOf_13 (by first | decide | rfl) ?_
  refine W.widen (k := 1) (n := 6) (Nat.le_of_ble_eq_true rfl) (Nat.le_of_ble_eq_true rfl) ?_
  exact wr_iret hQ hx hb hr hlocks hP hD hS (hpost) dL_purseOf_14
set_option maxHeartbeats 4000000 in
set_option maxRecDepth 100000 in
theorem v_leastPurse (l : Launch) (hl9 : l.stackTraces = false) (D : va_G) (cs : Nat → ClassId) (z mi : Nat) (H : Heap) {tl : va_W} {ad : Nat → Nat} {bank rnds cnt mcn : Int32} {N n cap : Nat} {su fa pu : Nat → Int32} {rf : Nat → Option Nat} {wa : Nat → Nat} {wf : Nat → Nat → Int32} {kd : Nat → Nat} (hRX : ∀ H9 : Heap, va_P D vwCl tl H9 → RX D cs H9 ad bank rnds cnt mcn N n cap su fa pu rf wa wf kd) {oo : Nat} (o : Int32) (ho : o < 0 ∨ ¬ o < 6) (post : Option Value → va_W → Prop) (hpost : post (some (.int 1)) (tl)) (hP : va_P D vwCl (tl) H) (hD : va_D (fun _ => True) (tl)) : Wh z mi l D cs 10 1 6 yL_leastPurse cL_leastPurse 4 (some .int) [(0, 9, 12, 21)] (tl) H [.ref (ad 0), .int o, .ref oo] post := by
  refine wh_ent (by decide) (Nat.le_of_ble_eq_true rfl) hP hD ?_
  clear hP hD H
  intro p e s m below meth c ls A Q H hx hb hr hml hown hts hlocks hl hK hQ hA hH hT hR htab hP hD hS
  clear hH
  have hl : lv_has ls 4 [(0, .ref (ad 0)), (1, .int o), (2, .ref oo)] := hl
  have RR0 := hRX H hP
  refine lv_aload_n hx hb dL_leastPurse_0 rfl (lv_at hl 2 rfl) ?_
  refine lv_iconst (v := 0) hx hb dL_leastPurse_1 (by first | decide | rfl) ?_
  refine lv_aload_n hx hb dL_leastPurse_2 rfl (lv_at hl 0 rfl) ?_
  refine lv_iload_n hx hb dL_leastPurse_3 rfl (lv_at hl 1 rfl) ?_
  refine wh_catchV (As := [.int o]) (rest := [.int 0, .ref oo]) (b := ad 0) ⟨hx, hb, hml, hown, hts⟩ hT hR hK 1 (t_leastPurse l hl9 D cs z mi H RR0 o ho) (gin_v mw_28_1 mw_28_2 mw_28_3 mw_1_2 mw_28_4) (by decide +kernel) ⟨Nat.le_of_ble_eq_true rfl, Nat.le_of_ble_eq_true rfl⟩ (va_recv hK RR0.1 (ci := 3) (q0 := 0) rfl rfl) rfl hl.1 rfl (Nat.le_of_ble_eq_true rfl) dL_leastPurse_4 ⟨Nat.le_of_ble_eq_true rfl, Nat.le_of_ble_eq_true rfl⟩ hP hD hS hA (fun qx9 ce9 H locs hP hD hS hc1 hc2 hc3 => ?_)
  refine vx_catch (E := xIOB) (name := xIOB) hown [] ⟨0, 9, 12, 21⟩ [] (htab.trans rfl) (fun z9 hz9 => absurd hz9 List.not_mem_nil) rfl (by decide) (hts (Cond.classLink RL 21 "java/lang/IndexOutOfBoundsException") mw_7_10) (cd_use hT.2.2.2.2.2.2.1 cd_IOB) hc1 hc2 hc3 ?_
  refine W.eq (g2 := F0 m 12 ls [.ref qx9]) rfl ?_
  refine lv_astore_n (lv' := [(3, .ref qx9), (0, .ref (ad 0)), (1, .int o), (2, .ref oo)]) hx hb dL_leastPurse_12 rfl hl (by decide) rfl (fun ls hl => ?_)
  refine lv_iconst (v := 1) hx hb dL_leastPurse_13 (by first | decide | rfl) ?_
  refine W.widen (k := 1) (n := 6) (Nat.le_of_ble_eq_true rfl) (Nat.le_of_ble_eq_true rfl) ?_
  exact wr_iret hQ hx hb hr hlocks hP hD hS (hpost) dL_leastPurse_14
set_option maxHeartbeats 4000000 in
set_option maxRecDepth 100000 in
theorem v_isHedged (l : Launch) (hl9 : l.stackTraces = false) (D : va_G) (cs : Nat → ClassId) (z mi : Nat) (H : Heap) {tl : va_W} {ad : Nat → Nat} {bank rnds cnt mcn : Int32} {N n cap : Nat} {su fa pu : Nat → Int32} {rf : Nat → Option Nat} {wa : Nat → Nat} {wf : Nat → Nat → Int32} {kd : Nat → Nat} (hRX : ∀ H9 : Heap, va_P D vwCl tl H9 → RX D cs H9 ad bank rnds cnt mcn N n cap su fa pu rf wa wf kd) {oo : Nat} (o : Int32) (ho : o < 0 ∨ ¬ o < 6) (post : Option Value → va_W → Prop) (hpost : post (some (.int 1)) (tl)) (hP : va_P D vwCl (tl) H) (hD : va_D (fun _ => True) (tl)) : Wh z mi l D cs 10 1 6 yL_isHedged cL_isHedged 4 (some .int) [(0, 16, 19, 21)] (tl) H [.ref (ad 0), .int o, .ref oo] post := by
  refine wh_ent (by decide) (Nat.le_of_ble_eq_true rfl) hP hD ?_
  clear hP hD H
  intro p e s m below meth c ls A Q H hx hb hr hml hown hts hlocks hl hK hQ hA hH hT hR htab hP hD hS
  clear hH
  have hl : lv_has ls 4 [(0, .ref (ad 0)), (1, .int o), (2, .ref oo)] := hl
  have RR0 := hRX H hP
  refine lv_aload_n hx hb dL_isHedged_0 rfl (lv_at hl 2 rfl) ?_
  refine lv_iconst (v := 0) hx hb dL_isHedged_1 (by first | decide | rfl) ?_
  refine lv_aload_n hx hb dL_isHedged_2 rfl (lv_at hl 0 rfl) ?_
  refine lv_iload_n hx hb dL_isHedged_3 rfl (lv_at hl 1 rfl) ?_
  refine wh_catchV (As := [.int o]) (rest := [.int 0, .ref oo]) (b := ad 0) ⟨hx, hb, hml, hown, hts⟩ hT hR hK 1 (t_isHedged l hl9 D cs z mi H RR0 o ho) (gin_v mw_28_17 mw_28_18 mw_28_19 mw_1_2 mw_28_20) (by decide +kernel) ⟨Nat.le_of_ble_eq_true rfl, Nat.le_of_ble_eq_true rfl⟩ (va_recv hK RR0.1 (ci := 3) (q0 := 0) rfl rfl) rfl hl.1 rfl (Nat.le_of_ble_eq_true rfl) dL_isHedged_4 ⟨Nat.le_of_ble_eq_true rfl, Nat.le_of_ble_eq_true rfl⟩ hP hD hS hA (fun qx9 ce9 H locs hP hD hS hc1 hc2 hc3 => ?_)
  refine vx_catch (E := xIOB) (name := xIOB) hown [] ⟨0, 16, 19, 21⟩ [] (htab.trans rfl) (fun z9 hz9 => absurd hz9 List.not_mem_nil) rfl (by decide) (hts (Cond.classLink RL 21 "java/lang/IndexOutOfBoundsException") mw_7_10) (cd_use hT.2.2.2.2.2.2.1 cd_IOB) hc1 hc2 hc3 ?_
  refine W.eq (g2 := F0 m 19 ls [.ref qx9]) rfl ?_
  refine lv_astore_n (lv' := [(3, .ref qx9), (0, .ref (ad 0)), (1, .int o), (2, .ref oo)]) hx hb dL_isHedged_19 rfl hl (by decide) rfl (fun ls hl => ?_)
  refine lv_iconst (v := 1) hx hb dL_isHedged_20 (by first | decide | rfl) ?_
  refine W.widen (k := 1) (n := 6) (Nat.le_of_ble_eq_true rfl) (Nat.le_of_ble_eq_true rfl) ?_
  exact wr_iret hQ hx hb hr hlocks hP hD hS (hpost) dL_isHedged_21
set_option maxHeartbeats 4000000 in
set_option maxRecDepth 100000 in
theorem v_ways (l : Launch) (hl9 : l.stackTraces = false) (D : va_G) (cs : Nat → ClassId) (z mi : Nat) (H : Heap) {tl : va_W} {ad : Nat → Nat} {bank rnds cnt mcn : Int32} {N n cap : Nat} {su fa pu : Nat → Int32} {rf : Nat → Option Nat} {wa : Nat → Nat} {wf : Nat → Nat → Int32} {kd : Nat → Nat} (hRX : ∀ H9 : Heap, va_P D vwCl tl H9 → RX D cs H9 ad bank rnds cnt mcn N n cap su fa pu rf wa wf kd) {oo : Nat} (k q : Int32) (ho : k < 0 ∨ 10 ≤ k ∨ q < 0 ∨ ¬ q ≤ 36) (post : Option Value → va_W → Prop) (hpost : post (some (.int 1)) (tl)) (hP : va_P D vwCl (tl) H) (hD : va_D (fun _ => True) (tl)) : Wh z mi l D cs 10 1 6 yL_ways cL_ways 5 (some .int) [(0, 10, 13, 13)] (tl) H [.ref (ad 0), .int k, .int q, .ref oo] post := by
  refine wh_ent (by decide) (Nat.le_of_ble_eq_true rfl) hP hD ?_
  clear hP hD H
  intro p e s m below meth c ls A Q H hx hb hr hml hown hts hlocks hl hK hQ hA hH hT hR htab hP hD hS
  clear hH
  have hl : lv_has ls 5 [(0, .ref (ad 0)), (1, .int k), (2, .int q), (3, .ref oo)] := hl
  have RR0 := hRX H hP
  refine lv_aload_n hx hb dL_ways_0 rfl (lv_at hl 3 rfl) ?_
  refine lv_iconst (v := 0) hx hb dL_ways_1 (by first | decide | rfl) ?_
  refine lv_aload_n hx hb dL_ways_2 rfl (lv_at hl 0 rfl) ?_
  refine lv_iload_n hx hb dL_ways_3 rfl (lv_at hl 1 rfl) ?_
  refine lv_iload_n hx hb dL_ways_4 rfl (lv_at hl 2 rfl) ?_
  refine wh_catchV (As := [.int k, .int q]) (rest := [.int 0, .ref oo]) (b := ad 0) ⟨hx, hb, hml, hown, hts⟩ hT hR hK 2 (t_ways l hl9 D cs z mi H RR0 k q ho) (gin_v mw_8_17 mw_8_18 mw_8_19 mw_1_2 mw_8_20) (by decide +kernel) ⟨Nat.le_of_ble_eq_true rfl, Nat.le_of_ble_eq_true rfl⟩ (va_recv hK RR0.1 (ci := 3) (q0 := 0) rfl rfl) rfl hl.1 rfl (Nat.le_of_ble_eq_true rfl) dL_ways_5 ⟨Nat.le_of_ble_eq_true rfl, Nat.le_of_ble_eq_true rfl⟩ hP hD hS hA (fun qx9 ce9 H locs hP hD hS hc1 hc2 hc3 => ?_)
  refine vx_catch (E := xIAE) (name := xIAE) hown [] ⟨0, 10, 13, 13⟩ [] (htab.trans rfl) (fun z9 hz9 => absurd hz9 List.not_mem_nil) rfl (by decide) (hts (Cond.classLink RL 13 "java/lang/IllegalArgumentException") mw_4_12) (cd_use hT.2.2.2.2.2.2.1 cd_IAE) hc1 hc2 hc3 ?_
  refine W.eq (g2 := F0 m 13 ls [.ref qx9]) rfl ?_
  refine lv_astore (lv' := [(4, .ref qx9), (0, .ref (ad 0)), (1, .int k), (2, .int q), (3, .ref oo)]) hx hb dL_ways_13 hl (by decide) rfl (fun ls hl => ?_)
  refine lv_iconst (v := 1) hx hb dL_ways_15 (by first | decide | rfl) ?_
  refine W.widen (k := 1) (n := 6) (Nat.le_of_ble_eq_true rfl) (Nat.le_of_ble_eq_true rfl) ?_
  exact wr_iret hQ hx hb hr hlocks hP hD hS (hpost) dL_ways_16
set_option maxHeartbeats 4000000 in
set_option maxRecDepth 100000 in
theorem v_chance (l : Launch) (hl9 : l.stackTraces = false) (D : va_G) (cs : Nat → ClassId) (z mi : Nat) (H : Heap) {tl : va_W} {ad : Nat → Nat} {bank rnds cnt mcn : Int32} {N n cap : Nat} {su fa pu : Nat → Int32} {rf : Nat → Option Nat} {wa : Nat → Nat} {wf : Nat → Nat → Int32} {kd : Nat → Nat} (hRX : ∀ H9 : Heap, va_P D vwCl tl H9 → RX D cs H9 ad bank rnds cnt mcn N n cap su fa pu rf wa wf kd) {oo : Nat} (k q : Int32) (ho : k < 0 ∨ 10 ≤ k ∨ q < 0 ∨ ¬ q ≤ 36) (post : Option Value → va_W → Prop) (hpost : post (some (.int 1)) (tl)) (hP : va_P D vwCl (tl) H) (hD : va_D (fun _ => True) (tl)) : Wh z mi l D cs 10 1 6 yL_chance cL_chance 5 (some .int) [(0, 9, 12, 13)] (tl) H [.ref (ad 0), .int k, .int q, .ref oo] post := by
  refine wh_ent (by decide) (Nat.le_of_ble_eq_true rfl) hP hD ?_
  clear hP hD H
  intro p e s m below meth c ls A Q H hx hb hr hml hown hts hlocks hl hK hQ hA hH hT hR htab hP hD hS
  clear hH
  have hl : lv_has ls 5 [(0, .ref (ad 0)), (1, .int k), (2, .int q), (3, .ref oo)] := hl
  have RR0 := hRX H hP
  refine lv_aload_n hx hb dL_chance_0 rfl (lv_at hl 3 rfl) ?_
  refine lv_iconst (v := 0) hx hb dL_chance_1 (by first | decide | rfl) ?_
  refine lv_aload_n hx hb dL_chance_2 rfl (lv_at hl 0 rfl) ?_
  refine lv_iload_n hx hb dL_chance_3 rfl (lv_at hl 1 rfl) ?_
  refine lv_iload_n hx hb dL_chance_4 rfl (lv_at hl 2 rfl) ?_
  refine wh_catchV (As := [.int k, .int q]) (rest := [.int 0, .ref oo]) (b := ad 0) ⟨hx, hb, hml, hown, hts⟩ hT hR hK 2 (t_chance l hl9 D cs z mi H RR0 k q ho) (gin_v mw_10_18 mw_10_19 mw_10_20 mw_1_2 mw_10_21) (by decide +kernel) ⟨Nat.le_of_ble_eq_true rfl, Nat.le_of_ble_eq_true rfl⟩ (va_recv hK RR0.1 (ci := 3) (q0 := 0) rfl rfl) rfl hl.1 rfl (Nat.le_of_ble_eq_true rfl) dL_chance_5 ⟨Nat.le_of_ble_eq_true rfl, Nat.le_of_ble_eq_true rfl⟩ hP hD hS hA (fun qx9 ce9 H locs hP hD hS hc1 hc2 hc3 => ?_)
  refine vx_catch (E := xIAE) (name := xIAE) hown [] ⟨0, 9, 12, 13⟩ [] (htab.trans rfl) (fun z9 hz9 => absurd hz9 List.not_mem_nil) rfl (by decide) (hts (Cond.classLink RL 13 "java/lang/IllegalArgumentException") mw_4_12) (cd_use hT.2.2.2.2.2.2.1 cd_IAE) hc1 hc2 hc3 ?_
  refine W.eq (g2 := F0 m 12 ls [.ref qx9]) rfl ?_
  refine lv_astore (lv' := [(4, .ref qx9), (0, .ref (ad 0)), (1, .int k), (2, .int q), (3, .ref oo)]) hx hb dL_chance_12 hl (by decide) rfl (fun ls hl => ?_)
  refine lv_iconst (v := 1) hx hb dL_chance_14 (by first | decide | rfl) ?_
  refine W.widen (k := 1) (n := 6) (Nat.le_of_ble_eq_true rfl) (Nat.le_of_ble_eq_true rfl) ?_
  exact wr_iret hQ hx hb hr hlocks hP hD hS (hpost) dL_chance_15
set_option maxHeartbeats 4000000 in
set_option maxRecDepth 100000 in
theorem v_purseAt1 (l : Launch) (hl9 : l.stackTraces = false) (D : va_G) (cs : Nat → ClassId) (z mi : Nat) (H : Heap) {tl : va_W} {ad : Nat → Nat} {bank rnds cnt mcn : Int32} {N n cap : Nat} {su fa pu : Nat → Int32} {rf : Nat → Option Nat} {wa : Nat → Nat} {wf : Nat → Nat → Int32} {kd : Nat → Nat} (hRX : ∀ H9 : Heap, va_P D vwCl tl H9 → RX D cs H9 ad bank rnds cnt mcn N n cap su fa pu rf wa wf kd) {oo : Nat} (o : Int32) (ho : o < 0 ∨ ¬ o < 6) (w9 : Int32) (post : Option Value → va_W → Prop) (hpost : post (some (.int 1)) (tl)) (hP : va_P D vwCl (tl) H) (hD : va_D (fun _ => True) (tl)) : Wh z mi l D cs 10 1 6 yL_purseAt cL_purseAt 5 (some .int) [(0, 10, 13, 21)] (tl) H [.ref (ad 0), .int o, .int w9, .ref oo] post := by
  refine wh_ent (by decide) (Nat.le_of_ble_eq_true rfl) hP hD ?_
  clear hP hD H
  intro p e s m below meth c ls A Q H hx hb hr hml hown hts hlocks hl hK hQ hA hH hT hR htab hP hD hS
  clear hH
  have hl : lv_has ls 5 [(0, .ref (ad 0)), (1, .int o), (2, .int w9), (3, .ref oo)] := hl
  have RR0 := hRX H hP
  refine lv_aload_n hx hb dL_purseAt_0 rfl (lv_at hl 3 rfl) ?_
  refine lv_iconst (v := 0) hx hb dL_purseAt_1 (by first | decide | rfl) ?_
  refine lv_aload_n hx hb dL_purseAt_2 rfl (lv_at hl 0 rfl) ?_
  refine lv_iload_n hx hb dL_purseAt_3 rfl (lv_at hl 1 rfl) ?_
  refine lv_iload_n hx hb dL_purseAt_4 rfl (lv_at hl 2 rfl) ?_
  refine wh_catchV (As := [.int o, .int w9]) (rest := [.int 0, .ref oo]) (b := ad 0) ⟨hx, hb, hml, hown, hts⟩ hT hR hK 2 (t_purseAt1 l hl9 D cs z mi H RR0 o ho w9) (gin_v mw_27_10 mw_27_11 mw_27_12 mw_1_2 mw_27_13) (by decide +kernel) ⟨Nat.le_of_ble_eq_true rfl, Nat.le_of_ble_eq_true rfl⟩ (va_recv hK RR0.1 (ci := 3) (q0 := 0) rfl rfl) rfl hl.1 rfl (Nat.le_of_ble_eq_true rfl) dL_purseAt_5 ⟨Nat.le_of_ble_eq_true rfl, Nat.le_of_ble_eq_true rfl⟩ hP hD hS hA (fun qx9 ce9 H locs hP hD hS hc1 hc2 hc3 => ?_)
  refine vx_catch (E := xIOB) (name := xIOB) hown [] ⟨0, 10, 13, 21⟩ [] (htab.trans rfl) (fun z9 hz9 => absurd hz9 List.not_mem_nil) rfl (by decide) (hts (Cond.classLink RL 21 "java/lang/IndexOutOfBoundsException") mw_7_10) (cd_use hT.2.2.2.2.2.2.1 cd_IOB) hc1 hc2 hc3 ?_
  refine W.eq (g2 := F0 m 13 ls [.ref qx9]) rfl ?_
  refine lv_astore (lv' := [(4, .ref qx9), (0, .ref (ad 0)), (1, .int o), (2, .int w9), (3, .ref oo)]) hx hb dL_purseAt_13 hl (by decide) rfl (fun ls hl => ?_)
  refine lv_iconst (v := 1) hx hb dL_purseAt_15 (by first | decide | rfl) ?_
  refine W.widen (k := 1) (n := 6) (Nat.le_of_ble_eq_true rfl) (Nat.le_of_ble_eq_true rfl) ?_
  exact wr_iret hQ hx hb hr hlocks hP hD hS (hpost) dL_purseAt_16
set_option maxHeartbeats 4000000 in
set_option maxRecDepth 100000 in
theorem v_purseAt2 (l : Launch) (hl9 : l.stackTraces = false) (D : va_G) (cs : Nat → ClassId) (z mi : Nat) (H : Heap) {tl : va_W} {ad : Nat → Nat} {bank rnds cnt mcn : Int32} {N n cap : Nat} {su fa pu : Nat → Int32} {rf : Nat → Option Nat} {wa : Nat → Nat} {wf : Nat → Nat → Int32} {kd : Nat → Nat} (hRX : ∀ H9 : Heap, va_P D vwCl tl H9 → RX D cs H9 ad bank rnds cnt mcn N n cap su fa pu rf wa wf kd) {oo : Nat} (i : Nat) (hi : i < 6) (o : Int32) (ho : o < 0 ∨ ¬ o < nI N) (post : Option Value → va_W → Prop) (hpost : post (some (.int 1)) (tl)) (hP : va_P D vwCl (tl) H) (hD : va_D (fun _ => True) (tl)) : Wh z mi l D cs 10 1 6 yL_purseAt cL_purseAt 5 (some .int) [(0, 10, 13, 21)] (tl) H [.ref (ad 0), .int (nI i), .int o, .ref oo] post := by
  refine wh_ent (by decide) (Nat.le_of_ble_eq_true rfl) hP hD ?_
  clear hP hD H
  intro p e s m below meth c ls A Q H hx hb hr hml hown hts hlocks hl hK hQ hA hH hT hR htab hP hD hS
  clear hH
  have hl : lv_has ls 5 [(0, .ref (ad 0)), (1, .int (nI i)), (2, .int o), (3, .ref oo)] := hl
  have RR0 := hRX H hP
  refine lv_aload_n hx hb dL_purseAt_0 rfl (lv_at hl 3 rfl) ?_
  refine lv_iconst (v := 0) hx hb dL_purseAt_1 (by first | decide | rfl) ?_
  refine lv_aload_n hx hb dL_purseAt_2 rfl (lv_at hl 0 rfl) ?_
  refine lv_iload_n hx hb dL_purseAt_3 rfl (lv_at hl 1 rfl) ?_
  refine lv_iload_n hx hb dL_purseAt_4 rfl (lv_at hl 2 rfl) ?_
  refine wh_catchV (As := [.int (nI i), .int o]) (rest := [.int 0, .ref oo]) (b := ad 0) ⟨hx, hb, hml, hown, hts⟩ hT hR hK 2 (t_purseAt2 l hl9 D cs z mi H RR0 i hi o ho) (gin_v mw_27_10 mw_27_11 mw_27_12 mw_1_2 mw_27_13) (by decide +kernel) ⟨Nat.le_of_ble_eq_true rfl, Nat.le_of_ble_eq_true rfl⟩ (va_recv hK RR0.1 (ci := 3) (q0 := 0) rfl rfl) rfl hl.1 rfl (Nat.le_of_ble_eq_true rfl) dL_purseAt_5 ⟨Nat.le_of_ble_eq_true rfl, Nat.le_of_ble_eq_true rfl⟩ hP hD hS hA (fun qx9 ce9 H locs hP hD hS hc1 hc2 hc3 => ?_)
  refine vx_catch (E := xIOB) (name := xIOB) hown [] ⟨0, 10, 13, 21⟩ [] (htab.trans rfl) (fun z9 hz9 => absurd hz9 List.not_mem_nil) rfl (by decide) (hts (Cond.classLink RL 21 "java/lang/IndexOutOfBoundsException") mw_7_10) (cd_use hT.2.2.2.2.2.2.1 cd_IOB) hc1 hc2 hc3 ?_
  refine W.eq (g2 := F0 m 13 ls [.ref qx9]) rfl ?_
  refine lv_astore (lv' := [(4, .ref qx9), (0, .ref (ad 0)), (1, .int (nI i)), (2, .int o), (3, .ref oo)]) hx hb dL_purseAt_13 hl (by decide) rfl (fun ls hl => ?_)
  refine lv_iconst (v := 1) hx hb dL_purseAt_15 (by first | decide | rfl) ?_
  refine W.widen (k := 1) (n := 6) (Nat.le_of_ble_eq_true rfl) (Nat.le_of_ble_eq_true rfl) ?_
  exact wr_iret hQ hx hb hr hlocks hP hD hS (hpost) dL_purseAt_16
set_option maxHeartbeats 4000000 in
set_option maxRecDepth 100000 in
theorem v_hedgeFor1 (l : Launch) (hl9 : l.stackTraces = false) (D : va_G) (cs : Nat → ClassId) (z mi : Nat) (H : Heap) {tl : va_W} {ad : Nat → Nat} {bank rnds cnt mcn : Int32} {N n cap : Nat} {su fa pu : Nat → Int32} {rf : Nat → Option Nat} {wa : Nat → Nat} {wf : Nat → Nat → Int32} {kd : Nat → Nat} (hRX : ∀ H9 : Heap, va_P D vwCl tl H9 → RX D cs H9 ad bank rnds cnt mcn N n cap su fa pu rf wa wf kd) {oo : Nat} (o : Int32) (ho : o < 0 ∨ ¬ o < nI n) (w9 b9 : Int32) (post : Option Value → va_W → Prop) (hpost : post (some (.int 1)) (tl)) (hP : va_P D vwCl (tl) H) (hD : va_D (fun _ => True) (tl)) : Wh z mi l D cs 10 1 6 yL_hedgeFor cL_hedgeFor 6 (some .int) [(0, 12, 15, 21), (0, 12, 19, 13)] (tl) H [.ref (ad 0), .int o, .int w9, .int b9, .ref oo] post := by
  refine wh_ent (by decide) (Nat.le_of_ble_eq_true rfl) hP hD ?_
  clear hP hD H
  intro p e s m below meth c ls A Q H hx hb hr hml hown hts hlocks hl hK hQ hA hH hT hR htab hP hD hS
  clear hH
  have hl : lv_has ls 6 [(0, .ref (ad 0)), (1, .int o), (2, .int w9), (3, .int b9), (4, .ref oo)] := hl
  have RR0 := hRX H hP
  refine lv_aload hx hb dL_hedgeFor_0 (lv_at hl 4 rfl) ?_
  refine lv_iconst (v := 0) hx hb dL_hedgeFor_2 (by first | decide | rfl) ?_
  refine lv_aload_n hx hb dL_hedgeFor_3 rfl (lv_at hl 0 rfl) ?_
  refine lv_iload_n hx hb dL_hedgeFor_4 rfl (lv_at hl 1 rfl) ?_
  refine lv_iload_n hx hb dL_hedgeFor_5 rfl (lv_at hl 2 rfl) ?_
  refine lv_iload_n hx hb dL_hedgeFor_6 rfl (lv_at hl 3 rfl) ?_
  refine wh_catchV (As := [.int o, .int w9, .int b9]) (rest := [.int 0, .ref oo]) (b := ad 0) ⟨hx, hb, hml, hown, hts⟩ hT hR hK 3 (t_hedgeFor1 l hl9 D cs z mi H RR0 o ho w9 b9) (gin_v mw_29_8 mw_29_9 mw_29_10 mw_1_2 mw_29_11) (by decide +kernel) ⟨Nat.le_of_ble_eq_true rfl, Nat.le_of_ble_eq_true rfl⟩ (va_recv hK RR0.1 (ci := 3) (q0 := 0) rfl rfl) rfl hl.1 rfl (Nat.le_of_ble_eq_true rfl) dL_hedgeFor_7 ⟨Nat.le_of_ble_eq_true rfl, Nat.le_of_ble_eq_true rfl⟩ hP hD hS hA (fun qx9 ce9 H locs hP hD hS hc1 hc2 hc3 => ?_)
  refine vx_catch (E := xIOB) (name := xIOB) hown [] ⟨0, 12, 15, 21⟩ [⟨0, 12, 19, 13⟩] (htab.trans rfl) (fun z9 hz9 => absurd hz9 List.not_mem_nil) rfl (by decide) (hts (Cond.classLink RL 21 "java/lang/IndexOutOfBoundsException") mw_7_10) (cd_use hT.2.2.2.2.2.2.1 cd_IOB) hc1 hc2 hc3 ?_
  refine W.eq (g2 := F0 m 15 ls [.ref qx9]) rfl ?_
  refine lv_astore (lv' := [(5, .ref qx9), (0, .ref (ad 0)), (1, .int o), (2, .int w9), (3, .int b9), (4, .ref oo)]) hx hb dL_hedgeFor_15 hl (by decide) rfl (fun ls hl => ?_)
  refine lv_iconst (v := 1) hx hb dL_hedgeFor_17 (by first | decide | rfl) ?_
  refine W.widen (k := 1) (n := 6) (Nat.le_of_ble_eq_true rfl) (Nat.le_of_ble_eq_true rfl) ?_
  exact wr_iret hQ hx hb hr hlocks hP hD hS (hpost) dL_hedgeFor_18
set_option maxHeartbeats 4000000 in
set_option maxRecDepth 100000 in
theorem v_hedgeFor2 (l : Launch) (hl9 : l.stackTraces = false) (D : va_G) (cs : Nat → ClassId) (z mi : Nat) (H : Heap) {tl : va_W} {ad : Nat → Nat} {bank rnds cnt mcn : Int32} {N n cap : Nat} {su fa pu : Nat → Int32} {rf : Nat → Option Nat} {wa : Nat → Nat} {wf : Nat → Nat → Int32} {kd : Nat → Nat} (hRX : ∀ H9 : Heap, va_P D vwCl tl H9 → RX D cs H9 ad bank rnds cnt mcn N n cap su fa pu rf wa wf kd) {oo : Nat} (i : Nat) (hlt : i < n) (o b9 : Int32) (ho : o < 1 ∨ ¬ o ≤ 20) (post : Option Value → va_W → Prop) (hpost : post (some (.int 2)) (tl)) (hP : va_P D vwCl (tl) H) (hD : va_D (fun _ => True) (tl)) : Wh z mi l D cs 10 1 6 yL_hedgeFor cL_hedgeFor 6 (some .int) [(0, 12, 15, 21), (0, 12, 19, 13)] (tl) H [.ref (ad 0), .int (nI i), .int o, .int b9, .ref oo] post := by
  refine wh_ent (by decide) (Nat.le_of_ble_eq_true rfl) hP hD ?_
  clear hP hD H
  intro p e s m below meth c ls A Q H hx hb hr hml hown hts hlocks hl hK hQ hA hH hT hR htab hP hD hS
  clear hH
  have hl : lv_has ls 6 [(0, .ref (ad 0)), (1, .int (nI i)), (2, .int o), (3, .int b9), (4, .ref oo)] := hl
  have RR0 := hRX H hP
  refine lv_aload hx hb dL_hedgeFor_0 (lv_at hl 4 rfl) ?_
  refine lv_iconst (v := 0) hx hb dL_hedgeFor_2 (by first | decide | rfl) ?_
  refine lv_aload_n hx hb dL_hedgeFor_3 rfl (lv_at hl 0 rfl) ?_
  refine lv_iload_n hx hb dL_hedgeFor_4 rfl (lv_at hl 1 rfl) ?_
  refine lv_iload_n hx hb dL_hedgeFor_5 rfl (lv_at hl 2 rfl) ?_
  refine lv_iload_n hx hb dL_hedgeFor_6 rfl (lv_at hl 3 rfl) ?_
  refine wh_catchV (As := [.int (nI i), .int o, .int b9]) (rest := [.int 0, .ref oo]) (b := ad 0) ⟨hx, hb, hml, hown, hts⟩ hT hR hK 3 (t_hedgeFor2 l hl9 D cs z mi H RR0 i hlt o b9 ho) (gin_v mw_29_8 mw_29_9 mw_29_10 mw_1_2 mw_29_11) (by decide +kernel) ⟨Nat.le_of_ble_eq_true rfl, Nat.le_of_ble_eq_true rfl⟩ (va_recv hK RR0.1 (ci := 3) (q0 := 0) rfl rfl) rfl hl.1 rfl (Nat.le_of_ble_eq_true rfl) dL_hedgeFor_7 ⟨Nat.le_of_ble_eq_true rfl, Nat.le_of_ble_eq_true rfl⟩ hP hD hS hA (fun qx9 ce9 H locs hP hD hS hc1 hc2 hc3 => ?_)
  refine vx_catch (E := xIAE) (name := xIAE) hown [⟨0, 12, 15, 21⟩] ⟨0, 12, 19, 13⟩ [] (htab.trans rfl) (fun z9 hz9 => by rw [List.mem_singleton.mp hz9]; exact Or.inr ⟨by decide, xIOB, (hts (Cond.classLink RL 21 "java/lang/IndexOutOfBoundsException") mw_7_10), cn_nc hT.2.2.2.2.2.2.2 (by decide +kernel)⟩) rfl (by decide) (hts (Cond.classLink RL 13 "java/lang/IllegalArgumentException") mw_4_12) (cd_use hT.2.2.2.2.2.2.1 cd_IAE) hc1 hc2 hc3 ?_
  refine W.eq (g2 := F0 m 19 ls [.ref qx9]) rfl ?_
  refine lv_astore (lv' := [(5, .ref qx9), (0, .ref (ad 0)), (1, .int (nI i)), (2, .int o), (3, .int b9), (4, .ref oo)]) hx hb dL_hedgeFor_19 hl (by decide) rfl (fun ls hl => ?_)
  refine lv_iconst (v := 2) hx hb dL_hedgeFor_21 (by first | decide | rfl) ?_
  refine W.widen (k := 1) (n := 6) (Nat.le_of_ble_eq_true rfl) (Nat.le_of_ble_eq_true rfl) ?_
  exact wr_iret hQ hx hb hr hlocks hP hD hS (hpost) dL_hedgeFor_22
set_option maxHeartbeats 4000000 in
set_option maxRecDepth 100000 in
theorem v_hedgeFor3 (l : Launch) (hl9 : l.stackTraces = false) (D : va_G) (cs : Nat → ClassId) (z mi : Nat) (H : Heap) {tl : va_W} {ad : Nat → Nat} {bank rnds cnt mcn : Int32} {N n cap : Nat} {su fa pu : Nat → Int32} {rf : Nat → Option Nat} {wa : Nat → Nat} {wf : Nat → Nat → Int32} {kd : Nat → Nat} (hRX : ∀ H9 : Heap, va_P D vwCl tl H9 → RX D cs H9 ad bank rnds cnt mcn N n cap su fa pu rf wa wf kd) {oo : Nat} (i : Nat) (hlt : i < n) (w9 o : Int32) (h1 : ¬ w9 < 1) (h2 : w9 ≤ 20) (ho : o < 1 ∨ ¬ o ≤ 10) (post : Option Value → va_W → Prop) (hpost : post (some (.int 2)) (tl)) (hP : va_P D vwCl (tl) H) (hD : va_D (fun _ => True) (tl)) : Wh z mi l D cs 10 1 6 yL_hedgeFor cL_hedgeFor 6 (some .int) [(0, 12, 15, 21), (0, 12, 19, 13)] (tl) H [.ref (ad 0), .int (nI i), .int w9, .int o, .ref oo] post := by
  refine wh_ent (by decide) (Nat.le_of_ble_eq_true rfl) hP hD ?_
  clear hP hD H
  intro p e s m below meth c ls A Q H hx hb hr hml hown hts hlocks hl hK hQ hA hH hT hR htab hP hD hS
  clear hH
  have hl : lv_has ls 6 [(0, .ref (ad 0)), (1, .int (nI i)), (2, .int w9), (3, .int o), (4, .ref oo)] := hl
  have RR0 := hRX H hP
  refine lv_aload hx hb dL_hedgeFor_0 (lv_at hl 4 rfl) ?_
  refine lv_iconst (v := 0) hx hb dL_hedgeFor_2 (by first | decide | rfl) ?_
  refine lv_aload_n hx hb dL_hedgeFor_3 rfl (lv_at hl 0 rfl) ?_
  refine lv_iload_n hx hb dL_hedgeFor_4 rfl (lv_at hl 1 rfl) ?_
  refine lv_iload_n hx hb dL_hedgeFor_5 rfl (lv_at hl 2 rfl) ?_
  refine lv_iload_n hx hb dL_hedgeFor_6 rfl (lv_at hl 3 rfl) ?_
  refine wh_catchV (As := [.int (nI i), .int w9, .int o]) (rest := [.int 0, .ref oo]) (b := ad 0) ⟨hx, hb, hml, hown, hts⟩ hT hR hK 3 (t_hedgeFor3 l hl9 D cs z mi H RR0 i hlt w9 o h1 h2 ho) (gin_v mw_29_8 mw_29_9 mw_29_10 mw_1_2 mw_29_11) (by decide +kernel) ⟨Nat.le_of_ble_eq_true rfl, Nat.le_of_ble_eq_true rfl⟩ (va_recv hK RR0.1 (ci := 3) (q0 := 0) rfl rfl) rfl hl.1 rfl (Nat.le_of_ble_eq_true rfl) dL_hedgeFor_7 ⟨Nat.le_of_ble_eq_true rfl, Nat.le_of_ble_eq_true rfl⟩ hP hD hS hA (fun qx9 ce9 H locs hP hD hS hc1 hc2 hc3 => ?_)
  refine vx_catch (E := xIAE) (name := xIAE) hown [⟨0, 12, 15, 21⟩] ⟨0, 12, 19, 13⟩ [] (htab.trans rfl) (fun z9 hz9 => by rw [List.mem_singleton.mp hz9]; exact Or.inr ⟨by decide, xIOB, (hts (Cond.classLink RL 21 "java/lang/IndexOutOfBoundsException") mw_7_10), cn_nc hT.2.2.2.2.2.2.2 (by decide +kernel)⟩) rfl (by decide) (hts (Cond.classLink RL 13 "java/lang/IllegalArgumentException") mw_4_12) (cd_use hT.2.2.2.2.2.2.1 cd_IAE) hc1 hc2 hc3 ?_
  refine W.eq (g2 := F0 m 19 ls [.ref qx9]) rfl ?_
  refine lv_astore (lv' := [(5, .ref qx9), (0, .ref (ad 0)), (1, .int (nI i)), (2, .int w9), (3, .int o), (4, .ref oo)]) hx hb dL_hedgeFor_19 hl (by decide) rfl (fun ls hl => ?_)
  refine lv_iconst (v := 2) hx hb dL_hedgeFor_21 (by first | decide | rfl) ?_
  refine W.widen (k := 1) (n := 6) (Nat.le_of_ble_eq_true rfl) (Nat.le_of_ble_eq_true rfl) ?_
  exact wr_iret hQ hx hb hr hlocks hP hD hS (hpost) dL_hedgeFor_22
set_option maxHeartbeats 4000000 in
set_option maxRecDepth 100000 in
theorem v_fairWin1 (l : Launch) (hl9 : l.stackTraces = false) (D : va_G) (cs : Nat → ClassId) (z mi : Nat) (H : Heap) {tl : va_W} {ad : Nat → Nat} {bank rnds cnt mcn : Int32} {N n cap : Nat} {su fa pu : Nat → Int32} {rf : Nat → Option Nat} {wa : Nat → Nat} {wf : Nat → Nat → Int32} {kd : Nat → Nat} (hRX : ∀ H9 : Heap, va_P D vwCl tl H9 → RX D cs H9 ad bank rnds cnt mcn N n cap su fa pu rf wa wf kd) {oo : Nat} (k q : Int32) (ho : k < 0 ∨ 10 ≤ k ∨ q < 0 ∨ ¬ q ≤ 36) (b9 : Int32) (post : Option Value → va_W → Prop) (hpost : post (some (.int 1)) (tl)) (hP : va_P D vwCl (tl) H) (hD : va_D (fun _ => True) (tl)) : Wh z mi l D cs 10 1 6 yL_fairWin cL_fairWin 6 (some .int) [(0, 12, 15, 13)] (tl) H [.ref (ad 0), .int k, .int q, .int b9, .ref oo] post := by
  refine wh_ent (by decide) (Nat.le_of_ble_eq_true rfl) hP hD ?_
  clear hP hD H
  intro p e s m below meth c ls A Q H hx hb hr hml hown hts hlocks hl hK hQ hA hH hT hR htab hP hD hS
  clear hH
  have hl : lv_has ls 6 [(0, .ref (ad 0)), (1, .int k), (2, .int q), (3, .int b9), (4, .ref oo)] := hl
  have RR0 := hRX H hP
  refine lv_aload hx hb dL_fairWin_0 (lv_at hl 4 rfl) ?_
  refine lv_iconst (v := 0) hx hb dL_fairWin_2 (by first | decide | rfl) ?_
  refine lv_aload_n hx hb dL_fairWin_3 rfl (lv_at hl 0 rfl) ?_
  refine lv_iload_n hx hb dL_fairWin_4 rfl (lv_at hl 1 rfl) ?_
  refine lv_iload_n hx hb dL_fairWin_5 rfl (lv_at hl 2 rfl) ?_
  refine lv_iload_n hx hb dL_fairWin_6 rfl (lv_at hl 3 rfl) ?_
  refine wh_catchV (As := [.int k, .int q, .int b9]) (rest := [.int 0, .ref oo]) (b := ad 0) ⟨hx, hb, hml, hown, hts⟩ hT hR hK 3 (t_fairWin1 l hl9 D cs z mi H RR0 k q ho b9) (gin_v mw_29_23 mw_30_0 mw_30_1 mw_1_2 mw_30_2) (by decide +kernel) ⟨Nat.le_of_ble_eq_true rfl, Nat.le_of_ble_eq_true rfl⟩ (va_recv hK RR0.1 (ci := 3) (q0 := 0) rfl rfl) rfl hl.1 rfl (Nat.le_of_ble_eq_true rfl) dL_fairWin_7 ⟨Nat.le_of_ble_eq_true rfl, Nat.le_of_ble_eq_true rfl⟩ hP hD hS hA (fun qx9 ce9 H locs hP hD hS hc1 hc2 hc3 => ?_)
  refine vx_catch (E := xIAE) (name := xIAE) hown [] ⟨0, 12, 15, 13⟩ [] (htab.trans rfl) (fun z9 hz9 => absurd hz9 List.not_mem_nil) rfl (by decide) (hts (Cond.classLink RL 13 "java/lang/IllegalArgumentException") mw_4_12) (cd_use hT.2.2.2.2.2.2.1 cd_IAE) hc1 hc2 hc3 ?_
  refine W.eq (g2 := F0 m 15 ls [.ref qx9]) rfl ?_
  refine lv_astore (lv' := [(5, .ref qx9), (0, .ref (ad 0)), (1, .int k), (2, .int q), (3, .int b9), (4, .ref oo)]) hx hb dL_fairWin_15 hl (by decide) rfl (fun ls hl => ?_)
  refine lv_iconst (v := 1) hx hb dL_fairWin_17 (by first | decide | rfl) ?_
  refine W.widen (k := 1) (n := 6) (Nat.le_of_ble_eq_true rfl) (Nat.le_of_ble_eq_true rfl) ?_
  exact wr_iret hQ hx hb hr hlocks hP hD hS (hpost) dL_fairWin_18
set_option maxHeartbeats 4000000 in
set_option maxRecDepth 100000 in
theorem v_fairWin2 (l : Launch) (hl9 : l.stackTraces = false) (D : va_G) (cs : Nat → ClassId) (z mi : Nat) (H : Heap) {tl : va_W} {ad : Nat → Nat} {bank rnds cnt mcn : Int32} {N n cap : Nat} {su fa pu : Nat → Int32} {rf : Nat → Option Nat} {wa : Nat → Nat} {wf : Nat → Nat → Int32} {kd : Nat → Nat} (hRX : ∀ H9 : Heap, va_P D vwCl tl H9 → RX D cs H9 ad bank rnds cnt mcn N n cap su fa pu rf wa wf kd) {oo : Nat} (k9 q9 : Nat) (hk : k9 < 10) (hq : q9 ≤ 36) (o : Int32) (ho : o < 1 ∨ ¬ o ≤ 10) (post : Option Value → va_W → Prop) (hpost : post (some (.int 1)) (tl)) (hP : va_P D vwCl (tl) H) (hD : va_D (fun _ => True) (tl)) : Wh z mi l D cs 10 1 6 yL_fairWin cL_fairWin 6 (some .int) [(0, 12, 15, 13)] (tl) H [.ref (ad 0), .int (nI k9), .int (nI q9), .int o, .ref oo] post := by
  refine wh_ent (by decide) (Nat.le_of_ble_eq_true rfl) hP hD ?_
  clear hP hD H
  intro p e s m below meth c ls A Q H hx hb hr hml hown hts hlocks hl hK hQ hA hH hT hR htab hP hD hS
  clear hH
  have hl : lv_has ls 6 [(0, .ref (ad 0)), (1, .int (nI k9)), (2, .int (nI q9)), (3, .int o), (4, .ref oo)] := hl
  have RR0 := hRX H hP
  refine lv_aload hx hb dL_fairWin_0 (lv_at hl 4 rfl) ?_
  refine lv_iconst (v := 0) hx hb dL_fairWin_2 (by first | decide | rfl) ?_
  refine lv_aload_n hx hb dL_fairWin_3 rfl (lv_at hl 0 rfl) ?_
  refine lv_iload_n hx hb dL_fairWin_4 rfl (lv_at hl 1 rfl) ?_
  refine lv_iload_n hx hb dL_fairWin_5 rfl (lv_at hl 2 rfl) ?_
  refine lv_iload_n hx hb dL_fairWin_6 rfl (lv_at hl 3 rfl) ?_
  refine wh_catchV (As := [.int (nI k9), .int (nI q9), .int o]) (rest := [.int 0, .ref oo]) (b := ad 0) ⟨hx, hb, hml, hown, hts⟩ hT hR hK 3 (t_fairWin2 l hl9 D cs z mi H RR0 k9 q9 hk hq o ho) (gin_v mw_29_23 mw_30_0 mw_30_1 mw_1_2 mw_30_2) (by decide +kernel) ⟨Nat.le_of_ble_eq_true rfl, Nat.le_of_ble_eq_true rfl⟩ (va_recv hK RR0.1 (ci := 3) (q0 := 0) rfl rfl) rfl hl.1 rfl (Nat.le_of_ble_eq_true rfl) dL_fairWin_7 ⟨Nat.le_of_ble_eq_true rfl, Nat.le_of_ble_eq_true rfl⟩ hP hD hS hA (fun qx9 ce9 H locs hP hD hS hc1 hc2 hc3 => ?_)
  refine vx_catch (E := xIAE) (name := xIAE) hown [] ⟨0, 12, 15, 13⟩ [] (htab.trans rfl) (fun z9 hz9 => absurd hz9 List.not_mem_nil) rfl (by decide) (hts (Cond.classLink RL 13 "java/lang/IllegalArgumentException") mw_4_12) (cd_use hT.2.2.2.2.2.2.1 cd_IAE) hc1 hc2 hc3 ?_
  refine W.eq (g2 := F0 m 15 ls [.ref qx9]) rfl ?_
  refine lv_astore (lv' := [(5, .ref qx9), (0, .ref (ad 0)), (1, .int (nI k9)), (2, .int (nI q9)), (3, .int o), (4, .ref oo)]) hx hb dL_fairWin_15 hl (by decide) rfl (fun ls hl => ?_)
  refine lv_iconst (v := 1) hx hb dL_fairWin_17 (by first | decide | rfl) ?_
  refine W.widen (k := 1) (n := 6) (Nat.le_of_ble_eq_true rfl) (Nat.le_of_ble_eq_true rfl) ?_
  exact wr_iret hQ hx hb hr hlocks hP hD hS (hpost) dL_fairWin_18
set_option maxHeartbeats 4000000 in
set_option maxRecDepth 100000 in
theorem v_lay1 (l : Launch) (hl9 : l.stackTraces = false) (D : va_G) (cs : Nat → ClassId) (z mi : Nat) (H : Heap) {tl : va_W} {ad : Nat → Nat} {bank rnds cnt mcn : Int32} {N n cap : Nat} {su fa pu : Nat → Int32} {rf : Nat → Option Nat} {wa : Nat → Nat} {wf : Nat → Nat → Int32} {kd : Nat → Nat} (hRX : ∀ H9 : Heap, va_P D vwCl tl H9 → RX D cs H9 ad bank rnds cnt mcn N n cap su fa pu rf wa wf kd) {oo : Nat} (o : Int32) (ho : o < 0 ∨ ¬ o < 6) (b9 c9 d9 e9 f9 : Int32) (post : Option Value → va_W → Prop) (hpost : post (some (.int 1)) (tl)) (hP : va_P D vwCl (tl) H) (hD : va_D (fun _ => True) (tl)) : Wh z mi l D cs 10 1 6 yL_lay cL_lay 9 (some .int) [(0, 18, 21, 21), (0, 18, 25, 13), (0, 18, 29, 15)] (tl) H [.ref (ad 0), .int o, .int b9, .int c9, .int d9, .int e9, .int f9, .ref oo] post := by
  refine wh_ent (by decide) (Nat.le_of_ble_eq_true rfl) hP hD ?_
  clear hP hD H
  intro p e s m below meth c ls A Q H hx hb hr hml hown hts hlocks hl hK hQ hA hH hT hR htab hP hD hS
  clear hH
  have hl : lv_has ls 9 [(0, .ref (ad 0)), (1, .int o), (2, .int b9), (3, .int c9), (4, .int d9), (5, .int e9), (6, .int f9), (7, .ref oo)] := hl
  have RR0 := hRX H hP
  refine lv_aload hx hb dL_lay_0 (lv_at hl 7 rfl) ?_
  refine lv_iconst (v := 0) hx hb dL_lay_2 (by first | decide | rfl) ?_
  refine lv_aload_n hx hb dL_lay_3 rfl (lv_at hl 0 rfl) ?_
  refine lv_iload_n hx hb dL_lay_4 rfl (lv_at hl 1 rfl) ?_
  refine lv_iload_n hx hb dL_lay_5 rfl (lv_at hl 2 rfl) ?_
  refine lv_iload_n hx hb dL_lay_6 rfl (lv_at hl 3 rfl) ?_
  refine lv_iload hx hb dL_lay_7 (lv_at hl 4 rfl) ?_
  refine lv_iload hx hb dL_lay_9 (lv_at hl 5 rfl) ?_
  refine lv_iload hx hb dL_lay_11 (lv_at hl 6 rfl) ?_
  refine wh_catchV (As := [.int o, .int b9, .int c9, .int d9, .int e9, .int f9]) (rest := [.int 0, .ref oo]) (b := ad 0) ⟨hx, hb, hml, hown, hts⟩ hT hR hK 6 (t_lay1 l hl9 D cs z mi H RR0 o ho b9 c9 d9 e9 f9) (gin_v mw_11_5 mw_11_6 mw_11_7 mw_1_2 mw_11_8) (by decide +kernel) ⟨Nat.le_of_ble_eq_true rfl, Nat.le_of_ble_eq_true rfl⟩ (va_recv hK RR0.1 (ci := 3) (q0 := 0) rfl rfl) rfl hl.1 rfl (Nat.le_of_ble_eq_true rfl) dL_lay_13 ⟨Nat.le_of_ble_eq_true rfl, Nat.le_of_ble_eq_true rfl⟩ hP hD hS hA (fun qx9 ce9 H locs hP hD hS hc1 hc2 hc3 => ?_)
  refine vx_catch (E := xIOB) (name := xIOB) hown [] ⟨0, 18, 21, 21⟩ [⟨0, 18, 25, 13⟩, ⟨0, 18, 29, 15⟩] (htab.trans rfl) (fun z9 hz9 => absurd hz9 List.not_mem_nil) rfl (by decide) (hts (Cond.classLink RL 21 "java/lang/IndexOutOfBoundsException") mw_7_10) (cd_use hT.2.2.2.2.2.2.1 cd_IOB) hc1 hc2 hc3 ?_
  refine W.eq (g2 := F0 m 21 ls [.ref qx9]) rfl ?_
  refine lv_astore (lv' := [(8, .ref qx9), (0, .ref (ad 0)), (1, .int o), (2, .int b9), (3, .int c9), (4, .int d9), (5, .int e9), (6, .int f9), (7, .ref oo)]) hx hb dL_lay_21 hl (by decide) rfl (fun ls hl => ?_)
  refine lv_iconst (v := 1) hx hb dL_lay_23 (by first | decide | rfl) ?_
  refine W.widen (k := 1) (n := 6) (Nat.le_of_ble_eq_true rfl) (Nat.le_of_ble_eq_true rfl) ?_
  exact wr_iret hQ hx hb hr hlocks hP hD hS (hpost) dL_lay_24
set_option maxHeartbeats 4000000 in
set_option maxRecDepth 100000 in
theorem v_lay2 (l : Launch) (hl9 : l.stackTraces = false) (D : va_G) (cs : Nat → ClassId) (z mi : Nat) (H : Heap) {tl : va_W} {ad : Nat → Nat} {bank rnds cnt mcn : Int32} {N n cap : Nat} {su fa pu : Nat → Int32} {rf : Nat → Option Nat} {wa : Nat → Nat} {wf : Nat → Nat → Int32} {kd : Nat → Nat} (hRX : ∀ H9 : Heap, va_P D vwCl tl H9 → RX D cs H9 ad bank rnds cnt mcn N n cap su fa pu rf wa wf kd) {oo : Nat} (p9 : Nat) (hp9 : p9 < 6) (k q : Int32) (ho : k < 0 ∨ 10 ≤ k ∨ q < 0 ∨ ¬ q ≤ 36) (d9 e9 f9 : Int32) (post : Option Value → va_W → Prop) (hpost : post (some (.int 2)) (tl)) (hP : va_P D vwCl (tl) H) (hD : va_D (fun _ => True) (tl)) : Wh z mi l D cs 10 1 6 yL_lay cL_lay 9 (some .int) [(0, 18, 21, 21), (0, 18, 25, 13), (0, 18, 29, 15)] (tl) H [.ref (ad 0), .int (nI p9), .int k, .int q, .int d9, .int e9, .int f9, .ref oo] post := by
  refine wh_ent (by decide) (Nat.le_of_ble_eq_true rfl) hP hD ?_
  clear hP hD H
  intro p e s m below meth c ls A Q H hx hb hr hml hown hts hlocks hl hK hQ hA hH hT hR htab hP hD hS
  clear hH
  have hl : lv_has ls 9 [(0, .ref (ad 0)), (1, .int (nI p9)), (2, .int k), (3, .int q), (4, .int d9), (5, .int e9), (6, .int f9), (7, .ref oo)] := hl
  have RR0 := hRX H hP
  refine lv_aload hx hb dL_lay_0 (lv_at hl 7 rfl) ?_
  refine lv_iconst (v := 0) hx hb dL_lay_2 (by first | decide | rfl) ?_
  refine lv_aload_n hx hb dL_lay_3 rfl (lv_at hl 0 rfl) ?_
  refine lv_iload_n hx hb dL_lay_4 rfl (lv_at hl 1 rfl) ?_
  refine lv_iload_n hx hb dL_lay_5 rfl (lv_at hl 2 rfl) ?_
  refine lv_iload_n hx hb dL_lay_6 rfl (lv_at hl 3 rfl) ?_
  refine lv_iload hx hb dL_lay_7 (lv_at hl 4 rfl) ?_
  refine lv_iload hx hb dL_lay_9 (lv_at hl 5 rfl) ?_
  refine lv_iload hx hb dL_lay_11 (lv_at hl 6 rfl) ?_
  refine wh_catchV (As := [.int (nI p9), .int k, .int q, .int d9, .int e9, .int f9]) (rest := [.int 0, .ref oo]) (b := ad 0) ⟨hx, hb, hml, hown, hts⟩ hT hR hK 6 (t_lay2 l hl9 D cs z mi H RR0 p9 hp9 k q ho d9 e9 f9) (gin_v mw_11_5 mw_11_6 mw_11_7 mw_1_2 mw_11_8) (by decide +kernel) ⟨Nat.le_of_ble_eq_true rfl, Nat.le_of_ble_eq_true rfl⟩ (va_recv hK RR0.1 (ci := 3) (q0 := 0) rfl rfl) rfl hl.1 rfl (Nat.le_of_ble_eq_true rfl) dL_lay_13 ⟨Nat.le_of_ble_eq_true rfl, Nat.le_of_ble_eq_true rfl⟩ hP hD hS hA (fun qx9 ce9 H locs hP hD hS hc1 hc2 hc3 => ?_)
  refine vx_catch (E := xIAE) (name := xIAE) hown [⟨0, 18, 21, 21⟩] ⟨0, 18, 25, 13⟩ [⟨0, 18, 29, 15⟩] (htab.trans rfl) (fun z9 hz9 => by rw [List.mem_singleton.mp hz9]; exact Or.inr ⟨by decide, xIOB, (hts (Cond.classLink RL 21 "java/lang/IndexOutOfBoundsException") mw_7_10), cn_nc hT.2.2.2.2.2.2.2 (by decide +kernel)⟩) rfl (by decide) (hts (Cond.classLink RL 13 "java/lang/IllegalArgumentException") mw_4_12) (cd_use hT.2.2.2.2.2.2.1 cd_IAE) hc1 hc2 hc3 ?_
  refine W.eq (g2 := F0 m 25 ls [.ref qx9]) rfl ?_
  refine lv_astore (lv' := [(8, .ref qx9), (0, .ref (ad 0)), (1, .int (nI p9)), (2, .int k), (3, .int q), (4, .int d9), (5, .int e9), (6, .int f9), (7, .ref oo)]) hx hb dL_lay_25 hl (by decide) rfl (fun ls hl => ?_)
  refine lv_iconst (v := 2) hx hb dL_lay_27 (by first | decide | rfl) ?_
  refine W.widen (k := 1) (n := 6) (Nat.le_of_ble_eq_true rfl) (Nat.le_of_ble_eq_true rfl) ?_
  exact wr_iret hQ hx hb hr hlocks hP hD hS (hpost) dL_lay_28
set_option maxHeartbeats 4000000 in
set_option maxRecDepth 100000 in
theorem v_lay3 (l : Launch) (hl9 : l.stackTraces = false) (D : va_G) (cs : Nat → ClassId) (z mi : Nat) (H : Heap) {tl : va_W} {ad : Nat → Nat} {bank rnds cnt mcn : Int32} {N n cap : Nat} {su fa pu : Nat → Int32} {rf : Nat → Option Nat} {wa : Nat → Nat} {wf : Nat → Nat → Int32} {kd : Nat → Nat} (hRX : ∀ H9 : Heap, va_P D vwCl tl H9 → RX D cs H9 ad bank rnds cnt mcn N n cap su fa pu rf wa wf kd) {oo : Nat} (p9 : Nat) (hp9 : p9 < 6) (k9 q9 : Nat) (hk : k9 < 10) (hq : q9 ≤ 36) (o e9 f9 : Int32) (ho : o < 1 ∨ ¬ o ≤ 100) (post : Option Value → va_W → Prop) (hpost : post (some (.int 2)) (tl)) (hP : va_P D vwCl (tl) H) (hD : va_D (fun _ => True) (tl)) : Wh z mi l D cs 10 1 6 yL_lay cL_lay 9 (some .int) [(0, 18, 21, 21), (0, 18, 25, 13), (0, 18, 29, 15)] (tl) H [.ref (ad 0), .int (nI p9), .int (nI k9), .int (nI q9), .int o, .int e9, .int f9, .ref oo] post := by
  refine wh_ent (by decide) (Nat.le_of_ble_eq_true rfl) hP hD ?_
  clear hP hD H
  intro p e s m below meth c ls A Q H hx hb hr hml hown hts hlocks hl hK hQ hA hH hT hR htab hP hD hS
  clear hH
  have hl : lv_has ls 9 [(0, .ref (ad 0)), (1, .int (nI p9)), (2, .int (nI k9)), (3, .int (nI q9)), (4, .int o), (5, .int e9), (6, .int f9), (7, .ref oo)] := hl
  have RR0 := hRX H hP
  refine lv_aload hx hb dL_lay_0 (lv_at hl 7 rfl) ?_
  refine lv_iconst (v := 0) hx hb dL_lay_2 (by first | decide | rfl) ?_
  refine lv_aload_n hx hb dL_lay_3 rfl (lv_at hl 0 rfl) ?_
  refine lv_iload_n hx hb dL_lay_4 rfl (lv_at hl 1 rfl) ?_
  refine lv_iload_n hx hb dL_lay_5 rfl (lv_at hl 2 rfl) ?_
  refine lv_iload_n hx hb dL_lay_6 rfl (lv_at hl 3 rfl) ?_
  refine lv_iload hx hb dL_lay_7 (lv_at hl 4 rfl) ?_
  refine lv_iload hx hb dL_lay_9 (lv_at hl 5 rfl) ?_
  refine lv_iload hx hb dL_lay_11 (lv_at hl 6 rfl) ?_
  refine wh_catchV (As := [.int (nI p9), .int (nI k9), .int (nI q9), .int o, .int e9, .int f9]) (rest := [.int 0, .ref oo]) (b := ad 0) ⟨hx, hb, hml, hown, hts⟩ hT hR hK 6 (t_lay3 l hl9 D cs z mi H RR0 p9 hp9 k9 q9 hk hq o e9 f9 ho) (gin_v mw_11_5 mw_11_6 mw_11_7 mw_1_2 mw_11_8) (by decide +kernel) ⟨Nat.le_of_ble_eq_true rfl, Nat.le_of_ble_eq_true rfl⟩ (va_recv hK RR0.1 (ci := 3) (q0 := 0) rfl rfl) rfl hl.1 rfl (Nat.le_of_ble_eq_true rfl) dL_lay_13 ⟨Nat.le_of_ble_eq_true rfl, Nat.le_of_ble_eq_true rfl⟩ hP hD hS hA (fun qx9 ce9 H locs hP hD hS hc1 hc2 hc3 => ?_)
  refine vx_catch (E := xIAE) (name := xIAE) hown [⟨0, 18, 21, 21⟩] ⟨0, 18, 25, 13⟩ [⟨0, 18, 29, 15⟩] (htab.trans rfl) (fun z9 hz9 => by rw [List.mem_singleton.mp hz9]; exact Or.inr ⟨by decide, xIOB, (hts (Cond.classLink RL 21 "java/lang/IndexOutOfBoundsException") mw_7_10), cn_nc hT.2.2.2.2.2.2.2 (by decide +kernel)⟩) rfl (by decide) (hts (Cond.classLink RL 13 "java/lang/IllegalArgumentException") mw_4_12) (cd_use hT.2.2.2.2.2.2.1 cd_IAE) hc1 hc2 hc3 ?_
  refine W.eq (g2 := F0 m 25 ls [.ref qx9]) rfl ?_
  refine lv_astore (lv' := [(8, .ref qx9), (0, .ref (ad 0)), (1, .int (nI p9)), (2, .int (nI k9)), (3, .int (nI q9)), (4, .int o), (5, .int e9), (6, .int f9), (7, .ref oo)]) hx hb dL_lay_25 hl (by decide) rfl (fun ls hl => ?_)
  refine lv_iconst (v := 2) hx hb dL_lay_27 (by first | decide | rfl) ?_
  refine W.widen (k := 1) (n := 6) (Nat.le_of_ble_eq_true rfl) (Nat.le_of_ble_eq_true rfl) ?_
  exact wr_iret hQ hx hb hr hlocks hP hD hS (hpost) dL_lay_28
set_option maxHeartbeats 4000000 in
set_option maxRecDepth 100000 in
theorem v_lay4 (l : Launch) (hl9 : l.stackTraces = false) (D : va_G) (cs : Nat → ClassId) (z mi : Nat) (H : Heap) {tl : va_W} {ad : Nat → Nat} {bank rnds cnt mcn : Int32} {N n cap : Nat} {su fa pu : Nat → Int32} {rf : Nat → Option Nat} {wa : Nat → Nat} {wf : Nat → Nat → Int32} {kd : Nat → Nat} (hRX : ∀ H9 : Heap, va_P D vwCl tl H9 → RX D cs H9 ad bank rnds cnt mcn N n cap su fa pu rf wa wf kd) {oo : Nat} (p9 : Nat) (hp9 : p9 < 6) (k9 q9 : Nat) (hk : k9 < 10) (hq : q9 ≤ 36) (s9 : Int32) (hs1 : ¬ s9 < 1) (hs2 : s9 ≤ 100) (o f9 : Int32) (ho : o < 1 ∨ ¬ o ≤ 20) (post : Option Value → va_W → Prop) (hpost : post (some (.int 2)) (tl)) (hP : va_P D vwCl (tl) H) (hD : va_D (fun _ => True) (tl)) : Wh z mi l D cs 10 1 6 yL_lay cL_lay 9 (some .int) [(0, 18, 21, 21), (0, 18, 25, 13), (0, 18, 29, 15)] (tl) H [.ref (ad 0), .int (nI p9), .int (nI k9), .int (nI q9), .int s9, .int o, .int f9, .ref oo] post := by
  refine wh_ent (by decide) (Nat.le_of_ble_eq_true rfl) hP hD ?_
  clear hP hD H
  intro p e s m below meth c ls A Q H hx hb hr hml hown hts hlocks hl hK hQ hA hH hT hR htab hP hD hS
  clear hH
  have hl : lv_has ls 9 [(0, .ref (ad 0)), (1, .int (nI p9)), (2, .int (nI k9)), (3, .int (nI q9)), (4, .int s9), (5, .int o), (6, .int f9), (7, .ref oo)] := hl
  have RR0 := hRX H hP
  refine lv_aload hx hb dL_lay_0 (lv_at hl 7 rfl) ?_
  refine lv_iconst (v := 0) hx hb dL_lay_2 (by first | decide | rfl) ?_
  refine lv_aload_n hx hb dL_lay_3 rfl (lv_at hl 0 rfl) ?_
  refine lv_iload_n hx hb dL_lay_4 rfl (lv_at hl 1 rfl) ?_
  refine lv_iload_n hx hb dL_lay_5 rfl (lv_at hl 2 rfl) ?_
  refine lv_iload_n hx hb dL_lay_6 rfl (lv_at hl 3 rfl) ?_
  refine lv_iload hx hb dL_lay_7 (lv_at hl 4 rfl) ?_
  refine lv_iload hx hb dL_lay_9 (lv_at hl 5 rfl) ?_
  refine lv_iload hx hb dL_lay_11 (lv_at hl 6 rfl) ?_
  refine wh_catchV (As := [.int (nI p9), .int (nI k9), .int (nI q9), .int s9, .int o, .int f9]) (rest := [.int 0, .ref oo]) (b := ad 0) ⟨hx, hb, hml, hown, hts⟩ hT hR hK 6 (t_lay4 l hl9 D cs z mi H RR0 p9 hp9 k9 q9 hk hq s9 hs1 hs2 o f9 ho) (gin_v mw_11_5 mw_11_6 mw_11_7 mw_1_2 mw_11_8) (by decide +kernel) ⟨Nat.le_of_ble_eq_true rfl, Nat.le_of_ble_eq_true rfl⟩ (va_recv hK RR0.1 (ci := 3) (q0 := 0) rfl rfl) rfl hl.1 rfl (Nat.le_of_ble_eq_true rfl) dL_lay_13 ⟨Nat.le_of_ble_eq_true rfl, Nat.le_of_ble_eq_true rfl⟩ hP hD hS hA (fun qx9 ce9 H locs hP hD hS hc1 hc2 hc3 => ?_)
  refine vx_catch (E := xIAE) (name := xIAE) hown [⟨0, 18, 21, 21⟩] ⟨0, 18, 25, 13⟩ [⟨0, 18, 29, 15⟩] (htab.trans rfl) (fun z9 hz9 => by rw [List.mem_singleton.mp hz9]; exact Or.inr ⟨by decide, xIOB, (hts (Cond.classLink RL 21 "java/lang/IndexOutOfBoundsException") mw_7_10), cn_nc hT.2.2.2.2.2.2.2 (by decide +kernel)⟩) rfl (by decide) (hts (Cond.classLink RL 13 "java/lang/IllegalArgumentException") mw_4_12) (cd_use hT.2.2.2.2.2.2.1 cd_IAE) hc1 hc2 hc3 ?_
  refine W.eq (g2 := F0 m 25 ls [.ref qx9]) rfl ?_
  refine lv_astore (lv' := [(8, .ref qx9), (0, .ref (ad 0)), (1, .int (nI p9)), (2, .int (nI k9)), (3, .int (nI q9)), (4, .int s9), (5, .int o), (6, .int f9), (7, .ref oo)]) hx hb dL_lay_25 hl (by decide) rfl (fun ls hl => ?_)
  refine lv_iconst (v := 2) hx hb dL_lay_27 (by first | decide | rfl) ?_
  refine W.widen (k := 1) (n := 6) (Nat.le_of_ble_eq_true rfl) (Nat.le_of_ble_eq_true rfl) ?_
  exact wr_iret hQ hx hb hr hlocks hP hD hS (hpost) dL_lay_28
set_option maxHeartbeats 4000000 in
set_option maxRecDepth 100000 in
theorem v_lay5 (l : Launch) (hl9 : l.stackTraces = false) (D : va_G) (cs : Nat → ClassId) (z mi : Nat) (H : Heap) {tl : va_W} {ad : Nat → Nat} {bank rnds cnt mcn : Int32} {N n cap : Nat} {su fa pu : Nat → Int32} {rf : Nat → Option Nat} {wa : Nat → Nat} {wf : Nat → Nat → Int32} {kd : Nat → Nat} (hRX : ∀ H9 : Heap, va_P D vwCl tl H9 → RX D cs H9 ad bank rnds cnt mcn N n cap su fa pu rf wa wf kd) {oo : Nat} (p9 : Nat) (hp9 : p9 < 6) (k9 q9 : Nat) (hk : k9 < 10) (hq : q9 ≤ 36) (s9 : Int32) (hs1 : ¬ s9 < 1) (hs2 : s9 ≤ 100) (w9 : Int32) (h1 : ¬ w9 < 1) (h2 : w9 ≤ 20) (o : Int32) (ho : o < 1 ∨ ¬ o ≤ 10) (post : Option Value → va_W → Prop) (hpost : post (some (.int 2)) (tl)) (hP : va_P D vwCl (tl) H) (hD : va_D (fun _ => True) (tl)) : Wh z mi l D cs 10 1 6 yL_lay cL_lay 9 (some .int) [(0, 18, 21, 21), (0, 18, 25, 13), (0, 18, 29, 15)] (tl) H [.ref (ad 0), .int (nI p9), .int (nI k9), .int (nI q9), .int s9, .int w9, .int o, .ref oo] post := by
  refine wh_ent (by decide) (Nat.le_of_ble_eq_true rfl) hP hD ?_
  clear hP hD H
  intro p e s m below meth c ls A Q H hx hb hr hml hown hts hlocks hl hK hQ hA hH hT hR htab hP hD hS
  clear hH
  have hl : lv_has ls 9 [(0, .ref (ad 0)), (1, .int (nI p9)), (2, .int (nI k9)), (3, .int (nI q9)), (4, .int s9), (5, .int w9), (6, .int o), (7, .ref oo)] := hl
  have RR0 := hRX H hP
  refine lv_aload hx hb dL_lay_0 (lv_at hl 7 rfl) ?_
  refine lv_iconst (v := 0) hx hb dL_lay_2 (by first | decide | rfl) ?_
  refine lv_aload_n hx hb dL_lay_3 rfl (lv_at hl 0 rfl) ?_
  refine lv_iload_n hx hb dL_lay_4 rfl (lv_at hl 1 rfl) ?_
  refine lv_iload_n hx hb dL_lay_5 rfl (lv_at hl 2 rfl) ?_
  refine lv_iload_n hx hb dL_lay_6 rfl (lv_at hl 3 rfl) ?_
  refine lv_iload hx hb dL_lay_7 (lv_at hl 4 rfl) ?_
  refine lv_iload hx hb dL_lay_9 (lv_at hl 5 rfl) ?_
  refine lv_iload hx hb dL_lay_11 (lv_at hl 6 rfl) ?_
  refine wh_catchV (As := [.int (nI p9), .int (nI k9), .int (nI q9), .int s9, .int w9, .int o]) (rest := [.int 0, .ref oo]) (b := ad 0) ⟨hx, hb, hml, hown, hts⟩ hT hR hK 6 (t_lay5 l hl9 D cs z mi H RR0 p9 hp9 k9 q9 hk hq s9 hs1 hs2 w9 h1 h2 o ho) (gin_v mw_11_5 mw_11_6 mw_11_7 mw_1_2 mw_11_8) (by decide +kernel) ⟨Nat.le_of_ble_eq_true rfl, Nat.le_of_ble_eq_true rfl⟩ (va_recv hK RR0.1 (ci := 3) (q0 := 0) rfl rfl) rfl hl.1 rfl (Nat.le_of_ble_eq_true rfl) dL_lay_13 ⟨Nat.le_of_ble_eq_true rfl, Nat.le_of_ble_eq_true rfl⟩ hP hD hS hA (fun qx9 ce9 H locs hP hD hS hc1 hc2 hc3 => ?_)
  refine vx_catch (E := xIAE) (name := xIAE) hown [⟨0, 18, 21, 21⟩] ⟨0, 18, 25, 13⟩ [⟨0, 18, 29, 15⟩] (htab.trans rfl) (fun z9 hz9 => by rw [List.mem_singleton.mp hz9]; exact Or.inr ⟨by decide, xIOB, (hts (Cond.classLink RL 21 "java/lang/IndexOutOfBoundsException") mw_7_10), cn_nc hT.2.2.2.2.2.2.2 (by decide +kernel)⟩) rfl (by decide) (hts (Cond.classLink RL 13 "java/lang/IllegalArgumentException") mw_4_12) (cd_use hT.2.2.2.2.2.2.1 cd_IAE) hc1 hc2 hc3 ?_
  refine W.eq (g2 := F0 m 25 ls [.ref qx9]) rfl ?_
  refine lv_astore (lv' := [(8, .ref qx9), (0, .ref (ad 0)), (1, .int (nI p9)), (2, .int (nI k9)), (3, .int (nI q9)), (4, .int s9), (5, .int w9), (6, .int o), (7, .ref oo)]) hx hb dL_lay_25 hl (by decide) rfl (fun ls hl => ?_)
  refine lv_iconst (v := 2) hx hb dL_lay_27 (by first | decide | rfl) ?_
  refine W.widen (k := 1) (n := 6) (Nat.le_of_ble_eq_true rfl) (Nat.le_of_ble_eq_true rfl) ?_
  exact wr_iret hQ hx hb hr hlocks hP hD hS (hpost) dL_lay_28
set_option maxHeartbeats 4000000 in
set_option maxRecDepth 100000 in
theorem v_lay6 (l : Launch) (hl9 : l.stackTraces = false) (D : va_G) (cs : Nat → ClassId) (z mi : Nat) (H : Heap) {tl : va_W} {ad : Nat → Nat} {bank rnds cnt mcn : Int32} {N n cap : Nat} {su fa pu : Nat → Int32} {rf : Nat → Option Nat} {wa : Nat → Nat} {wf : Nat → Nat → Int32} {kd : Nat → Nat} (hRX : ∀ H9 : Heap, va_P D vwCl tl H9 → RX D cs H9 ad bank rnds cnt mcn N n cap su fa pu rf wa wf kd) {oo : Nat} (p9 : Nat) (hp9 : p9 < 6) (k9 q9 : Nat) (hk : k9 < 10) (hq : q9 ≤ 36) (s9 : Int32) (hs1 : ¬ s9 < 1) (hs2 : s9 ≤ 100) (w9 : Int32) (h1 : ¬ w9 < 1) (h2 : w9 ≤ 20) (b9 : Int32) (h3 : ¬ b9 < 1) (h4 : b9 ≤ 10) (hn9 : 12 ≤ n) (post : Option Value → va_W → Prop) (hpost : post (some (.int 3)) (tl)) (hP : va_P D vwCl (tl) H) (hD : va_D (fun _ => True) (tl)) : Wh z mi l D cs 10 1 6 yL_lay cL_lay 9 (some .int) [(0, 18, 21, 21), (0, 18, 25, 13), (0, 18, 29, 15)] (tl) H [.ref (ad 0), .int (nI p9), .int (nI k9), .int (nI q9), .int s9, .int w9, .int b9, .ref oo] post := by
  refine wh_ent (by decide) (Nat.le_of_ble_eq_true rfl) hP hD ?_
  clear hP hD H
  intro p e s m below meth c ls A Q H hx hb hr hml hown hts hlocks hl hK hQ hA hH hT hR htab hP hD hS
  clear hH
  have hl : lv_has ls 9 [(0, .ref (ad 0)), (1, .int (nI p9)), (2, .int (nI k9)), (3, .int (nI q9)), (4, .int s9), (5, .int w9), (6, .int b9), (7, .ref oo)] := hl
  have RR0 := hRX H hP
  refine lv_aload hx hb dL_lay_0 (lv_at hl 7 rfl) ?_
  refine lv_iconst (v := 0) hx hb dL_lay_2 (by first | decide | rfl) ?_
  refine lv_aload_n hx hb dL_lay_3 rfl (lv_at hl 0 rfl) ?_
  refine lv_iload_n hx hb dL_lay_4 rfl (lv_at hl 1 rfl) ?_
  refine lv_iload_n hx hb dL_lay_5 rfl (lv_at hl 2 rfl) ?_
  refine lv_iload_n hx hb dL_lay_6 rfl (lv_at hl 3 rfl) ?_
  refine lv_iload hx hb dL_lay_7 (lv_at hl 4 rfl) ?_
  refine lv_iload hx hb dL_lay_9 (lv_at hl 5 rfl) ?_
  refine lv_iload hx hb dL_lay_11 (lv_at hl 6 rfl) ?_
  refine wh_catchV (As := [.int (nI p9), .int (nI k9), .int (nI q9), .int s9, .int w9, .int b9]) (rest := [.int 0, .ref oo]) (b := ad 0) ⟨hx, hb, hml, hown, hts⟩ hT hR hK 6 (t_lay6 l hl9 D cs z mi H RR0 p9 hp9 k9 q9 hk hq s9 hs1 hs2 w9 h1 h2 b9 h3 h4 hn9) (gin_v mw_11_5 mw_11_6 mw_11_7 mw_1_2 mw_11_8) (by decide +kernel) ⟨Nat.le_of_ble_eq_true rfl, Nat.le_of_ble_eq_true rfl⟩ (va_recv hK RR0.1 (ci := 3) (q0 := 0) rfl rfl) rfl hl.1 rfl (Nat.le_of_ble_eq_true rfl) dL_lay_13 ⟨Nat.le_of_ble_eq_true rfl, Nat.le_of_ble_eq_true rfl⟩ hP hD hS hA (fun qx9 ce9 H locs hP hD hS hc1 hc2 hc3 => ?_)
  refine vx_catch (E := xISE) (name := xISE) hown [⟨0, 18, 21, 21⟩, ⟨0, 18, 25, 13⟩] ⟨0, 18, 29, 15⟩ [] (htab.trans rfl) (fun z9 hz9 => by rcases List.mem_cons.mp hz9 with rfl | hz9; { exact Or.inr ⟨by decide, xIOB, (hts (Cond.classLink RL 21 "java/lang/IndexOutOfBoundsException") mw_7_10), cn_nc hT.2.2.2.2.2.2.2 (by decide +kernel)⟩ }; rw [List.mem_singleton.mp hz9]; exact Or.inr ⟨by decide, xIAE, (hts (Cond.classLink RL 13 "java/lang/IllegalArgumentException") mw_4_12), cn_nc hT.2.2.2.2.2.2.2 (by decide +kernel)⟩) rfl (by decide) (hts (Cond.classLink RL 15 "java/lang/IllegalStateException") mw_4_13) (cd_use hT.2.2.2.2.2.2.1 cd_ISE) hc1 hc2 hc3 ?_
  refine W.eq (g2 := F0 m 29 ls [.ref qx9]) rfl ?_
  refine lv_astore (lv' := [(8, .ref qx9), (0, .ref (ad 0)), (1, .int (nI p9)), (2, .int (nI k9)), (3, .int (nI q9)), (4, .int s9), (5, .int w9), (6, .int b9), (7, .ref oo)]) hx hb dL_lay_29 hl (by decide) rfl (fun ls hl => ?_)
  refine lv_iconst (v := 3) hx hb dL_lay_31 (by first | decide | rfl) ?_
  refine W.widen (k := 1) (n := 6) (Nat.le_of_ble_eq_true rfl) (Nat.le_of_ble_eq_true rfl) ?_
  exact wr_iret hQ hx hb hr hlocks hP hD hS (hpost) dL_lay_32
set_option maxHeartbeats 4000000 in
set_option maxRecDepth 100000 in
theorem v_lay7 (l : Launch) (hl9 : l.stackTraces = false) (D : va_G) (cs : Nat → ClassId) (z mi : Nat) (H : Heap) {tl : va_W} {ad : Nat → Nat} {bank rnds cnt mcn : Int32} {N n cap : Nat} {su fa pu : Nat → Int32} {rf : Nat → Option Nat} {wa : Nat → Nat} {wf : Nat → Nat → Int32} {kd : Nat → Nat} (hRX : ∀ H9 : Heap, va_P D vwCl tl H9 → RX D cs H9 ad bank rnds cnt mcn N n cap su fa pu rf wa wf kd) {oo : Nat} (p9 : Nat) (hp9 : p9 < 6) (k9 q9 : Nat) (hk : k9 < 10) (hq : q9 ≤ 36) (s9 : Int32) (hs1 : ¬ s9 < 1) (hs2 : s9 ≤ 100) (w9 : Int32) (h1 : ¬ w9 < 1) (h2 : w9 ≤ 20) (b9 : Int32) (h3 : ¬ b9 < 1) (h4 : b9 ≤ 10) (hn9 : n < 12) (hpu : ¬ s9 ≤ pu p9) (post : Option Value → va_W → Prop) (hpost : post (some (.int 3)) (tl)) (hP : va_P D vwCl (tl) H) (hD : va_D (fun _ => True) (tl)) : Wh z mi l D cs 10 1 6 yL_lay cL_lay 9 (some .int) [(0, 18, 21, 21), (0, 18, 25, 13), (0, 18, 29, 15)] (tl) H [.ref (ad 0), .int (nI p9), .int (nI k9), .int (nI q9), .int s9, .int w9, .int b9, .ref oo] post := by
  refine wh_ent (by decide) (Nat.le_of_ble_eq_true rfl) hP hD ?_
  clear hP hD H
  intro p e s m below meth c ls A Q H hx hb hr hml hown hts hlocks hl hK hQ hA hH hT hR htab hP hD hS
  clear hH
  have hl : lv_has ls 9 [(0, .ref (ad 0)), (1, .int (nI p9)), (2, .int (nI k9)), (3, .int (nI q9)), (4, .int s9), (5, .int w9), (6, .int b9), (7, .ref oo)] := hl
  have RR0 := hRX H hP
  refine lv_aload hx hb dL_lay_0 (lv_at hl 7 rfl) ?_
  refine lv_iconst (v := 0) hx hb dL_lay_2 (by first | decide | rfl) ?_
  refine lv_aload_n hx hb dL_lay_3 rfl (lv_at hl 0 rfl) ?_
  refine lv_iload_n hx hb dL_lay_4 rfl (lv_at hl 1 rfl) ?_
  refine lv_iload_n hx hb dL_lay_5 rfl (lv_at hl 2 rfl) ?_
  refine lv_iload_n hx hb dL_lay_6 rfl (lv_at hl 3 rfl) ?_
  refine lv_iload hx hb dL_lay_7 (lv_at hl 4 rfl) ?_
  refine lv_iload hx hb dL_lay_9 (lv_at hl 5 rfl) ?_
  refine lv_iload hx hb dL_lay_11 (lv_at hl 6 rfl) ?_
  refine wh_catchV (As := [.int (nI p9), .int (nI k9), .int (nI q9), .int s9, .int w9, .int b9]) (rest := [.int 0, .ref oo]) (b := ad 0) ⟨hx, hb, hml, hown, hts⟩ hT hR hK 6 (t_lay7 l hl9 D cs z mi H RR0 p9 hp9 k9 q9 hk hq s9 hs1 hs2 w9 h1 h2 b9 h3 h4 hn9 hpu) (gin_v mw_11_5 mw_11_6 mw_11_7 mw_1_2 mw_11_8) (by decide +kernel) ⟨Nat.le_of_ble_eq_true rfl, Nat.le_of_ble_eq_true rfl⟩ (va_recv hK RR0.1 (ci := 3) (q0 := 0) rfl rfl) rfl hl.1 rfl (Nat.le_of_ble_eq_true rfl) dL_lay_13 ⟨Nat.le_of_ble_eq_true rfl, Nat.le_of_ble_eq_true rfl⟩ hP hD hS hA (fun qx9 ce9 H locs hP hD hS hc1 hc2 hc3 => ?_)
  refine vx_catch (E := xISE) (name := xISE) hown [⟨0, 18, 21, 21⟩, ⟨0, 18, 25, 13⟩] ⟨0, 18, 29, 15⟩ [] (htab.trans rfl) (fun z9 hz9 => by rcases List.mem_cons.mp hz9 with rfl | hz9; { exact Or.inr ⟨by decide, xIOB, (hts (Cond.classLink RL 21 "java/lang/IndexOutOfBoundsException") mw_7_10), cn_nc hT.2.2.2.2.2.2.2 (by decide +kernel)⟩ }; rw [List.mem_singleton.mp hz9]; exact Or.inr ⟨by decide, xIAE, (hts (Cond.classLink RL 13 "java/lang/IllegalArgumentException") mw_4_12), cn_nc hT.2.2.2.2.2.2.2 (by decide +kernel)⟩) rfl (by decide) (hts (Cond.classLink RL 15 "java/lang/IllegalStateException") mw_4_13) (cd_use hT.2.2.2.2.2.2.1 cd_ISE) hc1 hc2 hc3 ?_
  refine W.eq (g2 := F0 m 29 ls [.ref qx9]) rfl ?_
  refine lv_astore (lv' := [(8, .ref qx9), (0, .ref (ad 0)), (1, .int (nI p9)), (2, .int (nI k9)), (3, .int (nI q9)), (4, .int s9), (5, .int w9), (6, .int b9), (7, .ref oo)]) hx hb dL_lay_29 hl (by decide) rfl (fun ls hl => ?_)
  refine lv_iconst (v := 3) hx hb dL_lay_31 (by first | decide | rfl) ?_
  refine W.widen (k := 1) (n := 6) (Nat.le_of_ble_eq_true rfl) (Nat.le_of_ble_eq_true rfl) ?_
  exact wr_iret hQ hx hb hr hlocks hP hD hS (hpost) dL_lay_32
set_option maxHeartbeats 4000000 in
set_option maxRecDepth 100000 in
theorem v_setDice1 (l : Launch) (hl9 : l.stackTraces = false) (D : va_G) (cs : Nat → ClassId) (z mi : Nat) (H : Heap) {tl : va_W} {ad : Nat → Nat} {bank rnds cnt mcn : Int32} {N n cap : Nat} {su fa pu : Nat → Int32} {rf : Nat → Option Nat} {wa : Nat → Nat} {wf : Nat → Nat → Int32} {kd : Nat → Nat} (hRX : ∀ H9 : Heap, va_P D vwCl tl H9 → RX D cs H9 ad bank rnds cnt mcn N n cap su fa pu rf wa wf kd) {oo : Nat} (f s9 t9 : Int32) (hv : (dieX f && dieNX s9 && dieNX t9 && (!decide (s9 = 0) || decide (t9 = 0))) = false) (post : Option Value → va_W → Prop) (hpost : post (some (.int 1)) (tl)) (hP : va_P D vwCl (tl) H) (hD : va_D (fun _ => True) (tl)) : Wh z mi l D cs 10 1 6 yL_setDice cL_setDice 6 (some .int) [(0, 12, 15, 13), (0, 12, 19, 15)] (tl) H [.ref (ad 0), .int f, .int s9, .int t9, .ref oo] post := by
  refine wh_ent (by decide) (Nat.le_of_ble_eq_true rfl) hP hD ?_
  clear hP hD H
  intro p e s m below meth c ls A Q H hx hb hr hml hown hts hlocks hl hK hQ hA hH hT hR htab hP hD hS
  clear hH
  have hl : lv_has ls 6 [(0, .ref (ad 0)), (1, .int f), (2, .int s9), (3, .int t9), (4, .ref oo)] := hl
  have RR0 := hRX H hP
  refine lv_aload hx hb dL_setDice_0 (lv_at hl 4 rfl) ?_
  refine lv_iconst (v := 0) hx hb dL_setDice_2 (by first | decide | rfl) ?_
  refine lv_aload_n hx hb dL_setDice_3 rfl (lv_at hl 0 rfl) ?_
  refine lv_iload_n hx hb dL_setDice_4 rfl (lv_at hl 1 rfl) ?_
  refine lv_iload_n hx hb dL_setDice_5 rfl (lv_at hl 2 rfl) ?_
  refine lv_iload_n hx hb dL_setDice_6 rfl (lv_at hl 3 rfl) ?_
  refine wh_catchV (As := [.int f, .int s9, .int t9]) (rest := [.int 0, .ref oo]) (b := ad 0) ⟨hx, hb, hml, hown, hts⟩ hT hR hK 3 (t_setDice1 l hl9 D cs z mi H RR0 f s9 t9 hv) (gin_v mw_4_14 mw_4_15 mw_4_16 mw_1_2 mw_4_17) (by decide +kernel) ⟨Nat.le_of_ble_eq_true rfl, Nat.le_of_ble_eq_true rfl⟩ (va_recv hK RR0.1 (ci := 3) (q0 := 0) rfl rfl) rfl hl.1 rfl (Nat.le_of_ble_eq_true rfl) dL_setDice_7 ⟨Nat.le_of_ble_eq_true rfl, Nat.le_of_ble_eq_true rfl⟩ hP hD hS hA (fun qx9 ce9 H locs hP hD hS hc1 hc2 hc3 => ?_)
  refine vx_catch (E := xIAE) (name := xIAE) hown [] ⟨0, 12, 15, 13⟩ [⟨0, 12, 19, 15⟩] (htab.trans rfl) (fun z9 hz9 => absurd hz9 List.not_mem_nil) rfl (by decide) (hts (Cond.classLink RL 13 "java/lang/IllegalArgumentException") mw_4_12) (cd_use hT.2.2.2.2.2.2.1 cd_IAE) hc1 hc2 hc3 ?_
  refine W.eq (g2 := F0 m 15 ls [.ref qx9]) rfl ?_
  refine lv_astore (lv' := [(5, .ref qx9), (0, .ref (ad 0)), (1, .int f), (2, .int s9), (3, .int t9), (4, .ref oo)]) hx hb dL_setDice_15 hl (by decide) rfl (fun ls hl => ?_)
  refine lv_iconst (v := 1) hx hb dL_setDice_17 (by first | decide | rfl) ?_
  refine W.widen (k := 1) (n := 6) (Nat.le_of_ble_eq_true rfl) (Nat.le_of_ble_eq_true rfl) ?_
  exact wr_iret hQ hx hb hr hlocks hP hD hS (hpost) dL_setDice_18
set_option maxHeartbeats 4000000 in
set_option maxRecDepth 100000 in
theorem v_setDice2 (l : Launch) (hl9 : l.stackTraces = false) (D : va_G) (cs : Nat → ClassId) (z mi : Nat) (H : Heap) {tl : va_W} {ad : Nat → Nat} {bank rnds cnt mcn : Int32} {N n cap : Nat} {su fa pu : Nat → Int32} {rf : Nat → Option Nat} {wa : Nat → Nat} {wf : Nat → Nat → Int32} {kd : Nat → Nat} (hRX : ∀ H9 : Heap, va_P D vwCl tl H9 → RX D cs H9 ad bank rnds cnt mcn N n cap su fa pu rf wa wf kd) {oo : Nat} (f s9 t9 : Int32) (hv : (dieX f && dieNX s9 && dieNX t9 && (!decide (s9 = 0) || decide (t9 = 0))) = true) (hop : 0 < n) (post : Option Value → va_W → Prop) (hpost : post (some (.int 2)) (tl)) (hP : va_P D vwCl (tl) H) (hD : va_D (fun _ => True) (tl)) : Wh z mi l D cs 10 1 6 yL_setDice cL_setDice 6 (some .int) [(0, 12, 15, 13), (0, 12, 19, 15)] (tl) H [.ref (ad 0), .int f, .int s9, .int t9, .ref oo] post := by
  refine wh_ent (by decide) (Nat.le_of_ble_eq_true rfl) hP hD ?_
  clear hP hD H
  intro p e s m below meth c ls A Q H hx hb hr hml hown hts hlocks hl hK hQ hA hH hT hR htab hP hD hS
  clear hH
  have hl : lv_has ls 6 [(0, .ref (ad 0)), (1, .int f), (2, .int s9), (3, .int t9), (4, .ref oo)] := hl
  have RR0 := hRX H hP
  refine lv_aload hx hb dL_setDice_0 (lv_at hl 4 rfl) ?_
  refine lv_iconst (v := 0) hx hb dL_setDice_2 (by first | decide | rfl) ?_
  refine lv_aload_n hx hb dL_setDice_3 rfl (lv_at hl 0 rfl) ?_
  refine lv_iload_n hx hb dL_setDice_4 rfl (lv_at hl 1 rfl) ?_
  refine lv_iload_n hx hb dL_setDice_5 rfl (lv_at hl 2 rfl) ?_
  refine lv_iload_n hx hb dL_setDice_6 rfl (lv_at hl 3 rfl) ?_
  refine wh_catchV (As := [.int f, .int s9, .int t9]) (rest := [.int 0, .ref oo]) (b := ad 0) ⟨hx, hb, hml, hown, hts⟩ hT hR hK 3 (t_setDice2 l hl9 D cs z mi H RR0 f s9 t9 hv hop) (gin_v mw_4_14 mw_4_15 mw_4_16 mw_1_2 mw_4_17) (by decide +kernel) ⟨Nat.le_of_ble_eq_true rfl, Nat.le_of_ble_eq_true rfl⟩ (va_recv hK RR0.1 (ci := 3) (q0 := 0) rfl rfl) rfl hl.1 rfl (Nat.le_of_ble_eq_true rfl) dL_setDice_7 ⟨Nat.le_of_ble_eq_true rfl, Nat.le_of_ble_eq_true rfl⟩ hP hD hS hA (fun qx9 ce9 H locs hP hD hS hc1 hc2 hc3 => ?_)
  refine vx_catch (E := xISE) (name := xISE) hown [⟨0, 12, 15, 13⟩] ⟨0, 12, 19, 15⟩ [] (htab.trans rfl) (fun z9 hz9 => by rw [List.mem_singleton.mp hz9]; exact Or.inr ⟨by decide, xIAE, (hts (Cond.classLink RL 13 "java/lang/IllegalArgumentException") mw_4_12), cn_nc hT.2.2.2.2.2.2.2 (by decide +kernel)⟩) rfl (by decide) (hts (Cond.classLink RL 15 "java/lang/IllegalStateException") mw_4_13) (cd_use hT.2.2.2.2.2.2.1 cd_ISE) hc1 hc2 hc3 ?_
  refine W.eq (g2 := F0 m 19 ls [.ref qx9]) rfl ?_
  refine lv_astore (lv' := [(5, .ref qx9), (0, .ref (ad 0)), (1, .int f), (2, .int s9), (3, .int t9), (4, .ref oo)]) hx hb dL_setDice_19 hl (by decide) rfl (fun ls hl => ?_)
  refine lv_iconst (v := 2) hx hb dL_setDice_21 (by first | decide | rfl) ?_
  refine W.widen (k := 1) (n := 6) (Nat.le_of_ble_eq_true rfl) (Nat.le_of_ble_eq_true rfl) ?_
  exact wr_iret hQ hx hb hr hlocks hP hD hS (hpost) dL_setDice_22
