/-! the class: runs that throw; rows by program -/
set_option maxHeartbeats 4000000 in
set_option maxRecDepth 100000 in
theorem t_lay6 (l : Launch) (hl9 : l.stackTraces = false) (D : va_G) (cs : Nat → ClassId) (z mi : Nat) (H : Heap) {ad : Nat → Nat} {bank rnds cnt mcn : Int32} {N n cap : Nat} {su fa pu : Nat → Int32} {rf : Nat → Option Nat} {wa : Nat → Nat} {wf : Nat → Nat → Int32} {kd : Nat → Nat} (RR : RX D cs H ad bank rnds cnt mcn N n cap su fa pu rf wa wf kd) (p9 : Nat) (hp9 : p9 < 6) (k9 q9 : Nat) (hk : k9 < 10) (hq : q9 ≤ 36) (s9 : Int32) (hs1 : ¬ s9 < 1) (hs2 : s9 ≤ 100) (w9 : Int32) (h1 : ¬ w9 < 1) (h2 : w9 ≤ 20) (b9 : Int32) (h3 : ¬ b9 < 1) (h4 : b9 ≤ 10) (hn9 : 12 ≤ n) : Wx z mi l D cs 7 yX2_lay cX2_lay 8 (some .int) H [.ref (ad 0), .int (nI p9), .int (nI k9), .int (nI q9), .int s9, .int w9, .int b9] xISE := by
  refine wx_ent (by decide) (Nat.le_of_ble_eq_true rfl) ?_
  intro p e s m below meth c ls Q hx hb hr hml hown hts hlocks hl hK hT hR hH hex hQ
  have hl : lv_has ls 8 [(0, .ref (ad 0)), (1, .int (nI p9)), (2, .int (nI k9)), (3, .int (nI q9)), (4, .int s9), (5, .int w9), (6, .int b9)] := hl
  have RR0 := RR
  obtain ⟨hP, hG, hN1, hN, hn, hcap⟩ := RR
  refine lv_iload_n hx hb dX2_lay_0 rfl (lv_at hl 1 rfl) ?_
  refine rdS (As := [.int (nI p9)]) (rest := []) ⟨hx, hb, hml, hown, hts⟩ hK 1 (c_checkPatron l D cs H p9 (by omega)) (gin_s mw_10_19 mw_10_20 mw_1_2 mw_10_21) (by decide +kernel) ⟨Nat.le_of_ble_eq_true rfl, Nat.le_of_ble_eq_true rfl⟩ rfl hl.1 rfl (Nat.le_of_ble_eq_true rfl) dX2_lay_1 ⟨(Nat.zero_le _), (Nat.zero_le _)⟩ ?_
  refine W.eq (g2 := F0 m 4 ls []) rfl ?_
  refine lv_iload_n hx hb dX2_lay_4 rfl (lv_at hl 2 rfl) ?_
  refine lv_iload_n hx hb dX2_lay_5 rfl (lv_at hl 3 rfl) ?_
  refine rdS (As := [.int (nI k9), .int (nI q9)]) (rest := []) ⟨hx, hb, hml, hown, hts⟩ hK 2 (c_checkEvent l D cs H k9 q9 hk hq) (gin_s mw_10_22 mw_10_23 mw_1_2 mw_11_0) (by decide +kernel) ⟨Nat.le_of_ble_eq_true rfl, Nat.le_of_ble_eq_true rfl⟩ rfl hl.1 rfl (Nat.le_of_ble_eq_true rfl) dX2_lay_6 ⟨(Nat.zero_le _), (Nat.zero_le _)⟩ ?_
  refine W.eq (g2 := F0 m 9 ls []) rfl ?_
  refine lv_iload hx hb dX2_lay_9 (lv_at hl 4 rfl) ?_
  refine lv_iconst (v := 1) hx hb dX2_lay_11 (by first | decide | rfl) ?_
  refine lv_icmp_lt (tgt := 22) hx hb dX2_lay_12 (by decide) (fun c_1 => False.elim (absurd c_1 hs1)) (fun c_1 => ?_)
  refine lv_iload hx hb dX2_lay_15 (lv_at hl 4 rfl) ?_
  refine lv_bipush (v := 100) hx hb dX2_lay_17 (by first | decide | rfl) ?_
  refine lv_icmp_le (tgt := 32) hx hb dX2_lay_19 (by decide) (fun c_2 => ?_) (fun c_2 => False.elim (absurd hs2 c_2))
  refine lv_iload hx hb dX2_lay_32 (lv_at hl 5 rfl) ?_
  refine rdS (As := [.int w9]) (rest := []) ⟨hx, hb, hml, hown, hts⟩ hK 1 (c_checkWin l D cs H w9 h1 h2) (gin_s mw_11_1 mw_11_2 mw_1_2 mw_11_3) (by decide +kernel) ⟨Nat.le_of_ble_eq_true rfl, Nat.le_of_ble_eq_true rfl⟩ rfl hl.1 rfl (Nat.le_of_ble_eq_true rfl) dX2_lay_34 ⟨(Nat.zero_le _), (Nat.zero_le _)⟩ ?_
  refine W.eq (g2 := F0 m 37 ls []) rfl ?_
  refine lv_iload hx hb dX2_lay_37 (lv_at hl 6 rfl) ?_
  refine rdS (As := [.int b9]) (rest := []) ⟨hx, hb, hml, hown, hts⟩ hK 1 (c_checkBase l D cs H b9 h3 h4) (gin_s mw_11_4 mw_11_5 mw_1_2 mw_11_6) (by decide +kernel) ⟨Nat.le_of_ble_eq_true rfl, Nat.le_of_ble_eq_true rfl⟩ rfl hl.1 rfl (Nat.le_of_ble_eq_true rfl) dX2_lay_39 ⟨(Nat.zero_le _), (Nat.zero_le _)⟩ ?_
  refine W.eq (g2 := F0 m 42 ls []) rfl ?_
  refine lv_aload_n hx hb dX2_lay_42 rfl (lv_at hl 0 rfl) ?_
  refine va_get (D := D) (ci := 3) (v := .ref (ad 2)) (C := RX2) (T := TX2) (N := 5) hx hb hts inlX2 hown hK hP 0 rfl rfl 1 (by decide) (hts (Cond.fieldLink RX2 19 "TavernDice" "wagers" "Ljava/util/ArrayList;") mw_1_18) (fun _ h9 => h9) rfl dX2_lay_43 ?_
  refine rdV (As := []) (rest := []) (b := ad 2) ⟨hx, hb, hml, hown, hts⟩ hK 0 (c_size l D cs H (hP.sub [4] rfl)) (gin_v mw_6_15 mw_6_16 mw_6_17 mw_1_17 mw_6_18) (by decide +kernel) ⟨Nat.le_of_ble_eq_true rfl, Nat.le_of_ble_eq_true rfl⟩ (va_recv hK hP (ci := 0) (q0 := 4) rfl rfl) rfl hl.1 rfl (Nat.le_of_ble_eq_true rfl) dX2_lay_46 ⟨(Nat.zero_le _), (Nat.zero_le _)⟩ ?_
  refine W.eq (g2 := F0 m 49 ls [.int (nI n)]) rfl ?_
  refine lv_bipush (v := nI 12) hx hb dX2_lay_49 (by first | decide | rfl) ?_
  refine lv_icmp_lt (tgt := 64) hx hb dX2_lay_51 (by decide) (fun c_3 => False.elim (absurd c_3 (nI_nlt hn9 (by omega)))) (fun c_3 => ?_)
  exact wx_throw (E := xISE) (ik := 49) (is := 94) (ic := 53) hQ hH hx hb hl9 hml hown hts hT hR hex hlocks hl.1 fit_ISE mw_5_8 mw_5_9 (List.mem_of_getElem? (i := 3) rfl) (hat_ISE hts hT.2.2.2.2.2.2.1) gd_ISE dX2_lay_54 dX2_lay_57 dX2_lay_58 dX2_lay_60 dX2_lay_63 (by decide) (Nat.le_of_ble_eq_true rfl)
set_option maxHeartbeats 4000000 in
set_option maxRecDepth 100000 in
theorem t_lay7 (l : Launch) (hl9 : l.stackTraces = false) (D : va_G) (cs : Nat → ClassId) (z mi : Nat) (H : Heap) {ad : Nat → Nat} {bank rnds cnt mcn : Int32} {N n cap : Nat} {su fa pu : Nat → Int32} {rf : Nat → Option Nat} {wa : Nat → Nat} {wf : Nat → Nat → Int32} {kd : Nat → Nat} (RR : RX D cs H ad bank rnds cnt mcn N n cap su fa pu rf wa wf kd) (p9 : Nat) (hp9 : p9 < 6) (k9 q9 : Nat) (hk : k9 < 10) (hq : q9 ≤ 36) (s9 : Int32) (hs1 : ¬ s9 < 1) (hs2 : s9 ≤ 100) (w9 : Int32) (h1 : ¬ w9 < 1) (h2 : w9 ≤ 20) (b9 : Int32) (h3 : ¬ b9 < 1) (h4 : b9 ≤ 10) (hn9 : n < 12) (hpu : ¬ s9 ≤ pu p9) : Wx z mi l D cs 7 yX2_lay cX2_lay 8 (some .int) H [.ref (ad 0), .int (nI p9), .int (nI k9), .int (nI q9), .int s9, .int w9, .int b9] xISE := by
  refine wx_ent (by decide) (Nat.le_of_ble_eq_true rfl) ?_
  intro p e s m below meth c ls Q hx hb hr hml hown hts hlocks hl hK hT hR hH hex hQ
  have hl : lv_has ls 8 [(0, .ref (ad 0)), (1, .int (nI p9)), (2, .int (nI k9)), (3, .int (nI q9)), (4, .int s9), (5, .int w9), (6, .int b9)] := hl
  have RR0 := RR
  obtain ⟨hP, hG, hN1, hN, hn, hcap⟩ := RR
  refine lv_iload_n hx hb dX2_lay_0 rfl (lv_at hl 1 rfl) ?_
  refine rdS (As := [.int (nI p9)]) (rest := []) ⟨hx, hb, hml, hown, hts⟩ hK 1 (c_checkPatron l D cs H p9 (by omega)) (gin_s mw_10_19 mw_10_20 mw_1_2 mw_10_21) (by decide +kernel) ⟨Nat.le_of_ble_eq_true rfl, Nat.le_of_ble_eq_true rfl⟩ rfl hl.1 rfl (Nat.le_of_ble_eq_true rfl) dX2_lay_1 ⟨(Nat.zero_le _), (Nat.zero_le _)⟩ ?_
  refine W.eq (g2 := F0 m 4 ls []) rfl ?_
  refine lv_iload_n hx hb dX2_lay_4 rfl (lv_at hl 2 rfl) ?_
  refine lv_iload_n hx hb dX2_lay_5 rfl (lv_at hl 3 rfl) ?_
  refine rdS (As := [.int (nI k9), .int (nI q9)]) (rest := []) ⟨hx, hb, hml, hown, hts⟩ hK 2 (c_checkEvent l D cs H k9 q9 hk hq) (gin_s mw_10_22 mw_10_23 mw_1_2 mw_11_0) (by decide +kernel) ⟨Nat.le_of_ble_eq_true rfl, Nat.le_of_ble_eq_true rfl⟩ rfl hl.1 rfl (Nat.le_of_ble_eq_true rfl) dX2_lay_6 ⟨(Nat.zero_le _), (Nat.zero_le _)⟩ ?_
  refine W.eq (g2 := F0 m 9 ls []) rfl ?_
  refine lv_iload hx hb dX2_lay_9 (lv_at hl 4 rfl) ?_
  refine lv_iconst (v := 1) hx hb dX2_lay_11 (by first | decide | rfl) ?_
  refine lv_icmp_lt (tgt := 22) hx hb dX2_lay_12 (by decide) (fun c_1 => False.elim (absurd c_1 hs1)) (fun c_1 => ?_)
  refine lv_iload hx hb dX2_lay_15 (lv_at hl 4 rfl) ?_
  refine lv_bipush (v := 100) hx hb dX2_lay_17 (by first | decide | rfl) ?_
  refine lv_icmp_le (tgt := 32) hx hb dX2_lay_19 (by decide) (fun c_2 => ?_) (fun c_2 => False.elim (absurd hs2 c_2))
  refine lv_iload hx hb dX2_lay_32 (lv_at hl 5 rfl) ?_
  refine rdS (As := [.int w9]) (rest := []) ⟨hx, hb, hml, hown, hts⟩ hK 1 (c_checkWin l D cs H w9 h1 h2) (gin_s mw_11_1 mw_11_2 mw_1_2 mw_11_3) (by decide +kernel) ⟨Nat.le_of_ble_eq_true rfl, Nat.le_of_ble_eq_true rfl⟩ rfl hl.1 rfl (Nat.le_of_ble_eq_true rfl) dX2_lay_34 ⟨(Nat.zero_le _), (Nat.zero_le _)⟩ ?_
  refine W.eq (g2 := F0 m 37 ls []) rfl ?_
  refine lv_iload hx hb dX2_lay_37 (lv_at hl 6 rfl) ?_
  refine rdS (As := [.int b9]) (rest := []) ⟨hx, hb, hml, hown, hts⟩ hK 1 (c_checkBase l D cs H b9 h3 h4) (gin_s mw_11_4 mw_11_5 mw_1_2 mw_11_6) (by decide +kernel) ⟨Nat.le_of_ble_eq_true rfl, Nat.le_of_ble_eq_true rfl⟩ rfl hl.1 rfl (Nat.le_of_ble_eq_true rfl) dX2_lay_39 ⟨(Nat.zero_le _), (Nat.zero_le _)⟩ ?_
  refine W.eq (g2 := F0 m 42 ls []) rfl ?_
  refine lv_aload_n hx hb dX2_lay_42 rfl (lv_at hl 0 rfl) ?_
  refine va_get (D := D) (ci := 3) (v := .ref (ad 2)) (C := RX2) (T := TX2) (N := 5) hx hb hts inlX2 hown hK hP 0 rfl rfl 1 (by decide) (hts (Cond.fieldLink RX2 19 "TavernDice" "wagers" "Ljava/util/ArrayList;") mw_1_18) (fun _ h9 => h9) rfl dX2_lay_43 ?_
  refine rdV (As := []) (rest := []) (b := ad 2) ⟨hx, hb, hml, hown, hts⟩ hK 0 (c_size l D cs H (hP.sub [4] rfl)) (gin_v mw_6_15 mw_6_16 mw_6_17 mw_1_17 mw_6_18) (by decide +kernel) ⟨Nat.le_of_ble_eq_true rfl, Nat.le_of_ble_eq_true rfl⟩ (va_recv hK hP (ci := 0) (q0 := 4) rfl rfl) rfl hl.1 rfl (Nat.le_of_ble_eq_true rfl) dX2_lay_46 ⟨(Nat.zero_le _), (Nat.zero_le _)⟩ ?_
  refine W.eq (g2 := F0 m 49 ls [.int (nI n)]) rfl ?_
  refine lv_bipush (v := nI 12) hx hb dX2_lay_49 (by first | decide | rfl) ?_
  refine lv_icmp_lt (tgt := 64) hx hb dX2_lay_51 (by decide) (fun c_3 => ?_) (fun c_3 => False.elim (c_3 (nI_lt hn9 (by omega))))
  refine lv_aload_n hx hb dX2_lay_64 rfl (lv_at hl 0 rfl) ?_
  refine va_get (D := D) (ci := 3) (v := .ref (ad 3)) (C := RX2) (T := TX2) (N := 5) hx hb hts inlX2 hown hK hP 0 rfl rfl 2 (by decide) (hts (Cond.fieldLink RX2 23 "TavernDice" "purses" "[I") mw_1_19) (fun _ h9 => h9) rfl dX2_lay_65 ?_
  refine lv_iload_n hx hb dX2_lay_68 rfl (lv_at hl 1 rfl) ?_
  refine va_iald hx hb hK hP 5 0 rfl rfl (vp_in_nI (by omega) (by omega)) dX2_lay_69 ?_
  refine lv_rwi (y := pu p9) (congrArg pu (nI_clamp (by omega))) ?_
  refine lv_iload hx hb dX2_lay_70 (lv_at hl 4 rfl) ?_
  refine lv_icmp_ge (tgt := 85) hx hb dX2_lay_72 (by decide) (fun c_4 => False.elim (absurd c_4 hpu)) (fun c_4 => ?_)
  exact wx_throw (E := xISE) (ik := 49) (is := 96) (ic := 53) hQ hH hx hb hl9 hml hown hts hT hR hex hlocks hl.1 fit_ISE mw_5_8 mw_5_9 (List.mem_of_getElem? (i := 4) rfl) (hat_ISE hts hT.2.2.2.2.2.2.1) gd_ISE dX2_lay_75 dX2_lay_78 dX2_lay_79 dX2_lay_81 dX2_lay_84 (by decide) (Nat.le_of_ble_eq_true rfl)
