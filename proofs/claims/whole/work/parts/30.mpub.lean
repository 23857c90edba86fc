/-! the reference: its public methods, third part; rows by program -/
set_option maxHeartbeats 4000000 in
set_option maxRecDepth 100000 in
theorem mp_setDice1 (l : Launch) (D : va_G) (cs : Nat → ClassId) (H : Heap) {am : Nat → Nat} {th bank rnds : Int32} {dn N : Nat} {fc pu wh kn nm sk br ht sg : Nat → Int32} {fn : Nat → Nat} (hF : FM fn dn N 0 fc) (a : Nat) (ha : inM (nI a) 2 12 = true) (ha2 : 2 ≤ a ∧ a ≤ 12) (post : Option Value → va_W → Prop) (hpost : post (some (.int (nI (a * 1 * 1)))) (wM cs am 0 bank rnds 1 ((a * 1 * 1)) 0 ((upd (upd (upd fc 0 (nI a)) 1 (nI 1)) 2 (nI 1))) pu wh kn nm sk br ht sg)) (hP : va_P D vwCl (wM cs am th bank rnds dn N 0 fc pu wh kn nm sk br ht sg) H) (hD : va_D (fun _ => True) (wM cs am th bank rnds dn N 0 fc pu wh kn nm sk br ht sg)) : Wr l D cs 3 0 0 yX3_setDice cX3_setDice 4 (some .int) (wM cs am th bank rnds dn N 0 fc pu wh kn nm sk br ht sg) H [.ref (am 0), .int (nI a), .int 0, .int 0] post := by
  refine wr_ent (by decide) (Nat.le_of_ble_eq_true rfl) hP hD ?_
  clear hP hD H
  intro p e s m below meth c ls A Q H hx hb hr hml hown hts hlocks hin hl hK hQ hA hH hP hD hS
  clear hH
  have hl : lv_has ls 4 [(0, .ref (am 0)), (1, .int (nI a)), (2, .int 0), (3, .int 0)] := hl
  have hF0 := hF
  obtain ⟨hF3, hd1, hd3, hNe, hN1, hN, hn⟩ := hF
  refine lv_aload_n hx hb dX3_setDice_0 rfl (lv_at hl 0 rfl) ?_
  refine lv_iconst (v := 0) hx hb dX3_setDice_1 (by first | decide | rfl) ?_
  refine va_put (D := D) (ci := 4) (v := .int 0) (ty := .int) (C := RX3) (T := TX3) (N := 15) hx hb hts inlX3 tyX3 tyX3_ok nmX3 hown hK hP hD hS 0 rfl rfl 0 (by decide) (hts (Cond.fieldLink RX3 48 "TavernDiceModel" "thrown" "I") mw_5_15) (fun _ h9 => h9) rfl (by decide +kernel) rfl rfl (Nat.le_of_ble_eq_true rfl) dX3_setDice_2 (fun H locs hP hD hS => ?_)
  have hP : va_P D vwCl (wM cs am 0 bank rnds dn N 0 fc pu wh kn nm sk br ht sg) H := hP
  have hD : va_D _ (wM cs am 0 bank rnds dn N 0 fc pu wh kn nm sk br ht sg) := hD
  refine lv_iload_n hx hb dX3_setDice_5 rfl (lv_at hl 1 rfl) ?_
  refine rdS (As := [.int (nI a)]) (rest := []) ⟨hx, hb, hml, hown, hts⟩ hK 1 (m_isDie l D cs H (nI a)) (gin_s mw_5_20 mw_5_21 mw_1_5 mw_5_22) (by decide +kernel) ⟨Nat.le_of_ble_eq_true rfl, Nat.le_of_ble_eq_true rfl⟩ rfl hl.1 rfl (Nat.le_of_ble_eq_true rfl) dX3_setDice_6 ⟨(Nat.le_of_ble_eq_true rfl), (Nat.le_of_ble_eq_true rfl)⟩ ?_
  refine W.eq (g2 := F0 m 9 ls [.int (b2i (inM (nI a) 2 12))]) rfl ?_
  refine lv_if_eq (tgt := 42) hx hb dX3_setDice_9 (by decide) (fun c_1 => False.elim (absurd c_1 ((b2i_ne0 _).mpr ha))) (fun c_1 => ?_)
  refine lv_iload_n hx hb dX3_setDice_12 rfl (lv_at hl 2 rfl) ?_
  refine lv_if_eq (tgt := 23) hx hb dX3_setDice_13 (by decide) (fun c_2 => ?_) (fun c_2 => False.elim (c_2 rfl))
  refine lv_iload_n hx hb dX3_setDice_23 rfl (lv_at hl 3 rfl) ?_
  refine lv_if_eq (tgt := 34) hx hb dX3_setDice_24 (by decide) (fun c_3 => ?_) (fun c_3 => False.elim (c_3 rfl))
  refine lv_iload_n hx hb dX3_setDice_34 rfl (lv_at hl 2 rfl) ?_
  refine lv_if_ne (tgt := 48) hx hb dX3_setDice_35 (by decide) (fun c_4 => False.elim (c_4 rfl)) (fun c_4 => ?_)
  refine lv_iload_n hx hb dX3_setDice_38 rfl (lv_at hl 3 rfl) ?_
  refine lv_if_eq (tgt := 48) hx hb dX3_setDice_39 (by decide) (fun c_5 => ?_) (fun c_5 => False.elim (c_5 rfl))
  refine lv_aload_n hx hb dX3_setDice_48 rfl (lv_at hl 0 rfl) ?_
  refine va_get (D := D) (ci := 4) (v := .int (nI 0)) (C := RX3) (T := TX3) (N := 15) hx hb hts inlX3 hown hK hP 0 rfl rfl 7 (by decide) (hts (Cond.fieldLink RX3 51 "TavernDiceModel" "open" "I") mw_5_16) (fun _ h9 => h9) rfl dX3_setDice_49 ?_
  refine lv_if_le (tgt := 61) hx hb dX3_setDice_52 (by decide) (fun c_6 => ?_) (fun c_6 => False.elim (c_6 (by decide)))
  refine lv_aload_n hx hb dX3_setDice_61 rfl (lv_at hl 0 rfl) ?_
  refine va_get (D := D) (ci := 4) (v := .ref (am 1)) (C := RX3) (T := TX3) (N := 15) hx hb hts inlX3 hown hK hP 0 rfl rfl 1 (by decide) (hts (Cond.fieldLink RX3 9 "TavernDiceModel" "faces" "[I") mw_3_19) (fun _ h9 => h9) rfl dX3_setDice_62 ?_
  refine lv_iconst (v := 0) hx hb dX3_setDice_65 (by first | decide | rfl) ?_
  refine lv_iload_n hx hb dX3_setDice_66 rfl (lv_at hl 1 rfl) ?_
  refine va_iast hx hb hK hP hD hS 1 0 rfl rfl (vp_in_nI (n := 0) (by omega) (by omega)) dX3_setDice_67 (fun H locs hP hD hS => ?_)
  have g9 : upd fc (0 : Int32).toNatClampNeg (nI a) = upd fc 0 (nI a) := congrArg (fun z => upd fc z (nI a)) (by decide)
  have hP : va_P D vwCl (wM cs am 0 bank rnds dn N 0 (upd fc 0 (nI a)) pu wh kn nm sk br ht sg) H := Eq.mp (congrArg (fun z9 => va_P D vwCl (wM cs am 0 bank rnds dn N 0 z9 pu wh kn nm sk br ht sg) H) g9) hP
  have hD : va_D _ (wM cs am 0 bank rnds dn N 0 (upd fc 0 (nI a)) pu wh kn nm sk br ht sg) := Eq.mp (congrArg (fun z9 => va_D _ (wM cs am 0 bank rnds dn N 0 z9 pu wh kn nm sk br ht sg)) g9) hD
  refine lv_aload_n hx hb dX3_setDice_68 rfl (lv_at hl 0 rfl) ?_
  refine va_get (D := D) (ci := 4) (v := .ref (am 1)) (C := RX3) (T := TX3) (N := 15) hx hb hts inlX3 hown hK hP 0 rfl rfl 1 (by decide) (hts (Cond.fieldLink RX3 9 "TavernDiceModel" "faces" "[I") mw_3_19) (fun _ h9 => h9) rfl dX3_setDice_69 ?_
  refine lv_iconst (v := 1) hx hb dX3_setDice_72 (by first | decide | rfl) ?_
  refine lv_iconst (v := 1) hx hb dX3_setDice_73 (by first | decide | rfl) ?_
  refine lv_iload_n hx hb dX3_setDice_74 rfl (lv_at hl 2 rfl) ?_
  refine va_mmax hx hb (hml.trans hl.1.symm) hown (hts (Cond.methodLink RX3 105 Lib.Math.max.name) mw_5_17) (hts (Cond.static Lib.Math.max.name) mw_5_18) (hts (Cond.initialized "java/lang/Math") mw_2_15) (hts (Cond.code Lib.Math.max.name Lib.Math.max.code 2 (some .int)) mw_5_19) (Nat.le_of_ble_eq_true rfl) (Nat.le_of_ble_eq_true rfl) (Nat.le_of_ble_eq_true rfl) (Nat.le_of_ble_eq_true rfl) dX3_setDice_75 ?_
  refine lv_rwi (y := nI 1) (by decide) ?_
  refine va_iast hx hb hK hP hD hS 1 0 rfl rfl (vp_in_nI (n := 1) (by omega) (by omega)) dX3_setDice_78 (fun H locs hP hD hS => ?_)
  have g9 : upd (upd fc 0 (nI a)) (1 : Int32).toNatClampNeg (nI 1) = upd (upd fc 0 (nI a)) 1 (nI 1) := congrArg (fun z => upd (upd fc 0 (nI a)) z (nI 1)) (by decide)
  have hP : va_P D vwCl (wM cs am 0 bank rnds dn N 0 (upd (upd fc 0 (nI a)) 1 (nI 1)) pu wh kn nm sk br ht sg) H := Eq.mp (congrArg (fun z9 => va_P D vwCl (wM cs am 0 bank rnds dn N 0 z9 pu wh kn nm sk br ht sg) H) g9) hP
  have hD : va_D _ (wM cs am 0 bank rnds dn N 0 (upd (upd fc 0 (nI a)) 1 (nI 1)) pu wh kn nm sk br ht sg) := Eq.mp (congrArg (fun z9 => va_D _ (wM cs am 0 bank rnds dn N 0 z9 pu wh kn nm sk br ht sg)) g9) hD
  refine lv_aload_n hx hb dX3_setDice_79 rfl (lv_at hl 0 rfl) ?_
  refine va_get (D := D) (ci := 4) (v := .ref (am 1)) (C := RX3) (T := TX3) (N := 15) hx hb hts inlX3 hown hK hP 0 rfl rfl 1 (by decide) (hts (Cond.fieldLink RX3 9 "TavernDiceModel" "faces" "[I") mw_3_19) (fun _ h9 => h9) rfl dX3_setDice_80 ?_
  refine lv_iconst (v := 2) hx hb dX3_setDice_83 (by first | decide | rfl) ?_
  refine lv_iconst (v := 1) hx hb dX3_setDice_84 (by first | decide | rfl) ?_
  refine lv_iload_n hx hb dX3_setDice_85 rfl (lv_at hl 3 rfl) ?_
  refine va_mmax hx hb (hml.trans hl.1.symm) hown (hts (Cond.methodLink RX3 105 Lib.Math.max.name) mw_5_17) (hts (Cond.static Lib.Math.max.name) mw_5_18) (hts (Cond.initialized "java/lang/Math") mw_2_15) (hts (Cond.code Lib.Math.max.name Lib.Math.max.code 2 (some .int)) mw_5_19) (Nat.le_of_ble_eq_true rfl) (Nat.le_of_ble_eq_true rfl) (Nat.le_of_ble_eq_true rfl) (Nat.le_of_ble_eq_true rfl) dX3_setDice_86 ?_
  refine lv_rwi (y := nI 1) (by decide) ?_
  refine va_iast hx hb hK hP hD hS 1 0 rfl rfl (vp_in_nI (n := 2) (by omega) (by omega)) dX3_setDice_89 (fun H locs hP hD hS => ?_)
  have g9 : upd (upd (upd fc 0 (nI a)) 1 (nI 1)) (2 : Int32).toNatClampNeg (nI 1) = upd (upd (upd fc 0 (nI a)) 1 (nI 1)) 2 (nI 1) := congrArg (fun z => upd (upd (upd fc 0 (nI a)) 1 (nI 1)) z (nI 1)) (by decide)
  have hP : va_P D vwCl (wM cs am 0 bank rnds dn N 0 (upd (upd (upd fc 0 (nI a)) 1 (nI 1)) 2 (nI 1)) pu wh kn nm sk br ht sg) H := Eq.mp (congrArg (fun z9 => va_P D vwCl (wM cs am 0 bank rnds dn N 0 z9 pu wh kn nm sk br ht sg) H) g9) hP
  have hD : va_D _ (wM cs am 0 bank rnds dn N 0 (upd (upd (upd fc 0 (nI a)) 1 (nI 1)) 2 (nI 1)) pu wh kn nm sk br ht sg) := Eq.mp (congrArg (fun z9 => va_D _ (wM cs am 0 bank rnds dn N 0 z9 pu wh kn nm sk br ht sg)) g9) hD
  refine lv_aload_n hx hb dX3_setDice_90 rfl (lv_at hl 0 rfl) ?_
  refine lv_iload_n hx hb dX3_setDice_91 rfl (lv_at hl 2 rfl) ?_
  refine lv_if_ne (tgt := 99) hx hb dX3_setDice_92 (by decide) (fun c_7 => False.elim (c_7 rfl)) (fun c_7 => ?_)
  refine lv_iconst (v := nI 1) hx hb dX3_setDice_95 (by first | decide | rfl) ?_
  refine lv_goto (tgt := 108) hx hb dX3_setDice_96 (by decide) ?_
  refine va_put (D := D) (ci := 4) (v := .int (nI 1)) (ty := .int) (C := RX3) (T := TX3) (N := 15) hx hb hts inlX3 tyX3 tyX3_ok nmX3 hown hK hP hD hS 0 rfl rfl 2 (by decide) (hts (Cond.fieldLink RX3 13 "TavernDiceModel" "dice" "I") mw_3_20) (fun _ h9 => h9) rfl (by decide +kernel) rfl rfl (Nat.le_of_ble_eq_true rfl) dX3_setDice_108 (fun H locs hP hD hS => ?_)
  have hP : va_P D vwCl (wM cs am 0 bank rnds 1 N 0 (upd (upd (upd fc 0 (nI a)) 1 (nI 1)) 2 (nI 1)) pu wh kn nm sk br ht sg) H := hP
  have hD : va_D _ (wM cs am 0 bank rnds 1 N 0 (upd (upd (upd fc 0 (nI a)) 1 (nI 1)) 2 (nI 1)) pu wh kn nm sk br ht sg) := hD
  refine lv_aload_n hx hb dX3_setDice_111 rfl (lv_at hl 0 rfl) ?_
  refine lv_aload_n hx hb dX3_setDice_112 rfl (lv_at hl 0 rfl) ?_
  refine va_get (D := D) (ci := 4) (v := .ref (am 1)) (C := RX3) (T := TX3) (N := 15) hx hb hts inlX3 hown hK hP 0 rfl rfl 1 (by decide) (hts (Cond.fieldLink RX3 9 "TavernDiceModel" "faces" "[I") mw_3_19) (fun _ h9 => h9) rfl dX3_setDice_113 ?_
  refine lv_iconst (v := 0) hx hb dX3_setDice_116 (by first | decide | rfl) ?_
  refine va_iald hx hb hK hP 1 0 rfl rfl (vp_in_nI (n := 0) (by omega) (by omega)) dX3_setDice_117 ?_
  refine lv_rwi (y := nI a) (by rw [show (0 : Int32).toNatClampNeg = 0 from by decide, pk_un (by decide), pk_un (by decide), pk_us]) ?_
  refine lv_aload_n hx hb dX3_setDice_118 rfl (lv_at hl 0 rfl) ?_
  refine va_get (D := D) (ci := 4) (v := .ref (am 1)) (C := RX3) (T := TX3) (N := 15) hx hb hts inlX3 hown hK hP 0 rfl rfl 1 (by decide) (hts (Cond.fieldLink RX3 9 "TavernDiceModel" "faces" "[I") mw_3_19) (fun _ h9 => h9) rfl dX3_setDice_119 ?_
  refine lv_iconst (v := 1) hx hb dX3_setDice_122 (by first | decide | rfl) ?_
  refine va_iald hx hb hK hP 1 0 rfl rfl (vp_in_nI (n := 1) (by omega) (by omega)) dX3_setDice_123 ?_
  refine lv_rwi (y := nI 1) (by rw [show (1 : Int32).toNatClampNeg = 1 from by decide, pk_un (by decide), pk_us]) ?_
  refine lv_imul hx hb dX3_setDice_124 ?_
  refine lv_rwi (y := nI (a * 1)) (pk_mul _ _) ?_
  refine lv_aload_n hx hb dX3_setDice_125 rfl (lv_at hl 0 rfl) ?_
  refine va_get (D := D) (ci := 4) (v := .ref (am 1)) (C := RX3) (T := TX3) (N := 15) hx hb hts inlX3 hown hK hP 0 rfl rfl 1 (by decide) (hts (Cond.fieldLink RX3 9 "TavernDiceModel" "faces" "[I") mw_3_19) (fun _ h9 => h9) rfl dX3_setDice_126 ?_
  refine lv_iconst (v := 2) hx hb dX3_setDice_129 (by first | decide | rfl) ?_
  refine va_iald hx hb hK hP 1 0 rfl rfl (vp_in_nI (n := 2) (by omega) (by omega)) dX3_setDice_130 ?_
  refine lv_rwi (y := nI 1) (by rw [show (2 : Int32).toNatClampNeg = 2 from by decide, pk_us]) ?_
  refine lv_imul hx hb dX3_setDice_131 ?_
  refine lv_rwi (y := nI (a * 1 * 1)) (pk_mul _ _) ?_
  refine va_put (D := D) (ci := 4) (v := .int (nI (a * 1 * 1))) (ty := .int) (C := RX3) (T := TX3) (N := 15) hx hb hts inlX3 tyX3 tyX3_ok nmX3 hown hK hP hD hS 0 rfl rfl 3 (by decide) (hts (Cond.fieldLink RX3 17 "TavernDiceModel" "outcomes" "I") mw_3_21) (fun _ h9 => h9) rfl (by decide +kernel) rfl rfl (Nat.le_of_ble_eq_true rfl) dX3_setDice_132 (fun H locs hP hD hS => ?_)
  have hP : va_P D vwCl (wM cs am 0 bank rnds 1 ((a * 1 * 1)) 0 (upd (upd (upd fc 0 (nI a)) 1 (nI 1)) 2 (nI 1)) pu wh kn nm sk br ht sg) H := hP
  have hD : va_D _ (wM cs am 0 bank rnds 1 ((a * 1 * 1)) 0 (upd (upd (upd fc 0 (nI a)) 1 (nI 1)) 2 (nI 1)) pu wh kn nm sk br ht sg) := hD
  refine lv_aload_n hx hb dX3_setDice_135 rfl (lv_at hl 0 rfl) ?_
  refine va_get (D := D) (ci := 4) (v := .int (nI ((a * 1 * 1)))) (C := RX3) (T := TX3) (N := 15) hx hb hts inlX3 hown hK hP 0 rfl rfl 3 (by decide) (hts (Cond.fieldLink RX3 17 "TavernDiceModel" "outcomes" "I") mw_3_21) (fun _ h9 => h9) rfl dX3_setDice_136 ?_
  exact wr_iret hQ hx hb hr hlocks hP hD hS (hpost) dX3_setDice_139
set_option maxHeartbeats 4000000 in
set_option maxRecDepth 100000 in
theorem mp_setDice2 (l : Launch) (D : va_G) (cs : Nat → ClassId) (H : Heap) {am : Nat → Nat} {th bank rnds : Int32} {dn N : Nat} {fc pu wh kn nm sk br ht sg : Nat → Int32} {fn : Nat → Nat} (hF : FM fn dn N 0 fc) (a : Nat) (ha : inM (nI a) 2 12 = true) (ha2 : 2 ≤ a ∧ a ≤ 12) (b : Nat) (hb1 : inM (nI b) 2 12 = true) (hb2 : 2 ≤ b ∧ b ≤ 12) (post : Option Value → va_W → Prop) (hpost : post (some (.int (nI (a * b * 1)))) (wM cs am 0 bank rnds 2 ((a * b * 1)) 0 ((upd (upd (upd fc 0 (nI a)) 1 (nI b)) 2 (nI 1))) pu wh kn nm sk br ht sg)) (hP : va_P D vwCl (wM cs am th bank rnds dn N 0 fc pu wh kn nm sk br ht sg) H) (hD : va_D (fun _ => True) (wM cs am th bank rnds dn N 0 fc pu wh kn nm sk br ht sg)) : Wr l D cs 3 0 0 yX3_setDice cX3_setDice 4 (some .int) (wM cs am th bank rnds dn N 0 fc pu wh kn nm sk br ht sg) H [.ref (am 0), .int (nI a), .int (nI b), .int 0] post := by
  refine wr_ent (by decide) (Nat.le_of_ble_eq_true rfl) hP hD ?_
  clear hP hD H
  intro p e s m below meth c ls A Q H hx hb hr hml hown hts hlocks hin hl hK hQ hA hH hP hD hS
  clear hH
  have hl : lv_has ls 4 [(0, .ref (am 0)), (1, .int (nI a)), (2, .int (nI b)), (3, .int 0)] := hl
  have hF0 := hF
  obtain ⟨hF3, hd1, hd3, hNe, hN1, hN, hn⟩ := hF
  refine lv_aload_n hx hb dX3_setDice_0 rfl (lv_at hl 0 rfl) ?_
  refine lv_iconst (v := 0) hx hb dX3_setDice_1 (by first | decide | rfl) ?_
  refine va_put (D := D) (ci := 4) (v := .int 0) (ty := .int) (C := RX3) (T := TX3) (N := 15) hx hb hts inlX3 tyX3 tyX3_ok nmX3 hown hK hP hD hS 0 rfl rfl 0 (by decide) (hts (Cond.fieldLink RX3 48 "TavernDiceModel" "thrown" "I") mw_5_15) (fun _ h9 => h9) rfl (by decide +kernel) rfl rfl (Nat.le_of_ble_eq_true rfl) dX3_setDice_2 (fun H locs hP hD hS => ?_)
  have hP : va_P D vwCl (wM cs am 0 bank rnds dn N 0 fc pu wh kn nm sk br ht sg) H := hP
  have hD : va_D _ (wM cs am 0 bank rnds dn N 0 fc pu wh kn nm sk br ht sg) := hD
  refine lv_iload_n hx hb dX3_setDice_5 rfl (lv_at hl 1 rfl) ?_
  refine rdS (As := [.int (nI a)]) (rest := []) ⟨hx, hb, hml, hown, hts⟩ hK 1 (m_isDie l D cs H (nI a)) (gin_s mw_5_20 mw_5_21 mw_1_5 mw_5_22) (by decide +kernel) ⟨Nat.le_of_ble_eq_true rfl, Nat.le_of_ble_eq_true rfl⟩ rfl hl.1 rfl (Nat.le_of_ble_eq_true rfl) dX3_setDice_6 ⟨(Nat.le_of_ble_eq_true rfl), (Nat.le_of_ble_eq_true rfl)⟩ ?_
  refine W.eq (g2 := F0 m 9 ls [.int (b2i (inM (nI a) 2 12))]) rfl ?_
  refine lv_if_eq (tgt := 42) hx hb dX3_setDice_9 (by decide) (fun c_1 => False.elim (absurd c_1 ((b2i_ne0 _).mpr ha))) (fun c_1 => ?_)
  refine lv_iload_n hx hb dX3_setDice_12 rfl (lv_at hl 2 rfl) ?_
  refine lv_if_eq (tgt := 23) hx hb dX3_setDice_13 (by decide) (fun c_2 => False.elim (absurd c_2 (nI_ne0 (by omega) (by omega)))) (fun c_2 => ?_)
  refine lv_iload_n hx hb dX3_setDice_16 rfl (lv_at hl 2 rfl) ?_
  refine rdS (As := [.int (nI b)]) (rest := []) ⟨hx, hb, hml, hown, hts⟩ hK 1 (m_isDie l D cs H (nI b)) (gin_s mw_5_20 mw_5_21 mw_1_5 mw_5_22) (by decide +kernel) ⟨Nat.le_of_ble_eq_true rfl, Nat.le_of_ble_eq_true rfl⟩ rfl hl.1 rfl (Nat.le_of_ble_eq_true rfl) dX3_setDice_17 ⟨(Nat.le_of_ble_eq_true rfl), (Nat.le_of_ble_eq_true rfl)⟩ ?_
  refine W.eq (g2 := F0 m 20 ls [.int (b2i (inM (nI b) 2 12))]) rfl ?_
  refine lv_if_eq (tgt := 42) hx hb dX3_setDice_20 (by decide) (fun c_3 => False.elim (absurd c_3 ((b2i_ne0 _).mpr hb1))) (fun c_3 => ?_)
  refine lv_iload_n hx hb dX3_setDice_23 rfl (lv_at hl 3 rfl) ?_
  refine lv_if_eq (tgt := 34) hx hb dX3_setDice_24 (by decide) (fun c_4 => ?_) (fun c_4 => False.elim (c_4 rfl))
  refine lv_iload_n hx hb dX3_setDice_34 rfl (lv_at hl 2 rfl) ?_
  refine lv_if_ne (tgt := 48) hx hb dX3_setDice_35 (by decide) (fun c_5 => ?_) (fun c_5 => False.elim (nI_ne0 (n := b) (by omega) (by omega) c_5))
  refine lv_aload_n hx hb dX3_setDice_48 rfl (lv_at hl 0 rfl) ?_
  refine va_get (D := D) (ci := 4) (v := .int (nI 0)) (C := RX3) (T := TX3) (N := 15) hx hb hts inlX3 hown hK hP 0 rfl rfl 7 (by decide) (hts (Cond.fieldLink RX3 51 "TavernDiceModel" "open" "I") mw_5_16) (fun _ h9 => h9) rfl dX3_setDice_49 ?_
  refine lv_if_le (tgt := 61) hx hb dX3_setDice_52 (by decide) (fun c_6 => ?_) (fun c_6 => False.elim (c_6 (by decide)))
  refine lv_aload_n hx hb dX3_setDice_61 rfl (lv_at hl 0 rfl) ?_
  refine va_get (D := D) (ci := 4) (v := .ref (am 1)) (C := RX3) (T := TX3) (N := 15) hx hb hts inlX3 hown hK hP 0 rfl rfl 1 (by decide) (hts (Cond.fieldLink RX3 9 "TavernDiceModel" "faces" "[I") mw_3_19) (fun _ h9 => h9) rfl dX3_setDice_62 ?_
  refine lv_iconst (v := 0) hx hb dX3_setDice_65 (by first | decide | rfl) ?_
  refine lv_iload_n hx hb dX3_setDice_66 rfl (lv_at hl 1 rfl) ?_
  refine va_iast hx hb hK hP hD hS 1 0 rfl rfl (vp_in_nI (n := 0) (by omega) (by omega)) dX3_setDice_67 (fun H locs hP hD hS => ?_)
  have g9 : upd fc (0 : Int32).toNatClampNeg (nI a) = upd fc 0 (nI a) := congrArg (fun z => upd fc z (nI a)) (by decide)
  have hP : va_P D vwCl (wM cs am 0 bank rnds dn N 0 (upd fc 0 (nI a)) pu wh kn nm sk br ht sg) H := Eq.mp (congrArg (fun z9 => va_P D vwCl (wM cs am 0 bank rnds dn N 0 z9 pu wh kn nm sk br ht sg) H) g9) hP
  have hD : va_D _ (wM cs am 0 bank rnds dn N 0 (upd fc 0 (nI a)) pu wh kn nm sk br ht sg) := Eq.mp (congrArg (fun z9 => va_D _ (wM cs am 0 bank rnds dn N 0 z9 pu wh kn nm sk br ht sg)) g9) hD
  refine lv_aload_n hx hb dX3_setDice_68 rfl (lv_at hl 0 rfl) ?_
  refine va_get (D := D) (ci := 4) (v := .ref (am 1)) (C := RX3) (T := TX3) (N := 15) hx hb hts inlX3 hown hK hP 0 rfl rfl 1 (by decide) (hts (Cond.fieldLink RX3 9 "TavernDiceModel" "faces" "[I") mw_3_19) (fun _ h9 => h9) rfl dX3_setDice_69 ?_
  refine lv_iconst (v := 1) hx hb dX3_setDice_72 (by first | decide | rfl) ?_
  refine lv_iconst (v := 1) hx hb dX3_setDice_73 (by first | decide | rfl) ?_
  refine lv_iload_n hx hb dX3_setDice_74 rfl (lv_at hl 2 rfl) ?_
  refine va_mmax hx hb (hml.trans hl.1.symm) hown (hts (Cond.methodLink RX3 105 Lib.Math.max.name) mw_5_17) (hts (Cond.static Lib.Math.max.name) mw_5_18) (hts (Cond.initialized "java/lang/Math") mw_2_15) (hts (Cond.code Lib.Math.max.name Lib.Math.max.code 2 (some .int)) mw_5_19) (Nat.le_of_ble_eq_true rfl) (Nat.le_of_ble_eq_true rfl) (Nat.le_of_ble_eq_true rfl) (Nat.le_of_ble_eq_true rfl) dX3_setDice_75 ?_
  refine lv_rwi (y := nI b) (if_pos (nI_lt (a := 1) (by omega) (by omega))) ?_
  refine va_iast hx hb hK hP hD hS 1 0 rfl rfl (vp_in_nI (n := 1) (by omega) (by omega)) dX3_setDice_78 (fun H locs hP hD hS => ?_)
  have g9 : upd (upd fc 0 (nI a)) (1 : Int32).toNatClampNeg (nI b) = upd (upd fc 0 (nI a)) 1 (nI b) := congrArg (fun z => upd (upd fc 0 (nI a)) z (nI b)) (by decide)
  have hP : va_P D vwCl (wM cs am 0 bank rnds dn N 0 (upd (upd fc 0 (nI a)) 1 (nI b)) pu wh kn nm sk br ht sg) H := Eq.mp (congrArg (fun z9 => va_P D vwCl (wM cs am 0 bank rnds dn N 0 z9 pu wh kn nm sk br ht sg) H) g9) hP
  have hD : va_D _ (wM cs am 0 bank rnds dn N 0 (upd (upd fc 0 (nI a)) 1 (nI b)) pu wh kn nm sk br ht sg) := Eq.mp (congrArg (fun z9 => va_D _ (wM cs am 0 bank rnds dn N 0 z9 pu wh kn nm sk br ht sg)) g9) hD
  refine lv_aload_n hx hb dX3_setDice_79 rfl (lv_at hl 0 rfl) ?_
  refine va_get (D := D) (ci := 4) (v := .ref (am 1)) (C := RX3) (T := TX3) (N := 15) hx hb hts inlX3 hown hK hP 0 rfl rfl 1 (by decide) (hts (Cond.fieldLink RX3 9 "TavernDiceModel" "faces" "[I") mw_3_19) (fun _ h9 => h9) rfl dX3_setDice_80 ?_
  refine lv_iconst (v := 2) hx hb dX3_setDice_83 (by first | decide | rfl) ?_
  refine lv_iconst (v := 1) hx hb dX3_setDice_84 (by first | decide | rfl) ?_
  refine lv_iload_n hx hb dX3_setDice_85 rfl (lv_at hl 3 rfl) ?_
  refine va_mmax hx hb (hml.trans hl.1.symm) hown (hts (Cond.methodLink RX3 105 Lib.Math.max.name) mw_5_17) (hts (Cond.static Lib.Math.max.name) mw_5_18) (hts (Cond.initialized "java/lang/Math") mw_2_15) (hts (Cond.code Lib.Math.max.name Lib.Math.max.code 2 (some .int)) mw_5_19) (Nat.le_of_ble_eq_true rfl) (Nat.le_of_ble_eq_true rfl) (Nat.le_of_ble_eq_true rfl) (Nat.le_of_ble_eq_true rfl) dX3_setDice_86 ?_
  refine lv_rwi (y := nI 1) (by decide) ?_
  refine va_iast hx hb hK hP hD hS 1 0 rfl rfl (vp_in_nI (n := 2) (by omega) (by omega)) dX3_setDice_89 (fun H locs hP hD hS => ?_)
  have g9 : upd (upd (upd fc 0 (nI a)) 1 (nI b)) (2 : Int32).toNatClampNeg (nI 1) = upd (upd (upd fc 0 (nI a)) 1 (nI b)) 2 (nI 1) := congrArg (fun z => upd (upd (upd fc 0 (nI a)) 1 (nI b)) z (nI 1)) (by decide)
  have hP : va_P D vwCl (wM cs am 0 bank rnds dn N 0 (upd (upd (upd fc 0 (nI a)) 1 (nI b)) 2 (nI 1)) pu wh kn nm sk br ht sg) H := Eq.mp (congrArg (fun z9 => va_P D vwCl (wM cs am 0 bank rnds dn N 0 z9 pu wh kn nm sk br ht sg) H) g9) hP
  have hD : va_D _ (wM cs am 0 bank rnds dn N 0 (upd (upd (upd fc 0 (nI a)) 1 (nI b)) 2 (nI 1)) pu wh kn nm sk br ht sg) := Eq.mp (congrArg (fun z9 => va_D _ (wM cs am 0 bank rnds dn N 0 z9 pu wh kn nm sk br ht sg)) g9) hD
  refine lv_aload_n hx hb dX3_setDice_90 rfl (lv_at hl 0 rfl) ?_
  refine lv_iload_n hx hb dX3_setDice_91 rfl (lv_at hl 2 rfl) ?_
  refine lv_if_ne (tgt := 99) hx hb dX3_setDice_92 (by decide) (fun c_7 => ?_) (fun c_7 => False.elim (nI_ne0 (n := b) (by omega) (by omega) c_7))
  refine lv_iload_n hx hb dX3_setDice_99 rfl (lv_at hl 3 rfl) ?_
  refine lv_if_ne (tgt := 107) hx hb dX3_setDice_100 (by decide) (fun c_8 => False.elim (c_8 rfl)) (fun c_8 => ?_)
  refine lv_iconst (v := nI 2) hx hb dX3_setDice_103 (by first | decide | rfl) ?_
  refine lv_goto (tgt := 108) hx hb dX3_setDice_104 (by decide) ?_
  refine va_put (D := D) (ci := 4) (v := .int (nI 2)) (ty := .int) (C := RX3) (T := TX3) (N := 15) hx hb hts inlX3 tyX3 tyX3_ok nmX3 hown hK hP hD hS 0 rfl rfl 2 (by decide) (hts (Cond.fieldLink RX3 13 "TavernDiceModel" "dice" "I") mw_3_20) (fun _ h9 => h9) rfl (by decide +kernel) rfl rfl (Nat.le_of_ble_eq_true rfl) dX3_setDice_108 (fun H locs hP hD hS => ?_)
  have hP : va_P D vwCl (wM cs am 0 bank rnds 2 N 0 (upd (upd (upd fc 0 (nI a)) 1 (nI b)) 2 (nI 1)) pu wh kn nm sk br ht sg) H := hP
  have hD : va_D _ (wM cs am 0 bank rnds 2 N 0 (upd (upd (upd fc 0 (nI a)) 1 (nI b)) 2 (nI 1)) pu wh kn nm sk br ht sg) := hD
  refine lv_aload_n hx hb dX3_setDice_111 rfl (lv_at hl 0 rfl) ?_
  refine lv_aload_n hx hb dX3_setDice_112 rfl (lv_at hl 0 rfl) ?_
  refine va_get (D := D) (ci := 4) (v := .ref (am 1)) (C := RX3) (T := TX3) (N := 15) hx hb hts inlX3 hown hK hP 0 rfl rfl 1 (by decide) (hts (Cond.fieldLink RX3 9 "TavernDiceModel" "faces" "[I") mw_3_19) (fun _ h9 => h9) rfl dX3_setDice_113 ?_
  refine lv_iconst (v := 0) hx hb dX3_setDice_116 (by first | decide | rfl) ?_
  refine va_iald hx hb hK hP 1 0 rfl rfl (vp_in_nI (n := 0) (by omega) (by omega)) dX3_setDice_117 ?_
  refine lv_rwi (y := nI a) (by rw [show (0 : Int32).toNatClampNeg = 0 from by decide, pk_un (by decide), pk_un (by decide), pk_us]) ?_
  refine lv_aload_n hx hb dX3_setDice_118 rfl (lv_at hl 0 rfl) ?_
  refine va_get (D := D) (ci := 4) (v := .ref (am 1)) (C := RX3) (T := TX3) (N := 15) hx hb hts inlX3 hown hK hP 0 rfl rfl 1 (by decide) (hts (Cond.fieldLink RX3 9 "TavernDiceModel" "faces" "[I") mw_3_19) (fun _ h9 => h9) rfl dX3_setDice_119 ?_
  refine lv_iconst (v := 1) hx hb dX3_setDice_122 (by first | decide | rfl) ?_
  refine va_iald hx hb hK hP 1 0 rfl rfl (vp_in_nI (n := 1) (by omega) (by omega)) dX3_setDice_123 ?_
  refine lv_rwi (y := nI b) (by rw [show (1 : Int32).toNatClampNeg = 1 from by decide, pk_un (by decide), pk_us]) ?_
  refine lv_imul hx hb dX3_setDice_124 ?_
  refine lv_rwi (y := nI (a * b)) (pk_mul _ _) ?_
  refine lv_aload_n hx hb dX3_setDice_125 rfl (lv_at hl 0 rfl) ?_
  refine va_get (D := D) (ci := 4) (v := .ref (am 1)) (C := RX3) (T := TX3) (N := 15) hx hb hts inlX3 hown hK hP 0 rfl rfl 1 (by decide) (hts (Cond.fieldLink RX3 9 "TavernDiceModel" "faces" "[I") mw_3_19) (fun _ h9 => h9) rfl dX3_setDice_126 ?_
  refine lv_iconst (v := 2) hx hb dX3_setDice_129 (by first | decide | rfl) ?_
  refine va_iald hx hb hK hP 1 0 rfl rfl (vp_in_nI (n := 2) (by omega) (by omega)) dX3_setDice_130 ?_
  refine lv_rwi (y := nI 1) (by rw [show (2 : Int32).toNatClampNeg = 2 from by decide, pk_us]) ?_
  refine lv_imul hx hb dX3_setDice_131 ?_
  refine lv_rwi (y := nI (a * b * 1)) (pk_mul _ _) ?_
  refine va_put (D := D) (ci := 4) (v := .int (nI (a * b * 1))) (ty := .int) (C := RX3) (T := TX3) (N := 15) hx hb hts inlX3 tyX3 tyX3_ok nmX3 hown hK hP hD hS 0 rfl rfl 3 (by decide) (hts (Cond.fieldLink RX3 17 "TavernDiceModel" "outcomes" "I") mw_3_21) (fun _ h9 => h9) rfl (by decide +kernel) rfl rfl (Nat.le_of_ble_eq_true rfl) dX3_setDice_132 (fun H locs hP hD hS => ?_)
  have hP : va_P D vwCl (wM cs am 0 bank rnds 2 ((a * b * 1)) 0 (upd (upd (upd fc 0 (nI a)) 1 (nI b)) 2 (nI 1)) pu wh kn nm sk br ht sg) H := hP
  have hD : va_D _ (wM cs am 0 bank rnds 2 ((a * b * 1)) 0 (upd (upd (upd fc 0 (nI a)) 1 (nI b)) 2 (nI 1)) pu wh kn nm sk br ht sg) := hD
  refine lv_aload_n hx hb dX3_setDice_135 rfl (lv_at hl 0 rfl) ?_
  refine va_get (D := D) (ci := 4) (v := .int (nI ((a * b * 1)))) (C := RX3) (T := TX3) (N := 15) hx hb hts inlX3 hown hK hP 0 rfl rfl 3 (by decide) (hts (Cond.fieldLink RX3 17 "TavernDiceModel" "outcomes" "I") mw_3_21) (fun _ h9 => h9) rfl dX3_setDice_136 ?_
  exact wr_iret hQ hx hb hr hlocks hP hD hS (hpost) dX3_setDice_139
set_option maxHeartbeats 4000000 in
set_option maxRecDepth 100000 in
theorem mp_setDice3 (l : Launch) (D : va_G) (cs : Nat → ClassId) (H : Heap) {am : Nat → Nat} {th bank rnds : Int32} {dn N : Nat} {fc pu wh kn nm sk br ht sg : Nat → Int32} {fn : Nat → Nat} (hF : FM fn dn N 0 fc) (a : Nat) (ha : inM (nI a) 2 12 = true) (ha2 : 2 ≤ a ∧ a ≤ 12) (b : Nat) (hb1 : inM (nI b) 2 12 = true) (hb2 : 2 ≤ b ∧ b ≤ 12) (c9 : Nat) (hc1 : inM (nI c9) 2 12 = true) (hc2 : 2 ≤ c9 ∧ c9 ≤ 12) (post : Option Value → va_W → Prop) (hpost : post (some (.int (nI (a * b * c9)))) (wM cs am 0 bank rnds 3 ((a * b * c9)) 0 ((upd (upd (upd fc 0 (nI a)) 1 (nI b)) 2 (nI c9))) pu wh kn nm sk br ht sg)) (hP : va_P D vwCl (wM cs am th bank rnds dn N 0 fc pu wh kn nm sk br ht sg) H) (hD : va_D (fun _ => True) (wM cs am th bank rnds dn N 0 fc pu wh kn nm sk br ht sg)) : Wr l D cs 3 0 0 yX3_setDice cX3_setDice 4 (some .int) (wM cs am th bank rnds dn N 0 fc pu wh kn nm sk br ht sg) H [.ref (am 0), .int (nI a), .int (nI b), .int (nI c9)] post := by
  refine wr_ent (by decide) (Nat.le_of_ble_eq_true rfl) hP hD ?_
  clear hP hD H
  intro p e s m below meth c ls A Q H hx hb hr hml hown hts hlocks hin hl hK hQ hA hH hP hD hS
  clear hH
  have hl : lv_has ls 4 [(0, .ref (am 0)), (1, .int (nI a)), (2, .int (nI b)), (3, .int (nI c9))] := hl
  have hF0 := hF
  obtain ⟨hF3, hd1, hd3, hNe, hN1, hN, hn⟩ := hF
  refine lv_aload_n hx hb dX3_setDice_0 rfl (lv_at hl 0 rfl) ?_
  refine lv_iconst (v := 0) hx hb dX3_setDice_1 (by first | decide | rfl) ?_
  refine va_put (D := D) (ci := 4) (v := .int 0) (ty := .int) (C := RX3) (T := TX3) (N := 15) hx hb hts inlX3 tyX3 tyX3_ok nmX3 hown hK hP hD hS 0 rfl rfl 0 (by decide) (hts (Cond.fieldLink RX3 48 "TavernDiceModel" "thrown" "I") mw_5_15) (fun _ h9 => h9) rfl (by decide +kernel) rfl rfl (Nat.le_of_ble_eq_true rfl) dX3_setDice_2 (fun H locs hP hD hS => ?_)
  have hP : va_P D vwCl (wM cs am 0 bank rnds dn N 0 fc pu wh kn nm sk br ht sg) H := hP
  have hD : va_D _ (wM cs am 0 bank rnds dn N 0 fc pu wh kn nm sk br ht sg) := hD
  refine lv_iload_n hx hb dX3_setDice_5 rfl (lv_at hl 1 rfl) ?_
  refine rdS (As := [.int (nI a)]) (rest := []) ⟨hx, hb, hml, hown, hts⟩ hK 1 (m_isDie l D cs H (nI a)) (gin_s mw_5_20 mw_5_21 mw_1_5 mw_5_22) (by decide +kernel) ⟨Nat.le_of_ble_eq_true rfl, Nat.le_of_ble_eq_true rfl⟩ rfl hl.1 rfl (Nat.le_of_ble_eq_true rfl) dX3_setDice_6 ⟨(Nat.le_of_ble_eq_true rfl), (Nat.le_of_ble_eq_true rfl)⟩ ?_
  refine W.eq (g2 := F0 m 9 ls [.int (b2i (inM (nI a) 2 12))]) rfl ?_
  refine lv_if_eq (tgt := 42) hx hb dX3_setDice_9 (by decide) (fun c_1 => False.elim (absurd c_1 ((b2i_ne0 _).mpr ha))) (fun c_1 => ?_)
  refine lv_iload_n hx hb dX3_setDice_12 rfl (lv_at hl 2 rfl) ?_
  refine lv_if_eq (tgt := 23) hx hb dX3_setDice_13 (by decide) (fun c_2 => False.elim (absurd c_2 (nI_ne0 (by omega) (by omega)))) (fun c_2 => ?_)
  refine lv_iload_n hx hb dX3_setDice_16 rfl (lv_at hl 2 rfl) ?_
  refine rdS (As := [.int (nI b)]) (rest := []) ⟨hx, hb, hml, hown, hts⟩ hK 1 (m_isDie l D cs H (nI b)) (gin_s mw_5_20 mw_5_21 mw_1_5 mw_5_22) (by decide +kernel) ⟨Nat.le_of_ble_eq_true rfl, Nat.le_of_ble_eq_true rfl⟩ rfl hl.1 rfl (Nat.le_of_ble_eq_true rfl) dX3_setDice_17 ⟨(Nat.le_of_ble_eq_true rfl), (Nat.le_of_ble_eq_true rfl)⟩ ?_
  refine W.eq (g2 := F0 m 20 ls [.int (b2i (inM (nI b) 2 12))]) rfl ?_
  refine lv_if_eq (tgt := 42) hx hb dX3_setDice_20 (by decide) (fun c_3 => False.elim (absurd c_3 ((b2i_ne0 _).mpr hb1))) (fun c_3 => ?_)
  refine lv_iload_n hx hb dX3_setDice_23 rfl (lv_at hl 3 rfl) ?_
  refine lv_if_eq (tgt := 34) hx hb dX3_setDice_24 (by decide) (fun c_4 => False.elim (absurd c_4 (nI_ne0 (by omega) (by omega)))) (fun c_4 => ?_)
  refine lv_iload_n hx hb dX3_setDice_27 rfl (lv_at hl 3 rfl) ?_
  refine rdS (As := [.int (nI c9)]) (rest := []) ⟨hx, hb, hml, hown, hts⟩ hK 1 (m_isDie l D cs H (nI c9)) (gin_s mw_5_20 mw_5_21 mw_1_5 mw_5_22) (by decide +kernel) ⟨Nat.le_of_ble_eq_true rfl, Nat.le_of_ble_eq_true rfl⟩ rfl hl.1 rfl (Nat.le_of_ble_eq_true rfl) dX3_setDice_28 ⟨(Nat.le_of_ble_eq_true rfl), (Nat.le_of_ble_eq_true rfl)⟩ ?_
  refine W.eq (g2 := F0 m 31 ls [.int (b2i (inM (nI c9) 2 12))]) rfl ?_
  refine lv_if_eq (tgt := 42) hx hb dX3_setDice_31 (by decide) (fun c_5 => False.elim (absurd c_5 ((b2i_ne0 _).mpr hc1))) (fun c_5 => ?_)
  refine lv_iload_n hx hb dX3_setDice_34 rfl (lv_at hl 2 rfl) ?_
  refine lv_if_ne (tgt := 48) hx hb dX3_setDice_35 (by decide) (fun c_6 => ?_) (fun c_6 => False.elim (nI_ne0 (n := b) (by omega) (by omega) c_6))
  refine lv_aload_n hx hb dX3_setDice_48 rfl (lv_at hl 0 rfl) ?_
  refine va_get (D := D) (ci := 4) (v := .int (nI 0)) (C := RX3) (T := TX3) (N := 15) hx hb hts inlX3 hown hK hP 0 rfl rfl 7 (by decide) (hts (Cond.fieldLink RX3 51 "TavernDiceModel" "open" "I") mw_5_16) (fun _ h9 => h9) rfl dX3_setDice_49 ?_
  refine lv_if_le (tgt := 61) hx hb dX3_setDice_52 (by decide) (fun c_7 => ?_) (fun c_7 => False.elim (c_7 (by decide)))
  refine lv_aload_n hx hb dX3_setDice_61 rfl (lv_at hl 0 rfl) ?_
  refine va_get (D := D) (ci := 4) (v := .ref (am 1)) (C := RX3) (T := TX3) (N := 15) hx hb hts inlX3 hown hK hP 0 rfl rfl 1 (by decide) (hts (Cond.fieldLink RX3 9 "TavernDiceModel" "faces" "[I") mw_3_19) (fun _ h9 => h9) rfl dX3_setDice_62 ?_
  refine lv_iconst (v := 0) hx hb dX3_setDice_65 (by first | decide | rfl) ?_
  refine lv_iload_n hx hb dX3_setDice_66 rfl (lv_at hl 1 rfl) ?_
  refine va_iast hx hb hK hP hD hS 1 0 rfl rfl (vp_in_nI (n := 0) (by omega) (by omega)) dX3_setDice_67 (fun H locs hP hD hS => ?_)
  have g9 : upd fc (0 : Int32).toNatClampNeg (nI a) = upd fc 0 (nI a) := congrArg (fun z => upd fc z (nI a)) (by decide)
  have hP : va_P D vwCl (wM cs am 0 bank rnds dn N 0 (upd fc 0 (nI a)) pu wh kn nm sk br ht sg) H := Eq.mp (congrArg (fun z9 => va_P D vwCl (wM cs am 0 bank rnds dn N 0 z9 pu wh kn nm sk br ht sg) H) g9) hP
  have hD : va_D _ (wM cs am 0 bank rnds dn N 0 (upd fc 0 (nI a)) pu wh kn nm sk br ht sg) := Eq.mp (congrArg (fun z9 => va_D _ (wM cs am 0 bank rnds dn N 0 z9 pu wh kn nm sk br ht sg)) g9) hD
  refine lv_aload_n hx hb dX3_setDice_68 rfl (lv_at hl 0 rfl) ?_
  refine va_get (D := D) (ci := 4) (v := .ref (am 1)) (C := RX3) (T := TX3) (N := 15) hx hb hts inlX3 hown hK hP 0 rfl rfl 1 (by decide) (hts (Cond.fieldLink RX3 9 "TavernDiceModel" "faces" "[I") mw_3_19) (fun _ h9 => h9) rfl dX3_setDice_69 ?_
  refine lv_iconst (v := 1) hx hb dX3_setDice_72 (by first | decide | rfl) ?_
  refine lv_iconst (v := 1) hx hb dX3_setDice_73 (by first | decide | rfl) ?_
  refine lv_iload_n hx hb dX3_setDice_74 rfl (lv_at hl 2 rfl) ?_
  refine va_mmax hx hb (hml.trans hl.1.symm) hown (hts (Cond.methodLink RX3 105 Lib.Math.max.name) mw_5_17) (hts (Cond.static Lib.Math.max.name) mw_5_18) (hts (Cond.initialized "java/lang/Math") mw_2_15) (hts (Cond.code Lib.Math.max.name Lib.Math.max.code 2 (some .int)) mw_5_19) (Nat.le_of_ble_eq_true rfl) (Nat.le_of_ble_eq_true rfl) (Nat.le_of_ble_eq_true rfl) (Nat.le_of_ble_eq_true rfl) dX3_setDice_75 ?_
  refine lv_rwi (y := nI b) (if_pos (nI_lt (a := 1) (by omega) (by omega))) ?_
  refine va_iast hx hb hK hP hD hS 1 0 rfl rfl (vp_in_nI (n := 1) (by omega) (by omega)) dX3_setDice_78 (fun H locs hP hD hS => ?_)
  have g9 : upd (upd fc 0 (nI a)) (1 : Int32).toNatClampNeg (nI b) = upd (upd fc 0 (nI a)) 1 (nI b) := congrArg (fun z => upd (upd fc 0 (nI a)) z (nI b)) (by decide)
  have hP : va_P D vwCl (wM cs am 0 bank rnds dn N 0 (upd (upd fc 0 (nI a)) 1 (nI b)) pu wh kn nm sk br ht sg) H := Eq.mp (congrArg (fun z9 => va_P D vwCl (wM cs am 0 bank rnds dn N 0 z9 pu wh kn nm sk br ht sg) H) g9) hP
  have hD : va_D _ (wM cs am 0 bank rnds dn N 0 (upd (upd fc 0 (nI a)) 1 (nI b)) pu wh kn nm sk br ht sg) := Eq.mp (congrArg (fun z9 => va_D _ (wM cs am 0 bank rnds dn N 0 z9 pu wh kn nm sk br ht sg)) g9) hD
  refine lv_aload_n hx hb dX3_setDice_79 rfl (lv_at hl 0 rfl) ?_
  refine va_get (D := D) (ci := 4) (v := .ref (am 1)) (C := RX3) (T := TX3) (N := 15) hx hb hts inlX3 hown hK hP 0 rfl rfl 1 (by decide) (hts (Cond.fieldLink RX3 9 "TavernDiceModel" "faces" "[I") mw_3_19) (fun _ h9 => h9) rfl dX3_setDice_80 ?_
  refine lv_iconst (v := 2) hx hb dX3_setDice_83 (by first | decide | rfl) ?_
  refine lv_iconst (v := 1) hx hb dX3_setDice_84 (by first | decide | rfl) ?_
  refine lv_iload_n hx hb dX3_setDice_85 rfl (lv_at hl 3 rfl) ?_
  refine va_mmax hx hb (hml.trans hl.1.symm) hown (hts (Cond.methodLink RX3 105 Lib.Math.max.name) mw_5_17) (hts (Cond.static Lib.Math.max.name) mw_5_18) (hts (Cond.initialized "java/lang/Math") mw_2_15) (hts (Cond.code Lib.Math.max.name Lib.Math.max.code 2 (some .int)) mw_5_19) (Nat.le_of_ble_eq_true rfl) (Nat.le_of_ble_eq_true rfl) (Nat.le_of_ble_eq_true rfl) (Nat.le_of_ble_eq_true rfl) dX3_setDice_86 ?_
  refine lv_rwi (y := nI c9) (if_pos (nI_lt (a := 1) (by omega) (by omega))) ?_
  refine va_iast hx hb hK hP hD hS 1 0 rfl rfl (vp_in_nI (n := 2) (by omega) (by omega)) dX3_setDice_89 (fun H locs hP hD hS => ?_)
  have g9 : upd (upd (upd fc 0 (nI a)) 1 (nI b)) (2 : Int32).toNatClampNeg (nI c9) = upd (upd (upd fc 0 (nI a)) 1 (nI b)) 2 (nI c9) := congrArg (fun z => upd (upd (upd fc 0 (nI a)) 1 (nI b)) z (nI c9)) (by decide)
  have hP : va_P D vwCl (wM cs am 0 bank rnds dn N 0 (upd (upd (upd fc 0 (nI a)) 1 (nI b)) 2 (nI c9)) pu wh kn nm sk br ht sg) H := Eq.mp (congrArg (fun z9 => va_P D vwCl (wM cs am 0 bank rnds dn N 0 z9 pu wh kn nm sk br ht sg) H) g9) hP
  have hD : va_D _ (wM cs am 0 bank rnds dn N 0 (upd (upd (upd fc 0 (nI a)) 1 (nI b)) 2 (nI c9)) pu wh kn nm sk br ht sg) := Eq.mp (congrArg (fun z9 => va_D _ (wM cs am 0 bank rnds dn N 0 z9 pu wh kn nm sk br ht sg)) g9) hD
  refine lv_aload_n hx hb dX3_setDice_90 rfl (lv_at hl 0 rfl) ?_
  refine lv_iload_n hx hb dX3_setDice_91 rfl (lv_at hl 2 rfl) ?_
  refine lv_if_ne (tgt := 99) hx hb dX3_setDice_92 (by decide) (fun c_8 => ?_) (fun c_8 => False.elim (nI_ne0 (n := b) (by omega) (by omega) c_8))
  refine lv_iload_n hx hb dX3_setDice_99 rfl (lv_at hl 3 rfl) ?_
  refine lv_if_ne (tgt := 107) hx hb dX3_setDice_100 (by decide) (fun c_9 => ?_) (fun c_9 => False.elim (nI_ne0 (n := c9) (by omega) (by omega) c_9))
  refine lv_iconst (v := nI 3) hx hb dX3_setDice_107 (by first | decide | rfl) ?_
  refine va_put (D := D) (ci := 4) (v := .int (nI 3)) (ty := .int) (C := RX3) (T := TX3) (N := 15) hx hb hts inlX3 tyX3 tyX3_ok nmX3 hown hK hP hD hS 0 rfl rfl 2 (by decide) (hts (Cond.fieldLink RX3 13 "TavernDiceModel" "dice" "I") mw_3_20) (fun _ h9 => h9) rfl (by decide +kernel) rfl rfl (Nat.le_of_ble_eq_true rfl) dX3_setDice_108 (fun H locs hP hD hS => ?_)
  have hP : va_P D vwCl (wM cs am 0 bank rnds 3 N 0 (upd (upd (upd fc 0 (nI a)) 1 (nI b)) 2 (nI c9)) pu wh kn nm sk br ht sg) H := hP
  have hD : va_D _ (wM cs am 0 bank rnds 3 N 0 (upd (upd (upd fc 0 (nI a)) 1 (nI b)) 2 (nI c9)) pu wh kn nm sk br ht sg) := hD
  refine lv_aload_n hx hb dX3_setDice_111 rfl (lv_at hl 0 rfl) ?_
  refine lv_aload_n hx hb dX3_setDice_112 rfl (lv_at hl 0 rfl) ?_
  refine va_get (D := D) (ci := 4) (v := .ref (am 1)) (C := RX3) (T := TX3) (N := 15) hx hb hts inlX3 hown hK hP 0 rfl rfl 1 (by decide) (hts (Cond.fieldLink RX3 9 "TavernDiceModel" "faces" "[I") mw_3_19) (fun _ h9 => h9) rfl dX3_setDice_113 ?_
  refine lv_iconst (v := 0) hx hb dX3_setDice_116 (by first | decide | rfl) ?_
  refine va_iald hx hb hK hP 1 0 rfl rfl (vp_in_nI (n := 0) (by omega) (by omega)) dX3_setDice_117 ?_
  refine lv_rwi (y := nI a) (by rw [show (0 : Int32).toNatClampNeg = 0 from by decide, pk_un (by decide), pk_un (by decide), pk_us]) ?_
  refine lv_aload_n hx hb dX3_setDice_118 rfl (lv_at hl 0 rfl) ?_
  refine va_get (D := D) (ci := 4) (v := .ref (am 1)) (C := RX3) (T := TX3) (N := 15) hx hb hts inlX3 hown hK hP 0 rfl rfl 1 (by decide) (hts (Cond.fieldLink RX3 9 "TavernDiceModel" "faces" "[I") mw_3_19) (fun _ h9 => h9) rfl dX3_setDice_119 ?_
  refine lv_iconst (v := 1) hx hb dX3_setDice_122 (by first | decide | rfl) ?_
  refine va_iald hx hb hK hP 1 0 rfl rfl (vp_in_nI (n := 1) (by omega) (by omega)) dX3_setDice_123 ?_
  refine lv_rwi (y := nI b) (by rw [show (1 : Int32).toNatClampNeg = 1 from by decide, pk_un (by decide), pk_us]) ?_
  refine lv_imul hx hb dX3_setDice_124 ?_
  refine lv_rwi (y := nI (a * b)) (pk_mul _ _) ?_
  refine lv_aload_n hx hb dX3_setDice_125 rfl (lv_at hl 0 rfl) ?_
  refine va_get (D := D) (ci := 4) (v := .ref (am 1)) (C := RX3) (T := TX3) (N := 15) hx hb hts inlX3 hown hK hP 0 rfl rfl 1 (by decide) (hts (Cond.fieldLink RX3 9 "TavernDiceModel" "faces" "[I") mw_3_19) (fun _ h9 => h9) rfl dX3_setDice_126 ?_
  refine lv_iconst (v := 2) hx hb dX3_setDice_129 (by first | decide | rfl) ?_
  refine va_iald hx hb hK hP 1 0 rfl rfl (vp_in_nI (n := 2) (by omega) (by omega)) dX3_setDice_130 ?_
  refine lv_rwi (y := nI c9) (by rw [show (2 : Int32).toNatClampNeg = 2 from by decide, pk_us]) ?_
  refine lv_imul hx hb dX3_setDice_131 ?_
  refine lv_rwi (y := nI (a * b * c9)) (pk_mul _ _) ?_
  refine va_put (D := D) (ci := 4) (v := .int (nI (a * b * c9))) (ty := .int) (C := RX3) (T := TX3) (N := 15) hx hb hts inlX3 tyX3 tyX3_ok nmX3 hown hK hP hD hS 0 rfl rfl 3 (by decide) (hts (Cond.fieldLink RX3 17 "TavernDiceModel" "outcomes" "I") mw_3_21) (fun _ h9 => h9) rfl (by decide +kernel) rfl rfl (Nat.le_of_ble_eq_true rfl) dX3_setDice_132 (fun H locs hP hD hS => ?_)
  have hP : va_P D vwCl (wM cs am 0 bank rnds 3 ((a * b * c9)) 0 (upd (upd (upd fc 0 (nI a)) 1 (nI b)) 2 (nI c9)) pu wh kn nm sk br ht sg) H := hP
  have hD : va_D _ (wM cs am 0 bank rnds 3 ((a * b * c9)) 0 (upd (upd (upd fc 0 (nI a)) 1 (nI b)) 2 (nI c9)) pu wh kn nm sk br ht sg) := hD
  refine lv_aload_n hx hb dX3_setDice_135 rfl (lv_at hl 0 rfl) ?_
  refine va_get (D := D) (ci := 4) (v := .int (nI ((a * b * c9)))) (C := RX3) (T := TX3) (N := 15) hx hb hts inlX3 hown hK hP 0 rfl rfl 3 (by decide) (hts (Cond.fieldLink RX3 17 "TavernDiceModel" "outcomes" "I") mw_3_21) (fun _ h9 => h9) rfl dX3_setDice_136 ?_
  exact wr_iret hQ hx hb hr hlocks hP hD hS (hpost) dX3_setDice_139
set_option maxHeartbeats 4000000 in
set_option maxRecDepth 100000 in
theorem mp_setDice_no1 (l : Launch) (D : va_G) (cs : Nat → ClassId) (H : Heap) {am : Nat → Nat} {th bank rnds : Int32} {dn N n : Nat} {fc pu wh kn nm sk br ht sg : Nat → Int32} {fn : Nat → Nat} (hF : FM fn dn N n fc) (f s9 t9 : Int32) (hv : (inM f 2 12 && (decide (s9 = 0) || inM s9 2 12) && (decide (t9 = 0) || inM t9 2 12) && (!decide (s9 = 0) || decide (t9 = 0))) = false) (post : Option Value → va_W → Prop) (hpost : post (some (.int (0))) (wM cs am 1 bank rnds dn N n fc pu wh kn nm sk br ht sg)) (hP : va_P D vwCl (wM cs am th bank rnds dn N n fc pu wh kn nm sk br ht sg) H) (hD : va_D (fun _ => True) (wM cs am th bank rnds dn N n fc pu wh kn nm sk br ht sg)) : Wr l D cs 3 0 0 yX3_setDice cX3_setDice 4 (some .int) (wM cs am th bank rnds dn N n fc pu wh kn nm sk br ht sg) H [.ref (am 0), .int f, .int s9, .int t9] post := by
  refine wr_ent (by decide) (Nat.le_of_ble_eq_true rfl) hP hD ?_
  clear hP hD H
  intro p e s m below meth c ls A Q H hx hb hr hml hown hts hlocks hin hl hK hQ hA hH hP hD hS
  clear hH
  have hl : lv_has ls 4 [(0, .ref (am 0)), (1, .int f), (2, .int s9), (3, .int t9)] := hl
  have hF0 := hF
  obtain ⟨hF3, hd1, hd3, hNe, hN1, hN, hn⟩ := hF
  refine lv_aload_n hx hb dX3_setDice_0 rfl (lv_at hl 0 rfl) ?_
  refine lv_iconst (v := 0) hx hb dX3_setDice_1 (by first | decide | rfl) ?_
  refine va_put (D := D) (ci := 4) (v := .int 0) (ty := .int) (C := RX3) (T := TX3) (N := 15) hx hb hts inlX3 tyX3 tyX3_ok nmX3 hown hK hP hD hS 0 rfl rfl 0 (by decide) (hts (Cond.fieldLink RX3 48 "TavernDiceModel" "thrown" "I") mw_5_15) (fun _ h9 => h9) rfl (by decide +kernel) rfl rfl (Nat.le_of_ble_eq_true rfl) dX3_setDice_2 (fun H locs hP hD hS => ?_)
  have hP : va_P D vwCl (wM cs am 0 bank rnds dn N n fc pu wh kn nm sk br ht sg) H := hP
  have hD : va_D _ (wM cs am 0 bank rnds dn N n fc pu wh kn nm sk br ht sg) := hD
  refine lv_iload_n hx hb dX3_setDice_5 rfl (lv_at hl 1 rfl) ?_
  refine rdS (As := [.int f]) (rest := []) ⟨hx, hb, hml, hown, hts⟩ hK 1 (m_isDie l D cs H f) (gin_s mw_5_20 mw_5_21 mw_1_5 mw_5_22) (by decide +kernel) ⟨Nat.le_of_ble_eq_true rfl, Nat.le_of_ble_eq_true rfl⟩ rfl hl.1 rfl (Nat.le_of_ble_eq_true rfl) dX3_setDice_6 ⟨(Nat.le_of_ble_eq_true rfl), (Nat.le_of_ble_eq_true rfl)⟩ ?_
  refine W.eq (g2 := F0 m 9 ls [.int (b2i (inM f 2 12))]) rfl ?_
  refine lv_if_eq (tgt := 42) hx hb dX3_setDice_9 (by decide) (fun c_1 => ?_) (fun c_1 => ?_)
  · refine lv_aload_n hx hb dX3_setDice_42 rfl (lv_at hl 0 rfl) ?_
    refine lv_iconst (v := 1) hx hb dX3_setDice_43 (by first | decide | rfl) ?_
    refine wrV (As := [.int 1]) (rest := []) (b := am 0) ⟨hx, hb, hml, hown, hts⟩ hK 1 (m_no l D cs H 1 (fun ov w1 => ov = some (.int 0) ∧ w1 = wM cs am 1 bank rnds dn N n fc pu wh kn nm sk br ht sg) ⟨rfl, rfl⟩ hP (hD.weaken (fun _ _ _ _ => trivial))) (gin_v mw_6_2 mw_6_3 mw_6_4 mw_1_5 mw_6_5) (by decide +kernel) ⟨Nat.le_of_ble_eq_true rfl, Nat.le_of_ble_eq_true rfl⟩ (va_recv hK hP (ci := 4) (q0 := 0) rfl rfl) rfl hl.1 rfl (Nat.le_of_ble_eq_true rfl) dX3_setDice_44 ⟨(Nat.le_of_ble_eq_true rfl), (Nat.le_of_ble_eq_true rfl)⟩ hD hS hA (fun ov9 w9 H locs hp9 hP hD hS => ?_)
    obtain ⟨rfl, rfl⟩ := hp9
    have hP : va_P D vwCl (wM cs am 1 bank rnds dn N n fc pu wh kn nm sk br ht sg) H := hP
    have hD : va_D _ (wM cs am 1 bank rnds dn N n fc pu wh kn nm sk br ht sg) := hD
    refine W.eq (g2 := F0 m 47 ls [.int 0]) rfl ?_
    exact wr_iret hQ hx hb hr hlocks hP hD hS (hpost) dX3_setDice_47
  · refine lv_iload_n hx hb dX3_setDice_12 rfl (lv_at hl 2 rfl) ?_
    refine lv_if_eq (tgt := 23) hx hb dX3_setDice_13 (by decide) (fun c_2 => ?_) (fun c_2 => ?_)
    · refine lv_iload_n hx hb dX3_setDice_23 rfl (lv_at hl 3 rfl) ?_
      refine lv_if_eq (tgt := 34) hx hb dX3_setDice_24 (by decide) (fun c_3 => ?_) (fun c_3 => ?_)
      · refine lv_iload_n hx hb dX3_setDice_34 rfl (lv_at hl 2 rfl) ?_
        refine lv_if_ne (tgt := 48) hx hb dX3_setDice_35 (by decide) (fun c_4 => ?_) (fun c_4 => ?_)
        · first | contradiction | exact absurd hv (by simp [(b2i_ne0 _).mp c_1, c_2, c_3, c_4])
        · refine lv_iload_n hx hb dX3_setDice_38 rfl (lv_at hl 3 rfl) ?_
          refine lv_if_eq (tgt := 48) hx hb dX3_setDice_39 (by decide) (fun c_5 => ?_) (fun c_5 => ?_)
          · first | contradiction | exact absurd hv (by simp [(b2i_ne0 _).mp c_1, c_2, c_3, c_4, c_5])
          · refine lv_aload_n hx hb dX3_setDice_42 rfl (lv_at hl 0 rfl) ?_
            refine lv_iconst (v := 1) hx hb dX3_setDice_43 (by first | decide | rfl) ?_
            refine wrV (As := [.int 1]) (rest := []) (b := am 0) ⟨hx, hb, hml, hown, hts⟩ hK 1 (m_no l D cs H 1 (fun ov w1 => ov = some (.int 0) ∧ w1 = wM cs am 1 bank rnds dn N n fc pu wh kn nm sk br ht sg) ⟨rfl, rfl⟩ hP (hD.weaken (fun _ _ _ _ => trivial))) (gin_v mw_6_2 mw_6_3 mw_6_4 mw_1_5 mw_6_5) (by decide +kernel) ⟨Nat.le_of_ble_eq_true rfl, Nat.le_of_ble_eq_true rfl⟩ (va_recv hK hP (ci := 4) (q0 := 0) rfl rfl) rfl hl.1 rfl (Nat.le_of_ble_eq_true rfl) dX3_setDice_44 ⟨(Nat.le_of_ble_eq_true rfl), (Nat.le_of_ble_eq_true rfl)⟩ hD hS hA (fun ov9 w9 H locs hp9 hP hD hS => ?_)
            obtain ⟨rfl, rfl⟩ := hp9
            have hP : va_P D vwCl (wM cs am 1 bank rnds dn N n fc pu wh kn nm sk br ht sg) H := hP
            have hD : va_D _ (wM cs am 1 bank rnds dn N n fc pu wh kn nm sk br ht sg) := hD
            refine W.eq (g2 := F0 m 47 ls [.int 0]) rfl ?_
            exact wr_iret hQ hx hb hr hlocks hP hD hS (hpost) dX3_setDice_47
      · refine lv_iload_n hx hb dX3_setDice_27 rfl (lv_at hl 3 rfl) ?_
        refine rdS (As := [.int t9]) (rest := []) ⟨hx, hb, hml, hown, hts⟩ hK 1 (m_isDie l D cs H t9) (gin_s mw_5_20 mw_5_21 mw_1_5 mw_5_22) (by decide +kernel) ⟨Nat.le_of_ble_eq_true rfl, Nat.le_of_ble_eq_true rfl⟩ rfl hl.1 rfl (Nat.le_of_ble_eq_true rfl) dX3_setDice_28 ⟨(Nat.le_of_ble_eq_true rfl), (Nat.le_of_ble_eq_true rfl)⟩ ?_
        refine W.eq (g2 := F0 m 31 ls [.int (b2i (inM t9 2 12))]) rfl ?_
        refine lv_if_eq (tgt := 42) hx hb dX3_setDice_31 (by decide) (fun c_6 => ?_) (fun c_6 => ?_)
        · refine lv_aload_n hx hb dX3_setDice_42 rfl (lv_at hl 0 rfl) ?_
          refine lv_iconst (v := 1) hx hb dX3_setDice_43 (by first | decide | rfl) ?_
          refine wrV (As := [.int 1]) (rest := []) (b := am 0) ⟨hx, hb, hml, hown, hts⟩ hK 1 (m_no l D cs H 1 (fun ov w1 => ov = some (.int 0) ∧ w1 = wM cs am 1 bank rnds dn N n fc pu wh kn nm sk br ht sg) ⟨rfl, rfl⟩ hP (hD.weaken (fun _ _ _ _ => trivial))) (gin_v mw_6_2 mw_6_3 mw_6_4 mw_1_5 mw_6_5) (by decide +kernel) ⟨Nat.le_of_ble_eq_true rfl, Nat.le_of_ble_eq_true rfl⟩ (va_recv hK hP (ci := 4) (q0 := 0) rfl rfl) rfl hl.1 rfl (Nat.le_of_ble_eq_true rfl) dX3_setDice_44 ⟨(Nat.le_of_ble_eq_true rfl), (Nat.le_of_ble_eq_true rfl)⟩ hD hS hA (fun ov9 w9 H locs hp9 hP hD hS => ?_)
          obtain ⟨rfl, rfl⟩ := hp9
          have hP : va_P D vwCl (wM cs am 1 bank rnds dn N n fc pu wh kn nm sk br ht sg) H := hP
          have hD : va_D _ (wM cs am 1 bank rnds dn N n fc pu wh kn nm sk br ht sg) := hD
          refine W.eq (g2 := F0 m 47 ls [.int 0]) rfl ?_
          exact wr_iret hQ hx hb hr hlocks hP hD hS (hpost) dX3_setDice_47
        · refine lv_iload_n hx hb dX3_setDice_34 rfl (lv_at hl 2 rfl) ?_
          refine lv_if_ne (tgt := 48) hx hb dX3_setDice_35 (by decide) (fun c_7 => ?_) (fun c_7 => ?_)
          · first | contradiction | exact absurd hv (by simp [(b2i_ne0 _).mp c_1, c_2, c_3, (b2i_ne0 _).mp c_6, c_7])
          · refine lv_iload_n hx hb dX3_setDice_38 rfl (lv_at hl 3 rfl) ?_
            refine lv_if_eq (tgt := 48) hx hb dX3_setDice_39 (by decide) (fun c_8 => ?_) (fun c_8 => ?_)
            · first | contradiction | exact absurd hv (by simp [(b2i_ne0 _).mp c_1, c_2, c_3, (b2i_ne0 _).mp c_6, c_7, c_8])
            · refine lv_aload_n hx hb dX3_setDice_42 rfl (lv_at hl 0 rfl) ?_
              refine lv_iconst (v := 1) hx hb dX3_setDice_43 (by first | decide | rfl) ?_
              refine wrV (As := [.int 1]) (rest := []) (b := am 0) ⟨hx, hb, hml, hown, hts⟩ hK 1 (m_no l D cs H 1 (fun ov w1 => ov = some (.int 0) ∧ w1 = wM cs am 1 bank rnds dn N n fc pu wh kn nm sk br ht sg) ⟨rfl, rfl⟩ hP (hD.weaken (fun _ _ _ _ => trivial))) (gin_v mw_6_2 mw_6_3 mw_6_4 mw_1_5 mw_6_5) (by decide +kernel) ⟨Nat.le_of_ble_eq_true rfl, Nat.le_of_ble_eq_true rfl⟩ (va_recv hK hP (ci := 4) (q0 := 0) rfl rfl) rfl hl.1 rfl (Nat.le_of_ble_eq_true rfl) dX3_setDice_44 ⟨(Nat.le_of_ble_eq_true rfl), (Nat.le_of_ble_eq_true rfl)⟩ hD hS hA (fun ov9 w9 H locs hp9 hP hD hS => ?_)
              obtain ⟨rfl, rfl⟩ := hp9
              have hP : va_P D vwCl (wM cs am 1 bank rnds dn N n fc pu wh kn nm sk br ht sg) H := hP
              have hD : va_D _ (wM cs am 1 bank rnds dn N n fc pu wh kn nm sk br ht sg) := hD
              refine W.eq (g2 := F0 m 47 ls [.int 0]) rfl ?_
              exact wr_iret hQ hx hb hr hlocks hP hD hS (hpost) dX3_setDice_47
    · refine lv_iload_n hx hb dX3_setDice_16 rfl (lv_at hl 2 rfl) ?_
      refine rdS (As := [.int s9]) (rest := []) ⟨hx, hb, hml, hown, hts⟩ hK 1 (m_isDie l D cs H s9) (gin_s mw_5_20 mw_5_21 mw_1_5 mw_5_22) (by decide +kernel) ⟨Nat.le_of_ble_eq_true rfl, Nat.le_of_ble_eq_true rfl⟩ rfl hl.1 rfl (Nat.le_of_ble_eq_true rfl) dX3_setDice_17 ⟨(Nat.le_of_ble_eq_true rfl), (Nat.le_of_ble_eq_true rfl)⟩ ?_
      refine W.eq (g2 := F0 m 20 ls [.int (b2i (inM s9 2 12))]) rfl ?_
      refine lv_if_eq (tgt := 42) hx hb dX3_setDice_20 (by decide) (fun c_9 => ?_) (fun c_9 => ?_)
      · refine lv_aload_n hx hb dX3_setDice_42 rfl (lv_at hl 0 rfl) ?_
        refine lv_iconst (v := 1) hx hb dX3_setDice_43 (by first | decide | rfl) ?_
        refine wrV (As := [.int 1]) (rest := []) (b := am 0) ⟨hx, hb, hml, hown, hts⟩ hK 1 (m_no l D cs H 1 (fun ov w1 => ov = some (.int 0) ∧ w1 = wM cs am 1 bank rnds dn N n fc pu wh kn nm sk br ht sg) ⟨rfl, rfl⟩ hP (hD.weaken (fun _ _ _ _ => trivial))) (gin_v mw_6_2 mw_6_3 mw_6_4 mw_1_5 mw_6_5) (by decide +kernel) ⟨Nat.le_of_ble_eq_true rfl, Nat.le_of_ble_eq_true rfl⟩ (va_recv hK hP (ci := 4) (q0 := 0) rfl rfl) rfl hl.1 rfl (Nat.le_of_ble_eq_true rfl) dX3_setDice_44 ⟨(Nat.le_of_ble_eq_true rfl), (Nat.le_of_ble_eq_true rfl)⟩ hD hS hA (fun ov9 w9 H locs hp9 hP hD hS => ?_)
        obtain ⟨rfl, rfl⟩ := hp9
        have hP : va_P D vwCl (wM cs am 1 bank rnds dn N n fc pu wh kn nm sk br ht sg) H := hP
        have hD : va_D _ (wM cs am 1 bank rnds dn N n fc pu wh kn nm sk br ht sg) := hD
        refine W.eq (g2 := F0 m 47 ls [.int 0]) rfl ?_
        exact wr_iret hQ hx hb hr hlocks hP hD hS (hpost) dX3_setDice_47
      · refine lv_iload_n hx hb dX3_setDice_23 rfl (lv_at hl 3 rfl) ?_
        refine lv_if_eq (tgt := 34) hx hb dX3_setDice_24 (by decide) (fun c_10 => ?_) (fun c_10 => ?_)
        · refine lv_iload_n hx hb dX3_setDice_34 rfl (lv_at hl 2 rfl) ?_
          refine lv_if_ne (tgt := 48) hx hb dX3_setDice_35 (by decide) (fun c_11 => ?_) (fun c_11 => ?_)
          · first | contradiction | exact absurd hv (by simp [(b2i_ne0 _).mp c_1, c_2, (b2i_ne0 _).mp c_9, c_10, c_11])
          · refine lv_iload_n hx hb dX3_setDice_38 rfl (lv_at hl 3 rfl) ?_
            refine lv_if_eq (tgt := 48) hx hb dX3_setDice_39 (by decide) (fun c_12 => ?_) (fun c_12 => ?_)
            · first | contradiction | exact absurd hv (by simp [(b2i_ne0 _).mp c_1, c_2, (b2i_ne0 _).mp c_9, c_10, c_11, c_12])
            · refine lv_aload_n hx hb dX3_setDice_42 rfl (lv_at hl 0 rfl) ?_
              refine lv_iconst (v := 1) hx hb dX3_setDice_43 (by first | decide | rfl) ?_
              refine wrV (As := [.int 1]) (rest := []) (b := am 0) ⟨hx, hb, hml, hown, hts⟩ hK 1 (m_no l D cs H 1 (fun ov w1 => ov = some (.int 0) ∧ w1 = wM cs am 1 bank rnds dn N n fc pu wh kn nm sk br ht sg) ⟨rfl, rfl⟩ hP (hD.weaken (fun _ _ _ _ => trivial))) (gin_v mw_6_2 mw_6_3 mw_6_4 mw_1_5 mw_6_5) (by decide +kernel) ⟨Nat.le_of_ble_eq_true rfl, Nat.le_of_ble_eq_true rfl⟩ (va_recv hK hP (ci := 4) (q0 := 0) rfl rfl) rfl hl.1 rfl (Nat.le_of_ble_eq_true rfl) dX3_setDice_44 ⟨(Nat.le_of_ble_eq_true rfl), (Nat.le_of_ble_eq_true rfl)⟩ hD hS hA (fun ov9 w9 H locs hp9 hP hD hS => ?_)
              obtain ⟨rfl, rfl⟩ := hp9
              have hP : va_P D vwCl (wM cs am 1 bank rnds dn N n fc pu wh kn nm sk br ht sg) H := hP
              have hD : va_D _ (wM cs am 1 bank rnds dn N n fc pu wh kn nm sk br ht sg) := hD
              refine W.eq (g2 := F0 m 47 ls [.int 0]) rfl ?_
              exact wr_iret hQ hx hb hr hlocks hP hD hS (hpost) dX3_setDice_47
        · refine lv_iload_n hx hb dX3_setDice_27 rfl (lv_at hl 3 rfl) ?_
          refine rdS (As := [.int t9]) (rest := []) ⟨hx, hb, hml, hown, hts⟩ hK 1 (m_isDie l D cs H t9) (gin_s mw_5_20 mw_5_21 mw_1_5 mw_5_22) (by decide +kernel) ⟨Nat.le_of_ble_eq_true rfl, Nat.le_of_ble_eq_true rfl⟩ rfl hl.1 rfl (Nat.le_of_ble_eq_true rfl) dX3_setDice_28 ⟨(Nat.le_of_ble_eq_true rfl), (Nat.le_of_ble_eq_true rfl)⟩ ?_
          refine W.eq (g2 := F0 m 31 ls [.int (b2i (inM t9 2 12))]) rfl ?_
          refine lv_if_eq (tgt := 42) hx hb dX3_setDice_31 (by decide) (fun c_13 => ?_) (fun c_13 => ?_)
          · refine lv_aload_n hx hb dX3_setDice_42 rfl (lv_at hl 0 rfl) ?_
            refine lv_iconst (v := 1) hx hb dX3_setDice_43 (by first | decide | rfl) ?_
            refine wrV (As := [.int 1]) (rest := []) (b := am 0) ⟨hx, hb, hml, hown, hts⟩ hK 1 (m_no l D cs H 1 (fun ov w1 => ov = some (.int 0) ∧ w1 = wM cs am 1 bank rnds dn N n fc pu wh kn nm sk br ht sg) ⟨rfl, rfl⟩ hP (hD.weaken (fun _ _ _ _ => trivial))) (gin_v mw_6_2 mw_6_3 mw_6_4 mw_1_5 mw_6_5) (by decide +kernel) ⟨Nat.le_of_ble_eq_true rfl, Nat.le_of_ble_eq_true rfl⟩ (va_recv hK hP (ci := 4) (q0 := 0) rfl rfl) rfl hl.1 rfl (Nat.le_of_ble_eq_true rfl) dX3_setDice_44 ⟨(Nat.le_of_ble_eq_true rfl), (Nat.le_of_ble_eq_true rfl)⟩ hD hS hA (fun ov9 w9 H locs hp9 hP hD hS => ?_)
            obtain ⟨rfl, rfl⟩ := hp9
            have hP : va_P D vwCl (wM cs am 1 bank rnds dn N n fc pu wh kn nm sk br ht sg) H := hP
            have hD : va_D _ (wM cs am 1 bank rnds dn N n fc pu wh kn nm sk br ht sg) := hD
            refine W.eq (g2 := F0 m 47 ls [.int 0]) rfl ?_
            exact wr_iret hQ hx hb hr hlocks hP hD hS (hpost) dX3_setDice_47
          · refine lv_iload_n hx hb dX3_setDice_34 rfl (lv_at hl 2 rfl) ?_
            refine lv_if_ne (tgt := 48) hx hb dX3_setDice_35 (by decide) (fun c_14 => ?_) (fun c_14 => ?_)
            · first | contradiction | exact absurd hv (by simp [(b2i_ne0 _).mp c_1, c_2, (b2i_ne0 _).mp c_9, c_10, (b2i_ne0 _).mp c_13, c_14])
            · refine lv_iload_n hx hb dX3_setDice_38 rfl (lv_at hl 3 rfl) ?_
              refine lv_if_eq (tgt := 48) hx hb dX3_setDice_39 (by decide) (fun c_15 => ?_) (fun c_15 => ?_)
              · first | contradiction | exact absurd hv (by simp [(b2i_ne0 _).mp c_1, c_2, (b2i_ne0 _).mp c_9, c_10, (b2i_ne0 _).mp c_13, c_14, c_15])
              · refine lv_aload_n hx hb dX3_setDice_42 rfl (lv_at hl 0 rfl) ?_
                refine lv_iconst (v := 1) hx hb dX3_setDice_43 (by first | decide | rfl) ?_
                refine wrV (As := [.int 1]) (rest := []) (b := am 0) ⟨hx, hb, hml, hown, hts⟩ hK 1 (m_no l D cs H 1 (fun ov w1 => ov = some (.int 0) ∧ w1 = wM cs am 1 bank rnds dn N n fc pu wh kn nm sk br ht sg) ⟨rfl, rfl⟩ hP (hD.weaken (fun _ _ _ _ => trivial))) (gin_v mw_6_2 mw_6_3 mw_6_4 mw_1_5 mw_6_5) (by decide +kernel) ⟨Nat.le_of_ble_eq_true rfl, Nat.le_of_ble_eq_true rfl⟩ (va_recv hK hP (ci := 4) (q0 := 0) rfl rfl) rfl hl.1 rfl (Nat.le_of_ble_eq_true rfl) dX3_setDice_44 ⟨(Nat.le_of_ble_eq_true rfl), (Nat.le_of_ble_eq_true rfl)⟩ hD hS hA (fun ov9 w9 H locs hp9 hP hD hS => ?_)
                obtain ⟨rfl, rfl⟩ := hp9
                have hP : va_P D vwCl (wM cs am 1 bank rnds dn N n fc pu wh kn nm sk br ht sg) H := hP
                have hD : va_D _ (wM cs am 1 bank rnds dn N n fc pu wh kn nm sk br ht sg) := hD
                refine W.eq (g2 := F0 m 47 ls [.int 0]) rfl ?_
                exact wr_iret hQ hx hb hr hlocks hP hD hS (hpost) dX3_setDice_47
set_option maxHeartbeats 4000000 in
set_option maxRecDepth 100000 in
theorem mp_setDice_no2 (l : Launch) (D : va_G) (cs : Nat → ClassId) (H : Heap) {am : Nat → Nat} {th bank rnds : Int32} {dn N n : Nat} {fc pu wh kn nm sk br ht sg : Nat → Int32} {fn : Nat → Nat} (hF : FM fn dn N n fc) (f s9 t9 : Int32) (hv : (inM f 2 12 && (decide (s9 = 0) || inM s9 2 12) && (decide (t9 = 0) || inM t9 2 12) && (!decide (s9 = 0) || decide (t9 = 0))) = true) (hop : 0 < n) (post : Option Value → va_W → Prop) (hpost : post (some (.int (0))) (wM cs am 2 bank rnds dn N n fc pu wh kn nm sk br ht sg)) (hP : va_P D vwCl (wM cs am th bank rnds dn N n fc pu wh kn nm sk br ht sg) H) (hD : va_D (fun _ => True) (wM cs am th bank rnds dn N n fc pu wh kn nm sk br ht sg)) : Wr l D cs 3 0 0 yX3_setDice cX3_setDice 4 (some .int) (wM cs am th bank rnds dn N n fc pu wh kn nm sk br ht sg) H [.ref (am 0), .int f, .int s9, .int t9] post := by
  refine wr_ent (by decide) (Nat.le_of_ble_eq_true rfl) hP hD ?_
  clear hP hD H
  intro p e s m below meth c ls A Q H hx hb hr hml hown hts hlocks hin hl hK hQ hA hH hP hD hS
  clear hH
  have hl : lv_has ls 4 [(0, .ref (am 0)), (1, .int f), (2, .int s9), (3, .int t9)] := hl
  have hF0 := hF
  obtain ⟨hF3, hd1, hd3, hNe, hN1, hN, hn⟩ := hF
  refine lv_aload_n hx hb dX3_setDice_0 rfl (lv_at hl 0 rfl) ?_
  refine lv_iconst (v := 0) hx hb dX3_setDice_1 (by first | decide | rfl) ?_
  refine va_put (D := D) (ci := 4) (v := .int 0) (ty := .int) (C := RX3) (T := TX3) (N := 15) hx hb hts inlX3 tyX3 tyX3_ok nmX3 hown hK hP hD hS 0 rfl rfl 0 (by decide) (hts (Cond.fieldLink RX3 48 "TavernDiceModel" "thrown" "I") mw_5_15) (fun _ h9 => h9) rfl (by decide +kernel) rfl rfl (Nat.le_of_ble_eq_true rfl) dX3_setDice_2 (fun H locs hP hD hS => ?_)
  have hP : va_P D vwCl (wM cs am 0 bank rnds dn N n fc pu wh kn nm sk br ht sg) H := hP
  have hD : va_D _ (wM cs am 0 bank rnds dn N n fc pu wh kn nm sk br ht sg) := hD
  refine lv_iload_n hx hb dX3_setDice_5 rfl (lv_at hl 1 rfl) ?_
  refine rdS (As := [.int f]) (rest := []) ⟨hx, hb, hml, hown, hts⟩ hK 1 (m_isDie l D cs H f) (gin_s mw_5_20 mw_5_21 mw_1_5 mw_5_22) (by decide +kernel) ⟨Nat.le_of_ble_eq_true rfl, Nat.le_of_ble_eq_true rfl⟩ rfl hl.1 rfl (Nat.le_of_ble_eq_true rfl) dX3_setDice_6 ⟨(Nat.le_of_ble_eq_true rfl), (Nat.le_of_ble_eq_true rfl)⟩ ?_
  refine W.eq (g2 := F0 m 9 ls [.int (b2i (inM f 2 12))]) rfl ?_
  refine lv_if_eq (tgt := 42) hx hb dX3_setDice_9 (by decide) (fun c_1 => ?_) (fun c_1 => ?_)
  · first | contradiction | exact absurd hv (by simp [(b2i_eq0 _).mp c_1])
  · refine lv_iload_n hx hb dX3_setDice_12 rfl (lv_at hl 2 rfl) ?_
    refine lv_if_eq (tgt := 23) hx hb dX3_setDice_13 (by decide) (fun c_2 => ?_) (fun c_2 => ?_)
    · refine lv_iload_n hx hb dX3_setDice_23 rfl (lv_at hl 3 rfl) ?_
      refine lv_if_eq (tgt := 34) hx hb dX3_setDice_24 (by decide) (fun c_3 => ?_) (fun c_3 => ?_)
      · refine lv_iload_n hx hb dX3_setDice_34 rfl (lv_at hl 2 rfl) ?_
        refine lv_if_ne (tgt := 48) hx hb dX3_setDice_35 (by decide) (fun c_4 => ?_) (fun c_4 => ?_)
        · refine lv_aload_n hx hb dX3_setDice_48 rfl (lv_at hl 0 rfl) ?_
          refine va_get (D := D) (ci := 4) (v := .int (nI n)) (C := RX3) (T := TX3) (N := 15) hx hb hts inlX3 hown hK hP 0 rfl rfl 7 (by decide) (hts (Cond.fieldLink RX3 51 "TavernDiceModel" "open" "I") mw_5_16) (fun _ h9 => h9) rfl dX3_setDice_49 ?_
          refine lv_if_le (tgt := 61) hx hb dX3_setDice_52 (by decide) (fun c_5 => False.elim (absurd c_5 (nI_nle hop (by omega)))) (fun c_5 => ?_)
          refine lv_aload_n hx hb dX3_setDice_55 rfl (lv_at hl 0 rfl) ?_
          refine lv_iconst (v := 2) hx hb dX3_setDice_56 (by first | decide | rfl) ?_
          refine wrV (As := [.int 2]) (rest := []) (b := am 0) ⟨hx, hb, hml, hown, hts⟩ hK 1 (m_no l D cs H 2 (fun ov w1 => ov = some (.int 0) ∧ w1 = wM cs am 2 bank rnds dn N n fc pu wh kn nm sk br ht sg) ⟨rfl, rfl⟩ hP (hD.weaken (fun _ _ _ _ => trivial))) (gin_v mw_6_2 mw_6_3 mw_6_4 mw_1_5 mw_6_5) (by decide +kernel) ⟨Nat.le_of_ble_eq_true rfl, Nat.le_of_ble_eq_true rfl⟩ (va_recv hK hP (ci := 4) (q0 := 0) rfl rfl) rfl hl.1 rfl (Nat.le_of_ble_eq_true rfl) dX3_setDice_57 ⟨(Nat.le_of_ble_eq_true rfl), (Nat.le_of_ble_eq_true rfl)⟩ hD hS hA (fun ov9 w9 H locs hp9 hP hD hS => ?_)
          obtain ⟨rfl, rfl⟩ := hp9
          have hP : va_P D vwCl (wM cs am 2 bank rnds dn N n fc pu wh kn nm sk br ht sg) H := hP
          have hD : va_D _ (wM cs am 2 bank rnds dn N n fc pu wh kn nm sk br ht sg) := hD
          refine W.eq (g2 := F0 m 60 ls [.int 0]) rfl ?_
          exact wr_iret hQ hx hb hr hlocks hP hD hS (hpost) dX3_setDice_60
        · refine lv_iload_n hx hb dX3_setDice_38 rfl (lv_at hl 3 rfl) ?_
          refine lv_if_eq (tgt := 48) hx hb dX3_setDice_39 (by decide) (fun c_6 => ?_) (fun c_6 => ?_)
          · refine lv_aload_n hx hb dX3_setDice_48 rfl (lv_at hl 0 rfl) ?_
            refine va_get (D := D) (ci := 4) (v := .int (nI n)) (C := RX3) (T := TX3) (N := 15) hx hb hts inlX3 hown hK hP 0 rfl rfl 7 (by decide) (hts (Cond.fieldLink RX3 51 "TavernDiceModel" "open" "I") mw_5_16) (fun _ h9 => h9) rfl dX3_setDice_49 ?_
            refine lv_if_le (tgt := 61) hx hb dX3_setDice_52 (by decide) (fun c_7 => False.elim (absurd c_7 (nI_nle hop (by omega)))) (fun c_7 => ?_)
            refine lv_aload_n hx hb dX3_setDice_55 rfl (lv_at hl 0 rfl) ?_
            refine lv_iconst (v := 2) hx hb dX3_setDice_56 (by first | decide | rfl) ?_
            refine wrV (As := [.int 2]) (rest := []) (b := am 0) ⟨hx, hb, hml, hown, hts⟩ hK 1 (m_no l D cs H 2 (fun ov w1 => ov = some (.int 0) ∧ w1 = wM cs am 2 bank rnds dn N n fc pu wh kn nm sk br ht sg) ⟨rfl, rfl⟩ hP (hD.weaken (fun _ _ _ _ => trivial))) (gin_v mw_6_2 mw_6_3 mw_6_4 mw_1_5 mw_6_5) (by decide +kernel) ⟨Nat.le_of_ble_eq_true rfl, Nat.le_of_ble_eq_true rfl⟩ (va_recv hK hP (ci := 4) (q0 := 0) rfl rfl) rfl hl.1 rfl (Nat.le_of_ble_eq_true rfl) dX3_setDice_57 ⟨(Nat.le_of_ble_eq_true rfl), (Nat.le_of_ble_eq_true rfl)⟩ hD hS hA (fun ov9 w9 H locs hp9 hP hD hS => ?_)
            obtain ⟨rfl, rfl⟩ := hp9
            have hP : va_P D vwCl (wM cs am 2 bank rnds dn N n fc pu wh kn nm sk br ht sg) H := hP
            have hD : va_D _ (wM cs am 2 bank rnds dn N n fc pu wh kn nm sk br ht sg) := hD
            refine W.eq (g2 := F0 m 60 ls [.int 0]) rfl ?_
            exact wr_iret hQ hx hb hr hlocks hP hD hS (hpost) dX3_setDice_60
          · first | contradiction | exact absurd hv (by simp [(b2i_ne0 _).mp c_1, c_2, c_3, c_4, c_6])
      · refine lv_iload_n hx hb dX3_setDice_27 rfl (lv_at hl 3 rfl) ?_
        refine rdS (As := [.int t9]) (rest := []) ⟨hx, hb, hml, hown, hts⟩ hK 1 (m_isDie l D cs H t9) (gin_s mw_5_20 mw_5_21 mw_1_5 mw_5_22) (by decide +kernel) ⟨Nat.le_of_ble_eq_true rfl, Nat.le_of_ble_eq_true rfl⟩ rfl hl.1 rfl (Nat.le_of_ble_eq_true rfl) dX3_setDice_28 ⟨(Nat.le_of_ble_eq_true rfl), (Nat.le_of_ble_eq_true rfl)⟩ ?_
        refine W.eq (g2 := F0 m 31 ls [.int (b2i (inM t9 2 12))]) rfl ?_
        refine lv_if_eq (tgt := 42) hx hb dX3_setDice_31 (by decide) (fun c_8 => ?_) (fun c_8 => ?_)
        · first | contradiction | exact absurd hv (by simp [(b2i_ne0 _).mp c_1, c_2, c_3, (b2i_eq0 _).mp c_8])
        · refine lv_iload_n hx hb dX3_setDice_34 rfl (lv_at hl 2 rfl) ?_
          refine lv_if_ne (tgt := 48) hx hb dX3_setDice_35 (by decide) (fun c_9 => ?_) (fun c_9 => ?_)
          · refine lv_aload_n hx hb dX3_setDice_48 rfl (lv_at hl 0 rfl) ?_
            refine va_get (D := D) (ci := 4) (v := .int (nI n)) (C := RX3) (T := TX3) (N := 15) hx hb hts inlX3 hown hK hP 0 rfl rfl 7 (by decide) (hts (Cond.fieldLink RX3 51 "TavernDiceModel" "open" "I") mw_5_16) (fun _ h9 => h9) rfl dX3_setDice_49 ?_
            refine lv_if_le (tgt := 61) hx hb dX3_setDice_52 (by decide) (fun c_10 => False.elim (absurd c_10 (nI_nle hop (by omega)))) (fun c_10 => ?_)
            refine lv_aload_n hx hb dX3_setDice_55 rfl (lv_at hl 0 rfl) ?_
            refine lv_iconst (v := 2) hx hb dX3_setDice_56 (by first | decide | rfl) ?_
            refine wrV (As := [.int 2]) (rest := []) (b := am 0) ⟨hx, hb, hml, hown, hts⟩ hK 1 (m_no l D cs H 2 (fun ov w1 => ov = some (.int 0) ∧ w1 = wM cs am 2 bank rnds dn N n fc pu wh kn nm sk br ht sg) ⟨rfl, rfl⟩ hP (hD.weaken (fun _ _ _ _ => trivial))) (gin_v mw_6_2 mw_6_3 mw_6_4 mw_1_5 mw_6_5) (by decide +kernel) ⟨Nat.le_of_ble_eq_true rfl, Nat.le_of_ble_eq_true rfl⟩ (va_recv hK hP (ci := 4) (q0 := 0) rfl rfl) rfl hl.1 rfl (Nat.le_of_ble_eq_true rfl) dX3_setDice_57 ⟨(Nat.le_of_ble_eq_true rfl), (Nat.le_of_ble_eq_true rfl)⟩ hD hS hA (fun ov9 w9 H locs hp9 hP hD hS => ?_)
            obtain ⟨rfl, rfl⟩ := hp9
            have hP : va_P D vwCl (wM cs am 2 bank rnds dn N n fc pu wh kn nm sk br ht sg) H := hP
            have hD : va_D _ (wM cs am 2 bank rnds dn N n fc pu wh kn nm sk br ht sg) := hD
            refine W.eq (g2 := F0 m 60 ls [.int 0]) rfl ?_
            exact wr_iret hQ hx hb hr hlocks hP hD hS (hpost) dX3_setDice_60
          · refine lv_iload_n hx hb dX3_setDice_38 rfl (lv_at hl 3 rfl) ?_
            refine lv_if_eq (tgt := 48) hx hb dX3_setDice_39 (by decide) (fun c_11 => ?_) (fun c_11 => ?_)
            · refine lv_aload_n hx hb dX3_setDice_48 rfl (lv_at hl 0 rfl) ?_
              refine va_get (D := D) (ci := 4) (v := .int (nI n)) (C := RX3) (T := TX3) (N := 15) hx hb hts inlX3 hown hK hP 0 rfl rfl 7 (by decide) (hts (Cond.fieldLink RX3 51 "TavernDiceModel" "open" "I") mw_5_16) (fun _ h9 => h9) rfl dX3_setDice_49 ?_
              refine lv_if_le (tgt := 61) hx hb dX3_setDice_52 (by decide) (fun c_12 => False.elim (absurd c_12 (nI_nle hop (by omega)))) (fun c_12 => ?_)
              refine lv_aload_n hx hb dX3_setDice_55 rfl (lv_at hl 0 rfl) ?_
              refine lv_iconst (v := 2) hx hb dX3_setDice_56 (by first | decide | rfl) ?_
              refine wrV (As := [.int 2]) (rest := []) (b := am 0) ⟨hx, hb, hml, hown, hts⟩ hK 1 (m_no l D cs H 2 (fun ov w1 => ov = some (.int 0) ∧ w1 = wM cs am 2 bank rnds dn N n fc pu wh kn nm sk br ht sg) ⟨rfl, rfl⟩ hP (hD.weaken (fun _ _ _ _ => trivial))) (gin_v mw_6_2 mw_6_3 mw_6_4 mw_1_5 mw_6_5) (by decide +kernel) ⟨Nat.le_of_ble_eq_true rfl, Nat.le_of_ble_eq_true rfl⟩ (va_recv hK hP (ci := 4) (q0 := 0) rfl rfl) rfl hl.1 rfl (Nat.le_of_ble_eq_true rfl) dX3_setDice_57 ⟨(Nat.le_of_ble_eq_true rfl), (Nat.le_of_ble_eq_true rfl)⟩ hD hS hA (fun ov9 w9 H locs hp9 hP hD hS => ?_)
              obtain ⟨rfl, rfl⟩ := hp9
              have hP : va_P D vwCl (wM cs am 2 bank rnds dn N n fc pu wh kn nm sk br ht sg) H := hP
              have hD : va_D _ (wM cs am 2 bank rnds dn N n fc pu wh kn nm sk br ht sg) := hD
              refine W.eq (g2 := F0 m 60 ls [.int 0]) rfl ?_
              exact wr_iret hQ hx hb hr hlocks hP hD hS (hpost) dX3_setDice_60
            · first | contradiction | exact absurd hv (by simp [(b2i_ne0 _).mp c_1, c_2, c_3, (b2i_ne0 _).mp c_8, c_9, c_11])
    · refine lv_iload_n hx hb dX3_setDice_16 rfl (lv_at hl 2 rfl) ?_
      refine rdS (As := [.int s9]) (rest := []) ⟨hx, hb, hml, hown, hts⟩ hK 1 (m_isDie l D cs H s9) (gin_s mw_5_20 mw_5_21 mw_1_5 mw_5_22) (by decide +kernel) ⟨Nat.le_of_ble_eq_true rfl, Nat.le_of_ble_eq_true rfl⟩ rfl hl.1 rfl (Nat.le_of_ble_eq_true rfl) dX3_setDice_17 ⟨(Nat.le_of_ble_eq_true rfl), (Nat.le_of_ble_eq_true rfl)⟩ ?_
      refine W.eq (g2 := F0 m 20 ls [.int (b2i (inM s9 2 12))]) rfl ?_
      refine lv_if_eq (tgt := 42) hx hb dX3_setDice_20 (by decide) (fun c_13 => ?_) (fun c_13 => ?_)
      · first | contradiction | exact absurd hv (by simp [(b2i_ne0 _).mp c_1, c_2, (b2i_eq0 _).mp c_13])
      · refine lv_iload_n hx hb dX3_setDice_23 rfl (lv_at hl 3 rfl) ?_
        refine lv_if_eq (tgt := 34) hx hb dX3_setDice_24 (by decide) (fun c_14 => ?_) (fun c_14 => ?_)
        · refine lv_iload_n hx hb dX3_setDice_34 rfl (lv_at hl 2 rfl) ?_
          refine lv_if_ne (tgt := 48) hx hb dX3_setDice_35 (by decide) (fun c_15 => ?_) (fun c_15 => ?_)
          · refine lv_aload_n hx hb dX3_setDice_48 rfl (lv_at hl 0 rfl) ?_
            refine va_get (D := D) (ci := 4) (v := .int (nI n)) (C := RX3) (T := TX3) (N := 15) hx hb hts inlX3 hown hK hP 0 rfl rfl 7 (by decide) (hts (Cond.fieldLink RX3 51 "TavernDiceModel" "open" "I") mw_5_16) (fun _ h9 => h9) rfl dX3_setDice_49 ?_
            refine lv_if_le (tgt := 61) hx hb dX3_setDice_52 (by decide) (fun c_16 => False.elim (absurd c_16 (nI_nle hop (by omega)))) (fun c_16 => ?_)
            refine lv_aload_n hx hb dX3_setDice_55 rfl (lv_at hl 0 rfl) ?_
            refine lv_iconst (v := 2) hx hb dX3_setDice_56 (by first | decide | rfl) ?_
            refine wrV (As := [.int 2]) (rest := []) (b := am 0) ⟨hx, hb, hml, hown, hts⟩ hK 1 (m_no l D cs H 2 (fun ov w1 => ov = some (.int 0) ∧ w1 = wM cs am 2 bank rnds dn N n fc pu wh kn nm sk br ht sg) ⟨rfl, rfl⟩ hP (hD.weaken (fun _ _ _ _ => trivial))) (gin_v mw_6_2 mw_6_3 mw_6_4 mw_1_5 mw_6_5) (by decide +kernel) ⟨Nat.le_of_ble_eq_true rfl, Nat.le_of_ble_eq_true rfl⟩ (va_recv hK hP (ci := 4) (q0 := 0) rfl rfl) rfl hl.1 rfl (Nat.le_of_ble_eq_true rfl) dX3_setDice_57 ⟨(Nat.le_of_ble_eq_true rfl), (Nat.le_of_ble_eq_true rfl)⟩ hD hS hA (fun ov9 w9 H locs hp9 hP hD hS => ?_)
            obtain ⟨rfl, rfl⟩ := hp9
            have hP : va_P D vwCl (wM cs am 2 bank rnds dn N n fc pu wh kn nm sk br ht sg) H := hP
            have hD : va_D _ (wM cs am 2 bank rnds dn N n fc pu wh kn nm sk br ht sg) := hD
            refine W.eq (g2 := F0 m 60 ls [.int 0]) rfl ?_
            exact wr_iret hQ hx hb hr hlocks hP hD hS (hpost) dX3_setDice_60
          · refine lv_iload_n hx hb dX3_setDice_38 rfl (lv_at hl 3 rfl) ?_
            refine lv_if_eq (tgt := 48) hx hb dX3_setDice_39 (by decide) (fun c_17 => ?_) (fun c_17 => ?_)
            · refine lv_aload_n hx hb dX3_setDice_48 rfl (lv_at hl 0 rfl) ?_
              refine va_get (D := D) (ci := 4) (v := .int (nI n)) (C := RX3) (T := TX3) (N := 15) hx hb hts inlX3 hown hK hP 0 rfl rfl 7 (by decide) (hts (Cond.fieldLink RX3 51 "TavernDiceModel" "open" "I") mw_5_16) (fun _ h9 => h9) rfl dX3_setDice_49 ?_
              refine lv_if_le (tgt := 61) hx hb dX3_setDice_52 (by decide) (fun c_18 => False.elim (absurd c_18 (nI_nle hop (by omega)))) (fun c_18 => ?_)
              refine lv_aload_n hx hb dX3_setDice_55 rfl (lv_at hl 0 rfl) ?_
              refine lv_iconst (v := 2) hx hb dX3_setDice_56 (by first | decide | rfl) ?_
              refine wrV (As := [.int 2]) (rest := []) (b := am 0) ⟨hx, hb, hml, hown, hts⟩ hK 1 (m_no l D cs H 2 (fun ov w1 => ov = some (.int 0) ∧ w1 = wM cs am 2 bank rnds dn N n fc pu wh kn nm sk br ht sg) ⟨rfl, rfl⟩ hP (hD.weaken (fun _ _ _ _ => trivial))) (gin_v mw_6_2 mw_6_3 mw_6_4 mw_1_5 mw_6_5) (by decide +kernel) ⟨Nat.le_of_ble_eq_true rfl, Nat.le_of_ble_eq_true rfl⟩ (va_recv hK hP (ci := 4) (q0 := 0) rfl rfl) rfl hl.1 rfl (Nat.le_of_ble_eq_true rfl) dX3_setDice_57 ⟨(Nat.le_of_ble_eq_true rfl), (Nat.le_of_ble_eq_true rfl)⟩ hD hS hA (fun ov9 w9 H locs hp9 hP hD hS => ?_)
              obtain ⟨rfl, rfl⟩ := hp9
              have hP : va_P D vwCl (wM cs am 2 bank rnds dn N n fc pu wh kn nm sk br ht sg) H := hP
              have hD : va_D _ (wM cs am 2 bank rnds dn N n fc pu wh kn nm sk br ht sg) := hD
              refine W.eq (g2 := F0 m 60 ls [.int 0]) rfl ?_
              exact wr_iret hQ hx hb hr hlocks hP hD hS (hpost) dX3_setDice_60
            · first | contradiction | exact absurd hv (by simp [(b2i_ne0 _).mp c_1, c_2, (b2i_ne0 _).mp c_13, c_14, c_15, c_17])
        · refine lv_iload_n hx hb dX3_setDice_27 rfl (lv_at hl 3 rfl) ?_
          refine rdS (As := [.int t9]) (rest := []) ⟨hx, hb, hml, hown, hts⟩ hK 1 (m_isDie l D cs H t9) (gin_s mw_5_20 mw_5_21 mw_1_5 mw_5_22) (by decide +kernel) ⟨Nat.le_of_ble_eq_true rfl, Nat.le_of_ble_eq_true rfl⟩ rfl hl.1 rfl (Nat.le_of_ble_eq_true rfl) dX3_setDice_28 ⟨(Nat.le_of_ble_eq_true rfl), (Nat.le_of_ble_eq_true rfl)⟩ ?_
          refine W.eq (g2 := F0 m 31 ls [.int (b2i (inM t9 2 12))]) rfl ?_
          refine lv_if_eq (tgt := 42) hx hb dX3_setDice_31 (by decide) (fun c_19 => ?_) (fun c_19 => ?_)
          · first | contradiction | exact absurd hv (by simp [(b2i_ne0 _).mp c_1, c_2, (b2i_ne0 _).mp c_13, c_14, (b2i_eq0 _).mp c_19])
          · refine lv_iload_n hx hb dX3_setDice_34 rfl (lv_at hl 2 rfl) ?_
            refine lv_if_ne (tgt := 48) hx hb dX3_setDice_35 (by decide) (fun c_20 => ?_) (fun c_20 => ?_)
            · refine lv_aload_n hx hb dX3_setDice_48 rfl (lv_at hl 0 rfl) ?_
              refine va_get (D := D) (ci := 4) (v := .int (nI n)) (C := RX3) (T := TX3) (N := 15) hx hb hts inlX3 hown hK hP 0 rfl rfl 7 (by decide) (hts (Cond.fieldLink RX3 51 "TavernDiceModel" "open" "I") mw_5_16) (fun _ h9 => h9) rfl dX3_setDice_49 ?_
              refine lv_if_le (tgt := 61) hx hb dX3_setDice_52 (by decide) (fun c_21 => False.elim (absurd c_21 (nI_nle hop (by omega)))) (fun c_21 => ?_)
              refine lv_aload_n hx hb dX3_setDice_55 rfl (lv_at hl 0 rfl) ?_
              refine lv_iconst (v := 2) hx hb dX3_setDice_56 (by first | decide | rfl) ?_
              refine wrV (As := [.int 2]) (rest := []) (b := am 0) ⟨hx, hb, hml, hown, hts⟩ hK 1 (m_no l D cs H 2 (fun ov w1 => ov = some (.int 0) ∧ w1 = wM cs am 2 bank rnds dn N n fc pu wh kn nm sk br ht sg) ⟨rfl, rfl⟩ hP (hD.weaken (fun _ _ _ _ => trivial))) (gin_v mw_6_2 mw_6_3 mw_6_4 mw_1_5 mw_6_5) (by decide +kernel) ⟨Nat.le_of_ble_eq_true rfl, Nat.le_of_ble_eq_true rfl⟩ (va_recv hK hP (ci := 4) (q0 := 0) rfl rfl) rfl hl.1 rfl (Nat.le_of_ble_eq_true rfl) dX3_setDice_57 ⟨(Nat.le_of_ble_eq_true rfl), (Nat.le_of_ble_eq_true rfl)⟩ hD hS hA (fun ov9 w9 H locs hp9 hP hD hS => ?_)
              obtain ⟨rfl, rfl⟩ := hp9
              have hP : va_P D vwCl (wM cs am 2 bank rnds dn N n fc pu wh kn nm sk br ht sg) H := hP
              have hD : va_D _ (wM cs am 2 bank rnds dn N n fc pu wh kn nm sk br ht sg) := hD
              refine W.eq (g2 := F0 m 60 ls [.int 0]) rfl ?_
              exact wr_iret hQ hx hb hr hlocks hP hD hS (hpost) dX3_setDice_60
            · refine lv_iload_n hx hb dX3_setDice_38 rfl (lv_at hl 3 rfl) ?_
              refine lv_if_eq (tgt := 48) hx hb dX3_setDice_39 (by decide) (fun c_22 => ?_) (fun c_22 => ?_)
              · refine lv_aload_n hx hb dX3_setDice_48 rfl (lv_at hl 0 rfl) ?_
                refine va_get (D := D) (ci := 4) (v := .int (nI n)) (C := RX3) (T := TX3) (N := 15) hx hb hts inlX3 hown hK hP 0 rfl rfl 7 (by decide) (hts (Cond.fieldLink RX3 51 "TavernDiceModel" "open" "I") mw_5_16) (fun _ h9 => h9) rfl dX3_setDice_49 ?_
                refine lv_if_le (tgt := 61) hx hb dX3_setDice_52 (by decide) (fun c_23 => False.elim (absurd c_23 (nI_nle hop (by omega)))) (fun c_23 => ?_)
                refine lv_aload_n hx hb dX3_setDice_55 rfl (lv_at hl 0 rfl) ?_
                refine lv_iconst (v := 2) hx hb dX3_setDice_56 (by first | decide | rfl) ?_
                refine wrV (As := [.int 2]) (rest := []) (b := am 0) ⟨hx, hb, hml, hown, hts⟩ hK 1 (m_no l D cs H 2 (fun ov w1 => ov = some (.int 0) ∧ w1 = wM cs am 2 bank rnds dn N n fc pu wh kn nm sk br ht sg) ⟨rfl, rfl⟩ hP (hD.weaken (fun _ _ _ _ => trivial))) (gin_v mw_6_2 mw_6_3 mw_6_4 mw_1_5 mw_6_5) (by decide +kernel) ⟨Nat.le_of_ble_eq_true rfl, Nat.le_of_ble_eq_true rfl⟩ (va_recv hK hP (ci := 4) (q0 := 0) rfl rfl) rfl hl.1 rfl (Nat.le_of_ble_eq_true rfl) dX3_setDice_57 ⟨(Nat.le_of_ble_eq_true rfl), (Nat.le_of_ble_eq_true rfl)⟩ hD hS hA (fun ov9 w9 H locs hp9 hP hD hS => ?_)
                obtain ⟨rfl, rfl⟩ := hp9
                have hP : va_P D vwCl (wM cs am 2 bank rnds dn N n fc pu wh kn nm sk br ht sg) H := hP
                have hD : va_D _ (wM cs am 2 bank rnds dn N n fc pu wh kn nm sk br ht sg) := hD
                refine W.eq (g2 := F0 m 60 ls [.int 0]) rfl ?_
                exact wr_iret hQ hx hb hr hlocks hP hD hS (hpost) dX3_setDice_60
              · first | contradiction | exact absurd hv (by simp [(b2i_ne0 _).mp c_1, c_2, (b2i_ne0 _).mp c_13, c_14, (b2i_ne0 _).mp c_19, c_20, c_22])
