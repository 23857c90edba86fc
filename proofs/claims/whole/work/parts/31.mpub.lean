/-! the reference: its public methods, fourth part; rows by program -/
set_option maxHeartbeats 4000000 in
set_option maxRecDepth 100000 in
theorem mp_takeBack (l : Launch) (D : va_G) (cs : Nat → ClassId) (H : Heap) {am : Nat → Nat} {th bank rnds : Int32} {dn N n1 : Nat} {fc pu wh kn nm sk br ht sg : Nat → Int32} {fn : Nat → Nat} (hF : FM fn dn N (n1 + 1) fc) {pt : Nat → Nat} (hpt : ∀ i, i < n1 + 1 → wh i = nI (pt i) ∧ pt i < 6) (hB : ∀ j, fits .boolean (.int (ht j)) = true) (i : Nat) (hlt : i < n1 + 1) (hv : inM (nI i) 0 (nI (n1 + 1) - 1) = true) (post : Option Value → va_W → Prop) (hpost : post (some (.int (sk i))) (wM cs am 0 bank rnds dn N n1 fc ((upd pu (pt i) (pu (pt i) + sk i))) ((shM wh i n1)) ((shM kn i n1)) ((shM nm i n1)) ((shM sk i n1)) ((shM br i n1)) ((shH N ht i (n1 - i))) sg)) (hP : va_P D vwCl (wM cs am th bank rnds dn N (n1 + 1) fc pu wh kn nm sk br ht sg) H) (hD : va_D (fun _ => True) (wM cs am th bank rnds dn N (n1 + 1) fc pu wh kn nm sk br ht sg)) : Wr l D cs 3 0 0 yX3_takeBack cX3_takeBack 4 (some .int) (wM cs am th bank rnds dn N (n1 + 1) fc pu wh kn nm sk br ht sg) H [.ref (am 0), .int (nI i)] post := by
  refine wr_ent (by decide) (Nat.le_of_ble_eq_true rfl) hP hD ?_
  clear hP hD H
  intro p e s m below meth c ls A Q H hx hb hr hml hown hts hlocks hin hl hK hQ hA hH hP hD hS
  clear hH
  have hl : lv_has ls 4 [(0, .ref (am 0)), (1, .int (nI i))] := hl
  have hF0 := hF
  obtain ⟨hF3, hd1, hd3, hNe, hN1, hN, hn⟩ := hF
  refine lv_aload_n hx hb dX3_takeBack_0 rfl (lv_at hl 0 rfl) ?_
  refine lv_iconst (v := 0) hx hb dX3_takeBack_1 (by first | decide | rfl) ?_
  refine va_put (D := D) (ci := 4) (v := .int 0) (ty := .int) (C := RX3) (T := TX3) (N := 15) hx hb hts inlX3 tyX3 tyX3_ok nmX3 hown hK hP hD hS 0 rfl rfl 0 (by decide) (hts (Cond.fieldLink RX3 48 "TavernDiceModel" "thrown" "I") mw_5_15) (fun _ h9 => h9) rfl (by decide +kernel) rfl rfl (Nat.le_of_ble_eq_true rfl) dX3_takeBack_2 (fun H locs hP hD hS => ?_)
  have hP : va_P D vwCl (wM cs am 0 bank rnds dn N (n1 + 1) fc pu wh kn nm sk br ht sg) H := hP
  have hD : va_D _ (wM cs am 0 bank rnds dn N (n1 + 1) fc pu wh kn nm sk br ht sg) := hD
  refine lv_aload_n hx hb dX3_takeBack_5 rfl (lv_at hl 0 rfl) ?_
  refine lv_iload_n hx hb dX3_takeBack_6 rfl (lv_at hl 1 rfl) ?_
  refine rdV (As := [.int (nI i)]) (rest := []) (b := am 0) ⟨hx, hb, hml, hown, hts⟩ hK 1 (m_isWager l D cs H hP hF0 (nI i)) (gin_v mw_16_12 mw_16_13 mw_16_14 mw_1_5 mw_16_15) (by decide +kernel) ⟨Nat.le_of_ble_eq_true rfl, Nat.le_of_ble_eq_true rfl⟩ (va_recv hK hP (ci := 4) (q0 := 0) rfl rfl) rfl hl.1 rfl (Nat.le_of_ble_eq_true rfl) dX3_takeBack_7 ⟨(Nat.le_of_ble_eq_true rfl), (Nat.le_of_ble_eq_true rfl)⟩ ?_
  refine W.eq (g2 := F0 m 10 ls [.int (b2i (inM (nI i) 0 (nI (n1 + 1) - 1)))]) rfl ?_
  refine lv_if_ne (tgt := 19) hx hb dX3_takeBack_10 (by decide) (fun c_1 => ?_) (fun c_1 => False.elim (absurd c_1 ((b2i_ne0 _).mpr hv)))
  refine lv_aload_n hx hb dX3_takeBack_19 rfl (lv_at hl 0 rfl) ?_
  refine va_get (D := D) (ci := 4) (v := .ref (am 6)) (C := RX3) (T := TX3) (N := 15) hx hb hts inlX3 hown hK hP 0 rfl rfl 11 (by decide) (hts (Cond.fieldLink RX3 35 "TavernDiceModel" "stake" "[I") mw_4_3) (fun _ h9 => h9) rfl dX3_takeBack_20 ?_
  refine lv_iload_n hx hb dX3_takeBack_23 rfl (lv_at hl 1 rfl) ?_
  refine va_iald hx hb hK hP 6 0 rfl rfl (vp_in_nI (by omega) (by omega)) dX3_takeBack_24 ?_
  refine lv_rwi (y := sk i) (congrArg sk (nI_clamp (by omega))) ?_
  refine lv_istore_n (lv' := [(2, .int (sk i)), (0, .ref (am 0)), (1, .int (nI i))]) hx hb dX3_takeBack_25 rfl hl (by decide) rfl (fun ls hl => ?_)
  refine lv_aload_n hx hb dX3_takeBack_26 rfl (lv_at hl 1 rfl) ?_
  refine va_get (D := D) (ci := 4) (v := .ref (am 2)) (C := RX3) (T := TX3) (N := 15) hx hb hts inlX3 hown hK hP 0 rfl rfl 4 (by decide) (hts (Cond.fieldLink RX3 20 "TavernDiceModel" "purse" "[I") mw_3_22) (fun _ h9 => h9) rfl dX3_takeBack_27 ?_
  refine lv_aload_n hx hb dX3_takeBack_30 rfl (lv_at hl 1 rfl) ?_
  refine va_get (D := D) (ci := 4) (v := .ref (am 3)) (C := RX3) (T := TX3) (N := 15) hx hb hts inlX3 hown hK hP 0 rfl rfl 8 (by decide) (hts (Cond.fieldLink RX3 26 "TavernDiceModel" "who" "[I") mw_4_0) (fun _ h9 => h9) rfl dX3_takeBack_31 ?_
  refine lv_iload_n hx hb dX3_takeBack_34 rfl (lv_at hl 2 rfl) ?_
  refine va_iald hx hb hK hP 3 0 rfl rfl (vp_in_nI (by omega) (by omega)) dX3_takeBack_35 ?_
  refine lv_rwi (y := nI (pt i)) ((congrArg wh (nI_clamp (by omega))).trans (hpt i hlt).1) ?_
  refine lv_dup2_11 hx hb dX3_takeBack_36 rfl rfl ?_
  refine va_iald hx hb hK hP 2 0 rfl rfl (vp_in_nI (hpt i hlt).2 (by omega)) dX3_takeBack_37 ?_
  refine lv_rwi (y := pu (pt i)) (congrArg pu (nI_clamp (by have g := (hpt i hlt).2; omega))) ?_
  refine lv_iload_n hx hb dX3_takeBack_38 rfl (lv_at hl 0 rfl) ?_
  refine lv_iadd hx hb dX3_takeBack_39 ?_
  refine va_iast hx hb hK hP hD hS 2 0 rfl rfl (vp_in_nI (hpt i hlt).2 (by omega)) dX3_takeBack_40 (fun H locs hP hD hS => ?_)
  have g9 : upd pu (nI (pt i)).toNatClampNeg ((pu (pt i)) + (sk i)) = upd pu (pt i) (pu (pt i) + sk i) := by rw [nI_clamp (by have g := (hpt i hlt).2; omega)]
  have hP : va_P D vwCl (wM cs am 0 bank rnds dn N (n1 + 1) fc (upd pu (pt i) (pu (pt i) + sk i)) wh kn nm sk br ht sg) H := Eq.mp (congrArg (fun z9 => va_P D vwCl (wM cs am 0 bank rnds dn N (n1 + 1) fc z9 wh kn nm sk br ht sg) H) g9) hP
  have hD : va_D _ (wM cs am 0 bank rnds dn N (n1 + 1) fc (upd pu (pt i) (pu (pt i) + sk i)) wh kn nm sk br ht sg) := Eq.mp (congrArg (fun z9 => va_D _ (wM cs am 0 bank rnds dn N (n1 + 1) fc z9 wh kn nm sk br ht sg)) g9) hD
  refine lv_aload_n hx hb dX3_takeBack_41 rfl (lv_at hl 1 rfl) ?_
  refine lv_dup hx hb dX3_takeBack_42 rfl ?_
  refine va_get (D := D) (ci := 4) (v := .int (nI (n1 + 1))) (C := RX3) (T := TX3) (N := 15) hx hb hts inlX3 hown hK hP 0 rfl rfl 7 (by decide) (hts (Cond.fieldLink RX3 51 "TavernDiceModel" "open" "I") mw_5_16) (fun _ h9 => h9) rfl dX3_takeBack_43 ?_
  refine lv_iconst (v := 1) hx hb dX3_takeBack_46 (by first | decide | rfl) ?_
  refine lv_isub hx hb dX3_takeBack_47 ?_
  refine lv_rwi (y := nI n1) (nI_pred n1) ?_
  refine va_put (D := D) (ci := 4) (v := .int (nI n1)) (ty := .int) (C := RX3) (T := TX3) (N := 15) hx hb hts inlX3 tyX3 tyX3_ok nmX3 hown hK hP hD hS 0 rfl rfl 7 (by decide) (hts (Cond.fieldLink RX3 51 "TavernDiceModel" "open" "I") mw_5_16) (fun _ h9 => h9) rfl (by decide +kernel) rfl rfl (Nat.le_of_ble_eq_true rfl) dX3_takeBack_48 (fun H locs hP hD hS => ?_)
  have hP : va_P D vwCl (wM cs am 0 bank rnds dn N n1 fc (upd pu (pt i) (pu (pt i) + sk i)) wh kn nm sk br ht sg) H := hP
  have hD : va_D _ (wM cs am 0 bank rnds dn N n1 fc (upd pu (pt i) (pu (pt i) + sk i)) wh kn nm sk br ht sg) := hD
  refine lv_iload_n hx hb dX3_takeBack_51 rfl (lv_at hl 2 rfl) ?_
  refine lv_istore_n (lv' := [(3, .int (nI i)), (2, .int (sk i)), (0, .ref (am 0)), (1, .int (nI i))]) hx hb dX3_takeBack_52 rfl hl (by decide) rfl (fun ls hl => ?_)
  have loop53 : ∀ (n9 : Nat) (j : Nat) (H : Heap) (locs : List Loc) (ls : Array Slot), i ≤ j → j ≤ n1 → n1 + 1 ≤ j + n9 → va_P D vwCl (wM cs am 0 bank rnds dn N n1 fc ((upd pu (pt i) (pu (pt i) + sk i))) ((shM wh i j)) ((shM kn i j)) ((shM nm i j)) ((shM sk i j)) ((shM br i j)) ((shH N ht i (j - i))) sg) H → va_D A (wM cs am 0 bank rnds dn N n1 fc ((upd pu (pt i) (pu (pt i) + sk i))) ((shM wh i j)) ((shM kn i j)) ((shM nm i j)) ((shM sk i j)) ((shM br i j)) ((shH N ht i (j - i))) sg) → va_S A s.heap H locs → lv_has ls 4 [(0, .ref (am 0)), (1, .int (nI i)), (2, .int (sk i)), (3, .int (nI j))] → W p l e (rmL 3 0 0) s m [.ref (am 0), .int (nI i)].toArray below meth c H locs 0 0 Q (F0 m 53 ls []) := by
    intro n9
    induction n9 with
    | zero => intro j  H locs ls hij hj hf hP hD hS hl; exact absurd hf (by omega)
    | succ n9 ih53 =>
      intro j  H locs ls hij hj hf hP hD hS hl
      refine lv_iload_n hx hb dX3_takeBack_53 rfl (lv_at hl 3 rfl) ?_
      refine lv_aload_n hx hb dX3_takeBack_54 rfl (lv_at hl 0 rfl) ?_
      refine va_get (D := D) (ci := 4) (v := .int (nI n1)) (C := RX3) (T := TX3) (N := 15) hx hb hts inlX3 hown hK hP 0 rfl rfl 7 (by decide) (hts (Cond.fieldLink RX3 51 "TavernDiceModel" "open" "I") mw_5_16) (fun _ h9 => h9) rfl dX3_takeBack_55 ?_
      refine lv_icmp_ge (tgt := 164) hx hb dX3_takeBack_58 (by decide) (fun c_2 => ?_) (fun c_2 => ?_)
      · refine lv_iload_n hx hb dX3_takeBack_164 rfl (lv_at hl 2 rfl) ?_
        exact wr_iret hQ hx hb hr hlocks hP hD hS (by
            have g : j = n1 := by have g := (nI_leI (by omega) (by omega)).mp c_2; omega
            subst g
            exact hpost) dX3_takeBack_165
      · have hl9 : j < n1 := by
          rcases Nat.lt_or_ge j n1 with q | q
          · exact q
          · exact absurd (nI_le q (by omega)) c_2
        refine lv_aload_n hx hb dX3_takeBack_61 rfl (lv_at hl 0 rfl) ?_
        refine va_get (D := D) (ci := 4) (v := .ref (am 3)) (C := RX3) (T := TX3) (N := 15) hx hb hts inlX3 hown hK hP 0 rfl rfl 8 (by decide) (hts (Cond.fieldLink RX3 26 "TavernDiceModel" "who" "[I") mw_4_0) (fun _ h9 => h9) rfl dX3_takeBack_62 ?_
        refine lv_iload_n hx hb dX3_takeBack_65 rfl (lv_at hl 3 rfl) ?_
        refine lv_aload_n hx hb dX3_takeBack_66 rfl (lv_at hl 0 rfl) ?_
        refine va_get (D := D) (ci := 4) (v := .ref (am 3)) (C := RX3) (T := TX3) (N := 15) hx hb hts inlX3 hown hK hP 0 rfl rfl 8 (by decide) (hts (Cond.fieldLink RX3 26 "TavernDiceModel" "who" "[I") mw_4_0) (fun _ h9 => h9) rfl dX3_takeBack_67 ?_
        refine lv_iload_n hx hb dX3_takeBack_70 rfl (lv_at hl 3 rfl) ?_
        refine lv_iconst (v := 1) hx hb dX3_takeBack_71 (by first | decide | rfl) ?_
        refine lv_iadd hx hb dX3_takeBack_72 ?_
        refine lv_rwi (y := nI (j + 1)) (nI_1 j) ?_
        refine va_iald hx hb hK hP 3 0 rfl rfl (vp_in_nI (by omega) (by omega)) dX3_takeBack_73 ?_
        refine lv_rwi (y := wh (j + 1)) ((congrArg (shM wh i j) (nI_clamp (by omega))).trans (shM_u wh (by omega))) ?_
        refine va_iast hx hb hK hP hD hS 3 0 rfl rfl (vp_in_nI (by omega) (by omega)) dX3_takeBack_74 (fun H locs hP hD hS => ?_)
        have g9 : upd ((shM wh i j)) (nI j).toNatClampNeg (wh (j + 1)) = shM wh i (j + 1) := by rw [nI_clamp (by omega)]; exact shM_s wh hij
        have hP : va_P D vwCl (wM cs am 0 bank rnds dn N n1 fc ((upd pu (pt i) (pu (pt i) + sk i))) (shM wh i (j + 1)) ((shM kn i j)) ((shM nm i j)) ((shM sk i j)) ((shM br i j)) ((shH N ht i (j - i))) sg) H := Eq.mp (congrArg (fun z9 => va_P D vwCl (wM cs am 0 bank rnds dn N n1 fc ((upd pu (pt i) (pu (pt i) + sk i))) z9 ((shM kn i j)) ((shM nm i j)) ((shM sk i j)) ((shM br i j)) ((shH N ht i (j - i))) sg) H) g9) hP
        have hD : va_D _ (wM cs am 0 bank rnds dn N n1 fc ((upd pu (pt i) (pu (pt i) + sk i))) (shM wh i (j + 1)) ((shM kn i j)) ((shM nm i j)) ((shM sk i j)) ((shM br i j)) ((shH N ht i (j - i))) sg) := Eq.mp (congrArg (fun z9 => va_D _ (wM cs am 0 bank rnds dn N n1 fc ((upd pu (pt i) (pu (pt i) + sk i))) z9 ((shM kn i j)) ((shM nm i j)) ((shM sk i j)) ((shM br i j)) ((shH N ht i (j - i))) sg)) g9) hD
        refine lv_aload_n hx hb dX3_takeBack_75 rfl (lv_at hl 0 rfl) ?_
        refine va_get (D := D) (ci := 4) (v := .ref (am 4)) (C := RX3) (T := TX3) (N := 15) hx hb hts inlX3 hown hK hP 0 rfl rfl 9 (by decide) (hts (Cond.fieldLink RX3 29 "TavernDiceModel" "kind" "[I") mw_4_1) (fun _ h9 => h9) rfl dX3_takeBack_76 ?_
        refine lv_iload_n hx hb dX3_takeBack_79 rfl (lv_at hl 3 rfl) ?_
        refine lv_aload_n hx hb dX3_takeBack_80 rfl (lv_at hl 0 rfl) ?_
        refine va_get (D := D) (ci := 4) (v := .ref (am 4)) (C := RX3) (T := TX3) (N := 15) hx hb hts inlX3 hown hK hP 0 rfl rfl 9 (by decide) (hts (Cond.fieldLink RX3 29 "TavernDiceModel" "kind" "[I") mw_4_1) (fun _ h9 => h9) rfl dX3_takeBack_81 ?_
        refine lv_iload_n hx hb dX3_takeBack_84 rfl (lv_at hl 3 rfl) ?_
        refine lv_iconst (v := 1) hx hb dX3_takeBack_85 (by first | decide | rfl) ?_
        refine lv_iadd hx hb dX3_takeBack_86 ?_
        refine lv_rwi (y := nI (j + 1)) (nI_1 j) ?_
        refine va_iald hx hb hK hP 4 0 rfl rfl (vp_in_nI (by omega) (by omega)) dX3_takeBack_87 ?_
        refine lv_rwi (y := kn (j + 1)) ((congrArg (shM kn i j) (nI_clamp (by omega))).trans (shM_u kn (by omega))) ?_
        refine va_iast hx hb hK hP hD hS 4 0 rfl rfl (vp_in_nI (by omega) (by omega)) dX3_takeBack_88 (fun H locs hP hD hS => ?_)
        have g9 : upd ((shM kn i j)) (nI j).toNatClampNeg (kn (j + 1)) = shM kn i (j + 1) := by rw [nI_clamp (by omega)]; exact shM_s kn hij
        have hP : va_P D vwCl (wM cs am 0 bank rnds dn N n1 fc ((upd pu (pt i) (pu (pt i) + sk i))) (shM wh i (j + 1)) (shM kn i (j + 1)) ((shM nm i j)) ((shM sk i j)) ((shM br i j)) ((shH N ht i (j - i))) sg) H := Eq.mp (congrArg (fun z9 => va_P D vwCl (wM cs am 0 bank rnds dn N n1 fc ((upd pu (pt i) (pu (pt i) + sk i))) (shM wh i (j + 1)) z9 ((shM nm i j)) ((shM sk i j)) ((shM br i j)) ((shH N ht i (j - i))) sg) H) g9) hP
        have hD : va_D _ (wM cs am 0 bank rnds dn N n1 fc ((upd pu (pt i) (pu (pt i) + sk i))) (shM wh i (j + 1)) (shM kn i (j + 1)) ((shM nm i j)) ((shM sk i j)) ((shM br i j)) ((shH N ht i (j - i))) sg) := Eq.mp (congrArg (fun z9 => va_D _ (wM cs am 0 bank rnds dn N n1 fc ((upd pu (pt i) (pu (pt i) + sk i))) (shM wh i (j + 1)) z9 ((shM nm i j)) ((shM sk i j)) ((shM br i j)) ((shH N ht i (j - i))) sg)) g9) hD
        refine lv_aload_n hx hb dX3_takeBack_89 rfl (lv_at hl 0 rfl) ?_
        refine va_get (D := D) (ci := 4) (v := .ref (am 5)) (C := RX3) (T := TX3) (N := 15) hx hb hts inlX3 hown hK hP 0 rfl rfl 10 (by decide) (hts (Cond.fieldLink RX3 32 "TavernDiceModel" "number" "[I") mw_4_2) (fun _ h9 => h9) rfl dX3_takeBack_90 ?_
        refine lv_iload_n hx hb dX3_takeBack_93 rfl (lv_at hl 3 rfl) ?_
        refine lv_aload_n hx hb dX3_takeBack_94 rfl (lv_at hl 0 rfl) ?_
        refine va_get (D := D) (ci := 4) (v := .ref (am 5)) (C := RX3) (T := TX3) (N := 15) hx hb hts inlX3 hown hK hP 0 rfl rfl 10 (by decide) (hts (Cond.fieldLink RX3 32 "TavernDiceModel" "number" "[I") mw_4_2) (fun _ h9 => h9) rfl dX3_takeBack_95 ?_
        refine lv_iload_n hx hb dX3_takeBack_98 rfl (lv_at hl 3 rfl) ?_
        refine lv_iconst (v := 1) hx hb dX3_takeBack_99 (by first | decide | rfl) ?_
        refine lv_iadd hx hb dX3_takeBack_100 ?_
        refine lv_rwi (y := nI (j + 1)) (nI_1 j) ?_
        refine va_iald hx hb hK hP 5 0 rfl rfl (vp_in_nI (by omega) (by omega)) dX3_takeBack_101 ?_
        refine lv_rwi (y := nm (j + 1)) ((congrArg (shM nm i j) (nI_clamp (by omega))).trans (shM_u nm (by omega))) ?_
        refine va_iast hx hb hK hP hD hS 5 0 rfl rfl (vp_in_nI (by omega) (by omega)) dX3_takeBack_102 (fun H locs hP hD hS => ?_)
        have g9 : upd ((shM nm i j)) (nI j).toNatClampNeg (nm (j + 1)) = shM nm i (j + 1) := by rw [nI_clamp (by omega)]; exact shM_s nm hij
        have hP : va_P D vwCl (wM cs am 0 bank rnds dn N n1 fc ((upd pu (pt i) (pu (pt i) + sk i))) (shM wh i (j + 1)) (shM kn i (j + 1)) (shM nm i (j + 1)) ((shM sk i j)) ((shM br i j)) ((shH N ht i (j - i))) sg) H := Eq.mp (congrArg (fun z9 => va_P D vwCl (wM cs am 0 bank rnds dn N n1 fc ((upd pu (pt i) (pu (pt i) + sk i))) (shM wh i (j + 1)) (shM kn i (j + 1)) z9 ((shM sk i j)) ((shM br i j)) ((shH N ht i (j - i))) sg) H) g9) hP
        have hD : va_D _ (wM cs am 0 bank rnds dn N n1 fc ((upd pu (pt i) (pu (pt i) + sk i))) (shM wh i (j + 1)) (shM kn i (j + 1)) (shM nm i (j + 1)) ((shM sk i j)) ((shM br i j)) ((shH N ht i (j - i))) sg) := Eq.mp (congrArg (fun z9 => va_D _ (wM cs am 0 bank rnds dn N n1 fc ((upd pu (pt i) (pu (pt i) + sk i))) (shM wh i (j + 1)) (shM kn i (j + 1)) z9 ((shM sk i j)) ((shM br i j)) ((shH N ht i (j - i))) sg)) g9) hD
        refine lv_aload_n hx hb dX3_takeBack_103 rfl (lv_at hl 0 rfl) ?_
        refine va_get (D := D) (ci := 4) (v := .ref (am 6)) (C := RX3) (T := TX3) (N := 15) hx hb hts inlX3 hown hK hP 0 rfl rfl 11 (by decide) (hts (Cond.fieldLink RX3 35 "TavernDiceModel" "stake" "[I") mw_4_3) (fun _ h9 => h9) rfl dX3_takeBack_104 ?_
        refine lv_iload_n hx hb dX3_takeBack_107 rfl (lv_at hl 3 rfl) ?_
        refine lv_aload_n hx hb dX3_takeBack_108 rfl (lv_at hl 0 rfl) ?_
        refine va_get (D := D) (ci := 4) (v := .ref (am 6)) (C := RX3) (T := TX3) (N := 15) hx hb hts inlX3 hown hK hP 0 rfl rfl 11 (by decide) (hts (Cond.fieldLink RX3 35 "TavernDiceModel" "stake" "[I") mw_4_3) (fun _ h9 => h9) rfl dX3_takeBack_109 ?_
        refine lv_iload_n hx hb dX3_takeBack_112 rfl (lv_at hl 3 rfl) ?_
        refine lv_iconst (v := 1) hx hb dX3_takeBack_113 (by first | decide | rfl) ?_
        refine lv_iadd hx hb dX3_takeBack_114 ?_
        refine lv_rwi (y := nI (j + 1)) (nI_1 j) ?_
        refine va_iald hx hb hK hP 6 0 rfl rfl (vp_in_nI (by omega) (by omega)) dX3_takeBack_115 ?_
        refine lv_rwi (y := sk (j + 1)) ((congrArg (shM sk i j) (nI_clamp (by omega))).trans (shM_u sk (by omega))) ?_
        refine va_iast hx hb hK hP hD hS 6 0 rfl rfl (vp_in_nI (by omega) (by omega)) dX3_takeBack_116 (fun H locs hP hD hS => ?_)
        have g9 : upd ((shM sk i j)) (nI j).toNatClampNeg (sk (j + 1)) = shM sk i (j + 1) := by rw [nI_clamp (by omega)]; exact shM_s sk hij
        have hP : va_P D vwCl (wM cs am 0 bank rnds dn N n1 fc ((upd pu (pt i) (pu (pt i) + sk i))) (shM wh i (j + 1)) (shM kn i (j + 1)) (shM nm i (j + 1)) (shM sk i (j + 1)) ((shM br i j)) ((shH N ht i (j - i))) sg) H := Eq.mp (congrArg (fun z9 => va_P D vwCl (wM cs am 0 bank rnds dn N n1 fc ((upd pu (pt i) (pu (pt i) + sk i))) (shM wh i (j + 1)) (shM kn i (j + 1)) (shM nm i (j + 1)) z9 ((shM br i j)) ((shH N ht i (j - i))) sg) H) g9) hP
        have hD : va_D _ (wM cs am 0 bank rnds dn N n1 fc ((upd pu (pt i) (pu (pt i) + sk i))) (shM wh i (j + 1)) (shM kn i (j + 1)) (shM nm i (j + 1)) (shM sk i (j + 1)) ((shM br i j)) ((shH N ht i (j - i))) sg) := Eq.mp (congrArg (fun z9 => va_D _ (wM cs am 0 bank rnds dn N n1 fc ((upd pu (pt i) (pu (pt i) + sk i))) (shM wh i (j + 1)) (shM kn i (j + 1)) (shM nm i (j + 1)) z9 ((shM br i j)) ((shH N ht i (j - i))) sg)) g9) hD
        refine lv_aload_n hx hb dX3_takeBack_117 rfl (lv_at hl 0 rfl) ?_
        refine va_get (D := D) (ci := 4) (v := .ref (am 7)) (C := RX3) (T := TX3) (N := 15) hx hb hts inlX3 hown hK hP 0 rfl rfl 12 (by decide) (hts (Cond.fieldLink RX3 38 "TavernDiceModel" "brings" "[I") mw_4_4) (fun _ h9 => h9) rfl dX3_takeBack_118 ?_
        refine lv_iload_n hx hb dX3_takeBack_121 rfl (lv_at hl 3 rfl) ?_
        refine lv_aload_n hx hb dX3_takeBack_122 rfl (lv_at hl 0 rfl) ?_
        refine va_get (D := D) (ci := 4) (v := .ref (am 7)) (C := RX3) (T := TX3) (N := 15) hx hb hts inlX3 hown hK hP 0 rfl rfl 12 (by decide) (hts (Cond.fieldLink RX3 38 "TavernDiceModel" "brings" "[I") mw_4_4) (fun _ h9 => h9) rfl dX3_takeBack_123 ?_
        refine lv_iload_n hx hb dX3_takeBack_126 rfl (lv_at hl 3 rfl) ?_
        refine lv_iconst (v := 1) hx hb dX3_takeBack_127 (by first | decide | rfl) ?_
        refine lv_iadd hx hb dX3_takeBack_128 ?_
        refine lv_rwi (y := nI (j + 1)) (nI_1 j) ?_
        refine va_iald hx hb hK hP 7 0 rfl rfl (vp_in_nI (by omega) (by omega)) dX3_takeBack_129 ?_
        refine lv_rwi (y := br (j + 1)) ((congrArg (shM br i j) (nI_clamp (by omega))).trans (shM_u br (by omega))) ?_
        refine va_iast hx hb hK hP hD hS 7 0 rfl rfl (vp_in_nI (by omega) (by omega)) dX3_takeBack_130 (fun H locs hP hD hS => ?_)
        have g9 : upd ((shM br i j)) (nI j).toNatClampNeg (br (j + 1)) = shM br i (j + 1) := by rw [nI_clamp (by omega)]; exact shM_s br hij
        have hP : va_P D vwCl (wM cs am 0 bank rnds dn N n1 fc ((upd pu (pt i) (pu (pt i) + sk i))) (shM wh i (j + 1)) (shM kn i (j + 1)) (shM nm i (j + 1)) (shM sk i (j + 1)) (shM br i (j + 1)) ((shH N ht i (j - i))) sg) H := Eq.mp (congrArg (fun z9 => va_P D vwCl (wM cs am 0 bank rnds dn N n1 fc ((upd pu (pt i) (pu (pt i) + sk i))) (shM wh i (j + 1)) (shM kn i (j + 1)) (shM nm i (j + 1)) (shM sk i (j + 1)) z9 ((shH N ht i (j - i))) sg) H) g9) hP
        have hD : va_D _ (wM cs am 0 bank rnds dn N n1 fc ((upd pu (pt i) (pu (pt i) + sk i))) (shM wh i (j + 1)) (shM kn i (j + 1)) (shM nm i (j + 1)) (shM sk i (j + 1)) (shM br i (j + 1)) ((shH N ht i (j - i))) sg) := Eq.mp (congrArg (fun z9 => va_D _ (wM cs am 0 bank rnds dn N n1 fc ((upd pu (pt i) (pu (pt i) + sk i))) (shM wh i (j + 1)) (shM kn i (j + 1)) (shM nm i (j + 1)) (shM sk i (j + 1)) z9 ((shH N ht i (j - i))) sg)) g9) hD
        refine lv_aload_n hx hb dX3_takeBack_131 rfl (lv_at hl 0 rfl) ?_
        refine va_get (D := D) (ci := 4) (v := .ref (am 8)) (C := RX3) (T := TX3) (N := 15) hx hb hts inlX3 hown hK hP 0 rfl rfl 13 (by decide) (hts (Cond.fieldLink RX3 41 "TavernDiceModel" "isHit" "[Z") mw_4_6) (fun _ h9 => h9) rfl dX3_takeBack_132 ?_
        refine lv_sipush (v := nI 1728) hx hb dX3_takeBack_135 (by first | decide | rfl) ?_
        refine lv_iload_n hx hb dX3_takeBack_138 rfl (lv_at hl 3 rfl) ?_
        refine lv_iconst (v := 1) hx hb dX3_takeBack_139 (by first | decide | rfl) ?_
        refine lv_iadd hx hb dX3_takeBack_140 ?_
        refine lv_rwi (y := nI (j + 1)) (nI_1 j) ?_
        refine lv_imul hx hb dX3_takeBack_141 ?_
        refine lv_rwi (y := nI (1728 * (j + 1))) (pk_mul _ _) ?_
        refine lv_aload_n hx hb dX3_takeBack_142 rfl (lv_at hl 0 rfl) ?_
        refine va_get (D := D) (ci := 4) (v := .ref (am 8)) (C := RX3) (T := TX3) (N := 15) hx hb hts inlX3 hown hK hP 0 rfl rfl 13 (by decide) (hts (Cond.fieldLink RX3 41 "TavernDiceModel" "isHit" "[Z") mw_4_6) (fun _ h9 => h9) rfl dX3_takeBack_143 ?_
        refine lv_sipush (v := nI 1728) hx hb dX3_takeBack_146 (by first | decide | rfl) ?_
        refine lv_iload_n hx hb dX3_takeBack_149 rfl (lv_at hl 3 rfl) ?_
        refine lv_imul hx hb dX3_takeBack_150 ?_
        refine lv_rwi (y := nI (1728 * j)) (pk_mul _ _) ?_
        refine lv_aload_n hx hb dX3_takeBack_151 rfl (lv_at hl 0 rfl) ?_
        refine va_get (D := D) (ci := 4) (v := .int (nI N)) (C := RX3) (T := TX3) (N := 15) hx hb hts inlX3 hown hK hP 0 rfl rfl 3 (by decide) (hts (Cond.fieldLink RX3 17 "TavernDiceModel" "outcomes" "I") mw_3_21) (fun _ h9 => h9) rfl dX3_takeBack_152 ?_
        refine va_copyi hx hb (hml.trans hl.1.symm) hown (hts (Cond.methodLink RX3 124 arraycopyName) mw_16_11) (hts (Cond.native arraycopyName) mw_14_10) (hts (Cond.static arraycopyName) mw_14_11) (hts (Cond.initialized "java/lang/System") mw_14_12) hK hP hD hS 8 8 1 1 rfl rfl rfl rfl rfl (nI_pos (by omega)) (nI_pos (by omega)) (nI_pos (by omega)) (by rw [nI_clamp (by omega), nI_clamp (by omega)]; omega) (by rw [nI_clamp (by omega), nI_clamp (by omega)]; omega) (fun z _ => fits_shH hB _ _) (Nat.le_of_ble_eq_true rfl) (by decide +kernel) dX3_takeBack_155 (fun H locs hP hD hS => ?_)
        have g9 : va_cpy ((shH N ht i (j - i))) ((shH N ht i (j - i))) (nI (1728 * (j + 1))).toNatClampNeg (nI (1728 * j)).toNatClampNeg (nI N).toNatClampNeg = shH N ht i (j + 1 - i) := by rw [nI_clamp (by omega), nI_clamp (by omega), nI_clamp (by omega), show j + 1 - i = (j - i) + 1 by omega]; show _ = va_cpy (shH N ht i (j - i)) (shH N ht i (j - i)) (1728 * (i + (j - i) + 1)) (1728 * (i + (j - i))) N; rw [show i + (j - i) = j by omega]
        have hP : va_P D vwCl (wM cs am 0 bank rnds dn N n1 fc ((upd pu (pt i) (pu (pt i) + sk i))) (shM wh i (j + 1)) (shM kn i (j + 1)) (shM nm i (j + 1)) (shM sk i (j + 1)) (shM br i (j + 1)) (shH N ht i (j + 1 - i)) sg) H := Eq.mp (congrArg (fun z9 => va_P D vwCl (wM cs am 0 bank rnds dn N n1 fc ((upd pu (pt i) (pu (pt i) + sk i))) (shM wh i (j + 1)) (shM kn i (j + 1)) (shM nm i (j + 1)) (shM sk i (j + 1)) (shM br i (j + 1)) z9 sg) H) g9) hP
        have hD : va_D _ (wM cs am 0 bank rnds dn N n1 fc ((upd pu (pt i) (pu (pt i) + sk i))) (shM wh i (j + 1)) (shM kn i (j + 1)) (shM nm i (j + 1)) (shM sk i (j + 1)) (shM br i (j + 1)) (shH N ht i (j + 1 - i)) sg) := Eq.mp (congrArg (fun z9 => va_D _ (wM cs am 0 bank rnds dn N n1 fc ((upd pu (pt i) (pu (pt i) + sk i))) (shM wh i (j + 1)) (shM kn i (j + 1)) (shM nm i (j + 1)) (shM sk i (j + 1)) (shM br i (j + 1)) z9 sg)) g9) hD
        refine lv_iinc (v := nI (j + 1)) (lv' := [(3, .int (nI (j + 1))), (0, .ref (am 0)), (1, .int (nI i)), (2, .int (sk i))]) hx hb dX3_takeBack_158 hl (k := 3) rfl (nI_1 j) (by decide) rfl (fun ls hl => ?_)
        refine lv_goto (tgt := 53) hx hb dX3_takeBack_161 (by decide) ?_
        exact ih53 (j + 1) H _ ls (by omega) (by omega) (by omega) hP hD hS (lv_sub hl [1, 2, 3, 0] rfl)
  have g9 : wh = shM wh i i := (shM_0 wh i).symm
  have hP : va_P D vwCl (wM cs am 0 bank rnds dn N n1 fc (upd pu (pt i) (pu (pt i) + sk i)) (shM wh i i) kn nm sk br ht sg) H := Eq.mp (congrArg (fun z9 => va_P D vwCl (wM cs am 0 bank rnds dn N n1 fc (upd pu (pt i) (pu (pt i) + sk i)) z9 kn nm sk br ht sg) H) g9) hP
  have hD : va_D _ (wM cs am 0 bank rnds dn N n1 fc (upd pu (pt i) (pu (pt i) + sk i)) (shM wh i i) kn nm sk br ht sg) := Eq.mp (congrArg (fun z9 => va_D _ (wM cs am 0 bank rnds dn N n1 fc (upd pu (pt i) (pu (pt i) + sk i)) z9 kn nm sk br ht sg)) g9) hD
  have g9 : kn = shM kn i i := (shM_0 kn i).symm
  have hP : va_P D vwCl (wM cs am 0 bank rnds dn N n1 fc (upd pu (pt i) (pu (pt i) + sk i)) (shM wh i i) (shM kn i i) nm sk br ht sg) H := Eq.mp (congrArg (fun z9 => va_P D vwCl (wM cs am 0 bank rnds dn N n1 fc (upd pu (pt i) (pu (pt i) + sk i)) (shM wh i i) z9 nm sk br ht sg) H) g9) hP
  have hD : va_D _ (wM cs am 0 bank rnds dn N n1 fc (upd pu (pt i) (pu (pt i) + sk i)) (shM wh i i) (shM kn i i) nm sk br ht sg) := Eq.mp (congrArg (fun z9 => va_D _ (wM cs am 0 bank rnds dn N n1 fc (upd pu (pt i) (pu (pt i) + sk i)) (shM wh i i) z9 nm sk br ht sg)) g9) hD
  have g9 : nm = shM nm i i := (shM_0 nm i).symm
  have hP : va_P D vwCl (wM cs am 0 bank rnds dn N n1 fc (upd pu (pt i) (pu (pt i) + sk i)) (shM wh i i) (shM kn i i) (shM nm i i) sk br ht sg) H := Eq.mp (congrArg (fun z9 => va_P D vwCl (wM cs am 0 bank rnds dn N n1 fc (upd pu (pt i) (pu (pt i) + sk i)) (shM wh i i) (shM kn i i) z9 sk br ht sg) H) g9) hP
  have hD : va_D _ (wM cs am 0 bank rnds dn N n1 fc (upd pu (pt i) (pu (pt i) + sk i)) (shM wh i i) (shM kn i i) (shM nm i i) sk br ht sg) := Eq.mp (congrArg (fun z9 => va_D _ (wM cs am 0 bank rnds dn N n1 fc (upd pu (pt i) (pu (pt i) + sk i)) (shM wh i i) (shM kn i i) z9 sk br ht sg)) g9) hD
  have g9 : sk = shM sk i i := (shM_0 sk i).symm
  have hP : va_P D vwCl (wM cs am 0 bank rnds dn N n1 fc (upd pu (pt i) (pu (pt i) + sk i)) (shM wh i i) (shM kn i i) (shM nm i i) (shM sk i i) br ht sg) H := Eq.mp (congrArg (fun z9 => va_P D vwCl (wM cs am 0 bank rnds dn N n1 fc (upd pu (pt i) (pu (pt i) + sk i)) (shM wh i i) (shM kn i i) (shM nm i i) z9 br ht sg) H) g9) hP
  have hD : va_D _ (wM cs am 0 bank rnds dn N n1 fc (upd pu (pt i) (pu (pt i) + sk i)) (shM wh i i) (shM kn i i) (shM nm i i) (shM sk i i) br ht sg) := Eq.mp (congrArg (fun z9 => va_D _ (wM cs am 0 bank rnds dn N n1 fc (upd pu (pt i) (pu (pt i) + sk i)) (shM wh i i) (shM kn i i) (shM nm i i) z9 br ht sg)) g9) hD
  have g9 : br = shM br i i := (shM_0 br i).symm
  have hP : va_P D vwCl (wM cs am 0 bank rnds dn N n1 fc (upd pu (pt i) (pu (pt i) + sk i)) (shM wh i i) (shM kn i i) (shM nm i i) (shM sk i i) (shM br i i) ht sg) H := Eq.mp (congrArg (fun z9 => va_P D vwCl (wM cs am 0 bank rnds dn N n1 fc (upd pu (pt i) (pu (pt i) + sk i)) (shM wh i i) (shM kn i i) (shM nm i i) (shM sk i i) z9 ht sg) H) g9) hP
  have hD : va_D _ (wM cs am 0 bank rnds dn N n1 fc (upd pu (pt i) (pu (pt i) + sk i)) (shM wh i i) (shM kn i i) (shM nm i i) (shM sk i i) (shM br i i) ht sg) := Eq.mp (congrArg (fun z9 => va_D _ (wM cs am 0 bank rnds dn N n1 fc (upd pu (pt i) (pu (pt i) + sk i)) (shM wh i i) (shM kn i i) (shM nm i i) (shM sk i i) z9 ht sg)) g9) hD
  have g9 : ht = shH N ht i (i - i) := by rw [Nat.sub_self]; rfl
  have hP : va_P D vwCl (wM cs am 0 bank rnds dn N n1 fc (upd pu (pt i) (pu (pt i) + sk i)) (shM wh i i) (shM kn i i) (shM nm i i) (shM sk i i) (shM br i i) (shH N ht i (i - i)) sg) H := Eq.mp (congrArg (fun z9 => va_P D vwCl (wM cs am 0 bank rnds dn N n1 fc (upd pu (pt i) (pu (pt i) + sk i)) (shM wh i i) (shM kn i i) (shM nm i i) (shM sk i i) (shM br i i) z9 sg) H) g9) hP
  have hD : va_D _ (wM cs am 0 bank rnds dn N n1 fc (upd pu (pt i) (pu (pt i) + sk i)) (shM wh i i) (shM kn i i) (shM nm i i) (shM sk i i) (shM br i i) (shH N ht i (i - i)) sg) := Eq.mp (congrArg (fun z9 => va_D _ (wM cs am 0 bank rnds dn N n1 fc (upd pu (pt i) (pu (pt i) + sk i)) (shM wh i i) (shM kn i i) (shM nm i i) (shM sk i i) (shM br i i) z9 sg)) g9) hD
  exact loop53 (n1 + 1) i H _ ls (Nat.le_refl _) (by omega) (by omega) hP hD hS (lv_sub hl [2, 3, 1, 0] rfl)
set_option maxHeartbeats 4000000 in
set_option maxRecDepth 100000 in
theorem mp_takeBack_no (l : Launch) (D : va_G) (cs : Nat → ClassId) (H : Heap) {am : Nat → Nat} {th bank rnds : Int32} {dn N n : Nat} {fc pu wh kn nm sk br ht sg : Nat → Int32} {fn : Nat → Nat} (hF : FM fn dn N n fc) (w : Int32) (hv : inM w 0 (nI n - 1) = false) (post : Option Value → va_W → Prop) (hpost : post (some (.int (0))) (wM cs am 1 bank rnds dn N n fc pu wh kn nm sk br ht sg)) (hP : va_P D vwCl (wM cs am th bank rnds dn N n fc pu wh kn nm sk br ht sg) H) (hD : va_D (fun _ => True) (wM cs am th bank rnds dn N n fc pu wh kn nm sk br ht sg)) : Wr l D cs 4 0 0 yX3_takeBack cX3_takeBack 4 (some .int) (wM cs am th bank rnds dn N n fc pu wh kn nm sk br ht sg) H [.ref (am 0), .int w] post := by
  refine wr_ent (by decide) (Nat.le_of_ble_eq_true rfl) hP hD ?_
  clear hP hD H
  intro p e s m below meth c ls A Q H hx hb hr hml hown hts hlocks hin hl hK hQ hA hH hP hD hS
  clear hH
  have hl : lv_has ls 4 [(0, .ref (am 0)), (1, .int w)] := hl
  have hF0 := hF
  obtain ⟨hF3, hd1, hd3, hNe, hN1, hN, hn⟩ := hF
  refine lv_aload_n hx hb dX3_takeBack_0 rfl (lv_at hl 0 rfl) ?_
  refine lv_iconst (v := 0) hx hb dX3_takeBack_1 (by first | decide | rfl) ?_
  refine va_put (D := D) (ci := 4) (v := .int 0) (ty := .int) (C := RX3) (T := TX3) (N := 15) hx hb hts inlX3 tyX3 tyX3_ok nmX3 hown hK hP hD hS 0 rfl rfl 0 (by decide) (hts (Cond.fieldLink RX3 48 "TavernDiceModel" "thrown" "I") mw_5_15) (fun _ h9 => h9) rfl (by decide +kernel) rfl rfl (Nat.le_of_ble_eq_true rfl) dX3_takeBack_2 (fun H locs hP hD hS => ?_)
  have hP : va_P D vwCl (wM cs am 0 bank rnds dn N n fc pu wh kn nm sk br ht sg) H := hP
  have hD : va_D _ (wM cs am 0 bank rnds dn N n fc pu wh kn nm sk br ht sg) := hD
  refine lv_aload_n hx hb dX3_takeBack_5 rfl (lv_at hl 0 rfl) ?_
  refine lv_iload_n hx hb dX3_takeBack_6 rfl (lv_at hl 1 rfl) ?_
  refine rdV (As := [.int w]) (rest := []) (b := am 0) ⟨hx, hb, hml, hown, hts⟩ hK 1 (m_isWager l D cs H hP hF0 w) (gin_v mw_16_12 mw_16_13 mw_16_14 mw_1_5 mw_16_15) (by decide +kernel) ⟨Nat.le_of_ble_eq_true rfl, Nat.le_of_ble_eq_true rfl⟩ (va_recv hK hP (ci := 4) (q0 := 0) rfl rfl) rfl hl.1 rfl (Nat.le_of_ble_eq_true rfl) dX3_takeBack_7 ⟨(Nat.le_of_ble_eq_true rfl), (Nat.le_of_ble_eq_true rfl)⟩ ?_
  refine W.eq (g2 := F0 m 10 ls [.int (b2i (inM w 0 (nI n - 1)))]) rfl ?_
  refine lv_if_ne (tgt := 19) hx hb dX3_takeBack_10 (by decide) (fun c_1 => False.elim (c_1 ((b2i_eq0 _).mpr hv))) (fun c_1 => ?_)
  refine lv_aload_n hx hb dX3_takeBack_13 rfl (lv_at hl 0 rfl) ?_
  refine lv_iconst (v := 1) hx hb dX3_takeBack_14 (by first | decide | rfl) ?_
  refine wrV (As := [.int 1]) (rest := []) (b := am 0) ⟨hx, hb, hml, hown, hts⟩ hK 1 (m_no l D cs H 1 (fun ov w1 => ov = some (.int 0) ∧ w1 = wM cs am 1 bank rnds dn N n fc pu wh kn nm sk br ht sg) ⟨rfl, rfl⟩ hP (hD.weaken (fun _ _ _ _ => trivial))) (gin_v mw_6_2 mw_6_3 mw_6_4 mw_1_5 mw_6_5) (by decide +kernel) ⟨Nat.le_of_ble_eq_true rfl, Nat.le_of_ble_eq_true rfl⟩ (va_recv hK hP (ci := 4) (q0 := 0) rfl rfl) rfl hl.1 rfl (Nat.le_of_ble_eq_true rfl) dX3_takeBack_15 ⟨(Nat.le_of_ble_eq_true rfl), (Nat.le_of_ble_eq_true rfl)⟩ hD hS hA (fun ov9 w9 H locs hp9 hP hD hS => ?_)
  obtain ⟨rfl, rfl⟩ := hp9
  have hP : va_P D vwCl (wM cs am 1 bank rnds dn N n fc pu wh kn nm sk br ht sg) H := hP
  have hD : va_D _ (wM cs am 1 bank rnds dn N n fc pu wh kn nm sk br ht sg) := hD
  refine W.eq (g2 := F0 m 18 ls [.int 0]) rfl ?_
  exact wr_iret hQ hx hb hr hlocks hP hD hS (hpost) dX3_takeBack_18
