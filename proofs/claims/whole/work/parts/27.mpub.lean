/-! the reference: its public methods, second part; rows by program -/
set_option maxHeartbeats 4000000 in
set_option maxRecDepth 100000 in
theorem mp_fairWin (l : Launch) (D : va_G) (cs : Nat → ClassId) (H : Heap) {am : Nat → Nat} {th bank rnds : Int32} {dn N n : Nat} {fc pu wh kn nm sk br ht sg : Nat → Int32} {fn : Nat → Nat} (hF : FM fn dn N n fc) (k q9 : Nat) (hk : k < 10) (hq : q9 ≤ 36) (hv : (inM (nI k) 0 9 && inM (nI q9) 0 36) = true) (bs : Int32) (hw2 : inM bs 1 10 = true) (hbs : ¬ bs = 0) (post : Option Value → va_W → Prop) (hpost : ∀ sg9 : Nat → Int32, post (some (.int (nI (lst9 (fwM N (manyM fn dn N k (nI q9)) bs) 20)))) (wM cs am 0 bank rnds dn N n fc pu wh kn nm sk br ht sg9)) (hP : va_P D vwCl (wM cs am th bank rnds dn N n fc pu wh kn nm sk br ht sg) H) (hD : va_D (fun _ => True) (wM cs am th bank rnds dn N n fc pu wh kn nm sk br ht sg)) : Wr l D cs 5 0 0 yX3_fairWin cX3_fairWin 6 (some .int) (wM cs am th bank rnds dn N n fc pu wh kn nm sk br ht sg) H [.ref (am 0), .int (nI k), .int (nI q9), .int bs] post := by
  refine wr_ent (by decide) (Nat.le_of_ble_eq_true rfl) hP hD ?_
  clear hP hD H
  intro p e s m below meth c ls A Q H hx hb hr hml hown hts hlocks hin hl hK hQ hA hH hP hD hS
  clear hH
  have hl : lv_has ls 6 [(0, .ref (am 0)), (1, .int (nI k)), (2, .int (nI q9)), (3, .int bs)] := hl
  have hF0 := hF
  obtain ⟨hF3, hd1, hd3, hNe, hN1, hN, hn⟩ := hF
  refine lv_aload_n hx hb dX3_fairWin_0 rfl (lv_at hl 0 rfl) ?_
  refine lv_iconst (v := 0) hx hb dX3_fairWin_1 (by first | decide | rfl) ?_
  refine va_put (D := D) (ci := 4) (v := .int 0) (ty := .int) (C := RX3) (T := TX3) (N := 15) hx hb hts inlX3 tyX3 tyX3_ok nmX3 hown hK hP hD hS 0 rfl rfl 0 (by decide) (hts (Cond.fieldLink RX3 48 "TavernDiceModel" "thrown" "I") mw_5_15) (fun _ h9 => h9) rfl (by decide +kernel) rfl rfl (Nat.le_of_ble_eq_true rfl) dX3_fairWin_2 (fun H locs hP hD hS => ?_)
  have hP : va_P D vwCl (wM cs am 0 bank rnds dn N n fc pu wh kn nm sk br ht sg) H := hP
  have hD : va_D _ (wM cs am 0 bank rnds dn N n fc pu wh kn nm sk br ht sg) := hD
  refine lv_iload_n hx hb dX3_fairWin_5 rfl (lv_at hl 1 rfl) ?_
  refine lv_iload_n hx hb dX3_fairWin_6 rfl (lv_at hl 2 rfl) ?_
  refine rdS (As := [.int (nI k), .int (nI q9)]) (rest := []) ⟨hx, hb, hml, hown, hts⟩ hK 2 (m_isEvent l D cs H (nI k) (nI q9)) (gin_s mw_9_23 mw_10_0 mw_1_5 mw_10_1) (by decide +kernel) ⟨Nat.le_of_ble_eq_true rfl, Nat.le_of_ble_eq_true rfl⟩ rfl hl.1 rfl (Nat.le_of_ble_eq_true rfl) dX3_fairWin_7 ⟨(Nat.le_of_ble_eq_true rfl), (Nat.le_of_ble_eq_true rfl)⟩ ?_
  refine W.eq (g2 := F0 m 10 ls [.int (b2i (inM (nI k) 0 9 && inM (nI q9) 0 36))]) rfl ?_
  refine lv_if_eq (tgt := 23) hx hb dX3_fairWin_10 (by decide) (fun c_1 => False.elim (absurd c_1 ((b2i_ne0 _).mpr hv))) (fun c_1 => ?_)
  refine lv_iload_n hx hb dX3_fairWin_13 rfl (lv_at hl 3 rfl) ?_
  refine lv_iconst (v := 1) hx hb dX3_fairWin_14 (by first | decide | rfl) ?_
  refine lv_bipush (v := 10) hx hb dX3_fairWin_15 (by first | decide | rfl) ?_
  refine rdS (As := [.int bs, .int 1, .int 10]) (rest := []) ⟨hx, hb, hml, hown, hts⟩ hK 3 (m_isIn l D cs H bs 1 10) (gin_s mw_5_23 mw_6_0 mw_1_5 mw_6_1) (by decide +kernel) ⟨Nat.le_of_ble_eq_true rfl, Nat.le_of_ble_eq_true rfl⟩ rfl hl.1 rfl (Nat.le_of_ble_eq_true rfl) dX3_fairWin_17 ⟨(Nat.le_of_ble_eq_true rfl), (Nat.le_of_ble_eq_true rfl)⟩ ?_
  refine W.eq (g2 := F0 m 20 ls [.int (b2i (inM bs 1 10))]) rfl ?_
  refine lv_if_ne (tgt := 29) hx hb dX3_fairWin_20 (by decide) (fun c_2 => ?_) (fun c_2 => False.elim (absurd c_2 ((b2i_ne0 _).mpr hw2)))
  refine lv_aload_n hx hb dX3_fairWin_29 rfl (lv_at hl 0 rfl) ?_
  refine lv_iload_n hx hb dX3_fairWin_30 rfl (lv_at hl 1 rfl) ?_
  refine lv_iload_n hx hb dX3_fairWin_31 rfl (lv_at hl 2 rfl) ?_
  refine wrV (As := [.int (nI k), .int (nI q9)]) (rest := []) (b := am 0) ⟨hx, hb, hml, hown, hts⟩ hK 2 (m_manyA l D cs H hF0 k hk (nI q9) (fun ov w1 => ov = some (.int (manyM fn dn N k (nI q9))) ∧ ∃ (sg9 : Nat → Int32), w1 = wM cs am 0 bank rnds dn N n fc pu wh kn nm sk br ht sg9) (fun sg9 => ⟨rfl, sg9, rfl⟩) hP (hD.weaken (fun _ _ _ _ => trivial))) (gin_v mw_10_2 mw_10_3 mw_10_4 mw_1_5 mw_10_5) (by decide +kernel) ⟨Nat.le_of_ble_eq_true rfl, Nat.le_of_ble_eq_true rfl⟩ (va_recv hK hP (ci := 4) (q0 := 0) rfl rfl) rfl hl.1 rfl (Nat.le_of_ble_eq_true rfl) dX3_fairWin_32 ⟨(Nat.le_of_ble_eq_true rfl), (Nat.le_of_ble_eq_true rfl)⟩ hD hS hA (fun ov9 w9 H locs hp9 hP hD hS => ?_)
  obtain ⟨rfl, sgz1, rfl⟩ := hp9
  have hP : va_P D vwCl (wM cs am 0 bank rnds dn N n fc pu wh kn nm sk br ht sgz1) H := hP
  have hD : va_D _ (wM cs am 0 bank rnds dn N n fc pu wh kn nm sk br ht sgz1) := hD
  refine W.eq (g2 := F0 m 35 ls [.int (manyM fn dn N k (nI q9))]) rfl ?_
  refine lv_istore (lv' := [(4, .int (manyM fn dn N k (nI q9))), (0, .ref (am 0)), (1, .int (nI k)), (2, .int (nI q9)), (3, .int bs)]) hx hb dX3_fairWin_35 hl (by decide) rfl (fun ls hl => ?_)
  refine lv_bipush (v := nI 20) hx hb dX3_fairWin_37 (by first | decide | rfl) ?_
  refine lv_istore (lv' := [(5, .int (nI 20)), (4, .int (manyM fn dn N k (nI q9))), (0, .ref (am 0)), (1, .int (nI k)), (2, .int (nI q9)), (3, .int bs)]) hx hb dX3_fairWin_39 hl (by decide) rfl (fun ls hl => ?_)
  have loop41 : ∀ (n9 : Nat) (j : Nat) (H : Heap) (locs : List Loc) (ls : Array Slot), j ≤ 20 → j + 1 ≤ n9 → lst9 (fwM N (manyM fn dn N k (nI q9)) bs) j = lst9 (fwM N (manyM fn dn N k (nI q9)) bs) 20 → va_P D vwCl (wM cs am 0 bank rnds dn N n fc pu wh kn nm sk br ht sgz1) H → va_D A (wM cs am 0 bank rnds dn N n fc pu wh kn nm sk br ht sgz1) → va_S A s.heap H locs → lv_has ls 6 [(0, .ref (am 0)), (1, .int (nI k)), (2, .int (nI q9)), (3, .int bs), (4, .int (manyM fn dn N k (nI q9))), (5, .int (nI j))] → W p l e (rmL 5 0 0) s m [.ref (am 0), .int (nI k), .int (nI q9), .int bs].toArray below meth c H locs 0 0 Q (F0 m 41 ls []) := by
    intro n9
    induction n9 with
    | zero => intro j  H locs ls hj hf hE hP hD hS hl; exact absurd hf (by omega)
    | succ n9 ih41 =>
      intro j  H locs ls hj hf hE hP hD hS hl
      refine lv_iload hx hb dX3_fairWin_41 (lv_at hl 5 rfl) ?_
      refine lv_if_le (tgt := 75) hx hb dX3_fairWin_43 (by decide) (fun c_3 => ?_) (fun c_3 => ?_)
      · refine lv_iload hx hb dX3_fairWin_75 (lv_at hl 5 rfl) ?_
        exact wr_iret hQ hx hb hr hlocks hP hD hS (by
            have g : j = 0 := by
              have g := (nI_leI (b := 0) (by omega) (by omega)).mp c_3
              omega
            subst g
            have g2 := hpost sgz1
            rw [← hE] at g2
            exact g2) dX3_fairWin_77
      · obtain ⟨u, rfl⟩ : ∃ u, j = u + 1 := ⟨j - 1, by
          rcases Nat.eq_zero_or_pos j with z | z
          · exact absurd (by rw [z]; decide) c_3
          · omega⟩
        refine lv_bipush (v := 100) hx hb dX3_fairWin_46 (by first | decide | rfl) ?_
        refine lv_aload_n hx hb dX3_fairWin_48 rfl (lv_at hl 0 rfl) ?_
        refine va_get (D := D) (ci := 4) (v := .int (nI N)) (C := RX3) (T := TX3) (N := 15) hx hb hts inlX3 hown hK hP 0 rfl rfl 3 (by decide) (hts (Cond.fieldLink RX3 17 "TavernDiceModel" "outcomes" "I") mw_3_21) (fun _ h9 => h9) rfl dX3_fairWin_49 ?_
        refine lv_iload hx hb dX3_fairWin_52 (lv_at hl 4 rfl) ?_
        refine lv_isub hx hb dX3_fairWin_54 ?_
        refine lv_imul hx hb dX3_fairWin_55 ?_
        refine lv_bipush (v := 100) hx hb dX3_fairWin_56 (by first | decide | rfl) ?_
        refine lv_iload hx hb dX3_fairWin_58 (lv_at hl 5 rfl) ?_
        refine lv_imul hx hb dX3_fairWin_60 ?_
        refine lv_iload_n hx hb dX3_fairWin_61 rfl (lv_at hl 3 rfl) ?_
        refine lv_idiv hx hb dX3_fairWin_62 (hbs) ?_
        refine lv_iload hx hb dX3_fairWin_63 (lv_at hl 4 rfl) ?_
        refine lv_imul hx hb dX3_fairWin_65 ?_
        refine lv_icmp_ge (tgt := 75) hx hb dX3_fairWin_66 (by decide) (fun c_4 => ?_) (fun c_4 => ?_)
        · refine lv_iload hx hb dX3_fairWin_75 (lv_at hl 5 rfl) ?_
          exact wr_iret hQ hx hb hr hlocks hP hD hS (by
              have g2 := hpost sgz1
              rw [← hE, show lst9 (fwM N (manyM fn dn N k (nI q9)) bs) (u + 1) = u + 1 from if_pos (show (fwM N (manyM fn dn N k (nI q9)) bs) (u + 1) = true from decide_eq_true (fun z => (fa_of_lt z).2.1 c_4))] at g2
              exact g2) dX3_fairWin_77
        · refine lv_iinc (v := nI u) (lv' := [(5, .int (nI u)), (0, .ref (am 0)), (1, .int (nI k)), (2, .int (nI q9)), (3, .int bs), (4, .int (manyM fn dn N k (nI q9)))]) hx hb dX3_fairWin_69 hl (k := 5) rfl (pk_m1 u) (by decide) rfl (fun ls hl => ?_)
          refine lv_goto (tgt := 41) hx hb dX3_fairWin_72 (by decide) ?_
          exact ih41 u H _ ls (by omega) (by omega) (by rw [← hE]; exact (if_neg (fun z => (of_decide_eq_true z) (fa_of_nle c_4))).symm) hP hD hS (lv_sub hl [1, 2, 3, 4, 5, 0] rfl)
  exact loop41 21 20 H _ ls (by omega) (by omega) rfl hP hD hS (lv_sub hl [2, 3, 4, 5, 1, 0] rfl)
set_option maxHeartbeats 4000000 in
set_option maxRecDepth 100000 in
theorem mp_fairWin_no1 (l : Launch) (D : va_G) (cs : Nat → ClassId) (H : Heap) {am : Nat → Nat} {th bank rnds : Int32} {dn N n : Nat} {fc pu wh kn nm sk br ht sg : Nat → Int32} {fn : Nat → Nat} (hF : FM fn dn N n fc) (k q9 : Int32) (hv : (inM k 0 9 && inM q9 0 36) = false) (bs : Int32) (post : Option Value → va_W → Prop) (hpost : post (some (.int (0))) (wM cs am 1 bank rnds dn N n fc pu wh kn nm sk br ht sg)) (hP : va_P D vwCl (wM cs am th bank rnds dn N n fc pu wh kn nm sk br ht sg) H) (hD : va_D (fun _ => True) (wM cs am th bank rnds dn N n fc pu wh kn nm sk br ht sg)) : Wr l D cs 3 0 0 yX3_fairWin cX3_fairWin 6 (some .int) (wM cs am th bank rnds dn N n fc pu wh kn nm sk br ht sg) H [.ref (am 0), .int k, .int q9, .int bs] post := by
  refine wr_ent (by decide) (Nat.le_of_ble_eq_true rfl) hP hD ?_
  clear hP hD H
  intro p e s m below meth c ls A Q H hx hb hr hml hown hts hlocks hin hl hK hQ hA hH hP hD hS
  clear hH
  have hl : lv_has ls 6 [(0, .ref (am 0)), (1, .int k), (2, .int q9), (3, .int bs)] := hl
  have hF0 := hF
  obtain ⟨hF3, hd1, hd3, hNe, hN1, hN, hn⟩ := hF
  refine lv_aload_n hx hb dX3_fairWin_0 rfl (lv_at hl 0 rfl) ?_
  refine lv_iconst (v := 0) hx hb dX3_fairWin_1 (by first | decide | rfl) ?_
  refine va_put (D := D) (ci := 4) (v := .int 0) (ty := .int) (C := RX3) (T := TX3) (N := 15) hx hb hts inlX3 tyX3 tyX3_ok nmX3 hown hK hP hD hS 0 rfl rfl 0 (by decide) (hts (Cond.fieldLink RX3 48 "TavernDiceModel" "thrown" "I") mw_5_15) (fun _ h9 => h9) rfl (by decide +kernel) rfl rfl (Nat.le_of_ble_eq_true rfl) dX3_fairWin_2 (fun H locs hP hD hS => ?_)
  have hP : va_P D vwCl (wM cs am 0 bank rnds dn N n fc pu wh kn nm sk br ht sg) H := hP
  have hD : va_D _ (wM cs am 0 bank rnds dn N n fc pu wh kn nm sk br ht sg) := hD
  refine lv_iload_n hx hb dX3_fairWin_5 rfl (lv_at hl 1 rfl) ?_
  refine lv_iload_n hx hb dX3_fairWin_6 rfl (lv_at hl 2 rfl) ?_
  refine rdS (As := [.int k, .int q9]) (rest := []) ⟨hx, hb, hml, hown, hts⟩ hK 2 (m_isEvent l D cs H k q9) (gin_s mw_9_23 mw_10_0 mw_1_5 mw_10_1) (by decide +kernel) ⟨Nat.le_of_ble_eq_true rfl, Nat.le_of_ble_eq_true rfl⟩ rfl hl.1 rfl (Nat.le_of_ble_eq_true rfl) dX3_fairWin_7 ⟨(Nat.le_of_ble_eq_true rfl), (Nat.le_of_ble_eq_true rfl)⟩ ?_
  refine W.eq (g2 := F0 m 10 ls [.int (b2i (inM k 0 9 && inM q9 0 36))]) rfl ?_
  refine lv_if_eq (tgt := 23) hx hb dX3_fairWin_10 (by decide) (fun c_1 => ?_) (fun c_1 => False.elim (c_1 ((b2i_eq0 _).mpr hv)))
  refine lv_aload_n hx hb dX3_fairWin_23 rfl (lv_at hl 0 rfl) ?_
  refine lv_iconst (v := 1) hx hb dX3_fairWin_24 (by first | decide | rfl) ?_
  refine wrV (As := [.int 1]) (rest := []) (b := am 0) ⟨hx, hb, hml, hown, hts⟩ hK 1 (m_no l D cs H 1 (fun ov w1 => ov = some (.int 0) ∧ w1 = wM cs am 1 bank rnds dn N n fc pu wh kn nm sk br ht sg) ⟨rfl, rfl⟩ hP (hD.weaken (fun _ _ _ _ => trivial))) (gin_v mw_6_2 mw_6_3 mw_6_4 mw_1_5 mw_6_5) (by decide +kernel) ⟨Nat.le_of_ble_eq_true rfl, Nat.le_of_ble_eq_true rfl⟩ (va_recv hK hP (ci := 4) (q0 := 0) rfl rfl) rfl hl.1 rfl (Nat.le_of_ble_eq_true rfl) dX3_fairWin_25 ⟨(Nat.le_of_ble_eq_true rfl), (Nat.le_of_ble_eq_true rfl)⟩ hD hS hA (fun ov9 w9 H locs hp9 hP hD hS => ?_)
  obtain ⟨rfl, rfl⟩ := hp9
  have hP : va_P D vwCl (wM cs am 1 bank rnds dn N n fc pu wh kn nm sk br ht sg) H := hP
  have hD : va_D _ (wM cs am 1 bank rnds dn N n fc pu wh kn nm sk br ht sg) := hD
  refine W.eq (g2 := F0 m 28 ls [.int 0]) rfl ?_
  exact wr_iret hQ hx hb hr hlocks hP hD hS (hpost) dX3_fairWin_28
set_option maxHeartbeats 4000000 in
set_option maxRecDepth 100000 in
theorem mp_fairWin_no2 (l : Launch) (D : va_G) (cs : Nat → ClassId) (H : Heap) {am : Nat → Nat} {th bank rnds : Int32} {dn N n : Nat} {fc pu wh kn nm sk br ht sg : Nat → Int32} {fn : Nat → Nat} (hF : FM fn dn N n fc) (k q9 : Int32) (hv : (inM k 0 9 && inM q9 0 36) = true) (bs : Int32) (hw2 : inM bs 1 10 = false) (post : Option Value → va_W → Prop) (hpost : post (some (.int (0))) (wM cs am 1 bank rnds dn N n fc pu wh kn nm sk br ht sg)) (hP : va_P D vwCl (wM cs am th bank rnds dn N n fc pu wh kn nm sk br ht sg) H) (hD : va_D (fun _ => True) (wM cs am th bank rnds dn N n fc pu wh kn nm sk br ht sg)) : Wr l D cs 3 0 0 yX3_fairWin cX3_fairWin 6 (some .int) (wM cs am th bank rnds dn N n fc pu wh kn nm sk br ht sg) H [.ref (am 0), .int k, .int q9, .int bs] post := by
  refine wr_ent (by decide) (Nat.le_of_ble_eq_true rfl) hP hD ?_
  clear hP hD H
  intro p e s m below meth c ls A Q H hx hb hr hml hown hts hlocks hin hl hK hQ hA hH hP hD hS
  clear hH
  have hl : lv_has ls 6 [(0, .ref (am 0)), (1, .int k), (2, .int q9), (3, .int bs)] := hl
  have hF0 := hF
  obtain ⟨hF3, hd1, hd3, hNe, hN1, hN, hn⟩ := hF
  refine lv_aload_n hx hb dX3_fairWin_0 rfl (lv_at hl 0 rfl) ?_
  refine lv_iconst (v := 0) hx hb dX3_fairWin_1 (by first | decide | rfl) ?_
  refine va_put (D := D) (ci := 4) (v := .int 0) (ty := .int) (C := RX3) (T := TX3) (N := 15) hx hb hts inlX3 tyX3 tyX3_ok nmX3 hown hK hP hD hS 0 rfl rfl 0 (by decide) (hts (Cond.fieldLink RX3 48 "TavernDiceModel" "thrown" "I") mw_5_15) (fun _ h9 => h9) rfl (by decide +kernel) rfl rfl (Nat.le_of_ble_eq_true rfl) dX3_fairWin_2 (fun H locs hP hD hS => ?_)
  have hP : va_P D vwCl (wM cs am 0 bank rnds dn N n fc pu wh kn nm sk br ht sg) H := hP
  have hD : va_D _ (wM cs am 0 bank rnds dn N n fc pu wh kn nm sk br ht sg) := hD
  refine lv_iload_n hx hb dX3_fairWin_5 rfl (lv_at hl 1 rfl) ?_
  refine lv_iload_n hx hb dX3_fairWin_6 rfl (lv_at hl 2 rfl) ?_
  refine rdS (As := [.int k, .int q9]) (rest := []) ⟨hx, hb, hml, hown, hts⟩ hK 2 (m_isEvent l D cs H k q9) (gin_s mw_9_23 mw_10_0 mw_1_5 mw_10_1) (by decide +kernel) ⟨Nat.le_of_ble_eq_true rfl, Nat.le_of_ble_eq_true rfl⟩ rfl hl.1 rfl (Nat.le_of_ble_eq_true rfl) dX3_fairWin_7 ⟨(Nat.le_of_ble_eq_true rfl), (Nat.le_of_ble_eq_true rfl)⟩ ?_
  refine W.eq (g2 := F0 m 10 ls [.int (b2i (inM k 0 9 && inM q9 0 36))]) rfl ?_
  refine lv_if_eq (tgt := 23) hx hb dX3_fairWin_10 (by decide) (fun c_1 => False.elim (absurd c_1 ((b2i_ne0 _).mpr hv))) (fun c_1 => ?_)
  refine lv_iload_n hx hb dX3_fairWin_13 rfl (lv_at hl 3 rfl) ?_
  refine lv_iconst (v := 1) hx hb dX3_fairWin_14 (by first | decide | rfl) ?_
  refine lv_bipush (v := 10) hx hb dX3_fairWin_15 (by first | decide | rfl) ?_
  refine rdS (As := [.int bs, .int 1, .int 10]) (rest := []) ⟨hx, hb, hml, hown, hts⟩ hK 3 (m_isIn l D cs H bs 1 10) (gin_s mw_5_23 mw_6_0 mw_1_5 mw_6_1) (by decide +kernel) ⟨Nat.le_of_ble_eq_true rfl, Nat.le_of_ble_eq_true rfl⟩ rfl hl.1 rfl (Nat.le_of_ble_eq_true rfl) dX3_fairWin_17 ⟨(Nat.le_of_ble_eq_true rfl), (Nat.le_of_ble_eq_true rfl)⟩ ?_
  refine W.eq (g2 := F0 m 20 ls [.int (b2i (inM bs 1 10))]) rfl ?_
  refine lv_if_ne (tgt := 29) hx hb dX3_fairWin_20 (by decide) (fun c_2 => False.elim (c_2 ((b2i_eq0 _).mpr hw2))) (fun c_2 => ?_)
  refine lv_aload_n hx hb dX3_fairWin_23 rfl (lv_at hl 0 rfl) ?_
  refine lv_iconst (v := 1) hx hb dX3_fairWin_24 (by first | decide | rfl) ?_
  refine wrV (As := [.int 1]) (rest := []) (b := am 0) ⟨hx, hb, hml, hown, hts⟩ hK 1 (m_no l D cs H 1 (fun ov w1 => ov = some (.int 0) ∧ w1 = wM cs am 1 bank rnds dn N n fc pu wh kn nm sk br ht sg) ⟨rfl, rfl⟩ hP (hD.weaken (fun _ _ _ _ => trivial))) (gin_v mw_6_2 mw_6_3 mw_6_4 mw_1_5 mw_6_5) (by decide +kernel) ⟨Nat.le_of_ble_eq_true rfl, Nat.le_of_ble_eq_true rfl⟩ (va_recv hK hP (ci := 4) (q0 := 0) rfl rfl) rfl hl.1 rfl (Nat.le_of_ble_eq_true rfl) dX3_fairWin_25 ⟨(Nat.le_of_ble_eq_true rfl), (Nat.le_of_ble_eq_true rfl)⟩ hD hS hA (fun ov9 w9 H locs hp9 hP hD hS => ?_)
  obtain ⟨rfl, rfl⟩ := hp9
  have hP : va_P D vwCl (wM cs am 1 bank rnds dn N n fc pu wh kn nm sk br ht sg) H := hP
  have hD : va_D _ (wM cs am 1 bank rnds dn N n fc pu wh kn nm sk br ht sg) := hD
  refine W.eq (g2 := F0 m 28 ls [.int 0]) rfl ?_
  exact wr_iret hQ hx hb hr hlocks hP hD hS (hpost) dX3_fairWin_28
set_option maxHeartbeats 4000000 in
set_option maxRecDepth 100000 in
theorem mp_chance (l : Launch) (D : va_G) (cs : Nat → ClassId) (H : Heap) {am : Nat → Nat} {th bank rnds : Int32} {dn N n : Nat} {fc pu wh kn nm sk br ht sg : Nat → Int32} {fn : Nat → Nat} (hF : FM fn dn N n fc) (k q9 : Nat) (hk : k < 10) (hq : q9 ≤ 36) (hv : (inM (nI k) 0 9 && inM (nI q9) 0 36) = true) (hnan : vf_n64 (FP.ddiv (FP.i2d (manyM fn dn N k (nI q9))) (FP.i2d (nI N)))) (post : Option Value → va_W → Prop) (hpost : ∀ sg9 : Nat → Int32, post (some (.double (FP.ddiv (FP.i2d (manyM fn dn N k (nI q9))) (FP.i2d (nI N))))) (wM cs am 0 bank rnds dn N n fc pu wh kn nm sk br ht sg9)) (hP : va_P D vwCl (wM cs am th bank rnds dn N n fc pu wh kn nm sk br ht sg) H) (hD : va_D (fun _ => True) (wM cs am th bank rnds dn N n fc pu wh kn nm sk br ht sg)) : Wr l D cs 5 0 0 yX3_chance cX3_chance 3 (some .double) (wM cs am th bank rnds dn N n fc pu wh kn nm sk br ht sg) H [.ref (am 0), .int (nI k), .int (nI q9)] post := by
  refine wr_ent (by decide) (Nat.le_of_ble_eq_true rfl) hP hD ?_
  clear hP hD H
  intro p e s m below meth c ls A Q H hx hb hr hml hown hts hlocks hin hl hK hQ hA hH hP hD hS
  clear hH
  have hl : lv_has ls 3 [(0, .ref (am 0)), (1, .int (nI k)), (2, .int (nI q9))] := hl
  have hF0 := hF
  obtain ⟨hF3, hd1, hd3, hNe, hN1, hN, hn⟩ := hF
  refine lv_aload_n hx hb dX3_chance_0 rfl (lv_at hl 0 rfl) ?_
  refine lv_iconst (v := 0) hx hb dX3_chance_1 (by first | decide | rfl) ?_
  refine va_put (D := D) (ci := 4) (v := .int 0) (ty := .int) (C := RX3) (T := TX3) (N := 15) hx hb hts inlX3 tyX3 tyX3_ok nmX3 hown hK hP hD hS 0 rfl rfl 0 (by decide) (hts (Cond.fieldLink RX3 48 "TavernDiceModel" "thrown" "I") mw_5_15) (fun _ h9 => h9) rfl (by decide +kernel) rfl rfl (Nat.le_of_ble_eq_true rfl) dX3_chance_2 (fun H locs hP hD hS => ?_)
  have hP : va_P D vwCl (wM cs am 0 bank rnds dn N n fc pu wh kn nm sk br ht sg) H := hP
  have hD : va_D _ (wM cs am 0 bank rnds dn N n fc pu wh kn nm sk br ht sg) := hD
  refine lv_iload_n hx hb dX3_chance_5 rfl (lv_at hl 1 rfl) ?_
  refine lv_iload_n hx hb dX3_chance_6 rfl (lv_at hl 2 rfl) ?_
  refine rdS (As := [.int (nI k), .int (nI q9)]) (rest := []) ⟨hx, hb, hml, hown, hts⟩ hK 2 (m_isEvent l D cs H (nI k) (nI q9)) (gin_s mw_9_23 mw_10_0 mw_1_5 mw_10_1) (by decide +kernel) ⟨Nat.le_of_ble_eq_true rfl, Nat.le_of_ble_eq_true rfl⟩ rfl hl.1 rfl (Nat.le_of_ble_eq_true rfl) dX3_chance_7 ⟨(Nat.le_of_ble_eq_true rfl), (Nat.le_of_ble_eq_true rfl)⟩ ?_
  refine W.eq (g2 := F0 m 10 ls [.int (b2i (inM (nI k) 0 9 && inM (nI q9) 0 36))]) rfl ?_
  refine lv_if_eq (tgt := 29) hx hb dX3_chance_10 (by decide) (fun c_1 => False.elim (absurd c_1 ((b2i_ne0 _).mpr hv))) (fun c_1 => ?_)
  refine lv_aload_n hx hb dX3_chance_13 rfl (lv_at hl 0 rfl) ?_
  refine lv_iload_n hx hb dX3_chance_14 rfl (lv_at hl 1 rfl) ?_
  refine lv_iload_n hx hb dX3_chance_15 rfl (lv_at hl 2 rfl) ?_
  refine wrV (As := [.int (nI k), .int (nI q9)]) (rest := []) (b := am 0) ⟨hx, hb, hml, hown, hts⟩ hK 2 (m_manyA l D cs H hF0 k hk (nI q9) (fun ov w1 => ov = some (.int (manyM fn dn N k (nI q9))) ∧ ∃ (sg9 : Nat → Int32), w1 = wM cs am 0 bank rnds dn N n fc pu wh kn nm sk br ht sg9) (fun sg9 => ⟨rfl, sg9, rfl⟩) hP (hD.weaken (fun _ _ _ _ => trivial))) (gin_v mw_10_2 mw_10_3 mw_10_4 mw_1_5 mw_10_5) (by decide +kernel) ⟨Nat.le_of_ble_eq_true rfl, Nat.le_of_ble_eq_true rfl⟩ (va_recv hK hP (ci := 4) (q0 := 0) rfl rfl) rfl hl.1 rfl (Nat.le_of_ble_eq_true rfl) dX3_chance_16 ⟨(Nat.le_of_ble_eq_true rfl), (Nat.le_of_ble_eq_true rfl)⟩ hD hS hA (fun ov9 w9 H locs hp9 hP hD hS => ?_)
  obtain ⟨rfl, sgz1, rfl⟩ := hp9
  have hP : va_P D vwCl (wM cs am 0 bank rnds dn N n fc pu wh kn nm sk br ht sgz1) H := hP
  have hD : va_D _ (wM cs am 0 bank rnds dn N n fc pu wh kn nm sk br ht sgz1) := hD
  refine W.eq (g2 := F0 m 19 ls [.int (manyM fn dn N k (nI q9))]) rfl ?_
  refine lv_i2d hx hb dX3_chance_19 ?_
  refine lv_aload_n hx hb dX3_chance_20 rfl (lv_at hl 0 rfl) ?_
  refine va_get (D := D) (ci := 4) (v := .int (nI N)) (C := RX3) (T := TX3) (N := 15) hx hb hts inlX3 hown hK hP 0 rfl rfl 3 (by decide) (hts (Cond.fieldLink RX3 17 "TavernDiceModel" "outcomes" "I") mw_3_21) (fun _ h9 => h9) rfl dX3_chance_21 ?_
  refine lv_i2d hx hb dX3_chance_24 ?_
  refine lv_ddiv hx hb dX3_chance_25 (hnan) ?_
  refine lv_goto (tgt := 35) hx hb dX3_chance_26 (by decide) ?_
  exact wr_dret hQ hx hb hr hlocks hP hD hS (hpost sgz1) dX3_chance_35
set_option maxHeartbeats 4000000 in
set_option maxRecDepth 100000 in
theorem mp_chance_no (l : Launch) (D : va_G) (cs : Nat → ClassId) (H : Heap) {am : Nat → Nat} {th bank rnds : Int32} {dn N n : Nat} {fc pu wh kn nm sk br ht sg : Nat → Int32} {fn : Nat → Nat} (hF : FM fn dn N n fc) (k q9 : Int32) (hv : (inM k 0 9 && inM q9 0 36) = false) (post : Option Value → va_W → Prop) (hpost : post (some (.double (FP.i2d 0))) (wM cs am 1 bank rnds dn N n fc pu wh kn nm sk br ht sg)) (hP : va_P D vwCl (wM cs am th bank rnds dn N n fc pu wh kn nm sk br ht sg) H) (hD : va_D (fun _ => True) (wM cs am th bank rnds dn N n fc pu wh kn nm sk br ht sg)) : Wr l D cs 3 0 0 yX3_chance cX3_chance 3 (some .double) (wM cs am th bank rnds dn N n fc pu wh kn nm sk br ht sg) H [.ref (am 0), .int k, .int q9] post := by
  refine wr_ent (by decide) (Nat.le_of_ble_eq_true rfl) hP hD ?_
  clear hP hD H
  intro p e s m below meth c ls A Q H hx hb hr hml hown hts hlocks hin hl hK hQ hA hH hP hD hS
  clear hH
  have hl : lv_has ls 3 [(0, .ref (am 0)), (1, .int k), (2, .int q9)] := hl
  have hF0 := hF
  obtain ⟨hF3, hd1, hd3, hNe, hN1, hN, hn⟩ := hF
  refine lv_aload_n hx hb dX3_chance_0 rfl (lv_at hl 0 rfl) ?_
  refine lv_iconst (v := 0) hx hb dX3_chance_1 (by first | decide | rfl) ?_
  refine va_put (D := D) (ci := 4) (v := .int 0) (ty := .int) (C := RX3) (T := TX3) (N := 15) hx hb hts inlX3 tyX3 tyX3_ok nmX3 hown hK hP hD hS 0 rfl rfl 0 (by decide) (hts (Cond.fieldLink RX3 48 "TavernDiceModel" "thrown" "I") mw_5_15) (fun _ h9 => h9) rfl (by decide +kernel) rfl rfl (Nat.le_of_ble_eq_true rfl) dX3_chance_2 (fun H locs hP hD hS => ?_)
  have hP : va_P D vwCl (wM cs am 0 bank rnds dn N n fc pu wh kn nm sk br ht sg) H := hP
  have hD : va_D _ (wM cs am 0 bank rnds dn N n fc pu wh kn nm sk br ht sg) := hD
  refine lv_iload_n hx hb dX3_chance_5 rfl (lv_at hl 1 rfl) ?_
  refine lv_iload_n hx hb dX3_chance_6 rfl (lv_at hl 2 rfl) ?_
  refine rdS (As := [.int k, .int q9]) (rest := []) ⟨hx, hb, hml, hown, hts⟩ hK 2 (m_isEvent l D cs H k q9) (gin_s mw_9_23 mw_10_0 mw_1_5 mw_10_1) (by decide +kernel) ⟨Nat.le_of_ble_eq_true rfl, Nat.le_of_ble_eq_true rfl⟩ rfl hl.1 rfl (Nat.le_of_ble_eq_true rfl) dX3_chance_7 ⟨(Nat.le_of_ble_eq_true rfl), (Nat.le_of_ble_eq_true rfl)⟩ ?_
  refine W.eq (g2 := F0 m 10 ls [.int (b2i (inM k 0 9 && inM q9 0 36))]) rfl ?_
  refine lv_if_eq (tgt := 29) hx hb dX3_chance_10 (by decide) (fun c_1 => ?_) (fun c_1 => False.elim (c_1 ((b2i_eq0 _).mpr hv)))
  refine lv_aload_n hx hb dX3_chance_29 rfl (lv_at hl 0 rfl) ?_
  refine lv_iconst (v := 1) hx hb dX3_chance_30 (by first | decide | rfl) ?_
  refine wrV (As := [.int 1]) (rest := []) (b := am 0) ⟨hx, hb, hml, hown, hts⟩ hK 1 (m_no l D cs H 1 (fun ov w1 => ov = some (.int 0) ∧ w1 = wM cs am 1 bank rnds dn N n fc pu wh kn nm sk br ht sg) ⟨rfl, rfl⟩ hP (hD.weaken (fun _ _ _ _ => trivial))) (gin_v mw_6_2 mw_6_3 mw_6_4 mw_1_5 mw_6_5) (by decide +kernel) ⟨Nat.le_of_ble_eq_true rfl, Nat.le_of_ble_eq_true rfl⟩ (va_recv hK hP (ci := 4) (q0 := 0) rfl rfl) rfl hl.1 rfl (Nat.le_of_ble_eq_true rfl) dX3_chance_31 ⟨(Nat.le_of_ble_eq_true rfl), (Nat.le_of_ble_eq_true rfl)⟩ hD hS hA (fun ov9 w9 H locs hp9 hP hD hS => ?_)
  obtain ⟨rfl, rfl⟩ := hp9
  have hP : va_P D vwCl (wM cs am 1 bank rnds dn N n fc pu wh kn nm sk br ht sg) H := hP
  have hD : va_D _ (wM cs am 1 bank rnds dn N n fc pu wh kn nm sk br ht sg) := hD
  refine W.eq (g2 := F0 m 34 ls [.int 0]) rfl ?_
  refine lv_i2d hx hb dX3_chance_34 ?_
  exact wr_dret hQ hx hb hr hlocks hP hD hS (hpost) dX3_chance_35
set_option maxHeartbeats 4000000 in
set_option maxRecDepth 100000 in
theorem mp_settle (l : Launch) (D : va_G) (cs : Nat → ClassId) (H : Heap) {am : Nat → Nat} {th bank rnds : Int32} {dn N n : Nat} {fc pu wh kn nm sk br ht sg : Nat → Int32} {fn : Nat → Nat} (hF : FM fn dn N n fc) {pt : Nat → Nat} (hpt : ∀ i, i < n → wh i = nI (pt i) ∧ pt i < 6) (o : Nat) (ho : o < N) (hv : inM (nI o) 0 (nI N - 1) = true) (post : Option Value → va_W → Prop) (hpost : post (some (.int (sm (gnM ht sk br o) n))) (wM cs am 0 ((bank + sm (gnM ht sk br o) n)) ((rnds + 1)) dn N 0 fc ((stM pu sk br ht pt o n)) wh kn nm sk br ht sg)) (hP : va_P D vwCl (wM cs am th bank rnds dn N n fc pu wh kn nm sk br ht sg) H) (hD : va_D (fun _ => True) (wM cs am th bank rnds dn N n fc pu wh kn nm sk br ht sg)) : Wr l D cs 3 0 0 yX3_settle cX3_settle 4 (some .int) (wM cs am th bank rnds dn N n fc pu wh kn nm sk br ht sg) H [.ref (am 0), .int (nI o)] post := by
  refine wr_ent (by decide) (Nat.le_of_ble_eq_true rfl) hP hD ?_
  clear hP hD H
  intro p e s m below meth c ls A Q H hx hb hr hml hown hts hlocks hin hl hK hQ hA hH hP hD hS
  clear hH
  have hl : lv_has ls 4 [(0, .ref (am 0)), (1, .int (nI o))] := hl
  have hF0 := hF
  obtain ⟨hF3, hd1, hd3, hNe, hN1, hN, hn⟩ := hF
  refine lv_aload_n hx hb dX3_settle_0 rfl (lv_at hl 0 rfl) ?_
  refine lv_iconst (v := 0) hx hb dX3_settle_1 (by first | decide | rfl) ?_
  refine va_put (D := D) (ci := 4) (v := .int 0) (ty := .int) (C := RX3) (T := TX3) (N := 15) hx hb hts inlX3 tyX3 tyX3_ok nmX3 hown hK hP hD hS 0 rfl rfl 0 (by decide) (hts (Cond.fieldLink RX3 48 "TavernDiceModel" "thrown" "I") mw_5_15) (fun _ h9 => h9) rfl (by decide +kernel) rfl rfl (Nat.le_of_ble_eq_true rfl) dX3_settle_2 (fun H locs hP hD hS => ?_)
  have hP : va_P D vwCl (wM cs am 0 bank rnds dn N n fc pu wh kn nm sk br ht sg) H := hP
  have hD : va_D _ (wM cs am 0 bank rnds dn N n fc pu wh kn nm sk br ht sg) := hD
  refine lv_aload_n hx hb dX3_settle_5 rfl (lv_at hl 0 rfl) ?_
  refine lv_iload_n hx hb dX3_settle_6 rfl (lv_at hl 1 rfl) ?_
  refine rdV (As := [.int (nI o)]) (rest := []) (b := am 0) ⟨hx, hb, hml, hown, hts⟩ hK 1 (m_isOutcome l D cs H hP hF0 (nI o)) (gin_v mw_8_2 mw_8_3 mw_8_4 mw_1_5 mw_8_5) (by decide +kernel) ⟨Nat.le_of_ble_eq_true rfl, Nat.le_of_ble_eq_true rfl⟩ (va_recv hK hP (ci := 4) (q0 := 0) rfl rfl) rfl hl.1 rfl (Nat.le_of_ble_eq_true rfl) dX3_settle_7 ⟨(Nat.le_of_ble_eq_true rfl), (Nat.le_of_ble_eq_true rfl)⟩ ?_
  refine W.eq (g2 := F0 m 10 ls [.int (b2i (inM (nI o) 0 (nI N - 1)))]) rfl ?_
  refine lv_if_ne (tgt := 19) hx hb dX3_settle_10 (by decide) (fun c_1 => ?_) (fun c_1 => False.elim (absurd c_1 ((b2i_ne0 _).mpr hv)))
  refine lv_aload_n hx hb dX3_settle_19 rfl (lv_at hl 0 rfl) ?_
  refine lv_iload_n hx hb dX3_settle_20 rfl (lv_at hl 1 rfl) ?_
  refine rdV (As := [.int (nI o)]) (rest := []) (b := am 0) ⟨hx, hb, hml, hown, hts⟩ hK 1 (m_gain l D cs H hP hF0 o (by omega)) (gin_v mw_18_5 mw_18_6 mw_18_7 mw_1_5 mw_18_8) (by decide +kernel) ⟨Nat.le_of_ble_eq_true rfl, Nat.le_of_ble_eq_true rfl⟩ (va_recv hK hP (ci := 4) (q0 := 0) rfl rfl) rfl hl.1 rfl (Nat.le_of_ble_eq_true rfl) dX3_settle_21 ⟨(Nat.le_of_ble_eq_true rfl), (Nat.le_of_ble_eq_true rfl)⟩ ?_
  refine W.eq (g2 := F0 m 24 ls [.int (sm (gnM ht sk br o) n)]) rfl ?_
  refine lv_istore_n (lv' := [(2, .int (sm (gnM ht sk br o) n)), (0, .ref (am 0)), (1, .int (nI o))]) hx hb dX3_settle_24 rfl hl (by decide) rfl (fun ls hl => ?_)
  refine lv_iconst (v := nI 0) hx hb dX3_settle_25 (by first | decide | rfl) ?_
  refine lv_istore_n (lv' := [(3, .int (nI 0)), (2, .int (sm (gnM ht sk br o) n)), (0, .ref (am 0)), (1, .int (nI o))]) hx hb dX3_settle_26 rfl hl (by decide) rfl (fun ls hl => ?_)
  have loop27 : ∀ (n9 : Nat) (i : Nat) (H : Heap) (locs : List Loc) (ls : Array Slot), i ≤ n → n + 1 ≤ i + n9 → va_P D vwCl (wM cs am 0 bank rnds dn N n fc (stM pu sk br ht pt o i) wh kn nm sk br ht sg) H → va_D A (wM cs am 0 bank rnds dn N n fc (stM pu sk br ht pt o i) wh kn nm sk br ht sg) → va_S A s.heap H locs → lv_has ls 4 [(0, .ref (am 0)), (1, .int (nI o)), (2, .int (sm (gnM ht sk br o) n)), (3, .int (nI i))] → W p l e (rmL 3 0 0) s m [.ref (am 0), .int (nI o)].toArray below meth c H locs 0 0 Q (F0 m 27 ls []) := by
    intro n9
    induction n9 with
    | zero => intro i  H locs ls hi hf hP hD hS hl; exact absurd hf (by omega)
    | succ n9 ih27 =>
      intro i  H locs ls hi hf hP hD hS hl
      refine lv_iload_n hx hb dX3_settle_27 rfl (lv_at hl 3 rfl) ?_
      refine lv_aload_n hx hb dX3_settle_28 rfl (lv_at hl 0 rfl) ?_
      refine va_get (D := D) (ci := 4) (v := .int (nI n)) (C := RX3) (T := TX3) (N := 15) hx hb hts inlX3 hown hK hP 0 rfl rfl 7 (by decide) (hts (Cond.fieldLink RX3 51 "TavernDiceModel" "open" "I") mw_5_16) (fun _ h9 => h9) rfl dX3_settle_29 ?_
      refine lv_icmp_ge (tgt := 83) hx hb dX3_settle_32 (by decide) (fun c_2 => ?_) (fun c_2 => ?_)
      · refine lv_aload_n hx hb dX3_settle_83 rfl (lv_at hl 0 rfl) ?_
        refine lv_dup hx hb dX3_settle_84 rfl ?_
        refine va_get (D := D) (ci := 4) (v := .int bank) (C := RX3) (T := TX3) (N := 15) hx hb hts inlX3 hown hK hP 0 rfl rfl 5 (by decide) (hts (Cond.fieldLink RX3 23 "TavernDiceModel" "bank" "I") mw_3_23) (fun _ h9 => h9) rfl dX3_settle_85 ?_
        refine lv_iload_n hx hb dX3_settle_88 rfl (lv_at hl 2 rfl) ?_
        refine lv_iadd hx hb dX3_settle_89 ?_
        refine va_put (D := D) (ci := 4) (v := .int (bank + (sm (gnM ht sk br o) n))) (ty := .int) (C := RX3) (T := TX3) (N := 15) hx hb hts inlX3 tyX3 tyX3_ok nmX3 hown hK hP hD hS 0 rfl rfl 5 (by decide) (hts (Cond.fieldLink RX3 23 "TavernDiceModel" "bank" "I") mw_3_23) (fun _ h9 => h9) rfl (by decide +kernel) rfl rfl (Nat.le_of_ble_eq_true rfl) dX3_settle_90 (fun H locs hP hD hS => ?_)
        have hP : va_P D vwCl (wM cs am 0 (bank + (sm (gnM ht sk br o) n)) rnds dn N n fc (stM pu sk br ht pt o i) wh kn nm sk br ht sg) H := hP
        have hD : va_D _ (wM cs am 0 (bank + (sm (gnM ht sk br o) n)) rnds dn N n fc (stM pu sk br ht pt o i) wh kn nm sk br ht sg) := hD
        refine lv_aload_n hx hb dX3_settle_93 rfl (lv_at hl 0 rfl) ?_
        refine lv_dup hx hb dX3_settle_94 rfl ?_
        refine va_get (D := D) (ci := 4) (v := .int rnds) (C := RX3) (T := TX3) (N := 15) hx hb hts inlX3 hown hK hP 0 rfl rfl 6 (by decide) (hts (Cond.fieldLink RX3 130 "TavernDiceModel" "rounds" "I") mw_18_4) (fun _ h9 => h9) rfl dX3_settle_95 ?_
        refine lv_iconst (v := 1) hx hb dX3_settle_98 (by first | decide | rfl) ?_
        refine lv_iadd hx hb dX3_settle_99 ?_
        refine va_put (D := D) (ci := 4) (v := .int (rnds + 1)) (ty := .int) (C := RX3) (T := TX3) (N := 15) hx hb hts inlX3 tyX3 tyX3_ok nmX3 hown hK hP hD hS 0 rfl rfl 6 (by decide) (hts (Cond.fieldLink RX3 130 "TavernDiceModel" "rounds" "I") mw_18_4) (fun _ h9 => h9) rfl (by decide +kernel) rfl rfl (Nat.le_of_ble_eq_true rfl) dX3_settle_100 (fun H locs hP hD hS => ?_)
        have hP : va_P D vwCl (wM cs am 0 (bank + (sm (gnM ht sk br o) n)) (rnds + 1) dn N n fc (stM pu sk br ht pt o i) wh kn nm sk br ht sg) H := hP
        have hD : va_D _ (wM cs am 0 (bank + (sm (gnM ht sk br o) n)) (rnds + 1) dn N n fc (stM pu sk br ht pt o i) wh kn nm sk br ht sg) := hD
        refine lv_aload_n hx hb dX3_settle_103 rfl (lv_at hl 0 rfl) ?_
        refine lv_iconst (v := nI 0) hx hb dX3_settle_104 (by first | decide | rfl) ?_
        refine va_put (D := D) (ci := 4) (v := .int (nI 0)) (ty := .int) (C := RX3) (T := TX3) (N := 15) hx hb hts inlX3 tyX3 tyX3_ok nmX3 hown hK hP hD hS 0 rfl rfl 7 (by decide) (hts (Cond.fieldLink RX3 51 "TavernDiceModel" "open" "I") mw_5_16) (fun _ h9 => h9) rfl (by decide +kernel) rfl rfl (Nat.le_of_ble_eq_true rfl) dX3_settle_105 (fun H locs hP hD hS => ?_)
        have hP : va_P D vwCl (wM cs am 0 (bank + (sm (gnM ht sk br o) n)) (rnds + 1) dn N 0 fc (stM pu sk br ht pt o i) wh kn nm sk br ht sg) H := hP
        have hD : va_D _ (wM cs am 0 (bank + (sm (gnM ht sk br o) n)) (rnds + 1) dn N 0 fc (stM pu sk br ht pt o i) wh kn nm sk br ht sg) := hD
        refine lv_iload_n hx hb dX3_settle_108 rfl (lv_at hl 2 rfl) ?_
        exact wr_iret hQ hx hb hr hlocks hP hD hS (by rw [show stM pu sk br ht pt o i = stM pu sk br ht pt o n from congrArg (stM pu sk br ht pt o) (show i = n from (by have g := (nI_leI (by omega) (by omega)).mp c_2; omega))]; exact hpost) dX3_settle_109
      · have hlt : i < n := by
          rcases Nat.lt_or_ge i n with q | q
          · exact q
          · exact absurd (nI_le q (by omega)) c_2
        refine lv_aload_n hx hb dX3_settle_35 rfl (lv_at hl 0 rfl) ?_
        refine va_get (D := D) (ci := 4) (v := .ref (am 8)) (C := RX3) (T := TX3) (N := 15) hx hb hts inlX3 hown hK hP 0 rfl rfl 13 (by decide) (hts (Cond.fieldLink RX3 41 "TavernDiceModel" "isHit" "[Z") mw_4_6) (fun _ h9 => h9) rfl dX3_settle_36 ?_
        refine lv_sipush (v := nI 1728) hx hb dX3_settle_39 (by first | decide | rfl) ?_
        refine lv_iload_n hx hb dX3_settle_42 rfl (lv_at hl 3 rfl) ?_
        refine lv_imul hx hb dX3_settle_43 ?_
        refine lv_rwi (y := nI (1728 * i)) (pk_mul _ _) ?_
        refine lv_iload_n hx hb dX3_settle_44 rfl (lv_at hl 1 rfl) ?_
        refine lv_iadd hx hb dX3_settle_45 ?_
        refine lv_rwi (y := nI (1728 * i + o)) (nI_add _ _) ?_
        refine va_zald hx hb hK hP 8 1 rfl rfl (vp_in_nI (by omega) (by omega)) dX3_settle_46 ?_
        refine lv_rwi (y := ht (1728 * i + o)) (congrArg ht (nI_clamp (by omega))) ?_
        refine lv_if_eq (tgt := 77) hx hb dX3_settle_47 (by decide) (fun c_3 => ?_) (fun c_3 => ?_)
        · have g9 : stM pu sk br ht pt o i = stM pu sk br ht pt o (i + 1) := (if_pos c_3).symm
          have hP : va_P D vwCl (wM cs am 0 bank rnds dn N n fc (stM pu sk br ht pt o (i + 1)) wh kn nm sk br ht sg) H := Eq.mp (congrArg (fun z9 => va_P D vwCl (wM cs am 0 bank rnds dn N n fc z9 wh kn nm sk br ht sg) H) g9) hP
          have hD : va_D _ (wM cs am 0 bank rnds dn N n fc (stM pu sk br ht pt o (i + 1)) wh kn nm sk br ht sg) := Eq.mp (congrArg (fun z9 => va_D _ (wM cs am 0 bank rnds dn N n fc z9 wh kn nm sk br ht sg)) g9) hD
          refine lv_iinc (v := nI (i + 1)) (lv' := [(3, .int (nI (i + 1))), (0, .ref (am 0)), (1, .int (nI o)), (2, .int (sm (gnM ht sk br o) n))]) hx hb dX3_settle_77 hl (k := 3) rfl (nI_1 i) (by decide) rfl (fun ls hl => ?_)
          refine lv_goto (tgt := 27) hx hb dX3_settle_80 (by decide) ?_
          exact ih27 (i + 1) H _ ls (by omega) (by omega) hP hD hS (lv_sub hl [1, 2, 3, 0] rfl)
        · refine lv_aload_n hx hb dX3_settle_50 rfl (lv_at hl 0 rfl) ?_
          refine va_get (D := D) (ci := 4) (v := .ref (am 2)) (C := RX3) (T := TX3) (N := 15) hx hb hts inlX3 hown hK hP 0 rfl rfl 4 (by decide) (hts (Cond.fieldLink RX3 20 "TavernDiceModel" "purse" "[I") mw_3_22) (fun _ h9 => h9) rfl dX3_settle_51 ?_
          refine lv_aload_n hx hb dX3_settle_54 rfl (lv_at hl 0 rfl) ?_
          refine va_get (D := D) (ci := 4) (v := .ref (am 3)) (C := RX3) (T := TX3) (N := 15) hx hb hts inlX3 hown hK hP 0 rfl rfl 8 (by decide) (hts (Cond.fieldLink RX3 26 "TavernDiceModel" "who" "[I") mw_4_0) (fun _ h9 => h9) rfl dX3_settle_55 ?_
          refine lv_iload_n hx hb dX3_settle_58 rfl (lv_at hl 3 rfl) ?_
          refine va_iald hx hb hK hP 3 0 rfl rfl (vp_in_nI (by omega) (by omega)) dX3_settle_59 ?_
          refine lv_rwi (y := nI (pt i)) ((congrArg wh (nI_clamp (by omega))).trans (hpt i hlt).1) ?_
          refine lv_dup2_11 hx hb dX3_settle_60 rfl rfl ?_
          refine va_iald hx hb hK hP 2 0 rfl rfl (vp_in_nI (hpt i hlt).2 (by omega)) dX3_settle_61 ?_
          refine lv_rwi (y := stM pu sk br ht pt o i (pt i)) (congrArg (stM pu sk br ht pt o i) (nI_clamp (by have g := (hpt i hlt).2; omega))) ?_
          refine lv_aload_n hx hb dX3_settle_62 rfl (lv_at hl 0 rfl) ?_
          refine va_get (D := D) (ci := 4) (v := .ref (am 6)) (C := RX3) (T := TX3) (N := 15) hx hb hts inlX3 hown hK hP 0 rfl rfl 11 (by decide) (hts (Cond.fieldLink RX3 35 "TavernDiceModel" "stake" "[I") mw_4_3) (fun _ h9 => h9) rfl dX3_settle_63 ?_
          refine lv_iload_n hx hb dX3_settle_66 rfl (lv_at hl 3 rfl) ?_
          refine va_iald hx hb hK hP 6 0 rfl rfl (vp_in_nI (by omega) (by omega)) dX3_settle_67 ?_
          refine lv_rwi (y := sk i) (congrArg sk (nI_clamp (by omega))) ?_
          refine lv_aload_n hx hb dX3_settle_68 rfl (lv_at hl 0 rfl) ?_
          refine va_get (D := D) (ci := 4) (v := .ref (am 7)) (C := RX3) (T := TX3) (N := 15) hx hb hts inlX3 hown hK hP 0 rfl rfl 12 (by decide) (hts (Cond.fieldLink RX3 38 "TavernDiceModel" "brings" "[I") mw_4_4) (fun _ h9 => h9) rfl dX3_settle_69 ?_
          refine lv_iload_n hx hb dX3_settle_72 rfl (lv_at hl 3 rfl) ?_
          refine va_iald hx hb hK hP 7 0 rfl rfl (vp_in_nI (by omega) (by omega)) dX3_settle_73 ?_
          refine lv_rwi (y := br i) (congrArg br (nI_clamp (by omega))) ?_
          refine lv_iadd hx hb dX3_settle_74 ?_
          refine lv_iadd hx hb dX3_settle_75 ?_
          refine va_iast hx hb hK hP hD hS 2 0 rfl rfl (vp_in_nI (hpt i hlt).2 (by omega)) dX3_settle_76 (fun H locs hP hD hS => ?_)
          have g9 : upd (stM pu sk br ht pt o i) (nI (pt i)).toNatClampNeg ((stM pu sk br ht pt o i (pt i)) + ((sk i) + (br i))) = stM pu sk br ht pt o (i + 1) := by rw [nI_clamp (by have g := (hpt i hlt).2; omega)]; exact (if_neg c_3).symm
          have hP : va_P D vwCl (wM cs am 0 bank rnds dn N n fc (stM pu sk br ht pt o (i + 1)) wh kn nm sk br ht sg) H := Eq.mp (congrArg (fun z9 => va_P D vwCl (wM cs am 0 bank rnds dn N n fc z9 wh kn nm sk br ht sg) H) g9) hP
          have hD : va_D _ (wM cs am 0 bank rnds dn N n fc (stM pu sk br ht pt o (i + 1)) wh kn nm sk br ht sg) := Eq.mp (congrArg (fun z9 => va_D _ (wM cs am 0 bank rnds dn N n fc z9 wh kn nm sk br ht sg)) g9) hD
          refine lv_iinc (v := nI (i + 1)) (lv' := [(3, .int (nI (i + 1))), (0, .ref (am 0)), (1, .int (nI o)), (2, .int (sm (gnM ht sk br o) n))]) hx hb dX3_settle_77 hl (k := 3) rfl (nI_1 i) (by decide) rfl (fun ls hl => ?_)
          refine lv_goto (tgt := 27) hx hb dX3_settle_80 (by decide) ?_
          exact ih27 (i + 1) H _ ls (by omega) (by omega) hP hD hS (lv_sub hl [1, 2, 3, 0] rfl)
  exact loop27 (n + 1) 0 H _ ls (Nat.zero_le _) (by omega) hP hD hS (lv_sub hl [2, 3, 1, 0] rfl)
set_option maxHeartbeats 4000000 in
set_option maxRecDepth 100000 in
theorem mp_settle_no (l : Launch) (D : va_G) (cs : Nat → ClassId) (H : Heap) {am : Nat → Nat} {th bank rnds : Int32} {dn N n : Nat} {fc pu wh kn nm sk br ht sg : Nat → Int32} {fn : Nat → Nat} (hF : FM fn dn N n fc) (w : Int32) (hv : inM w 0 (nI N - 1) = false) (post : Option Value → va_W → Prop) (hpost : post (some (.int (0))) (wM cs am 1 bank rnds dn N n fc pu wh kn nm sk br ht sg)) (hP : va_P D vwCl (wM cs am th bank rnds dn N n fc pu wh kn nm sk br ht sg) H) (hD : va_D (fun _ => True) (wM cs am th bank rnds dn N n fc pu wh kn nm sk br ht sg)) : Wr l D cs 4 0 0 yX3_settle cX3_settle 4 (some .int) (wM cs am th bank rnds dn N n fc pu wh kn nm sk br ht sg) H [.ref (am 0), .int w] post := by
  refine wr_ent (by decide) (Nat.le_of_ble_eq_true rfl) hP hD ?_
  clear hP hD H
  intro p e s m below meth c ls A Q H hx hb hr hml hown hts hlocks hin hl hK hQ hA hH hP hD hS
  clear hH
  have hl : lv_has ls 4 [(0, .ref (am 0)), (1, .int w)] := hl
  have hF0 := hF
  obtain ⟨hF3, hd1, hd3, hNe, hN1, hN, hn⟩ := hF
  refine lv_aload_n hx hb dX3_settle_0 rfl (lv_at hl 0 rfl) ?_
  refine lv_iconst (v := 0) hx hb dX3_settle_1 (by first | decide | rfl) ?_
  refine va_put (D := D) (ci := 4) (v := .int 0) (ty := .int) (C := RX3) (T := TX3) (N := 15) hx hb hts inlX3 tyX3 tyX3_ok nmX3 hown hK hP hD hS 0 rfl rfl 0 (by decide) (hts (Cond.fieldLink RX3 48 "TavernDiceModel" "thrown" "I") mw_5_15) (fun _ h9 => h9) rfl (by decide +kernel) rfl rfl (Nat.le_of_ble_eq_true rfl) dX3_settle_2 (fun H locs hP hD hS => ?_)
  have hP : va_P D vwCl (wM cs am 0 bank rnds dn N n fc pu wh kn nm sk br ht sg) H := hP
  have hD : va_D _ (wM cs am 0 bank rnds dn N n fc pu wh kn nm sk br ht sg) := hD
  refine lv_aload_n hx hb dX3_settle_5 rfl (lv_at hl 0 rfl) ?_
  refine lv_iload_n hx hb dX3_settle_6 rfl (lv_at hl 1 rfl) ?_
  refine rdV (As := [.int w]) (rest := []) (b := am 0) ⟨hx, hb, hml, hown, hts⟩ hK 1 (m_isOutcome l D cs H hP hF0 w) (gin_v mw_8_2 mw_8_3 mw_8_4 mw_1_5 mw_8_5) (by decide +kernel) ⟨Nat.le_of_ble_eq_true rfl, Nat.le_of_ble_eq_true rfl⟩ (va_recv hK hP (ci := 4) (q0 := 0) rfl rfl) rfl hl.1 rfl (Nat.le_of_ble_eq_true rfl) dX3_settle_7 ⟨(Nat.le_of_ble_eq_true rfl), (Nat.le_of_ble_eq_true rfl)⟩ ?_
  refine W.eq (g2 := F0 m 10 ls [.int (b2i (inM w 0 (nI N - 1)))]) rfl ?_
  refine lv_if_ne (tgt := 19) hx hb dX3_settle_10 (by decide) (fun c_1 => False.elim (c_1 ((b2i_eq0 _).mpr hv))) (fun c_1 => ?_)
  refine lv_aload_n hx hb dX3_settle_13 rfl (lv_at hl 0 rfl) ?_
  refine lv_iconst (v := 1) hx hb dX3_settle_14 (by first | decide | rfl) ?_
  refine wrV (As := [.int 1]) (rest := []) (b := am 0) ⟨hx, hb, hml, hown, hts⟩ hK 1 (m_no l D cs H 1 (fun ov w1 => ov = some (.int 0) ∧ w1 = wM cs am 1 bank rnds dn N n fc pu wh kn nm sk br ht sg) ⟨rfl, rfl⟩ hP (hD.weaken (fun _ _ _ _ => trivial))) (gin_v mw_6_2 mw_6_3 mw_6_4 mw_1_5 mw_6_5) (by decide +kernel) ⟨Nat.le_of_ble_eq_true rfl, Nat.le_of_ble_eq_true rfl⟩ (va_recv hK hP (ci := 4) (q0 := 0) rfl rfl) rfl hl.1 rfl (Nat.le_of_ble_eq_true rfl) dX3_settle_15 ⟨(Nat.le_of_ble_eq_true rfl), (Nat.le_of_ble_eq_true rfl)⟩ hD hS hA (fun ov9 w9 H locs hp9 hP hD hS => ?_)
  obtain ⟨rfl, rfl⟩ := hp9
  have hP : va_P D vwCl (wM cs am 1 bank rnds dn N n fc pu wh kn nm sk br ht sg) H := hP
  have hD : va_D _ (wM cs am 1 bank rnds dn N n fc pu wh kn nm sk br ht sg) := hD
  refine W.eq (g2 := F0 m 18 ls [.int 0]) rfl ?_
  exact wr_iret hQ hx hb hr hlocks hP hD hS (hpost) dX3_settle_18
set_option maxHeartbeats 4000000 in
set_option maxRecDepth 100000 in
theorem mp_lay (l : Launch) (D : va_G) (cs : Nat → ClassId) (H : Heap) {am : Nat → Nat} {th bank rnds : Int32} {dn N n : Nat} {fc pu wh kn nm sk br ht sg : Nat → Int32} {fn : Nat → Nat} (hF : FM fn dn N n fc) (p9 k q9 : Nat) (am9 wn bs : Int32) (hp9 : p9 < 6) (hk : k < 10) (hq : q9 ≤ 36) (hv : inM (nI p9) 0 5 = true) (hv2 : (inM (nI k) 0 9 && inM (nI q9) 0 36) = true) (h3 : inM am9 1 100 = true) (h4 : inM wn 1 20 = true) (h5 : inM bs 1 10 = true) (hbs : ¬ bs = 0) (hop : n < 12) (hen : am9 ≤ pu p9) (post : Option Value → va_W → Prop) (hpost : post (some (.int (nI n))) (wM cs am 0 bank rnds dn N ((n + 1)) fc ((upd pu p9 (pu p9 - am9))) ((upd wh n (nI p9))) ((upd kn n (nI k))) ((upd nm n (nI q9))) ((upd sk n (am9))) ((upd br n (am9 * wn / bs))) ((hitM ht (fun o => comesM fn dn k (nI q9) o) n N)) sg)) (hP : va_P D vwCl (wM cs am th bank rnds dn N n fc pu wh kn nm sk br ht sg) H) (hD : va_D (fun _ => True) (wM cs am th bank rnds dn N n fc pu wh kn nm sk br ht sg)) : Wr l D cs 5 0 0 yX3_lay cX3_lay 8 (some .int) (wM cs am th bank rnds dn N n fc pu wh kn nm sk br ht sg) H [.ref (am 0), .int (nI p9), .int (nI k), .int (nI q9), .int am9, .int wn, .int bs] post := by
  refine wr_ent (by decide) (Nat.le_of_ble_eq_true rfl) hP hD ?_
  clear hP hD H
  intro p e s m below meth c ls A Q H hx hb hr hml hown hts hlocks hin hl hK hQ hA hH hP hD hS
  clear hH
  have hl : lv_has ls 8 [(0, .ref (am 0)), (1, .int (nI p9)), (2, .int (nI k)), (3, .int (nI q9)), (4, .int am9), (5, .int wn), (6, .int bs)] := hl
  have hF0 := hF
  obtain ⟨hF3, hd1, hd3, hNe, hN1, hN, hn⟩ := hF
  refine lv_aload_n hx hb dX3_lay_0 rfl (lv_at hl 0 rfl) ?_
  refine lv_iconst (v := 0) hx hb dX3_lay_1 (by first | decide | rfl) ?_
  refine va_put (D := D) (ci := 4) (v := .int 0) (ty := .int) (C := RX3) (T := TX3) (N := 15) hx hb hts inlX3 tyX3 tyX3_ok nmX3 hown hK hP hD hS 0 rfl rfl 0 (by decide) (hts (Cond.fieldLink RX3 48 "TavernDiceModel" "thrown" "I") mw_5_15) (fun _ h9 => h9) rfl (by decide +kernel) rfl rfl (Nat.le_of_ble_eq_true rfl) dX3_lay_2 (fun H locs hP hD hS => ?_)
  have hP : va_P D vwCl (wM cs am 0 bank rnds dn N n fc pu wh kn nm sk br ht sg) H := hP
  have hD : va_D _ (wM cs am 0 bank rnds dn N n fc pu wh kn nm sk br ht sg) := hD
  refine lv_iload_n hx hb dX3_lay_5 rfl (lv_at hl 1 rfl) ?_
  refine rdS (As := [.int (nI p9)]) (rest := []) ⟨hx, hb, hml, hown, hts⟩ hK 1 (m_isPatron l D cs H (nI p9)) (gin_s mw_14_17 mw_14_18 mw_1_5 mw_14_19) (by decide +kernel) ⟨Nat.le_of_ble_eq_true rfl, Nat.le_of_ble_eq_true rfl⟩ rfl hl.1 rfl (Nat.le_of_ble_eq_true rfl) dX3_lay_6 ⟨(Nat.le_of_ble_eq_true rfl), (Nat.le_of_ble_eq_true rfl)⟩ ?_
  refine W.eq (g2 := F0 m 9 ls [.int (b2i (inM (nI p9) 0 5))]) rfl ?_
  refine lv_if_ne (tgt := 18) hx hb dX3_lay_9 (by decide) (fun c_1 => ?_) (fun c_1 => False.elim (absurd c_1 ((b2i_ne0 _).mpr hv)))
  refine lv_iload_n hx hb dX3_lay_18 rfl (lv_at hl 2 rfl) ?_
  refine lv_iload_n hx hb dX3_lay_19 rfl (lv_at hl 3 rfl) ?_
  refine rdS (As := [.int (nI k), .int (nI q9)]) (rest := []) ⟨hx, hb, hml, hown, hts⟩ hK 2 (m_isEvent l D cs H (nI k) (nI q9)) (gin_s mw_9_23 mw_10_0 mw_1_5 mw_10_1) (by decide +kernel) ⟨Nat.le_of_ble_eq_true rfl, Nat.le_of_ble_eq_true rfl⟩ rfl hl.1 rfl (Nat.le_of_ble_eq_true rfl) dX3_lay_20 ⟨(Nat.le_of_ble_eq_true rfl), (Nat.le_of_ble_eq_true rfl)⟩ ?_
  refine W.eq (g2 := F0 m 23 ls [.int (b2i (inM (nI k) 0 9 && inM (nI q9) 0 36))]) rfl ?_
  refine lv_if_eq (tgt := 59) hx hb dX3_lay_23 (by decide) (fun c_2 => False.elim (absurd c_2 ((b2i_ne0 _).mpr hv2))) (fun c_2 => ?_)
  refine lv_iload hx hb dX3_lay_26 (lv_at hl 4 rfl) ?_
  refine lv_iconst (v := 1) hx hb dX3_lay_28 (by first | decide | rfl) ?_
  refine lv_bipush (v := 100) hx hb dX3_lay_29 (by first | decide | rfl) ?_
  refine rdS (As := [.int am9, .int 1, .int 100]) (rest := []) ⟨hx, hb, hml, hown, hts⟩ hK 3 (m_isIn l D cs H am9 1 100) (gin_s mw_5_23 mw_6_0 mw_1_5 mw_6_1) (by decide +kernel) ⟨Nat.le_of_ble_eq_true rfl, Nat.le_of_ble_eq_true rfl⟩ rfl hl.1 rfl (Nat.le_of_ble_eq_true rfl) dX3_lay_31 ⟨(Nat.le_of_ble_eq_true rfl), (Nat.le_of_ble_eq_true rfl)⟩ ?_
  refine W.eq (g2 := F0 m 34 ls [.int (b2i (inM am9 1 100))]) rfl ?_
  refine lv_if_eq (tgt := 59) hx hb dX3_lay_34 (by decide) (fun c_3 => False.elim (absurd c_3 ((b2i_ne0 _).mpr h3))) (fun c_3 => ?_)
  refine lv_iload hx hb dX3_lay_37 (lv_at hl 5 rfl) ?_
  refine lv_iconst (v := 1) hx hb dX3_lay_39 (by first | decide | rfl) ?_
  refine lv_bipush (v := 20) hx hb dX3_lay_40 (by first | decide | rfl) ?_
  refine rdS (As := [.int wn, .int 1, .int 20]) (rest := []) ⟨hx, hb, hml, hown, hts⟩ hK 3 (m_isIn l D cs H wn 1 20) (gin_s mw_5_23 mw_6_0 mw_1_5 mw_6_1) (by decide +kernel) ⟨Nat.le_of_ble_eq_true rfl, Nat.le_of_ble_eq_true rfl⟩ rfl hl.1 rfl (Nat.le_of_ble_eq_true rfl) dX3_lay_42 ⟨(Nat.le_of_ble_eq_true rfl), (Nat.le_of_ble_eq_true rfl)⟩ ?_
  refine W.eq (g2 := F0 m 45 ls [.int (b2i (inM wn 1 20))]) rfl ?_
  refine lv_if_eq (tgt := 59) hx hb dX3_lay_45 (by decide) (fun c_4 => False.elim (absurd c_4 ((b2i_ne0 _).mpr h4))) (fun c_4 => ?_)
  refine lv_iload hx hb dX3_lay_48 (lv_at hl 6 rfl) ?_
  refine lv_iconst (v := 1) hx hb dX3_lay_50 (by first | decide | rfl) ?_
  refine lv_bipush (v := 10) hx hb dX3_lay_51 (by first | decide | rfl) ?_
  refine rdS (As := [.int bs, .int 1, .int 10]) (rest := []) ⟨hx, hb, hml, hown, hts⟩ hK 3 (m_isIn l D cs H bs 1 10) (gin_s mw_5_23 mw_6_0 mw_1_5 mw_6_1) (by decide +kernel) ⟨Nat.le_of_ble_eq_true rfl, Nat.le_of_ble_eq_true rfl⟩ rfl hl.1 rfl (Nat.le_of_ble_eq_true rfl) dX3_lay_53 ⟨(Nat.le_of_ble_eq_true rfl), (Nat.le_of_ble_eq_true rfl)⟩ ?_
  refine W.eq (g2 := F0 m 56 ls [.int (b2i (inM bs 1 10))]) rfl ?_
  refine lv_if_ne (tgt := 65) hx hb dX3_lay_56 (by decide) (fun c_5 => ?_) (fun c_5 => False.elim (absurd c_5 ((b2i_ne0 _).mpr h5)))
  refine lv_aload_n hx hb dX3_lay_65 rfl (lv_at hl 0 rfl) ?_
  refine va_get (D := D) (ci := 4) (v := .int (nI n)) (C := RX3) (T := TX3) (N := 15) hx hb hts inlX3 hown hK hP 0 rfl rfl 7 (by decide) (hts (Cond.fieldLink RX3 51 "TavernDiceModel" "open" "I") mw_5_16) (fun _ h9 => h9) rfl dX3_lay_66 ?_
  refine lv_bipush (v := nI 12) hx hb dX3_lay_69 (by first | decide | rfl) ?_
  refine lv_icmp_eq (tgt := 85) hx hb dX3_lay_71 (by decide) (fun c_6 => False.elim (absurd ((nI_eq (by omega) (by omega)).mp c_6) (by omega))) (fun c_6 => ?_)
  refine lv_aload_n hx hb dX3_lay_74 rfl (lv_at hl 0 rfl) ?_
  refine va_get (D := D) (ci := 4) (v := .ref (am 2)) (C := RX3) (T := TX3) (N := 15) hx hb hts inlX3 hown hK hP 0 rfl rfl 4 (by decide) (hts (Cond.fieldLink RX3 20 "TavernDiceModel" "purse" "[I") mw_3_22) (fun _ h9 => h9) rfl dX3_lay_75 ?_
  refine lv_iload_n hx hb dX3_lay_78 rfl (lv_at hl 1 rfl) ?_
  refine va_iald hx hb hK hP 2 0 rfl rfl (vp_in_nI hp9 (by omega)) dX3_lay_79 ?_
  refine lv_rwi (y := pu p9) (congrArg pu (nI_clamp (by omega))) ?_
  refine lv_iload hx hb dX3_lay_80 (lv_at hl 4 rfl) ?_
  refine lv_icmp_ge (tgt := 91) hx hb dX3_lay_82 (by decide) (fun c_7 => ?_) (fun c_7 => False.elim (c_7 hen))
  refine lv_aload_n hx hb dX3_lay_91 rfl (lv_at hl 0 rfl) ?_
  refine va_get (D := D) (ci := 4) (v := .ref (am 2)) (C := RX3) (T := TX3) (N := 15) hx hb hts inlX3 hown hK hP 0 rfl rfl 4 (by decide) (hts (Cond.fieldLink RX3 20 "TavernDiceModel" "purse" "[I") mw_3_22) (fun _ h9 => h9) rfl dX3_lay_92 ?_
  refine lv_iload_n hx hb dX3_lay_95 rfl (lv_at hl 1 rfl) ?_
  refine lv_dup2_11 hx hb dX3_lay_96 rfl rfl ?_
  refine va_iald hx hb hK hP 2 0 rfl rfl (vp_in_nI hp9 (by omega)) dX3_lay_97 ?_
  refine lv_rwi (y := pu p9) (congrArg pu (nI_clamp (by omega))) ?_
  refine lv_iload hx hb dX3_lay_98 (lv_at hl 4 rfl) ?_
  refine lv_isub hx hb dX3_lay_100 ?_
  refine va_iast hx hb hK hP hD hS 2 0 rfl rfl (vp_in_nI hp9 (by omega)) dX3_lay_101 (fun H locs hP hD hS => ?_)
  have g9 : upd pu (nI p9).toNatClampNeg ((pu p9) - am9) = upd pu p9 (pu p9 - am9) := by rw [nI_clamp (by omega)]
  have hP : va_P D vwCl (wM cs am 0 bank rnds dn N n fc (upd pu p9 (pu p9 - am9)) wh kn nm sk br ht sg) H := Eq.mp (congrArg (fun z9 => va_P D vwCl (wM cs am 0 bank rnds dn N n fc z9 wh kn nm sk br ht sg) H) g9) hP
  have hD : va_D _ (wM cs am 0 bank rnds dn N n fc (upd pu p9 (pu p9 - am9)) wh kn nm sk br ht sg) := Eq.mp (congrArg (fun z9 => va_D _ (wM cs am 0 bank rnds dn N n fc z9 wh kn nm sk br ht sg)) g9) hD
  refine lv_aload_n hx hb dX3_lay_102 rfl (lv_at hl 0 rfl) ?_
  refine va_get (D := D) (ci := 4) (v := .ref (am 3)) (C := RX3) (T := TX3) (N := 15) hx hb hts inlX3 hown hK hP 0 rfl rfl 8 (by decide) (hts (Cond.fieldLink RX3 26 "TavernDiceModel" "who" "[I") mw_4_0) (fun _ h9 => h9) rfl dX3_lay_103 ?_
  refine lv_aload_n hx hb dX3_lay_106 rfl (lv_at hl 0 rfl) ?_
  refine va_get (D := D) (ci := 4) (v := .int (nI n)) (C := RX3) (T := TX3) (N := 15) hx hb hts inlX3 hown hK hP 0 rfl rfl 7 (by decide) (hts (Cond.fieldLink RX3 51 "TavernDiceModel" "open" "I") mw_5_16) (fun _ h9 => h9) rfl dX3_lay_107 ?_
  refine lv_iload_n hx hb dX3_lay_110 rfl (lv_at hl 1 rfl) ?_
  refine va_iast hx hb hK hP hD hS 3 0 rfl rfl (vp_in_nI (by omega) (by omega)) dX3_lay_111 (fun H locs hP hD hS => ?_)
  have g9 : upd wh (nI n).toNatClampNeg (nI p9) = upd wh n (nI p9) := by rw [nI_clamp (by omega)]
  have hP : va_P D vwCl (wM cs am 0 bank rnds dn N n fc (upd pu p9 (pu p9 - am9)) (upd wh n (nI p9)) kn nm sk br ht sg) H := Eq.mp (congrArg (fun z9 => va_P D vwCl (wM cs am 0 bank rnds dn N n fc (upd pu p9 (pu p9 - am9)) z9 kn nm sk br ht sg) H) g9) hP
  have hD : va_D _ (wM cs am 0 bank rnds dn N n fc (upd pu p9 (pu p9 - am9)) (upd wh n (nI p9)) kn nm sk br ht sg) := Eq.mp (congrArg (fun z9 => va_D _ (wM cs am 0 bank rnds dn N n fc (upd pu p9 (pu p9 - am9)) z9 kn nm sk br ht sg)) g9) hD
  refine lv_aload_n hx hb dX3_lay_112 rfl (lv_at hl 0 rfl) ?_
  refine va_get (D := D) (ci := 4) (v := .ref (am 4)) (C := RX3) (T := TX3) (N := 15) hx hb hts inlX3 hown hK hP 0 rfl rfl 9 (by decide) (hts (Cond.fieldLink RX3 29 "TavernDiceModel" "kind" "[I") mw_4_1) (fun _ h9 => h9) rfl dX3_lay_113 ?_
  refine lv_aload_n hx hb dX3_lay_116 rfl (lv_at hl 0 rfl) ?_
  refine va_get (D := D) (ci := 4) (v := .int (nI n)) (C := RX3) (T := TX3) (N := 15) hx hb hts inlX3 hown hK hP 0 rfl rfl 7 (by decide) (hts (Cond.fieldLink RX3 51 "TavernDiceModel" "open" "I") mw_5_16) (fun _ h9 => h9) rfl dX3_lay_117 ?_
  refine lv_iload_n hx hb dX3_lay_120 rfl (lv_at hl 2 rfl) ?_
  refine va_iast hx hb hK hP hD hS 4 0 rfl rfl (vp_in_nI (by omega) (by omega)) dX3_lay_121 (fun H locs hP hD hS => ?_)
  have g9 : upd kn (nI n).toNatClampNeg (nI k) = upd kn n (nI k) := by rw [nI_clamp (by omega)]
  have hP : va_P D vwCl (wM cs am 0 bank rnds dn N n fc (upd pu p9 (pu p9 - am9)) (upd wh n (nI p9)) (upd kn n (nI k)) nm sk br ht sg) H := Eq.mp (congrArg (fun z9 => va_P D vwCl (wM cs am 0 bank rnds dn N n fc (upd pu p9 (pu p9 - am9)) (upd wh n (nI p9)) z9 nm sk br ht sg) H) g9) hP
  have hD : va_D _ (wM cs am 0 bank rnds dn N n fc (upd pu p9 (pu p9 - am9)) (upd wh n (nI p9)) (upd kn n (nI k)) nm sk br ht sg) := Eq.mp (congrArg (fun z9 => va_D _ (wM cs am 0 bank rnds dn N n fc (upd pu p9 (pu p9 - am9)) (upd wh n (nI p9)) z9 nm sk br ht sg)) g9) hD
  refine lv_aload_n hx hb dX3_lay_122 rfl (lv_at hl 0 rfl) ?_
  refine va_get (D := D) (ci := 4) (v := .ref (am 5)) (C := RX3) (T := TX3) (N := 15) hx hb hts inlX3 hown hK hP 0 rfl rfl 10 (by decide) (hts (Cond.fieldLink RX3 32 "TavernDiceModel" "number" "[I") mw_4_2) (fun _ h9 => h9) rfl dX3_lay_123 ?_
  refine lv_aload_n hx hb dX3_lay_126 rfl (lv_at hl 0 rfl) ?_
  refine va_get (D := D) (ci := 4) (v := .int (nI n)) (C := RX3) (T := TX3) (N := 15) hx hb hts inlX3 hown hK hP 0 rfl rfl 7 (by decide) (hts (Cond.fieldLink RX3 51 "TavernDiceModel" "open" "I") mw_5_16) (fun _ h9 => h9) rfl dX3_lay_127 ?_
  refine lv_iload_n hx hb dX3_lay_130 rfl (lv_at hl 3 rfl) ?_
  refine va_iast hx hb hK hP hD hS 5 0 rfl rfl (vp_in_nI (by omega) (by omega)) dX3_lay_131 (fun H locs hP hD hS => ?_)
  have g9 : upd nm (nI n).toNatClampNeg (nI q9) = upd nm n (nI q9) := by rw [nI_clamp (by omega)]
  have hP : va_P D vwCl (wM cs am 0 bank rnds dn N n fc (upd pu p9 (pu p9 - am9)) (upd wh n (nI p9)) (upd kn n (nI k)) (upd nm n (nI q9)) sk br ht sg) H := Eq.mp (congrArg (fun z9 => va_P D vwCl (wM cs am 0 bank rnds dn N n fc (upd pu p9 (pu p9 - am9)) (upd wh n (nI p9)) (upd kn n (nI k)) z9 sk br ht sg) H) g9) hP
  have hD : va_D _ (wM cs am 0 bank rnds dn N n fc (upd pu p9 (pu p9 - am9)) (upd wh n (nI p9)) (upd kn n (nI k)) (upd nm n (nI q9)) sk br ht sg) := Eq.mp (congrArg (fun z9 => va_D _ (wM cs am 0 bank rnds dn N n fc (upd pu p9 (pu p9 - am9)) (upd wh n (nI p9)) (upd kn n (nI k)) z9 sk br ht sg)) g9) hD
  refine lv_aload_n hx hb dX3_lay_132 rfl (lv_at hl 0 rfl) ?_
  refine va_get (D := D) (ci := 4) (v := .ref (am 6)) (C := RX3) (T := TX3) (N := 15) hx hb hts inlX3 hown hK hP 0 rfl rfl 11 (by decide) (hts (Cond.fieldLink RX3 35 "TavernDiceModel" "stake" "[I") mw_4_3) (fun _ h9 => h9) rfl dX3_lay_133 ?_
  refine lv_aload_n hx hb dX3_lay_136 rfl (lv_at hl 0 rfl) ?_
  refine va_get (D := D) (ci := 4) (v := .int (nI n)) (C := RX3) (T := TX3) (N := 15) hx hb hts inlX3 hown hK hP 0 rfl rfl 7 (by decide) (hts (Cond.fieldLink RX3 51 "TavernDiceModel" "open" "I") mw_5_16) (fun _ h9 => h9) rfl dX3_lay_137 ?_
  refine lv_iload hx hb dX3_lay_140 (lv_at hl 4 rfl) ?_
  refine va_iast hx hb hK hP hD hS 6 0 rfl rfl (vp_in_nI (by omega) (by omega)) dX3_lay_142 (fun H locs hP hD hS => ?_)
  have g9 : upd sk (nI n).toNatClampNeg am9 = upd sk n (am9) := by rw [nI_clamp (by omega)]
  have hP : va_P D vwCl (wM cs am 0 bank rnds dn N n fc (upd pu p9 (pu p9 - am9)) (upd wh n (nI p9)) (upd kn n (nI k)) (upd nm n (nI q9)) (upd sk n (am9)) br ht sg) H := Eq.mp (congrArg (fun z9 => va_P D vwCl (wM cs am 0 bank rnds dn N n fc (upd pu p9 (pu p9 - am9)) (upd wh n (nI p9)) (upd kn n (nI k)) (upd nm n (nI q9)) z9 br ht sg) H) g9) hP
  have hD : va_D _ (wM cs am 0 bank rnds dn N n fc (upd pu p9 (pu p9 - am9)) (upd wh n (nI p9)) (upd kn n (nI k)) (upd nm n (nI q9)) (upd sk n (am9)) br ht sg) := Eq.mp (congrArg (fun z9 => va_D _ (wM cs am 0 bank rnds dn N n fc (upd pu p9 (pu p9 - am9)) (upd wh n (nI p9)) (upd kn n (nI k)) (upd nm n (nI q9)) z9 br ht sg)) g9) hD
  refine lv_aload_n hx hb dX3_lay_143 rfl (lv_at hl 0 rfl) ?_
  refine va_get (D := D) (ci := 4) (v := .ref (am 7)) (C := RX3) (T := TX3) (N := 15) hx hb hts inlX3 hown hK hP 0 rfl rfl 12 (by decide) (hts (Cond.fieldLink RX3 38 "TavernDiceModel" "brings" "[I") mw_4_4) (fun _ h9 => h9) rfl dX3_lay_144 ?_
  refine lv_aload_n hx hb dX3_lay_147 rfl (lv_at hl 0 rfl) ?_
  refine va_get (D := D) (ci := 4) (v := .int (nI n)) (C := RX3) (T := TX3) (N := 15) hx hb hts inlX3 hown hK hP 0 rfl rfl 7 (by decide) (hts (Cond.fieldLink RX3 51 "TavernDiceModel" "open" "I") mw_5_16) (fun _ h9 => h9) rfl dX3_lay_148 ?_
  refine lv_iload hx hb dX3_lay_151 (lv_at hl 4 rfl) ?_
  refine lv_iload hx hb dX3_lay_153 (lv_at hl 5 rfl) ?_
  refine lv_imul hx hb dX3_lay_155 ?_
  refine lv_iload hx hb dX3_lay_156 (lv_at hl 6 rfl) ?_
  refine lv_idiv hx hb dX3_lay_158 (hbs) ?_
  refine va_iast hx hb hK hP hD hS 7 0 rfl rfl (vp_in_nI (by omega) (by omega)) dX3_lay_159 (fun H locs hP hD hS => ?_)
  have g9 : upd br (nI n).toNatClampNeg ((am9 * wn) / bs) = upd br n (am9 * wn / bs) := by rw [nI_clamp (by omega)]
  have hP : va_P D vwCl (wM cs am 0 bank rnds dn N n fc (upd pu p9 (pu p9 - am9)) (upd wh n (nI p9)) (upd kn n (nI k)) (upd nm n (nI q9)) (upd sk n (am9)) (upd br n (am9 * wn / bs)) ht sg) H := Eq.mp (congrArg (fun z9 => va_P D vwCl (wM cs am 0 bank rnds dn N n fc (upd pu p9 (pu p9 - am9)) (upd wh n (nI p9)) (upd kn n (nI k)) (upd nm n (nI q9)) (upd sk n (am9)) z9 ht sg) H) g9) hP
  have hD : va_D _ (wM cs am 0 bank rnds dn N n fc (upd pu p9 (pu p9 - am9)) (upd wh n (nI p9)) (upd kn n (nI k)) (upd nm n (nI q9)) (upd sk n (am9)) (upd br n (am9 * wn / bs)) ht sg) := Eq.mp (congrArg (fun z9 => va_D _ (wM cs am 0 bank rnds dn N n fc (upd pu p9 (pu p9 - am9)) (upd wh n (nI p9)) (upd kn n (nI k)) (upd nm n (nI q9)) (upd sk n (am9)) z9 ht sg)) g9) hD
  refine lv_iconst (v := nI 0) hx hb dX3_lay_160 (by first | decide | rfl) ?_
  refine lv_istore (lv' := [(7, .int (nI 0)), (0, .ref (am 0)), (1, .int (nI p9)), (2, .int (nI k)), (3, .int (nI q9)), (4, .int am9), (5, .int wn), (6, .int bs)]) hx hb dX3_lay_161 hl (by decide) rfl (fun ls hl => ?_)
  have loop163 : ∀ (n9 : Nat) (o : Nat) (H : Heap) (locs : List Loc) (ls : Array Slot), o ≤ N → N + 1 ≤ o + n9 → va_P D vwCl (wM cs am 0 bank rnds dn N n fc (upd pu p9 (pu p9 - am9)) (upd wh n (nI p9)) (upd kn n (nI k)) (upd nm n (nI q9)) (upd sk n (am9)) (upd br n (am9 * wn / bs)) (hitM ht (fun o => comesM fn dn k (nI q9) o) n o) sg) H → va_D A (wM cs am 0 bank rnds dn N n fc (upd pu p9 (pu p9 - am9)) (upd wh n (nI p9)) (upd kn n (nI k)) (upd nm n (nI q9)) (upd sk n (am9)) (upd br n (am9 * wn / bs)) (hitM ht (fun o => comesM fn dn k (nI q9) o) n o) sg) → va_S A s.heap H locs → lv_has ls 8 [(0, .ref (am 0)), (2, .int (nI k)), (3, .int (nI q9)), (7, .int (nI o))] → W p l e (rmL 5 0 0) s m [.ref (am 0), .int (nI p9), .int (nI k), .int (nI q9), .int am9, .int wn, .int bs].toArray below meth c H locs 0 0 Q (F0 m 163 ls []) := by
    intro n9
    induction n9 with
    | zero => intro o  H locs ls ho hf hP hD hS hl; exact absurd hf (by omega)
    | succ n9 ih163 =>
      intro o  H locs ls ho hf hP hD hS hl
      refine lv_iload hx hb dX3_lay_163 (lv_at hl 3 rfl) ?_
      refine lv_aload_n hx hb dX3_lay_165 rfl (lv_at hl 0 rfl) ?_
      refine va_get (D := D) (ci := 4) (v := .int (nI N)) (C := RX3) (T := TX3) (N := 15) hx hb hts inlX3 hown hK hP 0 rfl rfl 3 (by decide) (hts (Cond.fieldLink RX3 17 "TavernDiceModel" "outcomes" "I") mw_3_21) (fun _ h9 => h9) rfl dX3_lay_166 ?_
      refine lv_icmp_ge (tgt := 202) hx hb dX3_lay_169 (by decide) (fun c_8 => ?_) (fun c_8 => ?_)
      · refine lv_aload_n hx hb dX3_lay_202 rfl (lv_at hl 0 rfl) ?_
        refine lv_dup hx hb dX3_lay_203 rfl ?_
        refine va_get (D := D) (ci := 4) (v := .int (nI n)) (C := RX3) (T := TX3) (N := 15) hx hb hts inlX3 hown hK hP 0 rfl rfl 7 (by decide) (hts (Cond.fieldLink RX3 51 "TavernDiceModel" "open" "I") mw_5_16) (fun _ h9 => h9) rfl dX3_lay_204 ?_
        refine lv_iconst (v := 1) hx hb dX3_lay_207 (by first | decide | rfl) ?_
        refine lv_iadd hx hb dX3_lay_208 ?_
        refine lv_rwi (y := nI (n + 1)) (nI_1 n) ?_
        refine va_put (D := D) (ci := 4) (v := .int (nI (n + 1))) (ty := .int) (C := RX3) (T := TX3) (N := 15) hx hb hts inlX3 tyX3 tyX3_ok nmX3 hown hK hP hD hS 0 rfl rfl 7 (by decide) (hts (Cond.fieldLink RX3 51 "TavernDiceModel" "open" "I") mw_5_16) (fun _ h9 => h9) rfl (by decide +kernel) rfl rfl (Nat.le_of_ble_eq_true rfl) dX3_lay_209 (fun H locs hP hD hS => ?_)
        have hP : va_P D vwCl (wM cs am 0 bank rnds dn N ((n + 1)) fc (upd pu p9 (pu p9 - am9)) (upd wh n (nI p9)) (upd kn n (nI k)) (upd nm n (nI q9)) (upd sk n (am9)) (upd br n (am9 * wn / bs)) (hitM ht (fun o => comesM fn dn k (nI q9) o) n o) sg) H := hP
        have hD : va_D _ (wM cs am 0 bank rnds dn N ((n + 1)) fc (upd pu p9 (pu p9 - am9)) (upd wh n (nI p9)) (upd kn n (nI k)) (upd nm n (nI q9)) (upd sk n (am9)) (upd br n (am9 * wn / bs)) (hitM ht (fun o => comesM fn dn k (nI q9) o) n o) sg) := hD
        refine lv_aload_n hx hb dX3_lay_212 rfl (lv_at hl 0 rfl) ?_
        refine va_get (D := D) (ci := 4) (v := .int (nI ((n + 1)))) (C := RX3) (T := TX3) (N := 15) hx hb hts inlX3 hown hK hP 0 rfl rfl 7 (by decide) (hts (Cond.fieldLink RX3 51 "TavernDiceModel" "open" "I") mw_5_16) (fun _ h9 => h9) rfl dX3_lay_213 ?_
        refine lv_iconst (v := nI 1) hx hb dX3_lay_216 (by first | decide | rfl) ?_
        refine lv_isub hx hb dX3_lay_217 ?_
        refine lv_rwi (y := nI n) (pk_sub (a := n + 1) (b := 1) (by omega)) ?_
        exact wr_iret hQ hx hb hr hlocks hP hD hS (by rw [show hitM ht (fun o => comesM fn dn k (nI q9) o) n o = hitM ht (fun o => comesM fn dn k (nI q9) o) n N from congrArg (hitM ht (fun o => comesM fn dn k (nI q9) o) n) (show o = N from (by have g := (nI_leI (by omega) (by omega)).mp c_8; omega))]; exact hpost) dX3_lay_218
      · have hlt : o < N := by
          rcases Nat.lt_or_ge o N with q | q
          · exact q
          · exact absurd (nI_le q (by omega)) c_8
        refine lv_aload_n hx hb dX3_lay_172 rfl (lv_at hl 0 rfl) ?_
        refine va_get (D := D) (ci := 4) (v := .ref (am 8)) (C := RX3) (T := TX3) (N := 15) hx hb hts inlX3 hown hK hP 0 rfl rfl 13 (by decide) (hts (Cond.fieldLink RX3 41 "TavernDiceModel" "isHit" "[Z") mw_4_6) (fun _ h9 => h9) rfl dX3_lay_173 ?_
        refine lv_sipush (v := nI 1728) hx hb dX3_lay_176 (by first | decide | rfl) ?_
        refine lv_aload_n hx hb dX3_lay_179 rfl (lv_at hl 0 rfl) ?_
        refine va_get (D := D) (ci := 4) (v := .int (nI n)) (C := RX3) (T := TX3) (N := 15) hx hb hts inlX3 hown hK hP 0 rfl rfl 7 (by decide) (hts (Cond.fieldLink RX3 51 "TavernDiceModel" "open" "I") mw_5_16) (fun _ h9 => h9) rfl dX3_lay_180 ?_
        refine lv_imul hx hb dX3_lay_183 ?_
        refine lv_rwi (y := nI (1728 * n)) (pk_mul _ _) ?_
        refine lv_iload hx hb dX3_lay_184 (lv_at hl 3 rfl) ?_
        refine lv_iadd hx hb dX3_lay_186 ?_
        refine lv_rwi (y := nI (1728 * n + o)) (nI_add _ _) ?_
        refine lv_aload_n hx hb dX3_lay_187 rfl (lv_at hl 0 rfl) ?_
        refine lv_iload_n hx hb dX3_lay_188 rfl (lv_at hl 1 rfl) ?_
        refine lv_iload_n hx hb dX3_lay_189 rfl (lv_at hl 2 rfl) ?_
        refine lv_iload hx hb dX3_lay_190 (lv_at hl 3 rfl) ?_
        refine rdV (As := [.int (nI k), .int (nI q9), .int (nI o)]) (rest := [.int (nI (1728 * n + o)), .ref (am 8)]) (b := am 0) ⟨hx, hb, hml, hown, hts⟩ hK 3 (m_comes l D cs H hP hF0 k hk (nI q9) o (by omega)) (gin_v mw_14_20 mw_14_21 mw_14_22 mw_1_5 mw_14_23) (by decide +kernel) ⟨Nat.le_of_ble_eq_true rfl, Nat.le_of_ble_eq_true rfl⟩ (va_recv hK hP (ci := 4) (q0 := 0) rfl rfl) rfl hl.1 rfl (Nat.le_of_ble_eq_true rfl) dX3_lay_192 ⟨(Nat.le_of_ble_eq_true rfl), (Nat.le_of_ble_eq_true rfl)⟩ ?_
        refine W.eq (g2 := F0 m 195 ls [.int (b2i (comesM fn dn k (nI q9) o)), .int (nI (1728 * n + o)), .ref (am 8)]) rfl ?_
        refine va_zast hx hb hK hP hD hS 8 1 rfl rfl (vp_in_nI (by omega) (by omega)) dX3_lay_195 (fun H locs hP hD hS => ?_)
        have g9 : upd (hitM ht (fun o => comesM fn dn k (nI q9) o) n o) (nI (1728 * n + o)).toNatClampNeg (vp_nar .boolean (b2i (comesM fn dn k (nI q9) o))) = hitM ht (fun o => comesM fn dn k (nI q9) o) n (o + 1) := by rw [nI_clamp (by omega), fit_b2i]; rfl
        have hP : va_P D vwCl (wM cs am 0 bank rnds dn N n fc (upd pu p9 (pu p9 - am9)) (upd wh n (nI p9)) (upd kn n (nI k)) (upd nm n (nI q9)) (upd sk n (am9)) (upd br n (am9 * wn / bs)) (hitM ht (fun o => comesM fn dn k (nI q9) o) n (o + 1)) sg) H := Eq.mp (congrArg (fun z9 => va_P D vwCl (wM cs am 0 bank rnds dn N n fc (upd pu p9 (pu p9 - am9)) (upd wh n (nI p9)) (upd kn n (nI k)) (upd nm n (nI q9)) (upd sk n (am9)) (upd br n (am9 * wn / bs)) z9 sg) H) g9) hP
        have hD : va_D _ (wM cs am 0 bank rnds dn N n fc (upd pu p9 (pu p9 - am9)) (upd wh n (nI p9)) (upd kn n (nI k)) (upd nm n (nI q9)) (upd sk n (am9)) (upd br n (am9 * wn / bs)) (hitM ht (fun o => comesM fn dn k (nI q9) o) n (o + 1)) sg) := Eq.mp (congrArg (fun z9 => va_D _ (wM cs am 0 bank rnds dn N n fc (upd pu p9 (pu p9 - am9)) (upd wh n (nI p9)) (upd kn n (nI k)) (upd nm n (nI q9)) (upd sk n (am9)) (upd br n (am9 * wn / bs)) z9 sg)) g9) hD
        refine lv_iinc (v := nI (o + 1)) (lv' := [(7, .int (nI (o + 1))), (0, .ref (am 0)), (2, .int (nI k)), (3, .int (nI q9))]) hx hb dX3_lay_196 hl (k := 3) rfl (nI_1 o) (by decide) rfl (fun ls hl => ?_)
        refine lv_goto (tgt := 163) hx hb dX3_lay_199 (by decide) ?_
        exact ih163 (o + 1) H _ ls (by omega) (by omega) hP hD hS (lv_sub hl [1, 2, 3, 0] rfl)
  exact loop163 (N + 1) 0 H _ ls (Nat.zero_le _) (by omega) hP hD hS (lv_sub hl [1, 3, 4, 0] rfl)
set_option maxHeartbeats 4000000 in
set_option maxRecDepth 100000 in
theorem mp_lay_no1 (l : Launch) (D : va_G) (cs : Nat → ClassId) (H : Heap) {am : Nat → Nat} {th bank rnds : Int32} {dn N n : Nat} {fc pu wh kn nm sk br ht sg : Nat → Int32} {fn : Nat → Nat} (hF : FM fn dn N n fc) (pp9 k q sk9 wn bs : Int32) (hv : inM pp9 0 5 = false) (post : Option Value → va_W → Prop) (hpost : post (some (.int (0))) (wM cs am 1 bank rnds dn N n fc pu wh kn nm sk br ht sg)) (hP : va_P D vwCl (wM cs am th bank rnds dn N n fc pu wh kn nm sk br ht sg) H) (hD : va_D (fun _ => True) (wM cs am th bank rnds dn N n fc pu wh kn nm sk br ht sg)) : Wr l D cs 3 0 0 yX3_lay cX3_lay 8 (some .int) (wM cs am th bank rnds dn N n fc pu wh kn nm sk br ht sg) H [.ref (am 0), .int pp9, .int k, .int q, .int sk9, .int wn, .int bs] post := by
  refine wr_ent (by decide) (Nat.le_of_ble_eq_true rfl) hP hD ?_
  clear hP hD H
  intro p e s m below meth c ls A Q H hx hb hr hml hown hts hlocks hin hl hK hQ hA hH hP hD hS
  clear hH
  have hl : lv_has ls 8 [(0, .ref (am 0)), (1, .int pp9), (2, .int k), (3, .int q), (4, .int sk9), (5, .int wn), (6, .int bs)] := hl
  have hF0 := hF
  obtain ⟨hF3, hd1, hd3, hNe, hN1, hN, hn⟩ := hF
  refine lv_aload_n hx hb dX3_lay_0 rfl (lv_at hl 0 rfl) ?_
  refine lv_iconst (v := 0) hx hb dX3_lay_1 (by first | decide | rfl) ?_
  refine va_put (D := D) (ci := 4) (v := .int 0) (ty := .int) (C := RX3) (T := TX3) (N := 15) hx hb hts inlX3 tyX3 tyX3_ok nmX3 hown hK hP hD hS 0 rfl rfl 0 (by decide) (hts (Cond.fieldLink RX3 48 "TavernDiceModel" "thrown" "I") mw_5_15) (fun _ h9 => h9) rfl (by decide +kernel) rfl rfl (Nat.le_of_ble_eq_true rfl) dX3_lay_2 (fun H locs hP hD hS => ?_)
  have hP : va_P D vwCl (wM cs am 0 bank rnds dn N n fc pu wh kn nm sk br ht sg) H := hP
  have hD : va_D _ (wM cs am 0 bank rnds dn N n fc pu wh kn nm sk br ht sg) := hD
  refine lv_iload_n hx hb dX3_lay_5 rfl (lv_at hl 1 rfl) ?_
  refine rdS (As := [.int pp9]) (rest := []) ⟨hx, hb, hml, hown, hts⟩ hK 1 (m_isPatron l D cs H pp9) (gin_s mw_14_17 mw_14_18 mw_1_5 mw_14_19) (by decide +kernel) ⟨Nat.le_of_ble_eq_true rfl, Nat.le_of_ble_eq_true rfl⟩ rfl hl.1 rfl (Nat.le_of_ble_eq_true rfl) dX3_lay_6 ⟨(Nat.le_of_ble_eq_true rfl), (Nat.le_of_ble_eq_true rfl)⟩ ?_
  refine W.eq (g2 := F0 m 9 ls [.int (b2i (inM pp9 0 5))]) rfl ?_
  refine lv_if_ne (tgt := 18) hx hb dX3_lay_9 (by decide) (fun c_1 => False.elim (c_1 ((b2i_eq0 _).mpr hv))) (fun c_1 => ?_)
  refine lv_aload_n hx hb dX3_lay_12 rfl (lv_at hl 0 rfl) ?_
  refine lv_iconst (v := 1) hx hb dX3_lay_13 (by first | decide | rfl) ?_
  refine wrV (As := [.int 1]) (rest := []) (b := am 0) ⟨hx, hb, hml, hown, hts⟩ hK 1 (m_no l D cs H 1 (fun ov w1 => ov = some (.int 0) ∧ w1 = wM cs am 1 bank rnds dn N n fc pu wh kn nm sk br ht sg) ⟨rfl, rfl⟩ hP (hD.weaken (fun _ _ _ _ => trivial))) (gin_v mw_6_2 mw_6_3 mw_6_4 mw_1_5 mw_6_5) (by decide +kernel) ⟨Nat.le_of_ble_eq_true rfl, Nat.le_of_ble_eq_true rfl⟩ (va_recv hK hP (ci := 4) (q0 := 0) rfl rfl) rfl hl.1 rfl (Nat.le_of_ble_eq_true rfl) dX3_lay_14 ⟨(Nat.le_of_ble_eq_true rfl), (Nat.le_of_ble_eq_true rfl)⟩ hD hS hA (fun ov9 w9 H locs hp9 hP hD hS => ?_)
  obtain ⟨rfl, rfl⟩ := hp9
  have hP : va_P D vwCl (wM cs am 1 bank rnds dn N n fc pu wh kn nm sk br ht sg) H := hP
  have hD : va_D _ (wM cs am 1 bank rnds dn N n fc pu wh kn nm sk br ht sg) := hD
  refine W.eq (g2 := F0 m 17 ls [.int 0]) rfl ?_
  exact wr_iret hQ hx hb hr hlocks hP hD hS (hpost) dX3_lay_17
set_option maxHeartbeats 4000000 in
set_option maxRecDepth 100000 in
theorem mp_lay_no2 (l : Launch) (D : va_G) (cs : Nat → ClassId) (H : Heap) {am : Nat → Nat} {th bank rnds : Int32} {dn N n : Nat} {fc pu wh kn nm sk br ht sg : Nat → Int32} {fn : Nat → Nat} (hF : FM fn dn N n fc) (pp9 k q sk9 wn bs : Int32) (hv : inM pp9 0 5 = true) (hw : ((inM k 0 9 && inM q 0 36) && inM sk9 1 100 && inM wn 1 20 && inM bs 1 10) = false) (post : Option Value → va_W → Prop) (hpost : post (some (.int (0))) (wM cs am 2 bank rnds dn N n fc pu wh kn nm sk br ht sg)) (hP : va_P D vwCl (wM cs am th bank rnds dn N n fc pu wh kn nm sk br ht sg) H) (hD : va_D (fun _ => True) (wM cs am th bank rnds dn N n fc pu wh kn nm sk br ht sg)) : Wr l D cs 3 0 0 yX3_lay cX3_lay 8 (some .int) (wM cs am th bank rnds dn N n fc pu wh kn nm sk br ht sg) H [.ref (am 0), .int pp9, .int k, .int q, .int sk9, .int wn, .int bs] post := by
  refine wr_ent (by decide) (Nat.le_of_ble_eq_true rfl) hP hD ?_
  clear hP hD H
  intro p e s m below meth c ls A Q H hx hb hr hml hown hts hlocks hin hl hK hQ hA hH hP hD hS
  clear hH
  have hl : lv_has ls 8 [(0, .ref (am 0)), (1, .int pp9), (2, .int k), (3, .int q), (4, .int sk9), (5, .int wn), (6, .int bs)] := hl
  have hF0 := hF
  obtain ⟨hF3, hd1, hd3, hNe, hN1, hN, hn⟩ := hF
  refine lv_aload_n hx hb dX3_lay_0 rfl (lv_at hl 0 rfl) ?_
  refine lv_iconst (v := 0) hx hb dX3_lay_1 (by first | decide | rfl) ?_
  refine va_put (D := D) (ci := 4) (v := .int 0) (ty := .int) (C := RX3) (T := TX3) (N := 15) hx hb hts inlX3 tyX3 tyX3_ok nmX3 hown hK hP hD hS 0 rfl rfl 0 (by decide) (hts (Cond.fieldLink RX3 48 "TavernDiceModel" "thrown" "I") mw_5_15) (fun _ h9 => h9) rfl (by decide +kernel) rfl rfl (Nat.le_of_ble_eq_true rfl) dX3_lay_2 (fun H locs hP hD hS => ?_)
  have hP : va_P D vwCl (wM cs am 0 bank rnds dn N n fc pu wh kn nm sk br ht sg) H := hP
  have hD : va_D _ (wM cs am 0 bank rnds dn N n fc pu wh kn nm sk br ht sg) := hD
  refine lv_iload_n hx hb dX3_lay_5 rfl (lv_at hl 1 rfl) ?_
  refine rdS (As := [.int pp9]) (rest := []) ⟨hx, hb, hml, hown, hts⟩ hK 1 (m_isPatron l D cs H pp9) (gin_s mw_14_17 mw_14_18 mw_1_5 mw_14_19) (by decide +kernel) ⟨Nat.le_of_ble_eq_true rfl, Nat.le_of_ble_eq_true rfl⟩ rfl hl.1 rfl (Nat.le_of_ble_eq_true rfl) dX3_lay_6 ⟨(Nat.le_of_ble_eq_true rfl), (Nat.le_of_ble_eq_true rfl)⟩ ?_
  refine W.eq (g2 := F0 m 9 ls [.int (b2i (inM pp9 0 5))]) rfl ?_
  refine lv_if_ne (tgt := 18) hx hb dX3_lay_9 (by decide) (fun c_1 => ?_) (fun c_1 => False.elim (absurd c_1 ((b2i_ne0 _).mpr hv)))
  refine lv_iload_n hx hb dX3_lay_18 rfl (lv_at hl 2 rfl) ?_
  refine lv_iload_n hx hb dX3_lay_19 rfl (lv_at hl 3 rfl) ?_
  refine rdS (As := [.int k, .int q]) (rest := []) ⟨hx, hb, hml, hown, hts⟩ hK 2 (m_isEvent l D cs H k q) (gin_s mw_9_23 mw_10_0 mw_1_5 mw_10_1) (by decide +kernel) ⟨Nat.le_of_ble_eq_true rfl, Nat.le_of_ble_eq_true rfl⟩ rfl hl.1 rfl (Nat.le_of_ble_eq_true rfl) dX3_lay_20 ⟨(Nat.le_of_ble_eq_true rfl), (Nat.le_of_ble_eq_true rfl)⟩ ?_
  refine W.eq (g2 := F0 m 23 ls [.int (b2i (inM k 0 9 && inM q 0 36))]) rfl ?_
  refine lv_if_eq (tgt := 59) hx hb dX3_lay_23 (by decide) (fun c_2 => ?_) (fun c_2 => ?_)
  · refine lv_aload_n hx hb dX3_lay_59 rfl (lv_at hl 0 rfl) ?_
    refine lv_iconst (v := 2) hx hb dX3_lay_60 (by first | decide | rfl) ?_
    refine wrV (As := [.int 2]) (rest := []) (b := am 0) ⟨hx, hb, hml, hown, hts⟩ hK 1 (m_no l D cs H 2 (fun ov w1 => ov = some (.int 0) ∧ w1 = wM cs am 2 bank rnds dn N n fc pu wh kn nm sk br ht sg) ⟨rfl, rfl⟩ hP (hD.weaken (fun _ _ _ _ => trivial))) (gin_v mw_6_2 mw_6_3 mw_6_4 mw_1_5 mw_6_5) (by decide +kernel) ⟨Nat.le_of_ble_eq_true rfl, Nat.le_of_ble_eq_true rfl⟩ (va_recv hK hP (ci := 4) (q0 := 0) rfl rfl) rfl hl.1 rfl (Nat.le_of_ble_eq_true rfl) dX3_lay_61 ⟨(Nat.le_of_ble_eq_true rfl), (Nat.le_of_ble_eq_true rfl)⟩ hD hS hA (fun ov9 w9 H locs hp9 hP hD hS => ?_)
    obtain ⟨rfl, rfl⟩ := hp9
    have hP : va_P D vwCl (wM cs am 2 bank rnds dn N n fc pu wh kn nm sk br ht sg) H := hP
    have hD : va_D _ (wM cs am 2 bank rnds dn N n fc pu wh kn nm sk br ht sg) := hD
    refine W.eq (g2 := F0 m 64 ls [.int 0]) rfl ?_
    exact wr_iret hQ hx hb hr hlocks hP hD hS (hpost) dX3_lay_64
  · refine lv_iload hx hb dX3_lay_26 (lv_at hl 4 rfl) ?_
    refine lv_iconst (v := 1) hx hb dX3_lay_28 (by first | decide | rfl) ?_
    refine lv_bipush (v := 100) hx hb dX3_lay_29 (by first | decide | rfl) ?_
    refine rdS (As := [.int sk9, .int 1, .int 100]) (rest := []) ⟨hx, hb, hml, hown, hts⟩ hK 3 (m_isIn l D cs H sk9 1 100) (gin_s mw_5_23 mw_6_0 mw_1_5 mw_6_1) (by decide +kernel) ⟨Nat.le_of_ble_eq_true rfl, Nat.le_of_ble_eq_true rfl⟩ rfl hl.1 rfl (Nat.le_of_ble_eq_true rfl) dX3_lay_31 ⟨(Nat.le_of_ble_eq_true rfl), (Nat.le_of_ble_eq_true rfl)⟩ ?_
    refine W.eq (g2 := F0 m 34 ls [.int (b2i (inM sk9 1 100))]) rfl ?_
    refine lv_if_eq (tgt := 59) hx hb dX3_lay_34 (by decide) (fun c_3 => ?_) (fun c_3 => ?_)
    · refine lv_aload_n hx hb dX3_lay_59 rfl (lv_at hl 0 rfl) ?_
      refine lv_iconst (v := 2) hx hb dX3_lay_60 (by first | decide | rfl) ?_
      refine wrV (As := [.int 2]) (rest := []) (b := am 0) ⟨hx, hb, hml, hown, hts⟩ hK 1 (m_no l D cs H 2 (fun ov w1 => ov = some (.int 0) ∧ w1 = wM cs am 2 bank rnds dn N n fc pu wh kn nm sk br ht sg) ⟨rfl, rfl⟩ hP (hD.weaken (fun _ _ _ _ => trivial))) (gin_v mw_6_2 mw_6_3 mw_6_4 mw_1_5 mw_6_5) (by decide +kernel) ⟨Nat.le_of_ble_eq_true rfl, Nat.le_of_ble_eq_true rfl⟩ (va_recv hK hP (ci := 4) (q0 := 0) rfl rfl) rfl hl.1 rfl (Nat.le_of_ble_eq_true rfl) dX3_lay_61 ⟨(Nat.le_of_ble_eq_true rfl), (Nat.le_of_ble_eq_true rfl)⟩ hD hS hA (fun ov9 w9 H locs hp9 hP hD hS => ?_)
      obtain ⟨rfl, rfl⟩ := hp9
      have hP : va_P D vwCl (wM cs am 2 bank rnds dn N n fc pu wh kn nm sk br ht sg) H := hP
      have hD : va_D _ (wM cs am 2 bank rnds dn N n fc pu wh kn nm sk br ht sg) := hD
      refine W.eq (g2 := F0 m 64 ls [.int 0]) rfl ?_
      exact wr_iret hQ hx hb hr hlocks hP hD hS (hpost) dX3_lay_64
    · refine lv_iload hx hb dX3_lay_37 (lv_at hl 5 rfl) ?_
      refine lv_iconst (v := 1) hx hb dX3_lay_39 (by first | decide | rfl) ?_
      refine lv_bipush (v := 20) hx hb dX3_lay_40 (by first | decide | rfl) ?_
      refine rdS (As := [.int wn, .int 1, .int 20]) (rest := []) ⟨hx, hb, hml, hown, hts⟩ hK 3 (m_isIn l D cs H wn 1 20) (gin_s mw_5_23 mw_6_0 mw_1_5 mw_6_1) (by decide +kernel) ⟨Nat.le_of_ble_eq_true rfl, Nat.le_of_ble_eq_true rfl⟩ rfl hl.1 rfl (Nat.le_of_ble_eq_true rfl) dX3_lay_42 ⟨(Nat.le_of_ble_eq_true rfl), (Nat.le_of_ble_eq_true rfl)⟩ ?_
      refine W.eq (g2 := F0 m 45 ls [.int (b2i (inM wn 1 20))]) rfl ?_
      refine lv_if_eq (tgt := 59) hx hb dX3_lay_45 (by decide) (fun c_4 => ?_) (fun c_4 => ?_)
      · refine lv_aload_n hx hb dX3_lay_59 rfl (lv_at hl 0 rfl) ?_
        refine lv_iconst (v := 2) hx hb dX3_lay_60 (by first | decide | rfl) ?_
        refine wrV (As := [.int 2]) (rest := []) (b := am 0) ⟨hx, hb, hml, hown, hts⟩ hK 1 (m_no l D cs H 2 (fun ov w1 => ov = some (.int 0) ∧ w1 = wM cs am 2 bank rnds dn N n fc pu wh kn nm sk br ht sg) ⟨rfl, rfl⟩ hP (hD.weaken (fun _ _ _ _ => trivial))) (gin_v mw_6_2 mw_6_3 mw_6_4 mw_1_5 mw_6_5) (by decide +kernel) ⟨Nat.le_of_ble_eq_true rfl, Nat.le_of_ble_eq_true rfl⟩ (va_recv hK hP (ci := 4) (q0 := 0) rfl rfl) rfl hl.1 rfl (Nat.le_of_ble_eq_true rfl) dX3_lay_61 ⟨(Nat.le_of_ble_eq_true rfl), (Nat.le_of_ble_eq_true rfl)⟩ hD hS hA (fun ov9 w9 H locs hp9 hP hD hS => ?_)
        obtain ⟨rfl, rfl⟩ := hp9
        have hP : va_P D vwCl (wM cs am 2 bank rnds dn N n fc pu wh kn nm sk br ht sg) H := hP
        have hD : va_D _ (wM cs am 2 bank rnds dn N n fc pu wh kn nm sk br ht sg) := hD
        refine W.eq (g2 := F0 m 64 ls [.int 0]) rfl ?_
        exact wr_iret hQ hx hb hr hlocks hP hD hS (hpost) dX3_lay_64
      · refine lv_iload hx hb dX3_lay_48 (lv_at hl 6 rfl) ?_
        refine lv_iconst (v := 1) hx hb dX3_lay_50 (by first | decide | rfl) ?_
        refine lv_bipush (v := 10) hx hb dX3_lay_51 (by first | decide | rfl) ?_
        refine rdS (As := [.int bs, .int 1, .int 10]) (rest := []) ⟨hx, hb, hml, hown, hts⟩ hK 3 (m_isIn l D cs H bs 1 10) (gin_s mw_5_23 mw_6_0 mw_1_5 mw_6_1) (by decide +kernel) ⟨Nat.le_of_ble_eq_true rfl, Nat.le_of_ble_eq_true rfl⟩ rfl hl.1 rfl (Nat.le_of_ble_eq_true rfl) dX3_lay_53 ⟨(Nat.le_of_ble_eq_true rfl), (Nat.le_of_ble_eq_true rfl)⟩ ?_
        refine W.eq (g2 := F0 m 56 ls [.int (b2i (inM bs 1 10))]) rfl ?_
        refine lv_if_ne (tgt := 65) hx hb dX3_lay_56 (by decide) (fun c_5 => False.elim (absurd hw (by rw [(b2i_ne0 _).mp c_2, (b2i_ne0 _).mp c_3, (b2i_ne0 _).mp c_4, (b2i_ne0 _).mp c_5]; decide))) (fun c_5 => ?_)
        refine lv_aload_n hx hb dX3_lay_59 rfl (lv_at hl 0 rfl) ?_
        refine lv_iconst (v := 2) hx hb dX3_lay_60 (by first | decide | rfl) ?_
        refine wrV (As := [.int 2]) (rest := []) (b := am 0) ⟨hx, hb, hml, hown, hts⟩ hK 1 (m_no l D cs H 2 (fun ov w1 => ov = some (.int 0) ∧ w1 = wM cs am 2 bank rnds dn N n fc pu wh kn nm sk br ht sg) ⟨rfl, rfl⟩ hP (hD.weaken (fun _ _ _ _ => trivial))) (gin_v mw_6_2 mw_6_3 mw_6_4 mw_1_5 mw_6_5) (by decide +kernel) ⟨Nat.le_of_ble_eq_true rfl, Nat.le_of_ble_eq_true rfl⟩ (va_recv hK hP (ci := 4) (q0 := 0) rfl rfl) rfl hl.1 rfl (Nat.le_of_ble_eq_true rfl) dX3_lay_61 ⟨(Nat.le_of_ble_eq_true rfl), (Nat.le_of_ble_eq_true rfl)⟩ hD hS hA (fun ov9 w9 H locs hp9 hP hD hS => ?_)
        obtain ⟨rfl, rfl⟩ := hp9
        have hP : va_P D vwCl (wM cs am 2 bank rnds dn N n fc pu wh kn nm sk br ht sg) H := hP
        have hD : va_D _ (wM cs am 2 bank rnds dn N n fc pu wh kn nm sk br ht sg) := hD
        refine W.eq (g2 := F0 m 64 ls [.int 0]) rfl ?_
        exact wr_iret hQ hx hb hr hlocks hP hD hS (hpost) dX3_lay_64
set_option maxHeartbeats 4000000 in
set_option maxRecDepth 100000 in
theorem mp_lay_no3 (l : Launch) (D : va_G) (cs : Nat → ClassId) (H : Heap) {am : Nat → Nat} {th bank rnds : Int32} {dn N n : Nat} {fc pu wh kn nm sk br ht sg : Nat → Int32} {fn : Nat → Nat} (hF : FM fn dn N n fc) (p9 k q9 : Nat) (am9 wn bs : Int32) (hp9 : p9 < 6) (hk : k < 10) (hq : q9 ≤ 36) (hv : inM (nI p9) 0 5 = true) (hv2 : (inM (nI k) 0 9 && inM (nI q9) 0 36) = true) (h3 : inM am9 1 100 = true) (h4 : inM wn 1 20 = true) (h5 : inM bs 1 10 = true) (hbs : ¬ bs = 0) (h9 : n = 12 ∨ ¬ am9 ≤ pu p9) (post : Option Value → va_W → Prop) (hpost : post (some (.int (0))) (wM cs am 3 bank rnds dn N n fc pu wh kn nm sk br ht sg)) (hP : va_P D vwCl (wM cs am th bank rnds dn N n fc pu wh kn nm sk br ht sg) H) (hD : va_D (fun _ => True) (wM cs am th bank rnds dn N n fc pu wh kn nm sk br ht sg)) : Wr l D cs 3 0 0 yX3_lay cX3_lay 8 (some .int) (wM cs am th bank rnds dn N n fc pu wh kn nm sk br ht sg) H [.ref (am 0), .int (nI p9), .int (nI k), .int (nI q9), .int am9, .int wn, .int bs] post := by
  refine wr_ent (by decide) (Nat.le_of_ble_eq_true rfl) hP hD ?_
  clear hP hD H
  intro p e s m below meth c ls A Q H hx hb hr hml hown hts hlocks hin hl hK hQ hA hH hP hD hS
  clear hH
  have hl : lv_has ls 8 [(0, .ref (am 0)), (1, .int (nI p9)), (2, .int (nI k)), (3, .int (nI q9)), (4, .int am9), (5, .int wn), (6, .int bs)] := hl
  have hF0 := hF
  obtain ⟨hF3, hd1, hd3, hNe, hN1, hN, hn⟩ := hF
  refine lv_aload_n hx hb dX3_lay_0 rfl (lv_at hl 0 rfl) ?_
  refine lv_iconst (v := 0) hx hb dX3_lay_1 (by first | decide | rfl) ?_
  refine va_put (D := D) (ci := 4) (v := .int 0) (ty := .int) (C := RX3) (T := TX3) (N := 15) hx hb hts inlX3 tyX3 tyX3_ok nmX3 hown hK hP hD hS 0 rfl rfl 0 (by decide) (hts (Cond.fieldLink RX3 48 "TavernDiceModel" "thrown" "I") mw_5_15) (fun _ h9 => h9) rfl (by decide +kernel) rfl rfl (Nat.le_of_ble_eq_true rfl) dX3_lay_2 (fun H locs hP hD hS => ?_)
  have hP : va_P D vwCl (wM cs am 0 bank rnds dn N n fc pu wh kn nm sk br ht sg) H := hP
  have hD : va_D _ (wM cs am 0 bank rnds dn N n fc pu wh kn nm sk br ht sg) := hD
  refine lv_iload_n hx hb dX3_lay_5 rfl (lv_at hl 1 rfl) ?_
  refine rdS (As := [.int (nI p9)]) (rest := []) ⟨hx, hb, hml, hown, hts⟩ hK 1 (m_isPatron l D cs H (nI p9)) (gin_s mw_14_17 mw_14_18 mw_1_5 mw_14_19) (by decide +kernel) ⟨Nat.le_of_ble_eq_true rfl, Nat.le_of_ble_eq_true rfl⟩ rfl hl.1 rfl (Nat.le_of_ble_eq_true rfl) dX3_lay_6 ⟨(Nat.le_of_ble_eq_true rfl), (Nat.le_of_ble_eq_true rfl)⟩ ?_
  refine W.eq (g2 := F0 m 9 ls [.int (b2i (inM (nI p9) 0 5))]) rfl ?_
  refine lv_if_ne (tgt := 18) hx hb dX3_lay_9 (by decide) (fun c_1 => ?_) (fun c_1 => False.elim (absurd c_1 ((b2i_ne0 _).mpr hv)))
  refine lv_iload_n hx hb dX3_lay_18 rfl (lv_at hl 2 rfl) ?_
  refine lv_iload_n hx hb dX3_lay_19 rfl (lv_at hl 3 rfl) ?_
  refine rdS (As := [.int (nI k), .int (nI q9)]) (rest := []) ⟨hx, hb, hml, hown, hts⟩ hK 2 (m_isEvent l D cs H (nI k) (nI q9)) (gin_s mw_9_23 mw_10_0 mw_1_5 mw_10_1) (by decide +kernel) ⟨Nat.le_of_ble_eq_true rfl, Nat.le_of_ble_eq_true rfl⟩ rfl hl.1 rfl (Nat.le_of_ble_eq_true rfl) dX3_lay_20 ⟨(Nat.le_of_ble_eq_true rfl), (Nat.le_of_ble_eq_true rfl)⟩ ?_
  refine W.eq (g2 := F0 m 23 ls [.int (b2i (inM (nI k) 0 9 && inM (nI q9) 0 36))]) rfl ?_
  refine lv_if_eq (tgt := 59) hx hb dX3_lay_23 (by decide) (fun c_2 => False.elim (absurd c_2 ((b2i_ne0 _).mpr hv2))) (fun c_2 => ?_)
  refine lv_iload hx hb dX3_lay_26 (lv_at hl 4 rfl) ?_
  refine lv_iconst (v := 1) hx hb dX3_lay_28 (by first | decide | rfl) ?_
  refine lv_bipush (v := 100) hx hb dX3_lay_29 (by first | decide | rfl) ?_
  refine rdS (As := [.int am9, .int 1, .int 100]) (rest := []) ⟨hx, hb, hml, hown, hts⟩ hK 3 (m_isIn l D cs H am9 1 100) (gin_s mw_5_23 mw_6_0 mw_1_5 mw_6_1) (by decide +kernel) ⟨Nat.le_of_ble_eq_true rfl, Nat.le_of_ble_eq_true rfl⟩ rfl hl.1 rfl (Nat.le_of_ble_eq_true rfl) dX3_lay_31 ⟨(Nat.le_of_ble_eq_true rfl), (Nat.le_of_ble_eq_true rfl)⟩ ?_
  refine W.eq (g2 := F0 m 34 ls [.int (b2i (inM am9 1 100))]) rfl ?_
  refine lv_if_eq (tgt := 59) hx hb dX3_lay_34 (by decide) (fun c_3 => False.elim (absurd c_3 ((b2i_ne0 _).mpr h3))) (fun c_3 => ?_)
  refine lv_iload hx hb dX3_lay_37 (lv_at hl 5 rfl) ?_
  refine lv_iconst (v := 1) hx hb dX3_lay_39 (by first | decide | rfl) ?_
  refine lv_bipush (v := 20) hx hb dX3_lay_40 (by first | decide | rfl) ?_
  refine rdS (As := [.int wn, .int 1, .int 20]) (rest := []) ⟨hx, hb, hml, hown, hts⟩ hK 3 (m_isIn l D cs H wn 1 20) (gin_s mw_5_23 mw_6_0 mw_1_5 mw_6_1) (by decide +kernel) ⟨Nat.le_of_ble_eq_true rfl, Nat.le_of_ble_eq_true rfl⟩ rfl hl.1 rfl (Nat.le_of_ble_eq_true rfl) dX3_lay_42 ⟨(Nat.le_of_ble_eq_true rfl), (Nat.le_of_ble_eq_true rfl)⟩ ?_
  refine W.eq (g2 := F0 m 45 ls [.int (b2i (inM wn 1 20))]) rfl ?_
  refine lv_if_eq (tgt := 59) hx hb dX3_lay_45 (by decide) (fun c_4 => False.elim (absurd c_4 ((b2i_ne0 _).mpr h4))) (fun c_4 => ?_)
  refine lv_iload hx hb dX3_lay_48 (lv_at hl 6 rfl) ?_
  refine lv_iconst (v := 1) hx hb dX3_lay_50 (by first | decide | rfl) ?_
  refine lv_bipush (v := 10) hx hb dX3_lay_51 (by first | decide | rfl) ?_
  refine rdS (As := [.int bs, .int 1, .int 10]) (rest := []) ⟨hx, hb, hml, hown, hts⟩ hK 3 (m_isIn l D cs H bs 1 10) (gin_s mw_5_23 mw_6_0 mw_1_5 mw_6_1) (by decide +kernel) ⟨Nat.le_of_ble_eq_true rfl, Nat.le_of_ble_eq_true rfl⟩ rfl hl.1 rfl (Nat.le_of_ble_eq_true rfl) dX3_lay_53 ⟨(Nat.le_of_ble_eq_true rfl), (Nat.le_of_ble_eq_true rfl)⟩ ?_
  refine W.eq (g2 := F0 m 56 ls [.int (b2i (inM bs 1 10))]) rfl ?_
  refine lv_if_ne (tgt := 65) hx hb dX3_lay_56 (by decide) (fun c_5 => ?_) (fun c_5 => False.elim (absurd c_5 ((b2i_ne0 _).mpr h5)))
  refine lv_aload_n hx hb dX3_lay_65 rfl (lv_at hl 0 rfl) ?_
  refine va_get (D := D) (ci := 4) (v := .int (nI n)) (C := RX3) (T := TX3) (N := 15) hx hb hts inlX3 hown hK hP 0 rfl rfl 7 (by decide) (hts (Cond.fieldLink RX3 51 "TavernDiceModel" "open" "I") mw_5_16) (fun _ h9 => h9) rfl dX3_lay_66 ?_
  refine lv_bipush (v := nI 12) hx hb dX3_lay_69 (by first | decide | rfl) ?_
  refine lv_icmp_eq (tgt := 85) hx hb dX3_lay_71 (by decide) (fun c_6 => ?_) (fun c_6 => ?_)
  · refine lv_aload_n hx hb dX3_lay_85 rfl (lv_at hl 0 rfl) ?_
    refine lv_iconst (v := 3) hx hb dX3_lay_86 (by first | decide | rfl) ?_
    refine wrV (As := [.int 3]) (rest := []) (b := am 0) ⟨hx, hb, hml, hown, hts⟩ hK 1 (m_no l D cs H 3 (fun ov w1 => ov = some (.int 0) ∧ w1 = wM cs am 3 bank rnds dn N n fc pu wh kn nm sk br ht sg) ⟨rfl, rfl⟩ hP (hD.weaken (fun _ _ _ _ => trivial))) (gin_v mw_6_2 mw_6_3 mw_6_4 mw_1_5 mw_6_5) (by decide +kernel) ⟨Nat.le_of_ble_eq_true rfl, Nat.le_of_ble_eq_true rfl⟩ (va_recv hK hP (ci := 4) (q0 := 0) rfl rfl) rfl hl.1 rfl (Nat.le_of_ble_eq_true rfl) dX3_lay_87 ⟨(Nat.le_of_ble_eq_true rfl), (Nat.le_of_ble_eq_true rfl)⟩ hD hS hA (fun ov9 w9 H locs hp9 hP hD hS => ?_)
    obtain ⟨rfl, rfl⟩ := hp9
    have hP : va_P D vwCl (wM cs am 3 bank rnds dn N n fc pu wh kn nm sk br ht sg) H := hP
    have hD : va_D _ (wM cs am 3 bank rnds dn N n fc pu wh kn nm sk br ht sg) := hD
    refine W.eq (g2 := F0 m 90 ls [.int 0]) rfl ?_
    exact wr_iret hQ hx hb hr hlocks hP hD hS (hpost) dX3_lay_90
  · refine lv_aload_n hx hb dX3_lay_74 rfl (lv_at hl 0 rfl) ?_
    refine va_get (D := D) (ci := 4) (v := .ref (am 2)) (C := RX3) (T := TX3) (N := 15) hx hb hts inlX3 hown hK hP 0 rfl rfl 4 (by decide) (hts (Cond.fieldLink RX3 20 "TavernDiceModel" "purse" "[I") mw_3_22) (fun _ h9 => h9) rfl dX3_lay_75 ?_
    refine lv_iload_n hx hb dX3_lay_78 rfl (lv_at hl 1 rfl) ?_
    refine va_iald hx hb hK hP 2 0 rfl rfl (vp_in_nI hp9 (by omega)) dX3_lay_79 ?_
    refine lv_rwi (y := pu p9) (congrArg pu (nI_clamp (by omega))) ?_
    refine lv_iload hx hb dX3_lay_80 (lv_at hl 4 rfl) ?_
    refine lv_icmp_ge (tgt := 91) hx hb dX3_lay_82 (by decide) (fun c_7 => False.elim (h9.elim (fun z => c_6 (by rw [z])) (fun z => z c_7))) (fun c_7 => ?_)
    refine lv_aload_n hx hb dX3_lay_85 rfl (lv_at hl 0 rfl) ?_
    refine lv_iconst (v := 3) hx hb dX3_lay_86 (by first | decide | rfl) ?_
    refine wrV (As := [.int 3]) (rest := []) (b := am 0) ⟨hx, hb, hml, hown, hts⟩ hK 1 (m_no l D cs H 3 (fun ov w1 => ov = some (.int 0) ∧ w1 = wM cs am 3 bank rnds dn N n fc pu wh kn nm sk br ht sg) ⟨rfl, rfl⟩ hP (hD.weaken (fun _ _ _ _ => trivial))) (gin_v mw_6_2 mw_6_3 mw_6_4 mw_1_5 mw_6_5) (by decide +kernel) ⟨Nat.le_of_ble_eq_true rfl, Nat.le_of_ble_eq_true rfl⟩ (va_recv hK hP (ci := 4) (q0 := 0) rfl rfl) rfl hl.1 rfl (Nat.le_of_ble_eq_true rfl) dX3_lay_87 ⟨(Nat.le_of_ble_eq_true rfl), (Nat.le_of_ble_eq_true rfl)⟩ hD hS hA (fun ov9 w9 H locs hp9 hP hD hS => ?_)
    obtain ⟨rfl, rfl⟩ := hp9
    have hP : va_P D vwCl (wM cs am 3 bank rnds dn N n fc pu wh kn nm sk br ht sg) H := hP
    have hD : va_D _ (wM cs am 3 bank rnds dn N n fc pu wh kn nm sk br ht sg) := hD
    refine W.eq (g2 := F0 m 90 ls [.int 0]) rfl ?_
    exact wr_iret hQ hx hb hr hlocks hP hD hS (hpost) dX3_lay_90
