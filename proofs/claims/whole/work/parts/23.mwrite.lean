/-! the reference: what writes, second part; rows by program -/
set_option maxHeartbeats 4000000 in
set_option maxRecDepth 100000 in
theorem m_many0 (l : Launch) (D : va_G) (cs : Nat → ClassId) (H : Heap) {am : Nat → Nat} {th bank rnds : Int32} {dn N n : Nat} {fc pu wh kn nm sk br ht sg : Nat → Int32} {fn : Nat → Nat} (hF : FM fn dn N n fc) (q : Int32) (post : Option Value → va_W → Prop) (hpost : ∀ sg9 : Nat → Int32, post (some (.int (many5 fn dn N 0 q))) (wM cs am th bank rnds dn N n fc pu wh kn nm sk br ht sg9)) (hP : va_P D vwCl (wM cs am th bank rnds dn N n fc pu wh kn nm sk br ht sg) H) (hD : va_D (fun _ => True) (wM cs am th bank rnds dn N n fc pu wh kn nm sk br ht sg)) : Wr l D cs 3 0 0 yX3_many cX3_many 5 (some .int) (wM cs am th bank rnds dn N n fc pu wh kn nm sk br ht sg) H [.ref (am 0), .int 0, .int q] post := by
  refine wr_ent (by decide) (Nat.le_of_ble_eq_true rfl) hP hD ?_
  clear hP hD H
  intro p e s m below meth c ls A Q H hx hb hr hml hown hts hlocks hin hl hK hQ hA hH hP hD hS
  clear hH
  have hl : lv_has ls 5 [(0, .ref (am 0)), (1, .int 0), (2, .int q)] := hl
  have hF0 := hF
  obtain ⟨hF3, hd1, hd3, hNe, hN1, hN, hn⟩ := hF
  refine lv_iload_n hx hb dX3_many_0 rfl (lv_at hl 1 rfl) ?_
  refine lv_iconst (v := 5) hx hb dX3_many_1 (by first | decide | rfl) ?_
  refine lv_icmp_lt (tgt := 19) hx hb dX3_many_2 (by decide) (fun c_1 => ?_) (fun c_1 => False.elim (c_1 (by decide)))
  refine lv_iload_n hx hb dX3_many_19 rfl (lv_at hl 1 rfl) ?_
  refine lv_iconst (v := 4) hx hb dX3_many_20 (by first | decide | rfl) ?_
  refine lv_icmp_ne (tgt := 35) hx hb dX3_many_21 (by decide) (fun c_2 => ?_) (fun c_2 => False.elim (absurd c_2 (by decide)))
  refine lv_iload_n hx hb dX3_many_35 rfl (lv_at hl 1 rfl) ?_
  refine lv_iconst (v := 3) hx hb dX3_many_36 (by first | decide | rfl) ?_
  refine lv_icmp_ne (tgt := 75) hx hb dX3_many_37 (by decide) (fun c_3 => ?_) (fun c_3 => False.elim (absurd c_3 (by decide)))
  refine lv_aload_n hx hb dX3_many_75 rfl (lv_at hl 0 rfl) ?_
  refine wrV (As := []) (rest := []) (b := am 0) ⟨hx, hb, hml, hown, hts⟩ hK 0 (m_add l D cs H hF0 (fun ov w1 => ov = none ∧ ∃ (sg9 : Nat → Int32), (∀ v, v < 37 → sg9 v = nI (ws9 fn dn v)) ∧ w1 = wM cs am th bank rnds dn N n fc pu wh kn nm sk br ht sg9) (fun sg9 h9 => ⟨rfl, sg9, h9, rfl⟩) hP (hD.weaken (fun _ _ _ _ => trivial))) (gin_v mw_10_11 mw_10_12 mw_10_13 mw_1_5 mw_10_14) (by decide +kernel) ⟨Nat.le_of_ble_eq_true rfl, Nat.le_of_ble_eq_true rfl⟩ (va_recv hK hP (ci := 4) (q0 := 0) rfl rfl) rfl hl.1 rfl (Nat.le_of_ble_eq_true rfl) dX3_many_76 ⟨(Nat.le_of_ble_eq_true rfl), (Nat.le_of_ble_eq_true rfl)⟩ hD hS hA (fun ov9 w9 H locs hp9 hP hD hS => ?_)
  obtain ⟨rfl, sgz1, hsgz1, rfl⟩ := hp9
  have hP : va_P D vwCl (wM cs am th bank rnds dn N n fc pu wh kn nm sk br ht sgz1) H := hP
  have hD : va_D _ (wM cs am th bank rnds dn N n fc pu wh kn nm sk br ht sgz1) := hD
  refine W.eq (g2 := F0 m 79 ls []) rfl ?_
  refine lv_iconst (v := nI (manyS fn dn 0 q 0)) hx hb dX3_many_79 (by first | decide | rfl) ?_
  refine lv_istore_n (lv' := [(3, .int (nI (manyS fn dn 0 q 0))), (0, .ref (am 0)), (1, .int 0), (2, .int q)]) hx hb dX3_many_80 rfl hl (by decide) rfl (fun ls hl => ?_)
  refine lv_iconst (v := nI 0) hx hb dX3_many_81 (by first | decide | rfl) ?_
  refine lv_istore (lv' := [(4, .int (nI 0)), (3, .int (nI (manyS fn dn 0 q 0))), (0, .ref (am 0)), (1, .int 0), (2, .int q)]) hx hb dX3_many_82 hl (by decide) rfl (fun ls hl => ?_)
  have loop84 : ∀ (n9 : Nat) (v : Nat) (H : Heap) (locs : List Loc) (ls : Array Slot), v ≤ 37 → 38 ≤ v + n9 → va_P D vwCl (wM cs am th bank rnds dn N n fc pu wh kn nm sk br ht sgz1) H → va_D A (wM cs am th bank rnds dn N n fc pu wh kn nm sk br ht sgz1) → va_S A s.heap H locs → lv_has ls 5 [(0, .ref (am 0)), (1, .int 0), (2, .int q), (3, .int (nI (manyS fn dn 0 q v))), (4, .int (nI v))] → W p l e (rmL 3 0 0) s m [.ref (am 0), .int 0, .int q].toArray below meth c H locs 0 0 Q (F0 m 84 ls []) := by
    intro n9
    induction n9 with
    | zero => intro v  H locs ls hv hf hP hD hS hl; exact absurd hf (by omega)
    | succ n9 ih84 =>
      intro v  H locs ls hv hf hP hD hS hl
      refine lv_iload hx hb dX3_many_84 (lv_at hl 4 rfl) ?_
      refine lv_bipush (v := nI 36) hx hb dX3_many_86 (by first | decide | rfl) ?_
      refine lv_icmp_gt (tgt := 146) hx hb dX3_many_88 (by decide) (fun c_4 => ?_) (fun c_4 => ?_)
      · refine lv_iload_n hx hb dX3_many_146 rfl (lv_at hl 3 rfl) ?_
        exact wr_iret hQ hx hb hr hlocks hP hD hS (by rw [show nI (manyS fn dn 0 q v) = many5 fn dn N 0 q from congrArg (fun z => nI (manyS fn dn 0 q z)) (show v = 37 from by have g := (nI_ltI (by omega) (by omega)).mp c_4; omega)]; exact hpost sgz1) dX3_many_147
      · have hv9 : v ≤ 36 := by
          rcases Nat.lt_or_ge 36 v with z | z
          · exact absurd (nI_lt z (by omega)) c_4
          · exact z
        refine lv_iload_n hx hb dX3_many_91 rfl (lv_at hl 3 rfl) ?_
        refine lv_iload_n hx hb dX3_many_92 rfl (lv_at hl 1 rfl) ?_
        refine lv_if_ne (tgt := 105) hx hb dX3_many_93 (by decide) (fun c_5 => False.elim (c_5 (by decide))) (fun c_5 => ?_)
        refine lv_iload hx hb dX3_many_96 (lv_at hl 4 rfl) ?_
        refine lv_iload_n hx hb dX3_many_98 rfl (lv_at hl 2 rfl) ?_
        refine lv_icmp_ne (tgt := 137) hx hb dX3_many_99 (by decide) (fun c_6 => ?_) (fun c_6 => ?_)
        · refine lv_iconst (v := 0) hx hb dX3_many_137 (by first | decide | rfl) ?_
          refine lv_iadd hx hb dX3_many_138 ?_
          refine lv_rwi (y := nI (manyS fn dn 0 q (v + 1))) (by rw [Int32_add0, manyS_f (show selM 0 q v = false from decide_eq_false c_6)]) ?_
          refine lv_istore_n (lv' := [(3, .int (nI (manyS fn dn 0 q (v + 1)))), (0, .ref (am 0)), (1, .int 0), (2, .int q), (4, .int (nI v))]) hx hb dX3_many_139 rfl hl (by decide) rfl (fun ls hl => ?_)
          refine lv_iinc (v := nI (v + 1)) (lv' := [(4, .int (nI (v + 1))), (3, .int (nI (manyS fn dn 0 q (v + 1)))), (0, .ref (am 0)), (1, .int 0), (2, .int q)]) hx hb dX3_many_140 hl (k := 4) rfl (nI_1 v) (by decide) rfl (fun ls hl => ?_)
          refine lv_goto (tgt := 84) hx hb dX3_many_143 (by decide) ?_
          exact ih84 (v + 1) H _ ls (by omega) (by omega) hP hD hS (lv_sub hl [2, 3, 4, 1, 0] rfl)
        · refine lv_goto (tgt := 127) hx hb dX3_many_102 (by decide) ?_
          refine lv_aload_n hx hb dX3_many_127 rfl (lv_at hl 0 rfl) ?_
          refine va_get (D := D) (ci := 4) (v := .ref (am 9)) (C := RX3) (T := TX3) (N := 15) hx hb hts inlX3 hown hK hP 0 rfl rfl 14 (by decide) (hts (Cond.fieldLink RX3 45 "TavernDiceModel" "sums" "[I") mw_4_7) (fun _ h9 => h9) rfl dX3_many_128 ?_
          refine lv_iload hx hb dX3_many_131 (lv_at hl 4 rfl) ?_
          refine va_iald hx hb hK hP 9 0 rfl rfl (vp_in_nI (by omega) (by omega)) dX3_many_133 ?_
          refine lv_rwi (y := nI (ws9 fn dn v)) ((congrArg sgz1 (nI_clamp (by omega))).trans (hsgz1 v (by omega))) ?_
          refine lv_goto (tgt := 138) hx hb dX3_many_134 (by decide) ?_
          refine lv_iadd hx hb dX3_many_138 ?_
          refine lv_rwi (y := nI (manyS fn dn 0 q (v + 1))) (by rw [nI_add, manyS_t (show selM 0 q v = true from decide_eq_true c_6)]) ?_
          refine lv_istore_n (lv' := [(3, .int (nI (manyS fn dn 0 q (v + 1)))), (0, .ref (am 0)), (1, .int 0), (2, .int q), (4, .int (nI v))]) hx hb dX3_many_139 rfl hl (by decide) rfl (fun ls hl => ?_)
          refine lv_iinc (v := nI (v + 1)) (lv' := [(4, .int (nI (v + 1))), (3, .int (nI (manyS fn dn 0 q (v + 1)))), (0, .ref (am 0)), (1, .int 0), (2, .int q)]) hx hb dX3_many_140 hl (k := 4) rfl (nI_1 v) (by decide) rfl (fun ls hl => ?_)
          refine lv_goto (tgt := 84) hx hb dX3_many_143 (by decide) ?_
          exact ih84 (v + 1) H _ ls (by omega) (by omega) hP hD hS (lv_sub hl [2, 3, 4, 1, 0] rfl)
  exact loop84 38 0 H _ ls (by omega) (by omega) hP hD hS (lv_sub hl [2, 3, 4, 1, 0] rfl)
set_option maxHeartbeats 4000000 in
set_option maxRecDepth 100000 in
theorem m_manyB0 (l : Launch) (D : va_G) (cs : Nat → ClassId) (H : Heap) {am : Nat → Nat} {th bank rnds : Int32} {dn N n : Nat} {fc pu wh kn nm sk br ht sg : Nat → Int32} {fn : Nat → Nat} (hF : FM fn dn N n fc) (q : Int32) (post : Option Value → va_W → Prop) (hpost : ∀ sg9 : Nat → Int32, post (some (.int (many5 fn dn N 0 q))) (wM cs am th bank rnds dn N n fc pu wh kn nm sk br ht sg9)) (hP : va_P D vwCl (wM cs am th bank rnds dn N n fc pu wh kn nm sk br ht sg) H) (hD : va_D (fun _ => True) (wM cs am th bank rnds dn N n fc pu wh kn nm sk br ht sg)) : Wr l D cs 4 0 0 yX3_many cX3_many 5 (some .int) (wM cs am th bank rnds dn N n fc pu wh kn nm sk br ht sg) H [.ref (am 0), .int 0, .int q] post := by
  refine wr_ent (by decide) (Nat.le_of_ble_eq_true rfl) hP hD ?_
  clear hP hD H
  intro p e s m below meth c ls A Q H hx hb hr hml hown hts hlocks hin hl hK hQ hA hH hP hD hS
  clear hH
  have hl : lv_has ls 5 [(0, .ref (am 0)), (1, .int 0), (2, .int q)] := hl
  have hF0 := hF
  obtain ⟨hF3, hd1, hd3, hNe, hN1, hN, hn⟩ := hF
  refine lv_iload_n hx hb dX3_many_0 rfl (lv_at hl 1 rfl) ?_
  refine lv_iconst (v := 5) hx hb dX3_many_1 (by first | decide | rfl) ?_
  refine lv_icmp_lt (tgt := 19) hx hb dX3_many_2 (by decide) (fun c_1 => ?_) (fun c_1 => False.elim (c_1 (by decide)))
  refine lv_iload_n hx hb dX3_many_19 rfl (lv_at hl 1 rfl) ?_
  refine lv_iconst (v := 4) hx hb dX3_many_20 (by first | decide | rfl) ?_
  refine lv_icmp_ne (tgt := 35) hx hb dX3_many_21 (by decide) (fun c_2 => ?_) (fun c_2 => False.elim (absurd c_2 (by decide)))
  refine lv_iload_n hx hb dX3_many_35 rfl (lv_at hl 1 rfl) ?_
  refine lv_iconst (v := 3) hx hb dX3_many_36 (by first | decide | rfl) ?_
  refine lv_icmp_ne (tgt := 75) hx hb dX3_many_37 (by decide) (fun c_3 => ?_) (fun c_3 => False.elim (absurd c_3 (by decide)))
  refine lv_aload_n hx hb dX3_many_75 rfl (lv_at hl 0 rfl) ?_
  refine wrV (As := []) (rest := []) (b := am 0) ⟨hx, hb, hml, hown, hts⟩ hK 0 (m_add l D cs H hF0 (fun ov w1 => ov = none ∧ ∃ (sg9 : Nat → Int32), (∀ v, v < 37 → sg9 v = nI (ws9 fn dn v)) ∧ w1 = wM cs am th bank rnds dn N n fc pu wh kn nm sk br ht sg9) (fun sg9 h9 => ⟨rfl, sg9, h9, rfl⟩) hP (hD.weaken (fun _ _ _ _ => trivial))) (gin_v mw_10_11 mw_10_12 mw_10_13 mw_1_5 mw_10_14) (by decide +kernel) ⟨Nat.le_of_ble_eq_true rfl, Nat.le_of_ble_eq_true rfl⟩ (va_recv hK hP (ci := 4) (q0 := 0) rfl rfl) rfl hl.1 rfl (Nat.le_of_ble_eq_true rfl) dX3_many_76 ⟨(Nat.le_of_ble_eq_true rfl), (Nat.le_of_ble_eq_true rfl)⟩ hD hS hA (fun ov9 w9 H locs hp9 hP hD hS => ?_)
  obtain ⟨rfl, sgz1, hsgz1, rfl⟩ := hp9
  have hP : va_P D vwCl (wM cs am th bank rnds dn N n fc pu wh kn nm sk br ht sgz1) H := hP
  have hD : va_D _ (wM cs am th bank rnds dn N n fc pu wh kn nm sk br ht sgz1) := hD
  refine W.eq (g2 := F0 m 79 ls []) rfl ?_
  refine lv_iconst (v := nI (manyS fn dn 0 q 0)) hx hb dX3_many_79 (by first | decide | rfl) ?_
  refine lv_istore_n (lv' := [(3, .int (nI (manyS fn dn 0 q 0))), (0, .ref (am 0)), (1, .int 0), (2, .int q)]) hx hb dX3_many_80 rfl hl (by decide) rfl (fun ls hl => ?_)
  refine lv_iconst (v := nI 0) hx hb dX3_many_81 (by first | decide | rfl) ?_
  refine lv_istore (lv' := [(4, .int (nI 0)), (3, .int (nI (manyS fn dn 0 q 0))), (0, .ref (am 0)), (1, .int 0), (2, .int q)]) hx hb dX3_many_82 hl (by decide) rfl (fun ls hl => ?_)
  have loop84 : ∀ (n9 : Nat) (v : Nat) (H : Heap) (locs : List Loc) (ls : Array Slot), v ≤ 37 → 38 ≤ v + n9 → va_P D vwCl (wM cs am th bank rnds dn N n fc pu wh kn nm sk br ht sgz1) H → va_D A (wM cs am th bank rnds dn N n fc pu wh kn nm sk br ht sgz1) → va_S A s.heap H locs → lv_has ls 5 [(0, .ref (am 0)), (1, .int 0), (2, .int q), (3, .int (nI (manyS fn dn 0 q v))), (4, .int (nI v))] → W p l e (rmL 4 0 0) s m [.ref (am 0), .int 0, .int q].toArray below meth c H locs 0 0 Q (F0 m 84 ls []) := by
    intro n9
    induction n9 with
    | zero => intro v  H locs ls hv hf hP hD hS hl; exact absurd hf (by omega)
    | succ n9 ih84 =>
      intro v  H locs ls hv hf hP hD hS hl
      refine lv_iload hx hb dX3_many_84 (lv_at hl 4 rfl) ?_
      refine lv_bipush (v := nI 36) hx hb dX3_many_86 (by first | decide | rfl) ?_
      refine lv_icmp_gt (tgt := 146) hx hb dX3_many_88 (by decide) (fun c_4 => ?_) (fun c_4 => ?_)
      · refine lv_iload_n hx hb dX3_many_146 rfl (lv_at hl 3 rfl) ?_
        exact wr_iret hQ hx hb hr hlocks hP hD hS (by rw [show nI (manyS fn dn 0 q v) = many5 fn dn N 0 q from congrArg (fun z => nI (manyS fn dn 0 q z)) (show v = 37 from by have g := (nI_ltI (by omega) (by omega)).mp c_4; omega)]; exact hpost sgz1) dX3_many_147
      · have hv9 : v ≤ 36 := by
          rcases Nat.lt_or_ge 36 v with z | z
          · exact absurd (nI_lt z (by omega)) c_4
          · exact z
        refine lv_iload_n hx hb dX3_many_91 rfl (lv_at hl 3 rfl) ?_
        refine lv_iload_n hx hb dX3_many_92 rfl (lv_at hl 1 rfl) ?_
        refine lv_if_ne (tgt := 105) hx hb dX3_many_93 (by decide) (fun c_5 => False.elim (c_5 (by decide))) (fun c_5 => ?_)
        refine lv_iload hx hb dX3_many_96 (lv_at hl 4 rfl) ?_
        refine lv_iload_n hx hb dX3_many_98 rfl (lv_at hl 2 rfl) ?_
        refine lv_icmp_ne (tgt := 137) hx hb dX3_many_99 (by decide) (fun c_6 => ?_) (fun c_6 => ?_)
        · refine lv_iconst (v := 0) hx hb dX3_many_137 (by first | decide | rfl) ?_
          refine lv_iadd hx hb dX3_many_138 ?_
          refine lv_rwi (y := nI (manyS fn dn 0 q (v + 1))) (by rw [Int32_add0, manyS_f (show selM 0 q v = false from decide_eq_false c_6)]) ?_
          refine lv_istore_n (lv' := [(3, .int (nI (manyS fn dn 0 q (v + 1)))), (0, .ref (am 0)), (1, .int 0), (2, .int q), (4, .int (nI v))]) hx hb dX3_many_139 rfl hl (by decide) rfl (fun ls hl => ?_)
          refine lv_iinc (v := nI (v + 1)) (lv' := [(4, .int (nI (v + 1))), (3, .int (nI (manyS fn dn 0 q (v + 1)))), (0, .ref (am 0)), (1, .int 0), (2, .int q)]) hx hb dX3_many_140 hl (k := 4) rfl (nI_1 v) (by decide) rfl (fun ls hl => ?_)
          refine lv_goto (tgt := 84) hx hb dX3_many_143 (by decide) ?_
          exact ih84 (v + 1) H _ ls (by omega) (by omega) hP hD hS (lv_sub hl [2, 3, 4, 1, 0] rfl)
        · refine lv_goto (tgt := 127) hx hb dX3_many_102 (by decide) ?_
          refine lv_aload_n hx hb dX3_many_127 rfl (lv_at hl 0 rfl) ?_
          refine va_get (D := D) (ci := 4) (v := .ref (am 9)) (C := RX3) (T := TX3) (N := 15) hx hb hts inlX3 hown hK hP 0 rfl rfl 14 (by decide) (hts (Cond.fieldLink RX3 45 "TavernDiceModel" "sums" "[I") mw_4_7) (fun _ h9 => h9) rfl dX3_many_128 ?_
          refine lv_iload hx hb dX3_many_131 (lv_at hl 4 rfl) ?_
          refine va_iald hx hb hK hP 9 0 rfl rfl (vp_in_nI (by omega) (by omega)) dX3_many_133 ?_
          refine lv_rwi (y := nI (ws9 fn dn v)) ((congrArg sgz1 (nI_clamp (by omega))).trans (hsgz1 v (by omega))) ?_
          refine lv_goto (tgt := 138) hx hb dX3_many_134 (by decide) ?_
          refine lv_iadd hx hb dX3_many_138 ?_
          refine lv_rwi (y := nI (manyS fn dn 0 q (v + 1))) (by rw [nI_add, manyS_t (show selM 0 q v = true from decide_eq_true c_6)]) ?_
          refine lv_istore_n (lv' := [(3, .int (nI (manyS fn dn 0 q (v + 1)))), (0, .ref (am 0)), (1, .int 0), (2, .int q), (4, .int (nI v))]) hx hb dX3_many_139 rfl hl (by decide) rfl (fun ls hl => ?_)
          refine lv_iinc (v := nI (v + 1)) (lv' := [(4, .int (nI (v + 1))), (3, .int (nI (manyS fn dn 0 q (v + 1)))), (0, .ref (am 0)), (1, .int 0), (2, .int q)]) hx hb dX3_many_140 hl (k := 4) rfl (nI_1 v) (by decide) rfl (fun ls hl => ?_)
          refine lv_goto (tgt := 84) hx hb dX3_many_143 (by decide) ?_
          exact ih84 (v + 1) H _ ls (by omega) (by omega) hP hD hS (lv_sub hl [2, 3, 4, 1, 0] rfl)
  exact loop84 38 0 H _ ls (by omega) (by omega) hP hD hS (lv_sub hl [2, 3, 4, 1, 0] rfl)
set_option maxHeartbeats 4000000 in
set_option maxRecDepth 100000 in
theorem m_many1 (l : Launch) (D : va_G) (cs : Nat → ClassId) (H : Heap) {am : Nat → Nat} {th bank rnds : Int32} {dn N n : Nat} {fc pu wh kn nm sk br ht sg : Nat → Int32} {fn : Nat → Nat} (hF : FM fn dn N n fc) (q : Int32) (post : Option Value → va_W → Prop) (hpost : ∀ sg9 : Nat → Int32, post (some (.int (many5 fn dn N 1 q))) (wM cs am th bank rnds dn N n fc pu wh kn nm sk br ht sg9)) (hP : va_P D vwCl (wM cs am th bank rnds dn N n fc pu wh kn nm sk br ht sg) H) (hD : va_D (fun _ => True) (wM cs am th bank rnds dn N n fc pu wh kn nm sk br ht sg)) : Wr l D cs 3 0 0 yX3_many cX3_many 5 (some .int) (wM cs am th bank rnds dn N n fc pu wh kn nm sk br ht sg) H [.ref (am 0), .int 1, .int q] post := by
  refine wr_ent (by decide) (Nat.le_of_ble_eq_true rfl) hP hD ?_
  clear hP hD H
  intro p e s m below meth c ls A Q H hx hb hr hml hown hts hlocks hin hl hK hQ hA hH hP hD hS
  clear hH
  have hl : lv_has ls 5 [(0, .ref (am 0)), (1, .int 1), (2, .int q)] := hl
  have hF0 := hF
  obtain ⟨hF3, hd1, hd3, hNe, hN1, hN, hn⟩ := hF
  refine lv_iload_n hx hb dX3_many_0 rfl (lv_at hl 1 rfl) ?_
  refine lv_iconst (v := 5) hx hb dX3_many_1 (by first | decide | rfl) ?_
  refine lv_icmp_lt (tgt := 19) hx hb dX3_many_2 (by decide) (fun c_1 => ?_) (fun c_1 => False.elim (c_1 (by decide)))
  refine lv_iload_n hx hb dX3_many_19 rfl (lv_at hl 1 rfl) ?_
  refine lv_iconst (v := 4) hx hb dX3_many_20 (by first | decide | rfl) ?_
  refine lv_icmp_ne (tgt := 35) hx hb dX3_many_21 (by decide) (fun c_2 => ?_) (fun c_2 => False.elim (absurd c_2 (by decide)))
  refine lv_iload_n hx hb dX3_many_35 rfl (lv_at hl 1 rfl) ?_
  refine lv_iconst (v := 3) hx hb dX3_many_36 (by first | decide | rfl) ?_
  refine lv_icmp_ne (tgt := 75) hx hb dX3_many_37 (by decide) (fun c_3 => ?_) (fun c_3 => False.elim (absurd c_3 (by decide)))
  refine lv_aload_n hx hb dX3_many_75 rfl (lv_at hl 0 rfl) ?_
  refine wrV (As := []) (rest := []) (b := am 0) ⟨hx, hb, hml, hown, hts⟩ hK 0 (m_add l D cs H hF0 (fun ov w1 => ov = none ∧ ∃ (sg9 : Nat → Int32), (∀ v, v < 37 → sg9 v = nI (ws9 fn dn v)) ∧ w1 = wM cs am th bank rnds dn N n fc pu wh kn nm sk br ht sg9) (fun sg9 h9 => ⟨rfl, sg9, h9, rfl⟩) hP (hD.weaken (fun _ _ _ _ => trivial))) (gin_v mw_10_11 mw_10_12 mw_10_13 mw_1_5 mw_10_14) (by decide +kernel) ⟨Nat.le_of_ble_eq_true rfl, Nat.le_of_ble_eq_true rfl⟩ (va_recv hK hP (ci := 4) (q0 := 0) rfl rfl) rfl hl.1 rfl (Nat.le_of_ble_eq_true rfl) dX3_many_76 ⟨(Nat.le_of_ble_eq_true rfl), (Nat.le_of_ble_eq_true rfl)⟩ hD hS hA (fun ov9 w9 H locs hp9 hP hD hS => ?_)
  obtain ⟨rfl, sgz1, hsgz1, rfl⟩ := hp9
  have hP : va_P D vwCl (wM cs am th bank rnds dn N n fc pu wh kn nm sk br ht sgz1) H := hP
  have hD : va_D _ (wM cs am th bank rnds dn N n fc pu wh kn nm sk br ht sgz1) := hD
  refine W.eq (g2 := F0 m 79 ls []) rfl ?_
  refine lv_iconst (v := nI (manyS fn dn 1 q 0)) hx hb dX3_many_79 (by first | decide | rfl) ?_
  refine lv_istore_n (lv' := [(3, .int (nI (manyS fn dn 1 q 0))), (0, .ref (am 0)), (1, .int 1), (2, .int q)]) hx hb dX3_many_80 rfl hl (by decide) rfl (fun ls hl => ?_)
  refine lv_iconst (v := nI 0) hx hb dX3_many_81 (by first | decide | rfl) ?_
  refine lv_istore (lv' := [(4, .int (nI 0)), (3, .int (nI (manyS fn dn 1 q 0))), (0, .ref (am 0)), (1, .int 1), (2, .int q)]) hx hb dX3_many_82 hl (by decide) rfl (fun ls hl => ?_)
  have loop84 : ∀ (n9 : Nat) (v : Nat) (H : Heap) (locs : List Loc) (ls : Array Slot), v ≤ 37 → 38 ≤ v + n9 → va_P D vwCl (wM cs am th bank rnds dn N n fc pu wh kn nm sk br ht sgz1) H → va_D A (wM cs am th bank rnds dn N n fc pu wh kn nm sk br ht sgz1) → va_S A s.heap H locs → lv_has ls 5 [(0, .ref (am 0)), (1, .int 1), (2, .int q), (3, .int (nI (manyS fn dn 1 q v))), (4, .int (nI v))] → W p l e (rmL 3 0 0) s m [.ref (am 0), .int 1, .int q].toArray below meth c H locs 0 0 Q (F0 m 84 ls []) := by
    intro n9
    induction n9 with
    | zero => intro v  H locs ls hv hf hP hD hS hl; exact absurd hf (by omega)
    | succ n9 ih84 =>
      intro v  H locs ls hv hf hP hD hS hl
      refine lv_iload hx hb dX3_many_84 (lv_at hl 4 rfl) ?_
      refine lv_bipush (v := nI 36) hx hb dX3_many_86 (by first | decide | rfl) ?_
      refine lv_icmp_gt (tgt := 146) hx hb dX3_many_88 (by decide) (fun c_4 => ?_) (fun c_4 => ?_)
      · refine lv_iload_n hx hb dX3_many_146 rfl (lv_at hl 3 rfl) ?_
        exact wr_iret hQ hx hb hr hlocks hP hD hS (by rw [show nI (manyS fn dn 1 q v) = many5 fn dn N 1 q from congrArg (fun z => nI (manyS fn dn 1 q z)) (show v = 37 from by have g := (nI_ltI (by omega) (by omega)).mp c_4; omega)]; exact hpost sgz1) dX3_many_147
      · have hv9 : v ≤ 36 := by
          rcases Nat.lt_or_ge 36 v with z | z
          · exact absurd (nI_lt z (by omega)) c_4
          · exact z
        refine lv_iload_n hx hb dX3_many_91 rfl (lv_at hl 3 rfl) ?_
        refine lv_iload_n hx hb dX3_many_92 rfl (lv_at hl 1 rfl) ?_
        refine lv_if_ne (tgt := 105) hx hb dX3_many_93 (by decide) (fun c_5 => ?_) (fun c_5 => False.elim (absurd c_5 (by decide)))
        refine lv_iload_n hx hb dX3_many_105 rfl (lv_at hl 1 rfl) ?_
        refine lv_iconst (v := 1) hx hb dX3_many_106 (by first | decide | rfl) ?_
        refine lv_icmp_ne (tgt := 119) hx hb dX3_many_107 (by decide) (fun c_6 => False.elim (c_6 (by decide))) (fun c_6 => ?_)
        refine lv_iload hx hb dX3_many_110 (lv_at hl 4 rfl) ?_
        refine lv_iload_n hx hb dX3_many_112 rfl (lv_at hl 2 rfl) ?_
        refine lv_icmp_lt (tgt := 137) hx hb dX3_many_113 (by decide) (fun c_7 => ?_) (fun c_7 => ?_)
        · refine lv_iconst (v := 0) hx hb dX3_many_137 (by first | decide | rfl) ?_
          refine lv_iadd hx hb dX3_many_138 ?_
          refine lv_rwi (y := nI (manyS fn dn 1 q (v + 1))) (by rw [Int32_add0, manyS_f (show selM 1 q v = false from decide_eq_false (fun z => (fa_of_lt c_7).2.1 z))]) ?_
          refine lv_istore_n (lv' := [(3, .int (nI (manyS fn dn 1 q (v + 1)))), (0, .ref (am 0)), (1, .int 1), (2, .int q), (4, .int (nI v))]) hx hb dX3_many_139 rfl hl (by decide) rfl (fun ls hl => ?_)
          refine lv_iinc (v := nI (v + 1)) (lv' := [(4, .int (nI (v + 1))), (3, .int (nI (manyS fn dn 1 q (v + 1)))), (0, .ref (am 0)), (1, .int 1), (2, .int q)]) hx hb dX3_many_140 hl (k := 4) rfl (nI_1 v) (by decide) rfl (fun ls hl => ?_)
          refine lv_goto (tgt := 84) hx hb dX3_many_143 (by decide) ?_
          exact ih84 (v + 1) H _ ls (by omega) (by omega) hP hD hS (lv_sub hl [2, 3, 4, 1, 0] rfl)
        · refine lv_goto (tgt := 127) hx hb dX3_many_116 (by decide) ?_
          refine lv_aload_n hx hb dX3_many_127 rfl (lv_at hl 0 rfl) ?_
          refine va_get (D := D) (ci := 4) (v := .ref (am 9)) (C := RX3) (T := TX3) (N := 15) hx hb hts inlX3 hown hK hP 0 rfl rfl 14 (by decide) (hts (Cond.fieldLink RX3 45 "TavernDiceModel" "sums" "[I") mw_4_7) (fun _ h9 => h9) rfl dX3_many_128 ?_
          refine lv_iload hx hb dX3_many_131 (lv_at hl 4 rfl) ?_
          refine va_iald hx hb hK hP 9 0 rfl rfl (vp_in_nI (by omega) (by omega)) dX3_many_133 ?_
          refine lv_rwi (y := nI (ws9 fn dn v)) ((congrArg sgz1 (nI_clamp (by omega))).trans (hsgz1 v (by omega))) ?_
          refine lv_goto (tgt := 138) hx hb dX3_many_134 (by decide) ?_
          refine lv_iadd hx hb dX3_many_138 ?_
          refine lv_rwi (y := nI (manyS fn dn 1 q (v + 1))) (by rw [nI_add, manyS_t (show selM 1 q v = true from decide_eq_true (fa_of_nlt c_7))]) ?_
          refine lv_istore_n (lv' := [(3, .int (nI (manyS fn dn 1 q (v + 1)))), (0, .ref (am 0)), (1, .int 1), (2, .int q), (4, .int (nI v))]) hx hb dX3_many_139 rfl hl (by decide) rfl (fun ls hl => ?_)
          refine lv_iinc (v := nI (v + 1)) (lv' := [(4, .int (nI (v + 1))), (3, .int (nI (manyS fn dn 1 q (v + 1)))), (0, .ref (am 0)), (1, .int 1), (2, .int q)]) hx hb dX3_many_140 hl (k := 4) rfl (nI_1 v) (by decide) rfl (fun ls hl => ?_)
          refine lv_goto (tgt := 84) hx hb dX3_many_143 (by decide) ?_
          exact ih84 (v + 1) H _ ls (by omega) (by omega) hP hD hS (lv_sub hl [2, 3, 4, 1, 0] rfl)
  exact loop84 38 0 H _ ls (by omega) (by omega) hP hD hS (lv_sub hl [2, 3, 4, 1, 0] rfl)
set_option maxHeartbeats 4000000 in
set_option maxRecDepth 100000 in
theorem m_manyB1 (l : Launch) (D : va_G) (cs : Nat → ClassId) (H : Heap) {am : Nat → Nat} {th bank rnds : Int32} {dn N n : Nat} {fc pu wh kn nm sk br ht sg : Nat → Int32} {fn : Nat → Nat} (hF : FM fn dn N n fc) (q : Int32) (post : Option Value → va_W → Prop) (hpost : ∀ sg9 : Nat → Int32, post (some (.int (many5 fn dn N 1 q))) (wM cs am th bank rnds dn N n fc pu wh kn nm sk br ht sg9)) (hP : va_P D vwCl (wM cs am th bank rnds dn N n fc pu wh kn nm sk br ht sg) H) (hD : va_D (fun _ => True) (wM cs am th bank rnds dn N n fc pu wh kn nm sk br ht sg)) : Wr l D cs 4 0 0 yX3_many cX3_many 5 (some .int) (wM cs am th bank rnds dn N n fc pu wh kn nm sk br ht sg) H [.ref (am 0), .int 1, .int q] post := by
  refine wr_ent (by decide) (Nat.le_of_ble_eq_true rfl) hP hD ?_
  clear hP hD H
  intro p e s m below meth c ls A Q H hx hb hr hml hown hts hlocks hin hl hK hQ hA hH hP hD hS
  clear hH
  have hl : lv_has ls 5 [(0, .ref (am 0)), (1, .int 1), (2, .int q)] := hl
  have hF0 := hF
  obtain ⟨hF3, hd1, hd3, hNe, hN1, hN, hn⟩ := hF
  refine lv_iload_n hx hb dX3_many_0 rfl (lv_at hl 1 rfl) ?_
  refine lv_iconst (v := 5) hx hb dX3_many_1 (by first | decide | rfl) ?_
  refine lv_icmp_lt (tgt := 19) hx hb dX3_many_2 (by decide) (fun c_1 => ?_) (fun c_1 => False.elim (c_1 (by decide)))
  refine lv_iload_n hx hb dX3_many_19 rfl (lv_at hl 1 rfl) ?_
  refine lv_iconst (v := 4) hx hb dX3_many_20 (by first | decide | rfl) ?_
  refine lv_icmp_ne (tgt := 35) hx hb dX3_many_21 (by decide) (fun c_2 => ?_) (fun c_2 => False.elim (absurd c_2 (by decide)))
  refine lv_iload_n hx hb dX3_many_35 rfl (lv_at hl 1 rfl) ?_
  refine lv_iconst (v := 3) hx hb dX3_many_36 (by first | decide | rfl) ?_
  refine lv_icmp_ne (tgt := 75) hx hb dX3_many_37 (by decide) (fun c_3 => ?_) (fun c_3 => False.elim (absurd c_3 (by decide)))
  refine lv_aload_n hx hb dX3_many_75 rfl (lv_at hl 0 rfl) ?_
  refine wrV (As := []) (rest := []) (b := am 0) ⟨hx, hb, hml, hown, hts⟩ hK 0 (m_add l D cs H hF0 (fun ov w1 => ov = none ∧ ∃ (sg9 : Nat → Int32), (∀ v, v < 37 → sg9 v = nI (ws9 fn dn v)) ∧ w1 = wM cs am th bank rnds dn N n fc pu wh kn nm sk br ht sg9) (fun sg9 h9 => ⟨rfl, sg9, h9, rfl⟩) hP (hD.weaken (fun _ _ _ _ => trivial))) (gin_v mw_10_11 mw_10_12 mw_10_13 mw_1_5 mw_10_14) (by decide +kernel) ⟨Nat.le_of_ble_eq_true rfl, Nat.le_of_ble_eq_true rfl⟩ (va_recv hK hP (ci := 4) (q0 := 0) rfl rfl) rfl hl.1 rfl (Nat.le_of_ble_eq_true rfl) dX3_many_76 ⟨(Nat.le_of_ble_eq_true rfl), (Nat.le_of_ble_eq_true rfl)⟩ hD hS hA (fun ov9 w9 H locs hp9 hP hD hS => ?_)
  obtain ⟨rfl, sgz1, hsgz1, rfl⟩ := hp9
  have hP : va_P D vwCl (wM cs am th bank rnds dn N n fc pu wh kn nm sk br ht sgz1) H := hP
  have hD : va_D _ (wM cs am th bank rnds dn N n fc pu wh kn nm sk br ht sgz1) := hD
  refine W.eq (g2 := F0 m 79 ls []) rfl ?_
  refine lv_iconst (v := nI (manyS fn dn 1 q 0)) hx hb dX3_many_79 (by first | decide | rfl) ?_
  refine lv_istore_n (lv' := [(3, .int (nI (manyS fn dn 1 q 0))), (0, .ref (am 0)), (1, .int 1), (2, .int q)]) hx hb dX3_many_80 rfl hl (by decide) rfl (fun ls hl => ?_)
  refine lv_iconst (v := nI 0) hx hb dX3_many_81 (by first | decide | rfl) ?_
  refine lv_istore (lv' := [(4, .int (nI 0)), (3, .int (nI (manyS fn dn 1 q 0))), (0, .ref (am 0)), (1, .int 1), (2, .int q)]) hx hb dX3_many_82 hl (by decide) rfl (fun ls hl => ?_)
  have loop84 : ∀ (n9 : Nat) (v : Nat) (H : Heap) (locs : List Loc) (ls : Array Slot), v ≤ 37 → 38 ≤ v + n9 → va_P D vwCl (wM cs am th bank rnds dn N n fc pu wh kn nm sk br ht sgz1) H → va_D A (wM cs am th bank rnds dn N n fc pu wh kn nm sk br ht sgz1) → va_S A s.heap H locs → lv_has ls 5 [(0, .ref (am 0)), (1, .int 1), (2, .int q), (3, .int (nI (manyS fn dn 1 q v))), (4, .int (nI v))] → W p l e (rmL 4 0 0) s m [.ref (am 0), .int 1, .int q].toArray below meth c H locs 0 0 Q (F0 m 84 ls []) := by
    intro n9
    induction n9 with
    | zero => intro v  H locs ls hv hf hP hD hS hl; exact absurd hf (by omega)
    | succ n9 ih84 =>
      intro v  H locs ls hv hf hP hD hS hl
      refine lv_iload hx hb dX3_many_84 (lv_at hl 4 rfl) ?_
      refine lv_bipush (v := nI 36) hx hb dX3_many_86 (by first | decide | rfl) ?_
      refine lv_icmp_gt (tgt := 146) hx hb dX3_many_88 (by decide) (fun c_4 => ?_) (fun c_4 => ?_)
      · refine lv_iload_n hx hb dX3_many_146 rfl (lv_at hl 3 rfl) ?_
        exact wr_iret hQ hx hb hr hlocks hP hD hS (by rw [show nI (manyS fn dn 1 q v) = many5 fn dn N 1 q from congrArg (fun z => nI (manyS fn dn 1 q z)) (show v = 37 from by have g := (nI_ltI (by omega) (by omega)).mp c_4; omega)]; exact hpost sgz1) dX3_many_147
      · have hv9 : v ≤ 36 := by
          rcases Nat.lt_or_ge 36 v with z | z
          · exact absurd (nI_lt z (by omega)) c_4
          · exact z
        refine lv_iload_n hx hb dX3_many_91 rfl (lv_at hl 3 rfl) ?_
        refine lv_iload_n hx hb dX3_many_92 rfl (lv_at hl 1 rfl) ?_
        refine lv_if_ne (tgt := 105) hx hb dX3_many_93 (by decide) (fun c_5 => ?_) (fun c_5 => False.elim (absurd c_5 (by decide)))
        refine lv_iload_n hx hb dX3_many_105 rfl (lv_at hl 1 rfl) ?_
        refine lv_iconst (v := 1) hx hb dX3_many_106 (by first | decide | rfl) ?_
        refine lv_icmp_ne (tgt := 119) hx hb dX3_many_107 (by decide) (fun c_6 => False.elim (c_6 (by decide))) (fun c_6 => ?_)
        refine lv_iload hx hb dX3_many_110 (lv_at hl 4 rfl) ?_
        refine lv_iload_n hx hb dX3_many_112 rfl (lv_at hl 2 rfl) ?_
        refine lv_icmp_lt (tgt := 137) hx hb dX3_many_113 (by decide) (fun c_7 => ?_) (fun c_7 => ?_)
        · refine lv_iconst (v := 0) hx hb dX3_many_137 (by first | decide | rfl) ?_
          refine lv_iadd hx hb dX3_many_138 ?_
          refine lv_rwi (y := nI (manyS fn dn 1 q (v + 1))) (by rw [Int32_add0, manyS_f (show selM 1 q v = false from decide_eq_false (fun z => (fa_of_lt c_7).2.1 z))]) ?_
          refine lv_istore_n (lv' := [(3, .int (nI (manyS fn dn 1 q (v + 1)))), (0, .ref (am 0)), (1, .int 1), (2, .int q), (4, .int (nI v))]) hx hb dX3_many_139 rfl hl (by decide) rfl (fun ls hl => ?_)
          refine lv_iinc (v := nI (v + 1)) (lv' := [(4, .int (nI (v + 1))), (3, .int (nI (manyS fn dn 1 q (v + 1)))), (0, .ref (am 0)), (1, .int 1), (2, .int q)]) hx hb dX3_many_140 hl (k := 4) rfl (nI_1 v) (by decide) rfl (fun ls hl => ?_)
          refine lv_goto (tgt := 84) hx hb dX3_many_143 (by decide) ?_
          exact ih84 (v + 1) H _ ls (by omega) (by omega) hP hD hS (lv_sub hl [2, 3, 4, 1, 0] rfl)
        · refine lv_goto (tgt := 127) hx hb dX3_many_116 (by decide) ?_
          refine lv_aload_n hx hb dX3_many_127 rfl (lv_at hl 0 rfl) ?_
          refine va_get (D := D) (ci := 4) (v := .ref (am 9)) (C := RX3) (T := TX3) (N := 15) hx hb hts inlX3 hown hK hP 0 rfl rfl 14 (by decide) (hts (Cond.fieldLink RX3 45 "TavernDiceModel" "sums" "[I") mw_4_7) (fun _ h9 => h9) rfl dX3_many_128 ?_
          refine lv_iload hx hb dX3_many_131 (lv_at hl 4 rfl) ?_
          refine va_iald hx hb hK hP 9 0 rfl rfl (vp_in_nI (by omega) (by omega)) dX3_many_133 ?_
          refine lv_rwi (y := nI (ws9 fn dn v)) ((congrArg sgz1 (nI_clamp (by omega))).trans (hsgz1 v (by omega))) ?_
          refine lv_goto (tgt := 138) hx hb dX3_many_134 (by decide) ?_
          refine lv_iadd hx hb dX3_many_138 ?_
          refine lv_rwi (y := nI (manyS fn dn 1 q (v + 1))) (by rw [nI_add, manyS_t (show selM 1 q v = true from decide_eq_true (fa_of_nlt c_7))]) ?_
          refine lv_istore_n (lv' := [(3, .int (nI (manyS fn dn 1 q (v + 1)))), (0, .ref (am 0)), (1, .int 1), (2, .int q), (4, .int (nI v))]) hx hb dX3_many_139 rfl hl (by decide) rfl (fun ls hl => ?_)
          refine lv_iinc (v := nI (v + 1)) (lv' := [(4, .int (nI (v + 1))), (3, .int (nI (manyS fn dn 1 q (v + 1)))), (0, .ref (am 0)), (1, .int 1), (2, .int q)]) hx hb dX3_many_140 hl (k := 4) rfl (nI_1 v) (by decide) rfl (fun ls hl => ?_)
          refine lv_goto (tgt := 84) hx hb dX3_many_143 (by decide) ?_
          exact ih84 (v + 1) H _ ls (by omega) (by omega) hP hD hS (lv_sub hl [2, 3, 4, 1, 0] rfl)
  exact loop84 38 0 H _ ls (by omega) (by omega) hP hD hS (lv_sub hl [2, 3, 4, 1, 0] rfl)
set_option maxHeartbeats 4000000 in
set_option maxRecDepth 100000 in
theorem m_many2 (l : Launch) (D : va_G) (cs : Nat → ClassId) (H : Heap) {am : Nat → Nat} {th bank rnds : Int32} {dn N n : Nat} {fc pu wh kn nm sk br ht sg : Nat → Int32} {fn : Nat → Nat} (hF : FM fn dn N n fc) (q : Int32) (post : Option Value → va_W → Prop) (hpost : ∀ sg9 : Nat → Int32, post (some (.int (many5 fn dn N 2 q))) (wM cs am th bank rnds dn N n fc pu wh kn nm sk br ht sg9)) (hP : va_P D vwCl (wM cs am th bank rnds dn N n fc pu wh kn nm sk br ht sg) H) (hD : va_D (fun _ => True) (wM cs am th bank rnds dn N n fc pu wh kn nm sk br ht sg)) : Wr l D cs 3 0 0 yX3_many cX3_many 5 (some .int) (wM cs am th bank rnds dn N n fc pu wh kn nm sk br ht sg) H [.ref (am 0), .int 2, .int q] post := by
  refine wr_ent (by decide) (Nat.le_of_ble_eq_true rfl) hP hD ?_
  clear hP hD H
  intro p e s m below meth c ls A Q H hx hb hr hml hown hts hlocks hin hl hK hQ hA hH hP hD hS
  clear hH
  have hl : lv_has ls 5 [(0, .ref (am 0)), (1, .int 2), (2, .int q)] := hl
  have hF0 := hF
  obtain ⟨hF3, hd1, hd3, hNe, hN1, hN, hn⟩ := hF
  refine lv_iload_n hx hb dX3_many_0 rfl (lv_at hl 1 rfl) ?_
  refine lv_iconst (v := 5) hx hb dX3_many_1 (by first | decide | rfl) ?_
  refine lv_icmp_lt (tgt := 19) hx hb dX3_many_2 (by decide) (fun c_1 => ?_) (fun c_1 => False.elim (c_1 (by decide)))
  refine lv_iload_n hx hb dX3_many_19 rfl (lv_at hl 1 rfl) ?_
  refine lv_iconst (v := 4) hx hb dX3_many_20 (by first | decide | rfl) ?_
  refine lv_icmp_ne (tgt := 35) hx hb dX3_many_21 (by decide) (fun c_2 => ?_) (fun c_2 => False.elim (absurd c_2 (by decide)))
  refine lv_iload_n hx hb dX3_many_35 rfl (lv_at hl 1 rfl) ?_
  refine lv_iconst (v := 3) hx hb dX3_many_36 (by first | decide | rfl) ?_
  refine lv_icmp_ne (tgt := 75) hx hb dX3_many_37 (by decide) (fun c_3 => ?_) (fun c_3 => False.elim (absurd c_3 (by decide)))
  refine lv_aload_n hx hb dX3_many_75 rfl (lv_at hl 0 rfl) ?_
  refine wrV (As := []) (rest := []) (b := am 0) ⟨hx, hb, hml, hown, hts⟩ hK 0 (m_add l D cs H hF0 (fun ov w1 => ov = none ∧ ∃ (sg9 : Nat → Int32), (∀ v, v < 37 → sg9 v = nI (ws9 fn dn v)) ∧ w1 = wM cs am th bank rnds dn N n fc pu wh kn nm sk br ht sg9) (fun sg9 h9 => ⟨rfl, sg9, h9, rfl⟩) hP (hD.weaken (fun _ _ _ _ => trivial))) (gin_v mw_10_11 mw_10_12 mw_10_13 mw_1_5 mw_10_14) (by decide +kernel) ⟨Nat.le_of_ble_eq_true rfl, Nat.le_of_ble_eq_true rfl⟩ (va_recv hK hP (ci := 4) (q0 := 0) rfl rfl) rfl hl.1 rfl (Nat.le_of_ble_eq_true rfl) dX3_many_76 ⟨(Nat.le_of_ble_eq_true rfl), (Nat.le_of_ble_eq_true rfl)⟩ hD hS hA (fun ov9 w9 H locs hp9 hP hD hS => ?_)
  obtain ⟨rfl, sgz1, hsgz1, rfl⟩ := hp9
  have hP : va_P D vwCl (wM cs am th bank rnds dn N n fc pu wh kn nm sk br ht sgz1) H := hP
  have hD : va_D _ (wM cs am th bank rnds dn N n fc pu wh kn nm sk br ht sgz1) := hD
  refine W.eq (g2 := F0 m 79 ls []) rfl ?_
  refine lv_iconst (v := nI (manyS fn dn 2 q 0)) hx hb dX3_many_79 (by first | decide | rfl) ?_
  refine lv_istore_n (lv' := [(3, .int (nI (manyS fn dn 2 q 0))), (0, .ref (am 0)), (1, .int 2), (2, .int q)]) hx hb dX3_many_80 rfl hl (by decide) rfl (fun ls hl => ?_)
  refine lv_iconst (v := nI 0) hx hb dX3_many_81 (by first | decide | rfl) ?_
  refine lv_istore (lv' := [(4, .int (nI 0)), (3, .int (nI (manyS fn dn 2 q 0))), (0, .ref (am 0)), (1, .int 2), (2, .int q)]) hx hb dX3_many_82 hl (by decide) rfl (fun ls hl => ?_)
  have loop84 : ∀ (n9 : Nat) (v : Nat) (H : Heap) (locs : List Loc) (ls : Array Slot), v ≤ 37 → 38 ≤ v + n9 → va_P D vwCl (wM cs am th bank rnds dn N n fc pu wh kn nm sk br ht sgz1) H → va_D A (wM cs am th bank rnds dn N n fc pu wh kn nm sk br ht sgz1) → va_S A s.heap H locs → lv_has ls 5 [(0, .ref (am 0)), (1, .int 2), (2, .int q), (3, .int (nI (manyS fn dn 2 q v))), (4, .int (nI v))] → W p l e (rmL 3 0 0) s m [.ref (am 0), .int 2, .int q].toArray below meth c H locs 0 0 Q (F0 m 84 ls []) := by
    intro n9
    induction n9 with
    | zero => intro v  H locs ls hv hf hP hD hS hl; exact absurd hf (by omega)
    | succ n9 ih84 =>
      intro v  H locs ls hv hf hP hD hS hl
      refine lv_iload hx hb dX3_many_84 (lv_at hl 4 rfl) ?_
      refine lv_bipush (v := nI 36) hx hb dX3_many_86 (by first | decide | rfl) ?_
      refine lv_icmp_gt (tgt := 146) hx hb dX3_many_88 (by decide) (fun c_4 => ?_) (fun c_4 => ?_)
      · refine lv_iload_n hx hb dX3_many_146 rfl (lv_at hl 3 rfl) ?_
        exact wr_iret hQ hx hb hr hlocks hP hD hS (by rw [show nI (manyS fn dn 2 q v) = many5 fn dn N 2 q from congrArg (fun z => nI (manyS fn dn 2 q z)) (show v = 37 from by have g := (nI_ltI (by omega) (by omega)).mp c_4; omega)]; exact hpost sgz1) dX3_many_147
      · have hv9 : v ≤ 36 := by
          rcases Nat.lt_or_ge 36 v with z | z
          · exact absurd (nI_lt z (by omega)) c_4
          · exact z
        refine lv_iload_n hx hb dX3_many_91 rfl (lv_at hl 3 rfl) ?_
        refine lv_iload_n hx hb dX3_many_92 rfl (lv_at hl 1 rfl) ?_
        refine lv_if_ne (tgt := 105) hx hb dX3_many_93 (by decide) (fun c_5 => ?_) (fun c_5 => False.elim (absurd c_5 (by decide)))
        refine lv_iload_n hx hb dX3_many_105 rfl (lv_at hl 1 rfl) ?_
        refine lv_iconst (v := 1) hx hb dX3_many_106 (by first | decide | rfl) ?_
        refine lv_icmp_ne (tgt := 119) hx hb dX3_many_107 (by decide) (fun c_6 => ?_) (fun c_6 => False.elim (absurd c_6 (by decide)))
        refine lv_iload hx hb dX3_many_119 (lv_at hl 4 rfl) ?_
        refine lv_iconst (v := 2) hx hb dX3_many_121 (by first | decide | rfl) ?_
        refine lv_irem hx hb dX3_many_122 (by decide) ?_
        refine lv_rwi (y := nI (v % 2)) (pk_rem (d := 2) (by omega) (by omega) (by omega)) ?_
        refine lv_iconst (v := 1) hx hb dX3_many_123 (by first | decide | rfl) ?_
        refine lv_icmp_ne (tgt := 137) hx hb dX3_many_124 (by decide) (fun c_7 => ?_) (fun c_7 => ?_)
        · refine lv_iconst (v := 0) hx hb dX3_many_137 (by first | decide | rfl) ?_
          refine lv_iadd hx hb dX3_many_138 ?_
          refine lv_rwi (y := nI (manyS fn dn 2 q (v + 1))) (by rw [Int32_add0, manyS_f (show selM 2 q v = false from decide_eq_false (fun z => c_7 ((nI_eq (b := 1) (by omega) (by omega)).mpr z)))]) ?_
          refine lv_istore_n (lv' := [(3, .int (nI (manyS fn dn 2 q (v + 1)))), (0, .ref (am 0)), (1, .int 2), (2, .int q), (4, .int (nI v))]) hx hb dX3_many_139 rfl hl (by decide) rfl (fun ls hl => ?_)
          refine lv_iinc (v := nI (v + 1)) (lv' := [(4, .int (nI (v + 1))), (3, .int (nI (manyS fn dn 2 q (v + 1)))), (0, .ref (am 0)), (1, .int 2), (2, .int q)]) hx hb dX3_many_140 hl (k := 4) rfl (nI_1 v) (by decide) rfl (fun ls hl => ?_)
          refine lv_goto (tgt := 84) hx hb dX3_many_143 (by decide) ?_
          exact ih84 (v + 1) H _ ls (by omega) (by omega) hP hD hS (lv_sub hl [2, 3, 4, 1, 0] rfl)
        · refine lv_aload_n hx hb dX3_many_127 rfl (lv_at hl 0 rfl) ?_
          refine va_get (D := D) (ci := 4) (v := .ref (am 9)) (C := RX3) (T := TX3) (N := 15) hx hb hts inlX3 hown hK hP 0 rfl rfl 14 (by decide) (hts (Cond.fieldLink RX3 45 "TavernDiceModel" "sums" "[I") mw_4_7) (fun _ h9 => h9) rfl dX3_many_128 ?_
          refine lv_iload hx hb dX3_many_131 (lv_at hl 4 rfl) ?_
          refine va_iald hx hb hK hP 9 0 rfl rfl (vp_in_nI (by omega) (by omega)) dX3_many_133 ?_
          refine lv_rwi (y := nI (ws9 fn dn v)) ((congrArg sgz1 (nI_clamp (by omega))).trans (hsgz1 v (by omega))) ?_
          refine lv_goto (tgt := 138) hx hb dX3_many_134 (by decide) ?_
          refine lv_iadd hx hb dX3_many_138 ?_
          refine lv_rwi (y := nI (manyS fn dn 2 q (v + 1))) (by rw [nI_add, manyS_t (show selM 2 q v = true from decide_eq_true ((nI_eq (b := 1) (by omega) (by omega)).mp c_7))]) ?_
          refine lv_istore_n (lv' := [(3, .int (nI (manyS fn dn 2 q (v + 1)))), (0, .ref (am 0)), (1, .int 2), (2, .int q), (4, .int (nI v))]) hx hb dX3_many_139 rfl hl (by decide) rfl (fun ls hl => ?_)
          refine lv_iinc (v := nI (v + 1)) (lv' := [(4, .int (nI (v + 1))), (3, .int (nI (manyS fn dn 2 q (v + 1)))), (0, .ref (am 0)), (1, .int 2), (2, .int q)]) hx hb dX3_many_140 hl (k := 4) rfl (nI_1 v) (by decide) rfl (fun ls hl => ?_)
          refine lv_goto (tgt := 84) hx hb dX3_many_143 (by decide) ?_
          exact ih84 (v + 1) H _ ls (by omega) (by omega) hP hD hS (lv_sub hl [2, 3, 4, 1, 0] rfl)
  exact loop84 38 0 H _ ls (by omega) (by omega) hP hD hS (lv_sub hl [2, 3, 4, 1, 0] rfl)
set_option maxHeartbeats 4000000 in
set_option maxRecDepth 100000 in
theorem m_manyB2 (l : Launch) (D : va_G) (cs : Nat → ClassId) (H : Heap) {am : Nat → Nat} {th bank rnds : Int32} {dn N n : Nat} {fc pu wh kn nm sk br ht sg : Nat → Int32} {fn : Nat → Nat} (hF : FM fn dn N n fc) (q : Int32) (post : Option Value → va_W → Prop) (hpost : ∀ sg9 : Nat → Int32, post (some (.int (many5 fn dn N 2 q))) (wM cs am th bank rnds dn N n fc pu wh kn nm sk br ht sg9)) (hP : va_P D vwCl (wM cs am th bank rnds dn N n fc pu wh kn nm sk br ht sg) H) (hD : va_D (fun _ => True) (wM cs am th bank rnds dn N n fc pu wh kn nm sk br ht sg)) : Wr l D cs 4 0 0 yX3_many cX3_many 5 (some .int) (wM cs am th bank rnds dn N n fc pu wh kn nm sk br ht sg) H [.ref (am 0), .int 2, .int q] post := by
  refine wr_ent (by decide) (Nat.le_of_ble_eq_true rfl) hP hD ?_
  clear hP hD H
  intro p e s m below meth c ls A Q H hx hb hr hml hown hts hlocks hin hl hK hQ hA hH hP hD hS
  clear hH
  have hl : lv_has ls 5 [(0, .ref (am 0)), (1, .int 2), (2, .int q)] := hl
  have hF0 := hF
  obtain ⟨hF3, hd1, hd3, hNe, hN1, hN, hn⟩ := hF
  refine lv_iload_n hx hb dX3_many_0 rfl (lv_at hl 1 rfl) ?_
  refine lv_iconst (v := 5) hx hb dX3_many_1 (by first | decide | rfl) ?_
  refine lv_icmp_lt (tgt := 19) hx hb dX3_many_2 (by decide) (fun c_1 => ?_) (fun c_1 => False.elim (c_1 (by decide)))
  refine lv_iload_n hx hb dX3_many_19 rfl (lv_at hl 1 rfl) ?_
  refine lv_iconst (v := 4) hx hb dX3_many_20 (by first | decide | rfl) ?_
  refine lv_icmp_ne (tgt := 35) hx hb dX3_many_21 (by decide) (fun c_2 => ?_) (fun c_2 => False.elim (absurd c_2 (by decide)))
  refine lv_iload_n hx hb dX3_many_35 rfl (lv_at hl 1 rfl) ?_
  refine lv_iconst (v := 3) hx hb dX3_many_36 (by first | decide | rfl) ?_
  refine lv_icmp_ne (tgt := 75) hx hb dX3_many_37 (by decide) (fun c_3 => ?_) (fun c_3 => False.elim (absurd c_3 (by decide)))
  refine lv_aload_n hx hb dX3_many_75 rfl (lv_at hl 0 rfl) ?_
  refine wrV (As := []) (rest := []) (b := am 0) ⟨hx, hb, hml, hown, hts⟩ hK 0 (m_add l D cs H hF0 (fun ov w1 => ov = none ∧ ∃ (sg9 : Nat → Int32), (∀ v, v < 37 → sg9 v = nI (ws9 fn dn v)) ∧ w1 = wM cs am th bank rnds dn N n fc pu wh kn nm sk br ht sg9) (fun sg9 h9 => ⟨rfl, sg9, h9, rfl⟩) hP (hD.weaken (fun _ _ _ _ => trivial))) (gin_v mw_10_11 mw_10_12 mw_10_13 mw_1_5 mw_10_14) (by decide +kernel) ⟨Nat.le_of_ble_eq_true rfl, Nat.le_of_ble_eq_true rfl⟩ (va_recv hK hP (ci := 4) (q0 := 0) rfl rfl) rfl hl.1 rfl (Nat.le_of_ble_eq_true rfl) dX3_many_76 ⟨(Nat.le_of_ble_eq_true rfl), (Nat.le_of_ble_eq_true rfl)⟩ hD hS hA (fun ov9 w9 H locs hp9 hP hD hS => ?_)
  obtain ⟨rfl, sgz1, hsgz1, rfl⟩ := hp9
  have hP : va_P D vwCl (wM cs am th bank rnds dn N n fc pu wh kn nm sk br ht sgz1) H := hP
  have hD : va_D _ (wM cs am th bank rnds dn N n fc pu wh kn nm sk br ht sgz1) := hD
  refine W.eq (g2 := F0 m 79 ls []) rfl ?_
  refine lv_iconst (v := nI (manyS fn dn 2 q 0)) hx hb dX3_many_79 (by first | decide | rfl) ?_
  refine lv_istore_n (lv' := [(3, .int (nI (manyS fn dn 2 q 0))), (0, .ref (am 0)), (1, .int 2), (2, .int q)]) hx hb dX3_many_80 rfl hl (by decide) rfl (fun ls hl => ?_)
  refine lv_iconst (v := nI 0) hx hb dX3_many_81 (by first | decide | rfl) ?_
  refine lv_istore (lv' := [(4, .int (nI 0)), (3, .int (nI (manyS fn dn 2 q 0))), (0, .ref (am 0)), (1, .int 2), (2, .int q)]) hx hb dX3_many_82 hl (by decide) rfl (fun ls hl => ?_)
  have loop84 : ∀ (n9 : Nat) (v : Nat) (H : Heap) (locs : List Loc) (ls : Array Slot), v ≤ 37 → 38 ≤ v + n9 → va_P D vwCl (wM cs am th bank rnds dn N n fc pu wh kn nm sk br ht sgz1) H → va_D A (wM cs am th bank rnds dn N n fc pu wh kn nm sk br ht sgz1) → va_S A s.heap H locs → lv_has ls 5 [(0, .ref (am 0)), (1, .int 2), (2, .int q), (3, .int (nI (manyS fn dn 2 q v))), (4, .int (nI v))] → W p l e (rmL 4 0 0) s m [.ref (am 0), .int 2, .int q].toArray below meth c H locs 0 0 Q (F0 m 84 ls []) := by
    intro n9
    induction n9 with
    | zero => intro v  H locs ls hv hf hP hD hS hl; exact absurd hf (by omega)
    | succ n9 ih84 =>
      intro v  H locs ls hv hf hP hD hS hl
      refine lv_iload hx hb dX3_many_84 (lv_at hl 4 rfl) ?_
      refine lv_bipush (v := nI 36) hx hb dX3_many_86 (by first | decide | rfl) ?_
      refine lv_icmp_gt (tgt := 146) hx hb dX3_many_88 (by decide) (fun c_4 => ?_) (fun c_4 => ?_)
      · refine lv_iload_n hx hb dX3_many_146 rfl (lv_at hl 3 rfl) ?_
        exact wr_iret hQ hx hb hr hlocks hP hD hS (by rw [show nI (manyS fn dn 2 q v) = many5 fn dn N 2 q from congrArg (fun z => nI (manyS fn dn 2 q z)) (show v = 37 from by have g := (nI_ltI (by omega) (by omega)).mp c_4; omega)]; exact hpost sgz1) dX3_many_147
      · have hv9 : v ≤ 36 := by
          rcases Nat.lt_or_ge 36 v with z | z
          · exact absurd (nI_lt z (by omega)) c_4
          · exact z
        refine lv_iload_n hx hb dX3_many_91 rfl (lv_at hl 3 rfl) ?_
        refine lv_iload_n hx hb dX3_many_92 rfl (lv_at hl 1 rfl) ?_
        refine lv_if_ne (tgt := 105) hx hb dX3_many_93 (by decide) (fun c_5 => ?_) (fun c_5 => False.elim (absurd c_5 (by decide)))
        refine lv_iload_n hx hb dX3_many_105 rfl (lv_at hl 1 rfl) ?_
        refine lv_iconst (v := 1) hx hb dX3_many_106 (by first | decide | rfl) ?_
        refine lv_icmp_ne (tgt := 119) hx hb dX3_many_107 (by decide) (fun c_6 => ?_) (fun c_6 => False.elim (absurd c_6 (by decide)))
        refine lv_iload hx hb dX3_many_119 (lv_at hl 4 rfl) ?_
        refine lv_iconst (v := 2) hx hb dX3_many_121 (by first | decide | rfl) ?_
        refine lv_irem hx hb dX3_many_122 (by decide) ?_
        refine lv_rwi (y := nI (v % 2)) (pk_rem (d := 2) (by omega) (by omega) (by omega)) ?_
        refine lv_iconst (v := 1) hx hb dX3_many_123 (by first | decide | rfl) ?_
        refine lv_icmp_ne (tgt := 137) hx hb dX3_many_124 (by decide) (fun c_7 => ?_) (fun c_7 => ?_)
        · refine lv_iconst (v := 0) hx hb dX3_many_137 (by first | decide | rfl) ?_
          refine lv_iadd hx hb dX3_many_138 ?_
          refine lv_rwi (y := nI (manyS fn dn 2 q (v + 1))) (by rw [Int32_add0, manyS_f (show selM 2 q v = false from decide_eq_false (fun z => c_7 ((nI_eq (b := 1) (by omega) (by omega)).mpr z)))]) ?_
          refine lv_istore_n (lv' := [(3, .int (nI (manyS fn dn 2 q (v + 1)))), (0, .ref (am 0)), (1, .int 2), (2, .int q), (4, .int (nI v))]) hx hb dX3_many_139 rfl hl (by decide) rfl (fun ls hl => ?_)
          refine lv_iinc (v := nI (v + 1)) (lv' := [(4, .int (nI (v + 1))), (3, .int (nI (manyS fn dn 2 q (v + 1)))), (0, .ref (am 0)), (1, .int 2), (2, .int q)]) hx hb dX3_many_140 hl (k := 4) rfl (nI_1 v) (by decide) rfl (fun ls hl => ?_)
          refine lv_goto (tgt := 84) hx hb dX3_many_143 (by decide) ?_
          exact ih84 (v + 1) H _ ls (by omega) (by omega) hP hD hS (lv_sub hl [2, 3, 4, 1, 0] rfl)
        · refine lv_aload_n hx hb dX3_many_127 rfl (lv_at hl 0 rfl) ?_
          refine va_get (D := D) (ci := 4) (v := .ref (am 9)) (C := RX3) (T := TX3) (N := 15) hx hb hts inlX3 hown hK hP 0 rfl rfl 14 (by decide) (hts (Cond.fieldLink RX3 45 "TavernDiceModel" "sums" "[I") mw_4_7) (fun _ h9 => h9) rfl dX3_many_128 ?_
          refine lv_iload hx hb dX3_many_131 (lv_at hl 4 rfl) ?_
          refine va_iald hx hb hK hP 9 0 rfl rfl (vp_in_nI (by omega) (by omega)) dX3_many_133 ?_
          refine lv_rwi (y := nI (ws9 fn dn v)) ((congrArg sgz1 (nI_clamp (by omega))).trans (hsgz1 v (by omega))) ?_
          refine lv_goto (tgt := 138) hx hb dX3_many_134 (by decide) ?_
          refine lv_iadd hx hb dX3_many_138 ?_
          refine lv_rwi (y := nI (manyS fn dn 2 q (v + 1))) (by rw [nI_add, manyS_t (show selM 2 q v = true from decide_eq_true ((nI_eq (b := 1) (by omega) (by omega)).mp c_7))]) ?_
          refine lv_istore_n (lv' := [(3, .int (nI (manyS fn dn 2 q (v + 1)))), (0, .ref (am 0)), (1, .int 2), (2, .int q), (4, .int (nI v))]) hx hb dX3_many_139 rfl hl (by decide) rfl (fun ls hl => ?_)
          refine lv_iinc (v := nI (v + 1)) (lv' := [(4, .int (nI (v + 1))), (3, .int (nI (manyS fn dn 2 q (v + 1)))), (0, .ref (am 0)), (1, .int 2), (2, .int q)]) hx hb dX3_many_140 hl (k := 4) rfl (nI_1 v) (by decide) rfl (fun ls hl => ?_)
          refine lv_goto (tgt := 84) hx hb dX3_many_143 (by decide) ?_
          exact ih84 (v + 1) H _ ls (by omega) (by omega) hP hD hS (lv_sub hl [2, 3, 4, 1, 0] rfl)
  exact loop84 38 0 H _ ls (by omega) (by omega) hP hD hS (lv_sub hl [2, 3, 4, 1, 0] rfl)
set_option maxHeartbeats 4000000 in
set_option maxRecDepth 100000 in
theorem m_many3 (l : Launch) (D : va_G) (cs : Nat → ClassId) (H : Heap) {am : Nat → Nat} {th bank rnds : Int32} {dn N n : Nat} {fc pu wh kn nm sk br ht sg : Nat → Int32} {fn : Nat → Nat} (hF : FM fn dn N n fc) (q : Int32) (post : Option Value → va_W → Prop) (hpost : ∀ sg9 : Nat → Int32, post (some (.int (many5 fn dn N 3 q))) (wM cs am th bank rnds dn N n fc pu wh kn nm sk br ht sg9)) (hP : va_P D vwCl (wM cs am th bank rnds dn N n fc pu wh kn nm sk br ht sg) H) (hD : va_D (fun _ => True) (wM cs am th bank rnds dn N n fc pu wh kn nm sk br ht sg)) : Wr l D cs 3 0 0 yX3_many cX3_many 5 (some .int) (wM cs am th bank rnds dn N n fc pu wh kn nm sk br ht sg) H [.ref (am 0), .int 3, .int q] post := by
  refine wr_ent (by decide) (Nat.le_of_ble_eq_true rfl) hP hD ?_
  clear hP hD H
  intro p e s m below meth c ls A Q H hx hb hr hml hown hts hlocks hin hl hK hQ hA hH hP hD hS
  clear hH
  have hl : lv_has ls 5 [(0, .ref (am 0)), (1, .int 3), (2, .int q)] := hl
  have hF0 := hF
  obtain ⟨hF3, hd1, hd3, hNe, hN1, hN, hn⟩ := hF
  refine lv_iload_n hx hb dX3_many_0 rfl (lv_at hl 1 rfl) ?_
  refine lv_iconst (v := 5) hx hb dX3_many_1 (by first | decide | rfl) ?_
  refine lv_icmp_lt (tgt := 19) hx hb dX3_many_2 (by decide) (fun c_1 => ?_) (fun c_1 => False.elim (c_1 (by decide)))
  refine lv_iload_n hx hb dX3_many_19 rfl (lv_at hl 1 rfl) ?_
  refine lv_iconst (v := 4) hx hb dX3_many_20 (by first | decide | rfl) ?_
  refine lv_icmp_ne (tgt := 35) hx hb dX3_many_21 (by decide) (fun c_2 => ?_) (fun c_2 => False.elim (absurd c_2 (by decide)))
  refine lv_iload_n hx hb dX3_many_35 rfl (lv_at hl 1 rfl) ?_
  refine lv_iconst (v := 3) hx hb dX3_many_36 (by first | decide | rfl) ?_
  refine lv_icmp_ne (tgt := 75) hx hb dX3_many_37 (by decide) (fun c_3 => False.elim (c_3 (by decide))) (fun c_3 => ?_)
  refine lv_bipush (v := nI (mnF fn 0)) hx hb dX3_many_40 (by first | decide | rfl) ?_
  refine lv_istore_n (lv' := [(3, .int (nI (mnF fn 0))), (0, .ref (am 0)), (1, .int 3), (2, .int q)]) hx hb dX3_many_42 rfl hl (by decide) rfl (fun ls hl => ?_)
  refine lv_iconst (v := nI 0) hx hb dX3_many_43 (by first | decide | rfl) ?_
  refine lv_istore (lv' := [(4, .int (nI 0)), (3, .int (nI (mnF fn 0))), (0, .ref (am 0)), (1, .int 3), (2, .int q)]) hx hb dX3_many_44 hl (by decide) rfl (fun ls hl => ?_)
  have loop46 : ∀ (n9 : Nat) (i : Nat) (H : Heap) (locs : List Loc) (ls : Array Slot), i ≤ dn → dn + 1 ≤ i + n9 → va_P D vwCl (wM cs am th bank rnds dn N n fc pu wh kn nm sk br ht sg) H → va_D A (wM cs am th bank rnds dn N n fc pu wh kn nm sk br ht sg) → va_S A s.heap H locs → lv_has ls 5 [(0, .ref (am 0)), (1, .int 3), (2, .int q), (3, .int (nI (mnF fn i))), (4, .int (nI i))] → W p l e (rmL 3 0 0) s m [.ref (am 0), .int 3, .int q].toArray below meth c H locs 0 0 Q (F0 m 46 ls []) := by
    intro n9
    induction n9 with
    | zero => intro i  H locs ls hi hf hP hD hS hl; exact absurd hf (by omega)
    | succ n9 ih46 =>
      intro i  H locs ls hi hf hP hD hS hl
      refine lv_iload hx hb dX3_many_46 (lv_at hl 4 rfl) ?_
      refine lv_aload_n hx hb dX3_many_48 rfl (lv_at hl 0 rfl) ?_
      refine va_get (D := D) (ci := 4) (v := .int (nI dn)) (C := RX3) (T := TX3) (N := 15) hx hb hts inlX3 hown hK hP 0 rfl rfl 2 (by decide) (hts (Cond.fieldLink RX3 13 "TavernDiceModel" "dice" "I") mw_3_20) (fun _ h9 => h9) rfl dX3_many_49 ?_
      refine lv_icmp_ge (tgt := 73) hx hb dX3_many_52 (by decide) (fun c_4 => ?_) (fun c_4 => ?_)
      · refine lv_iload_n hx hb dX3_many_73 rfl (lv_at hl 3 rfl) ?_
        exact wr_iret hQ hx hb hr hlocks hP hD hS (by rw [show nI (mnF fn i) = many5 fn dn N 3 q from congrArg (fun z => nI (mnF fn z)) (show i = dn from (by have g := (nI_leI (by omega) (by omega)).mp c_4; omega))]; exact hpost sg) dX3_many_74
      · have hlt : i < dn := by
          rcases Nat.lt_or_ge i dn with q | q
          · exact q
          · exact absurd (nI_le q (by omega)) c_4
        refine lv_iload_n hx hb dX3_many_55 rfl (lv_at hl 3 rfl) ?_
        refine lv_aload_n hx hb dX3_many_56 rfl (lv_at hl 0 rfl) ?_
        refine va_get (D := D) (ci := 4) (v := .ref (am 1)) (C := RX3) (T := TX3) (N := 15) hx hb hts inlX3 hown hK hP 0 rfl rfl 1 (by decide) (hts (Cond.fieldLink RX3 9 "TavernDiceModel" "faces" "[I") mw_3_19) (fun _ h9 => h9) rfl dX3_many_57 ?_
        refine lv_iload hx hb dX3_many_60 (lv_at hl 4 rfl) ?_
        refine va_iald hx hb hK hP 1 0 rfl rfl (vp_in_nI (by omega) (by omega)) dX3_many_62 ?_
        refine lv_rwi (y := nI (fn i)) ((congrArg fc (nI_clamp (by omega))).trans (hF3 i (by omega)).1) ?_
        refine va_mmin hx hb (hml.trans hl.1.symm) hown (hts (Cond.methodLink RX3 69 Lib.Math.min.name) mw_10_6) (hts (Cond.static Lib.Math.min.name) mw_2_14) (hts (Cond.initialized "java/lang/Math") mw_2_15) (hts (Cond.code Lib.Math.min.name Lib.Math.min.code 2 (some .int)) mw_2_16) (Nat.le_of_ble_eq_true rfl) (Nat.le_of_ble_eq_true rfl) (Nat.le_of_ble_eq_true rfl) (Nat.le_of_ble_eq_true rfl) dX3_many_63 ?_
        refine lv_rwi (y := nI (mnF fn (i + 1))) (by
          have g := hF3 i (by omega)
          have g2 := mnF_le fn i
          show _ = nI (if fn i < mnF fn i then fn i else mnF fn i)
          by_cases z : fn i < mnF fn i
          · rw [if_pos (nI_lt z (by omega)), if_pos z]
          · rw [if_neg (nI_nlt (by omega) (by omega)), if_neg z]) ?_
        refine lv_istore_n (lv' := [(3, .int (nI (mnF fn (i + 1)))), (0, .ref (am 0)), (1, .int 3), (2, .int q), (4, .int (nI i))]) hx hb dX3_many_66 rfl hl (by decide) rfl (fun ls hl => ?_)
        refine lv_iinc (v := nI (i + 1)) (lv' := [(4, .int (nI (i + 1))), (3, .int (nI (mnF fn (i + 1)))), (0, .ref (am 0)), (1, .int 3), (2, .int q)]) hx hb dX3_many_67 hl (k := 4) rfl (nI_1 i) (by decide) rfl (fun ls hl => ?_)
        refine lv_goto (tgt := 46) hx hb dX3_many_70 (by decide) ?_
        exact ih46 (i + 1) H _ ls (by omega) (by omega) hP hD hS (lv_sub hl [2, 3, 4, 1, 0] rfl)
  exact loop46 (dn + 1) 0 H _ ls (Nat.zero_le _) (by omega) hP hD hS (lv_sub hl [2, 3, 4, 1, 0] rfl)
set_option maxHeartbeats 4000000 in
set_option maxRecDepth 100000 in
theorem m_manyB3 (l : Launch) (D : va_G) (cs : Nat → ClassId) (H : Heap) {am : Nat → Nat} {th bank rnds : Int32} {dn N n : Nat} {fc pu wh kn nm sk br ht sg : Nat → Int32} {fn : Nat → Nat} (hF : FM fn dn N n fc) (q : Int32) (post : Option Value → va_W → Prop) (hpost : ∀ sg9 : Nat → Int32, post (some (.int (many5 fn dn N 3 q))) (wM cs am th bank rnds dn N n fc pu wh kn nm sk br ht sg9)) (hP : va_P D vwCl (wM cs am th bank rnds dn N n fc pu wh kn nm sk br ht sg) H) (hD : va_D (fun _ => True) (wM cs am th bank rnds dn N n fc pu wh kn nm sk br ht sg)) : Wr l D cs 4 0 0 yX3_many cX3_many 5 (some .int) (wM cs am th bank rnds dn N n fc pu wh kn nm sk br ht sg) H [.ref (am 0), .int 3, .int q] post := by
  refine wr_ent (by decide) (Nat.le_of_ble_eq_true rfl) hP hD ?_
  clear hP hD H
  intro p e s m below meth c ls A Q H hx hb hr hml hown hts hlocks hin hl hK hQ hA hH hP hD hS
  clear hH
  have hl : lv_has ls 5 [(0, .ref (am 0)), (1, .int 3), (2, .int q)] := hl
  have hF0 := hF
  obtain ⟨hF3, hd1, hd3, hNe, hN1, hN, hn⟩ := hF
  refine lv_iload_n hx hb dX3_many_0 rfl (lv_at hl 1 rfl) ?_
  refine lv_iconst (v := 5) hx hb dX3_many_1 (by first | decide | rfl) ?_
  refine lv_icmp_lt (tgt := 19) hx hb dX3_many_2 (by decide) (fun c_1 => ?_) (fun c_1 => False.elim (c_1 (by decide)))
  refine lv_iload_n hx hb dX3_many_19 rfl (lv_at hl 1 rfl) ?_
  refine lv_iconst (v := 4) hx hb dX3_many_20 (by first | decide | rfl) ?_
  refine lv_icmp_ne (tgt := 35) hx hb dX3_many_21 (by decide) (fun c_2 => ?_) (fun c_2 => False.elim (absurd c_2 (by decide)))
  refine lv_iload_n hx hb dX3_many_35 rfl (lv_at hl 1 rfl) ?_
  refine lv_iconst (v := 3) hx hb dX3_many_36 (by first | decide | rfl) ?_
  refine lv_icmp_ne (tgt := 75) hx hb dX3_many_37 (by decide) (fun c_3 => False.elim (c_3 (by decide))) (fun c_3 => ?_)
  refine lv_bipush (v := nI (mnF fn 0)) hx hb dX3_many_40 (by first | decide | rfl) ?_
  refine lv_istore_n (lv' := [(3, .int (nI (mnF fn 0))), (0, .ref (am 0)), (1, .int 3), (2, .int q)]) hx hb dX3_many_42 rfl hl (by decide) rfl (fun ls hl => ?_)
  refine lv_iconst (v := nI 0) hx hb dX3_many_43 (by first | decide | rfl) ?_
  refine lv_istore (lv' := [(4, .int (nI 0)), (3, .int (nI (mnF fn 0))), (0, .ref (am 0)), (1, .int 3), (2, .int q)]) hx hb dX3_many_44 hl (by decide) rfl (fun ls hl => ?_)
  have loop46 : ∀ (n9 : Nat) (i : Nat) (H : Heap) (locs : List Loc) (ls : Array Slot), i ≤ dn → dn + 1 ≤ i + n9 → va_P D vwCl (wM cs am th bank rnds dn N n fc pu wh kn nm sk br ht sg) H → va_D A (wM cs am th bank rnds dn N n fc pu wh kn nm sk br ht sg) → va_S A s.heap H locs → lv_has ls 5 [(0, .ref (am 0)), (1, .int 3), (2, .int q), (3, .int (nI (mnF fn i))), (4, .int (nI i))] → W p l e (rmL 4 0 0) s m [.ref (am 0), .int 3, .int q].toArray below meth c H locs 0 0 Q (F0 m 46 ls []) := by
    intro n9
    induction n9 with
    | zero => intro i  H locs ls hi hf hP hD hS hl; exact absurd hf (by omega)
    | succ n9 ih46 =>
      intro i  H locs ls hi hf hP hD hS hl
      refine lv_iload hx hb dX3_many_46 (lv_at hl 4 rfl) ?_
      refine lv_aload_n hx hb dX3_many_48 rfl (lv_at hl 0 rfl) ?_
      refine va_get (D := D) (ci := 4) (v := .int (nI dn)) (C := RX3) (T := TX3) (N := 15) hx hb hts inlX3 hown hK hP 0 rfl rfl 2 (by decide) (hts (Cond.fieldLink RX3 13 "TavernDiceModel" "dice" "I") mw_3_20) (fun _ h9 => h9) rfl dX3_many_49 ?_
      refine lv_icmp_ge (tgt := 73) hx hb dX3_many_52 (by decide) (fun c_4 => ?_) (fun c_4 => ?_)
      · refine lv_iload_n hx hb dX3_many_73 rfl (lv_at hl 3 rfl) ?_
        exact wr_iret hQ hx hb hr hlocks hP hD hS (by rw [show nI (mnF fn i) = many5 fn dn N 3 q from congrArg (fun z => nI (mnF fn z)) (show i = dn from (by have g := (nI_leI (by omega) (by omega)).mp c_4; omega))]; exact hpost sg) dX3_many_74
      · have hlt : i < dn := by
          rcases Nat.lt_or_ge i dn with q | q
          · exact q
          · exact absurd (nI_le q (by omega)) c_4
        refine lv_iload_n hx hb dX3_many_55 rfl (lv_at hl 3 rfl) ?_
        refine lv_aload_n hx hb dX3_many_56 rfl (lv_at hl 0 rfl) ?_
        refine va_get (D := D) (ci := 4) (v := .ref (am 1)) (C := RX3) (T := TX3) (N := 15) hx hb hts inlX3 hown hK hP 0 rfl rfl 1 (by decide) (hts (Cond.fieldLink RX3 9 "TavernDiceModel" "faces" "[I") mw_3_19) (fun _ h9 => h9) rfl dX3_many_57 ?_
        refine lv_iload hx hb dX3_many_60 (lv_at hl 4 rfl) ?_
        refine va_iald hx hb hK hP 1 0 rfl rfl (vp_in_nI (by omega) (by omega)) dX3_many_62 ?_
        refine lv_rwi (y := nI (fn i)) ((congrArg fc (nI_clamp (by omega))).trans (hF3 i (by omega)).1) ?_
        refine va_mmin hx hb (hml.trans hl.1.symm) hown (hts (Cond.methodLink RX3 69 Lib.Math.min.name) mw_10_6) (hts (Cond.static Lib.Math.min.name) mw_2_14) (hts (Cond.initialized "java/lang/Math") mw_2_15) (hts (Cond.code Lib.Math.min.name Lib.Math.min.code 2 (some .int)) mw_2_16) (Nat.le_of_ble_eq_true rfl) (Nat.le_of_ble_eq_true rfl) (Nat.le_of_ble_eq_true rfl) (Nat.le_of_ble_eq_true rfl) dX3_many_63 ?_
        refine lv_rwi (y := nI (mnF fn (i + 1))) (by
          have g := hF3 i (by omega)
          have g2 := mnF_le fn i
          show _ = nI (if fn i < mnF fn i then fn i else mnF fn i)
          by_cases z : fn i < mnF fn i
          · rw [if_pos (nI_lt z (by omega)), if_pos z]
          · rw [if_neg (nI_nlt (by omega) (by omega)), if_neg z]) ?_
        refine lv_istore_n (lv' := [(3, .int (nI (mnF fn (i + 1)))), (0, .ref (am 0)), (1, .int 3), (2, .int q), (4, .int (nI i))]) hx hb dX3_many_66 rfl hl (by decide) rfl (fun ls hl => ?_)
        refine lv_iinc (v := nI (i + 1)) (lv' := [(4, .int (nI (i + 1))), (3, .int (nI (mnF fn (i + 1)))), (0, .ref (am 0)), (1, .int 3), (2, .int q)]) hx hb dX3_many_67 hl (k := 4) rfl (nI_1 i) (by decide) rfl (fun ls hl => ?_)
        refine lv_goto (tgt := 46) hx hb dX3_many_70 (by decide) ?_
        exact ih46 (i + 1) H _ ls (by omega) (by omega) hP hD hS (lv_sub hl [2, 3, 4, 1, 0] rfl)
  exact loop46 (dn + 1) 0 H _ ls (Nat.zero_le _) (by omega) hP hD hS (lv_sub hl [2, 3, 4, 1, 0] rfl)
set_option maxHeartbeats 4000000 in
set_option maxRecDepth 100000 in
theorem m_many4 (l : Launch) (D : va_G) (cs : Nat → ClassId) (H : Heap) {am : Nat → Nat} {th bank rnds : Int32} {dn N n : Nat} {fc pu wh kn nm sk br ht sg : Nat → Int32} {fn : Nat → Nat} (hF : FM fn dn N n fc) (q : Int32) (post : Option Value → va_W → Prop) (hpost : ∀ sg9 : Nat → Int32, post (some (.int (many5 fn dn N 4 q))) (wM cs am th bank rnds dn N n fc pu wh kn nm sk br ht sg9)) (hP : va_P D vwCl (wM cs am th bank rnds dn N n fc pu wh kn nm sk br ht sg) H) (hD : va_D (fun _ => True) (wM cs am th bank rnds dn N n fc pu wh kn nm sk br ht sg)) : Wr l D cs 3 0 0 yX3_many cX3_many 5 (some .int) (wM cs am th bank rnds dn N n fc pu wh kn nm sk br ht sg) H [.ref (am 0), .int 4, .int q] post := by
  refine wr_ent (by decide) (Nat.le_of_ble_eq_true rfl) hP hD ?_
  clear hP hD H
  intro p e s m below meth c ls A Q H hx hb hr hml hown hts hlocks hin hl hK hQ hA hH hP hD hS
  clear hH
  have hl : lv_has ls 5 [(0, .ref (am 0)), (1, .int 4), (2, .int q)] := hl
  have hF0 := hF
  obtain ⟨hF3, hd1, hd3, hNe, hN1, hN, hn⟩ := hF
  refine lv_iload_n hx hb dX3_many_0 rfl (lv_at hl 1 rfl) ?_
  refine lv_iconst (v := 5) hx hb dX3_many_1 (by first | decide | rfl) ?_
  refine lv_icmp_lt (tgt := 19) hx hb dX3_many_2 (by decide) (fun c_1 => ?_) (fun c_1 => False.elim (c_1 (by decide)))
  refine lv_iload_n hx hb dX3_many_19 rfl (lv_at hl 1 rfl) ?_
  refine lv_iconst (v := 4) hx hb dX3_many_20 (by first | decide | rfl) ?_
  refine lv_icmp_ne (tgt := 35) hx hb dX3_many_21 (by decide) (fun c_2 => False.elim (c_2 (by decide))) (fun c_2 => ?_)
  refine lv_aload_n hx hb dX3_many_24 rfl (lv_at hl 0 rfl) ?_
  refine va_get (D := D) (ci := 4) (v := .int (nI N)) (C := RX3) (T := TX3) (N := 15) hx hb hts inlX3 hown hK hP 0 rfl rfl 3 (by decide) (hts (Cond.fieldLink RX3 17 "TavernDiceModel" "outcomes" "I") mw_3_21) (fun _ h9 => h9) rfl dX3_many_25 ?_
  refine lv_aload_n hx hb dX3_many_28 rfl (lv_at hl 0 rfl) ?_
  refine lv_iload_n hx hb dX3_many_29 rfl (lv_at hl 2 rfl) ?_
  refine rdV (As := [.int q]) (rest := [.int (nI N)]) (b := am 0) ⟨hx, hb, hml, hown, hts⟩ hK 1 (m_without l D cs H hP hF0 q) (gin_v mw_10_7 mw_10_8 mw_10_9 mw_1_5 mw_10_10) (by decide +kernel) ⟨Nat.le_of_ble_eq_true rfl, Nat.le_of_ble_eq_true rfl⟩ (va_recv hK hP (ci := 4) (q0 := 0) rfl rfl) rfl hl.1 rfl (Nat.le_of_ble_eq_true rfl) dX3_many_30 ⟨(Nat.le_of_ble_eq_true rfl), (Nat.le_of_ble_eq_true rfl)⟩ ?_
  refine W.eq (g2 := F0 m 33 ls [.int (nI (withoutM fn q dn)), .int (nI N)]) rfl ?_
  refine lv_isub hx hb dX3_many_33 ?_
  exact wr_iret hQ hx hb hr hlocks hP hD hS (hpost sg) dX3_many_34
set_option maxHeartbeats 4000000 in
set_option maxRecDepth 100000 in
theorem m_manyB4 (l : Launch) (D : va_G) (cs : Nat → ClassId) (H : Heap) {am : Nat → Nat} {th bank rnds : Int32} {dn N n : Nat} {fc pu wh kn nm sk br ht sg : Nat → Int32} {fn : Nat → Nat} (hF : FM fn dn N n fc) (q : Int32) (post : Option Value → va_W → Prop) (hpost : ∀ sg9 : Nat → Int32, post (some (.int (many5 fn dn N 4 q))) (wM cs am th bank rnds dn N n fc pu wh kn nm sk br ht sg9)) (hP : va_P D vwCl (wM cs am th bank rnds dn N n fc pu wh kn nm sk br ht sg) H) (hD : va_D (fun _ => True) (wM cs am th bank rnds dn N n fc pu wh kn nm sk br ht sg)) : Wr l D cs 4 0 0 yX3_many cX3_many 5 (some .int) (wM cs am th bank rnds dn N n fc pu wh kn nm sk br ht sg) H [.ref (am 0), .int 4, .int q] post := by
  refine wr_ent (by decide) (Nat.le_of_ble_eq_true rfl) hP hD ?_
  clear hP hD H
  intro p e s m below meth c ls A Q H hx hb hr hml hown hts hlocks hin hl hK hQ hA hH hP hD hS
  clear hH
  have hl : lv_has ls 5 [(0, .ref (am 0)), (1, .int 4), (2, .int q)] := hl
  have hF0 := hF
  obtain ⟨hF3, hd1, hd3, hNe, hN1, hN, hn⟩ := hF
  refine lv_iload_n hx hb dX3_many_0 rfl (lv_at hl 1 rfl) ?_
  refine lv_iconst (v := 5) hx hb dX3_many_1 (by first | decide | rfl) ?_
  refine lv_icmp_lt (tgt := 19) hx hb dX3_many_2 (by decide) (fun c_1 => ?_) (fun c_1 => False.elim (c_1 (by decide)))
  refine lv_iload_n hx hb dX3_many_19 rfl (lv_at hl 1 rfl) ?_
  refine lv_iconst (v := 4) hx hb dX3_many_20 (by first | decide | rfl) ?_
  refine lv_icmp_ne (tgt := 35) hx hb dX3_many_21 (by decide) (fun c_2 => False.elim (c_2 (by decide))) (fun c_2 => ?_)
  refine lv_aload_n hx hb dX3_many_24 rfl (lv_at hl 0 rfl) ?_
  refine va_get (D := D) (ci := 4) (v := .int (nI N)) (C := RX3) (T := TX3) (N := 15) hx hb hts inlX3 hown hK hP 0 rfl rfl 3 (by decide) (hts (Cond.fieldLink RX3 17 "TavernDiceModel" "outcomes" "I") mw_3_21) (fun _ h9 => h9) rfl dX3_many_25 ?_
  refine lv_aload_n hx hb dX3_many_28 rfl (lv_at hl 0 rfl) ?_
  refine lv_iload_n hx hb dX3_many_29 rfl (lv_at hl 2 rfl) ?_
  refine rdV (As := [.int q]) (rest := [.int (nI N)]) (b := am 0) ⟨hx, hb, hml, hown, hts⟩ hK 1 (m_without l D cs H hP hF0 q) (gin_v mw_10_7 mw_10_8 mw_10_9 mw_1_5 mw_10_10) (by decide +kernel) ⟨Nat.le_of_ble_eq_true rfl, Nat.le_of_ble_eq_true rfl⟩ (va_recv hK hP (ci := 4) (q0 := 0) rfl rfl) rfl hl.1 rfl (Nat.le_of_ble_eq_true rfl) dX3_many_30 ⟨(Nat.le_of_ble_eq_true rfl), (Nat.le_of_ble_eq_true rfl)⟩ ?_
  refine W.eq (g2 := F0 m 33 ls [.int (nI (withoutM fn q dn)), .int (nI N)]) rfl ?_
  refine lv_isub hx hb dX3_many_33 ?_
  exact wr_iret hQ hx hb hr hlocks hP hD hS (hpost sg) dX3_many_34
theorem m_many5 (l : Launch) (D : va_G) (cs : Nat → ClassId) (H : Heap) {am : Nat → Nat} {th bank rnds : Int32} {dn N n : Nat} {fc pu wh kn nm sk br ht sg : Nat → Int32} {fn : Nat → Nat} (hF : FM fn dn N n fc) (k : Nat) (hk : k < 5) (q : Int32) (post : Option Value → va_W → Prop) (hpost : ∀ sg9 : Nat → Int32, post (some (.int (many5 fn dn N k q))) (wM cs am th bank rnds dn N n fc pu wh kn nm sk br ht sg9)) (hP : va_P D vwCl (wM cs am th bank rnds dn N n fc pu wh kn nm sk br ht sg) H) (hD : va_D (fun _ => True) (wM cs am th bank rnds dn N n fc pu wh kn nm sk br ht sg)) : Wr l D cs 3 0 0 yX3_many cX3_many 5 (some .int) (wM cs am th bank rnds dn N n fc pu wh kn nm sk br ht sg) H [.ref (am 0), .int (nI k), .int q] post := by
  match k, hk with
  | 0, _ => exact m_many0 l D cs H hF q post hpost hP hD
  | 1, _ => exact m_many1 l D cs H hF q post hpost hP hD
  | 2, _ => exact m_many2 l D cs H hF q post hpost hP hD
  | 3, _ => exact m_many3 l D cs H hF q post hpost hP hD
  | 4, _ => exact m_many4 l D cs H hF q post hpost hP hD
  | k + 5, h => exact absurd h (by omega)
theorem m_manyB5 (l : Launch) (D : va_G) (cs : Nat → ClassId) (H : Heap) {am : Nat → Nat} {th bank rnds : Int32} {dn N n : Nat} {fc pu wh kn nm sk br ht sg : Nat → Int32} {fn : Nat → Nat} (hF : FM fn dn N n fc) (k : Nat) (hk : k < 5) (q : Int32) (post : Option Value → va_W → Prop) (hpost : ∀ sg9 : Nat → Int32, post (some (.int (many5 fn dn N k q))) (wM cs am th bank rnds dn N n fc pu wh kn nm sk br ht sg9)) (hP : va_P D vwCl (wM cs am th bank rnds dn N n fc pu wh kn nm sk br ht sg) H) (hD : va_D (fun _ => True) (wM cs am th bank rnds dn N n fc pu wh kn nm sk br ht sg)) : Wr l D cs 4 0 0 yX3_many cX3_many 5 (some .int) (wM cs am th bank rnds dn N n fc pu wh kn nm sk br ht sg) H [.ref (am 0), .int (nI k), .int q] post := by
  match k, hk with
  | 0, _ => exact m_manyB0 l D cs H hF q post hpost hP hD
  | 1, _ => exact m_manyB1 l D cs H hF q post hpost hP hD
  | 2, _ => exact m_manyB2 l D cs H hF q post hpost hP hD
  | 3, _ => exact m_manyB3 l D cs H hF q post hpost hP hD
  | 4, _ => exact m_manyB4 l D cs H hF q post hpost hP hD
  | k + 5, h => exact absurd h (by omega)
set_option maxHeartbeats 4000000 in
set_option maxRecDepth 100000 in
theorem m_manyH (l : Launch) (D : va_G) (cs : Nat → ClassId) (H : Heap) {am : Nat → Nat} {th bank rnds : Int32} {dn N n : Nat} {fc pu wh kn nm sk br ht sg : Nat → Int32} {fn : Nat → Nat} (hF : FM fn dn N n fc) (k : Nat) (hk5 : 5 ≤ k) (hk : k < 10) (q : Int32) (post : Option Value → va_W → Prop) (hpost : ∀ sg9 : Nat → Int32, post (some (.int (manyM fn dn N k q))) (wM cs am th bank rnds dn N n fc pu wh kn nm sk br ht sg9)) (hP : va_P D vwCl (wM cs am th bank rnds dn N n fc pu wh kn nm sk br ht sg) H) (hD : va_D (fun _ => True) (wM cs am th bank rnds dn N n fc pu wh kn nm sk br ht sg)) : Wr l D cs 4 0 0 yX3_many cX3_many 5 (some .int) (wM cs am th bank rnds dn N n fc pu wh kn nm sk br ht sg) H [.ref (am 0), .int (nI k), .int q] post := by
  refine wr_ent (by decide) (Nat.le_of_ble_eq_true rfl) hP hD ?_
  clear hP hD H
  intro p e s m below meth c ls A Q H hx hb hr hml hown hts hlocks hin hl hK hQ hA hH hP hD hS
  clear hH
  have hl : lv_has ls 5 [(0, .ref (am 0)), (1, .int (nI k)), (2, .int q)] := hl
  have hF0 := hF
  obtain ⟨hF3, hd1, hd3, hNe, hN1, hN, hn⟩ := hF
  refine lv_iload_n hx hb dX3_many_0 rfl (lv_at hl 1 rfl) ?_
  refine lv_iconst (v := nI 5) hx hb dX3_many_1 (by first | decide | rfl) ?_
  refine lv_icmp_lt (tgt := 19) hx hb dX3_many_2 (by decide) (fun c_1 => False.elim (absurd c_1 (nI_nlt hk5 (by omega)))) (fun c_1 => ?_)
  refine lv_aload_n hx hb dX3_many_5 rfl (lv_at hl 0 rfl) ?_
  refine va_get (D := D) (ci := 4) (v := .int (nI N)) (C := RX3) (T := TX3) (N := 15) hx hb hts inlX3 hown hK hP 0 rfl rfl 3 (by decide) (hts (Cond.fieldLink RX3 17 "TavernDiceModel" "outcomes" "I") mw_3_21) (fun _ h9 => h9) rfl dX3_many_6 ?_
  refine lv_aload_n hx hb dX3_many_9 rfl (lv_at hl 0 rfl) ?_
  refine lv_iload_n hx hb dX3_many_10 rfl (lv_at hl 1 rfl) ?_
  refine lv_iconst (v := nI 5) hx hb dX3_many_11 (by first | decide | rfl) ?_
  refine lv_isub hx hb dX3_many_12 ?_
  refine lv_rwi (y := nI (k - 5)) (pk_sub hk5) ?_
  refine lv_iload_n hx hb dX3_many_13 rfl (lv_at hl 2 rfl) ?_
  refine wrV (As := [.int (nI (k - 5)), .int q]) (rest := [.int (nI N)]) (b := am 0) ⟨hx, hb, hml, hown, hts⟩ hK 2 (m_many5 l D cs H hF0 ((k - 5)) (by omega) q (fun ov w1 => ov = some (.int (many5 fn dn N ((k - 5)) q)) ∧ ∃ (sg9 : Nat → Int32), w1 = wM cs am th bank rnds dn N n fc pu wh kn nm sk br ht sg9) (fun sg9 => ⟨rfl, sg9, rfl⟩) hP (hD.weaken (fun _ _ _ _ => trivial))) (gin_v mw_10_2 mw_10_3 mw_10_4 mw_1_5 mw_10_5) (by decide +kernel) ⟨Nat.le_of_ble_eq_true rfl, Nat.le_of_ble_eq_true rfl⟩ (va_recv hK hP (ci := 4) (q0 := 0) rfl rfl) rfl hl.1 rfl (Nat.le_of_ble_eq_true rfl) dX3_many_14 ⟨(Nat.le_of_ble_eq_true rfl), (Nat.le_of_ble_eq_true rfl)⟩ hD hS hA (fun ov9 w9 H locs hp9 hP hD hS => ?_)
  obtain ⟨rfl, sgz1, rfl⟩ := hp9
  have hP : va_P D vwCl (wM cs am th bank rnds dn N n fc pu wh kn nm sk br ht sgz1) H := hP
  have hD : va_D _ (wM cs am th bank rnds dn N n fc pu wh kn nm sk br ht sgz1) := hD
  refine W.eq (g2 := F0 m 17 ls [.int (many5 fn dn N ((k - 5)) q), .int (nI N)]) rfl ?_
  refine lv_isub hx hb dX3_many_17 ?_
  exact wr_iret hQ hx hb hr hlocks hP hD hS (by rw [← show manyM fn dn N k q = nI N - many5 fn dn N (k - 5) q from if_neg (by omega)]; exact hpost sgz1) dX3_many_18
theorem m_manyA (l : Launch) (D : va_G) (cs : Nat → ClassId) (H : Heap) {am : Nat → Nat} {th bank rnds : Int32} {dn N n : Nat} {fc pu wh kn nm sk br ht sg : Nat → Int32} {fn : Nat → Nat} (hF : FM fn dn N n fc) (k : Nat) (hk : k < 10) (q : Int32) (post : Option Value → va_W → Prop) (hpost : ∀ sg9 : Nat → Int32, post (some (.int (manyM fn dn N k q))) (wM cs am th bank rnds dn N n fc pu wh kn nm sk br ht sg9)) (hP : va_P D vwCl (wM cs am th bank rnds dn N n fc pu wh kn nm sk br ht sg) H) (hD : va_D (fun _ => True) (wM cs am th bank rnds dn N n fc pu wh kn nm sk br ht sg)) : Wr l D cs 4 0 0 yX3_many cX3_many 5 (some .int) (wM cs am th bank rnds dn N n fc pu wh kn nm sk br ht sg) H [.ref (am 0), .int (nI k), .int q] post := by
  rcases Nat.lt_or_ge k 5 with h | h
  · refine m_manyB5 l D cs H hF k h q post (fun sg9 => ?_) hP hD
    rw [← show manyM fn dn N k q = many5 fn dn N k q from if_pos h]
    exact hpost sg9
  · exact m_manyH l D cs H hF k h hk q post hpost hP hD
set_option maxHeartbeats 4000000 in
set_option maxRecDepth 100000 in
theorem m_edge (l : Launch) (D : va_G) (cs : Nat → ClassId) (H : Heap) {am : Nat → Nat} {th bank rnds : Int32} {dn N n : Nat} {fc pu wh kn nm sk br ht sg : Nat → Int32} {fn : Nat → Nat} (hF : FM fn dn N n fc) {kd : Nat → Nat} (hkd : ∀ i, i < n → kn i = nI (kd i) ∧ kd i < 10) (i : Nat) (hlt : i < n) (post : Option Value → va_W → Prop) (hpost : ∀ sg9 : Nat → Int32, post (some (.int (edM fn dn N kd nm sk br i))) (wM cs am th bank rnds dn N n fc pu wh kn nm sk br ht sg9)) (hP : va_P D vwCl (wM cs am th bank rnds dn N n fc pu wh kn nm sk br ht sg) H) (hD : va_D (fun _ => True) (wM cs am th bank rnds dn N n fc pu wh kn nm sk br ht sg)) : Wr l D cs 5 0 0 yX3_edge cX3_edge 3 (some .int) (wM cs am th bank rnds dn N n fc pu wh kn nm sk br ht sg) H [.ref (am 0), .int (nI i)] post := by
  refine wr_ent (by decide) (Nat.le_of_ble_eq_true rfl) hP hD ?_
  clear hP hD H
  intro p e s m below meth c ls A Q H hx hb hr hml hown hts hlocks hin hl hK hQ hA hH hP hD hS
  clear hH
  have hl : lv_has ls 3 [(0, .ref (am 0)), (1, .int (nI i))] := hl
  have hF0 := hF
  obtain ⟨hF3, hd1, hd3, hNe, hN1, hN, hn⟩ := hF
  refine lv_aload_n hx hb dX3_edge_0 rfl (lv_at hl 0 rfl) ?_
  refine lv_aload_n hx hb dX3_edge_1 rfl (lv_at hl 0 rfl) ?_
  refine va_get (D := D) (ci := 4) (v := .ref (am 4)) (C := RX3) (T := TX3) (N := 15) hx hb hts inlX3 hown hK hP 0 rfl rfl 9 (by decide) (hts (Cond.fieldLink RX3 29 "TavernDiceModel" "kind" "[I") mw_4_1) (fun _ h9 => h9) rfl dX3_edge_2 ?_
  refine lv_iload_n hx hb dX3_edge_5 rfl (lv_at hl 1 rfl) ?_
  refine va_iald hx hb hK hP 4 0 rfl rfl (vp_in_nI (by omega) (by omega)) dX3_edge_6 ?_
  refine lv_rwi (y := nI (kd i)) ((congrArg kn (nI_clamp (by omega))).trans (hkd i hlt).1) ?_
  refine lv_aload_n hx hb dX3_edge_7 rfl (lv_at hl 0 rfl) ?_
  refine va_get (D := D) (ci := 4) (v := .ref (am 5)) (C := RX3) (T := TX3) (N := 15) hx hb hts inlX3 hown hK hP 0 rfl rfl 10 (by decide) (hts (Cond.fieldLink RX3 32 "TavernDiceModel" "number" "[I") mw_4_2) (fun _ h9 => h9) rfl dX3_edge_8 ?_
  refine lv_iload_n hx hb dX3_edge_11 rfl (lv_at hl 1 rfl) ?_
  refine va_iald hx hb hK hP 5 0 rfl rfl (vp_in_nI (by omega) (by omega)) dX3_edge_12 ?_
  refine lv_rwi (y := nm i) (congrArg nm (nI_clamp (by omega))) ?_
  refine wrV (As := [.int (nI (kd i)), .int (nm i)]) (rest := []) (b := am 0) ⟨hx, hb, hml, hown, hts⟩ hK 2 (m_manyA l D cs H hF0 ((kd i)) (hkd i hlt).2 (nm i) (fun ov w1 => ov = some (.int (manyM fn dn N ((kd i)) (nm i))) ∧ ∃ (sg9 : Nat → Int32), w1 = wM cs am th bank rnds dn N n fc pu wh kn nm sk br ht sg9) (fun sg9 => ⟨rfl, sg9, rfl⟩) hP (hD.weaken (fun _ _ _ _ => trivial))) (gin_v mw_10_2 mw_10_3 mw_10_4 mw_1_5 mw_10_5) (by decide +kernel) ⟨Nat.le_of_ble_eq_true rfl, Nat.le_of_ble_eq_true rfl⟩ (va_recv hK hP (ci := 4) (q0 := 0) rfl rfl) rfl hl.1 rfl (Nat.le_of_ble_eq_true rfl) dX3_edge_13 ⟨(Nat.le_of_ble_eq_true rfl), (Nat.le_of_ble_eq_true rfl)⟩ hD hS hA (fun ov9 w9 H locs hp9 hP hD hS => ?_)
  obtain ⟨rfl, sgz1, rfl⟩ := hp9
  have hP : va_P D vwCl (wM cs am th bank rnds dn N n fc pu wh kn nm sk br ht sgz1) H := hP
  have hD : va_D _ (wM cs am th bank rnds dn N n fc pu wh kn nm sk br ht sgz1) := hD
  refine W.eq (g2 := F0 m 16 ls [.int (manyM fn dn N ((kd i)) (nm i))]) rfl ?_
  refine lv_istore_n (lv' := [(2, .int (manyM fn dn N ((kd i)) (nm i))), (0, .ref (am 0)), (1, .int (nI i))]) hx hb dX3_edge_16 rfl hl (by decide) rfl (fun ls hl => ?_)
  refine lv_aload_n hx hb dX3_edge_17 rfl (lv_at hl 1 rfl) ?_
  refine va_get (D := D) (ci := 4) (v := .ref (am 6)) (C := RX3) (T := TX3) (N := 15) hx hb hts inlX3 hown hK hP 0 rfl rfl 11 (by decide) (hts (Cond.fieldLink RX3 35 "TavernDiceModel" "stake" "[I") mw_4_3) (fun _ h9 => h9) rfl dX3_edge_18 ?_
  refine lv_iload_n hx hb dX3_edge_21 rfl (lv_at hl 2 rfl) ?_
  refine va_iald hx hb hK hP 6 0 rfl rfl (vp_in_nI (by omega) (by omega)) dX3_edge_22 ?_
  refine lv_rwi (y := sk i) (congrArg sk (nI_clamp (by omega))) ?_
  refine lv_aload_n hx hb dX3_edge_23 rfl (lv_at hl 1 rfl) ?_
  refine va_get (D := D) (ci := 4) (v := .int (nI N)) (C := RX3) (T := TX3) (N := 15) hx hb hts inlX3 hown hK hP 0 rfl rfl 3 (by decide) (hts (Cond.fieldLink RX3 17 "TavernDiceModel" "outcomes" "I") mw_3_21) (fun _ h9 => h9) rfl dX3_edge_24 ?_
  refine lv_iload_n hx hb dX3_edge_27 rfl (lv_at hl 0 rfl) ?_
  refine lv_isub hx hb dX3_edge_28 ?_
  refine lv_imul hx hb dX3_edge_29 ?_
  refine lv_aload_n hx hb dX3_edge_30 rfl (lv_at hl 1 rfl) ?_
  refine va_get (D := D) (ci := 4) (v := .ref (am 7)) (C := RX3) (T := TX3) (N := 15) hx hb hts inlX3 hown hK hP 0 rfl rfl 12 (by decide) (hts (Cond.fieldLink RX3 38 "TavernDiceModel" "brings" "[I") mw_4_4) (fun _ h9 => h9) rfl dX3_edge_31 ?_
  refine lv_iload_n hx hb dX3_edge_34 rfl (lv_at hl 2 rfl) ?_
  refine va_iald hx hb hK hP 7 0 rfl rfl (vp_in_nI (by omega) (by omega)) dX3_edge_35 ?_
  refine lv_rwi (y := br i) (congrArg br (nI_clamp (by omega))) ?_
  refine lv_iload_n hx hb dX3_edge_36 rfl (lv_at hl 0 rfl) ?_
  refine lv_imul hx hb dX3_edge_37 ?_
  refine lv_isub hx hb dX3_edge_38 ?_
  exact wr_iret hQ hx hb hr hlocks hP hD hS (hpost sgz1) dX3_edge_39
set_option maxHeartbeats 4000000 in
set_option maxRecDepth 100000 in
theorem m_edges (l : Launch) (D : va_G) (cs : Nat → ClassId) (H : Heap) {am : Nat → Nat} {th bank rnds : Int32} {dn N n : Nat} {fc pu wh kn nm sk br ht sg : Nat → Int32} {fn : Nat → Nat} (hF : FM fn dn N n fc) {kd : Nat → Nat} (hkd : ∀ i, i < n → kn i = nI (kd i) ∧ kd i < 10) (post : Option Value → va_W → Prop) (hpost : ∀ sg9 : Nat → Int32, post (some (.int (sm (edM fn dn N kd nm sk br) n))) (wM cs am th bank rnds dn N n fc pu wh kn nm sk br ht sg9)) (hP : va_P D vwCl (wM cs am th bank rnds dn N n fc pu wh kn nm sk br ht sg) H) (hD : va_D (fun _ => True) (wM cs am th bank rnds dn N n fc pu wh kn nm sk br ht sg)) : Wr l D cs 6 0 0 yX3_edges cX3_edges 3 (some .int) (wM cs am th bank rnds dn N n fc pu wh kn nm sk br ht sg) H [.ref (am 0)] post := by
  refine wr_ent (by decide) (Nat.le_of_ble_eq_true rfl) hP hD ?_
  clear hP hD H
  intro p e s m below meth c ls A Q H hx hb hr hml hown hts hlocks hin hl hK hQ hA hH hP hD hS
  clear hH
  have hl : lv_has ls 3 [(0, .ref (am 0))] := hl
  have hF0 := hF
  obtain ⟨hF3, hd1, hd3, hNe, hN1, hN, hn⟩ := hF
  refine lv_iconst (v := sm (edM fn dn N kd nm sk br) 0) hx hb dX3_edges_0 (by first | decide | rfl) ?_
  refine lv_istore_n (lv' := [(1, .int (sm (edM fn dn N kd nm sk br) 0)), (0, .ref (am 0))]) hx hb dX3_edges_1 rfl hl (by decide) rfl (fun ls hl => ?_)
  refine lv_iconst (v := nI 0) hx hb dX3_edges_2 (by first | decide | rfl) ?_
  refine lv_istore_n (lv' := [(2, .int (nI 0)), (1, .int (sm (edM fn dn N kd nm sk br) 0)), (0, .ref (am 0))]) hx hb dX3_edges_3 rfl hl (by decide) rfl (fun ls hl => ?_)
  have loop4 : ∀ (n9 : Nat) (i : Nat) (sgx : Nat → Int32) (H : Heap) (locs : List Loc) (ls : Array Slot), i ≤ n → n + 1 ≤ i + n9 → va_P D vwCl (wM cs am th bank rnds dn N n fc pu wh kn nm sk br ht sgx) H → va_D A (wM cs am th bank rnds dn N n fc pu wh kn nm sk br ht sgx) → va_S A s.heap H locs → lv_has ls 3 [(0, .ref (am 0)), (1, .int (sm (edM fn dn N kd nm sk br) i)), (2, .int (nI i))] → W p l e (rmL 6 0 0) s m [.ref (am 0)].toArray below meth c H locs 0 0 Q (F0 m 4 ls []) := by
    intro n9
    induction n9 with
    | zero => intro i  sgx  H locs ls hi hf hP hD hS hl; exact absurd hf (by omega)
    | succ n9 ih4 =>
      intro i  sgx  H locs ls hi hf hP hD hS hl
      refine lv_iload_n hx hb dX3_edges_4 rfl (lv_at hl 2 rfl) ?_
      refine lv_aload_n hx hb dX3_edges_5 rfl (lv_at hl 0 rfl) ?_
      refine va_get (D := D) (ci := 4) (v := .int (nI n)) (C := RX3) (T := TX3) (N := 15) hx hb hts inlX3 hown hK hP 0 rfl rfl 7 (by decide) (hts (Cond.fieldLink RX3 51 "TavernDiceModel" "open" "I") mw_5_16) (fun _ h9 => h9) rfl dX3_edges_6 ?_
      refine lv_icmp_ge (tgt := 26) hx hb dX3_edges_9 (by decide) (fun c_1 => ?_) (fun c_1 => ?_)
      · refine lv_iload_n hx hb dX3_edges_26 rfl (lv_at hl 1 rfl) ?_
        exact wr_iret hQ hx hb hr hlocks hP hD hS (by rw [show i = n from (by have g := (nI_leI (by omega) (by omega)).mp c_1; omega)]; exact hpost sgx) dX3_edges_27
      · have hlt : i < n := by
          rcases Nat.lt_or_ge i n with q | q
          · exact q
          · exact absurd (nI_le q (by omega)) c_1
        refine lv_iload_n hx hb dX3_edges_12 rfl (lv_at hl 1 rfl) ?_
        refine lv_aload_n hx hb dX3_edges_13 rfl (lv_at hl 0 rfl) ?_
        refine lv_iload_n hx hb dX3_edges_14 rfl (lv_at hl 2 rfl) ?_
        refine wrV (As := [.int (nI i)]) (rest := [.int (sm (edM fn dn N kd nm sk br) i)]) (b := am 0) ⟨hx, hb, hml, hown, hts⟩ hK 1 (m_edge l D cs H hF0 hkd i hlt (fun ov w1 => ov = some (.int (edM fn dn N kd nm sk br i)) ∧ ∃ (sg9 : Nat → Int32), w1 = wM cs am th bank rnds dn N n fc pu wh kn nm sk br ht sg9) (fun sg9 => ⟨rfl, sg9, rfl⟩) hP (hD.weaken (fun _ _ _ _ => trivial))) (gin_v mw_23_4 mw_23_5 mw_23_6 mw_1_5 mw_23_7) (by decide +kernel) ⟨Nat.le_of_ble_eq_true rfl, Nat.le_of_ble_eq_true rfl⟩ (va_recv hK hP (ci := 4) (q0 := 0) rfl rfl) rfl hl.1 rfl (Nat.le_of_ble_eq_true rfl) dX3_edges_15 ⟨(Nat.le_of_ble_eq_true rfl), (Nat.le_of_ble_eq_true rfl)⟩ hD hS hA (fun ov9 w9 H locs hp9 hP hD hS => ?_)
        obtain ⟨rfl, sgz1, rfl⟩ := hp9
        have hP : va_P D vwCl (wM cs am th bank rnds dn N n fc pu wh kn nm sk br ht sgz1) H := hP
        have hD : va_D _ (wM cs am th bank rnds dn N n fc pu wh kn nm sk br ht sgz1) := hD
        refine W.eq (g2 := F0 m 18 ls [.int (edM fn dn N kd nm sk br i), .int (sm (edM fn dn N kd nm sk br) i)]) rfl ?_
        refine lv_iadd hx hb dX3_edges_18 ?_
        refine lv_rwi (y := sm (edM fn dn N kd nm sk br) (i + 1)) (rfl) ?_
        refine lv_istore_n (lv' := [(1, .int (sm (edM fn dn N kd nm sk br) (i + 1))), (0, .ref (am 0)), (2, .int (nI i))]) hx hb dX3_edges_19 rfl hl (by decide) rfl (fun ls hl => ?_)
        refine lv_iinc (v := nI (i + 1)) (lv' := [(2, .int (nI (i + 1))), (1, .int (sm (edM fn dn N kd nm sk br) (i + 1))), (0, .ref (am 0))]) hx hb dX3_edges_20 hl (k := 2) rfl (nI_1 i) (by decide) rfl (fun ls hl => ?_)
        refine lv_goto (tgt := 4) hx hb dX3_edges_23 (by decide) ?_
        exact ih4 (i + 1) _ H _ ls (by omega) (by omega) hP hD hS (lv_sub hl [2, 1, 0] rfl)
  exact loop4 (n + 1) 0 _ H _ ls (Nat.zero_le _) (by omega) hP hD hS (lv_sub hl [2, 1, 0] rfl)
set_option maxHeartbeats 4000000 in
set_option maxRecDepth 100000 in
theorem m_dear (l : Launch) (D : va_G) (cs : Nat → ClassId) (H : Heap) {am : Nat → Nat} {th bank rnds : Int32} {dn N n : Nat} {fc pu wh kn nm sk br ht sg : Nat → Int32} {fn : Nat → Nat} (hF : FM fn dn N n fc) {kd : Nat → Nat} (hkd : ∀ i, i < n → kn i = nI (kd i) ∧ kd i < 10) (post : Option Value → va_W → Prop) (hpost : ∀ sg9 : Nat → Int32, post (some (.int (fst9I (drM (edM fn dn N kd nm sk br) sk n)))) (wM cs am th bank rnds dn N n fc pu wh kn nm sk br ht sg9)) (hP : va_P D vwCl (wM cs am th bank rnds dn N n fc pu wh kn nm sk br ht sg) H) (hD : va_D (fun _ => True) (wM cs am th bank rnds dn N n fc pu wh kn nm sk br ht sg)) : Wr l D cs 6 0 0 yX3_dear cX3_dear 3 (some .int) (wM cs am th bank rnds dn N n fc pu wh kn nm sk br ht sg) H [.ref (am 0)] post := by
  refine wr_ent (by decide) (Nat.le_of_ble_eq_true rfl) hP hD ?_
  clear hP hD H
  intro p e s m below meth c ls A Q H hx hb hr hml hown hts hlocks hin hl hK hQ hA hH hP hD hS
  clear hH
  have hl : lv_has ls 3 [(0, .ref (am 0))] := hl
  have hF0 := hF
  obtain ⟨hF3, hd1, hd3, hNe, hN1, hN, hn⟩ := hF
  refine lv_iconst (v := fst9I (drM (edM fn dn N kd nm sk br) sk 0)) hx hb dX3_dear_0 (by first | decide | rfl) ?_
  refine lv_istore_n (lv' := [(1, .int (fst9I (drM (edM fn dn N kd nm sk br) sk 0))), (0, .ref (am 0))]) hx hb dX3_dear_1 rfl hl (by decide) rfl (fun ls hl => ?_)
  refine lv_iconst (v := nI 0) hx hb dX3_dear_2 (by first | decide | rfl) ?_
  refine lv_istore_n (lv' := [(2, .int (nI 0)), (1, .int (fst9I (drM (edM fn dn N kd nm sk br) sk 0))), (0, .ref (am 0))]) hx hb dX3_dear_3 rfl hl (by decide) rfl (fun ls hl => ?_)
  have loop4 : ∀ (n9 : Nat) (i : Nat) (sgx : Nat → Int32) (H : Heap) (locs : List Loc) (ls : Array Slot), i ≤ n → n + 1 ≤ i + n9 → va_P D vwCl (wM cs am th bank rnds dn N n fc pu wh kn nm sk br ht sgx) H → va_D A (wM cs am th bank rnds dn N n fc pu wh kn nm sk br ht sgx) → va_S A s.heap H locs → lv_has ls 3 [(0, .ref (am 0)), (1, .int (fst9I (drM (edM fn dn N kd nm sk br) sk i))), (2, .int (nI i))] → W p l e (rmL 6 0 0) s m [.ref (am 0)].toArray below meth c H locs 0 0 Q (F0 m 4 ls []) := by
    intro n9
    induction n9 with
    | zero => intro i  sgx  H locs ls hi hf hP hD hS hl; exact absurd hf (by omega)
    | succ n9 ih4 =>
      intro i  sgx  H locs ls hi hf hP hD hS hl
      refine lv_iload_n hx hb dX3_dear_4 rfl (lv_at hl 2 rfl) ?_
      refine lv_aload_n hx hb dX3_dear_5 rfl (lv_at hl 0 rfl) ?_
      refine va_get (D := D) (ci := 4) (v := .int (nI n)) (C := RX3) (T := TX3) (N := 15) hx hb hts inlX3 hown hK hP 0 rfl rfl 7 (by decide) (hts (Cond.fieldLink RX3 51 "TavernDiceModel" "open" "I") mw_5_16) (fun _ h9 => h9) rfl dX3_dear_6 ?_
      refine lv_icmp_ge (tgt := 57) hx hb dX3_dear_9 (by decide) (fun c_1 => ?_) (fun c_1 => ?_)
      · refine lv_iload_n hx hb dX3_dear_57 rfl (lv_at hl 1 rfl) ?_
        exact wr_iret hQ hx hb hr hlocks hP hD hS (by rw [show i = n from (by have g := (nI_leI (by omega) (by omega)).mp c_1; omega)]; exact hpost sgx) dX3_dear_58
      · have hlt : i < n := by
          rcases Nat.lt_or_ge i n with q | q
          · exact q
          · exact absurd (nI_le q (by omega)) c_1
        rcases hb9 : drM (edM fn dn N kd nm sk br) sk i with _ | b
        · have hl : lv_has ls 3 [(0, .ref (am 0)), (1, .int ((-1))), (2, .int (nI i))] := by rw [hb9] at hl; exact hl
          refine lv_iload_n hx hb dX3_dear_12 rfl (lv_at hl 1 rfl) ?_
          refine lv_iconst (v := (-1)) hx hb dX3_dear_13 (by first | decide | rfl) ?_
          refine lv_icmp_eq (tgt := 49) hx hb dX3_dear_14 (by decide) (fun c_2 => ?_) (fun c_2 => False.elim (c_2 rfl))
          refine lv_iload_n hx hb dX3_dear_49 rfl (lv_at hl 2 rfl) ?_
          refine lv_istore_n (lv' := [(1, .int (nI i)), (0, .ref (am 0)), (2, .int (nI i))]) hx hb dX3_dear_50 rfl hl (by decide) rfl (fun ls hl => ?_)
          have hl : lv_has ls 3 [(1, .int (fst9I (drM (edM fn dn N kd nm sk br) sk (i + 1)))), (0, .ref (am 0)), (2, .int (nI i))] := by rw [drM_n hb9]; exact hl
          refine lv_iinc (v := nI (i + 1)) (lv' := [(2, .int (nI (i + 1))), (1, .int (fst9I (drM (edM fn dn N kd nm sk br) sk (i + 1)))), (0, .ref (am 0))]) hx hb dX3_dear_51 hl (k := 2) rfl (nI_1 i) (by decide) rfl (fun ls hl => ?_)
          refine lv_goto (tgt := 4) hx hb dX3_dear_54 (by decide) ?_
          exact ih4 (i + 1) _ H _ ls (by omega) (by omega) hP hD hS (lv_sub hl [2, 1, 0] rfl)
        · have hl : lv_has ls 3 [(0, .ref (am 0)), (1, .int (nI b)), (2, .int (nI i))] := by rw [hb9] at hl; exact hl
          have hb8 : b < i := drM_lt _ _ _ _ hb9
          refine lv_iload_n hx hb dX3_dear_12 rfl (lv_at hl 1 rfl) ?_
          refine lv_iconst (v := (-1)) hx hb dX3_dear_13 (by first | decide | rfl) ?_
          refine lv_icmp_eq (tgt := 49) hx hb dX3_dear_14 (by decide) (fun c_3 => False.elim (absurd c_3 (nI_m1 (by omega)))) (fun c_3 => ?_)
          refine lv_aload_n hx hb dX3_dear_17 rfl (lv_at hl 0 rfl) ?_
          refine lv_iload_n hx hb dX3_dear_18 rfl (lv_at hl 2 rfl) ?_
          refine wrV (As := [.int (nI i)]) (rest := []) (b := am 0) ⟨hx, hb, hml, hown, hts⟩ hK 1 (m_edge l D cs H hF0 hkd i hlt (fun ov w1 => ov = some (.int (edM fn dn N kd nm sk br i)) ∧ ∃ (sg9 : Nat → Int32), w1 = wM cs am th bank rnds dn N n fc pu wh kn nm sk br ht sg9) (fun sg9 => ⟨rfl, sg9, rfl⟩) hP (hD.weaken (fun _ _ _ _ => trivial))) (gin_v mw_23_4 mw_23_5 mw_23_6 mw_1_5 mw_23_7) (by decide +kernel) ⟨Nat.le_of_ble_eq_true rfl, Nat.le_of_ble_eq_true rfl⟩ (va_recv hK hP (ci := 4) (q0 := 0) rfl rfl) rfl hl.1 rfl (Nat.le_of_ble_eq_true rfl) dX3_dear_19 ⟨(Nat.le_of_ble_eq_true rfl), (Nat.le_of_ble_eq_true rfl)⟩ hD hS hA (fun ov9 w9 H locs hp9 hP hD hS => ?_)
          obtain ⟨rfl, sgz1, rfl⟩ := hp9
          have hP : va_P D vwCl (wM cs am th bank rnds dn N n fc pu wh kn nm sk br ht sgz1) H := hP
          have hD : va_D _ (wM cs am th bank rnds dn N n fc pu wh kn nm sk br ht sgz1) := hD
          refine W.eq (g2 := F0 m 22 ls [.int (edM fn dn N kd nm sk br i)]) rfl ?_
          refine lv_i2l hx hb dX3_dear_22 rfl ?_
          refine lv_aload_n hx hb dX3_dear_23 rfl (lv_at hl 0 rfl) ?_
          refine va_get (D := D) (ci := 4) (v := .ref (am 6)) (C := RX3) (T := TX3) (N := 15) hx hb hts inlX3 hown hK hP 0 rfl rfl 11 (by decide) (hts (Cond.fieldLink RX3 35 "TavernDiceModel" "stake" "[I") mw_4_3) (fun _ h9 => h9) rfl dX3_dear_24 ?_
          refine lv_iload_n hx hb dX3_dear_27 rfl (lv_at hl 1 rfl) ?_
          refine va_iald hx hb hK hP 6 0 rfl rfl (vp_in_nI (by omega) (by omega)) dX3_dear_28 ?_
          refine lv_rwi (y := sk b) (congrArg sk (nI_clamp (by omega))) ?_
          refine lv_i2l hx hb dX3_dear_29 rfl ?_
          refine lv_lmul hx hb dX3_dear_30 ?_
          refine lv_aload_n hx hb dX3_dear_31 rfl (lv_at hl 0 rfl) ?_
          refine lv_iload_n hx hb dX3_dear_32 rfl (lv_at hl 1 rfl) ?_
          refine wrV (As := [.int (nI b)]) (rest := [.long (((edM fn dn N kd nm sk br i).toInt64) * ((sk b).toInt64))]) (b := am 0) ⟨hx, hb, hml, hown, hts⟩ hK 1 (m_edge l D cs H hF0 hkd b (by omega) (fun ov w1 => ov = some (.int (edM fn dn N kd nm sk br b)) ∧ ∃ (sg9 : Nat → Int32), w1 = wM cs am th bank rnds dn N n fc pu wh kn nm sk br ht sg9) (fun sg9 => ⟨rfl, sg9, rfl⟩) hP (hD.weaken (fun _ _ _ _ => trivial))) (gin_v mw_23_4 mw_23_5 mw_23_6 mw_1_5 mw_23_7) (by decide +kernel) ⟨Nat.le_of_ble_eq_true rfl, Nat.le_of_ble_eq_true rfl⟩ (va_recv hK hP (ci := 4) (q0 := 0) rfl rfl) rfl hl.1 rfl (Nat.le_of_ble_eq_true rfl) dX3_dear_33 ⟨(Nat.le_of_ble_eq_true rfl), (Nat.le_of_ble_eq_true rfl)⟩ hD hS hA (fun ov9 w9 H locs hp9 hP hD hS => ?_)
          obtain ⟨rfl, sgz2, rfl⟩ := hp9
          have hP : va_P D vwCl (wM cs am th bank rnds dn N n fc pu wh kn nm sk br ht sgz2) H := hP
          have hD : va_D _ (wM cs am th bank rnds dn N n fc pu wh kn nm sk br ht sgz2) := hD
          refine W.eq (g2 := F0 m 36 ls [.int (edM fn dn N kd nm sk br b), .long (((edM fn dn N kd nm sk br i).toInt64) * ((sk b).toInt64))]) rfl ?_
          refine lv_i2l hx hb dX3_dear_36 rfl ?_
          refine lv_aload_n hx hb dX3_dear_37 rfl (lv_at hl 0 rfl) ?_
          refine va_get (D := D) (ci := 4) (v := .ref (am 6)) (C := RX3) (T := TX3) (N := 15) hx hb hts inlX3 hown hK hP 0 rfl rfl 11 (by decide) (hts (Cond.fieldLink RX3 35 "TavernDiceModel" "stake" "[I") mw_4_3) (fun _ h9 => h9) rfl dX3_dear_38 ?_
          refine lv_iload_n hx hb dX3_dear_41 rfl (lv_at hl 2 rfl) ?_
          refine va_iald hx hb hK hP 6 0 rfl rfl (vp_in_nI (by omega) (by omega)) dX3_dear_42 ?_
          refine lv_rwi (y := sk i) (congrArg sk (nI_clamp (by omega))) ?_
          refine lv_i2l hx hb dX3_dear_43 rfl ?_
          refine lv_lmul hx hb dX3_dear_44 ?_
          refine W.lcmp hx hb dX3_dear_45 ?_
          refine lv_if_le (tgt := 51) hx hb dX3_dear_46 (by decide) (fun c_4 => ?_) (fun c_4 => ?_)
          · have hl : lv_has ls 3 [(0, .ref (am 0)), (1, .int (fst9I (drM (edM fn dn N kd nm sk br) sk (i + 1)))), (2, .int (nI i))] := by rw [drM_f hb9 ((lcmp_le _ _).mp c_4)]; exact hl
            refine lv_iinc (v := nI (i + 1)) (lv' := [(2, .int (nI (i + 1))), (0, .ref (am 0)), (1, .int (fst9I (drM (edM fn dn N kd nm sk br) sk (i + 1))))]) hx hb dX3_dear_51 hl (k := 2) rfl (nI_1 i) (by decide) rfl (fun ls hl => ?_)
            refine lv_goto (tgt := 4) hx hb dX3_dear_54 (by decide) ?_
            exact ih4 (i + 1) _ H _ ls (by omega) (by omega) hP hD hS (lv_sub hl [1, 2, 0] rfl)
          · refine lv_iload_n hx hb dX3_dear_49 rfl (lv_at hl 2 rfl) ?_
            refine lv_istore_n (lv' := [(1, .int (nI i)), (0, .ref (am 0)), (2, .int (nI i))]) hx hb dX3_dear_50 rfl hl (by decide) rfl (fun ls hl => ?_)
            have hl : lv_has ls 3 [(1, .int (fst9I (drM (edM fn dn N kd nm sk br) sk (i + 1)))), (0, .ref (am 0)), (2, .int (nI i))] := by rw [drM_t hb9 (Classical.not_not.mp (fun z => c_4 ((lcmp_le _ _).mpr z)))]; exact hl
            refine lv_iinc (v := nI (i + 1)) (lv' := [(2, .int (nI (i + 1))), (1, .int (fst9I (drM (edM fn dn N kd nm sk br) sk (i + 1)))), (0, .ref (am 0))]) hx hb dX3_dear_51 hl (k := 2) rfl (nI_1 i) (by decide) rfl (fun ls hl => ?_)
            refine lv_goto (tgt := 4) hx hb dX3_dear_54 (by decide) ?_
            exact ih4 (i + 1) _ H _ ls (by omega) (by omega) hP hD hS (lv_sub hl [2, 1, 0] rfl)
  exact loop4 (n + 1) 0 _ H _ ls (Nat.zero_le _) (by omega) hP hD hS (lv_sub hl [2, 1, 0] rfl)
