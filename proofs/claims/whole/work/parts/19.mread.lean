/-! the reference: what it reads; rows by program -/
set_option maxHeartbeats 4000000 in
set_option maxRecDepth 100000 in
theorem m_isIn (l : Launch) (D : va_G) (cs : Nat → ClassId) (H : Heap) (v lo hi : Int32) : Rd l D (Ty cs) 1 yX3_isIn cX3_isIn 3 (some .boolean) H [.int v, .int lo, .int hi] (some (.int (b2i (inM v lo hi)))) := by
  refine rd_ent (by decide) (Nat.le_of_ble_eq_true rfl) ?_
  intro p e s m below meth c ls hx hb hr hml hown hts hlocks hl hH hK
  have hl : lv_has ls 3 [(0, .int v), (1, .int lo), (2, .int hi)] := hl
  refine lv_iload_n hx hb dX3_isIn_0 rfl (lv_at hl 0 rfl) ?_
  refine lv_iload_n hx hb dX3_isIn_1 rfl (lv_at hl 1 rfl) ?_
  refine lv_icmp_lt (tgt := 14) hx hb dX3_isIn_2 (by decide) (fun c_1 => ?_) (fun c_1 => ?_)
  · refine lv_iconst (v := 0) hx hb dX3_isIn_14 (by first | decide | rfl) ?_
    exact rd_zret hH hx hb hr hlocks (rb0 (show inM v lo hi = false from by simp only [inM]; rw [decide_eq_false_iff_not]; have gc_1 := c_1; try simp only [fa_lt, fa_le, fa_eq, il0, il1, il2, il3, il4, il5, il6, il7, il9, il10, il12, il20, il36, il100, il999, il1728] at gc_1; simp only [fa_lt, fa_le, fa_eq, il0, il1, il2, il3, il4, il5, il6, il7, il9, il10, il12, il20, il36, il100, il999, il1728]; omega)) (by decide) dX3_isIn_15
  · refine lv_iload_n hx hb dX3_isIn_5 rfl (lv_at hl 0 rfl) ?_
    refine lv_iload_n hx hb dX3_isIn_6 rfl (lv_at hl 2 rfl) ?_
    refine lv_icmp_gt (tgt := 14) hx hb dX3_isIn_7 (by decide) (fun c_2 => ?_) (fun c_2 => ?_)
    · refine lv_iconst (v := 0) hx hb dX3_isIn_14 (by first | decide | rfl) ?_
      exact rd_zret hH hx hb hr hlocks (rb0 (show inM v lo hi = false from by simp only [inM]; rw [decide_eq_false_iff_not]; have gc_1 := c_1; have gc_2 := c_2; try simp only [fa_lt, fa_le, fa_eq, il0, il1, il2, il3, il4, il5, il6, il7, il9, il10, il12, il20, il36, il100, il999, il1728] at gc_1; try simp only [fa_lt, fa_le, fa_eq, il0, il1, il2, il3, il4, il5, il6, il7, il9, il10, il12, il20, il36, il100, il999, il1728] at gc_2; simp only [fa_lt, fa_le, fa_eq, il0, il1, il2, il3, il4, il5, il6, il7, il9, il10, il12, il20, il36, il100, il999, il1728]; omega)) (by decide) dX3_isIn_15
    · refine lv_iconst (v := 1) hx hb dX3_isIn_10 (by first | decide | rfl) ?_
      refine lv_goto (tgt := 15) hx hb dX3_isIn_11 (by decide) ?_
      exact rd_zret hH hx hb hr hlocks (rb1 (show inM v lo hi = true from by simp only [inM]; rw [decide_eq_true_iff]; have gc_1 := c_1; have gc_2 := c_2; try simp only [fa_lt, fa_le, fa_eq, il0, il1, il2, il3, il4, il5, il6, il7, il9, il10, il12, il20, il36, il100, il999, il1728] at gc_1; try simp only [fa_lt, fa_le, fa_eq, il0, il1, il2, il3, il4, il5, il6, il7, il9, il10, il12, il20, il36, il100, il999, il1728] at gc_2; simp only [fa_lt, fa_le, fa_eq, il0, il1, il2, il3, il4, il5, il6, il7, il9, il10, il12, il20, il36, il100, il999, il1728]; omega)) (by decide) dX3_isIn_15
set_option maxHeartbeats 4000000 in
set_option maxRecDepth 100000 in
theorem m_isWager (l : Launch) (D : va_G) (cs : Nat → ClassId) (H : Heap) {am : Nat → Nat} {th bank rnds : Int32} {dn N n : Nat} {fc pu wh kn nm sk br ht sg : Nat → Int32} (hP : va_P D vwCl (wM cs am th bank rnds dn N n fc pu wh kn nm sk br ht sg) H) {fn : Nat → Nat} (hF : FM fn dn N n fc) (w : Int32) : Rd l D (Ty cs) 2 yX3_isWager cX3_isWager 2 (some .boolean) H [.ref (am 0), .int w] (some (.int (b2i (inM w 0 (nI n - 1))))) := by
  refine rd_ent (by decide) (Nat.le_of_ble_eq_true rfl) ?_
  intro p e s m below meth c ls hx hb hr hml hown hts hlocks hl hH hK
  have hl : lv_has ls 2 [(0, .ref (am 0)), (1, .int w)] := hl
  have hF0 := hF
  obtain ⟨hF3, hd1, hd3, hNe, hN1, hN, hn⟩ := hF
  refine lv_iload_n hx hb dX3_isWager_0 rfl (lv_at hl 1 rfl) ?_
  refine lv_iconst (v := 0) hx hb dX3_isWager_1 (by first | decide | rfl) ?_
  refine lv_aload_n hx hb dX3_isWager_2 rfl (lv_at hl 0 rfl) ?_
  refine va_get (D := D) (ci := 4) (v := .int (nI n)) (C := RX3) (T := TX3) (N := 15) hx hb hts inlX3 hown hK hP 0 rfl rfl 7 (by decide) (hts (Cond.fieldLink RX3 51 "TavernDiceModel" "open" "I") mw_5_16) (fun _ h9 => h9) rfl dX3_isWager_3 ?_
  refine lv_iconst (v := 1) hx hb dX3_isWager_6 (by first | decide | rfl) ?_
  refine lv_isub hx hb dX3_isWager_7 ?_
  refine rdS (As := [.int w, .int 0, .int ((nI n) - 1)]) (rest := []) ⟨hx, hb, hml, hown, hts⟩ hK 3 (m_isIn l D cs H w 0 ((nI n) - 1)) (gin_s mw_5_23 mw_6_0 mw_1_5 mw_6_1) (by decide +kernel) ⟨Nat.le_of_ble_eq_true rfl, Nat.le_of_ble_eq_true rfl⟩ rfl hl.1 rfl (Nat.le_of_ble_eq_true rfl) dX3_isWager_8 ⟨(Nat.zero_le _), (Nat.zero_le _)⟩ ?_
  refine W.eq (g2 := F0 m 11 ls [.int (b2i (inM w 0 ((nI n) - 1)))]) rfl ?_
  exact rd_zret hH hx hb hr hlocks (rfl) (b2i_z _) dX3_isWager_11
set_option maxHeartbeats 4000000 in
set_option maxRecDepth 100000 in
theorem m_isOutcome (l : Launch) (D : va_G) (cs : Nat → ClassId) (H : Heap) {am : Nat → Nat} {th bank rnds : Int32} {dn N n : Nat} {fc pu wh kn nm sk br ht sg : Nat → Int32} (hP : va_P D vwCl (wM cs am th bank rnds dn N n fc pu wh kn nm sk br ht sg) H) {fn : Nat → Nat} (hF : FM fn dn N n fc) (w : Int32) : Rd l D (Ty cs) 2 yX3_isOutcome cX3_isOutcome 2 (some .boolean) H [.ref (am 0), .int w] (some (.int (b2i (inM w 0 (nI N - 1))))) := by
  refine rd_ent (by decide) (Nat.le_of_ble_eq_true rfl) ?_
  intro p e s m below meth c ls hx hb hr hml hown hts hlocks hl hH hK
  have hl : lv_has ls 2 [(0, .ref (am 0)), (1, .int w)] := hl
  have hF0 := hF
  obtain ⟨hF3, hd1, hd3, hNe, hN1, hN, hn⟩ := hF
  refine lv_iload_n hx hb dX3_isOutcome_0 rfl (lv_at hl 1 rfl) ?_
  refine lv_iconst (v := 0) hx hb dX3_isOutcome_1 (by first | decide | rfl) ?_
  refine lv_aload_n hx hb dX3_isOutcome_2 rfl (lv_at hl 0 rfl) ?_
  refine va_get (D := D) (ci := 4) (v := .int (nI N)) (C := RX3) (T := TX3) (N := 15) hx hb hts inlX3 hown hK hP 0 rfl rfl 3 (by decide) (hts (Cond.fieldLink RX3 17 "TavernDiceModel" "outcomes" "I") mw_3_21) (fun _ h9 => h9) rfl dX3_isOutcome_3 ?_
  refine lv_iconst (v := 1) hx hb dX3_isOutcome_6 (by first | decide | rfl) ?_
  refine lv_isub hx hb dX3_isOutcome_7 ?_
  refine rdS (As := [.int w, .int 0, .int ((nI N) - 1)]) (rest := []) ⟨hx, hb, hml, hown, hts⟩ hK 3 (m_isIn l D cs H w 0 ((nI N) - 1)) (gin_s mw_5_23 mw_6_0 mw_1_5 mw_6_1) (by decide +kernel) ⟨Nat.le_of_ble_eq_true rfl, Nat.le_of_ble_eq_true rfl⟩ rfl hl.1 rfl (Nat.le_of_ble_eq_true rfl) dX3_isOutcome_8 ⟨(Nat.zero_le _), (Nat.zero_le _)⟩ ?_
  refine W.eq (g2 := F0 m 11 ls [.int (b2i (inM w 0 ((nI N) - 1)))]) rfl ?_
  exact rd_zret hH hx hb hr hlocks (rfl) (b2i_z _) dX3_isOutcome_11
set_option maxHeartbeats 4000000 in
set_option maxRecDepth 100000 in
theorem m_isPatron (l : Launch) (D : va_G) (cs : Nat → ClassId) (H : Heap) (w : Int32) : Rd l D (Ty cs) 2 yX3_isPatron cX3_isPatron 1 (some .boolean) H [.int w] (some (.int (b2i (inM w 0 5)))) := by
  refine rd_ent (by decide) (Nat.le_of_ble_eq_true rfl) ?_
  intro p e s m below meth c ls hx hb hr hml hown hts hlocks hl hH hK
  have hl : lv_has ls 1 [(0, .int w)] := hl
  refine lv_iload_n hx hb dX3_isPatron_0 rfl (lv_at hl 0 rfl) ?_
  refine lv_iconst (v := 0) hx hb dX3_isPatron_1 (by first | decide | rfl) ?_
  refine lv_iconst (v := 5) hx hb dX3_isPatron_2 (by first | decide | rfl) ?_
  refine rdS (As := [.int w, .int 0, .int 5]) (rest := []) ⟨hx, hb, hml, hown, hts⟩ hK 3 (m_isIn l D cs H w 0 5) (gin_s mw_5_23 mw_6_0 mw_1_5 mw_6_1) (by decide +kernel) ⟨Nat.le_of_ble_eq_true rfl, Nat.le_of_ble_eq_true rfl⟩ rfl hl.1 rfl (Nat.le_of_ble_eq_true rfl) dX3_isPatron_3 ⟨(Nat.zero_le _), (Nat.zero_le _)⟩ ?_
  refine W.eq (g2 := F0 m 6 ls [.int (b2i (inM w 0 5))]) rfl ?_
  exact rd_zret hH hx hb hr hlocks (rfl) (b2i_z _) dX3_isPatron_6
set_option maxHeartbeats 4000000 in
set_option maxRecDepth 100000 in
theorem m_isDie (l : Launch) (D : va_G) (cs : Nat → ClassId) (H : Heap) (w : Int32) : Rd l D (Ty cs) 2 yX3_isDie cX3_isDie 1 (some .boolean) H [.int w] (some (.int (b2i (inM w 2 12)))) := by
  refine rd_ent (by decide) (Nat.le_of_ble_eq_true rfl) ?_
  intro p e s m below meth c ls hx hb hr hml hown hts hlocks hl hH hK
  have hl : lv_has ls 1 [(0, .int w)] := hl
  refine lv_iload_n hx hb dX3_isDie_0 rfl (lv_at hl 0 rfl) ?_
  refine lv_iconst (v := 2) hx hb dX3_isDie_1 (by first | decide | rfl) ?_
  refine lv_bipush (v := 12) hx hb dX3_isDie_2 (by first | decide | rfl) ?_
  refine rdS (As := [.int w, .int 2, .int 12]) (rest := []) ⟨hx, hb, hml, hown, hts⟩ hK 3 (m_isIn l D cs H w 2 12) (gin_s mw_5_23 mw_6_0 mw_1_5 mw_6_1) (by decide +kernel) ⟨Nat.le_of_ble_eq_true rfl, Nat.le_of_ble_eq_true rfl⟩ rfl hl.1 rfl (Nat.le_of_ble_eq_true rfl) dX3_isDie_4 ⟨(Nat.zero_le _), (Nat.zero_le _)⟩ ?_
  refine W.eq (g2 := F0 m 7 ls [.int (b2i (inM w 2 12))]) rfl ?_
  exact rd_zret hH hx hb hr hlocks (rfl) (b2i_z _) dX3_isDie_7
set_option maxHeartbeats 4000000 in
set_option maxRecDepth 100000 in
theorem m_isEvent (l : Launch) (D : va_G) (cs : Nat → ClassId) (H : Heap) (k q : Int32) : Rd l D (Ty cs) 2 yX3_isEvent cX3_isEvent 2 (some .boolean) H [.int k, .int q] (some (.int (b2i (inM k 0 9 && inM q 0 36)))) := by
  refine rd_ent (by decide) (Nat.le_of_ble_eq_true rfl) ?_
  intro p e s m below meth c ls hx hb hr hml hown hts hlocks hl hH hK
  have hl : lv_has ls 2 [(0, .int k), (1, .int q)] := hl
  refine lv_iload_n hx hb dX3_isEvent_0 rfl (lv_at hl 0 rfl) ?_
  refine lv_iconst (v := 0) hx hb dX3_isEvent_1 (by first | decide | rfl) ?_
  refine lv_bipush (v := 9) hx hb dX3_isEvent_2 (by first | decide | rfl) ?_
  refine rdS (As := [.int k, .int 0, .int 9]) (rest := []) ⟨hx, hb, hml, hown, hts⟩ hK 3 (m_isIn l D cs H k 0 9) (gin_s mw_5_23 mw_6_0 mw_1_5 mw_6_1) (by decide +kernel) ⟨Nat.le_of_ble_eq_true rfl, Nat.le_of_ble_eq_true rfl⟩ rfl hl.1 rfl (Nat.le_of_ble_eq_true rfl) dX3_isEvent_4 ⟨(Nat.zero_le _), (Nat.zero_le _)⟩ ?_
  refine W.eq (g2 := F0 m 7 ls [.int (b2i (inM k 0 9))]) rfl ?_
  refine lv_if_eq (tgt := 24) hx hb dX3_isEvent_7 (by decide) (fun c_1 => ?_) (fun c_1 => ?_)
  · refine lv_iconst (v := 0) hx hb dX3_isEvent_24 (by first | decide | rfl) ?_
    exact rd_zret hH hx hb hr hlocks (rb0 (by rw [(b2i_eq0 _).mp c_1]; rfl)) (by decide) dX3_isEvent_25
  · refine lv_iload_n hx hb dX3_isEvent_10 rfl (lv_at hl 1 rfl) ?_
    refine lv_iconst (v := 0) hx hb dX3_isEvent_11 (by first | decide | rfl) ?_
    refine lv_bipush (v := 36) hx hb dX3_isEvent_12 (by first | decide | rfl) ?_
    refine rdS (As := [.int q, .int 0, .int 36]) (rest := []) ⟨hx, hb, hml, hown, hts⟩ hK 3 (m_isIn l D cs H q 0 36) (gin_s mw_5_23 mw_6_0 mw_1_5 mw_6_1) (by decide +kernel) ⟨Nat.le_of_ble_eq_true rfl, Nat.le_of_ble_eq_true rfl⟩ rfl hl.1 rfl (Nat.le_of_ble_eq_true rfl) dX3_isEvent_14 ⟨(Nat.zero_le _), (Nat.zero_le _)⟩ ?_
    refine W.eq (g2 := F0 m 17 ls [.int (b2i (inM q 0 36))]) rfl ?_
    refine lv_if_eq (tgt := 24) hx hb dX3_isEvent_17 (by decide) (fun c_2 => ?_) (fun c_2 => ?_)
    · refine lv_iconst (v := 0) hx hb dX3_isEvent_24 (by first | decide | rfl) ?_
      exact rd_zret hH hx hb hr hlocks (rb0 (by rw [(b2i_eq0 _).mp c_2]; exact Bool.and_false _)) (by decide) dX3_isEvent_25
    · refine lv_iconst (v := 1) hx hb dX3_isEvent_20 (by first | decide | rfl) ?_
      refine lv_goto (tgt := 25) hx hb dX3_isEvent_21 (by decide) ?_
      exact rd_zret hH hx hb hr hlocks (rb1 (by rw [(b2i_ne0 _).mp c_1, (b2i_ne0 _).mp c_2]; rfl)) (by decide) dX3_isEvent_25
set_option maxHeartbeats 4000000 in
set_option maxRecDepth 100000 in
theorem m_face0 (l : Launch) (D : va_G) (cs : Nat → ClassId) (H : Heap) {am : Nat → Nat} {th bank rnds : Int32} {dn N n : Nat} {fc pu wh kn nm sk br ht sg : Nat → Int32} (hP : va_P D vwCl (wM cs am th bank rnds dn N n fc pu wh kn nm sk br ht sg) H) {fn : Nat → Nat} (hF : FM fn dn N n fc) (o : Nat) (ho : o < 1728) : Rd l D (Ty cs) 1 yX3_face cX3_face 5 (some .int) H [.ref (am 0), .int (nI o), .int 0] (some (.int (nI (fcN fn o 0)))) := by
  refine rd_ent (by decide) (Nat.le_of_ble_eq_true rfl) ?_
  intro p e s m below meth c ls hx hb hr hml hown hts hlocks hl hH hK
  have hl : lv_has ls 5 [(0, .ref (am 0)), (1, .int (nI o)), (2, .int 0)] := hl
  have hF0 := hF
  obtain ⟨hF3, hd1, hd3, hNe, hN1, hN, hn⟩ := hF
  refine lv_iload_n hx hb dX3_face_0 rfl (lv_at hl 1 rfl) ?_
  refine lv_istore_n (lv' := [(3, .int (nI o)), (0, .ref (am 0)), (1, .int (nI o)), (2, .int 0)]) hx hb dX3_face_1 rfl hl (by decide) rfl (fun ls hl => ?_)
  refine lv_iconst (v := 2) hx hb dX3_face_2 (by first | decide | rfl) ?_
  refine lv_istore (lv' := [(4, .int 2), (3, .int (nI o)), (0, .ref (am 0)), (1, .int (nI o)), (2, .int 0)]) hx hb dX3_face_3 hl (by decide) rfl (fun ls hl => ?_)
  refine lv_iload hx hb dX3_face_5 (lv_at hl 0 rfl) ?_
  refine lv_iload_n hx hb dX3_face_7 rfl (lv_at hl 4 rfl) ?_
  refine lv_icmp_le (tgt := 27) hx hb dX3_face_8 (by decide) (fun c_1 => False.elim (absurd c_1 (by decide))) (fun c_1 => ?_)
  refine lv_iload_n hx hb dX3_face_11 rfl (lv_at hl 1 rfl) ?_
  refine lv_aload_n hx hb dX3_face_12 rfl (lv_at hl 2 rfl) ?_
  refine va_get (D := D) (ci := 4) (v := .ref (am 1)) (C := RX3) (T := TX3) (N := 15) hx hb hts inlX3 hown hK hP 0 rfl rfl 1 (by decide) (hts (Cond.fieldLink RX3 9 "TavernDiceModel" "faces" "[I") mw_3_19) (fun _ h9 => h9) rfl dX3_face_13 ?_
  refine lv_iload hx hb dX3_face_16 (lv_at hl 0 rfl) ?_
  refine va_iald hx hb hK hP 1 0 rfl rfl (vp_in_nI (n := 2) (by omega) (by omega)) dX3_face_18 ?_
  refine lv_rwi (y := nI (fn 2)) ((congrArg fc (by decide)).trans (hF3 2 (by omega)).1) ?_
  refine lv_idiv hx hb dX3_face_19 (by first | exact nI_ne0 (hF3 2 (by omega)).2.1 (by have g := hF3 2 (by omega); omega) | exact nI_ne0 (hF3 1 (by omega)).2.1 (by have g := hF3 1 (by omega); omega)) ?_
  refine lv_rwi (y := nI (o / fn 2)) (pk_div (by omega) (hF3 2 (by omega)).2.1 (by have g := hF3 2 (by omega); omega)) ?_
  refine lv_istore_n (lv' := [(3, .int (nI (o / fn 2))), (4, .int 2), (0, .ref (am 0)), (1, .int (nI o)), (2, .int 0)]) hx hb dX3_face_20 rfl hl (by decide) rfl (fun ls hl => ?_)
  refine lv_iinc (v := 1) (lv' := [(4, .int 1), (3, .int (nI (o / fn 2))), (0, .ref (am 0)), (1, .int (nI o)), (2, .int 0)]) hx hb dX3_face_21 hl (k := 1) rfl (by decide) (by decide) rfl (fun ls hl => ?_)
  refine lv_goto (tgt := 5) hx hb dX3_face_24 (by decide) ?_
  refine lv_iload hx hb dX3_face_5 (lv_at hl 0 rfl) ?_
  refine lv_iload_n hx hb dX3_face_7 rfl (lv_at hl 4 rfl) ?_
  refine lv_icmp_le (tgt := 27) hx hb dX3_face_8 (by decide) (fun c_2 => False.elim (absurd c_2 (by decide))) (fun c_2 => ?_)
  refine lv_iload_n hx hb dX3_face_11 rfl (lv_at hl 1 rfl) ?_
  refine lv_aload_n hx hb dX3_face_12 rfl (lv_at hl 2 rfl) ?_
  refine va_get (D := D) (ci := 4) (v := .ref (am 1)) (C := RX3) (T := TX3) (N := 15) hx hb hts inlX3 hown hK hP 0 rfl rfl 1 (by decide) (hts (Cond.fieldLink RX3 9 "TavernDiceModel" "faces" "[I") mw_3_19) (fun _ h9 => h9) rfl dX3_face_13 ?_
  refine lv_iload hx hb dX3_face_16 (lv_at hl 0 rfl) ?_
  refine va_iald hx hb hK hP 1 0 rfl rfl (vp_in_nI (n := 1) (by omega) (by omega)) dX3_face_18 ?_
  refine lv_rwi (y := nI (fn 1)) ((congrArg fc (by decide)).trans (hF3 1 (by omega)).1) ?_
  refine lv_idiv hx hb dX3_face_19 (by first | exact nI_ne0 (hF3 2 (by omega)).2.1 (by have g := hF3 2 (by omega); omega) | exact nI_ne0 (hF3 1 (by omega)).2.1 (by have g := hF3 1 (by omega); omega)) ?_
  refine lv_rwi (y := nI (o / fn 2 / fn 1)) (pk_div (Nat.lt_of_le_of_lt (Nat.div_le_self _ _) (by omega)) (hF3 1 (by omega)).2.1 (by have g := hF3 1 (by omega); omega)) ?_
  refine lv_istore_n (lv' := [(3, .int (nI (o / fn 2 / fn 1))), (4, .int 1), (0, .ref (am 0)), (1, .int (nI o)), (2, .int 0)]) hx hb dX3_face_20 rfl hl (by decide) rfl (fun ls hl => ?_)
  refine lv_iinc (v := 0) (lv' := [(4, .int 0), (3, .int (nI (o / fn 2 / fn 1))), (0, .ref (am 0)), (1, .int (nI o)), (2, .int 0)]) hx hb dX3_face_21 hl (k := 1) rfl (by decide) (by decide) rfl (fun ls hl => ?_)
  refine lv_goto (tgt := 5) hx hb dX3_face_24 (by decide) ?_
  refine lv_iload hx hb dX3_face_5 (lv_at hl 0 rfl) ?_
  refine lv_iload_n hx hb dX3_face_7 rfl (lv_at hl 4 rfl) ?_
  refine lv_icmp_le (tgt := 27) hx hb dX3_face_8 (by decide) (fun c_3 => ?_) (fun c_3 => False.elim (c_3 (by decide)))
  refine lv_iload_n hx hb dX3_face_27 rfl (lv_at hl 1 rfl) ?_
  refine lv_aload_n hx hb dX3_face_28 rfl (lv_at hl 2 rfl) ?_
  refine va_get (D := D) (ci := 4) (v := .ref (am 1)) (C := RX3) (T := TX3) (N := 15) hx hb hts inlX3 hown hK hP 0 rfl rfl 1 (by decide) (hts (Cond.fieldLink RX3 9 "TavernDiceModel" "faces" "[I") mw_3_19) (fun _ h9 => h9) rfl dX3_face_29 ?_
  refine lv_iload_n hx hb dX3_face_32 rfl (lv_at hl 4 rfl) ?_
  refine va_iald hx hb hK hP 1 0 rfl rfl (vp_in_nI (n := 0) (by omega) (by omega)) dX3_face_33 ?_
  refine lv_rwi (y := nI (fn 0)) ((congrArg fc (by decide)).trans (hF3 0 (by omega)).1) ?_
  refine lv_irem hx hb dX3_face_34 (nI_ne0 (hF3 0 (by omega)).2.1 (by have g := hF3 0 (by omega); omega)) ?_
  refine lv_rwi (y := nI ((o / fn 2 / fn 1) % fn 0)) (pk_rem (Nat.lt_of_le_of_lt (Nat.div_le_self _ _) (Nat.lt_of_le_of_lt (Nat.div_le_self _ _) (by omega))) (hF3 0 (by omega)).2.1 (by have g := hF3 0 (by omega); omega)) ?_
  refine lv_iconst (v := 1) hx hb dX3_face_35 (by first | decide | rfl) ?_
  refine lv_iadd hx hb dX3_face_36 ?_
  refine lv_rwi (y := nI ((o / fn 2 / fn 1) % fn 0 + 1)) (nI_1 _) ?_
  exact rd_iret hH hx hb hr hlocks (rfl) dX3_face_37
set_option maxHeartbeats 4000000 in
set_option maxRecDepth 100000 in
theorem m_face1 (l : Launch) (D : va_G) (cs : Nat → ClassId) (H : Heap) {am : Nat → Nat} {th bank rnds : Int32} {dn N n : Nat} {fc pu wh kn nm sk br ht sg : Nat → Int32} (hP : va_P D vwCl (wM cs am th bank rnds dn N n fc pu wh kn nm sk br ht sg) H) {fn : Nat → Nat} (hF : FM fn dn N n fc) (o : Nat) (ho : o < 1728) : Rd l D (Ty cs) 1 yX3_face cX3_face 5 (some .int) H [.ref (am 0), .int (nI o), .int 1] (some (.int (nI (fcN fn o 1)))) := by
  refine rd_ent (by decide) (Nat.le_of_ble_eq_true rfl) ?_
  intro p e s m below meth c ls hx hb hr hml hown hts hlocks hl hH hK
  have hl : lv_has ls 5 [(0, .ref (am 0)), (1, .int (nI o)), (2, .int 1)] := hl
  have hF0 := hF
  obtain ⟨hF3, hd1, hd3, hNe, hN1, hN, hn⟩ := hF
  refine lv_iload_n hx hb dX3_face_0 rfl (lv_at hl 1 rfl) ?_
  refine lv_istore_n (lv' := [(3, .int (nI o)), (0, .ref (am 0)), (1, .int (nI o)), (2, .int 1)]) hx hb dX3_face_1 rfl hl (by decide) rfl (fun ls hl => ?_)
  refine lv_iconst (v := 2) hx hb dX3_face_2 (by first | decide | rfl) ?_
  refine lv_istore (lv' := [(4, .int 2), (3, .int (nI o)), (0, .ref (am 0)), (1, .int (nI o)), (2, .int 1)]) hx hb dX3_face_3 hl (by decide) rfl (fun ls hl => ?_)
  refine lv_iload hx hb dX3_face_5 (lv_at hl 0 rfl) ?_
  refine lv_iload_n hx hb dX3_face_7 rfl (lv_at hl 4 rfl) ?_
  refine lv_icmp_le (tgt := 27) hx hb dX3_face_8 (by decide) (fun c_1 => False.elim (absurd c_1 (by decide))) (fun c_1 => ?_)
  refine lv_iload_n hx hb dX3_face_11 rfl (lv_at hl 1 rfl) ?_
  refine lv_aload_n hx hb dX3_face_12 rfl (lv_at hl 2 rfl) ?_
  refine va_get (D := D) (ci := 4) (v := .ref (am 1)) (C := RX3) (T := TX3) (N := 15) hx hb hts inlX3 hown hK hP 0 rfl rfl 1 (by decide) (hts (Cond.fieldLink RX3 9 "TavernDiceModel" "faces" "[I") mw_3_19) (fun _ h9 => h9) rfl dX3_face_13 ?_
  refine lv_iload hx hb dX3_face_16 (lv_at hl 0 rfl) ?_
  refine va_iald hx hb hK hP 1 0 rfl rfl (vp_in_nI (n := 2) (by omega) (by omega)) dX3_face_18 ?_
  refine lv_rwi (y := nI (fn 2)) ((congrArg fc (by decide)).trans (hF3 2 (by omega)).1) ?_
  refine lv_idiv hx hb dX3_face_19 (by first | exact nI_ne0 (hF3 2 (by omega)).2.1 (by have g := hF3 2 (by omega); omega) | exact nI_ne0 (hF3 1 (by omega)).2.1 (by have g := hF3 1 (by omega); omega)) ?_
  refine lv_rwi (y := nI (o / fn 2)) (pk_div (by omega) (hF3 2 (by omega)).2.1 (by have g := hF3 2 (by omega); omega)) ?_
  refine lv_istore_n (lv' := [(3, .int (nI (o / fn 2))), (4, .int 2), (0, .ref (am 0)), (1, .int (nI o)), (2, .int 1)]) hx hb dX3_face_20 rfl hl (by decide) rfl (fun ls hl => ?_)
  refine lv_iinc (v := 1) (lv' := [(4, .int 1), (3, .int (nI (o / fn 2))), (0, .ref (am 0)), (1, .int (nI o)), (2, .int 1)]) hx hb dX3_face_21 hl (k := 1) rfl (by decide) (by decide) rfl (fun ls hl => ?_)
  refine lv_goto (tgt := 5) hx hb dX3_face_24 (by decide) ?_
  refine lv_iload hx hb dX3_face_5 (lv_at hl 0 rfl) ?_
  refine lv_iload_n hx hb dX3_face_7 rfl (lv_at hl 4 rfl) ?_
  refine lv_icmp_le (tgt := 27) hx hb dX3_face_8 (by decide) (fun c_2 => ?_) (fun c_2 => False.elim (c_2 (by decide)))
  refine lv_iload_n hx hb dX3_face_27 rfl (lv_at hl 1 rfl) ?_
  refine lv_aload_n hx hb dX3_face_28 rfl (lv_at hl 2 rfl) ?_
  refine va_get (D := D) (ci := 4) (v := .ref (am 1)) (C := RX3) (T := TX3) (N := 15) hx hb hts inlX3 hown hK hP 0 rfl rfl 1 (by decide) (hts (Cond.fieldLink RX3 9 "TavernDiceModel" "faces" "[I") mw_3_19) (fun _ h9 => h9) rfl dX3_face_29 ?_
  refine lv_iload_n hx hb dX3_face_32 rfl (lv_at hl 4 rfl) ?_
  refine va_iald hx hb hK hP 1 0 rfl rfl (vp_in_nI (n := 1) (by omega) (by omega)) dX3_face_33 ?_
  refine lv_rwi (y := nI (fn 1)) ((congrArg fc (by decide)).trans (hF3 1 (by omega)).1) ?_
  refine lv_irem hx hb dX3_face_34 (nI_ne0 (hF3 1 (by omega)).2.1 (by have g := hF3 1 (by omega); omega)) ?_
  refine lv_rwi (y := nI ((o / fn 2) % fn 1)) (pk_rem (Nat.lt_of_le_of_lt (Nat.div_le_self _ _) (by omega)) (hF3 1 (by omega)).2.1 (by have g := hF3 1 (by omega); omega)) ?_
  refine lv_iconst (v := 1) hx hb dX3_face_35 (by first | decide | rfl) ?_
  refine lv_iadd hx hb dX3_face_36 ?_
  refine lv_rwi (y := nI ((o / fn 2) % fn 1 + 1)) (nI_1 _) ?_
  exact rd_iret hH hx hb hr hlocks (rfl) dX3_face_37
set_option maxHeartbeats 4000000 in
set_option maxRecDepth 100000 in
theorem m_face2 (l : Launch) (D : va_G) (cs : Nat → ClassId) (H : Heap) {am : Nat → Nat} {th bank rnds : Int32} {dn N n : Nat} {fc pu wh kn nm sk br ht sg : Nat → Int32} (hP : va_P D vwCl (wM cs am th bank rnds dn N n fc pu wh kn nm sk br ht sg) H) {fn : Nat → Nat} (hF : FM fn dn N n fc) (o : Nat) (ho : o < 1728) : Rd l D (Ty cs) 1 yX3_face cX3_face 5 (some .int) H [.ref (am 0), .int (nI o), .int 2] (some (.int (nI (fcN fn o 2)))) := by
  refine rd_ent (by decide) (Nat.le_of_ble_eq_true rfl) ?_
  intro p e s m below meth c ls hx hb hr hml hown hts hlocks hl hH hK
  have hl : lv_has ls 5 [(0, .ref (am 0)), (1, .int (nI o)), (2, .int 2)] := hl
  have hF0 := hF
  obtain ⟨hF3, hd1, hd3, hNe, hN1, hN, hn⟩ := hF
  refine lv_iload_n hx hb dX3_face_0 rfl (lv_at hl 1 rfl) ?_
  refine lv_istore_n (lv' := [(3, .int (nI o)), (0, .ref (am 0)), (1, .int (nI o)), (2, .int 2)]) hx hb dX3_face_1 rfl hl (by decide) rfl (fun ls hl => ?_)
  refine lv_iconst (v := 2) hx hb dX3_face_2 (by first | decide | rfl) ?_
  refine lv_istore (lv' := [(4, .int 2), (3, .int (nI o)), (0, .ref (am 0)), (1, .int (nI o)), (2, .int 2)]) hx hb dX3_face_3 hl (by decide) rfl (fun ls hl => ?_)
  refine lv_iload hx hb dX3_face_5 (lv_at hl 0 rfl) ?_
  refine lv_iload_n hx hb dX3_face_7 rfl (lv_at hl 4 rfl) ?_
  refine lv_icmp_le (tgt := 27) hx hb dX3_face_8 (by decide) (fun c_1 => ?_) (fun c_1 => False.elim (c_1 (by decide)))
  refine lv_iload_n hx hb dX3_face_27 rfl (lv_at hl 1 rfl) ?_
  refine lv_aload_n hx hb dX3_face_28 rfl (lv_at hl 2 rfl) ?_
  refine va_get (D := D) (ci := 4) (v := .ref (am 1)) (C := RX3) (T := TX3) (N := 15) hx hb hts inlX3 hown hK hP 0 rfl rfl 1 (by decide) (hts (Cond.fieldLink RX3 9 "TavernDiceModel" "faces" "[I") mw_3_19) (fun _ h9 => h9) rfl dX3_face_29 ?_
  refine lv_iload_n hx hb dX3_face_32 rfl (lv_at hl 4 rfl) ?_
  refine va_iald hx hb hK hP 1 0 rfl rfl (vp_in_nI (n := 2) (by omega) (by omega)) dX3_face_33 ?_
  refine lv_rwi (y := nI (fn 2)) ((congrArg fc (by decide)).trans (hF3 2 (by omega)).1) ?_
  refine lv_irem hx hb dX3_face_34 (nI_ne0 (hF3 2 (by omega)).2.1 (by have g := hF3 2 (by omega); omega)) ?_
  refine lv_rwi (y := nI (o % fn 2)) (pk_rem (by omega) (hF3 2 (by omega)).2.1 (by have g := hF3 2 (by omega); omega)) ?_
  refine lv_iconst (v := 1) hx hb dX3_face_35 (by first | decide | rfl) ?_
  refine lv_iadd hx hb dX3_face_36 ?_
  refine lv_rwi (y := nI (o % fn 2 + 1)) (nI_1 _) ?_
  exact rd_iret hH hx hb hr hlocks (rfl) dX3_face_37
theorem m_face (l : Launch) (D : va_G) (cs : Nat → ClassId) (H : Heap) {am : Nat → Nat} {th bank rnds : Int32} {dn N n : Nat} {fc pu wh kn nm sk br ht sg : Nat → Int32} (hP : va_P D vwCl (wM cs am th bank rnds dn N n fc pu wh kn nm sk br ht sg) H) {fn : Nat → Nat} (hF : FM fn dn N n fc) (o : Nat) (ho : o < 1728) (d : Nat) (hd : d < 3) : Rd l D (Ty cs) 1 yX3_face cX3_face 5 (some .int) H [.ref (am 0), .int (nI o), .int (nI d)] (some (.int (nI (fcN fn o d)))) := by
  match d, hd with
  | 0, _ => exact m_face0 l D cs H hP hF o ho
  | 1, _ => exact m_face1 l D cs H hP hF o ho
  | 2, _ => exact m_face2 l D cs H hP hF o ho
  | d + 3, h => exact absurd h (by omega)
set_option maxHeartbeats 4000000 in
set_option maxRecDepth 100000 in
theorem m_sum (l : Launch) (D : va_G) (cs : Nat → ClassId) (H : Heap) {am : Nat → Nat} {th bank rnds : Int32} {dn N n : Nat} {fc pu wh kn nm sk br ht sg : Nat → Int32} (hP : va_P D vwCl (wM cs am th bank rnds dn N n fc pu wh kn nm sk br ht sg) H) {fn : Nat → Nat} (hF : FM fn dn N n fc) (o : Nat) (ho : o < 1728) : Rd l D (Ty cs) 2 yX3_sum cX3_sum 4 (some .int) H [.ref (am 0), .int (nI o)] (some (.int (nI (smN (fcN fn o) dn)))) := by
  refine rd_ent (by decide) (Nat.le_of_ble_eq_true rfl) ?_
  intro p e s m below meth c ls hx hb hr hml hown hts hlocks hl hH hK
  have hl : lv_has ls 4 [(0, .ref (am 0)), (1, .int (nI o))] := hl
  have hF0 := hF
  obtain ⟨hF3, hd1, hd3, hNe, hN1, hN, hn⟩ := hF
  refine lv_iconst (v := nI (smN (fcN fn o) 0)) hx hb dX3_sum_0 (by first | decide | rfl) ?_
  refine lv_istore_n (lv' := [(2, .int (nI (smN (fcN fn o) 0))), (0, .ref (am 0)), (1, .int (nI o))]) hx hb dX3_sum_1 rfl hl (by decide) rfl (fun ls hl => ?_)
  refine lv_iconst (v := nI 0) hx hb dX3_sum_2 (by first | decide | rfl) ?_
  refine lv_istore_n (lv' := [(3, .int (nI 0)), (2, .int (nI (smN (fcN fn o) 0))), (0, .ref (am 0)), (1, .int (nI o))]) hx hb dX3_sum_3 rfl hl (by decide) rfl (fun ls hl => ?_)
  have loop4 : ∀ (n9 : Nat) (i : Nat) (ls : Array Slot), i ≤ dn → dn + 1 ≤ i + n9 → lv_has ls 4 [(0, .ref (am 0)), (1, .int (nI o)), (2, .int (nI (smN (fcN fn o) i))), (3, .int (nI i))] → RdW p l e 2 s m [.ref (am 0), .int (nI o)] below meth c H (some (.int (nI (smN (fcN fn o) dn)))) (F0 m 4 ls []) := by
    intro n9
    induction n9 with
    | zero => intro i  ls hi hf hl; exact absurd hf (by omega)
    | succ n9 ih4 =>
      intro i  ls hi hf hl
      refine lv_iload_n hx hb dX3_sum_4 rfl (lv_at hl 3 rfl) ?_
      refine lv_aload_n hx hb dX3_sum_5 rfl (lv_at hl 0 rfl) ?_
      refine va_get (D := D) (ci := 4) (v := .int (nI dn)) (C := RX3) (T := TX3) (N := 15) hx hb hts inlX3 hown hK hP 0 rfl rfl 2 (by decide) (hts (Cond.fieldLink RX3 13 "TavernDiceModel" "dice" "I") mw_3_20) (fun _ h9 => h9) rfl dX3_sum_6 ?_
      refine lv_icmp_ge (tgt := 27) hx hb dX3_sum_9 (by decide) (fun c_1 => ?_) (fun c_1 => ?_)
      · refine lv_iload_n hx hb dX3_sum_27 rfl (lv_at hl 2 rfl) ?_
        exact rd_iret hH hx hb hr hlocks (rv (by rw [show i = dn from (by have g := (nI_leI (by omega) (by omega)).mp c_1; omega)])) dX3_sum_28
      · have hlt : i < dn := by
          rcases Nat.lt_or_ge i dn with q | q
          · exact q
          · exact absurd (nI_le q (by omega)) c_1
        refine lv_iload_n hx hb dX3_sum_12 rfl (lv_at hl 2 rfl) ?_
        refine lv_aload_n hx hb dX3_sum_13 rfl (lv_at hl 0 rfl) ?_
        refine lv_iload_n hx hb dX3_sum_14 rfl (lv_at hl 1 rfl) ?_
        refine lv_iload_n hx hb dX3_sum_15 rfl (lv_at hl 3 rfl) ?_
        refine rdV (As := [.int (nI o), .int (nI i)]) (rest := [.int (nI (smN (fcN fn o) i))]) (b := am 0) ⟨hx, hb, hml, hown, hts⟩ hK 2 (m_face l D cs H hP hF0 o (by omega) i (by omega)) (gin_v mw_8_10 mw_8_11 mw_8_12 mw_1_5 mw_8_13) (by decide +kernel) ⟨Nat.le_of_ble_eq_true rfl, Nat.le_of_ble_eq_true rfl⟩ (va_recv hK hP (ci := 4) (q0 := 0) rfl rfl) rfl hl.1 rfl (Nat.le_of_ble_eq_true rfl) dX3_sum_16 ⟨(Nat.zero_le _), (Nat.zero_le _)⟩ ?_
        refine W.eq (g2 := F0 m 19 ls [.int (nI (fcN fn o i)), .int (nI (smN (fcN fn o) i))]) rfl ?_
        refine lv_iadd hx hb dX3_sum_19 ?_
        refine lv_rwi (y := nI (smN (fcN fn o) (i + 1))) (nI_add _ _) ?_
        refine lv_istore_n (lv' := [(2, .int (nI (smN (fcN fn o) (i + 1)))), (0, .ref (am 0)), (1, .int (nI o)), (3, .int (nI i))]) hx hb dX3_sum_20 rfl hl (by decide) rfl (fun ls hl => ?_)
        refine lv_iinc (v := nI (i + 1)) (lv' := [(3, .int (nI (i + 1))), (2, .int (nI (smN (fcN fn o) (i + 1)))), (0, .ref (am 0)), (1, .int (nI o))]) hx hb dX3_sum_21 hl (k := 3) rfl (nI_1 i) (by decide) rfl (fun ls hl => ?_)
        refine lv_goto (tgt := 4) hx hb dX3_sum_24 (by decide) ?_
        exact ih4 (i + 1) ls (by omega) (by omega) (lv_sub hl [2, 3, 1, 0] rfl)
  exact loop4 (dn + 1) 0 ls (Nat.zero_le _) (by omega) (lv_sub hl [2, 3, 1, 0] rfl)
set_option maxHeartbeats 4000000 in
set_option maxRecDepth 100000 in
theorem m_comes0 (l : Launch) (D : va_G) (cs : Nat → ClassId) (H : Heap) {am : Nat → Nat} {th bank rnds : Int32} {dn N n9n : Nat} {fc pu wh kn nm sk br ht sg : Nat → Int32} (hP : va_P D vwCl (wM cs am th bank rnds dn N n9n fc pu wh kn nm sk br ht sg) H) {fn : Nat → Nat} (hF : FM fn dn N n9n fc) (n : Int32) (o : Nat) (ho : o < 1728) : Rd l D (Ty cs) 3 yX3_comes cX3_comes 6 (some .boolean) H [.ref (am 0), .int 0, .int n, .int (nI o)] (some (.int (b2i (holdsM fn dn 0 n o)))) := by
  refine rd_ent (by decide) (Nat.le_of_ble_eq_true rfl) ?_
  intro p e s m below meth c ls hx hb hr hml hown hts hlocks hl hH hK
  have hl : lv_has ls 6 [(0, .ref (am 0)), (1, .int 0), (2, .int n), (3, .int (nI o))] := hl
  have hF0 := hF
  obtain ⟨hF3, hd1, hd3, hNe, hN1, hN, hn⟩ := hF
  have hs9 : smN (fcN fn o) dn ≤ 36 := by
    have g := smN_le (f := fcN fn o) (c := 12) (n := dn) (fun j hj => (fcN_le (fun j h => (hF3 j h).2) o (by omega)).2)
    omega
  refine lv_iload_n hx hb dX3_comes_0 rfl (lv_at hl 1 rfl) ?_
  refine lv_iconst (v := 5) hx hb dX3_comes_1 (by first | decide | rfl) ?_
  refine lv_icmp_lt (tgt := 23) hx hb dX3_comes_2 (by decide) (fun c_1 => ?_) (fun c_1 => False.elim (c_1 (by decide)))
  refine lv_iload_n hx hb dX3_comes_23 rfl (lv_at hl 1 rfl) ?_
  refine lv_if_ne (tgt := 42) hx hb dX3_comes_24 (by decide) (fun c_2 => False.elim (c_2 (by decide))) (fun c_2 => ?_)
  refine lv_aload_n hx hb dX3_comes_27 rfl (lv_at hl 0 rfl) ?_
  refine lv_iload_n hx hb dX3_comes_28 rfl (lv_at hl 3 rfl) ?_
  refine rdV (As := [.int (nI o)]) (rest := []) (b := am 0) ⟨hx, hb, hml, hown, hts⟩ hK 1 (m_sum l D cs H hP hF0 o (by omega)) (gin_v mw_8_6 mw_8_7 mw_8_8 mw_1_5 mw_8_9) (by decide +kernel) ⟨Nat.le_of_ble_eq_true rfl, Nat.le_of_ble_eq_true rfl⟩ (va_recv hK hP (ci := 4) (q0 := 0) rfl rfl) rfl hl.1 rfl (Nat.le_of_ble_eq_true rfl) dX3_comes_29 ⟨(Nat.zero_le _), (Nat.zero_le _)⟩ ?_
  refine W.eq (g2 := F0 m 32 ls [.int (nI (smN (fcN fn o) dn))]) rfl ?_
  refine lv_iload_n hx hb dX3_comes_32 rfl (lv_at hl 2 rfl) ?_
  refine lv_icmp_ne (tgt := 40) hx hb dX3_comes_33 (by decide) (fun c_3 => ?_) (fun c_3 => ?_)
  · refine lv_iconst (v := 0) hx hb dX3_comes_40 (by first | decide | rfl) ?_
    exact rd_zret hH hx hb hr hlocks (rb0 (show holdsM fn dn 0 n o = false from by first | (simp [holdsM, c_3]; done) | (simp [holdsM, fa_of_nlt c_3]; done))) (by decide) dX3_comes_41
  · refine lv_iconst (v := 1) hx hb dX3_comes_36 (by first | decide | rfl) ?_
    refine lv_goto (tgt := 41) hx hb dX3_comes_37 (by decide) ?_
    exact rd_zret hH hx hb hr hlocks (rb1 (show holdsM fn dn 0 n o = true from by first | (simp [holdsM, c_3]; done) | (simp [holdsM, fa_of_nlt c_3]; done))) (by decide) dX3_comes_41
set_option maxHeartbeats 4000000 in
set_option maxRecDepth 100000 in
theorem m_comesB0 (l : Launch) (D : va_G) (cs : Nat → ClassId) (H : Heap) {am : Nat → Nat} {th bank rnds : Int32} {dn N n9n : Nat} {fc pu wh kn nm sk br ht sg : Nat → Int32} (hP : va_P D vwCl (wM cs am th bank rnds dn N n9n fc pu wh kn nm sk br ht sg) H) {fn : Nat → Nat} (hF : FM fn dn N n9n fc) (n : Int32) (o : Nat) (ho : o < 1728) : Rd l D (Ty cs) 4 yX3_comes cX3_comes 6 (some .boolean) H [.ref (am 0), .int 0, .int n, .int (nI o)] (some (.int (b2i (holdsM fn dn 0 n o)))) := by
  refine rd_ent (by decide) (Nat.le_of_ble_eq_true rfl) ?_
  intro p e s m below meth c ls hx hb hr hml hown hts hlocks hl hH hK
  have hl : lv_has ls 6 [(0, .ref (am 0)), (1, .int 0), (2, .int n), (3, .int (nI o))] := hl
  have hF0 := hF
  obtain ⟨hF3, hd1, hd3, hNe, hN1, hN, hn⟩ := hF
  have hs9 : smN (fcN fn o) dn ≤ 36 := by
    have g := smN_le (f := fcN fn o) (c := 12) (n := dn) (fun j hj => (fcN_le (fun j h => (hF3 j h).2) o (by omega)).2)
    omega
  refine lv_iload_n hx hb dX3_comes_0 rfl (lv_at hl 1 rfl) ?_
  refine lv_iconst (v := 5) hx hb dX3_comes_1 (by first | decide | rfl) ?_
  refine lv_icmp_lt (tgt := 23) hx hb dX3_comes_2 (by decide) (fun c_1 => ?_) (fun c_1 => False.elim (c_1 (by decide)))
  refine lv_iload_n hx hb dX3_comes_23 rfl (lv_at hl 1 rfl) ?_
  refine lv_if_ne (tgt := 42) hx hb dX3_comes_24 (by decide) (fun c_2 => False.elim (c_2 (by decide))) (fun c_2 => ?_)
  refine lv_aload_n hx hb dX3_comes_27 rfl (lv_at hl 0 rfl) ?_
  refine lv_iload_n hx hb dX3_comes_28 rfl (lv_at hl 3 rfl) ?_
  refine rdV (As := [.int (nI o)]) (rest := []) (b := am 0) ⟨hx, hb, hml, hown, hts⟩ hK 1 (m_sum l D cs H hP hF0 o (by omega)) (gin_v mw_8_6 mw_8_7 mw_8_8 mw_1_5 mw_8_9) (by decide +kernel) ⟨Nat.le_of_ble_eq_true rfl, Nat.le_of_ble_eq_true rfl⟩ (va_recv hK hP (ci := 4) (q0 := 0) rfl rfl) rfl hl.1 rfl (Nat.le_of_ble_eq_true rfl) dX3_comes_29 ⟨(Nat.zero_le _), (Nat.zero_le _)⟩ ?_
  refine W.eq (g2 := F0 m 32 ls [.int (nI (smN (fcN fn o) dn))]) rfl ?_
  refine lv_iload_n hx hb dX3_comes_32 rfl (lv_at hl 2 rfl) ?_
  refine lv_icmp_ne (tgt := 40) hx hb dX3_comes_33 (by decide) (fun c_3 => ?_) (fun c_3 => ?_)
  · refine lv_iconst (v := 0) hx hb dX3_comes_40 (by first | decide | rfl) ?_
    exact rd_zret hH hx hb hr hlocks (rb0 (show holdsM fn dn 0 n o = false from by first | (simp [holdsM, c_3]; done) | (simp [holdsM, fa_of_nlt c_3]; done))) (by decide) dX3_comes_41
  · refine lv_iconst (v := 1) hx hb dX3_comes_36 (by first | decide | rfl) ?_
    refine lv_goto (tgt := 41) hx hb dX3_comes_37 (by decide) ?_
    exact rd_zret hH hx hb hr hlocks (rb1 (show holdsM fn dn 0 n o = true from by first | (simp [holdsM, c_3]; done) | (simp [holdsM, fa_of_nlt c_3]; done))) (by decide) dX3_comes_41
set_option maxHeartbeats 4000000 in
set_option maxRecDepth 100000 in
theorem m_comes1 (l : Launch) (D : va_G) (cs : Nat → ClassId) (H : Heap) {am : Nat → Nat} {th bank rnds : Int32} {dn N n9n : Nat} {fc pu wh kn nm sk br ht sg : Nat → Int32} (hP : va_P D vwCl (wM cs am th bank rnds dn N n9n fc pu wh kn nm sk br ht sg) H) {fn : Nat → Nat} (hF : FM fn dn N n9n fc) (n : Int32) (o : Nat) (ho : o < 1728) : Rd l D (Ty cs) 3 yX3_comes cX3_comes 6 (some .boolean) H [.ref (am 0), .int 1, .int n, .int (nI o)] (some (.int (b2i (holdsM fn dn 1 n o)))) := by
  refine rd_ent (by decide) (Nat.le_of_ble_eq_true rfl) ?_
  intro p e s m below meth c ls hx hb hr hml hown hts hlocks hl hH hK
  have hl : lv_has ls 6 [(0, .ref (am 0)), (1, .int 1), (2, .int n), (3, .int (nI o))] := hl
  have hF0 := hF
  obtain ⟨hF3, hd1, hd3, hNe, hN1, hN, hn⟩ := hF
  have hs9 : smN (fcN fn o) dn ≤ 36 := by
    have g := smN_le (f := fcN fn o) (c := 12) (n := dn) (fun j hj => (fcN_le (fun j h => (hF3 j h).2) o (by omega)).2)
    omega
  refine lv_iload_n hx hb dX3_comes_0 rfl (lv_at hl 1 rfl) ?_
  refine lv_iconst (v := 5) hx hb dX3_comes_1 (by first | decide | rfl) ?_
  refine lv_icmp_lt (tgt := 23) hx hb dX3_comes_2 (by decide) (fun c_1 => ?_) (fun c_1 => False.elim (c_1 (by decide)))
  refine lv_iload_n hx hb dX3_comes_23 rfl (lv_at hl 1 rfl) ?_
  refine lv_if_ne (tgt := 42) hx hb dX3_comes_24 (by decide) (fun c_2 => ?_) (fun c_2 => False.elim (absurd c_2 (by decide)))
  refine lv_iload_n hx hb dX3_comes_42 rfl (lv_at hl 1 rfl) ?_
  refine lv_iconst (v := 1) hx hb dX3_comes_43 (by first | decide | rfl) ?_
  refine lv_icmp_ne (tgt := 62) hx hb dX3_comes_44 (by decide) (fun c_3 => False.elim (c_3 (by decide))) (fun c_3 => ?_)
  refine lv_aload_n hx hb dX3_comes_47 rfl (lv_at hl 0 rfl) ?_
  refine lv_iload_n hx hb dX3_comes_48 rfl (lv_at hl 3 rfl) ?_
  refine rdV (As := [.int (nI o)]) (rest := []) (b := am 0) ⟨hx, hb, hml, hown, hts⟩ hK 1 (m_sum l D cs H hP hF0 o (by omega)) (gin_v mw_8_6 mw_8_7 mw_8_8 mw_1_5 mw_8_9) (by decide +kernel) ⟨Nat.le_of_ble_eq_true rfl, Nat.le_of_ble_eq_true rfl⟩ (va_recv hK hP (ci := 4) (q0 := 0) rfl rfl) rfl hl.1 rfl (Nat.le_of_ble_eq_true rfl) dX3_comes_49 ⟨(Nat.zero_le _), (Nat.zero_le _)⟩ ?_
  refine W.eq (g2 := F0 m 52 ls [.int (nI (smN (fcN fn o) dn))]) rfl ?_
  refine lv_iload_n hx hb dX3_comes_52 rfl (lv_at hl 2 rfl) ?_
  refine lv_icmp_lt (tgt := 60) hx hb dX3_comes_53 (by decide) (fun c_4 => ?_) (fun c_4 => ?_)
  · refine lv_iconst (v := 0) hx hb dX3_comes_60 (by first | decide | rfl) ?_
    exact rd_zret hH hx hb hr hlocks (rb0 (show holdsM fn dn 1 n o = false from by first | (simp [holdsM, c_4]; done) | (simp [holdsM, fa_of_nlt c_4]; done))) (by decide) dX3_comes_61
  · refine lv_iconst (v := 1) hx hb dX3_comes_56 (by first | decide | rfl) ?_
    refine lv_goto (tgt := 61) hx hb dX3_comes_57 (by decide) ?_
    exact rd_zret hH hx hb hr hlocks (rb1 (show holdsM fn dn 1 n o = true from by first | (simp [holdsM, c_4]; done) | (simp [holdsM, fa_of_nlt c_4]; done))) (by decide) dX3_comes_61
set_option maxHeartbeats 4000000 in
set_option maxRecDepth 100000 in
theorem m_comesB1 (l : Launch) (D : va_G) (cs : Nat → ClassId) (H : Heap) {am : Nat → Nat} {th bank rnds : Int32} {dn N n9n : Nat} {fc pu wh kn nm sk br ht sg : Nat → Int32} (hP : va_P D vwCl (wM cs am th bank rnds dn N n9n fc pu wh kn nm sk br ht sg) H) {fn : Nat → Nat} (hF : FM fn dn N n9n fc) (n : Int32) (o : Nat) (ho : o < 1728) : Rd l D (Ty cs) 4 yX3_comes cX3_comes 6 (some .boolean) H [.ref (am 0), .int 1, .int n, .int (nI o)] (some (.int (b2i (holdsM fn dn 1 n o)))) := by
  refine rd_ent (by decide) (Nat.le_of_ble_eq_true rfl) ?_
  intro p e s m below meth c ls hx hb hr hml hown hts hlocks hl hH hK
  have hl : lv_has ls 6 [(0, .ref (am 0)), (1, .int 1), (2, .int n), (3, .int (nI o))] := hl
  have hF0 := hF
  obtain ⟨hF3, hd1, hd3, hNe, hN1, hN, hn⟩ := hF
  have hs9 : smN (fcN fn o) dn ≤ 36 := by
    have g := smN_le (f := fcN fn o) (c := 12) (n := dn) (fun j hj => (fcN_le (fun j h => (hF3 j h).2) o (by omega)).2)
    omega
  refine lv_iload_n hx hb dX3_comes_0 rfl (lv_at hl 1 rfl) ?_
  refine lv_iconst (v := 5) hx hb dX3_comes_1 (by first | decide | rfl) ?_
  refine lv_icmp_lt (tgt := 23) hx hb dX3_comes_2 (by decide) (fun c_1 => ?_) (fun c_1 => False.elim (c_1 (by decide)))
  refine lv_iload_n hx hb dX3_comes_23 rfl (lv_at hl 1 rfl) ?_
  refine lv_if_ne (tgt := 42) hx hb dX3_comes_24 (by decide) (fun c_2 => ?_) (fun c_2 => False.elim (absurd c_2 (by decide)))
  refine lv_iload_n hx hb dX3_comes_42 rfl (lv_at hl 1 rfl) ?_
  refine lv_iconst (v := 1) hx hb dX3_comes_43 (by first | decide | rfl) ?_
  refine lv_icmp_ne (tgt := 62) hx hb dX3_comes_44 (by decide) (fun c_3 => False.elim (c_3 (by decide))) (fun c_3 => ?_)
  refine lv_aload_n hx hb dX3_comes_47 rfl (lv_at hl 0 rfl) ?_
  refine lv_iload_n hx hb dX3_comes_48 rfl (lv_at hl 3 rfl) ?_
  refine rdV (As := [.int (nI o)]) (rest := []) (b := am 0) ⟨hx, hb, hml, hown, hts⟩ hK 1 (m_sum l D cs H hP hF0 o (by omega)) (gin_v mw_8_6 mw_8_7 mw_8_8 mw_1_5 mw_8_9) (by decide +kernel) ⟨Nat.le_of_ble_eq_true rfl, Nat.le_of_ble_eq_true rfl⟩ (va_recv hK hP (ci := 4) (q0 := 0) rfl rfl) rfl hl.1 rfl (Nat.le_of_ble_eq_true rfl) dX3_comes_49 ⟨(Nat.zero_le _), (Nat.zero_le _)⟩ ?_
  refine W.eq (g2 := F0 m 52 ls [.int (nI (smN (fcN fn o) dn))]) rfl ?_
  refine lv_iload_n hx hb dX3_comes_52 rfl (lv_at hl 2 rfl) ?_
  refine lv_icmp_lt (tgt := 60) hx hb dX3_comes_53 (by decide) (fun c_4 => ?_) (fun c_4 => ?_)
  · refine lv_iconst (v := 0) hx hb dX3_comes_60 (by first | decide | rfl) ?_
    exact rd_zret hH hx hb hr hlocks (rb0 (show holdsM fn dn 1 n o = false from by first | (simp [holdsM, c_4]; done) | (simp [holdsM, fa_of_nlt c_4]; done))) (by decide) dX3_comes_61
  · refine lv_iconst (v := 1) hx hb dX3_comes_56 (by first | decide | rfl) ?_
    refine lv_goto (tgt := 61) hx hb dX3_comes_57 (by decide) ?_
    exact rd_zret hH hx hb hr hlocks (rb1 (show holdsM fn dn 1 n o = true from by first | (simp [holdsM, c_4]; done) | (simp [holdsM, fa_of_nlt c_4]; done))) (by decide) dX3_comes_61
set_option maxHeartbeats 4000000 in
set_option maxRecDepth 100000 in
theorem m_comes2 (l : Launch) (D : va_G) (cs : Nat → ClassId) (H : Heap) {am : Nat → Nat} {th bank rnds : Int32} {dn N n9n : Nat} {fc pu wh kn nm sk br ht sg : Nat → Int32} (hP : va_P D vwCl (wM cs am th bank rnds dn N n9n fc pu wh kn nm sk br ht sg) H) {fn : Nat → Nat} (hF : FM fn dn N n9n fc) (n : Int32) (o : Nat) (ho : o < 1728) : Rd l D (Ty cs) 3 yX3_comes cX3_comes 6 (some .boolean) H [.ref (am 0), .int 2, .int n, .int (nI o)] (some (.int (b2i (holdsM fn dn 2 n o)))) := by
  refine rd_ent (by decide) (Nat.le_of_ble_eq_true rfl) ?_
  intro p e s m below meth c ls hx hb hr hml hown hts hlocks hl hH hK
  have hl : lv_has ls 6 [(0, .ref (am 0)), (1, .int 2), (2, .int n), (3, .int (nI o))] := hl
  have hF0 := hF
  obtain ⟨hF3, hd1, hd3, hNe, hN1, hN, hn⟩ := hF
  have hs9 : smN (fcN fn o) dn ≤ 36 := by
    have g := smN_le (f := fcN fn o) (c := 12) (n := dn) (fun j hj => (fcN_le (fun j h => (hF3 j h).2) o (by omega)).2)
    omega
  refine lv_iload_n hx hb dX3_comes_0 rfl (lv_at hl 1 rfl) ?_
  refine lv_iconst (v := 5) hx hb dX3_comes_1 (by first | decide | rfl) ?_
  refine lv_icmp_lt (tgt := 23) hx hb dX3_comes_2 (by decide) (fun c_1 => ?_) (fun c_1 => False.elim (c_1 (by decide)))
  refine lv_iload_n hx hb dX3_comes_23 rfl (lv_at hl 1 rfl) ?_
  refine lv_if_ne (tgt := 42) hx hb dX3_comes_24 (by decide) (fun c_2 => ?_) (fun c_2 => False.elim (absurd c_2 (by decide)))
  refine lv_iload_n hx hb dX3_comes_42 rfl (lv_at hl 1 rfl) ?_
  refine lv_iconst (v := 1) hx hb dX3_comes_43 (by first | decide | rfl) ?_
  refine lv_icmp_ne (tgt := 62) hx hb dX3_comes_44 (by decide) (fun c_3 => ?_) (fun c_3 => False.elim (absurd c_3 (by decide)))
  refine lv_iload_n hx hb dX3_comes_62 rfl (lv_at hl 1 rfl) ?_
  refine lv_iconst (v := 2) hx hb dX3_comes_63 (by first | decide | rfl) ?_
  refine lv_icmp_ne (tgt := 84) hx hb dX3_comes_64 (by decide) (fun c_4 => False.elim (c_4 (by decide))) (fun c_4 => ?_)
  refine lv_aload_n hx hb dX3_comes_67 rfl (lv_at hl 0 rfl) ?_
  refine lv_iload_n hx hb dX3_comes_68 rfl (lv_at hl 3 rfl) ?_
  refine rdV (As := [.int (nI o)]) (rest := []) (b := am 0) ⟨hx, hb, hml, hown, hts⟩ hK 1 (m_sum l D cs H hP hF0 o (by omega)) (gin_v mw_8_6 mw_8_7 mw_8_8 mw_1_5 mw_8_9) (by decide +kernel) ⟨Nat.le_of_ble_eq_true rfl, Nat.le_of_ble_eq_true rfl⟩ (va_recv hK hP (ci := 4) (q0 := 0) rfl rfl) rfl hl.1 rfl (Nat.le_of_ble_eq_true rfl) dX3_comes_69 ⟨(Nat.zero_le _), (Nat.zero_le _)⟩ ?_
  refine W.eq (g2 := F0 m 72 ls [.int (nI (smN (fcN fn o) dn))]) rfl ?_
  refine lv_iconst (v := 2) hx hb dX3_comes_72 (by first | decide | rfl) ?_
  refine lv_irem hx hb dX3_comes_73 (by decide) ?_
  refine lv_rwi (y := nI (smN (fcN fn o) dn % 2)) (pk_rem (d := 2) (by omega) (by omega) (by omega)) ?_
  refine lv_iconst (v := 1) hx hb dX3_comes_74 (by first | decide | rfl) ?_
  refine lv_icmp_ne (tgt := 82) hx hb dX3_comes_75 (by decide) (fun c_5 => ?_) (fun c_5 => ?_)
  · refine lv_iconst (v := 0) hx hb dX3_comes_82 (by first | decide | rfl) ?_
    exact rd_zret hH hx hb hr hlocks (rb0 (show holdsM fn dn 2 n o = false from by
        have g9 := nI_eq (a := smN (fcN fn o) dn % 2) (b := 1) (by omega) (by omega)
        simp only [holdsM]; rw [decide_eq_false_iff_not]; exact fun z => c_5 (g9.mpr z))) (by decide) dX3_comes_83
  · refine lv_iconst (v := 1) hx hb dX3_comes_78 (by first | decide | rfl) ?_
    refine lv_goto (tgt := 83) hx hb dX3_comes_79 (by decide) ?_
    exact rd_zret hH hx hb hr hlocks (rb1 (show holdsM fn dn 2 n o = true from by
        have g9 := nI_eq (a := smN (fcN fn o) dn % 2) (b := 1) (by omega) (by omega)
        simp only [holdsM]; rw [decide_eq_true_iff]; exact g9.mp c_5)) (by decide) dX3_comes_83
set_option maxHeartbeats 4000000 in
set_option maxRecDepth 100000 in
theorem m_comesB2 (l : Launch) (D : va_G) (cs : Nat → ClassId) (H : Heap) {am : Nat → Nat} {th bank rnds : Int32} {dn N n9n : Nat} {fc pu wh kn nm sk br ht sg : Nat → Int32} (hP : va_P D vwCl (wM cs am th bank rnds dn N n9n fc pu wh kn nm sk br ht sg) H) {fn : Nat → Nat} (hF : FM fn dn N n9n fc) (n : Int32) (o : Nat) (ho : o < 1728) : Rd l D (Ty cs) 4 yX3_comes cX3_comes 6 (some .boolean) H [.ref (am 0), .int 2, .int n, .int (nI o)] (some (.int (b2i (holdsM fn dn 2 n o)))) := by
  refine rd_ent (by decide) (Nat.le_of_ble_eq_true rfl) ?_
  intro p e s m below meth c ls hx hb hr hml hown hts hlocks hl hH hK
  have hl : lv_has ls 6 [(0, .ref (am 0)), (1, .int 2), (2, .int n), (3, .int (nI o))] := hl
  have hF0 := hF
  obtain ⟨hF3, hd1, hd3, hNe, hN1, hN, hn⟩ := hF
  have hs9 : smN (fcN fn o) dn ≤ 36 := by
    have g := smN_le (f := fcN fn o) (c := 12) (n := dn) (fun j hj => (fcN_le (fun j h => (hF3 j h).2) o (by omega)).2)
    omega
  refine lv_iload_n hx hb dX3_comes_0 rfl (lv_at hl 1 rfl) ?_
  refine lv_iconst (v := 5) hx hb dX3_comes_1 (by first | decide | rfl) ?_
  refine lv_icmp_lt (tgt := 23) hx hb dX3_comes_2 (by decide) (fun c_1 => ?_) (fun c_1 => False.elim (c_1 (by decide)))
  refine lv_iload_n hx hb dX3_comes_23 rfl (lv_at hl 1 rfl) ?_
  refine lv_if_ne (tgt := 42) hx hb dX3_comes_24 (by decide) (fun c_2 => ?_) (fun c_2 => False.elim (absurd c_2 (by decide)))
  refine lv_iload_n hx hb dX3_comes_42 rfl (lv_at hl 1 rfl) ?_
  refine lv_iconst (v := 1) hx hb dX3_comes_43 (by first | decide | rfl) ?_
  refine lv_icmp_ne (tgt := 62) hx hb dX3_comes_44 (by decide) (fun c_3 => ?_) (fun c_3 => False.elim (absurd c_3 (by decide)))
  refine lv_iload_n hx hb dX3_comes_62 rfl (lv_at hl 1 rfl) ?_
  refine lv_iconst (v := 2) hx hb dX3_comes_63 (by first | decide | rfl) ?_
  refine lv_icmp_ne (tgt := 84) hx hb dX3_comes_64 (by decide) (fun c_4 => False.elim (c_4 (by decide))) (fun c_4 => ?_)
  refine lv_aload_n hx hb dX3_comes_67 rfl (lv_at hl 0 rfl) ?_
  refine lv_iload_n hx hb dX3_comes_68 rfl (lv_at hl 3 rfl) ?_
  refine rdV (As := [.int (nI o)]) (rest := []) (b := am 0) ⟨hx, hb, hml, hown, hts⟩ hK 1 (m_sum l D cs H hP hF0 o (by omega)) (gin_v mw_8_6 mw_8_7 mw_8_8 mw_1_5 mw_8_9) (by decide +kernel) ⟨Nat.le_of_ble_eq_true rfl, Nat.le_of_ble_eq_true rfl⟩ (va_recv hK hP (ci := 4) (q0 := 0) rfl rfl) rfl hl.1 rfl (Nat.le_of_ble_eq_true rfl) dX3_comes_69 ⟨(Nat.zero_le _), (Nat.zero_le _)⟩ ?_
  refine W.eq (g2 := F0 m 72 ls [.int (nI (smN (fcN fn o) dn))]) rfl ?_
  refine lv_iconst (v := 2) hx hb dX3_comes_72 (by first | decide | rfl) ?_
  refine lv_irem hx hb dX3_comes_73 (by decide) ?_
  refine lv_rwi (y := nI (smN (fcN fn o) dn % 2)) (pk_rem (d := 2) (by omega) (by omega) (by omega)) ?_
  refine lv_iconst (v := 1) hx hb dX3_comes_74 (by first | decide | rfl) ?_
  refine lv_icmp_ne (tgt := 82) hx hb dX3_comes_75 (by decide) (fun c_5 => ?_) (fun c_5 => ?_)
  · refine lv_iconst (v := 0) hx hb dX3_comes_82 (by first | decide | rfl) ?_
    exact rd_zret hH hx hb hr hlocks (rb0 (show holdsM fn dn 2 n o = false from by
        have g9 := nI_eq (a := smN (fcN fn o) dn % 2) (b := 1) (by omega) (by omega)
        simp only [holdsM]; rw [decide_eq_false_iff_not]; exact fun z => c_5 (g9.mpr z))) (by decide) dX3_comes_83
  · refine lv_iconst (v := 1) hx hb dX3_comes_78 (by first | decide | rfl) ?_
    refine lv_goto (tgt := 83) hx hb dX3_comes_79 (by decide) ?_
    exact rd_zret hH hx hb hr hlocks (rb1 (show holdsM fn dn 2 n o = true from by
        have g9 := nI_eq (a := smN (fcN fn o) dn % 2) (b := 1) (by omega) (by omega)
        simp only [holdsM]; rw [decide_eq_true_iff]; exact g9.mp c_5)) (by decide) dX3_comes_83
set_option maxHeartbeats 4000000 in
set_option maxRecDepth 100000 in
theorem m_comes3 (l : Launch) (D : va_G) (cs : Nat → ClassId) (H : Heap) {am : Nat → Nat} {th bank rnds : Int32} {dn N n9n : Nat} {fc pu wh kn nm sk br ht sg : Nat → Int32} (hP : va_P D vwCl (wM cs am th bank rnds dn N n9n fc pu wh kn nm sk br ht sg) H) {fn : Nat → Nat} (hF : FM fn dn N n9n fc) (n : Int32) (o : Nat) (ho : o < 1728) : Rd l D (Ty cs) 3 yX3_comes cX3_comes 6 (some .boolean) H [.ref (am 0), .int 3, .int n, .int (nI o)] (some (.int (b2i (holdsM fn dn 3 n o)))) := by
  refine rd_ent (by decide) (Nat.le_of_ble_eq_true rfl) ?_
  intro p e s m below meth c ls hx hb hr hml hown hts hlocks hl hH hK
  have hl : lv_has ls 6 [(0, .ref (am 0)), (1, .int 3), (2, .int n), (3, .int (nI o))] := hl
  have hF0 := hF
  obtain ⟨hF3, hd1, hd3, hNe, hN1, hN, hn⟩ := hF
  have hs9 : smN (fcN fn o) dn ≤ 36 := by
    have g := smN_le (f := fcN fn o) (c := 12) (n := dn) (fun j hj => (fcN_le (fun j h => (hF3 j h).2) o (by omega)).2)
    omega
  refine lv_iload_n hx hb dX3_comes_0 rfl (lv_at hl 1 rfl) ?_
  refine lv_iconst (v := 5) hx hb dX3_comes_1 (by first | decide | rfl) ?_
  refine lv_icmp_lt (tgt := 23) hx hb dX3_comes_2 (by decide) (fun c_1 => ?_) (fun c_1 => False.elim (c_1 (by decide)))
  refine lv_iload_n hx hb dX3_comes_23 rfl (lv_at hl 1 rfl) ?_
  refine lv_if_ne (tgt := 42) hx hb dX3_comes_24 (by decide) (fun c_2 => ?_) (fun c_2 => False.elim (absurd c_2 (by decide)))
  refine lv_iload_n hx hb dX3_comes_42 rfl (lv_at hl 1 rfl) ?_
  refine lv_iconst (v := 1) hx hb dX3_comes_43 (by first | decide | rfl) ?_
  refine lv_icmp_ne (tgt := 62) hx hb dX3_comes_44 (by decide) (fun c_3 => ?_) (fun c_3 => False.elim (absurd c_3 (by decide)))
  refine lv_iload_n hx hb dX3_comes_62 rfl (lv_at hl 1 rfl) ?_
  refine lv_iconst (v := 2) hx hb dX3_comes_63 (by first | decide | rfl) ?_
  refine lv_icmp_ne (tgt := 84) hx hb dX3_comes_64 (by decide) (fun c_4 => ?_) (fun c_4 => False.elim (absurd c_4 (by decide)))
  refine lv_iload_n hx hb dX3_comes_84 rfl (lv_at hl 1 rfl) ?_
  refine lv_iconst (v := 3) hx hb dX3_comes_85 (by first | decide | rfl) ?_
  refine lv_icmp_ne (tgt := 93) hx hb dX3_comes_86 (by decide) (fun c_5 => False.elim (c_5 (by decide))) (fun c_5 => ?_)
  refine lv_iconst (v := b2i (k3M fn o 0)) hx hb dX3_comes_89 (by first | decide | rfl) ?_
  refine lv_goto (tgt := 94) hx hb dX3_comes_90 (by decide) ?_
  refine lv_istore (lv' := [(4, .int (b2i (k3M fn o 0))), (0, .ref (am 0)), (1, .int 3), (2, .int n), (3, .int (nI o))]) hx hb dX3_comes_94 hl (by decide) rfl (fun ls hl => ?_)
  refine lv_iconst (v := nI 0) hx hb dX3_comes_96 (by first | decide | rfl) ?_
  refine lv_istore (lv' := [(5, .int (nI 0)), (4, .int (b2i (k3M fn o 0))), (0, .ref (am 0)), (1, .int 3), (2, .int n), (3, .int (nI o))]) hx hb dX3_comes_97 hl (by decide) rfl (fun ls hl => ?_)
  have loop99 : ∀ (n9 : Nat) (i : Nat) (ls : Array Slot), i ≤ dn → dn + 1 ≤ i + n9 → lv_has ls 6 [(0, .ref (am 0)), (1, .int 3), (2, .int n), (3, .int (nI o)), (4, .int (b2i (k3M fn o i))), (5, .int (nI i))] → RdW p l e 3 s m [.ref (am 0), .int 3, .int n, .int (nI o)] below meth c H (some (.int (b2i (holdsM fn dn 3 n o)))) (F0 m 99 ls []) := by
    intro n9
    induction n9 with
    | zero => intro i  ls hi hf hl; exact absurd hf (by omega)
    | succ n9 ih99 =>
      intro i  ls hi hf hl
      refine lv_iload hx hb dX3_comes_99 (lv_at hl 5 rfl) ?_
      refine lv_aload_n hx hb dX3_comes_101 rfl (lv_at hl 0 rfl) ?_
      refine va_get (D := D) (ci := 4) (v := .int (nI dn)) (C := RX3) (T := TX3) (N := 15) hx hb hts inlX3 hown hK hP 0 rfl rfl 2 (by decide) (hts (Cond.fieldLink RX3 13 "TavernDiceModel" "dice" "I") mw_3_20) (fun _ h9 => h9) rfl dX3_comes_102 ?_
      refine lv_icmp_ge (tgt := 171) hx hb dX3_comes_105 (by decide) (fun c_6 => ?_) (fun c_6 => ?_)
      · refine lv_iload hx hb dX3_comes_171 (lv_at hl 4 rfl) ?_
        exact rd_zret hH hx hb hr hlocks (rv (by rw [show i = dn from (by have g := (nI_leI (by omega) (by omega)).mp c_6; omega)]; rfl)) (b2i_z _) dX3_comes_173
      · have hlt : i < dn := by
          rcases Nat.lt_or_ge i dn with q | q
          · exact q
          · exact absurd (nI_le q (by omega)) c_6
        refine lv_iload_n hx hb dX3_comes_108 rfl (lv_at hl 1 rfl) ?_
        refine lv_iconst (v := 3) hx hb dX3_comes_109 (by first | decide | rfl) ?_
        refine lv_icmp_ne (tgt := 142) hx hb dX3_comes_110 (by decide) (fun c_7 => False.elim (c_7 (by decide))) (fun c_7 => ?_)
        refine lv_iload hx hb dX3_comes_113 (lv_at hl 4 rfl) ?_
        refine lv_if_eq (tgt := 138) hx hb dX3_comes_115 (by decide) (fun c_8 => ?_) (fun c_8 => ?_)
        · refine lv_iconst (v := 0) hx hb dX3_comes_138 (by first | decide | rfl) ?_
          refine lv_rwi (y := b2i (k3M fn o (i + 1))) (by show _ = b2i (k3M fn o i && _); rw [(b2i_eq0 _).mp c_8]; rfl) ?_
          refine lv_goto (tgt := 163) hx hb dX3_comes_139 (by decide) ?_
          refine lv_istore (lv' := [(4, .int (b2i (k3M fn o (i + 1)))), (0, .ref (am 0)), (1, .int 3), (2, .int n), (3, .int (nI o)), (5, .int (nI i))]) hx hb dX3_comes_163 hl (by decide) rfl (fun ls hl => ?_)
          refine lv_iinc (v := nI (i + 1)) (lv' := [(5, .int (nI (i + 1))), (4, .int (b2i (k3M fn o (i + 1)))), (0, .ref (am 0)), (1, .int 3), (2, .int n), (3, .int (nI o))]) hx hb dX3_comes_165 hl (k := 5) rfl (nI_1 i) (by decide) rfl (fun ls hl => ?_)
          refine lv_goto (tgt := 99) hx hb dX3_comes_168 (by decide) ?_
          exact ih99 (i + 1) ls (by omega) (by omega) (lv_sub hl [2, 3, 4, 5, 1, 0] rfl)
        · refine lv_aload_n hx hb dX3_comes_118 rfl (lv_at hl 0 rfl) ?_
          refine lv_iload_n hx hb dX3_comes_119 rfl (lv_at hl 3 rfl) ?_
          refine lv_iload hx hb dX3_comes_120 (lv_at hl 5 rfl) ?_
          refine rdV (As := [.int (nI o), .int (nI i)]) (rest := []) (b := am 0) ⟨hx, hb, hml, hown, hts⟩ hK 2 (m_face l D cs H hP hF0 o (by omega) i (by omega)) (gin_v mw_8_10 mw_8_11 mw_8_12 mw_1_5 mw_8_13) (by decide +kernel) ⟨Nat.le_of_ble_eq_true rfl, Nat.le_of_ble_eq_true rfl⟩ (va_recv hK hP (ci := 4) (q0 := 0) rfl rfl) rfl hl.1 rfl (Nat.le_of_ble_eq_true rfl) dX3_comes_122 ⟨(Nat.zero_le _), (Nat.zero_le _)⟩ ?_
          refine W.eq (g2 := F0 m 125 ls [.int (nI (fcN fn o i))]) rfl ?_
          refine lv_aload_n hx hb dX3_comes_125 rfl (lv_at hl 0 rfl) ?_
          refine lv_iload_n hx hb dX3_comes_126 rfl (lv_at hl 3 rfl) ?_
          refine lv_iconst (v := nI 0) hx hb dX3_comes_127 (by first | decide | rfl) ?_
          refine rdV (As := [.int (nI o), .int (nI 0)]) (rest := [.int (nI (fcN fn o i))]) (b := am 0) ⟨hx, hb, hml, hown, hts⟩ hK 2 (m_face l D cs H hP hF0 o (by omega) 0 (by omega)) (gin_v mw_8_10 mw_8_11 mw_8_12 mw_1_5 mw_8_13) (by decide +kernel) ⟨Nat.le_of_ble_eq_true rfl, Nat.le_of_ble_eq_true rfl⟩ (va_recv hK hP (ci := 4) (q0 := 0) rfl rfl) rfl hl.1 rfl (Nat.le_of_ble_eq_true rfl) dX3_comes_128 ⟨(Nat.zero_le _), (Nat.zero_le _)⟩ ?_
          refine W.eq (g2 := F0 m 131 ls [.int (nI (fcN fn o 0)), .int (nI (fcN fn o i))]) rfl ?_
          refine lv_icmp_ne (tgt := 138) hx hb dX3_comes_131 (by decide) (fun c_9 => ?_) (fun c_9 => ?_)
          · refine lv_iconst (v := 0) hx hb dX3_comes_138 (by first | decide | rfl) ?_
            refine lv_rwi (y := b2i (k3M fn o (i + 1))) (by show _ = b2i (k3M fn o i && decide (fcN fn o i = fcN fn o 0)); rw [(b2i_ne0 _).mp c_8, decide_eq_false (fun z => c_9 (congrArg nI z))]; rfl) ?_
            refine lv_goto (tgt := 163) hx hb dX3_comes_139 (by decide) ?_
            refine lv_istore (lv' := [(4, .int (b2i (k3M fn o (i + 1)))), (0, .ref (am 0)), (1, .int 3), (2, .int n), (3, .int (nI o)), (5, .int (nI i))]) hx hb dX3_comes_163 hl (by decide) rfl (fun ls hl => ?_)
            refine lv_iinc (v := nI (i + 1)) (lv' := [(5, .int (nI (i + 1))), (4, .int (b2i (k3M fn o (i + 1)))), (0, .ref (am 0)), (1, .int 3), (2, .int n), (3, .int (nI o))]) hx hb dX3_comes_165 hl (k := 5) rfl (nI_1 i) (by decide) rfl (fun ls hl => ?_)
            refine lv_goto (tgt := 99) hx hb dX3_comes_168 (by decide) ?_
            exact ih99 (i + 1) ls (by omega) (by omega) (lv_sub hl [2, 3, 4, 5, 1, 0] rfl)
          · refine lv_iconst (v := 1) hx hb dX3_comes_134 (by first | decide | rfl) ?_
            refine lv_rwi (y := b2i (k3M fn o (i + 1))) (by show _ = b2i (k3M fn o i && decide (fcN fn o i = fcN fn o 0)); rw [(b2i_ne0 _).mp c_8, decide_eq_true ((nI_eq (by have g := fcN_le (fun j h => (hF3 j h).2) o (d := i) (by omega); omega) (by have g := fcN_le (fun j h => (hF3 j h).2) o (d := 0) (by omega); omega)).mp c_9)]; rfl) ?_
            refine lv_goto (tgt := 163) hx hb dX3_comes_135 (by decide) ?_
            refine lv_istore (lv' := [(4, .int (b2i (k3M fn o (i + 1)))), (0, .ref (am 0)), (1, .int 3), (2, .int n), (3, .int (nI o)), (5, .int (nI i))]) hx hb dX3_comes_163 hl (by decide) rfl (fun ls hl => ?_)
            refine lv_iinc (v := nI (i + 1)) (lv' := [(5, .int (nI (i + 1))), (4, .int (b2i (k3M fn o (i + 1)))), (0, .ref (am 0)), (1, .int 3), (2, .int n), (3, .int (nI o))]) hx hb dX3_comes_165 hl (k := 5) rfl (nI_1 i) (by decide) rfl (fun ls hl => ?_)
            refine lv_goto (tgt := 99) hx hb dX3_comes_168 (by decide) ?_
            exact ih99 (i + 1) ls (by omega) (by omega) (lv_sub hl [2, 3, 4, 5, 1, 0] rfl)
  exact loop99 (dn + 1) 0 ls (Nat.zero_le _) (by omega) (lv_sub hl [2, 3, 4, 5, 1, 0] rfl)
set_option maxHeartbeats 4000000 in
set_option maxRecDepth 100000 in
theorem m_comesB3 (l : Launch) (D : va_G) (cs : Nat → ClassId) (H : Heap) {am : Nat → Nat} {th bank rnds : Int32} {dn N n9n : Nat} {fc pu wh kn nm sk br ht sg : Nat → Int32} (hP : va_P D vwCl (wM cs am th bank rnds dn N n9n fc pu wh kn nm sk br ht sg) H) {fn : Nat → Nat} (hF : FM fn dn N n9n fc) (n : Int32) (o : Nat) (ho : o < 1728) : Rd l D (Ty cs) 4 yX3_comes cX3_comes 6 (some .boolean) H [.ref (am 0), .int 3, .int n, .int (nI o)] (some (.int (b2i (holdsM fn dn 3 n o)))) := by
  refine rd_ent (by decide) (Nat.le_of_ble_eq_true rfl) ?_
  intro p e s m below meth c ls hx hb hr hml hown hts hlocks hl hH hK
  have hl : lv_has ls 6 [(0, .ref (am 0)), (1, .int 3), (2, .int n), (3, .int (nI o))] := hl
  have hF0 := hF
  obtain ⟨hF3, hd1, hd3, hNe, hN1, hN, hn⟩ := hF
  have hs9 : smN (fcN fn o) dn ≤ 36 := by
    have g := smN_le (f := fcN fn o) (c := 12) (n := dn) (fun j hj => (fcN_le (fun j h => (hF3 j h).2) o (by omega)).2)
    omega
  refine lv_iload_n hx hb dX3_comes_0 rfl (lv_at hl 1 rfl) ?_
  refine lv_iconst (v := 5) hx hb dX3_comes_1 (by first | decide | rfl) ?_
  refine lv_icmp_lt (tgt := 23) hx hb dX3_comes_2 (by decide) (fun c_1 => ?_) (fun c_1 => False.elim (c_1 (by decide)))
  refine lv_iload_n hx hb dX3_comes_23 rfl (lv_at hl 1 rfl) ?_
  refine lv_if_ne (tgt := 42) hx hb dX3_comes_24 (by decide) (fun c_2 => ?_) (fun c_2 => False.elim (absurd c_2 (by decide)))
  refine lv_iload_n hx hb dX3_comes_42 rfl (lv_at hl 1 rfl) ?_
  refine lv_iconst (v := 1) hx hb dX3_comes_43 (by first | decide | rfl) ?_
  refine lv_icmp_ne (tgt := 62) hx hb dX3_comes_44 (by decide) (fun c_3 => ?_) (fun c_3 => False.elim (absurd c_3 (by decide)))
  refine lv_iload_n hx hb dX3_comes_62 rfl (lv_at hl 1 rfl) ?_
  refine lv_iconst (v := 2) hx hb dX3_comes_63 (by first | decide | rfl) ?_
  refine lv_icmp_ne (tgt := 84) hx hb dX3_comes_64 (by decide) (fun c_4 => ?_) (fun c_4 => False.elim (absurd c_4 (by decide)))
  refine lv_iload_n hx hb dX3_comes_84 rfl (lv_at hl 1 rfl) ?_
  refine lv_iconst (v := 3) hx hb dX3_comes_85 (by first | decide | rfl) ?_
  refine lv_icmp_ne (tgt := 93) hx hb dX3_comes_86 (by decide) (fun c_5 => False.elim (c_5 (by decide))) (fun c_5 => ?_)
  refine lv_iconst (v := b2i (k3M fn o 0)) hx hb dX3_comes_89 (by first | decide | rfl) ?_
  refine lv_goto (tgt := 94) hx hb dX3_comes_90 (by decide) ?_
  refine lv_istore (lv' := [(4, .int (b2i (k3M fn o 0))), (0, .ref (am 0)), (1, .int 3), (2, .int n), (3, .int (nI o))]) hx hb dX3_comes_94 hl (by decide) rfl (fun ls hl => ?_)
  refine lv_iconst (v := nI 0) hx hb dX3_comes_96 (by first | decide | rfl) ?_
  refine lv_istore (lv' := [(5, .int (nI 0)), (4, .int (b2i (k3M fn o 0))), (0, .ref (am 0)), (1, .int 3), (2, .int n), (3, .int (nI o))]) hx hb dX3_comes_97 hl (by decide) rfl (fun ls hl => ?_)
  have loop99 : ∀ (n9 : Nat) (i : Nat) (ls : Array Slot), i ≤ dn → dn + 1 ≤ i + n9 → lv_has ls 6 [(0, .ref (am 0)), (1, .int 3), (2, .int n), (3, .int (nI o)), (4, .int (b2i (k3M fn o i))), (5, .int (nI i))] → RdW p l e 4 s m [.ref (am 0), .int 3, .int n, .int (nI o)] below meth c H (some (.int (b2i (holdsM fn dn 3 n o)))) (F0 m 99 ls []) := by
    intro n9
    induction n9 with
    | zero => intro i  ls hi hf hl; exact absurd hf (by omega)
    | succ n9 ih99 =>
      intro i  ls hi hf hl
      refine lv_iload hx hb dX3_comes_99 (lv_at hl 5 rfl) ?_
      refine lv_aload_n hx hb dX3_comes_101 rfl (lv_at hl 0 rfl) ?_
      refine va_get (D := D) (ci := 4) (v := .int (nI dn)) (C := RX3) (T := TX3) (N := 15) hx hb hts inlX3 hown hK hP 0 rfl rfl 2 (by decide) (hts (Cond.fieldLink RX3 13 "TavernDiceModel" "dice" "I") mw_3_20) (fun _ h9 => h9) rfl dX3_comes_102 ?_
      refine lv_icmp_ge (tgt := 171) hx hb dX3_comes_105 (by decide) (fun c_6 => ?_) (fun c_6 => ?_)
      · refine lv_iload hx hb dX3_comes_171 (lv_at hl 4 rfl) ?_
        exact rd_zret hH hx hb hr hlocks (rv (by rw [show i = dn from (by have g := (nI_leI (by omega) (by omega)).mp c_6; omega)]; rfl)) (b2i_z _) dX3_comes_173
      · have hlt : i < dn := by
          rcases Nat.lt_or_ge i dn with q | q
          · exact q
          · exact absurd (nI_le q (by omega)) c_6
        refine lv_iload_n hx hb dX3_comes_108 rfl (lv_at hl 1 rfl) ?_
        refine lv_iconst (v := 3) hx hb dX3_comes_109 (by first | decide | rfl) ?_
        refine lv_icmp_ne (tgt := 142) hx hb dX3_comes_110 (by decide) (fun c_7 => False.elim (c_7 (by decide))) (fun c_7 => ?_)
        refine lv_iload hx hb dX3_comes_113 (lv_at hl 4 rfl) ?_
        refine lv_if_eq (tgt := 138) hx hb dX3_comes_115 (by decide) (fun c_8 => ?_) (fun c_8 => ?_)
        · refine lv_iconst (v := 0) hx hb dX3_comes_138 (by first | decide | rfl) ?_
          refine lv_rwi (y := b2i (k3M fn o (i + 1))) (by show _ = b2i (k3M fn o i && _); rw [(b2i_eq0 _).mp c_8]; rfl) ?_
          refine lv_goto (tgt := 163) hx hb dX3_comes_139 (by decide) ?_
          refine lv_istore (lv' := [(4, .int (b2i (k3M fn o (i + 1)))), (0, .ref (am 0)), (1, .int 3), (2, .int n), (3, .int (nI o)), (5, .int (nI i))]) hx hb dX3_comes_163 hl (by decide) rfl (fun ls hl => ?_)
          refine lv_iinc (v := nI (i + 1)) (lv' := [(5, .int (nI (i + 1))), (4, .int (b2i (k3M fn o (i + 1)))), (0, .ref (am 0)), (1, .int 3), (2, .int n), (3, .int (nI o))]) hx hb dX3_comes_165 hl (k := 5) rfl (nI_1 i) (by decide) rfl (fun ls hl => ?_)
          refine lv_goto (tgt := 99) hx hb dX3_comes_168 (by decide) ?_
          exact ih99 (i + 1) ls (by omega) (by omega) (lv_sub hl [2, 3, 4, 5, 1, 0] rfl)
        · refine lv_aload_n hx hb dX3_comes_118 rfl (lv_at hl 0 rfl) ?_
          refine lv_iload_n hx hb dX3_comes_119 rfl (lv_at hl 3 rfl) ?_
          refine lv_iload hx hb dX3_comes_120 (lv_at hl 5 rfl) ?_
          refine rdV (As := [.int (nI o), .int (nI i)]) (rest := []) (b := am 0) ⟨hx, hb, hml, hown, hts⟩ hK 2 (m_face l D cs H hP hF0 o (by omega) i (by omega)) (gin_v mw_8_10 mw_8_11 mw_8_12 mw_1_5 mw_8_13) (by decide +kernel) ⟨Nat.le_of_ble_eq_true rfl, Nat.le_of_ble_eq_true rfl⟩ (va_recv hK hP (ci := 4) (q0 := 0) rfl rfl) rfl hl.1 rfl (Nat.le_of_ble_eq_true rfl) dX3_comes_122 ⟨(Nat.zero_le _), (Nat.zero_le _)⟩ ?_
          refine W.eq (g2 := F0 m 125 ls [.int (nI (fcN fn o i))]) rfl ?_
          refine lv_aload_n hx hb dX3_comes_125 rfl (lv_at hl 0 rfl) ?_
          refine lv_iload_n hx hb dX3_comes_126 rfl (lv_at hl 3 rfl) ?_
          refine lv_iconst (v := nI 0) hx hb dX3_comes_127 (by first | decide | rfl) ?_
          refine rdV (As := [.int (nI o), .int (nI 0)]) (rest := [.int (nI (fcN fn o i))]) (b := am 0) ⟨hx, hb, hml, hown, hts⟩ hK 2 (m_face l D cs H hP hF0 o (by omega) 0 (by omega)) (gin_v mw_8_10 mw_8_11 mw_8_12 mw_1_5 mw_8_13) (by decide +kernel) ⟨Nat.le_of_ble_eq_true rfl, Nat.le_of_ble_eq_true rfl⟩ (va_recv hK hP (ci := 4) (q0 := 0) rfl rfl) rfl hl.1 rfl (Nat.le_of_ble_eq_true rfl) dX3_comes_128 ⟨(Nat.zero_le _), (Nat.zero_le _)⟩ ?_
          refine W.eq (g2 := F0 m 131 ls [.int (nI (fcN fn o 0)), .int (nI (fcN fn o i))]) rfl ?_
          refine lv_icmp_ne (tgt := 138) hx hb dX3_comes_131 (by decide) (fun c_9 => ?_) (fun c_9 => ?_)
          · refine lv_iconst (v := 0) hx hb dX3_comes_138 (by first | decide | rfl) ?_
            refine lv_rwi (y := b2i (k3M fn o (i + 1))) (by show _ = b2i (k3M fn o i && decide (fcN fn o i = fcN fn o 0)); rw [(b2i_ne0 _).mp c_8, decide_eq_false (fun z => c_9 (congrArg nI z))]; rfl) ?_
            refine lv_goto (tgt := 163) hx hb dX3_comes_139 (by decide) ?_
            refine lv_istore (lv' := [(4, .int (b2i (k3M fn o (i + 1)))), (0, .ref (am 0)), (1, .int 3), (2, .int n), (3, .int (nI o)), (5, .int (nI i))]) hx hb dX3_comes_163 hl (by decide) rfl (fun ls hl => ?_)
            refine lv_iinc (v := nI (i + 1)) (lv' := [(5, .int (nI (i + 1))), (4, .int (b2i (k3M fn o (i + 1)))), (0, .ref (am 0)), (1, .int 3), (2, .int n), (3, .int (nI o))]) hx hb dX3_comes_165 hl (k := 5) rfl (nI_1 i) (by decide) rfl (fun ls hl => ?_)
            refine lv_goto (tgt := 99) hx hb dX3_comes_168 (by decide) ?_
            exact ih99 (i + 1) ls (by omega) (by omega) (lv_sub hl [2, 3, 4, 5, 1, 0] rfl)
          · refine lv_iconst (v := 1) hx hb dX3_comes_134 (by first | decide | rfl) ?_
            refine lv_rwi (y := b2i (k3M fn o (i + 1))) (by show _ = b2i (k3M fn o i && decide (fcN fn o i = fcN fn o 0)); rw [(b2i_ne0 _).mp c_8, decide_eq_true ((nI_eq (by have g := fcN_le (fun j h => (hF3 j h).2) o (d := i) (by omega); omega) (by have g := fcN_le (fun j h => (hF3 j h).2) o (d := 0) (by omega); omega)).mp c_9)]; rfl) ?_
            refine lv_goto (tgt := 163) hx hb dX3_comes_135 (by decide) ?_
            refine lv_istore (lv' := [(4, .int (b2i (k3M fn o (i + 1)))), (0, .ref (am 0)), (1, .int 3), (2, .int n), (3, .int (nI o)), (5, .int (nI i))]) hx hb dX3_comes_163 hl (by decide) rfl (fun ls hl => ?_)
            refine lv_iinc (v := nI (i + 1)) (lv' := [(5, .int (nI (i + 1))), (4, .int (b2i (k3M fn o (i + 1)))), (0, .ref (am 0)), (1, .int 3), (2, .int n), (3, .int (nI o))]) hx hb dX3_comes_165 hl (k := 5) rfl (nI_1 i) (by decide) rfl (fun ls hl => ?_)
            refine lv_goto (tgt := 99) hx hb dX3_comes_168 (by decide) ?_
            exact ih99 (i + 1) ls (by omega) (by omega) (lv_sub hl [2, 3, 4, 5, 1, 0] rfl)
  exact loop99 (dn + 1) 0 ls (Nat.zero_le _) (by omega) (lv_sub hl [2, 3, 4, 5, 1, 0] rfl)
set_option maxHeartbeats 4000000 in
set_option maxRecDepth 100000 in
theorem m_comes4 (l : Launch) (D : va_G) (cs : Nat → ClassId) (H : Heap) {am : Nat → Nat} {th bank rnds : Int32} {dn N n9n : Nat} {fc pu wh kn nm sk br ht sg : Nat → Int32} (hP : va_P D vwCl (wM cs am th bank rnds dn N n9n fc pu wh kn nm sk br ht sg) H) {fn : Nat → Nat} (hF : FM fn dn N n9n fc) (n : Int32) (o : Nat) (ho : o < 1728) : Rd l D (Ty cs) 3 yX3_comes cX3_comes 6 (some .boolean) H [.ref (am 0), .int 4, .int n, .int (nI o)] (some (.int (b2i (holdsM fn dn 4 n o)))) := by
  refine rd_ent (by decide) (Nat.le_of_ble_eq_true rfl) ?_
  intro p e s m below meth c ls hx hb hr hml hown hts hlocks hl hH hK
  have hl : lv_has ls 6 [(0, .ref (am 0)), (1, .int 4), (2, .int n), (3, .int (nI o))] := hl
  have hF0 := hF
  obtain ⟨hF3, hd1, hd3, hNe, hN1, hN, hn⟩ := hF
  have hs9 : smN (fcN fn o) dn ≤ 36 := by
    have g := smN_le (f := fcN fn o) (c := 12) (n := dn) (fun j hj => (fcN_le (fun j h => (hF3 j h).2) o (by omega)).2)
    omega
  refine lv_iload_n hx hb dX3_comes_0 rfl (lv_at hl 1 rfl) ?_
  refine lv_iconst (v := 5) hx hb dX3_comes_1 (by first | decide | rfl) ?_
  refine lv_icmp_lt (tgt := 23) hx hb dX3_comes_2 (by decide) (fun c_1 => ?_) (fun c_1 => False.elim (c_1 (by decide)))
  refine lv_iload_n hx hb dX3_comes_23 rfl (lv_at hl 1 rfl) ?_
  refine lv_if_ne (tgt := 42) hx hb dX3_comes_24 (by decide) (fun c_2 => ?_) (fun c_2 => False.elim (absurd c_2 (by decide)))
  refine lv_iload_n hx hb dX3_comes_42 rfl (lv_at hl 1 rfl) ?_
  refine lv_iconst (v := 1) hx hb dX3_comes_43 (by first | decide | rfl) ?_
  refine lv_icmp_ne (tgt := 62) hx hb dX3_comes_44 (by decide) (fun c_3 => ?_) (fun c_3 => False.elim (absurd c_3 (by decide)))
  refine lv_iload_n hx hb dX3_comes_62 rfl (lv_at hl 1 rfl) ?_
  refine lv_iconst (v := 2) hx hb dX3_comes_63 (by first | decide | rfl) ?_
  refine lv_icmp_ne (tgt := 84) hx hb dX3_comes_64 (by decide) (fun c_4 => ?_) (fun c_4 => False.elim (absurd c_4 (by decide)))
  refine lv_iload_n hx hb dX3_comes_84 rfl (lv_at hl 1 rfl) ?_
  refine lv_iconst (v := 3) hx hb dX3_comes_85 (by first | decide | rfl) ?_
  refine lv_icmp_ne (tgt := 93) hx hb dX3_comes_86 (by decide) (fun c_5 => ?_) (fun c_5 => False.elim (absurd c_5 (by decide)))
  refine lv_iconst (v := b2i (k4M fn n o 0)) hx hb dX3_comes_93 (by first | decide | rfl) ?_
  refine lv_istore (lv' := [(4, .int (b2i (k4M fn n o 0))), (0, .ref (am 0)), (1, .int 4), (2, .int n), (3, .int (nI o))]) hx hb dX3_comes_94 hl (by decide) rfl (fun ls hl => ?_)
  refine lv_iconst (v := nI 0) hx hb dX3_comes_96 (by first | decide | rfl) ?_
  refine lv_istore (lv' := [(5, .int (nI 0)), (4, .int (b2i (k4M fn n o 0))), (0, .ref (am 0)), (1, .int 4), (2, .int n), (3, .int (nI o))]) hx hb dX3_comes_97 hl (by decide) rfl (fun ls hl => ?_)
  have loop99 : ∀ (n9 : Nat) (i : Nat) (ls : Array Slot), i ≤ dn → dn + 1 ≤ i + n9 → lv_has ls 6 [(0, .ref (am 0)), (1, .int 4), (2, .int n), (3, .int (nI o)), (4, .int (b2i (k4M fn n o i))), (5, .int (nI i))] → RdW p l e 3 s m [.ref (am 0), .int 4, .int n, .int (nI o)] below meth c H (some (.int (b2i (holdsM fn dn 4 n o)))) (F0 m 99 ls []) := by
    intro n9
    induction n9 with
    | zero => intro i  ls hi hf hl; exact absurd hf (by omega)
    | succ n9 ih99 =>
      intro i  ls hi hf hl
      refine lv_iload hx hb dX3_comes_99 (lv_at hl 5 rfl) ?_
      refine lv_aload_n hx hb dX3_comes_101 rfl (lv_at hl 0 rfl) ?_
      refine va_get (D := D) (ci := 4) (v := .int (nI dn)) (C := RX3) (T := TX3) (N := 15) hx hb hts inlX3 hown hK hP 0 rfl rfl 2 (by decide) (hts (Cond.fieldLink RX3 13 "TavernDiceModel" "dice" "I") mw_3_20) (fun _ h9 => h9) rfl dX3_comes_102 ?_
      refine lv_icmp_ge (tgt := 171) hx hb dX3_comes_105 (by decide) (fun c_6 => ?_) (fun c_6 => ?_)
      · refine lv_iload hx hb dX3_comes_171 (lv_at hl 4 rfl) ?_
        exact rd_zret hH hx hb hr hlocks (rv (by rw [show i = dn from (by have g := (nI_leI (by omega) (by omega)).mp c_6; omega)]; rfl)) (b2i_z _) dX3_comes_173
      · have hlt : i < dn := by
          rcases Nat.lt_or_ge i dn with q | q
          · exact q
          · exact absurd (nI_le q (by omega)) c_6
        refine lv_iload_n hx hb dX3_comes_108 rfl (lv_at hl 1 rfl) ?_
        refine lv_iconst (v := 3) hx hb dX3_comes_109 (by first | decide | rfl) ?_
        refine lv_icmp_ne (tgt := 142) hx hb dX3_comes_110 (by decide) (fun c_7 => ?_) (fun c_7 => False.elim (absurd c_7 (by decide)))
        refine lv_iload hx hb dX3_comes_142 (lv_at hl 4 rfl) ?_
        refine lv_if_ne (tgt := 158) hx hb dX3_comes_144 (by decide) (fun c_8 => ?_) (fun c_8 => ?_)
        · refine lv_iconst (v := 1) hx hb dX3_comes_158 (by first | decide | rfl) ?_
          refine lv_rwi (y := b2i (k4M fn n o (i + 1))) (by show _ = b2i (k4M fn n o i || _); rw [(b2i_ne0 _).mp c_8]; rfl) ?_
          refine lv_goto (tgt := 163) hx hb dX3_comes_159 (by decide) ?_
          refine lv_istore (lv' := [(4, .int (b2i (k4M fn n o (i + 1)))), (0, .ref (am 0)), (1, .int 4), (2, .int n), (3, .int (nI o)), (5, .int (nI i))]) hx hb dX3_comes_163 hl (by decide) rfl (fun ls hl => ?_)
          refine lv_iinc (v := nI (i + 1)) (lv' := [(5, .int (nI (i + 1))), (4, .int (b2i (k4M fn n o (i + 1)))), (0, .ref (am 0)), (1, .int 4), (2, .int n), (3, .int (nI o))]) hx hb dX3_comes_165 hl (k := 5) rfl (nI_1 i) (by decide) rfl (fun ls hl => ?_)
          refine lv_goto (tgt := 99) hx hb dX3_comes_168 (by decide) ?_
          exact ih99 (i + 1) ls (by omega) (by omega) (lv_sub hl [2, 3, 4, 5, 1, 0] rfl)
        · refine lv_aload_n hx hb dX3_comes_147 rfl (lv_at hl 0 rfl) ?_
          refine lv_iload_n hx hb dX3_comes_148 rfl (lv_at hl 3 rfl) ?_
          refine lv_iload hx hb dX3_comes_149 (lv_at hl 5 rfl) ?_
          refine rdV (As := [.int (nI o), .int (nI i)]) (rest := []) (b := am 0) ⟨hx, hb, hml, hown, hts⟩ hK 2 (m_face l D cs H hP hF0 o (by omega) i (by omega)) (gin_v mw_8_10 mw_8_11 mw_8_12 mw_1_5 mw_8_13) (by decide +kernel) ⟨Nat.le_of_ble_eq_true rfl, Nat.le_of_ble_eq_true rfl⟩ (va_recv hK hP (ci := 4) (q0 := 0) rfl rfl) rfl hl.1 rfl (Nat.le_of_ble_eq_true rfl) dX3_comes_151 ⟨(Nat.zero_le _), (Nat.zero_le _)⟩ ?_
          refine W.eq (g2 := F0 m 154 ls [.int (nI (fcN fn o i))]) rfl ?_
          refine lv_iload_n hx hb dX3_comes_154 rfl (lv_at hl 2 rfl) ?_
          refine lv_icmp_ne (tgt := 162) hx hb dX3_comes_155 (by decide) (fun c_9 => ?_) (fun c_9 => ?_)
          · refine lv_iconst (v := 0) hx hb dX3_comes_162 (by first | decide | rfl) ?_
            refine lv_rwi (y := b2i (k4M fn n o (i + 1))) (by show _ = b2i (k4M fn n o i || decide (nI (fcN fn o i) = n)); rw [(b2i_eq0 _).mp c_8, decide_eq_false c_9]; rfl) ?_
            refine lv_istore (lv' := [(4, .int (b2i (k4M fn n o (i + 1)))), (0, .ref (am 0)), (1, .int 4), (2, .int n), (3, .int (nI o)), (5, .int (nI i))]) hx hb dX3_comes_163 hl (by decide) rfl (fun ls hl => ?_)
            refine lv_iinc (v := nI (i + 1)) (lv' := [(5, .int (nI (i + 1))), (4, .int (b2i (k4M fn n o (i + 1)))), (0, .ref (am 0)), (1, .int 4), (2, .int n), (3, .int (nI o))]) hx hb dX3_comes_165 hl (k := 5) rfl (nI_1 i) (by decide) rfl (fun ls hl => ?_)
            refine lv_goto (tgt := 99) hx hb dX3_comes_168 (by decide) ?_
            exact ih99 (i + 1) ls (by omega) (by omega) (lv_sub hl [2, 3, 4, 5, 1, 0] rfl)
          · refine lv_iconst (v := 1) hx hb dX3_comes_158 (by first | decide | rfl) ?_
            refine lv_rwi (y := b2i (k4M fn n o (i + 1))) (by show _ = b2i (k4M fn n o i || decide (nI (fcN fn o i) = n)); rw [(b2i_eq0 _).mp c_8, decide_eq_true c_9]; rfl) ?_
            refine lv_goto (tgt := 163) hx hb dX3_comes_159 (by decide) ?_
            refine lv_istore (lv' := [(4, .int (b2i (k4M fn n o (i + 1)))), (0, .ref (am 0)), (1, .int 4), (2, .int n), (3, .int (nI o)), (5, .int (nI i))]) hx hb dX3_comes_163 hl (by decide) rfl (fun ls hl => ?_)
            refine lv_iinc (v := nI (i + 1)) (lv' := [(5, .int (nI (i + 1))), (4, .int (b2i (k4M fn n o (i + 1)))), (0, .ref (am 0)), (1, .int 4), (2, .int n), (3, .int (nI o))]) hx hb dX3_comes_165 hl (k := 5) rfl (nI_1 i) (by decide) rfl (fun ls hl => ?_)
            refine lv_goto (tgt := 99) hx hb dX3_comes_168 (by decide) ?_
            exact ih99 (i + 1) ls (by omega) (by omega) (lv_sub hl [2, 3, 4, 5, 1, 0] rfl)
  exact loop99 (dn + 1) 0 ls (Nat.zero_le _) (by omega) (lv_sub hl [2, 3, 4, 5, 1, 0] rfl)
set_option maxHeartbeats 4000000 in
set_option maxRecDepth 100000 in
theorem m_comesB4 (l : Launch) (D : va_G) (cs : Nat → ClassId) (H : Heap) {am : Nat → Nat} {th bank rnds : Int32} {dn N n9n : Nat} {fc pu wh kn nm sk br ht sg : Nat → Int32} (hP : va_P D vwCl (wM cs am th bank rnds dn N n9n fc pu wh kn nm sk br ht sg) H) {fn : Nat → Nat} (hF : FM fn dn N n9n fc) (n : Int32) (o : Nat) (ho : o < 1728) : Rd l D (Ty cs) 4 yX3_comes cX3_comes 6 (some .boolean) H [.ref (am 0), .int 4, .int n, .int (nI o)] (some (.int (b2i (holdsM fn dn 4 n o)))) := by
  refine rd_ent (by decide) (Nat.le_of_ble_eq_true rfl) ?_
  intro p e s m below meth c ls hx hb hr hml hown hts hlocks hl hH hK
  have hl : lv_has ls 6 [(0, .ref (am 0)), (1, .int 4), (2, .int n), (3, .int (nI o))] := hl
  have hF0 := hF
  obtain ⟨hF3, hd1, hd3, hNe, hN1, hN, hn⟩ := hF
  have hs9 : smN (fcN fn o) dn ≤ 36 := by
    have g := smN_le (f := fcN fn o) (c := 12) (n := dn) (fun j hj => (fcN_le (fun j h => (hF3 j h).2) o (by omega)).2)
    omega
  refine lv_iload_n hx hb dX3_comes_0 rfl (lv_at hl 1 rfl) ?_
  refine lv_iconst (v := 5) hx hb dX3_comes_1 (by first | decide | rfl) ?_
  refine lv_icmp_lt (tgt := 23) hx hb dX3_comes_2 (by decide) (fun c_1 => ?_) (fun c_1 => False.elim (c_1 (by decide)))
  refine lv_iload_n hx hb dX3_comes_23 rfl (lv_at hl 1 rfl) ?_
  refine lv_if_ne (tgt := 42) hx hb dX3_comes_24 (by decide) (fun c_2 => ?_) (fun c_2 => False.elim (absurd c_2 (by decide)))
  refine lv_iload_n hx hb dX3_comes_42 rfl (lv_at hl 1 rfl) ?_
  refine lv_iconst (v := 1) hx hb dX3_comes_43 (by first | decide | rfl) ?_
  refine lv_icmp_ne (tgt := 62) hx hb dX3_comes_44 (by decide) (fun c_3 => ?_) (fun c_3 => False.elim (absurd c_3 (by decide)))
  refine lv_iload_n hx hb dX3_comes_62 rfl (lv_at hl 1 rfl) ?_
  refine lv_iconst (v := 2) hx hb dX3_comes_63 (by first | decide | rfl) ?_
  refine lv_icmp_ne (tgt := 84) hx hb dX3_comes_64 (by decide) (fun c_4 => ?_) (fun c_4 => False.elim (absurd c_4 (by decide)))
  refine lv_iload_n hx hb dX3_comes_84 rfl (lv_at hl 1 rfl) ?_
  refine lv_iconst (v := 3) hx hb dX3_comes_85 (by first | decide | rfl) ?_
  refine lv_icmp_ne (tgt := 93) hx hb dX3_comes_86 (by decide) (fun c_5 => ?_) (fun c_5 => False.elim (absurd c_5 (by decide)))
  refine lv_iconst (v := b2i (k4M fn n o 0)) hx hb dX3_comes_93 (by first | decide | rfl) ?_
  refine lv_istore (lv' := [(4, .int (b2i (k4M fn n o 0))), (0, .ref (am 0)), (1, .int 4), (2, .int n), (3, .int (nI o))]) hx hb dX3_comes_94 hl (by decide) rfl (fun ls hl => ?_)
  refine lv_iconst (v := nI 0) hx hb dX3_comes_96 (by first | decide | rfl) ?_
  refine lv_istore (lv' := [(5, .int (nI 0)), (4, .int (b2i (k4M fn n o 0))), (0, .ref (am 0)), (1, .int 4), (2, .int n), (3, .int (nI o))]) hx hb dX3_comes_97 hl (by decide) rfl (fun ls hl => ?_)
  have loop99 : ∀ (n9 : Nat) (i : Nat) (ls : Array Slot), i ≤ dn → dn + 1 ≤ i + n9 → lv_has ls 6 [(0, .ref (am 0)), (1, .int 4), (2, .int n), (3, .int (nI o)), (4, .int (b2i (k4M fn n o i))), (5, .int (nI i))] → RdW p l e 4 s m [.ref (am 0), .int 4, .int n, .int (nI o)] below meth c H (some (.int (b2i (holdsM fn dn 4 n o)))) (F0 m 99 ls []) := by
    intro n9
    induction n9 with
    | zero => intro i  ls hi hf hl; exact absurd hf (by omega)
    | succ n9 ih99 =>
      intro i  ls hi hf hl
      refine lv_iload hx hb dX3_comes_99 (lv_at hl 5 rfl) ?_
      refine lv_aload_n hx hb dX3_comes_101 rfl (lv_at hl 0 rfl) ?_
      refine va_get (D := D) (ci := 4) (v := .int (nI dn)) (C := RX3) (T := TX3) (N := 15) hx hb hts inlX3 hown hK hP 0 rfl rfl 2 (by decide) (hts (Cond.fieldLink RX3 13 "TavernDiceModel" "dice" "I") mw_3_20) (fun _ h9 => h9) rfl dX3_comes_102 ?_
      refine lv_icmp_ge (tgt := 171) hx hb dX3_comes_105 (by decide) (fun c_6 => ?_) (fun c_6 => ?_)
      · refine lv_iload hx hb dX3_comes_171 (lv_at hl 4 rfl) ?_
        exact rd_zret hH hx hb hr hlocks (rv (by rw [show i = dn from (by have g := (nI_leI (by omega) (by omega)).mp c_6; omega)]; rfl)) (b2i_z _) dX3_comes_173
      · have hlt : i < dn := by
          rcases Nat.lt_or_ge i dn with q | q
          · exact q
          · exact absurd (nI_le q (by omega)) c_6
        refine lv_iload_n hx hb dX3_comes_108 rfl (lv_at hl 1 rfl) ?_
        refine lv_iconst (v := 3) hx hb dX3_comes_109 (by first | decide | rfl) ?_
        refine lv_icmp_ne (tgt := 142) hx hb dX3_comes_110 (by decide) (fun c_7 => ?_) (fun c_7 => False.elim (absurd c_7 (by decide)))
        refine lv_iload hx hb dX3_comes_142 (lv_at hl 4 rfl) ?_
        refine lv_if_ne (tgt := 158) hx hb dX3_comes_144 (by decide) (fun c_8 => ?_) (fun c_8 => ?_)
        · refine lv_iconst (v := 1) hx hb dX3_comes_158 (by first | decide | rfl) ?_
          refine lv_rwi (y := b2i (k4M fn n o (i + 1))) (by show _ = b2i (k4M fn n o i || _); rw [(b2i_ne0 _).mp c_8]; rfl) ?_
          refine lv_goto (tgt := 163) hx hb dX3_comes_159 (by decide) ?_
          refine lv_istore (lv' := [(4, .int (b2i (k4M fn n o (i + 1)))), (0, .ref (am 0)), (1, .int 4), (2, .int n), (3, .int (nI o)), (5, .int (nI i))]) hx hb dX3_comes_163 hl (by decide) rfl (fun ls hl => ?_)
          refine lv_iinc (v := nI (i + 1)) (lv' := [(5, .int (nI (i + 1))), (4, .int (b2i (k4M fn n o (i + 1)))), (0, .ref (am 0)), (1, .int 4), (2, .int n), (3, .int (nI o))]) hx hb dX3_comes_165 hl (k := 5) rfl (nI_1 i) (by decide) rfl (fun ls hl => ?_)
          refine lv_goto (tgt := 99) hx hb dX3_comes_168 (by decide) ?_
          exact ih99 (i + 1) ls (by omega) (by omega) (lv_sub hl [2, 3, 4, 5, 1, 0] rfl)
        · refine lv_aload_n hx hb dX3_comes_147 rfl (lv_at hl 0 rfl) ?_
          refine lv_iload_n hx hb dX3_comes_148 rfl (lv_at hl 3 rfl) ?_
          refine lv_iload hx hb dX3_comes_149 (lv_at hl 5 rfl) ?_
          refine rdV (As := [.int (nI o), .int (nI i)]) (rest := []) (b := am 0) ⟨hx, hb, hml, hown, hts⟩ hK 2 (m_face l D cs H hP hF0 o (by omega) i (by omega)) (gin_v mw_8_10 mw_8_11 mw_8_12 mw_1_5 mw_8_13) (by decide +kernel) ⟨Nat.le_of_ble_eq_true rfl, Nat.le_of_ble_eq_true rfl⟩ (va_recv hK hP (ci := 4) (q0 := 0) rfl rfl) rfl hl.1 rfl (Nat.le_of_ble_eq_true rfl) dX3_comes_151 ⟨(Nat.zero_le _), (Nat.zero_le _)⟩ ?_
          refine W.eq (g2 := F0 m 154 ls [.int (nI (fcN fn o i))]) rfl ?_
          refine lv_iload_n hx hb dX3_comes_154 rfl (lv_at hl 2 rfl) ?_
          refine lv_icmp_ne (tgt := 162) hx hb dX3_comes_155 (by decide) (fun c_9 => ?_) (fun c_9 => ?_)
          · refine lv_iconst (v := 0) hx hb dX3_comes_162 (by first | decide | rfl) ?_
            refine lv_rwi (y := b2i (k4M fn n o (i + 1))) (by show _ = b2i (k4M fn n o i || decide (nI (fcN fn o i) = n)); rw [(b2i_eq0 _).mp c_8, decide_eq_false c_9]; rfl) ?_
            refine lv_istore (lv' := [(4, .int (b2i (k4M fn n o (i + 1)))), (0, .ref (am 0)), (1, .int 4), (2, .int n), (3, .int (nI o)), (5, .int (nI i))]) hx hb dX3_comes_163 hl (by decide) rfl (fun ls hl => ?_)
            refine lv_iinc (v := nI (i + 1)) (lv' := [(5, .int (nI (i + 1))), (4, .int (b2i (k4M fn n o (i + 1)))), (0, .ref (am 0)), (1, .int 4), (2, .int n), (3, .int (nI o))]) hx hb dX3_comes_165 hl (k := 5) rfl (nI_1 i) (by decide) rfl (fun ls hl => ?_)
            refine lv_goto (tgt := 99) hx hb dX3_comes_168 (by decide) ?_
            exact ih99 (i + 1) ls (by omega) (by omega) (lv_sub hl [2, 3, 4, 5, 1, 0] rfl)
          · refine lv_iconst (v := 1) hx hb dX3_comes_158 (by first | decide | rfl) ?_
            refine lv_rwi (y := b2i (k4M fn n o (i + 1))) (by show _ = b2i (k4M fn n o i || decide (nI (fcN fn o i) = n)); rw [(b2i_eq0 _).mp c_8, decide_eq_true c_9]; rfl) ?_
            refine lv_goto (tgt := 163) hx hb dX3_comes_159 (by decide) ?_
            refine lv_istore (lv' := [(4, .int (b2i (k4M fn n o (i + 1)))), (0, .ref (am 0)), (1, .int 4), (2, .int n), (3, .int (nI o)), (5, .int (nI i))]) hx hb dX3_comes_163 hl (by decide) rfl (fun ls hl => ?_)
            refine lv_iinc (v := nI (i + 1)) (lv' := [(5, .int (nI (i + 1))), (4, .int (b2i (k4M fn n o (i + 1)))), (0, .ref (am 0)), (1, .int 4), (2, .int n), (3, .int (nI o))]) hx hb dX3_comes_165 hl (k := 5) rfl (nI_1 i) (by decide) rfl (fun ls hl => ?_)
            refine lv_goto (tgt := 99) hx hb dX3_comes_168 (by decide) ?_
            exact ih99 (i + 1) ls (by omega) (by omega) (lv_sub hl [2, 3, 4, 5, 1, 0] rfl)
  exact loop99 (dn + 1) 0 ls (Nat.zero_le _) (by omega) (lv_sub hl [2, 3, 4, 5, 1, 0] rfl)
