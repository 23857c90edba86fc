/-! the class: its list shrinks; rows by program -/
set_option maxHeartbeats 4000000 in
set_option maxRecDepth 100000 in
theorem k_fastRemove (l : Launch) (D : va_G) (cs : Nat → ClassId) (z mi : Nat) (H : Heap) {tl : va_W}  {b es : Nat} {mcn : Int32} {cap : Nat} {rf : Nat → Option Nat} {wa : Nat → Nat} {wf : Nat → Nat → Int32} {n1 : Nat} (hw : ∀ i, i < n1 + 1 → wG wa wf i ∈ tl) (hr9 : ∀ i, i < n1 + 1 → rf i = some (wa i)) (hcap : cap ≤ 1000) (hn : n1 < cap) (i : Nat) (hi : i < n1 + 1) (post : Option Value → va_W → Prop) (hpost : post none ([(b, .inr (0, [.int (mcn + 1), .ref es, .int (nI n1)])), (es, .inl (cs 2, cap, .inr (.inr (.inr (.inr ((shR rf i n1)))))))] ++ tl)) (hP : va_P D vwCl ([(b, .inr (0, [.int mcn, .ref es, .int (nI (n1 + 1))])), (es, .inl (cs 2, cap, .inr (.inr (.inr (.inr (rf))))))] ++ tl) H) (hD : va_D (fun _ => True) ([(b, .inr (0, [.int mcn, .ref es, .int (nI (n1 + 1))])), (es, .inl (cs 2, cap, .inr (.inr (.inr (.inr (rf))))))] ++ tl)) : Ws z mi l D cs 3 0 0 yJx4a65c_fastRemove_b59b0 cJx4a65c_fastRemove_b59b0 4 none ([(b, .inr (0, [.int mcn, .ref es, .int (nI (n1 + 1))])), (es, .inl (cs 2, cap, .inr (.inr (.inr (.inr (rf))))))] ++ tl) H [.ref b, .ref es, .int (nI i)] post := by
  refine ws_ent (by decide) (Nat.le_of_ble_eq_true rfl) hP hD ?_
  clear hP hD H
  intro p e s m below meth c ls A Q H hx hb hr hml hown hts hlocks hin hl hK hQ hA hH hT hP hD hS
  clear hH
  have hl : lv_has ls 4 [(0, .ref b), (1, .ref es), (2, .int (nI i))] := hl
  refine lv_aload_n hx hb dJx4a65c_fastRemove_b59b0_0 rfl (lv_at hl 0 rfl) ?_
  refine lv_dup hx hb dJx4a65c_fastRemove_b59b0_1 rfl ?_
  refine va_get (D := D) (ci := 0) (v := .int mcn) (C := RJx4a65c) (T := TJx4a65c) (N := 3) hx hb hts inlJx4a65c hown hK hP 0 rfl rfl 0 (by decide) (hts (Cond.fieldLink RJx4a65c 63 "java/util/ArrayList" "modCount" "I") mw_7_11) (u_same (hts (Cond.sameField "java/util/ArrayList" "java/util/AbstractList" "modCount" "I") mw_7_12)) rfl dJx4a65c_fastRemove_b59b0_2 ?_
  refine lv_iconst (v := 1) hx hb dJx4a65c_fastRemove_b59b0_5 (by first | decide | rfl) ?_
  refine lv_iadd hx hb dJx4a65c_fastRemove_b59b0_6 ?_
  refine lv_rwi (y := mcn + 1) (rfl) ?_
  refine va_put (D := D) (ci := 0) (v := .int (mcn + 1)) (ty := .int) (C := RJx4a65c) (T := TJx4a65c) (N := 3) hx hb hts inlJx4a65c tyJx4a65c tyJx4a65c_ok nmJx4a65c hown hK hP hD hS 0 rfl rfl 0 (by decide) (hts (Cond.fieldLink RJx4a65c 63 "java/util/ArrayList" "modCount" "I") mw_7_11) (u_same (hts (Cond.sameField "java/util/ArrayList" "java/util/AbstractList" "modCount" "I") mw_7_12)) rfl (by decide +kernel) rfl rfl (Nat.le_of_ble_eq_true rfl) dJx4a65c_fastRemove_b59b0_7 (fun H locs hP hD hS => ?_)
  have hP : va_P D vwCl ([(b, .inr (0, [.int (mcn + 1), .ref es, .int (nI (n1 + 1))])), (es, .inl (cs 2, cap, .inr (.inr (.inr (.inr (rf))))))] ++ tl) H := hP
  have hD : va_D _ ([(b, .inr (0, [.int (mcn + 1), .ref es, .int (nI (n1 + 1))])), (es, .inl (cs 2, cap, .inr (.inr (.inr (.inr (rf))))))] ++ tl) := hD
  refine lv_aload_n hx hb dJx4a65c_fastRemove_b59b0_10 rfl (lv_at hl 0 rfl) ?_
  refine va_get (D := D) (ci := 0) (v := .int (nI (n1 + 1))) (C := RJx4a65c) (T := TJx4a65c) (N := 3) hx hb hts inlJx4a65c hown hK hP 0 rfl rfl 2 (by decide) (hts (Cond.fieldLink RJx4a65c 48 "java/util/ArrayList" "size" "I") mw_5_21) (fun _ h9 => h9) rfl dJx4a65c_fastRemove_b59b0_11 ?_
  refine lv_iconst (v := 1) hx hb dJx4a65c_fastRemove_b59b0_14 (by first | decide | rfl) ?_
  refine lv_isub hx hb dJx4a65c_fastRemove_b59b0_15 ?_
  refine lv_rwi (y := nI n1) (nI_pred n1) ?_
  refine lv_dup hx hb dJx4a65c_fastRemove_b59b0_16 rfl ?_
  refine lv_istore_n (lv' := [(3, .int (nI n1)), (0, .ref b), (1, .ref es), (2, .int (nI i))]) hx hb dJx4a65c_fastRemove_b59b0_17 rfl hl (by decide) rfl (fun ls hl => ?_)
  refine lv_iload_n hx hb dJx4a65c_fastRemove_b59b0_18 rfl (lv_at hl 3 rfl) ?_
  refine lv_icmp_le (tgt := 34) hx hb dJx4a65c_fastRemove_b59b0_19 (by decide) (fun c_1 => ?_) (fun c_1 => ?_)
  · refine lv_aload_n hx hb dJx4a65c_fastRemove_b59b0_34 rfl (lv_at hl 2 rfl) ?_
    refine lv_aload_n hx hb dJx4a65c_fastRemove_b59b0_35 rfl (lv_at hl 1 rfl) ?_
    refine lv_iload_n hx hb dJx4a65c_fastRemove_b59b0_36 rfl (lv_at hl 0 rfl) ?_
    refine lv_dup_x1 hx hb dJx4a65c_fastRemove_b59b0_37 rfl rfl ?_
    refine va_put (D := D) (ci := 0) (v := .int (nI n1)) (ty := .int) (C := RJx4a65c) (T := TJx4a65c) (N := 3) hx hb hts inlJx4a65c tyJx4a65c tyJx4a65c_ok nmJx4a65c hown hK hP hD hS 0 rfl rfl 2 (by decide) (hts (Cond.fieldLink RJx4a65c 48 "java/util/ArrayList" "size" "I") mw_5_21) (fun _ h9 => h9) rfl (by decide +kernel) rfl rfl (Nat.le_of_ble_eq_true rfl) dJx4a65c_fastRemove_b59b0_38 (fun H locs hP hD hS => ?_)
    have hP : va_P D vwCl ([(b, .inr (0, [.int (mcn + 1), .ref es, .int (nI n1)])), (es, .inl (cs 2, cap, .inr (.inr (.inr (.inr (rf))))))] ++ tl) H := hP
    have hD : va_D _ ([(b, .inr (0, [.int (mcn + 1), .ref es, .int (nI n1)])), (es, .inl (cs 2, cap, .inr (.inr (.inr (.inr (rf))))))] ++ tl) := hD
    refine lv_null hx hb dJx4a65c_fastRemove_b59b0_41 ?_
    refine va_astqN hx hb hK hP hD hS 1 2 rfl rfl (vp_in_nI (by omega) (by omega)) dJx4a65c_fastRemove_b59b0_42 (fun H locs hP hD hS => ?_)
    have g9 : va_up rf (nI n1).toNatClampNeg none = shR rf i n1 := by rw [nI_clamp (by omega)]; have e9 : i = n1 := by { have g := (nI_leI (by omega) (by omega)).mp c_1; omega }; rw [e9]; exact shR_self rf n1
    have hP : va_P D vwCl ([(b, .inr (0, [.int (mcn + 1), .ref es, .int (nI n1)])), (es, .inl (cs 2, cap, .inr (.inr (.inr (.inr (shR rf i n1))))))] ++ tl) H := Eq.mp (congrArg (fun z9 => va_P D vwCl ([(b, .inr (0, [.int (mcn + 1), .ref es, .int (nI n1)])), (es, .inl (cs 2, cap, .inr (.inr (.inr (.inr (z9))))))] ++ tl) H) g9) hP
    have hD : va_D _ ([(b, .inr (0, [.int (mcn + 1), .ref es, .int (nI n1)])), (es, .inl (cs 2, cap, .inr (.inr (.inr (.inr (shR rf i n1))))))] ++ tl) := Eq.mp (congrArg (fun z9 => va_D _ ([(b, .inr (0, [.int (mcn + 1), .ref es, .int (nI n1)])), (es, .inl (cs 2, cap, .inr (.inr (.inr (.inr (z9))))))] ++ tl)) g9) hD
    exact wr_vret hQ hx hb hr hlocks hP hD hS (hpost) dJx4a65c_fastRemove_b59b0_43
  · refine lv_aload_n hx hb dJx4a65c_fastRemove_b59b0_22 rfl (lv_at hl 2 rfl) ?_
    refine lv_iload_n hx hb dJx4a65c_fastRemove_b59b0_23 rfl (lv_at hl 3 rfl) ?_
    refine lv_iconst (v := 1) hx hb dJx4a65c_fastRemove_b59b0_24 (by first | decide | rfl) ?_
    have hi1 : i ≤ n1 := by omega
    refine lv_iadd hx hb dJx4a65c_fastRemove_b59b0_25 ?_
    refine lv_rwi (y := nI (i + 1)) (nI_1 i) ?_
    refine lv_aload_n hx hb dJx4a65c_fastRemove_b59b0_26 rfl (lv_at hl 2 rfl) ?_
    refine lv_iload_n hx hb dJx4a65c_fastRemove_b59b0_27 rfl (lv_at hl 3 rfl) ?_
    refine lv_iload_n hx hb dJx4a65c_fastRemove_b59b0_28 rfl (lv_at hl 0 rfl) ?_
    refine lv_iload_n hx hb dJx4a65c_fastRemove_b59b0_29 rfl (lv_at hl 3 rfl) ?_
    refine lv_isub hx hb dJx4a65c_fastRemove_b59b0_30 ?_
    refine lv_rwi (y := nI (n1 - i)) (pk_sub hi1) ?_
    refine va_copyq (C := RX1) (E0 := "java/lang/Object") (E1 := "java/lang/Object") hx hb (hml.trans hl.1.symm) hown (hts (Cond.methodLink RJx4a65c 112 arraycopyName) mw_7_13) (hts (Cond.native arraycopyName) mw_7_14) (hts (Cond.static arraycopyName) mw_7_15) (hts (Cond.initialized "java/lang/System") mw_7_16) hK hP hD hS 1 1 2 2 rfl rfl rfl rfl (nI_pos (by omega)) (nI_pos (by omega)) (nI_pos (by omega)) (by rw [nI_clamp (n := i + 1) (by omega), nI_clamp (n := n1 - i) (by omega)]; omega) (by rw [nI_clamp (n := i) (by omega), nI_clamp (n := n1 - i) (by omega)]; omega) (fun j9 hj9 y hy => hel_of hK hP hw hr9 (j := i + 1 + j9) (by rw [nI_clamp (by omega)] at hj9; omega) (by rw [nI_clamp (by omega)] at hy; exact hy)) (vb_asgC (hT.2.2.2.2.2.2.1 _ cd_w0)) (Nat.le_of_ble_eq_true rfl) (Nat.le_of_ble_eq_true rfl) dJx4a65c_fastRemove_b59b0_31 (fun H locs hP hD hS => ?_)
    have g9 : va_cpy rf rf (nI (i + 1)).toNatClampNeg (nI i).toNatClampNeg (nI (n1 - i)).toNatClampNeg = va_cpy rf rf (i + 1) i (n1 - i) := by rw [nI_clamp (n := i + 1) (by omega), nI_clamp (n := i) (by omega), nI_clamp (n := n1 - i) (by omega)]
    have hP : va_P D vwCl ([(b, .inr (0, [.int (mcn + 1), .ref es, .int (nI (n1 + 1))])), (es, .inl (cs 2, cap, .inr (.inr (.inr (.inr (va_cpy rf rf (i + 1) i (n1 - i)))))))] ++ tl) H := Eq.mp (congrArg (fun z9 => va_P D vwCl ([(b, .inr (0, [.int (mcn + 1), .ref es, .int (nI (n1 + 1))])), (es, .inl (cs 2, cap, .inr (.inr (.inr (.inr (z9))))))] ++ tl) H) g9) hP
    have hD : va_D _ ([(b, .inr (0, [.int (mcn + 1), .ref es, .int (nI (n1 + 1))])), (es, .inl (cs 2, cap, .inr (.inr (.inr (.inr (va_cpy rf rf (i + 1) i (n1 - i)))))))] ++ tl) := Eq.mp (congrArg (fun z9 => va_D _ ([(b, .inr (0, [.int (mcn + 1), .ref es, .int (nI (n1 + 1))])), (es, .inl (cs 2, cap, .inr (.inr (.inr (.inr (z9))))))] ++ tl)) g9) hD
    refine lv_aload_n hx hb dJx4a65c_fastRemove_b59b0_34 rfl (lv_at hl 2 rfl) ?_
    refine lv_aload_n hx hb dJx4a65c_fastRemove_b59b0_35 rfl (lv_at hl 1 rfl) ?_
    refine lv_iload_n hx hb dJx4a65c_fastRemove_b59b0_36 rfl (lv_at hl 0 rfl) ?_
    refine lv_dup_x1 hx hb dJx4a65c_fastRemove_b59b0_37 rfl rfl ?_
    refine va_put (D := D) (ci := 0) (v := .int (nI n1)) (ty := .int) (C := RJx4a65c) (T := TJx4a65c) (N := 3) hx hb hts inlJx4a65c tyJx4a65c tyJx4a65c_ok nmJx4a65c hown hK hP hD hS 0 rfl rfl 2 (by decide) (hts (Cond.fieldLink RJx4a65c 48 "java/util/ArrayList" "size" "I") mw_5_21) (fun _ h9 => h9) rfl (by decide +kernel) rfl rfl (Nat.le_of_ble_eq_true rfl) dJx4a65c_fastRemove_b59b0_38 (fun H locs hP hD hS => ?_)
    have hP : va_P D vwCl ([(b, .inr (0, [.int (mcn + 1), .ref es, .int (nI n1)])), (es, .inl (cs 2, cap, .inr (.inr (.inr (.inr (va_cpy rf rf (i + 1) i (n1 - i)))))))] ++ tl) H := hP
    have hD : va_D _ ([(b, .inr (0, [.int (mcn + 1), .ref es, .int (nI n1)])), (es, .inl (cs 2, cap, .inr (.inr (.inr (.inr (va_cpy rf rf (i + 1) i (n1 - i)))))))] ++ tl) := hD
    refine lv_null hx hb dJx4a65c_fastRemove_b59b0_41 ?_
    refine va_astqN hx hb hK hP hD hS 1 2 rfl rfl (vp_in_nI (by omega) (by omega)) dJx4a65c_fastRemove_b59b0_42 (fun H locs hP hD hS => ?_)
    have g9 : va_up (va_cpy rf rf (i + 1) i (n1 - i)) (nI n1).toNatClampNeg none = shR rf i n1 := by rw [nI_clamp (by omega)]; rfl
    have hP : va_P D vwCl ([(b, .inr (0, [.int (mcn + 1), .ref es, .int (nI n1)])), (es, .inl (cs 2, cap, .inr (.inr (.inr (.inr (shR rf i n1))))))] ++ tl) H := Eq.mp (congrArg (fun z9 => va_P D vwCl ([(b, .inr (0, [.int (mcn + 1), .ref es, .int (nI n1)])), (es, .inl (cs 2, cap, .inr (.inr (.inr (.inr (z9))))))] ++ tl) H) g9) hP
    have hD : va_D _ ([(b, .inr (0, [.int (mcn + 1), .ref es, .int (nI n1)])), (es, .inl (cs 2, cap, .inr (.inr (.inr (.inr (shR rf i n1))))))] ++ tl) := Eq.mp (congrArg (fun z9 => va_D _ ([(b, .inr (0, [.int (mcn + 1), .ref es, .int (nI n1)])), (es, .inl (cs 2, cap, .inr (.inr (.inr (.inr (z9))))))] ++ tl)) g9) hD
    exact wr_vret hQ hx hb hr hlocks hP hD hS (hpost) dJx4a65c_fastRemove_b59b0_43
set_option maxHeartbeats 4000000 in
set_option maxRecDepth 100000 in
theorem k_remove (l : Launch) (D : va_G) (cs : Nat → ClassId) (z mi : Nat) (H : Heap) {tl : va_W}  {b es : Nat} {mcn : Int32} {cap : Nat} {rf : Nat → Option Nat} {wa : Nat → Nat} {wf : Nat → Nat → Int32} {n1 : Nat} (hw : ∀ i, i < n1 + 1 → wG wa wf i ∈ tl) (hr9 : ∀ i, i < n1 + 1 → rf i = some (wa i)) (hcap : cap ≤ 1000) (hn : n1 < cap) (i : Nat) (hi : i < n1 + 1) (post : Option Value → va_W → Prop) (hpost : post (some (.ref (wa i))) ([(b, .inr (0, [.int (mcn + 1), .ref es, .int (nI n1)])), (es, .inl (cs 2, cap, .inr (.inr (.inr (.inr ((shR rf i n1)))))))] ++ tl)) (hP : va_P D vwCl ([(b, .inr (0, [.int mcn, .ref es, .int (nI (n1 + 1))])), (es, .inl (cs 2, cap, .inr (.inr (.inr (.inr (rf))))))] ++ tl) H) (hD : va_D (fun _ => True) ([(b, .inr (0, [.int mcn, .ref es, .int (nI (n1 + 1))])), (es, .inl (cs 2, cap, .inr (.inr (.inr (.inr (rf))))))] ++ tl)) : Ws z mi l D cs 4 0 0 yJx4a65c_remove_915e3 cJx4a65c_remove_915e3 4 (some (.object "java/lang/Object")) ([(b, .inr (0, [.int mcn, .ref es, .int (nI (n1 + 1))])), (es, .inl (cs 2, cap, .inr (.inr (.inr (.inr (rf))))))] ++ tl) H [.ref b, .int (nI i)] post := by
  refine ws_ent (by decide) (Nat.le_of_ble_eq_true rfl) hP hD ?_
  clear hP hD H
  intro p e s m below meth c ls A Q H hx hb hr hml hown hts hlocks hin hl hK hQ hA hH hT hP hD hS
  clear hH
  have hl : lv_has ls 4 [(0, .ref b), (1, .int (nI i))] := hl
  refine lv_iload_n hx hb dJx4a65c_remove_915e3_0 rfl (lv_at hl 1 rfl) ?_
  refine lv_aload_n hx hb dJx4a65c_remove_915e3_1 rfl (lv_at hl 0 rfl) ?_
  refine va_get (D := D) (ci := 0) (v := .int (nI (n1 + 1))) (C := RJx4a65c) (T := TJx4a65c) (N := 3) hx hb hts inlJx4a65c hown hK hP 0 rfl rfl 2 (by decide) (hts (Cond.fieldLink RJx4a65c 48 "java/util/ArrayList" "size" "I") mw_5_21) (fun _ h9 => h9) rfl dJx4a65c_remove_915e3_2 ?_
  refine rdS (As := [.int (nI i), .int (nI (n1 + 1))]) (rest := []) ⟨hx, hb, hml, hown, hts⟩ hK 2 (c_checkIndex l D cs H i (n1 + 1) hi (by omega)) (gin_s mw_6_23 mw_7_0 mw_7_1 mw_7_2) (by decide +kernel) ⟨Nat.le_of_ble_eq_true rfl, Nat.le_of_ble_eq_true rfl⟩ rfl hl.1 rfl (Nat.le_of_ble_eq_true rfl) dJx4a65c_remove_915e3_5 ⟨(Nat.le_of_ble_eq_true rfl), (Nat.le_of_ble_eq_true rfl)⟩ ?_
  refine W.eq (g2 := F0 m 8 ls [.int (nI i)]) rfl ?_
  refine lv_pop hx hb dJx4a65c_remove_915e3_8 rfl ?_
  refine lv_aload_n hx hb dJx4a65c_remove_915e3_9 rfl (lv_at hl 0 rfl) ?_
  refine va_get (D := D) (ci := 0) (v := .ref es) (C := RJx4a65c) (T := TJx4a65c) (N := 3) hx hb hts inlJx4a65c hown hK hP 0 rfl rfl 1 (by decide) (hts (Cond.fieldLink RJx4a65c 9 "java/util/ArrayList" "elementData" "[Ljava/lang/Object;") mw_3_0) (fun _ h9 => h9) rfl dJx4a65c_remove_915e3_10 ?_
  refine lv_astore_n (lv' := [(2, .ref es), (0, .ref b), (1, .int (nI i))]) hx hb dJx4a65c_remove_915e3_13 rfl hl (by decide) rfl (fun ls hl => ?_)
  refine lv_aload_n hx hb dJx4a65c_remove_915e3_14 rfl (lv_at hl 0 rfl) ?_
  refine lv_iload_n hx hb dJx4a65c_remove_915e3_15 rfl (lv_at hl 2 rfl) ?_
  refine va_aldq hx hb hK hP 1 2 rfl rfl (vp_in_nI (by omega) (by omega)) dJx4a65c_remove_915e3_16 ?_
  refine lv_rwv (y := .ref (wa i)) (by rw [nI_clamp (by omega), hr9 i hi]; rfl) ?_
  refine lv_astore_n (lv' := [(3, .ref (wa i)), (2, .ref es), (0, .ref b), (1, .int (nI i))]) hx hb dJx4a65c_remove_915e3_17 rfl hl (by decide) rfl (fun ls hl => ?_)
  refine lv_aload_n hx hb dJx4a65c_remove_915e3_18 rfl (lv_at hl 2 rfl) ?_
  refine lv_aload_n hx hb dJx4a65c_remove_915e3_19 rfl (lv_at hl 1 rfl) ?_
  refine lv_iload_n hx hb dJx4a65c_remove_915e3_20 rfl (lv_at hl 3 rfl) ?_
  have hP : va_P D vwCl ([(b, .inr (0, [.int mcn, .ref es, .int (nI (n1 + 1))])), (es, .inl (cs 2, cap, .inr (.inr (.inr (.inr (rf))))))] ++ tl) H := hP
  have hD : va_D _ ([(b, .inr (0, [.int mcn, .ref es, .int (nI (n1 + 1))])), (es, .inl (cs 2, cap, .inr (.inr (.inr (.inr (rf))))))] ++ tl) := hD
  refine wtV (As := [.ref es, .int (nI i)]) (rest := []) (b := b) ⟨hx, hb, hml, hown, hts⟩ hT hK 2 (k_fastRemove l D cs z mi H hw hr9 hcap hn i hi (fun ov w1 => ov = none ∧ w1 = [(b, .inr (0, [.int (mcn + 1), .ref es, .int (nI n1)])), (es, .inl (cs 2, cap, .inr (.inr (.inr (.inr ((shR rf i n1)))))))] ++ tl) ⟨rfl, rfl⟩ hP (hD.weaken (fun _ _ _ _ => trivial))) (gin_v mw_7_7 mw_7_8 mw_7_9 mw_1_17 mw_7_10) (by decide +kernel) ⟨Nat.le_of_ble_eq_true rfl, Nat.le_of_ble_eq_true rfl⟩ (va_recv hK hP (ci := 0) (q0 := 0) rfl rfl) rfl hl.1 rfl (Nat.le_of_ble_eq_true rfl) dJx4a65c_remove_915e3_21 ⟨(Nat.le_of_ble_eq_true rfl), (Nat.le_of_ble_eq_true rfl)⟩ hD hS hA (fun ov9 w9 H locs hp9 hP hD hS => ?_)
  obtain ⟨rfl, rfl⟩ := hp9
  have hP : va_P D vwCl ([(b, .inr (0, [.int (mcn + 1), .ref es, .int (nI n1)])), (es, .inl (cs 2, cap, .inr (.inr (.inr (.inr ((shR rf i n1)))))))] ++ tl) H := hP
  have hD : va_D _ ([(b, .inr (0, [.int (mcn + 1), .ref es, .int (nI n1)])), (es, .inl (cs 2, cap, .inr (.inr (.inr (.inr ((shR rf i n1)))))))] ++ tl) := hD
  refine W.eq (g2 := F0 m 24 ls []) rfl ?_
  refine lv_aload_n hx hb dJx4a65c_remove_915e3_24 rfl (lv_at hl 0 rfl) ?_
  exact wr_aret hQ hx hb hr hlocks (Or.inl ⟨_, rfl⟩) (Or.inr ⟨_, rfl⟩) hP hD hS (hpost) dJx4a65c_remove_915e3_25
set_option maxHeartbeats 4000000 in
set_option maxRecDepth 100000 in
theorem k_clear0 (l : Launch) (D : va_G) (cs : Nat → ClassId) (z mi : Nat) (H : Heap)  {b es : Nat} {mcn : Int32} {tl : va_W} (post : Option Value → va_W → Prop) (hpost : post none ([(b, .inr (0, [.int (mcn + 1), .ref es, .int (nI 0)]))] ++ tl)) (hP : va_P D vwCl ([(b, .inr (0, [.int mcn, .ref es, .int (nI 0)]))] ++ tl) H) (hD : va_D (fun _ => True) ([(b, .inr (0, [.int mcn, .ref es, .int (nI 0)]))] ++ tl)) : Ws z mi l D cs 2 0 0 yJx4a65c_clear_da8c8 cJx4a65c_clear_da8c8 4 none ([(b, .inr (0, [.int mcn, .ref es, .int (nI 0)]))] ++ tl) H [.ref b] post := by
  refine ws_ent (by decide) (Nat.le_of_ble_eq_true rfl) hP hD ?_
  clear hP hD H
  intro p e s m below meth c ls A Q H hx hb hr hml hown hts hlocks hin hl hK hQ hA hH hT hP hD hS
  clear hH
  have hl : lv_has ls 4 [(0, .ref b)] := hl
  refine lv_aload_n hx hb dJx4a65c_clear_da8c8_0 rfl (lv_at hl 0 rfl) ?_
  refine lv_dup hx hb dJx4a65c_clear_da8c8_1 rfl ?_
  refine va_get (D := D) (ci := 0) (v := .int mcn) (C := RJx4a65c) (T := TJx4a65c) (N := 3) hx hb hts inlJx4a65c hown hK hP 0 rfl rfl 0 (by decide) (hts (Cond.fieldLink RJx4a65c 63 "java/util/ArrayList" "modCount" "I") mw_7_11) (u_same (hts (Cond.sameField "java/util/ArrayList" "java/util/AbstractList" "modCount" "I") mw_7_12)) rfl dJx4a65c_clear_da8c8_2 ?_
  refine lv_iconst (v := 1) hx hb dJx4a65c_clear_da8c8_5 (by first | decide | rfl) ?_
  refine lv_iadd hx hb dJx4a65c_clear_da8c8_6 ?_
  refine va_put (D := D) (ci := 0) (v := .int (mcn + 1)) (ty := .int) (C := RJx4a65c) (T := TJx4a65c) (N := 3) hx hb hts inlJx4a65c tyJx4a65c tyJx4a65c_ok nmJx4a65c hown hK hP hD hS 0 rfl rfl 0 (by decide) (hts (Cond.fieldLink RJx4a65c 63 "java/util/ArrayList" "modCount" "I") mw_7_11) (u_same (hts (Cond.sameField "java/util/ArrayList" "java/util/AbstractList" "modCount" "I") mw_7_12)) rfl (by decide +kernel) rfl rfl (Nat.le_of_ble_eq_true rfl) dJx4a65c_clear_da8c8_7 (fun H locs hP hD hS => ?_)
  have hP : va_P D vwCl ([(b, .inr (0, [.int (mcn + 1), .ref es, .int (nI 0)]))] ++ tl) H := hP
  have hD : va_D _ ([(b, .inr (0, [.int (mcn + 1), .ref es, .int (nI 0)]))] ++ tl) := hD
  refine lv_aload_n hx hb dJx4a65c_clear_da8c8_10 rfl (lv_at hl 0 rfl) ?_
  refine va_get (D := D) (ci := 0) (v := .ref es) (C := RJx4a65c) (T := TJx4a65c) (N := 3) hx hb hts inlJx4a65c hown hK hP 0 rfl rfl 1 (by decide) (hts (Cond.fieldLink RJx4a65c 9 "java/util/ArrayList" "elementData" "[Ljava/lang/Object;") mw_3_0) (fun _ h9 => h9) rfl dJx4a65c_clear_da8c8_11 ?_
  refine lv_astore_n (lv' := [(1, .ref es), (0, .ref b)]) hx hb dJx4a65c_clear_da8c8_14 rfl hl (by decide) rfl (fun ls hl => ?_)
  refine lv_aload_n hx hb dJx4a65c_clear_da8c8_15 rfl (lv_at hl 1 rfl) ?_
  refine va_get (D := D) (ci := 0) (v := .int (nI 0)) (C := RJx4a65c) (T := TJx4a65c) (N := 3) hx hb hts inlJx4a65c hown hK hP 0 rfl rfl 2 (by decide) (hts (Cond.fieldLink RJx4a65c 48 "java/util/ArrayList" "size" "I") mw_5_21) (fun _ h9 => h9) rfl dJx4a65c_clear_da8c8_16 ?_
  refine lv_istore_n (lv' := [(2, .int (nI 0)), (1, .ref es), (0, .ref b)]) hx hb dJx4a65c_clear_da8c8_19 rfl hl (by decide) rfl (fun ls hl => ?_)
  refine lv_aload_n hx hb dJx4a65c_clear_da8c8_20 rfl (lv_at hl 2 rfl) ?_
  refine lv_iconst (v := nI 0) hx hb dJx4a65c_clear_da8c8_21 (by first | decide | rfl) ?_
  refine lv_dup_x1 hx hb dJx4a65c_clear_da8c8_22 rfl rfl ?_
  refine va_put (D := D) (ci := 0) (v := .int (nI 0)) (ty := .int) (C := RJx4a65c) (T := TJx4a65c) (N := 3) hx hb hts inlJx4a65c tyJx4a65c tyJx4a65c_ok nmJx4a65c hown hK hP hD hS 0 rfl rfl 2 (by decide) (hts (Cond.fieldLink RJx4a65c 48 "java/util/ArrayList" "size" "I") mw_5_21) (fun _ h9 => h9) rfl (by decide +kernel) rfl rfl (Nat.le_of_ble_eq_true rfl) dJx4a65c_clear_da8c8_23 (fun H locs hP hD hS => ?_)
  have hP : va_P D vwCl ([(b, .inr (0, [.int (mcn + 1), .ref es, .int (nI 0)]))] ++ tl) H := hP
  have hD : va_D _ ([(b, .inr (0, [.int (mcn + 1), .ref es, .int (nI 0)]))] ++ tl) := hD
  refine lv_istore_n (lv' := [(3, .int (nI 0)), (2, .int (nI 0)), (1, .ref es), (0, .ref b)]) hx hb dJx4a65c_clear_da8c8_26 rfl hl (by decide) rfl (fun ls hl => ?_)
  refine lv_iload_n hx hb dJx4a65c_clear_da8c8_27 rfl (lv_at hl 0 rfl) ?_
  refine lv_iload_n hx hb dJx4a65c_clear_da8c8_28 rfl (lv_at hl 1 rfl) ?_
  refine lv_icmp_ge (tgt := 42) hx hb dJx4a65c_clear_da8c8_29 (by decide) (fun c_1 => ?_) (fun c_1 => False.elim (absurd (nI_le (Nat.le_refl 0) (by omega)) c_1))
  exact wr_vret hQ hx hb hr hlocks hP hD hS (hpost) dJx4a65c_clear_da8c8_42
set_option maxHeartbeats 4000000 in
set_option maxRecDepth 100000 in
theorem k_clear (l : Launch) (D : va_G) (cs : Nat → ClassId) (z mi : Nat) (H : Heap)  {b es : Nat} {mcn : Int32} {n cap : Nat} {rf : Nat → Option Nat} (hn : n ≤ cap) (hcap : cap ≤ 1000) {tl : va_W} (post : Option Value → va_W → Prop) (hpost : post none ([(b, .inr (0, [.int (mcn + 1), .ref es, .int (nI 0)])), (es, .inl (cs 2, cap, .inr (.inr (.inr (.inr ((clr rf n)))))))] ++ tl)) (hP : va_P D vwCl ([(b, .inr (0, [.int mcn, .ref es, .int (nI n)])), (es, .inl (cs 2, cap, .inr (.inr (.inr (.inr (rf))))))] ++ tl) H) (hD : va_D (fun _ => True) ([(b, .inr (0, [.int mcn, .ref es, .int (nI n)])), (es, .inl (cs 2, cap, .inr (.inr (.inr (.inr (rf))))))] ++ tl)) : Ws z mi l D cs 2 0 0 yJx4a65c_clear_da8c8 cJx4a65c_clear_da8c8 4 none ([(b, .inr (0, [.int mcn, .ref es, .int (nI n)])), (es, .inl (cs 2, cap, .inr (.inr (.inr (.inr (rf))))))] ++ tl) H [.ref b] post := by
  refine ws_ent (by decide) (Nat.le_of_ble_eq_true rfl) hP hD ?_
  clear hP hD H
  intro p e s m below meth c ls A Q H hx hb hr hml hown hts hlocks hin hl hK hQ hA hH hT hP hD hS
  clear hH
  have hl : lv_has ls 4 [(0, .ref b)] := hl
  refine lv_aload_n hx hb dJx4a65c_clear_da8c8_0 rfl (lv_at hl 0 rfl) ?_
  refine lv_dup hx hb dJx4a65c_clear_da8c8_1 rfl ?_
  refine va_get (D := D) (ci := 0) (v := .int mcn) (C := RJx4a65c) (T := TJx4a65c) (N := 3) hx hb hts inlJx4a65c hown hK hP 0 rfl rfl 0 (by decide) (hts (Cond.fieldLink RJx4a65c 63 "java/util/ArrayList" "modCount" "I") mw_7_11) (u_same (hts (Cond.sameField "java/util/ArrayList" "java/util/AbstractList" "modCount" "I") mw_7_12)) rfl dJx4a65c_clear_da8c8_2 ?_
  refine lv_iconst (v := 1) hx hb dJx4a65c_clear_da8c8_5 (by first | decide | rfl) ?_
  refine lv_iadd hx hb dJx4a65c_clear_da8c8_6 ?_
  refine va_put (D := D) (ci := 0) (v := .int (mcn + 1)) (ty := .int) (C := RJx4a65c) (T := TJx4a65c) (N := 3) hx hb hts inlJx4a65c tyJx4a65c tyJx4a65c_ok nmJx4a65c hown hK hP hD hS 0 rfl rfl 0 (by decide) (hts (Cond.fieldLink RJx4a65c 63 "java/util/ArrayList" "modCount" "I") mw_7_11) (u_same (hts (Cond.sameField "java/util/ArrayList" "java/util/AbstractList" "modCount" "I") mw_7_12)) rfl (by decide +kernel) rfl rfl (Nat.le_of_ble_eq_true rfl) dJx4a65c_clear_da8c8_7 (fun H locs hP hD hS => ?_)
  have hP : va_P D vwCl ([(b, .inr (0, [.int (mcn + 1), .ref es, .int (nI n)])), (es, .inl (cs 2, cap, .inr (.inr (.inr (.inr (rf))))))] ++ tl) H := hP
  have hD : va_D _ ([(b, .inr (0, [.int (mcn + 1), .ref es, .int (nI n)])), (es, .inl (cs 2, cap, .inr (.inr (.inr (.inr (rf))))))] ++ tl) := hD
  refine lv_aload_n hx hb dJx4a65c_clear_da8c8_10 rfl (lv_at hl 0 rfl) ?_
  refine va_get (D := D) (ci := 0) (v := .ref es) (C := RJx4a65c) (T := TJx4a65c) (N := 3) hx hb hts inlJx4a65c hown hK hP 0 rfl rfl 1 (by decide) (hts (Cond.fieldLink RJx4a65c 9 "java/util/ArrayList" "elementData" "[Ljava/lang/Object;") mw_3_0) (fun _ h9 => h9) rfl dJx4a65c_clear_da8c8_11 ?_
  refine lv_astore_n (lv' := [(1, .ref es), (0, .ref b)]) hx hb dJx4a65c_clear_da8c8_14 rfl hl (by decide) rfl (fun ls hl => ?_)
  refine lv_aload_n hx hb dJx4a65c_clear_da8c8_15 rfl (lv_at hl 1 rfl) ?_
  refine va_get (D := D) (ci := 0) (v := .int (nI n)) (C := RJx4a65c) (T := TJx4a65c) (N := 3) hx hb hts inlJx4a65c hown hK hP 0 rfl rfl 2 (by decide) (hts (Cond.fieldLink RJx4a65c 48 "java/util/ArrayList" "size" "I") mw_5_21) (fun _ h9 => h9) rfl dJx4a65c_clear_da8c8_16 ?_
  refine lv_istore_n (lv' := [(2, .int (nI n)), (1, .ref es), (0, .ref b)]) hx hb dJx4a65c_clear_da8c8_19 rfl hl (by decide) rfl (fun ls hl => ?_)
  refine lv_aload_n hx hb dJx4a65c_clear_da8c8_20 rfl (lv_at hl 2 rfl) ?_
  refine lv_iconst (v := nI 0) hx hb dJx4a65c_clear_da8c8_21 (by first | decide | rfl) ?_
  refine lv_dup_x1 hx hb dJx4a65c_clear_da8c8_22 rfl rfl ?_
  refine va_put (D := D) (ci := 0) (v := .int (nI 0)) (ty := .int) (C := RJx4a65c) (T := TJx4a65c) (N := 3) hx hb hts inlJx4a65c tyJx4a65c tyJx4a65c_ok nmJx4a65c hown hK hP hD hS 0 rfl rfl 2 (by decide) (hts (Cond.fieldLink RJx4a65c 48 "java/util/ArrayList" "size" "I") mw_5_21) (fun _ h9 => h9) rfl (by decide +kernel) rfl rfl (Nat.le_of_ble_eq_true rfl) dJx4a65c_clear_da8c8_23 (fun H locs hP hD hS => ?_)
  have hP : va_P D vwCl ([(b, .inr (0, [.int (mcn + 1), .ref es, .int (nI 0)])), (es, .inl (cs 2, cap, .inr (.inr (.inr (.inr (rf))))))] ++ tl) H := hP
  have hD : va_D _ ([(b, .inr (0, [.int (mcn + 1), .ref es, .int (nI 0)])), (es, .inl (cs 2, cap, .inr (.inr (.inr (.inr (rf))))))] ++ tl) := hD
  refine lv_istore_n (lv' := [(3, .int (nI 0)), (2, .int (nI n)), (1, .ref es), (0, .ref b)]) hx hb dJx4a65c_clear_da8c8_26 rfl hl (by decide) rfl (fun ls hl => ?_)
  have loop27 : ∀ (n9 : Nat) (j : Nat) (H : Heap) (locs : List Loc) (ls : Array Slot), j ≤ n → n + 1 ≤ j + n9 → va_P D vwCl ([(b, .inr (0, [.int (mcn + 1), .ref es, .int (nI 0)])), (es, .inl (cs 2, cap, .inr (.inr (.inr (.inr ((clr rf j)))))))] ++ tl) H → va_D A ([(b, .inr (0, [.int (mcn + 1), .ref es, .int (nI 0)])), (es, .inl (cs 2, cap, .inr (.inr (.inr (.inr ((clr rf j)))))))] ++ tl) → va_S A s.heap H locs → lv_has ls 4 [(0, .ref b), (1, .ref es), (2, .int (nI n)), (3, .int (nI j))] → W p l e (rmL 2 0 0) s m [.ref b].toArray below meth c H locs (0) (0) Q (F0 m 27 ls []) := by
    intro n9
    induction n9 with
    | zero => intro j  H locs ls hj hf hP hD hS hl; exact absurd hf (by omega)
    | succ n9 ih27 =>
      intro j  H locs ls hj hf hP hD hS hl
      refine lv_iload_n hx hb dJx4a65c_clear_da8c8_27 rfl (lv_at hl 3 rfl) ?_
      refine lv_iload_n hx hb dJx4a65c_clear_da8c8_28 rfl (lv_at hl 2 rfl) ?_
      refine lv_icmp_ge (tgt := 42) hx hb dJx4a65c_clear_da8c8_29 (by decide) (fun c_1 => ?_) (fun c_1 => ?_)
      · exact wr_vret hQ hx hb hr hlocks hP hD hS (by { have g : j = n := by { have g := (nI_leI (by omega) (by omega)).mp c_1; omega }; subst g; exact hpost }) dJx4a65c_clear_da8c8_42
      · have hlt : j < n := by
          rcases Nat.lt_or_ge j n with q | q
          · exact q
          · exact absurd (nI_le q (by omega)) c_1
        refine lv_aload_n hx hb dJx4a65c_clear_da8c8_32 rfl (lv_at hl 1 rfl) ?_
        refine lv_iload_n hx hb dJx4a65c_clear_da8c8_33 rfl (lv_at hl 3 rfl) ?_
        refine lv_null hx hb dJx4a65c_clear_da8c8_34 ?_
        refine va_astqN hx hb hK hP hD hS 1 2 rfl rfl (vp_in_nI (by omega) (by omega)) dJx4a65c_clear_da8c8_35 (fun H locs hP hD hS => ?_)
        have g9 : va_up ((clr rf j)) (nI j).toNatClampNeg none = clr rf (j + 1) := by rw [nI_clamp (by omega)]; exact clr_s rf j
        have hP : va_P D vwCl ([(b, .inr (0, [.int (mcn + 1), .ref es, .int (nI 0)])), (es, .inl (cs 2, cap, .inr (.inr (.inr (.inr (clr rf (j + 1)))))))] ++ tl) H := Eq.mp (congrArg (fun z9 => va_P D vwCl ([(b, .inr (0, [.int (mcn + 1), .ref es, .int (nI 0)])), (es, .inl (cs 2, cap, .inr (.inr (.inr (.inr (z9))))))] ++ tl) H) g9) hP
        have hD : va_D _ ([(b, .inr (0, [.int (mcn + 1), .ref es, .int (nI 0)])), (es, .inl (cs 2, cap, .inr (.inr (.inr (.inr (clr rf (j + 1)))))))] ++ tl) := Eq.mp (congrArg (fun z9 => va_D _ ([(b, .inr (0, [.int (mcn + 1), .ref es, .int (nI 0)])), (es, .inl (cs 2, cap, .inr (.inr (.inr (.inr (z9))))))] ++ tl)) g9) hD
        refine lv_iinc (v := nI (j + 1)) (lv' := [(3, .int (nI (j + 1))), (0, .ref b), (1, .ref es), (2, .int (nI n))]) hx hb dJx4a65c_clear_da8c8_36 hl (k := 3) rfl (nI_1 j) (by decide) rfl (fun ls hl => ?_)
        refine lv_goto (tgt := 27) hx hb dJx4a65c_clear_da8c8_39 (by decide) ?_
        exact ih27 (j + 1) H _ ls (by omega) (by omega) hP hD hS (lv_sub hl [1, 2, 3, 0] rfl)
  have g9 : rf = clr rf 0 := rfl
  have hP : va_P D vwCl ([(b, .inr (0, [.int (mcn + 1), .ref es, .int (nI 0)])), (es, .inl (cs 2, cap, .inr (.inr (.inr (.inr (clr rf 0))))))] ++ tl) H := Eq.mp (congrArg (fun z9 => va_P D vwCl ([(b, .inr (0, [.int (mcn + 1), .ref es, .int (nI 0)])), (es, .inl (cs 2, cap, .inr (.inr (.inr (.inr (z9))))))] ++ tl) H) g9) hP
  have hD : va_D _ ([(b, .inr (0, [.int (mcn + 1), .ref es, .int (nI 0)])), (es, .inl (cs 2, cap, .inr (.inr (.inr (.inr (clr rf 0))))))] ++ tl) := Eq.mp (congrArg (fun z9 => va_D _ ([(b, .inr (0, [.int (mcn + 1), .ref es, .int (nI 0)])), (es, .inl (cs 2, cap, .inr (.inr (.inr (.inr (z9))))))] ++ tl)) g9) hD
  exact loop27 (n + 1) 0 H _ ls (Nat.zero_le _) (by omega) hP hD hS (lv_sub hl [3, 2, 1, 0] rfl)
