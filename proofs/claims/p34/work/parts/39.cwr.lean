/-! the class: its list grows; rows by program -/
set_option maxHeartbeats 4000000 in
set_option maxRecDepth 100000 in
theorem c_newLength (l : Launch) (D : va_G) (cs : Nat → ClassId) (H : Heap)  : Rd l D (Ty cs) 1 yJ8_newLength_cabcc cJ8_newLength_cabcc 4 (some .int) H [.int (nI 10), .int (nI 1), .int (nI 5)] (some (.int (nI 15))) := by
  refine rd_ent (by decide) (Nat.le_of_ble_eq_true rfl) ?_
  intro p e s m below meth c ls hx hb hr hml hown hts hlocks hl hH hK
  have hl : lv_has ls 4 [(0, .int (nI 10)), (1, .int (nI 1)), (2, .int (nI 5))] := hl
  refine lv_iload_n hx hb dJ8_newLength_cabcc_0 rfl (lv_at hl 0 rfl) ?_
  refine lv_iload_n hx hb dJ8_newLength_cabcc_1 rfl (lv_at hl 1 rfl) ?_
  refine lv_iload_n hx hb dJ8_newLength_cabcc_2 rfl (lv_at hl 2 rfl) ?_
  refine va_mmax hx hb (hml.trans hl.1.symm) hown (hts (Cond.methodLink RJ8 194 Lib.Math.max.name) mw_13_1) (hts (Cond.static Lib.Math.max.name) mw_12_18) (hts (Cond.initialized "java/lang/Math") mw_2_11) (hts (Cond.code Lib.Math.max.name Lib.Math.max.code 2 (some .int)) mw_12_19) (Nat.le_of_ble_eq_true rfl) (Nat.le_of_ble_eq_true rfl) (Nat.zero_le _) (Nat.zero_le _) dJ8_newLength_cabcc_3 ?_
  refine lv_rwi (y := nI 5) (if_pos (nI_lt (by omega) (by omega))) ?_
  refine lv_iadd hx hb dJ8_newLength_cabcc_6 ?_
  refine lv_rwi (y := nI 15) (nI_add 10 5) ?_
  refine lv_istore_n (lv' := [(3, .int (nI 15)), (0, .int (nI 10)), (1, .int (nI 1)), (2, .int (nI 5))]) hx hb dJ8_newLength_cabcc_7 rfl hl (by decide) rfl (fun ls hl => ?_)
  refine lv_iconst (v := nI 0) hx hb dJ8_newLength_cabcc_8 (by first | decide | rfl) ?_
  refine lv_iload_n hx hb dJ8_newLength_cabcc_9 rfl (lv_at hl 0 rfl) ?_
  refine lv_icmp_ge (tgt := 21) hx hb dJ8_newLength_cabcc_10 (by decide) (fun c_1 => False.elim (absurd c_1 (nI_ge (by omega) (by omega)))) (fun c_1 => ?_)
  refine lv_iload_n hx hb dJ8_newLength_cabcc_13 rfl (lv_at hl 0 rfl) ?_
  refine lv_ldc hx hb hown (hts (Cond.constant RJ8 200 (2147483639)) mw_13_2) dJ8_newLength_cabcc_14 ?_
  refine lv_icmp_gt (tgt := 21) hx hb dJ8_newLength_cabcc_16 (by decide) (fun c_2 => False.elim (absurd c_2 (by decide))) (fun c_2 => ?_)
  refine lv_iload_n hx hb dJ8_newLength_cabcc_19 rfl (lv_at hl 0 rfl) ?_
  exact rd_iret hH hx hb hr hlocks (rfl) dJ8_newLength_cabcc_20
set_option maxHeartbeats 4000000 in
set_option maxRecDepth 100000 in
theorem k_copyOf3 (l : Launch) (D : va_G) (cs : Nat → ClassId) (z mi : Nat) (H : Heap) {tl : va_W}  {es : Nat} {rf : Nat → Option Nat} {wa : Nat → Nat} {wf : Nat → Nat → Int32} (hw : ∀ i, i < 10 → wG wa wf i ∈ tl) (hr9 : ∀ i, i < 10 → rf i = some (wa i)) (post : Option Value → va_W → Prop) (hpost : ∀ q : Nat, post (some (.ref q)) ([(es, .inl (cs 2, 10, .inr (.inr (.inr (.inr (rf)))))), (q, .inl (cs 2, 15, .inr (.inr (.inr (.inr ((va_cpy rf (fun _ => none) 0 0 10)))))))] ++ tl)) (hP : va_P D vwCl ([(es, .inl (cs 2, 10, .inr (.inr (.inr (.inr (rf))))))] ++ tl) H) (hD : va_D (fun _ => True) ([(es, .inl (cs 2, 10, .inr (.inr (.inr (.inr (rf))))))] ++ tl)) : Ws z mi l D cs 3 1 15 yJ7_copyOf_6403c cJ7_copyOf_6403c 4 (some (.array (.object "java/lang/Object"))) ([(es, .inl (cs 2, 10, .inr (.inr (.inr (.inr (rf))))))] ++ tl) H [.ref es, .int (nI 15), .ref mi] post := by
  refine ws_ent (by decide) (Nat.le_of_ble_eq_true rfl) hP hD ?_
  clear hP hD H
  intro p e s m below meth c ls A Q H hx hb hr hml hown hts hlocks hin hl hK hQ hA hH hT hP hD hS
  clear hH
  have hl : lv_has ls 4 [(0, .ref es), (1, .int (nI 15)), (2, .ref mi)] := hl
  refine lv_aload_n hx hb dJ7_copyOf_6403c_0 rfl (lv_at hl 2 rfl) ?_
  refine va_ldcM hx hb hown (hts (Cond.classLink RJ7 110 "[Ljava/lang/Object;") mw_13_17) hT.2.2.1 dJ7_copyOf_6403c_1 ?_
  refine lv_acmp_ne (rx := some mi) (ry := some mi) (tgt := 13) hx hb dJ7_copyOf_6403c_3 (by decide) (fun c9 => False.elim (c9 rfl)) (fun _ => ?_)
  refine lv_iload_n hx hb dJ7_copyOf_6403c_6 rfl (lv_at hl 1 rfl) ?_
  refine nwO (N' := 15) hx hb hown (hts (Cond.classLink RJ7 2 "java/lang/Object") mw_13_18) hT.2.2.2.1.1 hK hP hD hS hA (nI_pos (by omega)) (nI_clamp (by omega)) (by decide) (Nat.le_of_ble_eq_true rfl) (Nat.le_of_ble_eq_true rfl) dJ7_copyOf_6403c_7 (fun q7 H hP hD hS => ?_)
  have hP : va_P D vwCl ([(es, .inl (cs 2, 10, .inr (.inr (.inr (.inr (rf)))))), (q7, .inl (cs 2, 15, .inr (.inr (.inr (.inr (fun _ => none))))))] ++ tl) H := va_P.swap hP
  have hD : va_D _ ([(es, .inl (cs 2, 10, .inr (.inr (.inr (.inr (rf)))))), (q7, .inl (cs 2, 15, .inr (.inr (.inr (.inr (fun _ => none))))))] ++ tl) := va_D.swap hD
  refine lv_goto (tgt := 24) hx hb dJ7_copyOf_6403c_10 (by decide) ?_
  refine lv_astore_n (lv' := [(3, .ref q7), (0, .ref es), (1, .int (nI 15)), (2, .ref mi)]) hx hb dJ7_copyOf_6403c_24 rfl hl (by decide) rfl (fun ls hl => ?_)
  refine lv_aload_n hx hb dJ7_copyOf_6403c_25 rfl (lv_at hl 1 rfl) ?_
  refine lv_iconst (v := nI 0) hx hb dJ7_copyOf_6403c_26 (by first | decide | rfl) ?_
  refine lv_aload_n hx hb dJ7_copyOf_6403c_27 rfl (lv_at hl 0 rfl) ?_
  refine lv_iconst (v := nI 0) hx hb dJ7_copyOf_6403c_28 (by first | decide | rfl) ?_
  refine lv_aload_n hx hb dJ7_copyOf_6403c_29 rfl (lv_at hl 1 rfl) ?_
  refine va_alen hx hb hK hP 0 2 rfl rfl (v := nI 10) (rfl) dJ7_copyOf_6403c_30 ?_
  refine lv_iload_n hx hb dJ7_copyOf_6403c_31 rfl (lv_at hl 2 rfl) ?_
  refine va_mmin hx hb (hml.trans hl.1.symm) hown (hts (Cond.methodLink RJ7 304 Lib.Math.min.name) mw_13_19) (hts (Cond.static Lib.Math.min.name) mw_2_10) (hts (Cond.initialized "java/lang/Math") mw_2_11) (hts (Cond.code Lib.Math.min.name Lib.Math.min.code 2 (some .int)) mw_2_12) (Nat.le_of_ble_eq_true rfl) (Nat.le_of_ble_eq_true rfl) (Nat.le_of_ble_eq_true rfl) (Nat.le_of_ble_eq_true rfl) dJ7_copyOf_6403c_32 ?_
  refine lv_rwi (y := nI 10) (if_neg (nI_nlt (by omega) (by omega))) ?_
  refine va_copyq (C := RX1) (E0 := "java/lang/Object") (E1 := "java/lang/Object") hx hb (hml.trans hl.1.symm) hown (hts (Cond.methodLink RJ7 150 arraycopyName) mw_13_20) (hts (Cond.native arraycopyName) mw_7_14) (hts (Cond.static arraycopyName) mw_7_15) (hts (Cond.initialized "java/lang/System") mw_7_16) hK hP hD hS 0 1 2 2 rfl rfl rfl rfl (nI_pos (by omega)) (nI_pos (by omega)) (nI_pos (by omega)) (by rw [nI_clamp (n := 0) (by omega), nI_clamp (n := 10) (by omega)]; omega) (by rw [nI_clamp (n := 0) (by omega), nI_clamp (n := 10) (by omega)]; omega) (fun i hi y hy => hel_of hK hP hw hr9 (by rw [nI_clamp (by omega)] at hi; exact hi) (by rw [nI_clamp (by omega), Nat.zero_add] at hy; exact hy)) (vb_asgC (hT.2.2.2.2.2.2.1 _ cd_w0)) (Nat.le_of_ble_eq_true rfl) (Nat.le_of_ble_eq_true rfl) dJ7_copyOf_6403c_35 (fun H locs hP hD hS => ?_)
  have g9 : va_cpy rf (fun _ => none) (nI 0).toNatClampNeg (nI 0).toNatClampNeg (nI 10).toNatClampNeg = va_cpy rf (fun _ => none) 0 0 10 := by rw [nI_clamp (n := 0) (by omega), nI_clamp (n := 10) (by omega)]
  have hP : va_P D vwCl ([(es, .inl (cs 2, 10, .inr (.inr (.inr (.inr (rf)))))), (q7, .inl (cs 2, 15, .inr (.inr (.inr (.inr (va_cpy rf (fun _ => none) 0 0 10))))))] ++ tl) H := Eq.mp (congrArg (fun z9 => va_P D vwCl ([(es, .inl (cs 2, 10, .inr (.inr (.inr (.inr (rf)))))), (q7, .inl (cs 2, 15, .inr (.inr (.inr (.inr (z9))))))] ++ tl) H) g9) hP
  have hD : va_D _ ([(es, .inl (cs 2, 10, .inr (.inr (.inr (.inr (rf)))))), (q7, .inl (cs 2, 15, .inr (.inr (.inr (.inr (va_cpy rf (fun _ => none) 0 0 10))))))] ++ tl) := Eq.mp (congrArg (fun z9 => va_D _ ([(es, .inl (cs 2, 10, .inr (.inr (.inr (.inr (rf)))))), (q7, .inl (cs 2, 15, .inr (.inr (.inr (.inr (z9))))))] ++ tl)) g9) hD
  refine lv_aload_n hx hb dJ7_copyOf_6403c_38 rfl (lv_at hl 0 rfl) ?_
  refine W.widen (k := 1) (n := 15) (Nat.le_of_ble_eq_true rfl) (Nat.le_of_ble_eq_true rfl) ?_
  exact wr_aret hQ hx hb hr hlocks (Or.inr ⟨_, rfl⟩) (Or.inr ⟨_, rfl⟩) hP hD hS (hpost _) dJ7_copyOf_6403c_39
set_option maxHeartbeats 4000000 in
set_option maxRecDepth 100000 in
theorem k_copyOf2 (l : Launch) (D : va_G) (cs : Nat → ClassId) (z mi : Nat) (H : Heap) {tl : va_W}  {es : Nat} {rf : Nat → Option Nat} {wa : Nat → Nat} {wf : Nat → Nat → Int32} (hw : ∀ i, i < 10 → wG wa wf i ∈ tl) (hr9 : ∀ i, i < 10 → rf i = some (wa i)) (post : Option Value → va_W → Prop) (hpost : ∀ q : Nat, post (some (.ref q)) ([(es, .inl (cs 2, 10, .inr (.inr (.inr (.inr (rf)))))), (q, .inl (cs 2, 15, .inr (.inr (.inr (.inr ((va_cpy rf (fun _ => none) 0 0 10)))))))] ++ tl)) (hP : va_P D vwCl ([(es, .inl (cs 2, 10, .inr (.inr (.inr (.inr (rf))))))] ++ tl) H) (hD : va_D (fun _ => True) ([(es, .inl (cs 2, 10, .inr (.inr (.inr (.inr (rf))))))] ++ tl)) : Ws z mi l D cs 4 1 15 yJ7_copyOf_1904c cJ7_copyOf_1904c 2 (some (.array (.object "java/lang/Object"))) ([(es, .inl (cs 2, 10, .inr (.inr (.inr (.inr (rf))))))] ++ tl) H [.ref es, .int (nI 15)] post := by
  refine ws_ent (by decide) (Nat.le_of_ble_eq_true rfl) hP hD ?_
  clear hP hD H
  intro p e s m below meth c ls A Q H hx hb hr hml hown hts hlocks hin hl hK hQ hA hH hT hP hD hS
  clear hH
  have hl : lv_has ls 2 [(0, .ref es), (1, .int (nI 15))] := hl
  refine lv_aload_n hx hb dJ7_copyOf_1904c_0 rfl (lv_at hl 0 rfl) ?_
  refine lv_iload_n hx hb dJ7_copyOf_1904c_1 rfl (lv_at hl 1 rfl) ?_
  refine lv_aload_n hx hb dJ7_copyOf_1904c_2 rfl (lv_at hl 0 rfl) ?_
  refine va_getC hx hb (hml.trans hl.1.symm) hown (hts (Cond.methodLink RJ7 86 ⟨"java/lang/Object", "getClass", "()Ljava/lang/Class;"⟩) mw_13_10) (va_Nw.use rfl (hT.2.2.2.2.2.2.1 _ cd_w1)) (hts (Cond.selects "[Ljava/lang/Object;" ⟨"java/lang/Object", "getClass", "()Ljava/lang/Class;"⟩ ⟨"java/lang/Object", "getClass", "()Ljava/lang/Class;"⟩) mw_13_11) (hts (Cond.instanceMethod ⟨"java/lang/Object", "getClass", "()Ljava/lang/Class;"⟩) mw_13_12) (hts (Cond.native ⟨"java/lang/Object", "getClass", "()Ljava/lang/Class;"⟩) mw_13_13) hT.2.2.1 (arr_recv (k := 0) hK hP rfl) (Nat.le_of_ble_eq_true rfl) (Nat.le_of_ble_eq_true rfl) dJ7_copyOf_1904c_3 ?_
  have hP : va_P D vwCl ([(es, .inl (cs 2, 10, .inr (.inr (.inr (.inr (rf))))))] ++ tl) H := hP
  have hD : va_D _ ([(es, .inl (cs 2, 10, .inr (.inr (.inr (.inr (rf))))))] ++ tl) := hD
  refine wtS (As := [.ref es, .int (nI 15), .ref mi]) (rest := []) ⟨hx, hb, hml, hown, hts⟩ hT hK 3 (k_copyOf3 l D cs z mi H hw hr9 (fun ov w1 => ∃ qc1 : Nat, ov = some (.ref qc1) ∧ w1 = [(es, .inl (cs 2, 10, .inr (.inr (.inr (.inr (rf)))))), (qc1, .inl (cs 2, 15, .inr (.inr (.inr (.inr ((va_cpy rf (fun _ => none) 0 0 10)))))))] ++ tl) (fun qc1 => ⟨qc1, rfl, rfl⟩) hP (hD.weaken (fun _ _ _ _ => trivial))) (gin_s mw_13_14 mw_13_15 mw_13_8 mw_13_16) (by decide +kernel) ⟨Nat.le_of_ble_eq_true rfl, Nat.le_of_ble_eq_true rfl⟩ rfl hl.1 rfl (Nat.le_of_ble_eq_true rfl) dJ7_copyOf_1904c_6 ⟨(Nat.le_of_ble_eq_true rfl), (Nat.le_of_ble_eq_true rfl)⟩ hD hS hA (fun ov9 w9 H locs hp9 hP hD hS => ?_)
  obtain ⟨qc1, rfl, rfl⟩ := hp9
  have hP : va_P D vwCl ([(es, .inl (cs 2, 10, .inr (.inr (.inr (.inr (rf)))))), (qc1, .inl (cs 2, 15, .inr (.inr (.inr (.inr ((va_cpy rf (fun _ => none) 0 0 10)))))))] ++ tl) H := hP
  have hD : va_D _ ([(es, .inl (cs 2, 10, .inr (.inr (.inr (.inr (rf)))))), (qc1, .inl (cs 2, 15, .inr (.inr (.inr (.inr ((va_cpy rf (fun _ => none) 0 0 10)))))))] ++ tl) := hD
  refine W.eq (g2 := F0 m 9 ls [.ref qc1]) rfl ?_
  refine W.widen (k := 1) (n := 15) (Nat.le_of_ble_eq_true rfl) (Nat.le_of_ble_eq_true rfl) ?_
  exact wr_aret hQ hx hb hr hlocks (Or.inr ⟨_, rfl⟩) (Or.inr ⟨_, rfl⟩) hP hD hS (hpost _) dJ7_copyOf_1904c_9
set_option maxHeartbeats 4000000 in
set_option maxRecDepth 100000 in
theorem k_growA (l : Launch) (D : va_G) (cs : Nat → ClassId) (z mi : Nat) (H : Heap)  {b : Nat} {mcn : Int32} {tl : va_W} (post : Option Value → va_W → Prop) (hpost : ∀ q : Nat, post (some (.ref q)) ([(b, .inr (0, [.int mcn, .ref q, .int (nI 0)])), (q, .inl (cs 2, 10, .inr (.inr (.inr (.inr (fun _ => none))))))] ++ tl)) (hP : va_P D vwCl ([(b, .inr (0, [.int mcn, .ref z, .int (nI 0)]))] ++ tl) H) (hD : va_D (fun _ => True) ([(b, .inr (0, [.int mcn, .ref z, .int (nI 0)]))] ++ tl)) : Ws z mi l D cs 3 1 10 yJx4a65c_grow_92f84 cJx4a65c_grow_92f84 4 (some (.array (.object "java/lang/Object"))) ([(b, .inr (0, [.int mcn, .ref z, .int (nI 0)]))] ++ tl) H [.ref b, .int (nI 1)] post := by
  refine ws_ent (by decide) (Nat.le_of_ble_eq_true rfl) hP hD ?_
  clear hP hD H
  intro p e s m below meth c ls A Q H hx hb hr hml hown hts hlocks hin hl hK hQ hA hH hT hP hD hS
  clear hH
  have hl : lv_has ls 4 [(0, .ref b), (1, .int (nI 1))] := hl
  refine lv_aload_n hx hb dJx4a65c_grow_92f84_0 rfl (lv_at hl 0 rfl) ?_
  refine va_get (D := D) (ci := 0) (v := .ref z) (C := RJx4a65c) (T := TJx4a65c) (N := 3) hx hb hts inlJx4a65c hown hK hP 0 rfl rfl 1 (by decide) (hts (Cond.fieldLink RJx4a65c 9 "java/util/ArrayList" "elementData" "[Ljava/lang/Object;") mw_3_0) (fun _ h9 => h9) rfl dJx4a65c_grow_92f84_1 ?_
  refine va_tlen hx hb hT.2.1 hS (v := nI 0) rfl dJx4a65c_grow_92f84_4 ?_
  refine lv_istore_n (lv' := [(2, .int (nI 0)), (0, .ref b), (1, .int (nI 1))]) hx hb dJx4a65c_grow_92f84_5 rfl hl (by decide) rfl (fun ls hl => ?_)
  refine lv_iload_n hx hb dJx4a65c_grow_92f84_6 rfl (lv_at hl 0 rfl) ?_
  refine lv_if_gt (tgt := 20) hx hb dJx4a65c_grow_92f84_7 (by decide) (fun c_1 => False.elim (absurd c_1 (by decide))) (fun c_1 => ?_)
  refine lv_aload_n hx hb dJx4a65c_grow_92f84_10 rfl (lv_at hl 1 rfl) ?_
  refine va_get (D := D) (ci := 0) (v := .ref z) (C := RJx4a65c) (T := TJx4a65c) (N := 3) hx hb hts inlJx4a65c hown hK hP 0 rfl rfl 1 (by decide) (hts (Cond.fieldLink RJx4a65c 9 "java/util/ArrayList" "elementData" "[Ljava/lang/Object;") mw_3_0) (fun _ h9 => h9) rfl dJx4a65c_grow_92f84_11 ?_
  refine va_gets hx hb hT.1 hS hown (hts (Cond.fieldLink RJx4a65c 39 "java/util/ArrayList" "DEFAULTCAPACITY_EMPTY_ELEMENTDATA" "[Ljava/lang/Object;") mw_2_23) (fun _ h9 => h9) dJx4a65c_grow_92f84_14 ?_
  refine lv_acmp_eq (rx := some z) (ry := some z) (tgt := 45) hx hb dJx4a65c_grow_92f84_17 (by decide) (fun _ => ?_) (fun c9 => False.elim (c9 rfl))
  refine lv_aload_n hx hb dJx4a65c_grow_92f84_45 rfl (lv_at hl 1 rfl) ?_
  refine lv_bipush (v := nI 10) hx hb dJx4a65c_grow_92f84_46 (by first | decide | rfl) ?_
  refine lv_iload_n hx hb dJx4a65c_grow_92f84_48 rfl (lv_at hl 2 rfl) ?_
  refine va_mmax hx hb (hml.trans hl.1.symm) hown (hts (Cond.methodLink RJx4a65c 79 Lib.Math.max.name) mw_12_17) (hts (Cond.static Lib.Math.max.name) mw_12_18) (hts (Cond.initialized "java/lang/Math") mw_2_11) (hts (Cond.code Lib.Math.max.name Lib.Math.max.code 2 (some .int)) mw_12_19) (Nat.le_of_ble_eq_true rfl) (Nat.le_of_ble_eq_true rfl) (Nat.le_of_ble_eq_true rfl) (Nat.le_of_ble_eq_true rfl) dJx4a65c_grow_92f84_49 ?_
  refine lv_rwi (y := nI 10) (if_neg (nI_nlt (by omega) (by omega))) ?_
  refine nwO (N' := 10) hx hb hown (hts (Cond.classLink RJx4a65c 7 "java/lang/Object") mw_12_20) hT.2.2.2.1.1 hK hP hD hS hA (nI_pos (by omega)) (nI_clamp (by omega)) (by decide) (Nat.le_of_ble_eq_true rfl) (Nat.le_of_ble_eq_true rfl) dJx4a65c_grow_92f84_52 (fun q52 H hP hD hS => ?_)
  have hP : va_P D vwCl ([(b, .inr (0, [.int mcn, .ref z, .int (nI 0)])), (q52, .inl (cs 2, 10, .inr (.inr (.inr (.inr (fun _ => none))))))] ++ tl) H := va_P.swap hP
  have hD : va_D _ ([(b, .inr (0, [.int mcn, .ref z, .int (nI 0)])), (q52, .inl (cs 2, 10, .inr (.inr (.inr (.inr (fun _ => none))))))] ++ tl) := va_D.swap hD
  refine lv_dup_x1 hx hb dJx4a65c_grow_92f84_55 rfl rfl ?_
  refine va_put (D := D) (ci := 0) (v := .ref q52) (ty := (.array (.object "java/lang/Object"))) (C := RJx4a65c) (T := TJx4a65c) (N := 3) hx hb hts inlJx4a65c tyJx4a65c tyJx4a65c_ok nmJx4a65c hown hK hP hD hS 0 rfl rfl 1 (by decide) (hts (Cond.fieldLink RJx4a65c 9 "java/util/ArrayList" "elementData" "[Ljava/lang/Object;") mw_3_0) (fun _ h9 => h9) rfl (by decide +kernel) rfl rfl (Nat.le_of_ble_eq_true rfl) dJx4a65c_grow_92f84_56 (fun H locs hP hD hS => ?_)
  have hP : va_P D vwCl ([(b, .inr (0, [.int mcn, .ref q52, .int (nI 0)])), (q52, .inl (cs 2, 10, .inr (.inr (.inr (.inr (fun _ => none))))))] ++ tl) H := hP
  have hD : va_D _ ([(b, .inr (0, [.int mcn, .ref q52, .int (nI 0)])), (q52, .inl (cs 2, 10, .inr (.inr (.inr (.inr (fun _ => none))))))] ++ tl) := hD
  refine W.widen (k := 1) (n := 10) (Nat.le_of_ble_eq_true rfl) (Nat.le_of_ble_eq_true rfl) ?_
  exact wr_aret hQ hx hb hr hlocks (Or.inr ⟨_, rfl⟩) (Or.inr ⟨_, rfl⟩) hP hD hS (hpost _) dJx4a65c_grow_92f84_59
set_option maxHeartbeats 4000000 in
set_option maxRecDepth 100000 in
theorem k_growB (l : Launch) (D : va_G) (cs : Nat → ClassId) (z mi : Nat) (H : Heap) {tl : va_W}  {b es : Nat} {mcn : Int32} {rf : Nat → Option Nat} {wa : Nat → Nat} {wf : Nat → Nat → Int32} (hw : ∀ i, i < 10 → wG wa wf i ∈ tl) (hr9 : ∀ i, i < 10 → rf i = some (wa i)) (post : Option Value → va_W → Prop) (hpost : ∀ q : Nat, post (some (.ref q)) ([(b, .inr (0, [.int mcn, .ref q, .int (nI 10)])), (es, .inl (cs 2, 10, .inr (.inr (.inr (.inr (rf)))))), (q, .inl (cs 2, 15, .inr (.inr (.inr (.inr ((va_cpy rf (fun _ => none) 0 0 10)))))))] ++ tl)) (hP : va_P D vwCl ([(b, .inr (0, [.int mcn, .ref es, .int (nI 10)])), (es, .inl (cs 2, 10, .inr (.inr (.inr (.inr (rf))))))] ++ tl) H) (hD : va_D (fun _ => True) ([(b, .inr (0, [.int mcn, .ref es, .int (nI 10)])), (es, .inl (cs 2, 10, .inr (.inr (.inr (.inr (rf))))))] ++ tl)) : Ws z mi l D cs 5 1 15 yJx4a65c_grow_92f84 cJx4a65c_grow_92f84 4 (some (.array (.object "java/lang/Object"))) ([(b, .inr (0, [.int mcn, .ref es, .int (nI 10)])), (es, .inl (cs 2, 10, .inr (.inr (.inr (.inr (rf))))))] ++ tl) H [.ref b, .int (nI 11)] post := by
  refine ws_ent (by decide) (Nat.le_of_ble_eq_true rfl) hP hD ?_
  clear hP hD H
  intro p e s m below meth c ls A Q H hx hb hr hml hown hts hlocks hin hl hK hQ hA hH hT hP hD hS
  clear hH
  have hl : lv_has ls 4 [(0, .ref b), (1, .int (nI 11))] := hl
  refine lv_aload_n hx hb dJx4a65c_grow_92f84_0 rfl (lv_at hl 0 rfl) ?_
  refine va_get (D := D) (ci := 0) (v := .ref es) (C := RJx4a65c) (T := TJx4a65c) (N := 3) hx hb hts inlJx4a65c hown hK hP 0 rfl rfl 1 (by decide) (hts (Cond.fieldLink RJx4a65c 9 "java/util/ArrayList" "elementData" "[Ljava/lang/Object;") mw_3_0) (fun _ h9 => h9) rfl dJx4a65c_grow_92f84_1 ?_
  refine va_alen hx hb hK hP 1 2 rfl rfl (v := nI 10) (rfl) dJx4a65c_grow_92f84_4 ?_
  refine lv_istore_n (lv' := [(2, .int (nI 10)), (0, .ref b), (1, .int (nI 11))]) hx hb dJx4a65c_grow_92f84_5 rfl hl (by decide) rfl (fun ls hl => ?_)
  refine lv_iload_n hx hb dJx4a65c_grow_92f84_6 rfl (lv_at hl 0 rfl) ?_
  refine lv_if_gt (tgt := 20) hx hb dJx4a65c_grow_92f84_7 (by decide) (fun c_1 => ?_) (fun c_1 => False.elim (c_1 (by decide)))
  refine lv_iload_n hx hb dJx4a65c_grow_92f84_20 rfl (lv_at hl 0 rfl) ?_
  refine lv_iload_n hx hb dJx4a65c_grow_92f84_21 rfl (lv_at hl 2 rfl) ?_
  refine lv_iload_n hx hb dJx4a65c_grow_92f84_22 rfl (lv_at hl 0 rfl) ?_
  refine lv_isub hx hb dJx4a65c_grow_92f84_23 ?_
  refine lv_rwi (y := nI 1) (by decide) ?_
  refine lv_iload_n hx hb dJx4a65c_grow_92f84_24 rfl (lv_at hl 0 rfl) ?_
  refine lv_iconst (v := 1) hx hb dJx4a65c_grow_92f84_25 (by first | decide | rfl) ?_
  refine lv_ishr hx hb dJx4a65c_grow_92f84_26 ?_
  refine lv_rwi (y := nI 5) (by decide) ?_
  refine rdS (As := [.int (nI 10), .int (nI 1), .int (nI 5)]) (rest := []) ⟨hx, hb, hml, hown, hts⟩ hK 3 (c_newLength l D cs H) (gin_s mw_12_21 mw_12_22 mw_12_23 mw_13_0) (by decide +kernel) ⟨Nat.le_of_ble_eq_true rfl, Nat.le_of_ble_eq_true rfl⟩ rfl hl.1 rfl (Nat.le_of_ble_eq_true rfl) dJx4a65c_grow_92f84_27 ⟨(Nat.le_of_ble_eq_true rfl), (Nat.le_of_ble_eq_true rfl)⟩ ?_
  refine W.eq (g2 := F0 m 30 ls [.int (nI 15)]) rfl ?_
  refine lv_istore_n (lv' := [(3, .int (nI 15)), (2, .int (nI 10)), (0, .ref b), (1, .int (nI 11))]) hx hb dJx4a65c_grow_92f84_30 rfl hl (by decide) rfl (fun ls hl => ?_)
  refine lv_aload_n hx hb dJx4a65c_grow_92f84_31 rfl (lv_at hl 2 rfl) ?_
  refine lv_aload_n hx hb dJx4a65c_grow_92f84_32 rfl (lv_at hl 2 rfl) ?_
  refine va_get (D := D) (ci := 0) (v := .ref es) (C := RJx4a65c) (T := TJx4a65c) (N := 3) hx hb hts inlJx4a65c hown hK hP 0 rfl rfl 1 (by decide) (hts (Cond.fieldLink RJx4a65c 9 "java/util/ArrayList" "elementData" "[Ljava/lang/Object;") mw_3_0) (fun _ h9 => h9) rfl dJx4a65c_grow_92f84_33 ?_
  refine lv_iload_n hx hb dJx4a65c_grow_92f84_36 rfl (lv_at hl 0 rfl) ?_
  have hP : va_P D vwCl ([(es, .inl (cs 2, 10, .inr (.inr (.inr (.inr (rf)))))), (b, .inr (0, [.int mcn, .ref es, .int (nI 10)]))] ++ tl) H := va_P.part (X := [(b, .inr (0, [.int mcn, .ref es, .int (nI 10)])), (es, .inl (cs 2, 10, .inr (.inr (.inr (.inr (rf))))))]) (pl := tl) hP [1, 0] rfl
  have hD : va_D _ ([(es, .inl (cs 2, 10, .inr (.inr (.inr (.inr (rf)))))), (b, .inr (0, [.int mcn, .ref es, .int (nI 10)]))] ++ tl) := va_D.part (X := [(b, .inr (0, [.int mcn, .ref es, .int (nI 10)])), (es, .inl (cs 2, 10, .inr (.inr (.inr (.inr (rf))))))]) (pl := tl) hD [1, 0] (by decide) rfl
  have hP : va_P D vwCl ([(es, .inl (cs 2, 10, .inr (.inr (.inr (.inr (rf))))))] ++ ([(b, .inr (0, [.int mcn, .ref es, .int (nI 10)]))] ++ tl)) H := hP
  have hD : va_D _ ([(es, .inl (cs 2, 10, .inr (.inr (.inr (.inr (rf))))))] ++ ([(b, .inr (0, [.int mcn, .ref es, .int (nI 10)]))] ++ tl)) := hD
  refine wtS (As := [.ref es, .int (nI 15)]) (rest := [.ref b]) ⟨hx, hb, hml, hown, hts⟩ hT hK 2 (k_copyOf2 l D cs z mi H (fun i h => List.mem_append_right _ (hw i h)) hr9 (fun ov w1 => ∃ qc1 : Nat, ov = some (.ref qc1) ∧ w1 = [(es, .inl (cs 2, 10, .inr (.inr (.inr (.inr (rf)))))), (qc1, .inl (cs 2, 15, .inr (.inr (.inr (.inr ((va_cpy rf (fun _ => none) 0 0 10)))))))] ++ ([(b, .inr (0, [.int mcn, .ref es, .int (nI 10)]))] ++ tl)) (fun qc1 => ⟨qc1, rfl, rfl⟩) hP (hD.weaken (fun _ _ _ _ => trivial))) (gin_s mw_13_6 mw_13_7 mw_13_8 mw_13_9) (by decide +kernel) ⟨Nat.le_of_ble_eq_true rfl, Nat.le_of_ble_eq_true rfl⟩ rfl hl.1 rfl (Nat.le_of_ble_eq_true rfl) dJx4a65c_grow_92f84_37 ⟨(Nat.le_of_ble_eq_true rfl), (Nat.le_of_ble_eq_true rfl)⟩ hD hS hA (fun ov9 w9 H locs hp9 hP hD hS => ?_)
  obtain ⟨qc1, rfl, rfl⟩ := hp9
  have hP : va_P D vwCl ([(es, .inl (cs 2, 10, .inr (.inr (.inr (.inr (rf)))))), (qc1, .inl (cs 2, 15, .inr (.inr (.inr (.inr ((va_cpy rf (fun _ => none) 0 0 10)))))))] ++ ([(b, .inr (0, [.int mcn, .ref es, .int (nI 10)]))] ++ tl)) H := hP
  have hD : va_D _ ([(es, .inl (cs 2, 10, .inr (.inr (.inr (.inr (rf)))))), (qc1, .inl (cs 2, 15, .inr (.inr (.inr (.inr ((va_cpy rf (fun _ => none) 0 0 10)))))))] ++ ([(b, .inr (0, [.int mcn, .ref es, .int (nI 10)]))] ++ tl)) := hD
  have hP : va_P D vwCl ([(es, .inl (cs 2, 10, .inr (.inr (.inr (.inr (rf)))))), (qc1, .inl (cs 2, 15, .inr (.inr (.inr (.inr ((va_cpy rf (fun _ => none) 0 0 10))))))), (b, .inr (0, [.int mcn, .ref es, .int (nI 10)]))] ++ tl) H := hP
  have hD : va_D _ ([(es, .inl (cs 2, 10, .inr (.inr (.inr (.inr (rf)))))), (qc1, .inl (cs 2, 15, .inr (.inr (.inr (.inr ((va_cpy rf (fun _ => none) 0 0 10))))))), (b, .inr (0, [.int mcn, .ref es, .int (nI 10)]))] ++ tl) := hD
  have hP : va_P D vwCl ([(b, .inr (0, [.int mcn, .ref es, .int (nI 10)])), (es, .inl (cs 2, 10, .inr (.inr (.inr (.inr (rf)))))), (qc1, .inl (cs 2, 15, .inr (.inr (.inr (.inr ((va_cpy rf (fun _ => none) 0 0 10)))))))] ++ tl) H := va_P.part (X := [(es, .inl (cs 2, 10, .inr (.inr (.inr (.inr (rf)))))), (qc1, .inl (cs 2, 15, .inr (.inr (.inr (.inr ((va_cpy rf (fun _ => none) 0 0 10))))))), (b, .inr (0, [.int mcn, .ref es, .int (nI 10)]))]) (pl := tl) hP [2, 0, 1] rfl
  have hD : va_D _ ([(b, .inr (0, [.int mcn, .ref es, .int (nI 10)])), (es, .inl (cs 2, 10, .inr (.inr (.inr (.inr (rf)))))), (qc1, .inl (cs 2, 15, .inr (.inr (.inr (.inr ((va_cpy rf (fun _ => none) 0 0 10)))))))] ++ tl) := va_D.part (X := [(es, .inl (cs 2, 10, .inr (.inr (.inr (.inr (rf)))))), (qc1, .inl (cs 2, 15, .inr (.inr (.inr (.inr ((va_cpy rf (fun _ => none) 0 0 10))))))), (b, .inr (0, [.int mcn, .ref es, .int (nI 10)]))]) (pl := tl) hD [2, 0, 1] (by decide) rfl
  refine W.eq (g2 := F0 m 40 ls [.ref qc1, .ref b]) rfl ?_
  refine lv_dup_x1 hx hb dJx4a65c_grow_92f84_40 rfl rfl ?_
  refine va_put (D := D) (ci := 0) (v := .ref qc1) (ty := (.array (.object "java/lang/Object"))) (C := RJx4a65c) (T := TJx4a65c) (N := 3) hx hb hts inlJx4a65c tyJx4a65c tyJx4a65c_ok nmJx4a65c hown hK hP hD hS 0 rfl rfl 1 (by decide) (hts (Cond.fieldLink RJx4a65c 9 "java/util/ArrayList" "elementData" "[Ljava/lang/Object;") mw_3_0) (fun _ h9 => h9) rfl (by decide +kernel) rfl rfl (Nat.le_of_ble_eq_true rfl) dJx4a65c_grow_92f84_41 (fun H locs hP hD hS => ?_)
  have hP : va_P D vwCl ([(b, .inr (0, [.int mcn, .ref qc1, .int (nI 10)])), (es, .inl (cs 2, 10, .inr (.inr (.inr (.inr (rf)))))), (qc1, .inl (cs 2, 15, .inr (.inr (.inr (.inr ((va_cpy rf (fun _ => none) 0 0 10)))))))] ++ tl) H := hP
  have hD : va_D _ ([(b, .inr (0, [.int mcn, .ref qc1, .int (nI 10)])), (es, .inl (cs 2, 10, .inr (.inr (.inr (.inr (rf)))))), (qc1, .inl (cs 2, 15, .inr (.inr (.inr (.inr ((va_cpy rf (fun _ => none) 0 0 10)))))))] ++ tl) := hD
  refine W.widen (k := 1) (n := 15) (Nat.le_of_ble_eq_true rfl) (Nat.le_of_ble_eq_true rfl) ?_
  exact wr_aret hQ hx hb hr hlocks (Or.inr ⟨_, rfl⟩) (Or.inr ⟨_, rfl⟩) hP hD hS (hpost _) dJx4a65c_grow_92f84_44
set_option maxHeartbeats 4000000 in
set_option maxRecDepth 100000 in
theorem k_grow1A (l : Launch) (D : va_G) (cs : Nat → ClassId) (z mi : Nat) (H : Heap)  {b : Nat} {mcn : Int32} {tl : va_W} (post : Option Value → va_W → Prop) (hpost : ∀ q : Nat, post (some (.ref q)) ([(b, .inr (0, [.int mcn, .ref q, .int (nI 0)])), (q, .inl (cs 2, 10, .inr (.inr (.inr (.inr (fun _ => none))))))] ++ tl)) (hP : va_P D vwCl ([(b, .inr (0, [.int mcn, .ref z, .int (nI 0)]))] ++ tl) H) (hD : va_D (fun _ => True) ([(b, .inr (0, [.int mcn, .ref z, .int (nI 0)]))] ++ tl)) : Ws z mi l D cs 4 1 10 yJx4a65c_grow_d5877 cJx4a65c_grow_d5877 1 (some (.array (.object "java/lang/Object"))) ([(b, .inr (0, [.int mcn, .ref z, .int (nI 0)]))] ++ tl) H [.ref b] post := by
  refine ws_ent (by decide) (Nat.le_of_ble_eq_true rfl) hP hD ?_
  clear hP hD H
  intro p e s m below meth c ls A Q H hx hb hr hml hown hts hlocks hin hl hK hQ hA hH hT hP hD hS
  clear hH
  have hl : lv_has ls 1 [(0, .ref b)] := hl
  refine lv_aload_n hx hb dJx4a65c_grow_d5877_0 rfl (lv_at hl 0 rfl) ?_
  refine lv_aload_n hx hb dJx4a65c_grow_d5877_1 rfl (lv_at hl 0 rfl) ?_
  refine va_get (D := D) (ci := 0) (v := .int (nI 0)) (C := RJx4a65c) (T := TJx4a65c) (N := 3) hx hb hts inlJx4a65c hown hK hP 0 rfl rfl 2 (by decide) (hts (Cond.fieldLink RJx4a65c 48 "java/util/ArrayList" "size" "I") mw_5_21) (fun _ h9 => h9) rfl dJx4a65c_grow_d5877_2 ?_
  refine lv_iconst (v := 1) hx hb dJx4a65c_grow_d5877_5 (by first | decide | rfl) ?_
  refine lv_iadd hx hb dJx4a65c_grow_d5877_6 ?_
  refine lv_rwi (y := nI 1) (by decide) ?_
  have hP : va_P D vwCl ([(b, .inr (0, [.int mcn, .ref z, .int (nI 0)]))] ++ tl) H := hP
  have hD : va_D _ ([(b, .inr (0, [.int mcn, .ref z, .int (nI 0)]))] ++ tl) := hD
  refine wtV (As := [.int (nI 1)]) (rest := []) (b := b) ⟨hx, hb, hml, hown, hts⟩ hT hK 1 (k_growA l D cs z mi H (fun ov w1 => ∃ qg1 : Nat, ov = some (.ref qg1) ∧ w1 = [(b, .inr (0, [.int mcn, .ref qg1, .int (nI 0)])), (qg1, .inl (cs 2, 10, .inr (.inr (.inr (.inr (fun _ => none))))))] ++ tl) (fun qg1 => ⟨qg1, rfl, rfl⟩) hP (hD.weaken (fun _ _ _ _ => trivial))) (gin_v mw_12_13 mw_12_14 mw_12_15 mw_1_17 mw_12_16) (by decide +kernel) ⟨Nat.le_of_ble_eq_true rfl, Nat.le_of_ble_eq_true rfl⟩ (va_recv hK hP (ci := 0) (q0 := 0) rfl rfl) rfl hl.1 rfl (Nat.le_of_ble_eq_true rfl) dJx4a65c_grow_d5877_7 ⟨(Nat.le_of_ble_eq_true rfl), (Nat.le_of_ble_eq_true rfl)⟩ hD hS hA (fun ov9 w9 H locs hp9 hP hD hS => ?_)
  obtain ⟨qg1, rfl, rfl⟩ := hp9
  have hP : va_P D vwCl ([(b, .inr (0, [.int mcn, .ref qg1, .int (nI 0)])), (qg1, .inl (cs 2, 10, .inr (.inr (.inr (.inr (fun _ => none))))))] ++ tl) H := hP
  have hD : va_D _ ([(b, .inr (0, [.int mcn, .ref qg1, .int (nI 0)])), (qg1, .inl (cs 2, 10, .inr (.inr (.inr (.inr (fun _ => none))))))] ++ tl) := hD
  refine W.eq (g2 := F0 m 10 ls [.ref qg1]) rfl ?_
  refine W.widen (k := 1) (n := 10) (Nat.le_of_ble_eq_true rfl) (Nat.le_of_ble_eq_true rfl) ?_
  exact wr_aret hQ hx hb hr hlocks (Or.inr ⟨_, rfl⟩) (Or.inr ⟨_, rfl⟩) hP hD hS (hpost _) dJx4a65c_grow_d5877_10
set_option maxHeartbeats 4000000 in
set_option maxRecDepth 100000 in
theorem k_grow1B (l : Launch) (D : va_G) (cs : Nat → ClassId) (z mi : Nat) (H : Heap) {tl : va_W}  {b es : Nat} {mcn : Int32} {rf : Nat → Option Nat} {wa : Nat → Nat} {wf : Nat → Nat → Int32} (hw : ∀ i, i < 10 → wG wa wf i ∈ tl) (hr9 : ∀ i, i < 10 → rf i = some (wa i)) (post : Option Value → va_W → Prop) (hpost : ∀ q : Nat, post (some (.ref q)) ([(b, .inr (0, [.int mcn, .ref q, .int (nI 10)])), (es, .inl (cs 2, 10, .inr (.inr (.inr (.inr (rf)))))), (q, .inl (cs 2, 15, .inr (.inr (.inr (.inr ((va_cpy rf (fun _ => none) 0 0 10)))))))] ++ tl)) (hP : va_P D vwCl ([(b, .inr (0, [.int mcn, .ref es, .int (nI 10)])), (es, .inl (cs 2, 10, .inr (.inr (.inr (.inr (rf))))))] ++ tl) H) (hD : va_D (fun _ => True) ([(b, .inr (0, [.int mcn, .ref es, .int (nI 10)])), (es, .inl (cs 2, 10, .inr (.inr (.inr (.inr (rf))))))] ++ tl)) : Ws z mi l D cs 6 1 15 yJx4a65c_grow_d5877 cJx4a65c_grow_d5877 1 (some (.array (.object "java/lang/Object"))) ([(b, .inr (0, [.int mcn, .ref es, .int (nI 10)])), (es, .inl (cs 2, 10, .inr (.inr (.inr (.inr (rf))))))] ++ tl) H [.ref b] post := by
  refine ws_ent (by decide) (Nat.le_of_ble_eq_true rfl) hP hD ?_
  clear hP hD H
  intro p e s m below meth c ls A Q H hx hb hr hml hown hts hlocks hin hl hK hQ hA hH hT hP hD hS
  clear hH
  have hl : lv_has ls 1 [(0, .ref b)] := hl
  refine lv_aload_n hx hb dJx4a65c_grow_d5877_0 rfl (lv_at hl 0 rfl) ?_
  refine lv_aload_n hx hb dJx4a65c_grow_d5877_1 rfl (lv_at hl 0 rfl) ?_
  refine va_get (D := D) (ci := 0) (v := .int (nI 10)) (C := RJx4a65c) (T := TJx4a65c) (N := 3) hx hb hts inlJx4a65c hown hK hP 0 rfl rfl 2 (by decide) (hts (Cond.fieldLink RJx4a65c 48 "java/util/ArrayList" "size" "I") mw_5_21) (fun _ h9 => h9) rfl dJx4a65c_grow_d5877_2 ?_
  refine lv_iconst (v := 1) hx hb dJx4a65c_grow_d5877_5 (by first | decide | rfl) ?_
  refine lv_iadd hx hb dJx4a65c_grow_d5877_6 ?_
  refine lv_rwi (y := nI 11) (by decide) ?_
  have hP : va_P D vwCl ([(b, .inr (0, [.int mcn, .ref es, .int (nI 10)])), (es, .inl (cs 2, 10, .inr (.inr (.inr (.inr (rf))))))] ++ tl) H := hP
  have hD : va_D _ ([(b, .inr (0, [.int mcn, .ref es, .int (nI 10)])), (es, .inl (cs 2, 10, .inr (.inr (.inr (.inr (rf))))))] ++ tl) := hD
  refine wtV (As := [.int (nI 11)]) (rest := []) (b := b) ⟨hx, hb, hml, hown, hts⟩ hT hK 1 (k_growB l D cs z mi H hw hr9 (fun ov w1 => ∃ qg1 : Nat, ov = some (.ref qg1) ∧ w1 = [(b, .inr (0, [.int mcn, .ref qg1, .int (nI 10)])), (es, .inl (cs 2, 10, .inr (.inr (.inr (.inr (rf)))))), (qg1, .inl (cs 2, 15, .inr (.inr (.inr (.inr ((va_cpy rf (fun _ => none) 0 0 10)))))))] ++ tl) (fun qg1 => ⟨qg1, rfl, rfl⟩) hP (hD.weaken (fun _ _ _ _ => trivial))) (gin_v mw_12_13 mw_12_14 mw_12_15 mw_1_17 mw_12_16) (by decide +kernel) ⟨Nat.le_of_ble_eq_true rfl, Nat.le_of_ble_eq_true rfl⟩ (va_recv hK hP (ci := 0) (q0 := 0) rfl rfl) rfl hl.1 rfl (Nat.le_of_ble_eq_true rfl) dJx4a65c_grow_d5877_7 ⟨(Nat.le_of_ble_eq_true rfl), (Nat.le_of_ble_eq_true rfl)⟩ hD hS hA (fun ov9 w9 H locs hp9 hP hD hS => ?_)
  obtain ⟨qg1, rfl, rfl⟩ := hp9
  have hP : va_P D vwCl ([(b, .inr (0, [.int mcn, .ref qg1, .int (nI 10)])), (es, .inl (cs 2, 10, .inr (.inr (.inr (.inr (rf)))))), (qg1, .inl (cs 2, 15, .inr (.inr (.inr (.inr ((va_cpy rf (fun _ => none) 0 0 10)))))))] ++ tl) H := hP
  have hD : va_D _ ([(b, .inr (0, [.int mcn, .ref qg1, .int (nI 10)])), (es, .inl (cs 2, 10, .inr (.inr (.inr (.inr (rf)))))), (qg1, .inl (cs 2, 15, .inr (.inr (.inr (.inr ((va_cpy rf (fun _ => none) 0 0 10)))))))] ++ tl) := hD
  refine W.eq (g2 := F0 m 10 ls [.ref qg1]) rfl ?_
  refine W.widen (k := 1) (n := 15) (Nat.le_of_ble_eq_true rfl) (Nat.le_of_ble_eq_true rfl) ?_
  exact wr_aret hQ hx hb hr hlocks (Or.inr ⟨_, rfl⟩) (Or.inr ⟨_, rfl⟩) hP hD hS (hpost _) dJx4a65c_grow_d5877_10
set_option maxHeartbeats 4000000 in
set_option maxRecDepth 100000 in
theorem k_add3A (l : Launch) (D : va_G) (cs : Nat → ClassId) (z mi : Nat) (H : Heap)  {b : Nat} {mcn : Int32} {x : Nat} {xv : Nat → Int32} {tl : va_W} (post : Option Value → va_W → Prop) (hpost : ∀ q : Nat, post none ([(b, .inr (0, [.int mcn, .ref q, .int (nI ((0 + 1)))])), (x, .inr (2, [.int (xv 0), .int (xv 1), .int (xv 2), .int (xv 3), .int (xv 4), .int (xv 5)])), (q, .inl (cs 2, 10, .inr (.inr (.inr (.inr ((va_up (fun _ => none) 0 (some x))))))))] ++ tl)) (hP : va_P D vwCl ([(b, .inr (0, [.int mcn, .ref z, .int (nI 0)])), (x, .inr (2, [.int (xv 0), .int (xv 1), .int (xv 2), .int (xv 3), .int (xv 4), .int (xv 5)]))] ++ tl) H) (hD : va_D (fun _ => True) ([(b, .inr (0, [.int mcn, .ref z, .int (nI 0)])), (x, .inr (2, [.int (xv 0), .int (xv 1), .int (xv 2), .int (xv 3), .int (xv 4), .int (xv 5)]))] ++ tl)) : Ws z mi l D cs 5 1 10 yJx4a65c_add_72be8 cJx4a65c_add_72be8 4 none ([(b, .inr (0, [.int mcn, .ref z, .int (nI 0)])), (x, .inr (2, [.int (xv 0), .int (xv 1), .int (xv 2), .int (xv 3), .int (xv 4), .int (xv 5)]))] ++ tl) H [.ref b, .ref x, .ref z, .int (nI 0)] post := by
  refine ws_ent (by decide) (Nat.le_of_ble_eq_true rfl) hP hD ?_
  clear hP hD H
  intro p e s m below meth c ls A Q H hx hb hr hml hown hts hlocks hin hl hK hQ hA hH hT hP hD hS
  clear hH
  have hl : lv_has ls 4 [(0, .ref b), (1, .ref x), (2, .ref z), (3, .int (nI 0))] := hl
  refine lv_iload_n hx hb dJx4a65c_add_72be8_0 rfl (lv_at hl 3 rfl) ?_
  refine lv_aload_n hx hb dJx4a65c_add_72be8_1 rfl (lv_at hl 2 rfl) ?_
  refine va_tlen hx hb hT.2.1 hS (v := nI 0) rfl dJx4a65c_add_72be8_2 ?_
  refine lv_icmp_ne (tgt := 11) hx hb dJx4a65c_add_72be8_3 (by decide) (fun c_1 => False.elim (c_1 rfl)) (fun c_1 => ?_)
  refine lv_aload_n hx hb dJx4a65c_add_72be8_6 rfl (lv_at hl 0 rfl) ?_
  have hP : va_P D vwCl ([(b, .inr (0, [.int mcn, .ref z, .int (nI 0)]))] ++ ([(x, .inr (2, [.int (xv 0), .int (xv 1), .int (xv 2), .int (xv 3), .int (xv 4), .int (xv 5)]))] ++ tl)) H := hP
  have hD : va_D _ ([(b, .inr (0, [.int mcn, .ref z, .int (nI 0)]))] ++ ([(x, .inr (2, [.int (xv 0), .int (xv 1), .int (xv 2), .int (xv 3), .int (xv 4), .int (xv 5)]))] ++ tl)) := hD
  refine wtV (As := []) (rest := []) (b := b) ⟨hx, hb, hml, hown, hts⟩ hT hK 0 (k_grow1A l D cs z mi H (fun ov w1 => ∃ qg1 : Nat, ov = some (.ref qg1) ∧ w1 = [(b, .inr (0, [.int mcn, .ref qg1, .int (nI 0)])), (qg1, .inl (cs 2, 10, .inr (.inr (.inr (.inr (fun _ => none))))))] ++ ([(x, .inr (2, [.int (xv 0), .int (xv 1), .int (xv 2), .int (xv 3), .int (xv 4), .int (xv 5)]))] ++ tl)) (fun qg1 => ⟨qg1, rfl, rfl⟩) hP (hD.weaken (fun _ _ _ _ => trivial))) (gin_v mw_12_9 mw_12_10 mw_12_11 mw_1_17 mw_12_12) (by decide +kernel) ⟨Nat.le_of_ble_eq_true rfl, Nat.le_of_ble_eq_true rfl⟩ (va_recv hK hP (ci := 0) (q0 := 0) rfl rfl) rfl hl.1 rfl (Nat.le_of_ble_eq_true rfl) dJx4a65c_add_72be8_7 ⟨(Nat.le_of_ble_eq_true rfl), (Nat.le_of_ble_eq_true rfl)⟩ hD hS hA (fun ov9 w9 H locs hp9 hP hD hS => ?_)
  obtain ⟨qg1, rfl, rfl⟩ := hp9
  have hP : va_P D vwCl ([(b, .inr (0, [.int mcn, .ref qg1, .int (nI 0)])), (qg1, .inl (cs 2, 10, .inr (.inr (.inr (.inr (fun _ => none))))))] ++ ([(x, .inr (2, [.int (xv 0), .int (xv 1), .int (xv 2), .int (xv 3), .int (xv 4), .int (xv 5)]))] ++ tl)) H := hP
  have hD : va_D _ ([(b, .inr (0, [.int mcn, .ref qg1, .int (nI 0)])), (qg1, .inl (cs 2, 10, .inr (.inr (.inr (.inr (fun _ => none))))))] ++ ([(x, .inr (2, [.int (xv 0), .int (xv 1), .int (xv 2), .int (xv 3), .int (xv 4), .int (xv 5)]))] ++ tl)) := hD
  have hP : va_P D vwCl ([(b, .inr (0, [.int mcn, .ref qg1, .int (nI 0)])), (qg1, .inl (cs 2, 10, .inr (.inr (.inr (.inr (fun _ => none)))))), (x, .inr (2, [.int (xv 0), .int (xv 1), .int (xv 2), .int (xv 3), .int (xv 4), .int (xv 5)]))] ++ tl) H := hP
  have hD : va_D _ ([(b, .inr (0, [.int mcn, .ref qg1, .int (nI 0)])), (qg1, .inl (cs 2, 10, .inr (.inr (.inr (.inr (fun _ => none)))))), (x, .inr (2, [.int (xv 0), .int (xv 1), .int (xv 2), .int (xv 3), .int (xv 4), .int (xv 5)]))] ++ tl) := hD
  have hP : va_P D vwCl ([(b, .inr (0, [.int mcn, .ref qg1, .int (nI 0)])), (x, .inr (2, [.int (xv 0), .int (xv 1), .int (xv 2), .int (xv 3), .int (xv 4), .int (xv 5)])), (qg1, .inl (cs 2, 10, .inr (.inr (.inr (.inr (fun _ => none))))))] ++ tl) H := va_P.part (X := [(b, .inr (0, [.int mcn, .ref qg1, .int (nI 0)])), (qg1, .inl (cs 2, 10, .inr (.inr (.inr (.inr (fun _ => none)))))), (x, .inr (2, [.int (xv 0), .int (xv 1), .int (xv 2), .int (xv 3), .int (xv 4), .int (xv 5)]))]) (pl := tl) hP [0, 2, 1] rfl
  have hD : va_D _ ([(b, .inr (0, [.int mcn, .ref qg1, .int (nI 0)])), (x, .inr (2, [.int (xv 0), .int (xv 1), .int (xv 2), .int (xv 3), .int (xv 4), .int (xv 5)])), (qg1, .inl (cs 2, 10, .inr (.inr (.inr (.inr (fun _ => none))))))] ++ tl) := va_D.part (X := [(b, .inr (0, [.int mcn, .ref qg1, .int (nI 0)])), (qg1, .inl (cs 2, 10, .inr (.inr (.inr (.inr (fun _ => none)))))), (x, .inr (2, [.int (xv 0), .int (xv 1), .int (xv 2), .int (xv 3), .int (xv 4), .int (xv 5)]))]) (pl := tl) hD [0, 2, 1] (by decide) rfl
  refine W.eq (g2 := F0 m 10 ls [.ref qg1]) rfl ?_
  refine lv_astore_n (lv' := [(2, .ref qg1), (0, .ref b), (1, .ref x), (3, .int (nI 0))]) hx hb dJx4a65c_add_72be8_10 rfl hl (by decide) rfl (fun ls hl => ?_)
  refine lv_aload_n hx hb dJx4a65c_add_72be8_11 rfl (lv_at hl 0 rfl) ?_
  refine lv_iload_n hx hb dJx4a65c_add_72be8_12 rfl (lv_at hl 3 rfl) ?_
  refine lv_aload_n hx hb dJx4a65c_add_72be8_13 rfl (lv_at hl 2 rfl) ?_
  refine va_astqO hx hb hK hP hD hS 2 2 1 2 rfl rfl (hT.2.2.2.2.2.2.1 _ cd_w0) rfl rfl (vp_in_nI (by omega) (by omega)) dJx4a65c_add_72be8_14 (fun H locs hP hD hS => ?_)
  have g9 : va_up (fun _ => none) (nI 0).toNatClampNeg (some x) = va_up (fun _ => none) 0 (some x) := by rw [nI_clamp (by omega)]
  have hP : va_P D vwCl ([(b, .inr (0, [.int mcn, .ref qg1, .int (nI 0)])), (x, .inr (2, [.int (xv 0), .int (xv 1), .int (xv 2), .int (xv 3), .int (xv 4), .int (xv 5)])), (qg1, .inl (cs 2, 10, .inr (.inr (.inr (.inr (va_up (fun _ => none) 0 (some x)))))))] ++ tl) H := Eq.mp (congrArg (fun z9 => va_P D vwCl ([(b, .inr (0, [.int mcn, .ref qg1, .int (nI 0)])), (x, .inr (2, [.int (xv 0), .int (xv 1), .int (xv 2), .int (xv 3), .int (xv 4), .int (xv 5)])), (qg1, .inl (cs 2, 10, .inr (.inr (.inr (.inr (z9))))))] ++ tl) H) g9) hP
  have hD : va_D _ ([(b, .inr (0, [.int mcn, .ref qg1, .int (nI 0)])), (x, .inr (2, [.int (xv 0), .int (xv 1), .int (xv 2), .int (xv 3), .int (xv 4), .int (xv 5)])), (qg1, .inl (cs 2, 10, .inr (.inr (.inr (.inr (va_up (fun _ => none) 0 (some x)))))))] ++ tl) := Eq.mp (congrArg (fun z9 => va_D _ ([(b, .inr (0, [.int mcn, .ref qg1, .int (nI 0)])), (x, .inr (2, [.int (xv 0), .int (xv 1), .int (xv 2), .int (xv 3), .int (xv 4), .int (xv 5)])), (qg1, .inl (cs 2, 10, .inr (.inr (.inr (.inr (z9))))))] ++ tl)) g9) hD
  refine lv_aload_n hx hb dJx4a65c_add_72be8_15 rfl (lv_at hl 1 rfl) ?_
  refine lv_iload_n hx hb dJx4a65c_add_72be8_16 rfl (lv_at hl 3 rfl) ?_
  refine lv_iconst (v := 1) hx hb dJx4a65c_add_72be8_17 (by first | decide | rfl) ?_
  refine lv_iadd hx hb dJx4a65c_add_72be8_18 ?_
  refine lv_rwi (y := nI (0 + 1)) (nI_1 _) ?_
  refine va_put (D := D) (ci := 0) (v := .int (nI (0 + 1))) (ty := .int) (C := RJx4a65c) (T := TJx4a65c) (N := 3) hx hb hts inlJx4a65c tyJx4a65c tyJx4a65c_ok nmJx4a65c hown hK hP hD hS 0 rfl rfl 2 (by decide) (hts (Cond.fieldLink RJx4a65c 48 "java/util/ArrayList" "size" "I") mw_5_21) (fun _ h9 => h9) rfl (by decide +kernel) rfl rfl (Nat.le_of_ble_eq_true rfl) dJx4a65c_add_72be8_19 (fun H locs hP hD hS => ?_)
  have hP : va_P D vwCl ([(b, .inr (0, [.int mcn, .ref qg1, .int (nI (0 + 1))])), (x, .inr (2, [.int (xv 0), .int (xv 1), .int (xv 2), .int (xv 3), .int (xv 4), .int (xv 5)])), (qg1, .inl (cs 2, 10, .inr (.inr (.inr (.inr (va_up (fun _ => none) 0 (some x)))))))] ++ tl) H := hP
  have hD : va_D _ ([(b, .inr (0, [.int mcn, .ref qg1, .int (nI (0 + 1))])), (x, .inr (2, [.int (xv 0), .int (xv 1), .int (xv 2), .int (xv 3), .int (xv 4), .int (xv 5)])), (qg1, .inl (cs 2, 10, .inr (.inr (.inr (.inr (va_up (fun _ => none) 0 (some x)))))))] ++ tl) := hD
  refine W.widen (k := 1) (n := 10) (Nat.le_of_ble_eq_true rfl) (Nat.le_of_ble_eq_true rfl) ?_
  exact wr_vret hQ hx hb hr hlocks hP hD hS (hpost _) dJx4a65c_add_72be8_22
set_option maxHeartbeats 4000000 in
set_option maxRecDepth 100000 in
theorem k_add3 (l : Launch) (D : va_G) (cs : Nat → ClassId) (z mi : Nat) (H : Heap)  {b es : Nat} {mcn : Int32} {x : Nat} {xv : Nat → Int32} {n cap : Nat} {rf : Nat → Option Nat} (hn : n < cap) (hcap : cap ≤ 1000) {tl : va_W} (post : Option Value → va_W → Prop) (hpost : post none ([(b, .inr (0, [.int mcn, .ref es, .int (nI ((n + 1)))])), (x, .inr (2, [.int (xv 0), .int (xv 1), .int (xv 2), .int (xv 3), .int (xv 4), .int (xv 5)])), (es, .inl (cs 2, cap, .inr (.inr (.inr (.inr ((va_up rf n (some x))))))))] ++ tl)) (hP : va_P D vwCl ([(b, .inr (0, [.int mcn, .ref es, .int (nI n)])), (x, .inr (2, [.int (xv 0), .int (xv 1), .int (xv 2), .int (xv 3), .int (xv 4), .int (xv 5)])), (es, .inl (cs 2, cap, .inr (.inr (.inr (.inr (rf))))))] ++ tl) H) (hD : va_D (fun _ => True) ([(b, .inr (0, [.int mcn, .ref es, .int (nI n)])), (x, .inr (2, [.int (xv 0), .int (xv 1), .int (xv 2), .int (xv 3), .int (xv 4), .int (xv 5)])), (es, .inl (cs 2, cap, .inr (.inr (.inr (.inr (rf))))))] ++ tl)) : Ws z mi l D cs 5 0 0 yJx4a65c_add_72be8 cJx4a65c_add_72be8 4 none ([(b, .inr (0, [.int mcn, .ref es, .int (nI n)])), (x, .inr (2, [.int (xv 0), .int (xv 1), .int (xv 2), .int (xv 3), .int (xv 4), .int (xv 5)])), (es, .inl (cs 2, cap, .inr (.inr (.inr (.inr (rf))))))] ++ tl) H [.ref b, .ref x, .ref es, .int (nI n)] post := by
  refine ws_ent (by decide) (Nat.le_of_ble_eq_true rfl) hP hD ?_
  clear hP hD H
  intro p e s m below meth c ls A Q H hx hb hr hml hown hts hlocks hin hl hK hQ hA hH hT hP hD hS
  clear hH
  have hl : lv_has ls 4 [(0, .ref b), (1, .ref x), (2, .ref es), (3, .int (nI n))] := hl
  refine lv_iload_n hx hb dJx4a65c_add_72be8_0 rfl (lv_at hl 3 rfl) ?_
  refine lv_aload_n hx hb dJx4a65c_add_72be8_1 rfl (lv_at hl 2 rfl) ?_
  refine va_alen hx hb hK hP 2 2 rfl rfl (v := nI cap) (rfl) dJx4a65c_add_72be8_2 ?_
  refine lv_icmp_ne (tgt := 11) hx hb dJx4a65c_add_72be8_3 (by decide) (fun c_1 => ?_) (fun c_1 => False.elim (absurd ((nI_eq (by omega) (by omega)).mp c_1) (by omega)))
  refine lv_aload_n hx hb dJx4a65c_add_72be8_11 rfl (lv_at hl 2 rfl) ?_
  refine lv_iload_n hx hb dJx4a65c_add_72be8_12 rfl (lv_at hl 3 rfl) ?_
  refine lv_aload_n hx hb dJx4a65c_add_72be8_13 rfl (lv_at hl 1 rfl) ?_
  refine va_astqO hx hb hK hP hD hS 2 2 1 2 rfl rfl (hT.2.2.2.2.2.2.1 _ cd_w0) rfl rfl (vp_in_nI (by omega) (by omega)) dJx4a65c_add_72be8_14 (fun H locs hP hD hS => ?_)
  have g9 : va_up rf (nI n).toNatClampNeg (some x) = va_up rf n (some x) := by rw [nI_clamp (by omega)]
  have hP : va_P D vwCl ([(b, .inr (0, [.int mcn, .ref es, .int (nI n)])), (x, .inr (2, [.int (xv 0), .int (xv 1), .int (xv 2), .int (xv 3), .int (xv 4), .int (xv 5)])), (es, .inl (cs 2, cap, .inr (.inr (.inr (.inr (va_up rf n (some x)))))))] ++ tl) H := Eq.mp (congrArg (fun z9 => va_P D vwCl ([(b, .inr (0, [.int mcn, .ref es, .int (nI n)])), (x, .inr (2, [.int (xv 0), .int (xv 1), .int (xv 2), .int (xv 3), .int (xv 4), .int (xv 5)])), (es, .inl (cs 2, cap, .inr (.inr (.inr (.inr (z9))))))] ++ tl) H) g9) hP
  have hD : va_D _ ([(b, .inr (0, [.int mcn, .ref es, .int (nI n)])), (x, .inr (2, [.int (xv 0), .int (xv 1), .int (xv 2), .int (xv 3), .int (xv 4), .int (xv 5)])), (es, .inl (cs 2, cap, .inr (.inr (.inr (.inr (va_up rf n (some x)))))))] ++ tl) := Eq.mp (congrArg (fun z9 => va_D _ ([(b, .inr (0, [.int mcn, .ref es, .int (nI n)])), (x, .inr (2, [.int (xv 0), .int (xv 1), .int (xv 2), .int (xv 3), .int (xv 4), .int (xv 5)])), (es, .inl (cs 2, cap, .inr (.inr (.inr (.inr (z9))))))] ++ tl)) g9) hD
  refine lv_aload_n hx hb dJx4a65c_add_72be8_15 rfl (lv_at hl 0 rfl) ?_
  refine lv_iload_n hx hb dJx4a65c_add_72be8_16 rfl (lv_at hl 3 rfl) ?_
  refine lv_iconst (v := 1) hx hb dJx4a65c_add_72be8_17 (by first | decide | rfl) ?_
  refine lv_iadd hx hb dJx4a65c_add_72be8_18 ?_
  refine lv_rwi (y := nI (n + 1)) (nI_1 _) ?_
  refine va_put (D := D) (ci := 0) (v := .int (nI (n + 1))) (ty := .int) (C := RJx4a65c) (T := TJx4a65c) (N := 3) hx hb hts inlJx4a65c tyJx4a65c tyJx4a65c_ok nmJx4a65c hown hK hP hD hS 0 rfl rfl 2 (by decide) (hts (Cond.fieldLink RJx4a65c 48 "java/util/ArrayList" "size" "I") mw_5_21) (fun _ h9 => h9) rfl (by decide +kernel) rfl rfl (Nat.le_of_ble_eq_true rfl) dJx4a65c_add_72be8_19 (fun H locs hP hD hS => ?_)
  have hP : va_P D vwCl ([(b, .inr (0, [.int mcn, .ref es, .int (nI (n + 1))])), (x, .inr (2, [.int (xv 0), .int (xv 1), .int (xv 2), .int (xv 3), .int (xv 4), .int (xv 5)])), (es, .inl (cs 2, cap, .inr (.inr (.inr (.inr (va_up rf n (some x)))))))] ++ tl) H := hP
  have hD : va_D _ ([(b, .inr (0, [.int mcn, .ref es, .int (nI (n + 1))])), (x, .inr (2, [.int (xv 0), .int (xv 1), .int (xv 2), .int (xv 3), .int (xv 4), .int (xv 5)])), (es, .inl (cs 2, cap, .inr (.inr (.inr (.inr (va_up rf n (some x)))))))] ++ tl) := hD
  exact wr_vret hQ hx hb hr hlocks hP hD hS (hpost) dJx4a65c_add_72be8_22
set_option maxHeartbeats 4000000 in
set_option maxRecDepth 100000 in
theorem k_add3B (l : Launch) (D : va_G) (cs : Nat → ClassId) (z mi : Nat) (H : Heap) {tl : va_W}  {b es : Nat} {mcn : Int32} {x : Nat} {xv : Nat → Int32} {rf : Nat → Option Nat} {wa : Nat → Nat} {wf : Nat → Nat → Int32} (hw : ∀ i, i < 10 → wG wa wf i ∈ tl) (hr9 : ∀ i, i < 10 → rf i = some (wa i)) (post : Option Value → va_W → Prop) (hpost : ∀ q : Nat, post none ([(b, .inr (0, [.int mcn, .ref q, .int (nI ((10 + 1)))])), (x, .inr (2, [.int (xv 0), .int (xv 1), .int (xv 2), .int (xv 3), .int (xv 4), .int (xv 5)])), (es, .inl (cs 2, 10, .inr (.inr (.inr (.inr (rf)))))), (q, .inl (cs 2, 15, .inr (.inr (.inr (.inr ((va_up (va_cpy rf (fun _ => none) 0 0 10) 10 (some x))))))))] ++ tl)) (hP : va_P D vwCl ([(b, .inr (0, [.int mcn, .ref es, .int (nI 10)])), (x, .inr (2, [.int (xv 0), .int (xv 1), .int (xv 2), .int (xv 3), .int (xv 4), .int (xv 5)])), (es, .inl (cs 2, 10, .inr (.inr (.inr (.inr (rf))))))] ++ tl) H) (hD : va_D (fun _ => True) ([(b, .inr (0, [.int mcn, .ref es, .int (nI 10)])), (x, .inr (2, [.int (xv 0), .int (xv 1), .int (xv 2), .int (xv 3), .int (xv 4), .int (xv 5)])), (es, .inl (cs 2, 10, .inr (.inr (.inr (.inr (rf))))))] ++ tl)) : Ws z mi l D cs 7 1 15 yJx4a65c_add_72be8 cJx4a65c_add_72be8 4 none ([(b, .inr (0, [.int mcn, .ref es, .int (nI 10)])), (x, .inr (2, [.int (xv 0), .int (xv 1), .int (xv 2), .int (xv 3), .int (xv 4), .int (xv 5)])), (es, .inl (cs 2, 10, .inr (.inr (.inr (.inr (rf))))))] ++ tl) H [.ref b, .ref x, .ref es, .int (nI 10)] post := by
  refine ws_ent (by decide) (Nat.le_of_ble_eq_true rfl) hP hD ?_
  clear hP hD H
  intro p e s m below meth c ls A Q H hx hb hr hml hown hts hlocks hin hl hK hQ hA hH hT hP hD hS
  clear hH
  have hl : lv_has ls 4 [(0, .ref b), (1, .ref x), (2, .ref es), (3, .int (nI 10))] := hl
  refine lv_iload_n hx hb dJx4a65c_add_72be8_0 rfl (lv_at hl 3 rfl) ?_
  refine lv_aload_n hx hb dJx4a65c_add_72be8_1 rfl (lv_at hl 2 rfl) ?_
  refine va_alen hx hb hK hP 2 2 rfl rfl (v := nI 10) (rfl) dJx4a65c_add_72be8_2 ?_
  refine lv_icmp_ne (tgt := 11) hx hb dJx4a65c_add_72be8_3 (by decide) (fun c_1 => False.elim (c_1 rfl)) (fun c_1 => ?_)
  refine lv_aload_n hx hb dJx4a65c_add_72be8_6 rfl (lv_at hl 0 rfl) ?_
  have hP : va_P D vwCl ([(b, .inr (0, [.int mcn, .ref es, .int (nI 10)])), (es, .inl (cs 2, 10, .inr (.inr (.inr (.inr (rf)))))), (x, .inr (2, [.int (xv 0), .int (xv 1), .int (xv 2), .int (xv 3), .int (xv 4), .int (xv 5)]))] ++ tl) H := va_P.part (X := [(b, .inr (0, [.int mcn, .ref es, .int (nI 10)])), (x, .inr (2, [.int (xv 0), .int (xv 1), .int (xv 2), .int (xv 3), .int (xv 4), .int (xv 5)])), (es, .inl (cs 2, 10, .inr (.inr (.inr (.inr (rf))))))]) (pl := tl) hP [0, 2, 1] rfl
  have hD : va_D _ ([(b, .inr (0, [.int mcn, .ref es, .int (nI 10)])), (es, .inl (cs 2, 10, .inr (.inr (.inr (.inr (rf)))))), (x, .inr (2, [.int (xv 0), .int (xv 1), .int (xv 2), .int (xv 3), .int (xv 4), .int (xv 5)]))] ++ tl) := va_D.part (X := [(b, .inr (0, [.int mcn, .ref es, .int (nI 10)])), (x, .inr (2, [.int (xv 0), .int (xv 1), .int (xv 2), .int (xv 3), .int (xv 4), .int (xv 5)])), (es, .inl (cs 2, 10, .inr (.inr (.inr (.inr (rf))))))]) (pl := tl) hD [0, 2, 1] (by decide) rfl
  have hP : va_P D vwCl ([(b, .inr (0, [.int mcn, .ref es, .int (nI 10)])), (es, .inl (cs 2, 10, .inr (.inr (.inr (.inr (rf))))))] ++ ([(x, .inr (2, [.int (xv 0), .int (xv 1), .int (xv 2), .int (xv 3), .int (xv 4), .int (xv 5)]))] ++ tl)) H := hP
  have hD : va_D _ ([(b, .inr (0, [.int mcn, .ref es, .int (nI 10)])), (es, .inl (cs 2, 10, .inr (.inr (.inr (.inr (rf))))))] ++ ([(x, .inr (2, [.int (xv 0), .int (xv 1), .int (xv 2), .int (xv 3), .int (xv 4), .int (xv 5)]))] ++ tl)) := hD
  refine wtV (As := []) (rest := []) (b := b) ⟨hx, hb, hml, hown, hts⟩ hT hK 0 (k_grow1B l D cs z mi H (fun i h => List.mem_append_right _ (hw i h)) hr9 (fun ov w1 => ∃ qg1 : Nat, ov = some (.ref qg1) ∧ w1 = [(b, .inr (0, [.int mcn, .ref qg1, .int (nI 10)])), (es, .inl (cs 2, 10, .inr (.inr (.inr (.inr (rf)))))), (qg1, .inl (cs 2, 15, .inr (.inr (.inr (.inr ((va_cpy rf (fun _ => none) 0 0 10)))))))] ++ ([(x, .inr (2, [.int (xv 0), .int (xv 1), .int (xv 2), .int (xv 3), .int (xv 4), .int (xv 5)]))] ++ tl)) (fun qg1 => ⟨qg1, rfl, rfl⟩) hP (hD.weaken (fun _ _ _ _ => trivial))) (gin_v mw_12_9 mw_12_10 mw_12_11 mw_1_17 mw_12_12) (by decide +kernel) ⟨Nat.le_of_ble_eq_true rfl, Nat.le_of_ble_eq_true rfl⟩ (va_recv hK hP (ci := 0) (q0 := 0) rfl rfl) rfl hl.1 rfl (Nat.le_of_ble_eq_true rfl) dJx4a65c_add_72be8_7 ⟨(Nat.le_of_ble_eq_true rfl), (Nat.le_of_ble_eq_true rfl)⟩ hD hS hA (fun ov9 w9 H locs hp9 hP hD hS => ?_)
  obtain ⟨qg1, rfl, rfl⟩ := hp9
  have hP : va_P D vwCl ([(b, .inr (0, [.int mcn, .ref qg1, .int (nI 10)])), (es, .inl (cs 2, 10, .inr (.inr (.inr (.inr (rf)))))), (qg1, .inl (cs 2, 15, .inr (.inr (.inr (.inr ((va_cpy rf (fun _ => none) 0 0 10)))))))] ++ ([(x, .inr (2, [.int (xv 0), .int (xv 1), .int (xv 2), .int (xv 3), .int (xv 4), .int (xv 5)]))] ++ tl)) H := hP
  have hD : va_D _ ([(b, .inr (0, [.int mcn, .ref qg1, .int (nI 10)])), (es, .inl (cs 2, 10, .inr (.inr (.inr (.inr (rf)))))), (qg1, .inl (cs 2, 15, .inr (.inr (.inr (.inr ((va_cpy rf (fun _ => none) 0 0 10)))))))] ++ ([(x, .inr (2, [.int (xv 0), .int (xv 1), .int (xv 2), .int (xv 3), .int (xv 4), .int (xv 5)]))] ++ tl)) := hD
  have hP : va_P D vwCl ([(b, .inr (0, [.int mcn, .ref qg1, .int (nI 10)])), (es, .inl (cs 2, 10, .inr (.inr (.inr (.inr (rf)))))), (qg1, .inl (cs 2, 15, .inr (.inr (.inr (.inr ((va_cpy rf (fun _ => none) 0 0 10))))))), (x, .inr (2, [.int (xv 0), .int (xv 1), .int (xv 2), .int (xv 3), .int (xv 4), .int (xv 5)]))] ++ tl) H := hP
  have hD : va_D _ ([(b, .inr (0, [.int mcn, .ref qg1, .int (nI 10)])), (es, .inl (cs 2, 10, .inr (.inr (.inr (.inr (rf)))))), (qg1, .inl (cs 2, 15, .inr (.inr (.inr (.inr ((va_cpy rf (fun _ => none) 0 0 10))))))), (x, .inr (2, [.int (xv 0), .int (xv 1), .int (xv 2), .int (xv 3), .int (xv 4), .int (xv 5)]))] ++ tl) := hD
  have hP : va_P D vwCl ([(b, .inr (0, [.int mcn, .ref qg1, .int (nI 10)])), (x, .inr (2, [.int (xv 0), .int (xv 1), .int (xv 2), .int (xv 3), .int (xv 4), .int (xv 5)])), (es, .inl (cs 2, 10, .inr (.inr (.inr (.inr (rf)))))), (qg1, .inl (cs 2, 15, .inr (.inr (.inr (.inr ((va_cpy rf (fun _ => none) 0 0 10)))))))] ++ tl) H := va_P.part (X := [(b, .inr (0, [.int mcn, .ref qg1, .int (nI 10)])), (es, .inl (cs 2, 10, .inr (.inr (.inr (.inr (rf)))))), (qg1, .inl (cs 2, 15, .inr (.inr (.inr (.inr ((va_cpy rf (fun _ => none) 0 0 10))))))), (x, .inr (2, [.int (xv 0), .int (xv 1), .int (xv 2), .int (xv 3), .int (xv 4), .int (xv 5)]))]) (pl := tl) hP [0, 3, 1, 2] rfl
  have hD : va_D _ ([(b, .inr (0, [.int mcn, .ref qg1, .int (nI 10)])), (x, .inr (2, [.int (xv 0), .int (xv 1), .int (xv 2), .int (xv 3), .int (xv 4), .int (xv 5)])), (es, .inl (cs 2, 10, .inr (.inr (.inr (.inr (rf)))))), (qg1, .inl (cs 2, 15, .inr (.inr (.inr (.inr ((va_cpy rf (fun _ => none) 0 0 10)))))))] ++ tl) := va_D.part (X := [(b, .inr (0, [.int mcn, .ref qg1, .int (nI 10)])), (es, .inl (cs 2, 10, .inr (.inr (.inr (.inr (rf)))))), (qg1, .inl (cs 2, 15, .inr (.inr (.inr (.inr ((va_cpy rf (fun _ => none) 0 0 10))))))), (x, .inr (2, [.int (xv 0), .int (xv 1), .int (xv 2), .int (xv 3), .int (xv 4), .int (xv 5)]))]) (pl := tl) hD [0, 3, 1, 2] (by decide) rfl
  refine W.eq (g2 := F0 m 10 ls [.ref qg1]) rfl ?_
  refine lv_astore_n (lv' := [(2, .ref qg1), (0, .ref b), (1, .ref x), (3, .int (nI 10))]) hx hb dJx4a65c_add_72be8_10 rfl hl (by decide) rfl (fun ls hl => ?_)
  refine lv_aload_n hx hb dJx4a65c_add_72be8_11 rfl (lv_at hl 0 rfl) ?_
  refine lv_iload_n hx hb dJx4a65c_add_72be8_12 rfl (lv_at hl 3 rfl) ?_
  refine lv_aload_n hx hb dJx4a65c_add_72be8_13 rfl (lv_at hl 2 rfl) ?_
  refine va_astqO hx hb hK hP hD hS 3 2 1 2 rfl rfl (hT.2.2.2.2.2.2.1 _ cd_w0) rfl rfl (vp_in_nI (by omega) (by omega)) dJx4a65c_add_72be8_14 (fun H locs hP hD hS => ?_)
  have g9 : va_up ((va_cpy rf (fun _ => none) 0 0 10)) (nI 10).toNatClampNeg (some x) = va_up (va_cpy rf (fun _ => none) 0 0 10) 10 (some x) := by rw [nI_clamp (by omega)]
  have hP : va_P D vwCl ([(b, .inr (0, [.int mcn, .ref qg1, .int (nI 10)])), (x, .inr (2, [.int (xv 0), .int (xv 1), .int (xv 2), .int (xv 3), .int (xv 4), .int (xv 5)])), (es, .inl (cs 2, 10, .inr (.inr (.inr (.inr (rf)))))), (qg1, .inl (cs 2, 15, .inr (.inr (.inr (.inr (va_up (va_cpy rf (fun _ => none) 0 0 10) 10 (some x)))))))] ++ tl) H := Eq.mp (congrArg (fun z9 => va_P D vwCl ([(b, .inr (0, [.int mcn, .ref qg1, .int (nI 10)])), (x, .inr (2, [.int (xv 0), .int (xv 1), .int (xv 2), .int (xv 3), .int (xv 4), .int (xv 5)])), (es, .inl (cs 2, 10, .inr (.inr (.inr (.inr (rf)))))), (qg1, .inl (cs 2, 15, .inr (.inr (.inr (.inr (z9))))))] ++ tl) H) g9) hP
  have hD : va_D _ ([(b, .inr (0, [.int mcn, .ref qg1, .int (nI 10)])), (x, .inr (2, [.int (xv 0), .int (xv 1), .int (xv 2), .int (xv 3), .int (xv 4), .int (xv 5)])), (es, .inl (cs 2, 10, .inr (.inr (.inr (.inr (rf)))))), (qg1, .inl (cs 2, 15, .inr (.inr (.inr (.inr (va_up (va_cpy rf (fun _ => none) 0 0 10) 10 (some x)))))))] ++ tl) := Eq.mp (congrArg (fun z9 => va_D _ ([(b, .inr (0, [.int mcn, .ref qg1, .int (nI 10)])), (x, .inr (2, [.int (xv 0), .int (xv 1), .int (xv 2), .int (xv 3), .int (xv 4), .int (xv 5)])), (es, .inl (cs 2, 10, .inr (.inr (.inr (.inr (rf)))))), (qg1, .inl (cs 2, 15, .inr (.inr (.inr (.inr (z9))))))] ++ tl)) g9) hD
  refine lv_aload_n hx hb dJx4a65c_add_72be8_15 rfl (lv_at hl 1 rfl) ?_
  refine lv_iload_n hx hb dJx4a65c_add_72be8_16 rfl (lv_at hl 3 rfl) ?_
  refine lv_iconst (v := 1) hx hb dJx4a65c_add_72be8_17 (by first | decide | rfl) ?_
  refine lv_iadd hx hb dJx4a65c_add_72be8_18 ?_
  refine lv_rwi (y := nI (10 + 1)) (nI_1 _) ?_
  refine va_put (D := D) (ci := 0) (v := .int (nI (10 + 1))) (ty := .int) (C := RJx4a65c) (T := TJx4a65c) (N := 3) hx hb hts inlJx4a65c tyJx4a65c tyJx4a65c_ok nmJx4a65c hown hK hP hD hS 0 rfl rfl 2 (by decide) (hts (Cond.fieldLink RJx4a65c 48 "java/util/ArrayList" "size" "I") mw_5_21) (fun _ h9 => h9) rfl (by decide +kernel) rfl rfl (Nat.le_of_ble_eq_true rfl) dJx4a65c_add_72be8_19 (fun H locs hP hD hS => ?_)
  have hP : va_P D vwCl ([(b, .inr (0, [.int mcn, .ref qg1, .int (nI (10 + 1))])), (x, .inr (2, [.int (xv 0), .int (xv 1), .int (xv 2), .int (xv 3), .int (xv 4), .int (xv 5)])), (es, .inl (cs 2, 10, .inr (.inr (.inr (.inr (rf)))))), (qg1, .inl (cs 2, 15, .inr (.inr (.inr (.inr (va_up (va_cpy rf (fun _ => none) 0 0 10) 10 (some x)))))))] ++ tl) H := hP
  have hD : va_D _ ([(b, .inr (0, [.int mcn, .ref qg1, .int (nI (10 + 1))])), (x, .inr (2, [.int (xv 0), .int (xv 1), .int (xv 2), .int (xv 3), .int (xv 4), .int (xv 5)])), (es, .inl (cs 2, 10, .inr (.inr (.inr (.inr (rf)))))), (qg1, .inl (cs 2, 15, .inr (.inr (.inr (.inr (va_up (va_cpy rf (fun _ => none) 0 0 10) 10 (some x)))))))] ++ tl) := hD
  refine W.widen (k := 1) (n := 15) (Nat.le_of_ble_eq_true rfl) (Nat.le_of_ble_eq_true rfl) ?_
  exact wr_vret hQ hx hb hr hlocks hP hD hS (hpost _) dJx4a65c_add_72be8_22
set_option maxHeartbeats 4000000 in
set_option maxRecDepth 100000 in
theorem k_addA (l : Launch) (D : va_G) (cs : Nat → ClassId) (z mi : Nat) (H : Heap)  {b : Nat} {mcn : Int32} {x : Nat} {xv : Nat → Int32} {tl : va_W} (post : Option Value → va_W → Prop) (hpost : ∀ q : Nat, post (some (.int 1)) ([(b, .inr (0, [.int (mcn + 1), .ref q, .int (nI ((0 + 1)))])), (x, .inr (2, [.int (xv 0), .int (xv 1), .int (xv 2), .int (xv 3), .int (xv 4), .int (xv 5)])), (q, .inl (cs 2, 10, .inr (.inr (.inr (.inr ((va_up (fun _ => none) 0 (some x))))))))] ++ tl)) (hP : va_P D vwCl ([(b, .inr (0, [.int mcn, .ref z, .int (nI 0)])), (x, .inr (2, [.int (xv 0), .int (xv 1), .int (xv 2), .int (xv 3), .int (xv 4), .int (xv 5)]))] ++ tl) H) (hD : va_D (fun _ => True) ([(b, .inr (0, [.int mcn, .ref z, .int (nI 0)])), (x, .inr (2, [.int (xv 0), .int (xv 1), .int (xv 2), .int (xv 3), .int (xv 4), .int (xv 5)]))] ++ tl)) : Ws z mi l D cs 6 1 10 yJx4a65c_add_9ea2d cJx4a65c_add_9ea2d 2 (some .boolean) ([(b, .inr (0, [.int mcn, .ref z, .int (nI 0)])), (x, .inr (2, [.int (xv 0), .int (xv 1), .int (xv 2), .int (xv 3), .int (xv 4), .int (xv 5)]))] ++ tl) H [.ref b, .ref x] post := by
  refine ws_ent (by decide) (Nat.le_of_ble_eq_true rfl) hP hD ?_
  clear hP hD H
  intro p e s m below meth c ls A Q H hx hb hr hml hown hts hlocks hin hl hK hQ hA hH hT hP hD hS
  clear hH
  have hl : lv_has ls 2 [(0, .ref b), (1, .ref x)] := hl
  refine lv_aload_n hx hb dJx4a65c_add_9ea2d_0 rfl (lv_at hl 0 rfl) ?_
  refine lv_dup hx hb dJx4a65c_add_9ea2d_1 rfl ?_
  refine va_get (D := D) (ci := 0) (v := .int mcn) (C := RJx4a65c) (T := TJx4a65c) (N := 3) hx hb hts inlJx4a65c hown hK hP 0 rfl rfl 0 (by decide) (hts (Cond.fieldLink RJx4a65c 63 "java/util/ArrayList" "modCount" "I") mw_7_11) (u_same (hts (Cond.sameField "java/util/ArrayList" "java/util/AbstractList" "modCount" "I") mw_7_12)) rfl dJx4a65c_add_9ea2d_2 ?_
  refine lv_iconst (v := 1) hx hb dJx4a65c_add_9ea2d_5 (by first | decide | rfl) ?_
  refine lv_iadd hx hb dJx4a65c_add_9ea2d_6 ?_
  refine va_put (D := D) (ci := 0) (v := .int (mcn + 1)) (ty := .int) (C := RJx4a65c) (T := TJx4a65c) (N := 3) hx hb hts inlJx4a65c tyJx4a65c tyJx4a65c_ok nmJx4a65c hown hK hP hD hS 0 rfl rfl 0 (by decide) (hts (Cond.fieldLink RJx4a65c 63 "java/util/ArrayList" "modCount" "I") mw_7_11) (u_same (hts (Cond.sameField "java/util/ArrayList" "java/util/AbstractList" "modCount" "I") mw_7_12)) rfl (by decide +kernel) rfl rfl (Nat.le_of_ble_eq_true rfl) dJx4a65c_add_9ea2d_7 (fun H locs hP hD hS => ?_)
  have hP : va_P D vwCl ([(b, .inr (0, [.int (mcn + 1), .ref z, .int (nI 0)])), (x, .inr (2, [.int (xv 0), .int (xv 1), .int (xv 2), .int (xv 3), .int (xv 4), .int (xv 5)]))] ++ tl) H := hP
  have hD : va_D _ ([(b, .inr (0, [.int (mcn + 1), .ref z, .int (nI 0)])), (x, .inr (2, [.int (xv 0), .int (xv 1), .int (xv 2), .int (xv 3), .int (xv 4), .int (xv 5)]))] ++ tl) := hD
  refine lv_aload_n hx hb dJx4a65c_add_9ea2d_10 rfl (lv_at hl 0 rfl) ?_
  refine lv_aload_n hx hb dJx4a65c_add_9ea2d_11 rfl (lv_at hl 1 rfl) ?_
  refine lv_aload_n hx hb dJx4a65c_add_9ea2d_12 rfl (lv_at hl 0 rfl) ?_
  refine va_get (D := D) (ci := 0) (v := .ref z) (C := RJx4a65c) (T := TJx4a65c) (N := 3) hx hb hts inlJx4a65c hown hK hP 0 rfl rfl 1 (by decide) (hts (Cond.fieldLink RJx4a65c 9 "java/util/ArrayList" "elementData" "[Ljava/lang/Object;") mw_3_0) (fun _ h9 => h9) rfl dJx4a65c_add_9ea2d_13 ?_
  refine lv_aload_n hx hb dJx4a65c_add_9ea2d_16 rfl (lv_at hl 0 rfl) ?_
  refine va_get (D := D) (ci := 0) (v := .int (nI 0)) (C := RJx4a65c) (T := TJx4a65c) (N := 3) hx hb hts inlJx4a65c hown hK hP 0 rfl rfl 2 (by decide) (hts (Cond.fieldLink RJx4a65c 48 "java/util/ArrayList" "size" "I") mw_5_21) (fun _ h9 => h9) rfl dJx4a65c_add_9ea2d_17 ?_
  have hP : va_P D vwCl ([(b, .inr (0, [.int (mcn + 1), .ref z, .int (nI 0)])), (x, .inr (2, [.int (xv 0), .int (xv 1), .int (xv 2), .int (xv 3), .int (xv 4), .int (xv 5)]))] ++ tl) H := hP
  have hD : va_D _ ([(b, .inr (0, [.int (mcn + 1), .ref z, .int (nI 0)])), (x, .inr (2, [.int (xv 0), .int (xv 1), .int (xv 2), .int (xv 3), .int (xv 4), .int (xv 5)]))] ++ tl) := hD
  refine wtV (As := [.ref x, .ref z, .int (nI 0)]) (rest := []) (b := b) ⟨hx, hb, hml, hown, hts⟩ hT hK 3 (k_add3A l D cs z mi H (fun ov w1 => ∃ qa : Nat, ov = none ∧ w1 = [(b, .inr (0, [.int (mcn + 1), .ref qa, .int (nI ((0 + 1)))])), (x, .inr (2, [.int (xv 0), .int (xv 1), .int (xv 2), .int (xv 3), .int (xv 4), .int (xv 5)])), (qa, .inl (cs 2, 10, .inr (.inr (.inr (.inr ((va_up (fun _ => none) 0 (some x))))))))] ++ tl) (fun qa => ⟨qa, rfl, rfl⟩) hP (hD.weaken (fun _ _ _ _ => trivial))) (gin_v mw_12_5 mw_12_6 mw_12_7 mw_1_17 mw_12_8) (by decide +kernel) ⟨Nat.le_of_ble_eq_true rfl, Nat.le_of_ble_eq_true rfl⟩ (va_recv hK hP (ci := 0) (q0 := 0) rfl rfl) rfl hl.1 rfl (Nat.le_of_ble_eq_true rfl) dJx4a65c_add_9ea2d_20 ⟨(Nat.le_of_ble_eq_true rfl), (Nat.le_of_ble_eq_true rfl)⟩ hD hS hA (fun ov9 w9 H locs hp9 hP hD hS => ?_)
  obtain ⟨qa, rfl, rfl⟩ := hp9
  have hP : va_P D vwCl ([(b, .inr (0, [.int (mcn + 1), .ref qa, .int (nI ((0 + 1)))])), (x, .inr (2, [.int (xv 0), .int (xv 1), .int (xv 2), .int (xv 3), .int (xv 4), .int (xv 5)])), (qa, .inl (cs 2, 10, .inr (.inr (.inr (.inr ((va_up (fun _ => none) 0 (some x))))))))] ++ tl) H := hP
  have hD : va_D _ ([(b, .inr (0, [.int (mcn + 1), .ref qa, .int (nI ((0 + 1)))])), (x, .inr (2, [.int (xv 0), .int (xv 1), .int (xv 2), .int (xv 3), .int (xv 4), .int (xv 5)])), (qa, .inl (cs 2, 10, .inr (.inr (.inr (.inr ((va_up (fun _ => none) 0 (some x))))))))] ++ tl) := hD
  refine W.eq (g2 := F0 m 23 ls []) rfl ?_
  refine lv_iconst (v := 1) hx hb dJx4a65c_add_9ea2d_23 (by first | decide | rfl) ?_
  refine W.widen (k := 1) (n := 10) (Nat.le_of_ble_eq_true rfl) (Nat.le_of_ble_eq_true rfl) ?_
  exact wr_zret hQ hx hb hr hlocks hP hD hS (hpost _) (by decide) dJx4a65c_add_9ea2d_24
set_option maxHeartbeats 4000000 in
set_option maxRecDepth 100000 in
theorem k_add (l : Launch) (D : va_G) (cs : Nat → ClassId) (z mi : Nat) (H : Heap)  {b es : Nat} {mcn : Int32} {x : Nat} {xv : Nat → Int32} {n cap : Nat} {rf : Nat → Option Nat} (hn : n < cap) (hcap : cap ≤ 1000) {tl : va_W} (post : Option Value → va_W → Prop) (hpost : post (some (.int 1)) ([(b, .inr (0, [.int (mcn + 1), .ref es, .int (nI ((n + 1)))])), (x, .inr (2, [.int (xv 0), .int (xv 1), .int (xv 2), .int (xv 3), .int (xv 4), .int (xv 5)])), (es, .inl (cs 2, cap, .inr (.inr (.inr (.inr ((va_up rf n (some x))))))))] ++ tl)) (hP : va_P D vwCl ([(b, .inr (0, [.int mcn, .ref es, .int (nI n)])), (x, .inr (2, [.int (xv 0), .int (xv 1), .int (xv 2), .int (xv 3), .int (xv 4), .int (xv 5)])), (es, .inl (cs 2, cap, .inr (.inr (.inr (.inr (rf))))))] ++ tl) H) (hD : va_D (fun _ => True) ([(b, .inr (0, [.int mcn, .ref es, .int (nI n)])), (x, .inr (2, [.int (xv 0), .int (xv 1), .int (xv 2), .int (xv 3), .int (xv 4), .int (xv 5)])), (es, .inl (cs 2, cap, .inr (.inr (.inr (.inr (rf))))))] ++ tl)) : Ws z mi l D cs 6 0 0 yJx4a65c_add_9ea2d cJx4a65c_add_9ea2d 2 (some .boolean) ([(b, .inr (0, [.int mcn, .ref es, .int (nI n)])), (x, .inr (2, [.int (xv 0), .int (xv 1), .int (xv 2), .int (xv 3), .int (xv 4), .int (xv 5)])), (es, .inl (cs 2, cap, .inr (.inr (.inr (.inr (rf))))))] ++ tl) H [.ref b, .ref x] post := by
  refine ws_ent (by decide) (Nat.le_of_ble_eq_true rfl) hP hD ?_
  clear hP hD H
  intro p e s m below meth c ls A Q H hx hb hr hml hown hts hlocks hin hl hK hQ hA hH hT hP hD hS
  clear hH
  have hl : lv_has ls 2 [(0, .ref b), (1, .ref x)] := hl
  refine lv_aload_n hx hb dJx4a65c_add_9ea2d_0 rfl (lv_at hl 0 rfl) ?_
  refine lv_dup hx hb dJx4a65c_add_9ea2d_1 rfl ?_
  refine va_get (D := D) (ci := 0) (v := .int mcn) (C := RJx4a65c) (T := TJx4a65c) (N := 3) hx hb hts inlJx4a65c hown hK hP 0 rfl rfl 0 (by decide) (hts (Cond.fieldLink RJx4a65c 63 "java/util/ArrayList" "modCount" "I") mw_7_11) (u_same (hts (Cond.sameField "java/util/ArrayList" "java/util/AbstractList" "modCount" "I") mw_7_12)) rfl dJx4a65c_add_9ea2d_2 ?_
  refine lv_iconst (v := 1) hx hb dJx4a65c_add_9ea2d_5 (by first | decide | rfl) ?_
  refine lv_iadd hx hb dJx4a65c_add_9ea2d_6 ?_
  refine va_put (D := D) (ci := 0) (v := .int (mcn + 1)) (ty := .int) (C := RJx4a65c) (T := TJx4a65c) (N := 3) hx hb hts inlJx4a65c tyJx4a65c tyJx4a65c_ok nmJx4a65c hown hK hP hD hS 0 rfl rfl 0 (by decide) (hts (Cond.fieldLink RJx4a65c 63 "java/util/ArrayList" "modCount" "I") mw_7_11) (u_same (hts (Cond.sameField "java/util/ArrayList" "java/util/AbstractList" "modCount" "I") mw_7_12)) rfl (by decide +kernel) rfl rfl (Nat.le_of_ble_eq_true rfl) dJx4a65c_add_9ea2d_7 (fun H locs hP hD hS => ?_)
  have hP : va_P D vwCl ([(b, .inr (0, [.int (mcn + 1), .ref es, .int (nI n)])), (x, .inr (2, [.int (xv 0), .int (xv 1), .int (xv 2), .int (xv 3), .int (xv 4), .int (xv 5)])), (es, .inl (cs 2, cap, .inr (.inr (.inr (.inr (rf))))))] ++ tl) H := hP
  have hD : va_D _ ([(b, .inr (0, [.int (mcn + 1), .ref es, .int (nI n)])), (x, .inr (2, [.int (xv 0), .int (xv 1), .int (xv 2), .int (xv 3), .int (xv 4), .int (xv 5)])), (es, .inl (cs 2, cap, .inr (.inr (.inr (.inr (rf))))))] ++ tl) := hD
  refine lv_aload_n hx hb dJx4a65c_add_9ea2d_10 rfl (lv_at hl 0 rfl) ?_
  refine lv_aload_n hx hb dJx4a65c_add_9ea2d_11 rfl (lv_at hl 1 rfl) ?_
  refine lv_aload_n hx hb dJx4a65c_add_9ea2d_12 rfl (lv_at hl 0 rfl) ?_
  refine va_get (D := D) (ci := 0) (v := .ref es) (C := RJx4a65c) (T := TJx4a65c) (N := 3) hx hb hts inlJx4a65c hown hK hP 0 rfl rfl 1 (by decide) (hts (Cond.fieldLink RJx4a65c 9 "java/util/ArrayList" "elementData" "[Ljava/lang/Object;") mw_3_0) (fun _ h9 => h9) rfl dJx4a65c_add_9ea2d_13 ?_
  refine lv_aload_n hx hb dJx4a65c_add_9ea2d_16 rfl (lv_at hl 0 rfl) ?_
  refine va_get (D := D) (ci := 0) (v := .int (nI n)) (C := RJx4a65c) (T := TJx4a65c) (N := 3) hx hb hts inlJx4a65c hown hK hP 0 rfl rfl 2 (by decide) (hts (Cond.fieldLink RJx4a65c 48 "java/util/ArrayList" "size" "I") mw_5_21) (fun _ h9 => h9) rfl dJx4a65c_add_9ea2d_17 ?_
  have hP : va_P D vwCl ([(b, .inr (0, [.int (mcn + 1), .ref es, .int (nI n)])), (x, .inr (2, [.int (xv 0), .int (xv 1), .int (xv 2), .int (xv 3), .int (xv 4), .int (xv 5)])), (es, .inl (cs 2, cap, .inr (.inr (.inr (.inr (rf))))))] ++ tl) H := hP
  have hD : va_D _ ([(b, .inr (0, [.int (mcn + 1), .ref es, .int (nI n)])), (x, .inr (2, [.int (xv 0), .int (xv 1), .int (xv 2), .int (xv 3), .int (xv 4), .int (xv 5)])), (es, .inl (cs 2, cap, .inr (.inr (.inr (.inr (rf))))))] ++ tl) := hD
  refine wtV (As := [.ref x, .ref es, .int (nI n)]) (rest := []) (b := b) ⟨hx, hb, hml, hown, hts⟩ hT hK 3 (k_add3 l D cs z mi H hn hcap (fun ov w1 => ov = none ∧ w1 = [(b, .inr (0, [.int (mcn + 1), .ref es, .int (nI ((n + 1)))])), (x, .inr (2, [.int (xv 0), .int (xv 1), .int (xv 2), .int (xv 3), .int (xv 4), .int (xv 5)])), (es, .inl (cs 2, cap, .inr (.inr (.inr (.inr ((va_up rf n (some x))))))))] ++ tl) ⟨rfl, rfl⟩ hP (hD.weaken (fun _ _ _ _ => trivial))) (gin_v mw_12_5 mw_12_6 mw_12_7 mw_1_17 mw_12_8) (by decide +kernel) ⟨Nat.le_of_ble_eq_true rfl, Nat.le_of_ble_eq_true rfl⟩ (va_recv hK hP (ci := 0) (q0 := 0) rfl rfl) rfl hl.1 rfl (Nat.le_of_ble_eq_true rfl) dJx4a65c_add_9ea2d_20 ⟨(Nat.le_of_ble_eq_true rfl), (Nat.le_of_ble_eq_true rfl)⟩ hD hS hA (fun ov9 w9 H locs hp9 hP hD hS => ?_)
  obtain ⟨rfl, rfl⟩ := hp9
  have hP : va_P D vwCl ([(b, .inr (0, [.int (mcn + 1), .ref es, .int (nI ((n + 1)))])), (x, .inr (2, [.int (xv 0), .int (xv 1), .int (xv 2), .int (xv 3), .int (xv 4), .int (xv 5)])), (es, .inl (cs 2, cap, .inr (.inr (.inr (.inr ((va_up rf n (some x))))))))] ++ tl) H := hP
  have hD : va_D _ ([(b, .inr (0, [.int (mcn + 1), .ref es, .int (nI ((n + 1)))])), (x, .inr (2, [.int (xv 0), .int (xv 1), .int (xv 2), .int (xv 3), .int (xv 4), .int (xv 5)])), (es, .inl (cs 2, cap, .inr (.inr (.inr (.inr ((va_up rf n (some x))))))))] ++ tl) := hD
  refine W.eq (g2 := F0 m 23 ls []) rfl ?_
  refine lv_iconst (v := 1) hx hb dJx4a65c_add_9ea2d_23 (by first | decide | rfl) ?_
  exact wr_zret hQ hx hb hr hlocks hP hD hS (hpost) (by decide) dJx4a65c_add_9ea2d_24
set_option maxHeartbeats 4000000 in
set_option maxRecDepth 100000 in
theorem k_addB (l : Launch) (D : va_G) (cs : Nat → ClassId) (z mi : Nat) (H : Heap) {tl : va_W}  {b es : Nat} {mcn : Int32} {x : Nat} {xv : Nat → Int32} {rf : Nat → Option Nat} {wa : Nat → Nat} {wf : Nat → Nat → Int32} (hw : ∀ i, i < 10 → wG wa wf i ∈ tl) (hr9 : ∀ i, i < 10 → rf i = some (wa i)) (post : Option Value → va_W → Prop) (hpost : ∀ q : Nat, post (some (.int 1)) ([(b, .inr (0, [.int (mcn + 1), .ref q, .int (nI ((10 + 1)))])), (x, .inr (2, [.int (xv 0), .int (xv 1), .int (xv 2), .int (xv 3), .int (xv 4), .int (xv 5)])), (es, .inl (cs 2, 10, .inr (.inr (.inr (.inr (rf)))))), (q, .inl (cs 2, 15, .inr (.inr (.inr (.inr ((va_up (va_cpy rf (fun _ => none) 0 0 10) 10 (some x))))))))] ++ tl)) (hP : va_P D vwCl ([(b, .inr (0, [.int mcn, .ref es, .int (nI 10)])), (x, .inr (2, [.int (xv 0), .int (xv 1), .int (xv 2), .int (xv 3), .int (xv 4), .int (xv 5)])), (es, .inl (cs 2, 10, .inr (.inr (.inr (.inr (rf))))))] ++ tl) H) (hD : va_D (fun _ => True) ([(b, .inr (0, [.int mcn, .ref es, .int (nI 10)])), (x, .inr (2, [.int (xv 0), .int (xv 1), .int (xv 2), .int (xv 3), .int (xv 4), .int (xv 5)])), (es, .inl (cs 2, 10, .inr (.inr (.inr (.inr (rf))))))] ++ tl)) : Ws z mi l D cs 8 1 15 yJx4a65c_add_9ea2d cJx4a65c_add_9ea2d 2 (some .boolean) ([(b, .inr (0, [.int mcn, .ref es, .int (nI 10)])), (x, .inr (2, [.int (xv 0), .int (xv 1), .int (xv 2), .int (xv 3), .int (xv 4), .int (xv 5)])), (es, .inl (cs 2, 10, .inr (.inr (.inr (.inr (rf))))))] ++ tl) H [.ref b, .ref x] post := by
  refine ws_ent (by decide) (Nat.le_of_ble_eq_true rfl) hP hD ?_
  clear hP hD H
  intro p e s m below meth c ls A Q H hx hb hr hml hown hts hlocks hin hl hK hQ hA hH hT hP hD hS
  clear hH
  have hl : lv_has ls 2 [(0, .ref b), (1, .ref x)] := hl
  refine lv_aload_n hx hb dJx4a65c_add_9ea2d_0 rfl (lv_at hl 0 rfl) ?_
  refine lv_dup hx hb dJx4a65c_add_9ea2d_1 rfl ?_
  refine va_get (D := D) (ci := 0) (v := .int mcn) (C := RJx4a65c) (T := TJx4a65c) (N := 3) hx hb hts inlJx4a65c hown hK hP 0 rfl rfl 0 (by decide) (hts (Cond.fieldLink RJx4a65c 63 "java/util/ArrayList" "modCount" "I") mw_7_11) (u_same (hts (Cond.sameField "java/util/ArrayList" "java/util/AbstractList" "modCount" "I") mw_7_12)) rfl dJx4a65c_add_9ea2d_2 ?_
  refine lv_iconst (v := 1) hx hb dJx4a65c_add_9ea2d_5 (by first | decide | rfl) ?_
  refine lv_iadd hx hb dJx4a65c_add_9ea2d_6 ?_
  refine va_put (D := D) (ci := 0) (v := .int (mcn + 1)) (ty := .int) (C := RJx4a65c) (T := TJx4a65c) (N := 3) hx hb hts inlJx4a65c tyJx4a65c tyJx4a65c_ok nmJx4a65c hown hK hP hD hS 0 rfl rfl 0 (by decide) (hts (Cond.fieldLink RJx4a65c 63 "java/util/ArrayList" "modCount" "I") mw_7_11) (u_same (hts (Cond.sameField "java/util/ArrayList" "java/util/AbstractList" "modCount" "I") mw_7_12)) rfl (by decide +kernel) rfl rfl (Nat.le_of_ble_eq_true rfl) dJx4a65c_add_9ea2d_7 (fun H locs hP hD hS => ?_)
  have hP : va_P D vwCl ([(b, .inr (0, [.int (mcn + 1), .ref es, .int (nI 10)])), (x, .inr (2, [.int (xv 0), .int (xv 1), .int (xv 2), .int (xv 3), .int (xv 4), .int (xv 5)])), (es, .inl (cs 2, 10, .inr (.inr (.inr (.inr (rf))))))] ++ tl) H := hP
  have hD : va_D _ ([(b, .inr (0, [.int (mcn + 1), .ref es, .int (nI 10)])), (x, .inr (2, [.int (xv 0), .int (xv 1), .int (xv 2), .int (xv 3), .int (xv 4), .int (xv 5)])), (es, .inl (cs 2, 10, .inr (.inr (.inr (.inr (rf))))))] ++ tl) := hD
  refine lv_aload_n hx hb dJx4a65c_add_9ea2d_10 rfl (lv_at hl 0 rfl) ?_
  refine lv_aload_n hx hb dJx4a65c_add_9ea2d_11 rfl (lv_at hl 1 rfl) ?_
  refine lv_aload_n hx hb dJx4a65c_add_9ea2d_12 rfl (lv_at hl 0 rfl) ?_
  refine va_get (D := D) (ci := 0) (v := .ref es) (C := RJx4a65c) (T := TJx4a65c) (N := 3) hx hb hts inlJx4a65c hown hK hP 0 rfl rfl 1 (by decide) (hts (Cond.fieldLink RJx4a65c 9 "java/util/ArrayList" "elementData" "[Ljava/lang/Object;") mw_3_0) (fun _ h9 => h9) rfl dJx4a65c_add_9ea2d_13 ?_
  refine lv_aload_n hx hb dJx4a65c_add_9ea2d_16 rfl (lv_at hl 0 rfl) ?_
  refine va_get (D := D) (ci := 0) (v := .int (nI 10)) (C := RJx4a65c) (T := TJx4a65c) (N := 3) hx hb hts inlJx4a65c hown hK hP 0 rfl rfl 2 (by decide) (hts (Cond.fieldLink RJx4a65c 48 "java/util/ArrayList" "size" "I") mw_5_21) (fun _ h9 => h9) rfl dJx4a65c_add_9ea2d_17 ?_
  have hP : va_P D vwCl ([(b, .inr (0, [.int (mcn + 1), .ref es, .int (nI 10)])), (x, .inr (2, [.int (xv 0), .int (xv 1), .int (xv 2), .int (xv 3), .int (xv 4), .int (xv 5)])), (es, .inl (cs 2, 10, .inr (.inr (.inr (.inr (rf))))))] ++ tl) H := hP
  have hD : va_D _ ([(b, .inr (0, [.int (mcn + 1), .ref es, .int (nI 10)])), (x, .inr (2, [.int (xv 0), .int (xv 1), .int (xv 2), .int (xv 3), .int (xv 4), .int (xv 5)])), (es, .inl (cs 2, 10, .inr (.inr (.inr (.inr (rf))))))] ++ tl) := hD
  refine wtV (As := [.ref x, .ref es, .int (nI 10)]) (rest := []) (b := b) ⟨hx, hb, hml, hown, hts⟩ hT hK 3 (k_add3B l D cs z mi H hw hr9 (fun ov w1 => ∃ qa : Nat, ov = none ∧ w1 = [(b, .inr (0, [.int (mcn + 1), .ref qa, .int (nI ((10 + 1)))])), (x, .inr (2, [.int (xv 0), .int (xv 1), .int (xv 2), .int (xv 3), .int (xv 4), .int (xv 5)])), (es, .inl (cs 2, 10, .inr (.inr (.inr (.inr (rf)))))), (qa, .inl (cs 2, 15, .inr (.inr (.inr (.inr ((va_up (va_cpy rf (fun _ => none) 0 0 10) 10 (some x))))))))] ++ tl) (fun qa => ⟨qa, rfl, rfl⟩) hP (hD.weaken (fun _ _ _ _ => trivial))) (gin_v mw_12_5 mw_12_6 mw_12_7 mw_1_17 mw_12_8) (by decide +kernel) ⟨Nat.le_of_ble_eq_true rfl, Nat.le_of_ble_eq_true rfl⟩ (va_recv hK hP (ci := 0) (q0 := 0) rfl rfl) rfl hl.1 rfl (Nat.le_of_ble_eq_true rfl) dJx4a65c_add_9ea2d_20 ⟨(Nat.le_of_ble_eq_true rfl), (Nat.le_of_ble_eq_true rfl)⟩ hD hS hA (fun ov9 w9 H locs hp9 hP hD hS => ?_)
  obtain ⟨qa, rfl, rfl⟩ := hp9
  have hP : va_P D vwCl ([(b, .inr (0, [.int (mcn + 1), .ref qa, .int (nI ((10 + 1)))])), (x, .inr (2, [.int (xv 0), .int (xv 1), .int (xv 2), .int (xv 3), .int (xv 4), .int (xv 5)])), (es, .inl (cs 2, 10, .inr (.inr (.inr (.inr (rf)))))), (qa, .inl (cs 2, 15, .inr (.inr (.inr (.inr ((va_up (va_cpy rf (fun _ => none) 0 0 10) 10 (some x))))))))] ++ tl) H := hP
  have hD : va_D _ ([(b, .inr (0, [.int (mcn + 1), .ref qa, .int (nI ((10 + 1)))])), (x, .inr (2, [.int (xv 0), .int (xv 1), .int (xv 2), .int (xv 3), .int (xv 4), .int (xv 5)])), (es, .inl (cs 2, 10, .inr (.inr (.inr (.inr (rf)))))), (qa, .inl (cs 2, 15, .inr (.inr (.inr (.inr ((va_up (va_cpy rf (fun _ => none) 0 0 10) 10 (some x))))))))] ++ tl) := hD
  refine W.eq (g2 := F0 m 23 ls []) rfl ?_
  refine lv_iconst (v := 1) hx hb dJx4a65c_add_9ea2d_23 (by first | decide | rfl) ?_
  refine W.widen (k := 1) (n := 15) (Nat.le_of_ble_eq_true rfl) (Nat.le_of_ble_eq_true rfl) ?_
  exact wr_zret hQ hx hb hr hlocks hP hD hS (hpost _) (by decide) dJx4a65c_add_9ea2d_24
