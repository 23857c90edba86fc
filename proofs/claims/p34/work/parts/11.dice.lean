/-! Dice: what it reads; rows by program -/
set_option maxHeartbeats 4000000 in
set_option maxRecDepth 100000 in
theorem c_bitOf (l : Launch) (D : va_G) (cs : Nat → ClassId) (H : Heap) (f : Int32) : Rd l D (Ty cs) 1 yX0_bitOf cX0_bitOf 1 (some .int) H [.int f] (some (.int (bitX f))) := by
  refine rd_ent (by decide) (Nat.le_of_ble_eq_true rfl) ?_
  intro p e s m below meth c ls hx hb hr hml hown hts hlocks hl hH hK
  have hl : lv_has ls 1 [(0, .int f)] := hl
  refine lv_iload_n hx hb dX0_bitOf_0 rfl (lv_at hl 0 rfl) ?_
  refine lv_iconst (v := 1) hx hb dX0_bitOf_1 (by first | decide | rfl) ?_
  refine lv_icmp_lt (tgt := 11) hx hb dX0_bitOf_2 (by decide) (fun c_1 => ?_) (fun c_1 => ?_)
  · refine lv_iconst (v := 0) hx hb dX0_bitOf_11 (by first | decide | rfl) ?_
    refine lv_goto (tgt := 18) hx hb dX0_bitOf_12 (by decide) ?_
    exact rd_iret hH hx hb hr hlocks (rv (by have gc_1 := c_1; try simp only [fa_lt, fa_le, fa_eq, il0, il1, il2, il3, il4, il5, il6, il7, il9, il10, il12, il20, il36, il100, il999, il1728] at gc_1; unfold bitX; first | rfl | (rw [if_pos (by simp only [fa_lt, fa_le, fa_eq, il0, il1, il2, il3, il4, il5, il6, il7, il9, il10, il12, il20, il36, il100, il999, il1728]; omega)]; done) | (rw [if_neg (by simp only [fa_lt, fa_le, fa_eq, il0, il1, il2, il3, il4, il5, il6, il7, il9, il10, il12, il20, il36, il100, il999, il1728]; omega)]; done))) dX0_bitOf_18
  · refine lv_iload_n hx hb dX0_bitOf_5 rfl (lv_at hl 0 rfl) ?_
    refine lv_bipush (v := 12) hx hb dX0_bitOf_6 (by first | decide | rfl) ?_
    refine lv_icmp_le (tgt := 15) hx hb dX0_bitOf_8 (by decide) (fun c_2 => ?_) (fun c_2 => ?_)
    · refine lv_iconst (v := 1) hx hb dX0_bitOf_15 (by first | decide | rfl) ?_
      refine lv_iload_n hx hb dX0_bitOf_16 rfl (lv_at hl 0 rfl) ?_
      refine lv_ishl hx hb dX0_bitOf_17 ?_
      exact rd_iret hH hx hb hr hlocks (rv (by have gc_1 := c_1; have gc_2 := c_2; try simp only [fa_lt, fa_le, fa_eq, il0, il1, il2, il3, il4, il5, il6, il7, il9, il10, il12, il20, il36, il100, il999, il1728] at gc_1; try simp only [fa_lt, fa_le, fa_eq, il0, il1, il2, il3, il4, il5, il6, il7, il9, il10, il12, il20, il36, il100, il999, il1728] at gc_2; unfold bitX; first | rfl | (rw [if_pos (by simp only [fa_lt, fa_le, fa_eq, il0, il1, il2, il3, il4, il5, il6, il7, il9, il10, il12, il20, il36, il100, il999, il1728]; omega)]; done) | (rw [if_neg (by simp only [fa_lt, fa_le, fa_eq, il0, il1, il2, il3, il4, il5, il6, il7, il9, il10, il12, il20, il36, il100, il999, il1728]; omega)]; done))) dX0_bitOf_18
    · refine lv_iconst (v := 0) hx hb dX0_bitOf_11 (by first | decide | rfl) ?_
      refine lv_goto (tgt := 18) hx hb dX0_bitOf_12 (by decide) ?_
      exact rd_iret hH hx hb hr hlocks (rv (by have gc_1 := c_1; have gc_2 := c_2; try simp only [fa_lt, fa_le, fa_eq, il0, il1, il2, il3, il4, il5, il6, il7, il9, il10, il12, il20, il36, il100, il999, il1728] at gc_1; try simp only [fa_lt, fa_le, fa_eq, il0, il1, il2, il3, il4, il5, il6, il7, il9, il10, il12, il20, il36, il100, il999, il1728] at gc_2; unfold bitX; first | rfl | (rw [if_pos (by simp only [fa_lt, fa_le, fa_eq, il0, il1, il2, il3, il4, il5, il6, il7, il9, il10, il12, il20, il36, il100, il999, il1728]; omega)]; done) | (rw [if_neg (by simp only [fa_lt, fa_le, fa_eq, il0, il1, il2, il3, il4, il5, il6, il7, il9, il10, il12, il20, il36, il100, il999, il1728]; omega)]; done))) dX0_bitOf_18
set_option maxHeartbeats 4000000 in
set_option maxRecDepth 100000 in
theorem c_bitCount (l : Launch) (D : va_G) (cs : Nat → ClassId) (H : Heap) (x : Int32) : Rd l D (Ty cs) 1 yJ6_bitCount_0f7a4 cJ6_bitCount_0f7a4 1 (some .int) H [.int x] (some (.int (bcX x))) := by
  refine rd_ent (by decide) (Nat.le_of_ble_eq_true rfl) ?_
  intro p e s m below meth c ls hx hb hr hml hown hts hlocks hl hH hK
  have hl : lv_has ls 1 [(0, .int x)] := hl
  refine lv_iload_n hx hb dJ6_bitCount_0f7a4_0 rfl (lv_at hl 0 rfl) ?_
  refine lv_iload_n hx hb dJ6_bitCount_0f7a4_1 rfl (lv_at hl 0 rfl) ?_
  refine lv_iconst (v := 1) hx hb dJ6_bitCount_0f7a4_2 (by first | decide | rfl) ?_
  refine lv_iushr hx hb dJ6_bitCount_0f7a4_3 rfl ?_
  refine lv_ldcw hx hb hown (hts (Cond.constant RJ6 265 (1431655765)) mw_10_1) dJ6_bitCount_0f7a4_4 ?_
  refine lv_iand hx hb dJ6_bitCount_0f7a4_7 ?_
  refine lv_isub hx hb dJ6_bitCount_0f7a4_8 ?_
  refine lv_rwi (y := bc1 x) (rfl) ?_
  refine lv_istore_n (lv' := [(0, .int (bc1 x))]) hx hb dJ6_bitCount_0f7a4_9 rfl hl (by decide) rfl (fun ls hl => ?_)
  refine lv_iload_n hx hb dJ6_bitCount_0f7a4_10 rfl (lv_at hl 0 rfl) ?_
  refine lv_ldcw hx hb hown (hts (Cond.constant RJ6 266 (858993459)) mw_10_2) dJ6_bitCount_0f7a4_11 ?_
  refine lv_iand hx hb dJ6_bitCount_0f7a4_14 ?_
  refine lv_iload_n hx hb dJ6_bitCount_0f7a4_15 rfl (lv_at hl 0 rfl) ?_
  refine lv_iconst (v := 2) hx hb dJ6_bitCount_0f7a4_16 (by first | decide | rfl) ?_
  refine lv_iushr hx hb dJ6_bitCount_0f7a4_17 rfl ?_
  refine lv_ldcw hx hb hown (hts (Cond.constant RJ6 266 (858993459)) mw_10_2) dJ6_bitCount_0f7a4_18 ?_
  refine lv_iand hx hb dJ6_bitCount_0f7a4_21 ?_
  refine lv_iadd hx hb dJ6_bitCount_0f7a4_22 ?_
  refine lv_rwi (y := bc2 (bc1 x)) (rfl) ?_
  refine lv_istore_n (lv' := [(0, .int (bc2 (bc1 x)))]) hx hb dJ6_bitCount_0f7a4_23 rfl hl (by decide) rfl (fun ls hl => ?_)
  refine lv_iload_n hx hb dJ6_bitCount_0f7a4_24 rfl (lv_at hl 0 rfl) ?_
  refine lv_iload_n hx hb dJ6_bitCount_0f7a4_25 rfl (lv_at hl 0 rfl) ?_
  refine lv_iconst (v := 4) hx hb dJ6_bitCount_0f7a4_26 (by first | decide | rfl) ?_
  refine lv_iushr hx hb dJ6_bitCount_0f7a4_27 rfl ?_
  refine lv_iadd hx hb dJ6_bitCount_0f7a4_28 ?_
  refine lv_ldcw hx hb hown (hts (Cond.constant RJ6 267 (252645135)) mw_10_3) dJ6_bitCount_0f7a4_29 ?_
  refine lv_iand hx hb dJ6_bitCount_0f7a4_32 ?_
  refine lv_rwi (y := bc3 (bc2 (bc1 x))) (rfl) ?_
  refine lv_istore_n (lv' := [(0, .int (bc3 (bc2 (bc1 x))))]) hx hb dJ6_bitCount_0f7a4_33 rfl hl (by decide) rfl (fun ls hl => ?_)
  refine lv_iload_n hx hb dJ6_bitCount_0f7a4_34 rfl (lv_at hl 0 rfl) ?_
  refine lv_iload_n hx hb dJ6_bitCount_0f7a4_35 rfl (lv_at hl 0 rfl) ?_
  refine lv_bipush (v := 8) hx hb dJ6_bitCount_0f7a4_36 (by first | decide | rfl) ?_
  refine lv_iushr hx hb dJ6_bitCount_0f7a4_38 rfl ?_
  refine lv_iadd hx hb dJ6_bitCount_0f7a4_39 ?_
  refine lv_rwi (y := bc4 (bc3 (bc2 (bc1 x)))) (rfl) ?_
  refine lv_istore_n (lv' := [(0, .int (bc4 (bc3 (bc2 (bc1 x)))))]) hx hb dJ6_bitCount_0f7a4_40 rfl hl (by decide) rfl (fun ls hl => ?_)
  refine lv_iload_n hx hb dJ6_bitCount_0f7a4_41 rfl (lv_at hl 0 rfl) ?_
  refine lv_iload_n hx hb dJ6_bitCount_0f7a4_42 rfl (lv_at hl 0 rfl) ?_
  refine lv_bipush (v := 16) hx hb dJ6_bitCount_0f7a4_43 (by first | decide | rfl) ?_
  refine lv_iushr hx hb dJ6_bitCount_0f7a4_45 rfl ?_
  refine lv_iadd hx hb dJ6_bitCount_0f7a4_46 ?_
  refine lv_rwi (y := bc5 (bc4 (bc3 (bc2 (bc1 x))))) (rfl) ?_
  refine lv_istore_n (lv' := [(0, .int (bc5 (bc4 (bc3 (bc2 (bc1 x))))))]) hx hb dJ6_bitCount_0f7a4_47 rfl hl (by decide) rfl (fun ls hl => ?_)
  refine lv_iload_n hx hb dJ6_bitCount_0f7a4_48 rfl (lv_at hl 0 rfl) ?_
  refine lv_bipush (v := 63) hx hb dJ6_bitCount_0f7a4_49 (by first | decide | rfl) ?_
  refine lv_iand hx hb dJ6_bitCount_0f7a4_51 ?_
  exact rd_iret hH hx hb hr hlocks (rfl) dJ6_bitCount_0f7a4_52
set_option maxHeartbeats 4000000 in
set_option maxRecDepth 100000 in
theorem c_holds0 (l : Launch) (D : va_G) (cs : Nat → ClassId) (H : Heap) {aD aS aF : Nat} {cnt : Int32} {N : Nat} {su fa : Nat → Int32} (hP : va_P D vwCl (wD cs aD aS aF cnt N su fa) H) (n : Int32) (o : Nat) (ho : o < 1728) : Rd l D (Ty cs) 2 yX0_holds cX0_holds 4 (some .boolean) H [.ref aD, .int 0, .int n, .int (nI o)] (some (.int (b2i (holdsX su fa 0 n o)))) := by
  refine rd_ent (by decide) (Nat.le_of_ble_eq_true rfl) ?_
  intro p e s m below meth c ls hx hb hr hml hown hts hlocks hl hH hK
  have hl : lv_has ls 4 [(0, .ref aD), (1, .int 0), (2, .int n), (3, .int (nI o))] := hl
  refine lv_iload_n hx hb dX0_holds_0 rfl (lv_at hl 1 rfl) ?_
  refine lv_tableIn (tgt := 36) (off := 35) hx hb dX0_holds_1 (by decide) (by decide) (by decide) (by decide) ?_
  refine lv_aload_n hx hb dX0_holds_36 rfl (lv_at hl 0 rfl) ?_
  refine va_get (D := D) (ci := 1) (v := .ref aS) (C := RX0) (T := TX0) (N := 4) hx hb hts inlX0 hown hK hP 0 rfl rfl 0 (by decide) (hts (Cond.fieldLink RX0 9 "TavernDice$Dice" "sums" "[I") mw_2_1) (fun _ h9 => h9) rfl dX0_holds_37 ?_
  refine lv_iload_n hx hb dX0_holds_40 rfl (lv_at hl 3 rfl) ?_
  refine va_iald hx hb hK hP 1 0 rfl rfl (vp_in_nI (by omega) (by omega)) dX0_holds_41 ?_
  refine lv_rwi (y := su o) (congrArg su (nI_clamp (by omega))) ?_
  refine lv_iload_n hx hb dX0_holds_42 rfl (lv_at hl 2 rfl) ?_
  refine lv_icmp_ne (tgt := 50) hx hb dX0_holds_43 (by decide) (fun c_1 => ?_) (fun c_1 => ?_)
  · refine lv_iconst (v := 0) hx hb dX0_holds_50 (by first | decide | rfl) ?_
    exact rd_zret hH hx hb hr hlocks (rb0 (show holdsX su fa 0 n o = false from by first | (simp [holdsX, c_1]; done) | (simp [holdsX, fa_of_nlt c_1]; done))) (by decide) dX0_holds_51
  · refine lv_iconst (v := 1) hx hb dX0_holds_46 (by first | decide | rfl) ?_
    refine lv_goto (tgt := 51) hx hb dX0_holds_47 (by decide) ?_
    exact rd_zret hH hx hb hr hlocks (rb1 (show holdsX su fa 0 n o = true from by first | (simp [holdsX, c_1]; done) | (simp [holdsX, fa_of_nlt c_1]; done))) (by decide) dX0_holds_51
set_option maxHeartbeats 4000000 in
set_option maxRecDepth 100000 in
theorem c_holds1 (l : Launch) (D : va_G) (cs : Nat → ClassId) (H : Heap) {aD aS aF : Nat} {cnt : Int32} {N : Nat} {su fa : Nat → Int32} (hP : va_P D vwCl (wD cs aD aS aF cnt N su fa) H) (n : Int32) (o : Nat) (ho : o < 1728) : Rd l D (Ty cs) 2 yX0_holds cX0_holds 4 (some .boolean) H [.ref aD, .int 1, .int n, .int (nI o)] (some (.int (b2i (holdsX su fa 1 n o)))) := by
  refine rd_ent (by decide) (Nat.le_of_ble_eq_true rfl) ?_
  intro p e s m below meth c ls hx hb hr hml hown hts hlocks hl hH hK
  have hl : lv_has ls 4 [(0, .ref aD), (1, .int 1), (2, .int n), (3, .int (nI o))] := hl
  refine lv_iload_n hx hb dX0_holds_0 rfl (lv_at hl 1 rfl) ?_
  refine lv_tableIn (tgt := 52) (off := 51) hx hb dX0_holds_1 (by decide) (by decide) (by decide) (by decide) ?_
  refine lv_aload_n hx hb dX0_holds_52 rfl (lv_at hl 0 rfl) ?_
  refine va_get (D := D) (ci := 1) (v := .ref aS) (C := RX0) (T := TX0) (N := 4) hx hb hts inlX0 hown hK hP 0 rfl rfl 0 (by decide) (hts (Cond.fieldLink RX0 9 "TavernDice$Dice" "sums" "[I") mw_2_1) (fun _ h9 => h9) rfl dX0_holds_53 ?_
  refine lv_iload_n hx hb dX0_holds_56 rfl (lv_at hl 3 rfl) ?_
  refine va_iald hx hb hK hP 1 0 rfl rfl (vp_in_nI (by omega) (by omega)) dX0_holds_57 ?_
  refine lv_rwi (y := su o) (congrArg su (nI_clamp (by omega))) ?_
  refine lv_iload_n hx hb dX0_holds_58 rfl (lv_at hl 2 rfl) ?_
  refine lv_icmp_lt (tgt := 66) hx hb dX0_holds_59 (by decide) (fun c_1 => ?_) (fun c_1 => ?_)
  · refine lv_iconst (v := 0) hx hb dX0_holds_66 (by first | decide | rfl) ?_
    exact rd_zret hH hx hb hr hlocks (rb0 (show holdsX su fa 1 n o = false from by first | (simp [holdsX, c_1]; done) | (simp [holdsX, fa_of_nlt c_1]; done))) (by decide) dX0_holds_67
  · refine lv_iconst (v := 1) hx hb dX0_holds_62 (by first | decide | rfl) ?_
    refine lv_goto (tgt := 67) hx hb dX0_holds_63 (by decide) ?_
    exact rd_zret hH hx hb hr hlocks (rb1 (show holdsX su fa 1 n o = true from by first | (simp [holdsX, c_1]; done) | (simp [holdsX, fa_of_nlt c_1]; done))) (by decide) dX0_holds_67
set_option maxHeartbeats 4000000 in
set_option maxRecDepth 100000 in
theorem c_holds2 (l : Launch) (D : va_G) (cs : Nat → ClassId) (H : Heap) {aD aS aF : Nat} {cnt : Int32} {N : Nat} {su fa : Nat → Int32} (hP : va_P D vwCl (wD cs aD aS aF cnt N su fa) H) (n : Int32) (o : Nat) (ho : o < 1728) : Rd l D (Ty cs) 2 yX0_holds cX0_holds 4 (some .boolean) H [.ref aD, .int 2, .int n, .int (nI o)] (some (.int (b2i (holdsX su fa 2 n o)))) := by
  refine rd_ent (by decide) (Nat.le_of_ble_eq_true rfl) ?_
  intro p e s m below meth c ls hx hb hr hml hown hts hlocks hl hH hK
  have hl : lv_has ls 4 [(0, .ref aD), (1, .int 2), (2, .int n), (3, .int (nI o))] := hl
  refine lv_iload_n hx hb dX0_holds_0 rfl (lv_at hl 1 rfl) ?_
  refine lv_tableIn (tgt := 68) (off := 67) hx hb dX0_holds_1 (by decide) (by decide) (by decide) (by decide) ?_
  refine lv_aload_n hx hb dX0_holds_68 rfl (lv_at hl 0 rfl) ?_
  refine va_get (D := D) (ci := 1) (v := .ref aS) (C := RX0) (T := TX0) (N := 4) hx hb hts inlX0 hown hK hP 0 rfl rfl 0 (by decide) (hts (Cond.fieldLink RX0 9 "TavernDice$Dice" "sums" "[I") mw_2_1) (fun _ h9 => h9) rfl dX0_holds_69 ?_
  refine lv_iload_n hx hb dX0_holds_72 rfl (lv_at hl 3 rfl) ?_
  refine va_iald hx hb hK hP 1 0 rfl rfl (vp_in_nI (by omega) (by omega)) dX0_holds_73 ?_
  refine lv_rwi (y := su o) (congrArg su (nI_clamp (by omega))) ?_
  refine lv_iconst (v := 2) hx hb dX0_holds_74 (by first | decide | rfl) ?_
  refine lv_irem hx hb dX0_holds_75 (by decide) ?_
  refine lv_iconst (v := 1) hx hb dX0_holds_76 (by first | decide | rfl) ?_
  refine lv_icmp_ne (tgt := 84) hx hb dX0_holds_77 (by decide) (fun c_1 => ?_) (fun c_1 => ?_)
  · refine lv_iconst (v := 0) hx hb dX0_holds_84 (by first | decide | rfl) ?_
    exact rd_zret hH hx hb hr hlocks (rb0 (show holdsX su fa 2 n o = false from by first | (simp [holdsX, c_1]; done) | (simp [holdsX, fa_of_nlt c_1]; done))) (by decide) dX0_holds_85
  · refine lv_iconst (v := 1) hx hb dX0_holds_80 (by first | decide | rfl) ?_
    refine lv_goto (tgt := 85) hx hb dX0_holds_81 (by decide) ?_
    exact rd_zret hH hx hb hr hlocks (rb1 (show holdsX su fa 2 n o = true from by first | (simp [holdsX, c_1]; done) | (simp [holdsX, fa_of_nlt c_1]; done))) (by decide) dX0_holds_85
set_option maxHeartbeats 4000000 in
set_option maxRecDepth 100000 in
theorem c_holds3 (l : Launch) (D : va_G) (cs : Nat → ClassId) (H : Heap) {aD aS aF : Nat} {cnt : Int32} {N : Nat} {su fa : Nat → Int32} (hP : va_P D vwCl (wD cs aD aS aF cnt N su fa) H) (n : Int32) (o : Nat) (ho : o < 1728) : Rd l D (Ty cs) 2 yX0_holds cX0_holds 4 (some .boolean) H [.ref aD, .int 3, .int n, .int (nI o)] (some (.int (b2i (holdsX su fa 3 n o)))) := by
  refine rd_ent (by decide) (Nat.le_of_ble_eq_true rfl) ?_
  intro p e s m below meth c ls hx hb hr hml hown hts hlocks hl hH hK
  have hl : lv_has ls 4 [(0, .ref aD), (1, .int 3), (2, .int n), (3, .int (nI o))] := hl
  refine lv_iload_n hx hb dX0_holds_0 rfl (lv_at hl 1 rfl) ?_
  refine lv_tableIn (tgt := 86) (off := 85) hx hb dX0_holds_1 (by decide) (by decide) (by decide) (by decide) ?_
  refine lv_aload_n hx hb dX0_holds_86 rfl (lv_at hl 0 rfl) ?_
  refine va_get (D := D) (ci := 1) (v := .ref aF) (C := RX0) (T := TX0) (N := 4) hx hb hts inlX0 hown hK hP 0 rfl rfl 1 (by decide) (hts (Cond.fieldLink RX0 15 "TavernDice$Dice" "faces" "[I") mw_2_2) (fun _ h9 => h9) rfl dX0_holds_87 ?_
  refine lv_iload_n hx hb dX0_holds_90 rfl (lv_at hl 3 rfl) ?_
  refine va_iald hx hb hK hP 2 0 rfl rfl (vp_in_nI (by omega) (by omega)) dX0_holds_91 ?_
  refine lv_rwi (y := fa o) (congrArg fa (nI_clamp (by omega))) ?_
  refine rdS (As := [.int (fa o)]) (rest := []) ⟨hx, hb, hml, hown, hts⟩ hK 1 (c_bitCount l D cs H (fa o)) (gin_s mw_9_21 mw_9_22 mw_9_23 mw_10_0) (by decide +kernel) ⟨Nat.le_of_ble_eq_true rfl, Nat.le_of_ble_eq_true rfl⟩ rfl hl.1 rfl (Nat.le_of_ble_eq_true rfl) dX0_holds_92 ⟨(Nat.zero_le _), (Nat.zero_le _)⟩ ?_
  refine W.eq (g2 := F0 m 95 ls [.int (bcX (fa o))]) rfl ?_
  refine lv_iconst (v := 1) hx hb dX0_holds_95 (by first | decide | rfl) ?_
  refine lv_icmp_ne (tgt := 103) hx hb dX0_holds_96 (by decide) (fun c_1 => ?_) (fun c_1 => ?_)
  · refine lv_iconst (v := 0) hx hb dX0_holds_103 (by first | decide | rfl) ?_
    exact rd_zret hH hx hb hr hlocks (rb0 (show holdsX su fa 3 n o = false from by first | (simp [holdsX, c_1]; done) | (simp [holdsX, fa_of_nlt c_1]; done))) (by decide) dX0_holds_104
  · refine lv_iconst (v := 1) hx hb dX0_holds_99 (by first | decide | rfl) ?_
    refine lv_goto (tgt := 104) hx hb dX0_holds_100 (by decide) ?_
    exact rd_zret hH hx hb hr hlocks (rb1 (show holdsX su fa 3 n o = true from by first | (simp [holdsX, c_1]; done) | (simp [holdsX, fa_of_nlt c_1]; done))) (by decide) dX0_holds_104
set_option maxHeartbeats 4000000 in
set_option maxRecDepth 100000 in
theorem c_holds4 (l : Launch) (D : va_G) (cs : Nat → ClassId) (H : Heap) {aD aS aF : Nat} {cnt : Int32} {N : Nat} {su fa : Nat → Int32} (hP : va_P D vwCl (wD cs aD aS aF cnt N su fa) H) (n : Int32) (o : Nat) (ho : o < 1728) : Rd l D (Ty cs) 2 yX0_holds cX0_holds 4 (some .boolean) H [.ref aD, .int 4, .int n, .int (nI o)] (some (.int (b2i (holdsX su fa 4 n o)))) := by
  refine rd_ent (by decide) (Nat.le_of_ble_eq_true rfl) ?_
  intro p e s m below meth c ls hx hb hr hml hown hts hlocks hl hH hK
  have hl : lv_has ls 4 [(0, .ref aD), (1, .int 4), (2, .int n), (3, .int (nI o))] := hl
  refine lv_iload_n hx hb dX0_holds_0 rfl (lv_at hl 1 rfl) ?_
  refine lv_tableIn (tgt := 105) (off := 104) hx hb dX0_holds_1 (by decide) (by decide) (by decide) (by decide) ?_
  refine lv_aload_n hx hb dX0_holds_105 rfl (lv_at hl 0 rfl) ?_
  refine va_get (D := D) (ci := 1) (v := .ref aF) (C := RX0) (T := TX0) (N := 4) hx hb hts inlX0 hown hK hP 0 rfl rfl 1 (by decide) (hts (Cond.fieldLink RX0 15 "TavernDice$Dice" "faces" "[I") mw_2_2) (fun _ h9 => h9) rfl dX0_holds_106 ?_
  refine lv_iload_n hx hb dX0_holds_109 rfl (lv_at hl 3 rfl) ?_
  refine va_iald hx hb hK hP 2 0 rfl rfl (vp_in_nI (by omega) (by omega)) dX0_holds_110 ?_
  refine lv_rwi (y := fa o) (congrArg fa (nI_clamp (by omega))) ?_
  refine lv_iload_n hx hb dX0_holds_111 rfl (lv_at hl 2 rfl) ?_
  refine rdS (As := [.int n]) (rest := [.int (fa o)]) ⟨hx, hb, hml, hown, hts⟩ hK 1 (c_bitOf l D cs H n) (gin_s mw_2_17 mw_2_18 mw_1_13 mw_2_19) (by decide +kernel) ⟨Nat.le_of_ble_eq_true rfl, Nat.le_of_ble_eq_true rfl⟩ rfl hl.1 rfl (Nat.le_of_ble_eq_true rfl) dX0_holds_112 ⟨(Nat.zero_le _), (Nat.zero_le _)⟩ ?_
  refine W.eq (g2 := F0 m 115 ls [.int (bitX n), .int (fa o)]) rfl ?_
  refine lv_iand hx hb dX0_holds_115 ?_
  refine lv_if_eq (tgt := 123) hx hb dX0_holds_116 (by decide) (fun c_1 => ?_) (fun c_1 => ?_)
  · refine lv_iconst (v := 0) hx hb dX0_holds_123 (by first | decide | rfl) ?_
    exact rd_zret hH hx hb hr hlocks (rb0 (show holdsX su fa 4 n o = false from by first | (simp [holdsX, c_1]; done) | (simp [holdsX, fa_of_nlt c_1]; done))) (by decide) dX0_holds_124
  · refine lv_iconst (v := 1) hx hb dX0_holds_119 (by first | decide | rfl) ?_
    refine lv_goto (tgt := 124) hx hb dX0_holds_120 (by decide) ?_
    exact rd_zret hH hx hb hr hlocks (rb1 (show holdsX su fa 4 n o = true from by first | (simp [holdsX, c_1]; done) | (simp [holdsX, fa_of_nlt c_1]; done))) (by decide) dX0_holds_124
theorem c_holds (l : Launch) (D : va_G) (cs : Nat → ClassId) (H : Heap) {aD aS aF : Nat} {cnt : Int32} {N : Nat} {su fa : Nat → Int32} (hP : va_P D vwCl (wD cs aD aS aF cnt N su fa) H) (k : Nat) (hk : k < 5) (n : Int32) (o : Nat) (ho : o < 1728) : Rd l D (Ty cs) 2 yX0_holds cX0_holds 4 (some .boolean) H [.ref aD, .int (nI k), .int n, .int (nI o)] (some (.int (b2i (holdsX su fa k n o)))) := by
  match k, hk with
  | 0, _ => exact c_holds0 l D cs H hP n o ho
  | 1, _ => exact c_holds1 l D cs H hP n o ho
  | 2, _ => exact c_holds2 l D cs H hP n o ho
  | 3, _ => exact c_holds3 l D cs H hP n o ho
  | 4, _ => exact c_holds4 l D cs H hP n o ho
  | k + 5, h => exact absurd h (by omega)
set_option maxHeartbeats 4000000 in
set_option maxRecDepth 100000 in
theorem c_comes (l : Launch) (D : va_G) (cs : Nat → ClassId) (H : Heap) {aD aS aF : Nat} {cnt : Int32} {N : Nat} {su fa : Nat → Int32} (hP : va_P D vwCl (wD cs aD aS aF cnt N su fa) H) (k : Nat) (hk : k < 10) (n : Int32) (o : Nat) (ho : o < 1728) : Rd l D (Ty cs) 3 yX0_comes cX0_comes 4 (some .boolean) H [.ref aD, .int (nI k), .int n, .int (nI o)] (some (.int (b2i (comesX su fa k n o)))) := by
  refine rd_ent (by decide) (Nat.le_of_ble_eq_true rfl) ?_
  intro p e s m below meth c ls hx hb hr hml hown hts hlocks hl hH hK
  have hl : lv_has ls 4 [(0, .ref aD), (1, .int (nI k)), (2, .int n), (3, .int (nI o))] := hl
  refine lv_iload_n hx hb dX0_comes_0 rfl (lv_at hl 1 rfl) ?_
  refine lv_iconst (v := nI 5) hx hb dX0_comes_1 (by first | decide | rfl) ?_
  refine lv_icmp_lt (tgt := 23) hx hb dX0_comes_2 (by decide) (fun c_1 => ?_) (fun c_1 => ?_)
  · refine lv_aload_n hx hb dX0_comes_23 rfl (lv_at hl 0 rfl) ?_
    refine lv_iload_n hx hb dX0_comes_24 rfl (lv_at hl 1 rfl) ?_
    refine lv_iload_n hx hb dX0_comes_25 rfl (lv_at hl 2 rfl) ?_
    refine lv_iload_n hx hb dX0_comes_26 rfl (lv_at hl 3 rfl) ?_
    refine rdV (As := [.int (nI k), .int n, .int (nI o)]) (rest := []) (b := aD) ⟨hx, hb, hml, hown, hts⟩ hK 3 (c_holds l D cs H hP k (by have g := (nI_ltI (by omega) (by omega)).mp c_1; omega) n o ho) (gin_v mw_9_17 mw_9_18 mw_9_19 mw_1_13 mw_9_20) (by decide +kernel) ⟨Nat.le_of_ble_eq_true rfl, Nat.le_of_ble_eq_true rfl⟩ (va_recv hK hP (ci := 1) (q0 := 0) rfl rfl) rfl hl.1 rfl (Nat.le_of_ble_eq_true rfl) dX0_comes_27 ⟨(Nat.zero_le _), (Nat.zero_le _)⟩ ?_
    refine W.eq (g2 := F0 m 30 ls [.int (b2i (holdsX su fa k n o))]) rfl ?_
    exact rd_zret hH hx hb hr hlocks (by rw [comesX_lt (by have g := (nI_ltI (by omega) (by omega)).mp c_1; omega)]) (b2i_z _) dX0_comes_30
  · refine lv_aload_n hx hb dX0_comes_5 rfl (lv_at hl 0 rfl) ?_
    refine lv_iload_n hx hb dX0_comes_6 rfl (lv_at hl 1 rfl) ?_
    refine lv_iconst (v := nI 5) hx hb dX0_comes_7 (by first | decide | rfl) ?_
    refine lv_isub hx hb dX0_comes_8 ?_
    refine lv_rwi (y := nI (k - 5)) (pk_sub (by have g : ¬ k < 5 := fun z => c_1 ((nI_ltI (by omega) (by omega)).mpr z); omega)) ?_
    refine lv_iload_n hx hb dX0_comes_9 rfl (lv_at hl 2 rfl) ?_
    refine lv_iload_n hx hb dX0_comes_10 rfl (lv_at hl 3 rfl) ?_
    refine rdV (As := [.int (nI (k - 5)), .int n, .int (nI o)]) (rest := []) (b := aD) ⟨hx, hb, hml, hown, hts⟩ hK 3 (c_holds l D cs H hP (k - 5) (by have g : ¬ k < 5 := fun z => c_1 ((nI_ltI (by omega) (by omega)).mpr z); omega) n o ho) (gin_v mw_9_17 mw_9_18 mw_9_19 mw_1_13 mw_9_20) (by decide +kernel) ⟨Nat.le_of_ble_eq_true rfl, Nat.le_of_ble_eq_true rfl⟩ (va_recv hK hP (ci := 1) (q0 := 0) rfl rfl) rfl hl.1 rfl (Nat.le_of_ble_eq_true rfl) dX0_comes_11 ⟨(Nat.zero_le _), (Nat.zero_le _)⟩ ?_
    refine W.eq (g2 := F0 m 14 ls [.int (b2i (holdsX su fa (k - 5) n o))]) rfl ?_
    refine lv_if_ne (tgt := 21) hx hb dX0_comes_14 (by decide) (fun c_2 => ?_) (fun c_2 => ?_)
    · refine lv_iconst (v := 0) hx hb dX0_comes_21 (by first | decide | rfl) ?_
      exact rd_zret hH hx hb hr hlocks (rb0 (by rw [comesX_ge (by exact fun z => c_1 ((nI_ltI (by omega) (by omega)).mpr z)), (b2i_ne0 _).mp c_2]; rfl)) (by decide) dX0_comes_22
    · refine lv_iconst (v := 1) hx hb dX0_comes_17 (by first | decide | rfl) ?_
      refine lv_goto (tgt := 22) hx hb dX0_comes_18 (by decide) ?_
      exact rd_zret hH hx hb hr hlocks (rb1 (by rw [comesX_ge (by exact fun z => c_1 ((nI_ltI (by omega) (by omega)).mpr z)), (b2i_eq0 _).mp c_2]; rfl)) (by decide) dX0_comes_22
set_option maxHeartbeats 4000000 in
set_option maxRecDepth 100000 in
theorem c_countWays (l : Launch) (D : va_G) (cs : Nat → ClassId) (H : Heap) {aD aS aF : Nat} {cnt : Int32} {N : Nat} {su fa : Nat → Int32} (hP : va_P D vwCl (wD cs aD aS aF cnt N su fa) H) (hN : N ≤ 1728) (k : Nat) (hk : k < 10) (n : Int32) : Rd l D (Ty cs) 4 yX0_countWays cX0_countWays 5 (some .int) H [.ref aD, .int (nI k), .int n] (some (.int (nI (cn (comesX su fa k n) N)))) := by
  refine rd_ent (by decide) (Nat.le_of_ble_eq_true rfl) ?_
  intro p e s m below meth c ls hx hb hr hml hown hts hlocks hl hH hK
  have hl : lv_has ls 5 [(0, .ref aD), (1, .int (nI k)), (2, .int n)] := hl
  refine lv_iconst (v := nI 0) hx hb dX0_countWays_0 (by first | decide | rfl) ?_
  refine lv_istore_n (lv' := [(3, .int (nI 0)), (0, .ref aD), (1, .int (nI k)), (2, .int n)]) hx hb dX0_countWays_1 rfl hl (by decide) rfl (fun ls hl => ?_)
  refine lv_iconst (v := nI 0) hx hb dX0_countWays_2 (by first | decide | rfl) ?_
  refine lv_istore (lv' := [(4, .int (nI 0)), (3, .int (nI 0)), (0, .ref aD), (1, .int (nI k)), (2, .int n)]) hx hb dX0_countWays_3 hl (by decide) rfl (fun ls hl => ?_)
  have loop5 : ∀ (n9 : Nat) (i : Nat) (ls : Array Slot), i ≤ N → N + 1 ≤ i + n9 → lv_has ls 5 [(0, .ref aD), (1, .int (nI k)), (2, .int n), (3, .int (nI (cn (comesX su fa k n) i))), (4, .int (nI i))] → RdW p l e 4 s m [.ref aD, .int (nI k), .int n] below meth c H (some (.int (nI (cn (comesX su fa k n) N)))) (F0 m 5 ls []) := by
    intro n9
    induction n9 with
    | zero => intro i  ls hi hf hl; exact absurd hf (by omega)
    | succ n9 ih5 =>
      intro i  ls hi hf hl
      refine lv_iload hx hb dX0_countWays_5 (lv_at hl 4 rfl) ?_
      refine lv_aload_n hx hb dX0_countWays_7 rfl (lv_at hl 0 rfl) ?_
      refine va_get (D := D) (ci := 1) (v := .int (nI N)) (C := RX0) (T := TX0) (N := 4) hx hb hts inlX0 hown hK hP 0 rfl rfl 3 (by decide) (hts (Cond.fieldLink RX0 26 "TavernDice$Dice" "outcomes" "I") mw_2_8) (fun _ h9 => h9) rfl dX0_countWays_8 ?_
      refine lv_icmp_ge (tgt := 34) hx hb dX0_countWays_11 (by decide) (fun c_1 => ?_) (fun c_1 => ?_)
      · refine lv_iload_n hx hb dX0_countWays_34 rfl (lv_at hl 3 rfl) ?_
        exact rd_iret hH hx hb hr hlocks (rv (by rw [show i = N from by have g := (nI_leI (by omega) (by omega)).mp c_1; omega])) dX0_countWays_35
      · have hlt : i < N := by
          rcases Nat.lt_or_ge i N with q | q
          · exact q
          · exact absurd (nI_le q (by omega)) c_1
        refine lv_aload_n hx hb dX0_countWays_14 rfl (lv_at hl 0 rfl) ?_
        refine lv_iload_n hx hb dX0_countWays_15 rfl (lv_at hl 1 rfl) ?_
        refine lv_iload_n hx hb dX0_countWays_16 rfl (lv_at hl 2 rfl) ?_
        refine lv_iload hx hb dX0_countWays_17 (lv_at hl 4 rfl) ?_
        refine rdV (As := [.int (nI k), .int n, .int (nI i)]) (rest := []) (b := aD) ⟨hx, hb, hml, hown, hts⟩ hK 3 (c_comes l D cs H hP k hk n i (by omega)) (gin_v mw_11_11 mw_9_14 mw_9_15 mw_1_13 mw_9_16) (by decide +kernel) ⟨Nat.le_of_ble_eq_true rfl, Nat.le_of_ble_eq_true rfl⟩ (va_recv hK hP (ci := 1) (q0 := 0) rfl rfl) rfl hl.1 rfl (Nat.le_of_ble_eq_true rfl) dX0_countWays_19 ⟨(Nat.zero_le _), (Nat.zero_le _)⟩ ?_
        refine W.eq (g2 := F0 m 22 ls [.int (b2i (comesX su fa k n i))]) rfl ?_
        refine lv_if_eq (tgt := 28) hx hb dX0_countWays_22 (by decide) (fun c_2 => ?_) (fun c_2 => ?_)
        · have hl : lv_has ls 5 [(0, .ref aD), (1, .int (nI k)), (2, .int n), (3, .int (nI (cn (comesX su fa k n) (i + 1)))), (4, .int (nI i))] := by rw [cn_f ((b2i_eq0 _).mp c_2)]; exact hl
          refine lv_iinc (v := nI (i + 1)) (lv' := [(4, .int (nI (i + 1))), (0, .ref aD), (1, .int (nI k)), (2, .int n), (3, .int (nI (cn (comesX su fa k n) (i + 1))))]) hx hb dX0_countWays_28 hl (k := 4) rfl (nI_1 i) (by decide) rfl (fun ls hl => ?_)
          refine lv_goto (tgt := 5) hx hb dX0_countWays_31 (by decide) ?_
          exact ih5 (i + 1) ls (by omega) (by omega) (lv_sub hl [1, 2, 3, 4, 0] rfl)
        · refine lv_iinc (v := nI (cn (comesX su fa k n) (i + 1))) (lv' := [(3, .int (nI (cn (comesX su fa k n) (i + 1)))), (0, .ref aD), (1, .int (nI k)), (2, .int n), (4, .int (nI i))]) hx hb dX0_countWays_25 hl (k := 3) rfl (by rw [cn_t ((b2i_ne0 _).mp c_2)]; exact nI_1 _) (by decide) rfl (fun ls hl => ?_)
          refine lv_iinc (v := nI (i + 1)) (lv' := [(4, .int (nI (i + 1))), (3, .int (nI (cn (comesX su fa k n) (i + 1)))), (0, .ref aD), (1, .int (nI k)), (2, .int n)]) hx hb dX0_countWays_28 hl (k := 4) rfl (nI_1 i) (by decide) rfl (fun ls hl => ?_)
          refine lv_goto (tgt := 5) hx hb dX0_countWays_31 (by decide) ?_
          exact ih5 (i + 1) ls (by omega) (by omega) (lv_sub hl [2, 3, 4, 1, 0] rfl)
  exact loop5 (N + 1) 0 ls (Nat.zero_le _) (by omega) (lv_sub hl [2, 3, 4, 1, 0] rfl)
set_option maxHeartbeats 4000000 in
set_option maxRecDepth 100000 in
theorem c_gainOver (l : Launch) (D : va_G) (cs : Nat → ClassId) (H : Heap) {aD aS aF : Nat} {cnt : Int32} {N : Nat} {su fa : Nat → Int32} (hP : va_P D vwCl (wD cs aD aS aF cnt N su fa) H) (sk br ws : Int32) : Rd l D (Ty cs) 1 yX0_gainOver cX0_gainOver 4 (some .int) H [.ref aD, .int sk, .int br, .int ws] (some (.int (sk * (nI N - ws) - br * ws))) := by
  refine rd_ent (by decide) (Nat.le_of_ble_eq_true rfl) ?_
  intro p e s m below meth c ls hx hb hr hml hown hts hlocks hl hH hK
  have hl : lv_has ls 4 [(0, .ref aD), (1, .int sk), (2, .int br), (3, .int ws)] := hl
  refine lv_iload_n hx hb dX0_gainOver_0 rfl (lv_at hl 1 rfl) ?_
  refine lv_aload_n hx hb dX0_gainOver_1 rfl (lv_at hl 0 rfl) ?_
  refine va_get (D := D) (ci := 1) (v := .int (nI N)) (C := RX0) (T := TX0) (N := 4) hx hb hts inlX0 hown hK hP 0 rfl rfl 3 (by decide) (hts (Cond.fieldLink RX0 26 "TavernDice$Dice" "outcomes" "I") mw_2_8) (fun _ h9 => h9) rfl dX0_gainOver_2 ?_
  refine lv_iload_n hx hb dX0_gainOver_5 rfl (lv_at hl 3 rfl) ?_
  refine lv_isub hx hb dX0_gainOver_6 ?_
  refine lv_imul hx hb dX0_gainOver_7 ?_
  refine lv_iload_n hx hb dX0_gainOver_8 rfl (lv_at hl 2 rfl) ?_
  refine lv_iload_n hx hb dX0_gainOver_9 rfl (lv_at hl 3 rfl) ?_
  refine lv_imul hx hb dX0_gainOver_10 ?_
  refine lv_isub hx hb dX0_gainOver_11 ?_
  exact rd_iret hH hx hb hr hlocks (rfl) dX0_gainOver_12
