/-! the class: what it reads; rows by program -/
set_option maxHeartbeats 4000000 in
set_option maxRecDepth 100000 in
theorem c_isDie (l : Launch) (D : va_G) (cs : Nat → ClassId) (H : Heap) (f : Int32) : Rd l D (Ty cs) 1 yX2_isDie cX2_isDie 1 (some .boolean) H [.int f] (some (.int (b2i (dieX f)))) := by
  refine rd_ent (by decide) (Nat.le_of_ble_eq_true rfl) ?_
  intro p e s m below meth c ls hx hb hr hml hown hts hlocks hl hH hK
  have hl : lv_has ls 1 [(0, .int f)] := hl
  refine lv_iload_n hx hb dX2_isDie_0 rfl (lv_at hl 0 rfl) ?_
  refine lv_iconst (v := 2) hx hb dX2_isDie_1 (by first | decide | rfl) ?_
  refine lv_icmp_lt (tgt := 15) hx hb dX2_isDie_2 (by decide) (fun c_1 => ?_) (fun c_1 => ?_)
  · refine lv_iconst (v := 0) hx hb dX2_isDie_15 (by first | decide | rfl) ?_
    exact rd_zret hH hx hb hr hlocks (rb0 (show dieX f = false from by simp only [dieX]; rw [decide_eq_false_iff_not]; have gc_1 := c_1; try simp only [fa_lt, fa_le, fa_eq, il0, il1, il2, il3, il4, il5, il6, il7, il9, il10, il12, il20, il36, il100, il999, il1728] at gc_1; simp only [fa_lt, fa_le, fa_eq, il0, il1, il2, il3, il4, il5, il6, il7, il9, il10, il12, il20, il36, il100, il999, il1728]; omega)) (by decide) dX2_isDie_16
  · refine lv_iload_n hx hb dX2_isDie_5 rfl (lv_at hl 0 rfl) ?_
    refine lv_bipush (v := 12) hx hb dX2_isDie_6 (by first | decide | rfl) ?_
    refine lv_icmp_gt (tgt := 15) hx hb dX2_isDie_8 (by decide) (fun c_2 => ?_) (fun c_2 => ?_)
    · refine lv_iconst (v := 0) hx hb dX2_isDie_15 (by first | decide | rfl) ?_
      exact rd_zret hH hx hb hr hlocks (rb0 (show dieX f = false from by simp only [dieX]; rw [decide_eq_false_iff_not]; have gc_1 := c_1; have gc_2 := c_2; try simp only [fa_lt, fa_le, fa_eq, il0, il1, il2, il3, il4, il5, il6, il7, il9, il10, il12, il20, il36, il100, il999, il1728] at gc_1; try simp only [fa_lt, fa_le, fa_eq, il0, il1, il2, il3, il4, il5, il6, il7, il9, il10, il12, il20, il36, il100, il999, il1728] at gc_2; simp only [fa_lt, fa_le, fa_eq, il0, il1, il2, il3, il4, il5, il6, il7, il9, il10, il12, il20, il36, il100, il999, il1728]; omega)) (by decide) dX2_isDie_16
    · refine lv_iconst (v := 1) hx hb dX2_isDie_11 (by first | decide | rfl) ?_
      refine lv_goto (tgt := 16) hx hb dX2_isDie_12 (by decide) ?_
      exact rd_zret hH hx hb hr hlocks (rb1 (show dieX f = true from by simp only [dieX]; rw [decide_eq_true_iff]; have gc_1 := c_1; have gc_2 := c_2; try simp only [fa_lt, fa_le, fa_eq, il0, il1, il2, il3, il4, il5, il6, il7, il9, il10, il12, il20, il36, il100, il999, il1728] at gc_1; try simp only [fa_lt, fa_le, fa_eq, il0, il1, il2, il3, il4, il5, il6, il7, il9, il10, il12, il20, il36, il100, il999, il1728] at gc_2; simp only [fa_lt, fa_le, fa_eq, il0, il1, il2, il3, il4, il5, il6, il7, il9, il10, il12, il20, il36, il100, il999, il1728]; omega)) (by decide) dX2_isDie_16
set_option maxHeartbeats 4000000 in
set_option maxRecDepth 100000 in
theorem c_isDieOrNone (l : Launch) (D : va_G) (cs : Nat → ClassId) (H : Heap) (f : Int32) : Rd l D (Ty cs) 2 yX2_isDieOrNone cX2_isDieOrNone 1 (some .boolean) H [.int f] (some (.int (b2i (dieNX f)))) := by
  refine rd_ent (by decide) (Nat.le_of_ble_eq_true rfl) ?_
  intro p e s m below meth c ls hx hb hr hml hown hts hlocks hl hH hK
  have hl : lv_has ls 1 [(0, .int f)] := hl
  refine lv_iload_n hx hb dX2_isDieOrNone_0 rfl (lv_at hl 0 rfl) ?_
  refine lv_if_eq (tgt := 11) hx hb dX2_isDieOrNone_1 (by decide) (fun c_1 => ?_) (fun c_1 => ?_)
  · refine lv_iconst (v := 1) hx hb dX2_isDieOrNone_11 (by first | decide | rfl) ?_
    refine lv_goto (tgt := 16) hx hb dX2_isDieOrNone_12 (by decide) ?_
    exact rd_zret hH hx hb hr hlocks (rb1 (by simp [dieNX, c_1])) (by decide) dX2_isDieOrNone_16
  · refine lv_iload_n hx hb dX2_isDieOrNone_4 rfl (lv_at hl 0 rfl) ?_
    refine rdS (As := [.int f]) (rest := []) ⟨hx, hb, hml, hown, hts⟩ hK 1 (c_isDie l D cs H f) (gin_s mw_5_11 mw_5_12 mw_1_2 mw_5_13) (by decide +kernel) ⟨Nat.le_of_ble_eq_true rfl, Nat.le_of_ble_eq_true rfl⟩ rfl hl.1 rfl (Nat.le_of_ble_eq_true rfl) dX2_isDieOrNone_5 ⟨(Nat.zero_le _), (Nat.zero_le _)⟩ ?_
    refine W.eq (g2 := F0 m 8 ls [.int (b2i (dieX f))]) rfl ?_
    refine lv_if_eq (tgt := 15) hx hb dX2_isDieOrNone_8 (by decide) (fun c_2 => ?_) (fun c_2 => ?_)
    · refine lv_iconst (v := 0) hx hb dX2_isDieOrNone_15 (by first | decide | rfl) ?_
      exact rd_zret hH hx hb hr hlocks (rb0 (by simp [dieNX, c_1, (b2i_eq0 _).mp c_2])) (by decide) dX2_isDieOrNone_16
    · refine lv_iconst (v := 1) hx hb dX2_isDieOrNone_11 (by first | decide | rfl) ?_
      refine lv_goto (tgt := 16) hx hb dX2_isDieOrNone_12 (by decide) ?_
      exact rd_zret hH hx hb hr hlocks (rb1 (by simp [dieNX, (b2i_ne0 _).mp c_2])) (by decide) dX2_isDieOrNone_16
set_option maxHeartbeats 4000000 in
set_option maxRecDepth 100000 in
theorem c_broughtBy (l : Launch) (D : va_G) (cs : Nat → ClassId) (H : Heap) (sk wn bs : Int32) : Rd l D (Ty cs) 1 yX2_broughtBy cX2_broughtBy 3 (some .int) H [.int sk, .int wn, .int bs] (some (.int (brX sk wn bs))) := by
  refine rd_ent (by decide) (Nat.le_of_ble_eq_true rfl) ?_
  intro p e s m below meth c ls hx hb hr hml hown hts hlocks hl hH hK
  have hl : lv_has ls 3 [(0, .int sk), (1, .int wn), (2, .int bs)] := hl
  refine lv_iload_n hx hb dX2_broughtBy_0 rfl (lv_at hl 2 rfl) ?_
  refine lv_iconst (v := 1) hx hb dX2_broughtBy_1 (by first | decide | rfl) ?_
  refine lv_icmp_ge (tgt := 9) hx hb dX2_broughtBy_2 (by decide) (fun c_1 => ?_) (fun c_1 => ?_)
  · refine lv_iload_n hx hb dX2_broughtBy_9 rfl (lv_at hl 0 rfl) ?_
    refine lv_iload_n hx hb dX2_broughtBy_10 rfl (lv_at hl 1 rfl) ?_
    refine lv_imul hx hb dX2_broughtBy_11 ?_
    refine lv_iload_n hx hb dX2_broughtBy_12 rfl (lv_at hl 2 rfl) ?_
    refine lv_idiv hx hb dX2_broughtBy_13 (by have g := c_1; intro z; rw [z] at g; exact absurd g (by decide)) ?_
    exact rd_iret hH hx hb hr hlocks (rv (by have gc_1 := c_1; try simp only [fa_lt, fa_le, fa_eq, il0, il1, il2, il3, il4, il5, il6, il7, il9, il10, il12, il20, il36, il100, il999, il1728] at gc_1; unfold brX; first | rfl | (rw [if_pos (by simp only [fa_lt, fa_le, fa_eq, il0, il1, il2, il3, il4, il5, il6, il7, il9, il10, il12, il20, il36, il100, il999, il1728]; omega)]; done) | (rw [if_neg (by simp only [fa_lt, fa_le, fa_eq, il0, il1, il2, il3, il4, il5, il6, il7, il9, il10, il12, il20, il36, il100, il999, il1728]; omega)]; done))) dX2_broughtBy_14
  · refine lv_iconst (v := 0) hx hb dX2_broughtBy_5 (by first | decide | rfl) ?_
    refine lv_goto (tgt := 14) hx hb dX2_broughtBy_6 (by decide) ?_
    exact rd_iret hH hx hb hr hlocks (rv (by have gc_1 := c_1; try simp only [fa_lt, fa_le, fa_eq, il0, il1, il2, il3, il4, il5, il6, il7, il9, il10, il12, il20, il36, il100, il999, il1728] at gc_1; unfold brX; first | rfl | (rw [if_pos (by simp only [fa_lt, fa_le, fa_eq, il0, il1, il2, il3, il4, il5, il6, il7, il9, il10, il12, il20, il36, il100, il999, il1728]; omega)]; done) | (rw [if_neg (by simp only [fa_lt, fa_le, fa_eq, il0, il1, il2, il3, il4, il5, il6, il7, il9, il10, il12, il20, il36, il100, il999, il1728]; omega)]; done))) dX2_broughtBy_14
set_option maxHeartbeats 4000000 in
set_option maxRecDepth 100000 in
theorem c_digested (l : Launch) (D : va_G) (cs : Nat → ClassId) (H : Heap) (x y : Int64) : Rd l D (Ty cs) 1 yX2_digested cX2_digested 4 (some .long) H [.long x, .long y] (some (.long (x * 31 + y))) := by
  refine rd_ent (by decide) (Nat.le_of_ble_eq_true rfl) ?_
  intro p e s m below meth c ls hx hb hr hml hown hts hlocks hl hH hK
  have hl : lv_has ls 4 [(0, .long x), (2, .long y)] := hl
  refine lv_lload_n hx hb dX2_digested_0 rfl (lv_at hl 0 rfl) ?_
  refine lv_ldc2 hx hb hown (hts (Cond.constantLong RX2 230 (31)) mw_14_10) dX2_digested_1 ?_
  refine lv_lmul hx hb dX2_digested_4 ?_
  refine lv_lload_n hx hb dX2_digested_5 rfl (lv_at hl 1 rfl) ?_
  refine lv_ladd hx hb dX2_digested_6 ?_
  exact rd_lret hH hx hb hr hlocks (rfl) dX2_digested_7
set_option maxHeartbeats 4000000 in
set_option maxRecDepth 100000 in
theorem c_commonDivisor (l : Launch) (D : va_G) (cs : Nat → ClassId) (H : Heap) (t b : Int32) : Rd l D (Ty cs) 1 yX2_commonDivisor cX2_commonDivisor 6 (some .int) H [.int t, .int b] (some (.int (cdX t b))) := by
  refine rd_ent (by decide) (Nat.le_of_ble_eq_true rfl) ?_
  intro p e s m below meth c ls hx hb hr hml hown hts hlocks hl hH hK
  have hl : lv_has ls 6 [(0, .int t), (1, .int b)] := hl
  refine lv_iload_n hx hb dX2_commonDivisor_0 rfl (lv_at hl 0 rfl) ?_
  refine va_mabs hx hb (hml.trans hl.1.symm) hown (hts (Cond.methodLink RX2 248 Lib.Math.abs.name) mw_16_7) (hts (Cond.static Lib.Math.abs.name) mw_16_8) (hts (Cond.initialized "java/lang/Math") mw_2_11) (hts (Cond.code Lib.Math.abs.name Lib.Math.abs.code 1 (some .int)) mw_16_9) (Nat.le_of_ble_eq_true rfl) (Nat.le_of_ble_eq_true rfl) (Nat.zero_le _) (Nat.zero_le _) dX2_commonDivisor_1 ?_
  refine lv_rwi (y := absI t) (rfl) ?_
  refine lv_istore_n (lv' := [(2, .int (absI t)), (0, .int t), (1, .int b)]) hx hb dX2_commonDivisor_4 rfl hl (by decide) rfl (fun ls hl => ?_)
  refine lv_iload_n hx hb dX2_commonDivisor_5 rfl (lv_at hl 2 rfl) ?_
  refine lv_istore_n (lv' := [(3, .int b), (2, .int (absI t)), (0, .int t), (1, .int b)]) hx hb dX2_commonDivisor_6 rfl hl (by decide) rfl (fun ls hl => ?_)
  refine lv_iconst (v := nI 0) hx hb dX2_commonDivisor_7 (by first | decide | rfl) ?_
  refine lv_istore (lv' := [(4, .int (nI 0)), (3, .int b), (2, .int (absI t)), (0, .int t), (1, .int b)]) hx hb dX2_commonDivisor_8 hl (by decide) rfl (fun ls hl => ?_)
  have loop10 : ∀ (n9 : Nat) (i : Nat) (a9 b9 : Int32) (ls : Array Slot), i ≤ 64 → 65 ≤ i + n9 → euI (64 - i) a9 b9 = euI 64 (absI t) b → lv_has ls 6 [(0, .int t), (1, .int b), (2, .int a9), (3, .int b9), (4, .int (nI i))] → RdW p l e 1 s m [.int t, .int b] below meth c H (some (.int (cdX t b))) (F0 m 10 ls []) := by
    intro n9
    induction n9 with
    | zero => intro i  a9 b9  ls hi hf hE hl; exact absurd hf (by omega)
    | succ n9 ih10 =>
      intro i  a9 b9  ls hi hf hE hl
      refine lv_iload_n hx hb dX2_commonDivisor_10 rfl (lv_at hl 3 rfl) ?_
      refine lv_if_eq (tgt := 37) hx hb dX2_commonDivisor_11 (by decide) (fun c_1 => ?_) (fun c_1 => ?_)
      · have hE2 : euI 64 (absI t) b = a9 := by rw [← hE, c_1, euI_0]
        refine lv_iload_n hx hb dX2_commonDivisor_37 rfl (lv_at hl 2 rfl) ?_
        refine lv_iconst (v := 1) hx hb dX2_commonDivisor_38 (by first | decide | rfl) ?_
        refine va_mmax hx hb (hml.trans hl.1.symm) hown (hts (Cond.methodLink RX2 251 Lib.Math.max.name) mw_16_10) (hts (Cond.static Lib.Math.max.name) mw_12_18) (hts (Cond.initialized "java/lang/Math") mw_2_11) (hts (Cond.code Lib.Math.max.name Lib.Math.max.code 2 (some .int)) mw_12_19) (Nat.le_of_ble_eq_true rfl) (Nat.le_of_ble_eq_true rfl) (Nat.zero_le _) (Nat.zero_le _) dX2_commonDivisor_39 ?_
        exact rd_iret hH hx hb hr hlocks (rv (by unfold cdX; rw [hE2])) dX2_commonDivisor_42
      · refine lv_iload hx hb dX2_commonDivisor_14 (lv_at hl 4 rfl) ?_
        refine lv_bipush (v := nI 64) hx hb dX2_commonDivisor_16 (by first | decide | rfl) ?_
        refine lv_icmp_ge (tgt := 37) hx hb dX2_commonDivisor_18 (by decide) (fun c_2 => ?_) (fun c_2 => ?_)
        · have hE2 : euI 64 (absI t) b = a9 := by
            have g := (nI_leI (a := 64) (by omega) (by omega)).mp c_2
            rw [← hE, show i = 64 by omega]; rfl
          refine lv_iload_n hx hb dX2_commonDivisor_37 rfl (lv_at hl 2 rfl) ?_
          refine lv_iconst (v := 1) hx hb dX2_commonDivisor_38 (by first | decide | rfl) ?_
          refine va_mmax hx hb (hml.trans hl.1.symm) hown (hts (Cond.methodLink RX2 251 Lib.Math.max.name) mw_16_10) (hts (Cond.static Lib.Math.max.name) mw_12_18) (hts (Cond.initialized "java/lang/Math") mw_2_11) (hts (Cond.code Lib.Math.max.name Lib.Math.max.code 2 (some .int)) mw_12_19) (Nat.le_of_ble_eq_true rfl) (Nat.le_of_ble_eq_true rfl) (Nat.zero_le _) (Nat.zero_le _) dX2_commonDivisor_39 ?_
          exact rd_iret hH hx hb hr hlocks (rv (by unfold cdX; rw [hE2])) dX2_commonDivisor_42
        · have hlt : i < 64 := by
            rcases Nat.lt_or_ge i 64 with q | q
            · exact q
            · exact absurd (nI_le q (by omega)) c_2
          refine lv_iload_n hx hb dX2_commonDivisor_21 rfl (lv_at hl 2 rfl) ?_
          refine lv_iload_n hx hb dX2_commonDivisor_22 rfl (lv_at hl 3 rfl) ?_
          refine lv_irem hx hb dX2_commonDivisor_23 (c_1) ?_
          refine lv_istore (lv' := [(5, .int (a9 - a9 / b9 * b9)), (0, .int t), (1, .int b), (2, .int a9), (3, .int b9), (4, .int (nI i))]) hx hb dX2_commonDivisor_24 hl (by decide) rfl (fun ls hl => ?_)
          refine lv_iload_n hx hb dX2_commonDivisor_26 rfl (lv_at hl 4 rfl) ?_
          refine lv_istore_n (lv' := [(2, .int b9), (5, .int (a9 - a9 / b9 * b9)), (0, .int t), (1, .int b), (3, .int b9), (4, .int (nI i))]) hx hb dX2_commonDivisor_27 rfl hl (by decide) rfl (fun ls hl => ?_)
          refine lv_iload hx hb dX2_commonDivisor_28 (lv_at hl 1 rfl) ?_
          refine lv_istore_n (lv' := [(3, .int (a9 - a9 / b9 * b9)), (2, .int b9), (5, .int (a9 - a9 / b9 * b9)), (0, .int t), (1, .int b), (4, .int (nI i))]) hx hb dX2_commonDivisor_30 rfl hl (by decide) rfl (fun ls hl => ?_)
          refine lv_iinc (v := nI (i + 1)) (lv' := [(4, .int (nI (i + 1))), (3, .int (a9 - a9 / b9 * b9)), (2, .int b9), (5, .int (a9 - a9 / b9 * b9)), (0, .int t), (1, .int b)]) hx hb dX2_commonDivisor_31 hl (k := 5) rfl (nI_1 i) (by decide) rfl (fun ls hl => ?_)
          refine lv_goto (tgt := 10) hx hb dX2_commonDivisor_34 (by decide) ?_
          exact ih10 (i + 1) b9 (a9 - a9 / b9 * b9) ls (by omega) (by omega) (by rw [← euI_s hlt c_1]; exact hE) (lv_sub hl [4, 5, 2, 1, 0] rfl)
  exact loop10 65 0 (absI t) b ls (Nat.zero_le _) (by omega) rfl (lv_sub hl [3, 4, 2, 1, 0] rfl)
set_option maxHeartbeats 4000000 in
set_option maxRecDepth 100000 in
theorem c_size (l : Launch) (D : va_G) (cs : Nat → ClassId) (H : Heap) {aL aE : Nat} {mcn : Int32} {n : Nat} (hP : va_P D vwCl [(aL, .inr (0, [.int mcn, .ref aE, .int (nI n)]))] H) : Rd l D (Ty cs) 1 yJx4a65c_size_8abf5 cJx4a65c_size_8abf5 1 (some .int) H [.ref aL] (some (.int (nI n))) := by
  refine rd_ent (by decide) (Nat.le_of_ble_eq_true rfl) ?_
  intro p e s m below meth c ls hx hb hr hml hown hts hlocks hl hH hK
  have hl : lv_has ls 1 [(0, .ref aL)] := hl
  refine lv_aload_n hx hb dJx4a65c_size_8abf5_0 rfl (lv_at hl 0 rfl) ?_
  refine va_get (D := D) (ci := 0) (v := .int (nI n)) (C := RJx4a65c) (T := TJx4a65c) (N := 3) hx hb hts inlJx4a65c hown hK hP 0 rfl rfl 2 (by decide) (hts (Cond.fieldLink RJx4a65c 48 "java/util/ArrayList" "size" "I") mw_5_21) (fun _ h9 => h9) rfl dJx4a65c_size_8abf5_1 ?_
  exact rd_iret hH hx hb hr hlocks (rfl) dJx4a65c_size_8abf5_4
set_option maxHeartbeats 4000000 in
set_option maxRecDepth 100000 in
theorem c_isEmpty (l : Launch) (D : va_G) (cs : Nat → ClassId) (H : Heap) {aL aE : Nat} {mcn : Int32} {n : Nat} (hn : n < 2 ^ 31) (hP : va_P D vwCl [(aL, .inr (0, [.int mcn, .ref aE, .int (nI n)]))] H) : Rd l D (Ty cs) 1 yJx4a65c_isEmpty_aae02 cJx4a65c_isEmpty_aae02 1 (some .boolean) H [.ref aL] (some (.int (b2i (decide (n = 0))))) := by
  refine rd_ent (by decide) (Nat.le_of_ble_eq_true rfl) ?_
  intro p e s m below meth c ls hx hb hr hml hown hts hlocks hl hH hK
  have hl : lv_has ls 1 [(0, .ref aL)] := hl
  refine lv_aload_n hx hb dJx4a65c_isEmpty_aae02_0 rfl (lv_at hl 0 rfl) ?_
  refine va_get (D := D) (ci := 0) (v := .int (nI n)) (C := RJx4a65c) (T := TJx4a65c) (N := 3) hx hb hts inlJx4a65c hown hK hP 0 rfl rfl 2 (by decide) (hts (Cond.fieldLink RJx4a65c 48 "java/util/ArrayList" "size" "I") mw_5_21) (fun _ h9 => h9) rfl dJx4a65c_isEmpty_aae02_1 ?_
  refine lv_if_ne (tgt := 11) hx hb dJx4a65c_isEmpty_aae02_4 (by decide) (fun c_1 => ?_) (fun c_1 => ?_)
  · refine lv_iconst (v := 0) hx hb dJx4a65c_isEmpty_aae02_11 (by first | decide | rfl) ?_
    exact rd_zret hH hx hb hr hlocks (rb0 (decide_eq_false (fun z => c_1 ((nI_eq (b := 0) hn (by omega)).mpr z)))) (by decide) dJx4a65c_isEmpty_aae02_12
  · refine lv_iconst (v := 1) hx hb dJx4a65c_isEmpty_aae02_7 (by first | decide | rfl) ?_
    refine lv_goto (tgt := 12) hx hb dJx4a65c_isEmpty_aae02_8 (by decide) ?_
    exact rd_zret hH hx hb hr hlocks (rb1 (decide_eq_true ((nI_eq (b := 0) hn (by omega)).mp c_1))) (by decide) dJx4a65c_isEmpty_aae02_12
set_option maxHeartbeats 4000000 in
set_option maxRecDepth 100000 in
theorem c_pcheckIndex (l : Launch) (D : va_G) (cs : Nat → ClassId) (H : Heap) (i n : Nat) (hi : i < n) (hn : n < 2 ^ 31) : Rd l D (Ty cs) 1 yJ3_checkIndex_8e157 cJ3_checkIndex_8e157 3 (some .int) H [.int (nI i), .int (nI n), .null] (some (.int (nI i))) := by
  refine rd_ent (by decide) (Nat.le_of_ble_eq_true rfl) ?_
  intro p e s m below meth c ls hx hb hr hml hown hts hlocks hl hH hK
  have hl : lv_has ls 3 [(0, .int (nI i)), (1, .int (nI n)), (2, .null)] := hl
  refine lv_iload_n hx hb dJ3_checkIndex_8e157_0 rfl (lv_at hl 0 rfl) ?_
  refine lv_if_lt (tgt := 9) hx hb dJ3_checkIndex_8e157_1 (by decide) (fun c_1 => False.elim (absurd c_1 (nI_pos (by omega)))) (fun c_1 => ?_)
  refine lv_iload_n hx hb dJ3_checkIndex_8e157_4 rfl (lv_at hl 0 rfl) ?_
  refine lv_iload_n hx hb dJ3_checkIndex_8e157_5 rfl (lv_at hl 1 rfl) ?_
  refine lv_icmp_lt (tgt := 16) hx hb dJ3_checkIndex_8e157_6 (by decide) (fun c_2 => ?_) (fun c_2 => False.elim (absurd (nI_lt hi hn) c_2))
  refine lv_iload_n hx hb dJ3_checkIndex_8e157_16 rfl (lv_at hl 0 rfl) ?_
  exact rd_iret hH hx hb hr hlocks (rfl) dJ3_checkIndex_8e157_17
set_option maxHeartbeats 4000000 in
set_option maxRecDepth 100000 in
theorem c_checkIndex (l : Launch) (D : va_G) (cs : Nat → ClassId) (H : Heap) (i n : Nat) (hi : i < n) (hn : n < 2 ^ 31) : Rd l D (Ty cs) 2 yJ15_checkIndex_7cf53 cJ15_checkIndex_7cf53 2 (some .int) H [.int (nI i), .int (nI n)] (some (.int (nI i))) := by
  refine rd_ent (by decide) (Nat.le_of_ble_eq_true rfl) ?_
  intro p e s m below meth c ls hx hb hr hml hown hts hlocks hl hH hK
  have hl : lv_has ls 2 [(0, .int (nI i)), (1, .int (nI n))] := hl
  refine lv_iload_n hx hb dJ15_checkIndex_7cf53_0 rfl (lv_at hl 0 rfl) ?_
  refine lv_iload_n hx hb dJ15_checkIndex_7cf53_1 rfl (lv_at hl 1 rfl) ?_
  refine lv_null hx hb dJ15_checkIndex_7cf53_2 ?_
  refine rdS (As := [.int (nI i), .int (nI n), .null]) (rest := []) ⟨hx, hb, hml, hown, hts⟩ hK 3 (c_pcheckIndex l D cs H i n hi hn) (gin_s mw_7_3 mw_7_4 mw_7_5 mw_7_6) (by decide +kernel) ⟨Nat.le_of_ble_eq_true rfl, Nat.le_of_ble_eq_true rfl⟩ rfl hl.1 rfl (Nat.le_of_ble_eq_true rfl) dJ15_checkIndex_7cf53_3 ⟨(Nat.zero_le _), (Nat.zero_le _)⟩ ?_
  refine W.eq (g2 := F0 m 6 ls [.int (nI i)]) rfl ?_
  exact rd_iret hH hx hb hr hlocks (rfl) dJ15_checkIndex_7cf53_6
set_option maxHeartbeats 4000000 in
set_option maxRecDepth 100000 in
theorem c_elementData (l : Launch) (D : va_G) (cs : Nat → ClassId) (H : Heap) {aL aE : Nat} {mcn : Int32} {n : Nat} (hP : va_P D vwCl [(aL, .inr (0, [.int mcn, .ref aE, .int (nI n)]))] H) {cap : Nat} {rf : Nat → Option Nat} (hE : va_P D vwCl [(aE, .inl (cs 2, cap, .inr (.inr (.inr (.inr rf)))))] H) (i : Nat) (hi : i < cap) (hcap : cap < 2 ^ 31) {b : Nat} (hb9 : rf i = some b) : Rd l D (Ty cs) 1 yJx4a65c_elementData_915e3 cJx4a65c_elementData_915e3 2 (some (.object "java/lang/Object")) H [.ref aL, .int (nI i)] (some (.ref b)) := by
  refine rd_ent (by decide) (Nat.le_of_ble_eq_true rfl) ?_
  intro p e s m below meth c ls hx hb hr hml hown hts hlocks hl hH hK
  have hl : lv_has ls 2 [(0, .ref aL), (1, .int (nI i))] := hl
  refine lv_aload_n hx hb dJx4a65c_elementData_915e3_0 rfl (lv_at hl 0 rfl) ?_
  refine va_get (D := D) (ci := 0) (v := .ref aE) (C := RJx4a65c) (T := TJx4a65c) (N := 3) hx hb hts inlJx4a65c hown hK hP 0 rfl rfl 1 (by decide) (hts (Cond.fieldLink RJx4a65c 9 "java/util/ArrayList" "elementData" "[Ljava/lang/Object;") mw_3_0) (fun _ h9 => h9) rfl dJx4a65c_elementData_915e3_1 ?_
  refine lv_iload_n hx hb dJx4a65c_elementData_915e3_4 rfl (lv_at hl 1 rfl) ?_
  refine va_aldq hx hb hK hE 0 2 rfl rfl (vp_in_nI hi hcap) dJx4a65c_elementData_915e3_5 ?_
  refine lv_rwv (y := .ref b) (by rw [nI_clamp (by omega), hb9]; rfl) ?_
  exact rd_aret hH hx hb hr hlocks (Or.inl ⟨_, rfl⟩) (Or.inr ⟨_, rfl⟩) (rfl) dJx4a65c_elementData_915e3_6
set_option maxHeartbeats 4000000 in
set_option maxRecDepth 100000 in
theorem c_get (l : Launch) (D : va_G) (cs : Nat → ClassId) (H : Heap) {aL aE : Nat} {mcn : Int32} {n : Nat} (hP : va_P D vwCl [(aL, .inr (0, [.int mcn, .ref aE, .int (nI n)]))] H) {cap : Nat} {rf : Nat → Option Nat} (hE : va_P D vwCl [(aE, .inl (cs 2, cap, .inr (.inr (.inr (.inr rf)))))] H) (i : Nat) (hi : i < n) (hi2 : i < cap) (hcap : cap < 2 ^ 31) (hn9 : n < 2 ^ 31) {b : Nat} (hb9 : rf i = some b) : Rd l D (Ty cs) 3 yJx4a65c_get_915e3 cJx4a65c_get_915e3 2 (some (.object "java/lang/Object")) H [.ref aL, .int (nI i)] (some (.ref b)) := by
  refine rd_ent (by decide) (Nat.le_of_ble_eq_true rfl) ?_
  intro p e s m below meth c ls hx hb hr hml hown hts hlocks hl hH hK
  have hl : lv_has ls 2 [(0, .ref aL), (1, .int (nI i))] := hl
  refine lv_iload_n hx hb dJx4a65c_get_915e3_0 rfl (lv_at hl 1 rfl) ?_
  refine lv_aload_n hx hb dJx4a65c_get_915e3_1 rfl (lv_at hl 0 rfl) ?_
  refine va_get (D := D) (ci := 0) (v := .int (nI n)) (C := RJx4a65c) (T := TJx4a65c) (N := 3) hx hb hts inlJx4a65c hown hK hP 0 rfl rfl 2 (by decide) (hts (Cond.fieldLink RJx4a65c 48 "java/util/ArrayList" "size" "I") mw_5_21) (fun _ h9 => h9) rfl dJx4a65c_get_915e3_2 ?_
  refine rdS (As := [.int (nI i), .int (nI n)]) (rest := []) ⟨hx, hb, hml, hown, hts⟩ hK 2 (c_checkIndex l D cs H i n hi hn9) (gin_s mw_6_23 mw_7_0 mw_7_1 mw_7_2) (by decide +kernel) ⟨Nat.le_of_ble_eq_true rfl, Nat.le_of_ble_eq_true rfl⟩ rfl hl.1 rfl (Nat.le_of_ble_eq_true rfl) dJx4a65c_get_915e3_5 ⟨(Nat.zero_le _), (Nat.zero_le _)⟩ ?_
  refine W.eq (g2 := F0 m 8 ls [.int (nI i)]) rfl ?_
  refine lv_pop hx hb dJx4a65c_get_915e3_8 rfl ?_
  refine lv_aload_n hx hb dJx4a65c_get_915e3_9 rfl (lv_at hl 0 rfl) ?_
  refine lv_iload_n hx hb dJx4a65c_get_915e3_10 rfl (lv_at hl 1 rfl) ?_
  refine rdV (As := [.int (nI i)]) (rest := []) (b := aL) ⟨hx, hb, hml, hown, hts⟩ hK 1 (c_elementData l D cs H hP hE i hi2 hcap hb9) (gin_v mw_9_9 mw_9_10 mw_9_11 mw_1_17 mw_9_12) (by decide +kernel) ⟨Nat.le_of_ble_eq_true rfl, Nat.le_of_ble_eq_true rfl⟩ (va_recv hK hP (ci := 0) (q0 := 0) rfl rfl) rfl hl.1 rfl (Nat.le_of_ble_eq_true rfl) dJx4a65c_get_915e3_11 ⟨(Nat.zero_le _), (Nat.zero_le _)⟩ ?_
  refine W.eq (g2 := F0 m 14 ls [.ref b]) rfl ?_
  exact rd_aret hH hx hb hr hlocks (Or.inl ⟨_, rfl⟩) (Or.inr ⟨_, rfl⟩) (rfl) dJx4a65c_get_915e3_14
set_option maxHeartbeats 4000000 in
set_option maxRecDepth 100000 in
theorem c_gainOverOutcomes (l : Launch) (D : va_G) (cs : Nat → ClassId) (H : Heap) {ad : Nat → Nat} {bank rnds cnt mcn : Int32} {N n cap : Nat} {su fa pu : Nat → Int32} {rf : Nat → Option Nat} {wa : Nat → Nat} {wf : Nat → Nat → Int32} {kd : Nat → Nat} (RR : RX D cs H ad bank rnds cnt mcn N n cap su fa pu rf wa wf kd) (i : Nat) (hlt : i < n) : Rd l D (Ty cs) 2 yX2_gainOverOutcomes cX2_gainOverOutcomes 2 (some .int) H [.ref (ad 0), .ref (wa i)] (some (.int (goX N wf i))) := by
  refine rd_ent (by decide) (Nat.le_of_ble_eq_true rfl) ?_
  intro p e s m below meth c ls hx hb hr hml hown hts hlocks hl hH hK
  have hl : lv_has ls 2 [(0, .ref (ad 0)), (1, .ref (wa i))] := hl
  have RR0 := RR
  obtain ⟨hP, hG, hN1, hN, hn, hcap⟩ := RR
  refine lv_aload_n hx hb dX2_gainOverOutcomes_0 rfl (lv_at hl 0 rfl) ?_
  refine va_get (D := D) (ci := 3) (v := .ref (ad 1)) (C := RX2) (T := TX2) (N := 5) hx hb hts inlX2 hown hK hP 0 rfl rfl 0 (by decide) (hts (Cond.fieldLink RX2 12 "TavernDice" "dice" "LTavernDice$Dice;") mw_1_14) (fun _ h9 => h9) rfl dX2_gainOverOutcomes_1 ?_
  refine lv_aload_n hx hb dX2_gainOverOutcomes_4 rfl (lv_at hl 1 rfl) ?_
  refine va_get (D := D) (ci := 2) (v := .int (wf i 3)) (C := RX1) (T := TX1) (N := 6) hx hb hts inlX1 hown hK (hG i hlt).1 0 rfl rfl 3 (by decide) (hts (Cond.fieldLink RX2 121 "TavernDice$Wager" "stake" "I") mw_6_8) (fun _ h9 => h9) rfl dX2_gainOverOutcomes_5 ?_
  refine lv_aload_n hx hb dX2_gainOverOutcomes_8 rfl (lv_at hl 1 rfl) ?_
  refine va_get (D := D) (ci := 2) (v := .int (wf i 4)) (C := RX1) (T := TX1) (N := 6) hx hb hts inlX1 hown hK (hG i hlt).1 0 rfl rfl 4 (by decide) (hts (Cond.fieldLink RX2 140 "TavernDice$Wager" "brings" "I") mw_9_4) (fun _ h9 => h9) rfl dX2_gainOverOutcomes_9 ?_
  refine lv_aload_n hx hb dX2_gainOverOutcomes_12 rfl (lv_at hl 1 rfl) ?_
  refine va_get (D := D) (ci := 2) (v := .int (wf i 5)) (C := RX1) (T := TX1) (N := 6) hx hb hts inlX1 hown hK (hG i hlt).1 0 rfl rfl 5 (by decide) (hts (Cond.fieldLink RX2 242 "TavernDice$Wager" "ways" "I") mw_15_19) (fun _ h9 => h9) rfl dX2_gainOverOutcomes_13 ?_
  refine rdV (As := [.int (wf i 3), .int (wf i 4), .int (wf i 5)]) (rest := []) (b := ad 1) ⟨hx, hb, hml, hown, hts⟩ hK 3 (c_gainOver l D cs H (hP.sub [1, 2, 3] rfl) (wf i 3) (wf i 4) (wf i 5)) (gin_v mw_15_20 mw_15_21 mw_15_22 mw_1_13 mw_15_23) (by decide +kernel) ⟨Nat.le_of_ble_eq_true rfl, Nat.le_of_ble_eq_true rfl⟩ (va_recv hK hP (ci := 1) (q0 := 1) rfl rfl) rfl hl.1 rfl (Nat.le_of_ble_eq_true rfl) dX2_gainOverOutcomes_16 ⟨(Nat.zero_le _), (Nat.zero_le _)⟩ ?_
  refine W.eq (g2 := F0 m 19 ls [.int ((wf i 3) * (nI N - (wf i 5)) - (wf i 4) * (wf i 5))]) rfl ?_
  exact rd_iret hH hx hb hr hlocks (rfl) dX2_gainOverOutcomes_19
set_option maxHeartbeats 4000000 in
set_option maxRecDepth 100000 in
theorem c_gainOfAll (l : Launch) (D : va_G) (cs : Nat → ClassId) (H : Heap) {ad : Nat → Nat} {bank rnds cnt mcn : Int32} {N n cap : Nat} {su fa pu : Nat → Int32} {rf : Nat → Option Nat} {wa : Nat → Nat} {wf : Nat → Nat → Int32} {kd : Nat → Nat} (RR : RX D cs H ad bank rnds cnt mcn N n cap su fa pu rf wa wf kd) (o : Nat) (ho : o < 1728) : Rd l D (Ty cs) 4 yX2_gainOfAll cX2_gainOfAll 5 (some .int) H [.ref (ad 0), .int (nI o)] (some (.int (sm (gnX su fa wf kd o) n))) := by
  refine rd_ent (by decide) (Nat.le_of_ble_eq_true rfl) ?_
  intro p e s m below meth c ls hx hb hr hml hown hts hlocks hl hH hK
  have hl : lv_has ls 5 [(0, .ref (ad 0)), (1, .int (nI o))] := hl
  have RR0 := RR
  obtain ⟨hP, hG, hN1, hN, hn, hcap⟩ := RR
  refine lv_iconst (v := sm (gnX su fa wf kd o) 0) hx hb dX2_gainOfAll_0 (by first | decide | rfl) ?_
  refine lv_istore_n (lv' := [(2, .int (sm (gnX su fa wf kd o) 0)), (0, .ref (ad 0)), (1, .int (nI o))]) hx hb dX2_gainOfAll_1 rfl hl (by decide) rfl (fun ls hl => ?_)
  refine lv_iconst (v := nI 0) hx hb dX2_gainOfAll_2 (by first | decide | rfl) ?_
  refine lv_istore_n (lv' := [(3, .int (nI 0)), (2, .int (sm (gnX su fa wf kd o) 0)), (0, .ref (ad 0)), (1, .int (nI o))]) hx hb dX2_gainOfAll_3 rfl hl (by decide) rfl (fun ls hl => ?_)
  have loop4 : ∀ (n9 : Nat) (i : Nat) (ls : Array Slot), i ≤ n → n + 1 ≤ i + n9 → lv_has ls 5 [(0, .ref (ad 0)), (1, .int (nI o)), (2, .int (sm (gnX su fa wf kd o) i)), (3, .int (nI i))] → RdW p l e 4 s m [.ref (ad 0), .int (nI o)] below meth c H (some (.int (sm (gnX su fa wf kd o) n))) (F0 m 4 ls []) := by
    intro n9
    induction n9 with
    | zero => intro i  ls hi hf hl; exact absurd hf (by omega)
    | succ n9 ih4 =>
      intro i  ls hi hf hl
      refine lv_iload_n hx hb dX2_gainOfAll_4 rfl (lv_at hl 3 rfl) ?_
      refine lv_aload_n hx hb dX2_gainOfAll_5 rfl (lv_at hl 0 rfl) ?_
      refine va_get (D := D) (ci := 3) (v := .ref (ad 2)) (C := RX2) (T := TX2) (N := 5) hx hb hts inlX2 hown hK hP 0 rfl rfl 1 (by decide) (hts (Cond.fieldLink RX2 19 "TavernDice" "wagers" "Ljava/util/ArrayList;") mw_1_18) (fun _ h9 => h9) rfl dX2_gainOfAll_6 ?_
      refine rdV (As := []) (rest := [.int (nI i)]) (b := ad 2) ⟨hx, hb, hml, hown, hts⟩ hK 0 (c_size l D cs H (hP.sub [4] rfl)) (gin_v mw_6_15 mw_6_16 mw_6_17 mw_1_17 mw_6_18) (by decide +kernel) ⟨Nat.le_of_ble_eq_true rfl, Nat.le_of_ble_eq_true rfl⟩ (va_recv hK hP (ci := 0) (q0 := 4) rfl rfl) rfl hl.1 rfl (Nat.le_of_ble_eq_true rfl) dX2_gainOfAll_9 ⟨(Nat.zero_le _), (Nat.zero_le _)⟩ ?_
      refine W.eq (g2 := F0 m 12 ls [.int (nI n), .int (nI i)]) rfl ?_
      refine lv_icmp_ge (tgt := 72) hx hb dX2_gainOfAll_12 (by decide) (fun c_1 => ?_) (fun c_1 => ?_)
      · refine lv_iload_n hx hb dX2_gainOfAll_72 rfl (lv_at hl 2 rfl) ?_
        exact rd_iret hH hx hb hr hlocks (rv (by rw [show i = n from (by have g := (nI_leI (by omega) (by omega)).mp c_1; omega)])) dX2_gainOfAll_73
      · have hlt : i < n := by
          rcases Nat.lt_or_ge i n with q | q
          · exact q
          · exact absurd (nI_le q (by omega)) c_1
        refine lv_aload_n hx hb dX2_gainOfAll_15 rfl (lv_at hl 0 rfl) ?_
        refine va_get (D := D) (ci := 3) (v := .ref (ad 2)) (C := RX2) (T := TX2) (N := 5) hx hb hts inlX2 hown hK hP 0 rfl rfl 1 (by decide) (hts (Cond.fieldLink RX2 19 "TavernDice" "wagers" "Ljava/util/ArrayList;") mw_1_18) (fun _ h9 => h9) rfl dX2_gainOfAll_16 ?_
        refine lv_iload_n hx hb dX2_gainOfAll_19 rfl (lv_at hl 3 rfl) ?_
        refine rdV (As := [.int (nI i)]) (rest := []) (b := ad 2) ⟨hx, hb, hml, hown, hts⟩ hK 1 (c_get l D cs H (hP.sub [4] rfl) (hG i hlt).2.1 i hlt (hG i hlt).2.2.2.2.2 (by omega) (by omega) (hG i hlt).2.2.1) (gin_v mw_9_5 mw_9_6 mw_9_7 mw_1_17 mw_9_8) (by decide +kernel) ⟨Nat.le_of_ble_eq_true rfl, Nat.le_of_ble_eq_true rfl⟩ (va_recv hK hP (ci := 0) (q0 := 4) rfl rfl) rfl hl.1 rfl (Nat.le_of_ble_eq_true rfl) dX2_gainOfAll_20 ⟨(Nat.zero_le _), (Nat.zero_le _)⟩ ?_
        refine W.eq (g2 := F0 m 23 ls [.ref (wa i)]) rfl ?_
        refine va_castSelf hx hb hown (hts (Cond.classLink RX2 98 RX1) mw_10_16) (va_recv hK (hG i hlt).1 (ci := 2) (q0 := 0) rfl rfl) dX2_gainOfAll_23 ?_
        refine lv_astore (lv' := [(4, .ref (wa i)), (0, .ref (ad 0)), (1, .int (nI o)), (2, .int (sm (gnX su fa wf kd o) i)), (3, .int (nI i))]) hx hb dX2_gainOfAll_26 hl (by decide) rfl (fun ls hl => ?_)
        refine lv_iload_n hx hb dX2_gainOfAll_28 rfl (lv_at hl 3 rfl) ?_
        refine lv_aload_n hx hb dX2_gainOfAll_29 rfl (lv_at hl 1 rfl) ?_
        refine va_get (D := D) (ci := 3) (v := .ref (ad 1)) (C := RX2) (T := TX2) (N := 5) hx hb hts inlX2 hown hK hP 0 rfl rfl 0 (by decide) (hts (Cond.fieldLink RX2 12 "TavernDice" "dice" "LTavernDice$Dice;") mw_1_14) (fun _ h9 => h9) rfl dX2_gainOfAll_30 ?_
        refine lv_aload hx hb dX2_gainOfAll_33 (lv_at hl 0 rfl) ?_
        refine va_get (D := D) (ci := 2) (v := .int (wf i 1)) (C := RX1) (T := TX1) (N := 6) hx hb hts inlX1 hown hK (hG i hlt).1 0 rfl rfl 1 (by decide) (hts (Cond.fieldLink RX2 232 "TavernDice$Wager" "kind" "I") mw_9_2) (fun _ h9 => h9) rfl dX2_gainOfAll_35 ?_
        refine lv_rwi (y := nI (kd i)) ((hG i hlt).2.2.2.1) ?_
        refine lv_aload hx hb dX2_gainOfAll_38 (lv_at hl 0 rfl) ?_
        refine va_get (D := D) (ci := 2) (v := .int (wf i 2)) (C := RX1) (T := TX1) (N := 6) hx hb hts inlX1 hown hK (hG i hlt).1 0 rfl rfl 2 (by decide) (hts (Cond.fieldLink RX2 235 "TavernDice$Wager" "number" "I") mw_9_3) (fun _ h9 => h9) rfl dX2_gainOfAll_40 ?_
        refine lv_iload_n hx hb dX2_gainOfAll_43 rfl (lv_at hl 2 rfl) ?_
        refine rdV (As := [.int (nI (kd i)), .int (wf i 2), .int (nI o)]) (rest := [.int (sm (gnX su fa wf kd o) i)]) (b := ad 1) ⟨hx, hb, hml, hown, hts⟩ hK 3 (c_comes l D cs H (hP.sub [1, 2, 3] rfl) ((kd i)) ((hG i hlt).2.2.2.2.1) (wf i 2) o (by omega)) (gin_v mw_9_13 mw_9_14 mw_9_15 mw_1_13 mw_9_16) (by decide +kernel) ⟨Nat.le_of_ble_eq_true rfl, Nat.le_of_ble_eq_true rfl⟩ (va_recv hK hP (ci := 1) (q0 := 1) rfl rfl) rfl hl.1 rfl (Nat.le_of_ble_eq_true rfl) dX2_gainOfAll_44 ⟨(Nat.zero_le _), (Nat.zero_le _)⟩ ?_
        refine W.eq (g2 := F0 m 47 ls [.int (b2i (comesX su fa ((kd i)) (wf i 2) o)), .int (sm (gnX su fa wf kd o) i)]) rfl ?_
        refine lv_if_eq (tgt := 59) hx hb dX2_gainOfAll_47 (by decide) (fun c_2 => ?_) (fun c_2 => ?_)
        · refine lv_aload hx hb dX2_gainOfAll_59 (lv_at hl 0 rfl) ?_
          refine va_get (D := D) (ci := 2) (v := .int (wf i 3)) (C := RX1) (T := TX1) (N := 6) hx hb hts inlX1 hown hK (hG i hlt).1 0 rfl rfl 3 (by decide) (hts (Cond.fieldLink RX2 121 "TavernDice$Wager" "stake" "I") mw_6_8) (fun _ h9 => h9) rfl dX2_gainOfAll_61 ?_
          refine lv_iadd hx hb dX2_gainOfAll_64 ?_
          refine lv_rwi (y := sm (gnX su fa wf kd o) (i + 1)) (by show _ = sm _ i + gnX su fa wf kd o i; unfold gnX; rw [(b2i_eq0 _).mp c_2]; rfl) ?_
          refine lv_istore_n (lv' := [(2, .int (sm (gnX su fa wf kd o) (i + 1))), (4, .ref (wa i)), (0, .ref (ad 0)), (1, .int (nI o)), (3, .int (nI i))]) hx hb dX2_gainOfAll_65 rfl hl (by decide) rfl (fun ls hl => ?_)
          refine lv_iinc (v := nI (i + 1)) (lv' := [(3, .int (nI (i + 1))), (2, .int (sm (gnX su fa wf kd o) (i + 1))), (4, .ref (wa i)), (0, .ref (ad 0)), (1, .int (nI o))]) hx hb dX2_gainOfAll_66 hl (k := 4) rfl (nI_1 i) (by decide) rfl (fun ls hl => ?_)
          refine lv_goto (tgt := 4) hx hb dX2_gainOfAll_69 (by decide) ?_
          exact ih4 (i + 1) ls (by omega) (by omega) (lv_sub hl [3, 4, 1, 0] rfl)
        · refine lv_aload hx hb dX2_gainOfAll_50 (lv_at hl 0 rfl) ?_
          refine va_get (D := D) (ci := 2) (v := .int (wf i 4)) (C := RX1) (T := TX1) (N := 6) hx hb hts inlX1 hown hK (hG i hlt).1 0 rfl rfl 4 (by decide) (hts (Cond.fieldLink RX2 140 "TavernDice$Wager" "brings" "I") mw_9_4) (fun _ h9 => h9) rfl dX2_gainOfAll_52 ?_
          refine lv_ineg hx hb dX2_gainOfAll_55 ?_
          refine lv_goto (tgt := 64) hx hb dX2_gainOfAll_56 (by decide) ?_
          refine lv_iadd hx hb dX2_gainOfAll_64 ?_
          refine lv_rwi (y := sm (gnX su fa wf kd o) (i + 1)) (by show _ = sm _ i + gnX su fa wf kd o i; unfold gnX; rw [if_pos ((b2i_ne0 _).mp c_2)]) ?_
          refine lv_istore_n (lv' := [(2, .int (sm (gnX su fa wf kd o) (i + 1))), (4, .ref (wa i)), (0, .ref (ad 0)), (1, .int (nI o)), (3, .int (nI i))]) hx hb dX2_gainOfAll_65 rfl hl (by decide) rfl (fun ls hl => ?_)
          refine lv_iinc (v := nI (i + 1)) (lv' := [(3, .int (nI (i + 1))), (2, .int (sm (gnX su fa wf kd o) (i + 1))), (4, .ref (wa i)), (0, .ref (ad 0)), (1, .int (nI o))]) hx hb dX2_gainOfAll_66 hl (k := 4) rfl (nI_1 i) (by decide) rfl (fun ls hl => ?_)
          refine lv_goto (tgt := 4) hx hb dX2_gainOfAll_69 (by decide) ?_
          exact ih4 (i + 1) ls (by omega) (by omega) (lv_sub hl [3, 4, 1, 0] rfl)
  exact loop4 (n + 1) 0 ls (Nat.zero_le _) (by omega) (lv_sub hl [2, 3, 1, 0] rfl)
set_option maxHeartbeats 4000000 in
set_option maxRecDepth 100000 in
theorem c_gainOfAllOverOutcomes (l : Launch) (D : va_G) (cs : Nat → ClassId) (H : Heap) {ad : Nat → Nat} {bank rnds cnt mcn : Int32} {N n cap : Nat} {su fa pu : Nat → Int32} {rf : Nat → Option Nat} {wa : Nat → Nat} {wf : Nat → Nat → Int32} {kd : Nat → Nat} (RR : RX D cs H ad bank rnds cnt mcn N n cap su fa pu rf wa wf kd) : Rd l D (Ty cs) 4 yX2_gainOfAllOverOutcomes cX2_gainOfAllOverOutcomes 3 (some .int) H [.ref (ad 0)] (some (.int (sm (goX N wf) n))) := by
  refine rd_ent (by decide) (Nat.le_of_ble_eq_true rfl) ?_
  intro p e s m below meth c ls hx hb hr hml hown hts hlocks hl hH hK
  have hl : lv_has ls 3 [(0, .ref (ad 0))] := hl
  have RR0 := RR
  obtain ⟨hP, hG, hN1, hN, hn, hcap⟩ := RR
  refine lv_iconst (v := sm (goX N wf) 0) hx hb dX2_gainOfAllOverOutcomes_0 (by first | decide | rfl) ?_
  refine lv_istore_n (lv' := [(1, .int (sm (goX N wf) 0)), (0, .ref (ad 0))]) hx hb dX2_gainOfAllOverOutcomes_1 rfl hl (by decide) rfl (fun ls hl => ?_)
  refine lv_iconst (v := nI 0) hx hb dX2_gainOfAllOverOutcomes_2 (by first | decide | rfl) ?_
  refine lv_istore_n (lv' := [(2, .int (nI 0)), (1, .int (sm (goX N wf) 0)), (0, .ref (ad 0))]) hx hb dX2_gainOfAllOverOutcomes_3 rfl hl (by decide) rfl (fun ls hl => ?_)
  have loop4 : ∀ (n9 : Nat) (i : Nat) (ls : Array Slot), i ≤ n → n + 1 ≤ i + n9 → lv_has ls 3 [(0, .ref (ad 0)), (1, .int (sm (goX N wf) i)), (2, .int (nI i))] → RdW p l e 4 s m [.ref (ad 0)] below meth c H (some (.int (sm (goX N wf) n))) (F0 m 4 ls []) := by
    intro n9
    induction n9 with
    | zero => intro i  ls hi hf hl; exact absurd hf (by omega)
    | succ n9 ih4 =>
      intro i  ls hi hf hl
      refine lv_iload_n hx hb dX2_gainOfAllOverOutcomes_4 rfl (lv_at hl 2 rfl) ?_
      refine lv_aload_n hx hb dX2_gainOfAllOverOutcomes_5 rfl (lv_at hl 0 rfl) ?_
      refine va_get (D := D) (ci := 3) (v := .ref (ad 2)) (C := RX2) (T := TX2) (N := 5) hx hb hts inlX2 hown hK hP 0 rfl rfl 1 (by decide) (hts (Cond.fieldLink RX2 19 "TavernDice" "wagers" "Ljava/util/ArrayList;") mw_1_18) (fun _ h9 => h9) rfl dX2_gainOfAllOverOutcomes_6 ?_
      refine rdV (As := []) (rest := [.int (nI i)]) (b := ad 2) ⟨hx, hb, hml, hown, hts⟩ hK 0 (c_size l D cs H (hP.sub [4] rfl)) (gin_v mw_6_15 mw_6_16 mw_6_17 mw_1_17 mw_6_18) (by decide +kernel) ⟨Nat.le_of_ble_eq_true rfl, Nat.le_of_ble_eq_true rfl⟩ (va_recv hK hP (ci := 0) (q0 := 4) rfl rfl) rfl hl.1 rfl (Nat.le_of_ble_eq_true rfl) dX2_gainOfAllOverOutcomes_9 ⟨(Nat.zero_le _), (Nat.zero_le _)⟩ ?_
      refine W.eq (g2 := F0 m 12 ls [.int (nI n), .int (nI i)]) rfl ?_
      refine lv_icmp_ge (tgt := 39) hx hb dX2_gainOfAllOverOutcomes_12 (by decide) (fun c_1 => ?_) (fun c_1 => ?_)
      · refine lv_iload_n hx hb dX2_gainOfAllOverOutcomes_39 rfl (lv_at hl 1 rfl) ?_
        exact rd_iret hH hx hb hr hlocks (rv (by rw [show i = n from (by have g := (nI_leI (by omega) (by omega)).mp c_1; omega)])) dX2_gainOfAllOverOutcomes_40
      · have hlt : i < n := by
          rcases Nat.lt_or_ge i n with q | q
          · exact q
          · exact absurd (nI_le q (by omega)) c_1
        refine lv_iload_n hx hb dX2_gainOfAllOverOutcomes_15 rfl (lv_at hl 1 rfl) ?_
        refine lv_aload_n hx hb dX2_gainOfAllOverOutcomes_16 rfl (lv_at hl 0 rfl) ?_
        refine lv_aload_n hx hb dX2_gainOfAllOverOutcomes_17 rfl (lv_at hl 0 rfl) ?_
        refine va_get (D := D) (ci := 3) (v := .ref (ad 2)) (C := RX2) (T := TX2) (N := 5) hx hb hts inlX2 hown hK hP 0 rfl rfl 1 (by decide) (hts (Cond.fieldLink RX2 19 "TavernDice" "wagers" "Ljava/util/ArrayList;") mw_1_18) (fun _ h9 => h9) rfl dX2_gainOfAllOverOutcomes_18 ?_
        refine lv_iload_n hx hb dX2_gainOfAllOverOutcomes_21 rfl (lv_at hl 2 rfl) ?_
        refine rdV (As := [.int (nI i)]) (rest := [.ref (ad 0), .int (sm (goX N wf) i)]) (b := ad 2) ⟨hx, hb, hml, hown, hts⟩ hK 1 (c_get l D cs H (hP.sub [4] rfl) (hG i hlt).2.1 i hlt (hG i hlt).2.2.2.2.2 (by omega) (by omega) (hG i hlt).2.2.1) (gin_v mw_9_5 mw_9_6 mw_9_7 mw_1_17 mw_9_8) (by decide +kernel) ⟨Nat.le_of_ble_eq_true rfl, Nat.le_of_ble_eq_true rfl⟩ (va_recv hK hP (ci := 0) (q0 := 4) rfl rfl) rfl hl.1 rfl (Nat.le_of_ble_eq_true rfl) dX2_gainOfAllOverOutcomes_22 ⟨(Nat.zero_le _), (Nat.zero_le _)⟩ ?_
        refine W.eq (g2 := F0 m 25 ls [.ref (wa i), .ref (ad 0), .int (sm (goX N wf) i)]) rfl ?_
        refine va_castSelf hx hb hown (hts (Cond.classLink RX2 98 RX1) mw_10_16) (va_recv hK (hG i hlt).1 (ci := 2) (q0 := 0) rfl rfl) dX2_gainOfAllOverOutcomes_25 ?_
        refine rdV (As := [.ref (wa i)]) (rest := [.int (sm (goX N wf) i)]) (b := ad 0) ⟨hx, hb, hml, hown, hts⟩ hK 1 (c_gainOverOutcomes l D cs H RR0 i hlt) (gin_v mw_15_15 mw_15_16 mw_15_17 mw_1_2 mw_15_18) (by decide +kernel) ⟨Nat.le_of_ble_eq_true rfl, Nat.le_of_ble_eq_true rfl⟩ (va_recv hK hP (ci := 3) (q0 := 0) rfl rfl) rfl hl.1 rfl (Nat.le_of_ble_eq_true rfl) dX2_gainOfAllOverOutcomes_28 ⟨(Nat.zero_le _), (Nat.zero_le _)⟩ ?_
        refine W.eq (g2 := F0 m 31 ls [.int (goX N wf i), .int (sm (goX N wf) i)]) rfl ?_
        refine lv_iadd hx hb dX2_gainOfAllOverOutcomes_31 ?_
        refine lv_rwi (y := sm (goX N wf) (i + 1)) (rfl) ?_
        refine lv_istore_n (lv' := [(1, .int (sm (goX N wf) (i + 1))), (0, .ref (ad 0)), (2, .int (nI i))]) hx hb dX2_gainOfAllOverOutcomes_32 rfl hl (by decide) rfl (fun ls hl => ?_)
        refine lv_iinc (v := nI (i + 1)) (lv' := [(2, .int (nI (i + 1))), (1, .int (sm (goX N wf) (i + 1))), (0, .ref (ad 0))]) hx hb dX2_gainOfAllOverOutcomes_33 hl (k := 2) rfl (nI_1 i) (by decide) rfl (fun ls hl => ?_)
        refine lv_goto (tgt := 4) hx hb dX2_gainOfAllOverOutcomes_36 (by decide) ?_
        exact ih4 (i + 1) ls (by omega) (by omega) (lv_sub hl [2, 1, 0] rfl)
  exact loop4 (n + 1) 0 ls (Nat.zero_le _) (by omega) (lv_sub hl [2, 1, 0] rfl)
set_option maxHeartbeats 4000000 in
set_option maxRecDepth 100000 in
theorem c_staked (l : Launch) (D : va_G) (cs : Nat → ClassId) (H : Heap) {ad : Nat → Nat} {bank rnds cnt mcn : Int32} {N n cap : Nat} {su fa pu : Nat → Int32} {rf : Nat → Option Nat} {wa : Nat → Nat} {wf : Nat → Nat → Int32} {kd : Nat → Nat} (RR : RX D cs H ad bank rnds cnt mcn N n cap su fa pu rf wa wf kd) : Rd l D (Ty cs) 4 yX2_staked cX2_staked 3 (some .int) H [.ref (ad 0)] (some (.int (sm (fun i => wf i 3) n))) := by
  refine rd_ent (by decide) (Nat.le_of_ble_eq_true rfl) ?_
  intro p e s m below meth c ls hx hb hr hml hown hts hlocks hl hH hK
  have hl : lv_has ls 3 [(0, .ref (ad 0))] := hl
  have RR0 := RR
  obtain ⟨hP, hG, hN1, hN, hn, hcap⟩ := RR
  refine lv_iconst (v := sm (fun i => wf i 3) 0) hx hb dX2_staked_0 (by first | decide | rfl) ?_
  refine lv_istore_n (lv' := [(1, .int (sm (fun i => wf i 3) 0)), (0, .ref (ad 0))]) hx hb dX2_staked_1 rfl hl (by decide) rfl (fun ls hl => ?_)
  refine lv_iconst (v := nI 0) hx hb dX2_staked_2 (by first | decide | rfl) ?_
  refine lv_istore_n (lv' := [(2, .int (nI 0)), (1, .int (sm (fun i => wf i 3) 0)), (0, .ref (ad 0))]) hx hb dX2_staked_3 rfl hl (by decide) rfl (fun ls hl => ?_)
  have loop4 : ∀ (n9 : Nat) (i : Nat) (ls : Array Slot), i ≤ n → n + 1 ≤ i + n9 → lv_has ls 3 [(0, .ref (ad 0)), (1, .int (sm (fun i => wf i 3) i)), (2, .int (nI i))] → RdW p l e 4 s m [.ref (ad 0)] below meth c H (some (.int (sm (fun i => wf i 3) n))) (F0 m 4 ls []) := by
    intro n9
    induction n9 with
    | zero => intro i  ls hi hf hl; exact absurd hf (by omega)
    | succ n9 ih4 =>
      intro i  ls hi hf hl
      refine lv_iload_n hx hb dX2_staked_4 rfl (lv_at hl 2 rfl) ?_
      refine lv_aload_n hx hb dX2_staked_5 rfl (lv_at hl 0 rfl) ?_
      refine va_get (D := D) (ci := 3) (v := .ref (ad 2)) (C := RX2) (T := TX2) (N := 5) hx hb hts inlX2 hown hK hP 0 rfl rfl 1 (by decide) (hts (Cond.fieldLink RX2 19 "TavernDice" "wagers" "Ljava/util/ArrayList;") mw_1_18) (fun _ h9 => h9) rfl dX2_staked_6 ?_
      refine rdV (As := []) (rest := [.int (nI i)]) (b := ad 2) ⟨hx, hb, hml, hown, hts⟩ hK 0 (c_size l D cs H (hP.sub [4] rfl)) (gin_v mw_6_15 mw_6_16 mw_6_17 mw_1_17 mw_6_18) (by decide +kernel) ⟨Nat.le_of_ble_eq_true rfl, Nat.le_of_ble_eq_true rfl⟩ (va_recv hK hP (ci := 0) (q0 := 4) rfl rfl) rfl hl.1 rfl (Nat.le_of_ble_eq_true rfl) dX2_staked_9 ⟨(Nat.zero_le _), (Nat.zero_le _)⟩ ?_
      refine W.eq (g2 := F0 m 12 ls [.int (nI n), .int (nI i)]) rfl ?_
      refine lv_icmp_ge (tgt := 38) hx hb dX2_staked_12 (by decide) (fun c_1 => ?_) (fun c_1 => ?_)
      · refine lv_iload_n hx hb dX2_staked_38 rfl (lv_at hl 1 rfl) ?_
        exact rd_iret hH hx hb hr hlocks (rv (by rw [show i = n from (by have g := (nI_leI (by omega) (by omega)).mp c_1; omega)])) dX2_staked_39
      · have hlt : i < n := by
          rcases Nat.lt_or_ge i n with q | q
          · exact q
          · exact absurd (nI_le q (by omega)) c_1
        refine lv_iload_n hx hb dX2_staked_15 rfl (lv_at hl 1 rfl) ?_
        refine lv_aload_n hx hb dX2_staked_16 rfl (lv_at hl 0 rfl) ?_
        refine va_get (D := D) (ci := 3) (v := .ref (ad 2)) (C := RX2) (T := TX2) (N := 5) hx hb hts inlX2 hown hK hP 0 rfl rfl 1 (by decide) (hts (Cond.fieldLink RX2 19 "TavernDice" "wagers" "Ljava/util/ArrayList;") mw_1_18) (fun _ h9 => h9) rfl dX2_staked_17 ?_
        refine lv_iload_n hx hb dX2_staked_20 rfl (lv_at hl 2 rfl) ?_
        refine rdV (As := [.int (nI i)]) (rest := [.int (sm (fun i => wf i 3) i)]) (b := ad 2) ⟨hx, hb, hml, hown, hts⟩ hK 1 (c_get l D cs H (hP.sub [4] rfl) (hG i hlt).2.1 i hlt (hG i hlt).2.2.2.2.2 (by omega) (by omega) (hG i hlt).2.2.1) (gin_v mw_9_5 mw_9_6 mw_9_7 mw_1_17 mw_9_8) (by decide +kernel) ⟨Nat.le_of_ble_eq_true rfl, Nat.le_of_ble_eq_true rfl⟩ (va_recv hK hP (ci := 0) (q0 := 4) rfl rfl) rfl hl.1 rfl (Nat.le_of_ble_eq_true rfl) dX2_staked_21 ⟨(Nat.zero_le _), (Nat.zero_le _)⟩ ?_
        refine W.eq (g2 := F0 m 24 ls [.ref (wa i), .int (sm (fun i => wf i 3) i)]) rfl ?_
        refine va_castSelf hx hb hown (hts (Cond.classLink RX2 98 RX1) mw_10_16) (va_recv hK (hG i hlt).1 (ci := 2) (q0 := 0) rfl rfl) dX2_staked_24 ?_
        refine va_get (D := D) (ci := 2) (v := .int (wf i 3)) (C := RX1) (T := TX1) (N := 6) hx hb hts inlX1 hown hK (hG i hlt).1 0 rfl rfl 3 (by decide) (hts (Cond.fieldLink RX2 121 "TavernDice$Wager" "stake" "I") mw_6_8) (fun _ h9 => h9) rfl dX2_staked_27 ?_
        refine lv_iadd hx hb dX2_staked_30 ?_
        refine lv_rwi (y := sm (fun i => wf i 3) (i + 1)) (rfl) ?_
        refine lv_istore_n (lv' := [(1, .int (sm (fun i => wf i 3) (i + 1))), (0, .ref (ad 0)), (2, .int (nI i))]) hx hb dX2_staked_31 rfl hl (by decide) rfl (fun ls hl => ?_)
        refine lv_iinc (v := nI (i + 1)) (lv' := [(2, .int (nI (i + 1))), (1, .int (sm (fun i => wf i 3) (i + 1))), (0, .ref (ad 0))]) hx hb dX2_staked_32 hl (k := 2) rfl (nI_1 i) (by decide) rfl (fun ls hl => ?_)
        refine lv_goto (tgt := 4) hx hb dX2_staked_35 (by decide) ?_
        exact ih4 (i + 1) ls (by omega) (by omega) (lv_sub hl [2, 1, 0] rfl)
  exact loop4 (n + 1) 0 ls (Nat.zero_le _) (by omega) (lv_sub hl [2, 1, 0] rfl)
set_option maxHeartbeats 4000000 in
set_option maxRecDepth 100000 in
theorem c_purseBehind (l : Launch) (D : va_G) (cs : Nat → ClassId) (H : Heap) {ad : Nat → Nat} {bank rnds cnt mcn : Int32} {N n cap : Nat} {su fa pu : Nat → Int32} {rf : Nat → Option Nat} {wa : Nat → Nat} {wf : Nat → Nat → Int32} {kd : Nat → Nat} (RR : RX D cs H ad bank rnds cnt mcn N n cap su fa pu rf wa wf kd) (p9 : Nat) (hp9 : p9 < 6) (o : Nat) (ho : o < 1728) : Rd l D (Ty cs) 4 yX2_purseBehind cX2_purseBehind 6 (some .int) H [.ref (ad 0), .int (nI p9), .int (nI o)] (some (.int (behX su fa pu wf kd (nI p9) p9 o n))) := by
  refine rd_ent (by decide) (Nat.le_of_ble_eq_true rfl) ?_
  intro p e s m below meth c ls hx hb hr hml hown hts hlocks hl hH hK
  have hl : lv_has ls 6 [(0, .ref (ad 0)), (1, .int (nI p9)), (2, .int (nI o))] := hl
  have RR0 := RR
  obtain ⟨hP, hG, hN1, hN, hn, hcap⟩ := RR
  refine lv_aload_n hx hb dX2_purseBehind_0 rfl (lv_at hl 0 rfl) ?_
  refine va_get (D := D) (ci := 3) (v := .ref (ad 3)) (C := RX2) (T := TX2) (N := 5) hx hb hts inlX2 hown hK hP 0 rfl rfl 2 (by decide) (hts (Cond.fieldLink RX2 23 "TavernDice" "purses" "[I") mw_1_19) (fun _ h9 => h9) rfl dX2_purseBehind_1 ?_
  refine lv_iload_n hx hb dX2_purseBehind_4 rfl (lv_at hl 1 rfl) ?_
  refine va_iald hx hb hK hP 5 0 rfl rfl (vp_in_nI hp9 (by omega)) dX2_purseBehind_5 ?_
  refine lv_rwi (y := behX su fa pu wf kd (nI p9) p9 o 0) (congrArg pu (nI_clamp (by omega))) ?_
  refine lv_istore_n (lv' := [(3, .int (behX su fa pu wf kd (nI p9) p9 o 0)), (0, .ref (ad 0)), (1, .int (nI p9)), (2, .int (nI o))]) hx hb dX2_purseBehind_6 rfl hl (by decide) rfl (fun ls hl => ?_)
  refine lv_iconst (v := nI 0) hx hb dX2_purseBehind_7 (by first | decide | rfl) ?_
  refine lv_istore (lv' := [(4, .int (nI 0)), (3, .int (behX su fa pu wf kd (nI p9) p9 o 0)), (0, .ref (ad 0)), (1, .int (nI p9)), (2, .int (nI o))]) hx hb dX2_purseBehind_8 hl (by decide) rfl (fun ls hl => ?_)
  have loop10 : ∀ (n9 : Nat) (i : Nat) (ls : Array Slot), i ≤ n → n + 1 ≤ i + n9 → lv_has ls 6 [(0, .ref (ad 0)), (1, .int (nI p9)), (2, .int (nI o)), (3, .int (behX su fa pu wf kd (nI p9) p9 o i)), (4, .int (nI i))] → RdW p l e 4 s m [.ref (ad 0), .int (nI p9), .int (nI o)] below meth c H (some (.int (behX su fa pu wf kd (nI p9) p9 o n))) (F0 m 10 ls []) := by
    intro n9
    induction n9 with
    | zero => intro i  ls hi hf hl; exact absurd hf (by omega)
    | succ n9 ih10 =>
      intro i  ls hi hf hl
      refine lv_iload hx hb dX2_purseBehind_10 (lv_at hl 4 rfl) ?_
      refine lv_aload_n hx hb dX2_purseBehind_12 rfl (lv_at hl 0 rfl) ?_
      refine va_get (D := D) (ci := 3) (v := .ref (ad 2)) (C := RX2) (T := TX2) (N := 5) hx hb hts inlX2 hown hK hP 0 rfl rfl 1 (by decide) (hts (Cond.fieldLink RX2 19 "TavernDice" "wagers" "Ljava/util/ArrayList;") mw_1_18) (fun _ h9 => h9) rfl dX2_purseBehind_13 ?_
      refine rdV (As := []) (rest := [.int (nI i)]) (b := ad 2) ⟨hx, hb, hml, hown, hts⟩ hK 0 (c_size l D cs H (hP.sub [4] rfl)) (gin_v mw_6_15 mw_6_16 mw_6_17 mw_1_17 mw_6_18) (by decide +kernel) ⟨Nat.le_of_ble_eq_true rfl, Nat.le_of_ble_eq_true rfl⟩ (va_recv hK hP (ci := 0) (q0 := 4) rfl rfl) rfl hl.1 rfl (Nat.le_of_ble_eq_true rfl) dX2_purseBehind_16 ⟨(Nat.zero_le _), (Nat.zero_le _)⟩ ?_
      refine W.eq (g2 := F0 m 19 ls [.int (nI n), .int (nI i)]) rfl ?_
      refine lv_icmp_ge (tgt := 86) hx hb dX2_purseBehind_19 (by decide) (fun c_1 => ?_) (fun c_1 => ?_)
      · refine lv_iload_n hx hb dX2_purseBehind_86 rfl (lv_at hl 3 rfl) ?_
        exact rd_iret hH hx hb hr hlocks (rv (by rw [show i = n from (by have g := (nI_leI (by omega) (by omega)).mp c_1; omega)])) dX2_purseBehind_87
      · have hlt : i < n := by
          rcases Nat.lt_or_ge i n with q | q
          · exact q
          · exact absurd (nI_le q (by omega)) c_1
        refine lv_aload_n hx hb dX2_purseBehind_22 rfl (lv_at hl 0 rfl) ?_
        refine va_get (D := D) (ci := 3) (v := .ref (ad 2)) (C := RX2) (T := TX2) (N := 5) hx hb hts inlX2 hown hK hP 0 rfl rfl 1 (by decide) (hts (Cond.fieldLink RX2 19 "TavernDice" "wagers" "Ljava/util/ArrayList;") mw_1_18) (fun _ h9 => h9) rfl dX2_purseBehind_23 ?_
        refine lv_iload hx hb dX2_purseBehind_26 (lv_at hl 4 rfl) ?_
        refine rdV (As := [.int (nI i)]) (rest := []) (b := ad 2) ⟨hx, hb, hml, hown, hts⟩ hK 1 (c_get l D cs H (hP.sub [4] rfl) (hG i hlt).2.1 i hlt (hG i hlt).2.2.2.2.2 (by omega) (by omega) (hG i hlt).2.2.1) (gin_v mw_9_5 mw_9_6 mw_9_7 mw_1_17 mw_9_8) (by decide +kernel) ⟨Nat.le_of_ble_eq_true rfl, Nat.le_of_ble_eq_true rfl⟩ (va_recv hK hP (ci := 0) (q0 := 4) rfl rfl) rfl hl.1 rfl (Nat.le_of_ble_eq_true rfl) dX2_purseBehind_28 ⟨(Nat.zero_le _), (Nat.zero_le _)⟩ ?_
        refine W.eq (g2 := F0 m 31 ls [.ref (wa i)]) rfl ?_
        refine va_castSelf hx hb hown (hts (Cond.classLink RX2 98 RX1) mw_10_16) (va_recv hK (hG i hlt).1 (ci := 2) (q0 := 0) rfl rfl) dX2_purseBehind_31 ?_
        refine lv_astore (lv' := [(5, .ref (wa i)), (0, .ref (ad 0)), (1, .int (nI p9)), (2, .int (nI o)), (3, .int (behX su fa pu wf kd (nI p9) p9 o i)), (4, .int (nI i))]) hx hb dX2_purseBehind_34 hl (by decide) rfl (fun ls hl => ?_)
        refine lv_aload hx hb dX2_purseBehind_36 (lv_at hl 0 rfl) ?_
        refine va_get (D := D) (ci := 2) (v := .int (wf i 0)) (C := RX1) (T := TX1) (N := 6) hx hb hts inlX1 hown hK (hG i hlt).1 0 rfl rfl 0 (by decide) (hts (Cond.fieldLink RX2 118 "TavernDice$Wager" "patron" "I") mw_6_7) (fun _ h9 => h9) rfl dX2_purseBehind_38 ?_
        refine lv_iload_n hx hb dX2_purseBehind_41 rfl (lv_at hl 2 rfl) ?_
        refine lv_icmp_ne (tgt := 80) hx hb dX2_purseBehind_42 (by decide) (fun c_2 => ?_) (fun c_2 => ?_)
        · have hl : lv_has ls 6 [(5, .ref (wa i)), (0, .ref (ad 0)), (1, .int (nI p9)), (2, .int (nI o)), (3, .int (behX su fa pu wf kd (nI p9) p9 o (i + 1))), (4, .int (nI i))] := by rw [show behX su fa pu wf kd (nI p9) p9 o (i + 1) = behX su fa pu wf kd (nI p9) p9 o i from if_neg (fun z => c_2 z.1)]; exact hl
          refine lv_iinc (v := nI (i + 1)) (lv' := [(4, .int (nI (i + 1))), (5, .ref (wa i)), (0, .ref (ad 0)), (1, .int (nI p9)), (2, .int (nI o)), (3, .int (behX su fa pu wf kd (nI p9) p9 o (i + 1)))]) hx hb dX2_purseBehind_80 hl (k := 5) rfl (nI_1 i) (by decide) rfl (fun ls hl => ?_)
          refine lv_goto (tgt := 10) hx hb dX2_purseBehind_83 (by decide) ?_
          exact ih10 (i + 1) ls (by omega) (by omega) (lv_sub hl [2, 3, 4, 5, 0] rfl)
        · refine lv_aload_n hx hb dX2_purseBehind_45 rfl (lv_at hl 1 rfl) ?_
          refine va_get (D := D) (ci := 3) (v := .ref (ad 1)) (C := RX2) (T := TX2) (N := 5) hx hb hts inlX2 hown hK hP 0 rfl rfl 0 (by decide) (hts (Cond.fieldLink RX2 12 "TavernDice" "dice" "LTavernDice$Dice;") mw_1_14) (fun _ h9 => h9) rfl dX2_purseBehind_46 ?_
          refine lv_aload hx hb dX2_purseBehind_49 (lv_at hl 0 rfl) ?_
          refine va_get (D := D) (ci := 2) (v := .int (wf i 1)) (C := RX1) (T := TX1) (N := 6) hx hb hts inlX1 hown hK (hG i hlt).1 0 rfl rfl 1 (by decide) (hts (Cond.fieldLink RX2 232 "TavernDice$Wager" "kind" "I") mw_9_2) (fun _ h9 => h9) rfl dX2_purseBehind_51 ?_
          refine lv_rwi (y := nI (kd i)) ((hG i hlt).2.2.2.1) ?_
          refine lv_aload hx hb dX2_purseBehind_54 (lv_at hl 0 rfl) ?_
          refine va_get (D := D) (ci := 2) (v := .int (wf i 2)) (C := RX1) (T := TX1) (N := 6) hx hb hts inlX1 hown hK (hG i hlt).1 0 rfl rfl 2 (by decide) (hts (Cond.fieldLink RX2 235 "TavernDice$Wager" "number" "I") mw_9_3) (fun _ h9 => h9) rfl dX2_purseBehind_56 ?_
          refine lv_iload_n hx hb dX2_purseBehind_59 rfl (lv_at hl 3 rfl) ?_
          refine rdV (As := [.int (nI (kd i)), .int (wf i 2), .int (nI o)]) (rest := []) (b := ad 1) ⟨hx, hb, hml, hown, hts⟩ hK 3 (c_comes l D cs H (hP.sub [1, 2, 3] rfl) ((kd i)) ((hG i hlt).2.2.2.2.1) (wf i 2) o (by omega)) (gin_v mw_9_13 mw_9_14 mw_9_15 mw_1_13 mw_9_16) (by decide +kernel) ⟨Nat.le_of_ble_eq_true rfl, Nat.le_of_ble_eq_true rfl⟩ (va_recv hK hP (ci := 1) (q0 := 1) rfl rfl) rfl hl.1 rfl (Nat.le_of_ble_eq_true rfl) dX2_purseBehind_60 ⟨(Nat.zero_le _), (Nat.zero_le _)⟩ ?_
          refine W.eq (g2 := F0 m 63 ls [.int (b2i (comesX su fa ((kd i)) (wf i 2) o))]) rfl ?_
          refine lv_if_eq (tgt := 80) hx hb dX2_purseBehind_63 (by decide) (fun c_3 => ?_) (fun c_3 => ?_)
          · have hl : lv_has ls 6 [(5, .ref (wa i)), (0, .ref (ad 0)), (1, .int (nI p9)), (2, .int (nI o)), (3, .int (behX su fa pu wf kd (nI p9) p9 o (i + 1))), (4, .int (nI i))] := by rw [show behX su fa pu wf kd (nI p9) p9 o (i + 1) = behX su fa pu wf kd (nI p9) p9 o i from if_neg (fun z => by have g := (b2i_eq0 _).mp c_3; rw [g] at z; exact absurd z.2 (by decide))]; exact hl
            refine lv_iinc (v := nI (i + 1)) (lv' := [(4, .int (nI (i + 1))), (5, .ref (wa i)), (0, .ref (ad 0)), (1, .int (nI p9)), (2, .int (nI o)), (3, .int (behX su fa pu wf kd (nI p9) p9 o (i + 1)))]) hx hb dX2_purseBehind_80 hl (k := 5) rfl (nI_1 i) (by decide) rfl (fun ls hl => ?_)
            refine lv_goto (tgt := 10) hx hb dX2_purseBehind_83 (by decide) ?_
            exact ih10 (i + 1) ls (by omega) (by omega) (lv_sub hl [2, 3, 4, 5, 0] rfl)
          · refine lv_iload_n hx hb dX2_purseBehind_66 rfl (lv_at hl 4 rfl) ?_
            refine lv_aload hx hb dX2_purseBehind_67 (lv_at hl 0 rfl) ?_
            refine va_get (D := D) (ci := 2) (v := .int (wf i 3)) (C := RX1) (T := TX1) (N := 6) hx hb hts inlX1 hown hK (hG i hlt).1 0 rfl rfl 3 (by decide) (hts (Cond.fieldLink RX2 121 "TavernDice$Wager" "stake" "I") mw_6_8) (fun _ h9 => h9) rfl dX2_purseBehind_69 ?_
            refine lv_aload hx hb dX2_purseBehind_72 (lv_at hl 0 rfl) ?_
            refine va_get (D := D) (ci := 2) (v := .int (wf i 4)) (C := RX1) (T := TX1) (N := 6) hx hb hts inlX1 hown hK (hG i hlt).1 0 rfl rfl 4 (by decide) (hts (Cond.fieldLink RX2 140 "TavernDice$Wager" "brings" "I") mw_9_4) (fun _ h9 => h9) rfl dX2_purseBehind_74 ?_
            refine lv_iadd hx hb dX2_purseBehind_77 ?_
            refine lv_iadd hx hb dX2_purseBehind_78 ?_
            refine lv_rwi (y := behX su fa pu wf kd (nI p9) p9 o (i + 1)) ((if_pos ⟨c_2, (b2i_ne0 _).mp c_3⟩).symm) ?_
            refine lv_istore_n (lv' := [(3, .int (behX su fa pu wf kd (nI p9) p9 o (i + 1))), (5, .ref (wa i)), (0, .ref (ad 0)), (1, .int (nI p9)), (2, .int (nI o)), (4, .int (nI i))]) hx hb dX2_purseBehind_79 rfl hl (by decide) rfl (fun ls hl => ?_)
            refine lv_iinc (v := nI (i + 1)) (lv' := [(4, .int (nI (i + 1))), (3, .int (behX su fa pu wf kd (nI p9) p9 o (i + 1))), (5, .ref (wa i)), (0, .ref (ad 0)), (1, .int (nI p9)), (2, .int (nI o))]) hx hb dX2_purseBehind_80 hl (k := 5) rfl (nI_1 i) (by decide) rfl (fun ls hl => ?_)
            refine lv_goto (tgt := 10) hx hb dX2_purseBehind_83 (by decide) ?_
            exact ih10 (i + 1) ls (by omega) (by omega) (lv_sub hl [3, 4, 5, 1, 0] rfl)
  exact loop10 (n + 1) 0 ls (Nat.zero_le _) (by omega) (lv_sub hl [2, 3, 4, 1, 0] rfl)
set_option maxHeartbeats 4000000 in
set_option maxRecDepth 100000 in
theorem c_lowestTop (l : Launch) (D : va_G) (cs : Nat → ClassId) (H : Heap) {ad : Nat → Nat} {bank rnds cnt mcn : Int32} {N n cap : Nat} {su fa pu : Nat → Int32} {rf : Nat → Option Nat} {wa : Nat → Nat} {wf : Nat → Nat → Int32} {kd : Nat → Nat} (RR : RX D cs H ad bank rnds cnt mcn N n cap su fa pu rf wa wf kd) (g9 : Int32) : Rd l D (Ty cs) 2 yX2_lowestTop cX2_lowestTop 2 (some .int) H [.ref (ad 0), .int g9] (some (.int (g9 / cdX g9 (nI N)))) := by
  refine rd_ent (by decide) (Nat.le_of_ble_eq_true rfl) ?_
  intro p e s m below meth c ls hx hb hr hml hown hts hlocks hl hH hK
  have hl : lv_has ls 2 [(0, .ref (ad 0)), (1, .int g9)] := hl
  have RR0 := RR
  obtain ⟨hP, hG, hN1, hN, hn, hcap⟩ := RR
  refine lv_iload_n hx hb dX2_lowestTop_0 rfl (lv_at hl 1 rfl) ?_
  refine lv_iload_n hx hb dX2_lowestTop_1 rfl (lv_at hl 1 rfl) ?_
  refine lv_aload_n hx hb dX2_lowestTop_2 rfl (lv_at hl 0 rfl) ?_
  refine va_get (D := D) (ci := 3) (v := .ref (ad 1)) (C := RX2) (T := TX2) (N := 5) hx hb hts inlX2 hown hK hP 0 rfl rfl 0 (by decide) (hts (Cond.fieldLink RX2 12 "TavernDice" "dice" "LTavernDice$Dice;") mw_1_14) (fun _ h9 => h9) rfl dX2_lowestTop_3 ?_
  refine va_get (D := D) (ci := 1) (v := .int (nI N)) (C := RX0) (T := TX0) (N := 4) hx hb hts inlX0 hown hK hP 1 rfl rfl 3 (by decide) (hts (Cond.fieldLink RX2 58 "TavernDice$Dice" "outcomes" "I") mw_5_10) (fun _ h9 => h9) rfl dX2_lowestTop_6 ?_
  refine rdS (As := [.int g9, .int (nI N)]) (rest := [.int g9]) ⟨hx, hb, hml, hown, hts⟩ hK 2 (c_commonDivisor l D cs H g9 (nI N)) (gin_s mw_16_4 mw_16_5 mw_1_2 mw_16_6) (by decide +kernel) ⟨Nat.le_of_ble_eq_true rfl, Nat.le_of_ble_eq_true rfl⟩ rfl hl.1 rfl (Nat.le_of_ble_eq_true rfl) dX2_lowestTop_9 ⟨(Nat.zero_le _), (Nat.zero_le _)⟩ ?_
  refine W.eq (g2 := F0 m 12 ls [.int (cdX g9 (nI N)), .int g9]) rfl ?_
  refine lv_idiv hx hb dX2_lowestTop_12 (cdX_ne _ _) ?_
  exact rd_iret hH hx hb hr hlocks (rfl) dX2_lowestTop_13
set_option maxHeartbeats 4000000 in
set_option maxRecDepth 100000 in
theorem c_lowestBottom (l : Launch) (D : va_G) (cs : Nat → ClassId) (H : Heap) {ad : Nat → Nat} {bank rnds cnt mcn : Int32} {N n cap : Nat} {su fa pu : Nat → Int32} {rf : Nat → Option Nat} {wa : Nat → Nat} {wf : Nat → Nat → Int32} {kd : Nat → Nat} (RR : RX D cs H ad bank rnds cnt mcn N n cap su fa pu rf wa wf kd) (g9 : Int32) : Rd l D (Ty cs) 2 yX2_lowestBottom cX2_lowestBottom 2 (some .int) H [.ref (ad 0), .int g9] (some (.int (nI N / cdX g9 (nI N)))) := by
  refine rd_ent (by decide) (Nat.le_of_ble_eq_true rfl) ?_
  intro p e s m below meth c ls hx hb hr hml hown hts hlocks hl hH hK
  have hl : lv_has ls 2 [(0, .ref (ad 0)), (1, .int g9)] := hl
  have RR0 := RR
  obtain ⟨hP, hG, hN1, hN, hn, hcap⟩ := RR
  refine lv_aload_n hx hb dX2_lowestBottom_0 rfl (lv_at hl 0 rfl) ?_
  refine va_get (D := D) (ci := 3) (v := .ref (ad 1)) (C := RX2) (T := TX2) (N := 5) hx hb hts inlX2 hown hK hP 0 rfl rfl 0 (by decide) (hts (Cond.fieldLink RX2 12 "TavernDice" "dice" "LTavernDice$Dice;") mw_1_14) (fun _ h9 => h9) rfl dX2_lowestBottom_1 ?_
  refine va_get (D := D) (ci := 1) (v := .int (nI N)) (C := RX0) (T := TX0) (N := 4) hx hb hts inlX0 hown hK hP 1 rfl rfl 3 (by decide) (hts (Cond.fieldLink RX2 58 "TavernDice$Dice" "outcomes" "I") mw_5_10) (fun _ h9 => h9) rfl dX2_lowestBottom_4 ?_
  refine lv_iload_n hx hb dX2_lowestBottom_7 rfl (lv_at hl 1 rfl) ?_
  refine lv_aload_n hx hb dX2_lowestBottom_8 rfl (lv_at hl 0 rfl) ?_
  refine va_get (D := D) (ci := 3) (v := .ref (ad 1)) (C := RX2) (T := TX2) (N := 5) hx hb hts inlX2 hown hK hP 0 rfl rfl 0 (by decide) (hts (Cond.fieldLink RX2 12 "TavernDice" "dice" "LTavernDice$Dice;") mw_1_14) (fun _ h9 => h9) rfl dX2_lowestBottom_9 ?_
  refine va_get (D := D) (ci := 1) (v := .int (nI N)) (C := RX0) (T := TX0) (N := 4) hx hb hts inlX0 hown hK hP 1 rfl rfl 3 (by decide) (hts (Cond.fieldLink RX2 58 "TavernDice$Dice" "outcomes" "I") mw_5_10) (fun _ h9 => h9) rfl dX2_lowestBottom_12 ?_
  refine rdS (As := [.int g9, .int (nI N)]) (rest := [.int (nI N)]) ⟨hx, hb, hml, hown, hts⟩ hK 2 (c_commonDivisor l D cs H g9 (nI N)) (gin_s mw_16_4 mw_16_5 mw_1_2 mw_16_6) (by decide +kernel) ⟨Nat.le_of_ble_eq_true rfl, Nat.le_of_ble_eq_true rfl⟩ rfl hl.1 rfl (Nat.le_of_ble_eq_true rfl) dX2_lowestBottom_15 ⟨(Nat.zero_le _), (Nat.zero_le _)⟩ ?_
  refine W.eq (g2 := F0 m 18 ls [.int (cdX g9 (nI N)), .int (nI N)]) rfl ?_
  refine lv_idiv hx hb dX2_lowestBottom_18 (cdX_ne _ _) ?_
  exact rd_iret hH hx hb hr hlocks (rfl) dX2_lowestBottom_19
set_option maxHeartbeats 4000000 in
set_option maxRecDepth 100000 in
theorem c_worstOutcome (l : Launch) (D : va_G) (cs : Nat → ClassId) (H : Heap) {ad : Nat → Nat} {bank rnds cnt mcn : Int32} {N n cap : Nat} {su fa pu : Nat → Int32} {rf : Nat → Option Nat} {wa : Nat → Nat} {wf : Nat → Nat → Int32} {kd : Nat → Nat} (RR : RX D cs H ad bank rnds cnt mcn N n cap su fa pu rf wa wf kd) : Rd l D (Ty cs) 5 yX2_worstOutcome cX2_worstOutcome 5 (some .int) H [.ref (ad 0)] (some (.int (nI (wst (fun o => sm (gnX su fa wf kd o) n) N)))) := by
  refine rd_ent (by decide) (Nat.le_of_ble_eq_true rfl) ?_
  intro p e s m below meth c ls hx hb hr hml hown hts hlocks hl hH hK
  have hl : lv_has ls 5 [(0, .ref (ad 0))] := hl
  have RR0 := RR
  obtain ⟨hP, hG, hN1, hN, hn, hcap⟩ := RR
  refine lv_iconst (v := nI (wst (fun o => sm (gnX su fa wf kd o) n) 1)) hx hb dX2_worstOutcome_0 (by rw [wst_1]; decide) ?_
  refine lv_istore_n (lv' := [(1, .int (nI (wst (fun o => sm (gnX su fa wf kd o) n) 1))), (0, .ref (ad 0))]) hx hb dX2_worstOutcome_1 rfl hl (by decide) rfl (fun ls hl => ?_)
  refine lv_aload_n hx hb dX2_worstOutcome_2 rfl (lv_at hl 1 rfl) ?_
  refine lv_iconst (v := nI 0) hx hb dX2_worstOutcome_3 (by first | decide | rfl) ?_
  refine rdV (As := [.int (nI 0)]) (rest := []) (b := ad 0) ⟨hx, hb, hml, hown, hts⟩ hK 1 (c_gainOfAll l D cs H RR0 0 (by omega)) (gin_v mw_8_22 mw_8_23 mw_9_0 mw_1_2 mw_9_1) (by decide +kernel) ⟨Nat.le_of_ble_eq_true rfl, Nat.le_of_ble_eq_true rfl⟩ (va_recv hK hP (ci := 3) (q0 := 0) rfl rfl) rfl hl.1 rfl (Nat.le_of_ble_eq_true rfl) dX2_worstOutcome_4 ⟨(Nat.zero_le _), (Nat.zero_le _)⟩ ?_
  refine W.eq (g2 := F0 m 7 ls [.int (sm (gnX su fa wf kd 0) n)]) rfl ?_
  refine lv_rwi (y := (fun o => sm (gnX su fa wf kd o) n) (wst (fun o => sm (gnX su fa wf kd o) n) 1)) (by rw [wst_1]) ?_
  refine lv_istore_n (lv' := [(2, .int ((fun o => sm (gnX su fa wf kd o) n) (wst (fun o => sm (gnX su fa wf kd o) n) 1))), (1, .int (nI (wst (fun o => sm (gnX su fa wf kd o) n) 1))), (0, .ref (ad 0))]) hx hb dX2_worstOutcome_7 rfl hl (by decide) rfl (fun ls hl => ?_)
  refine lv_iconst (v := nI 1) hx hb dX2_worstOutcome_8 (by first | decide | rfl) ?_
  refine lv_istore_n (lv' := [(3, .int (nI 1)), (2, .int ((fun o => sm (gnX su fa wf kd o) n) (wst (fun o => sm (gnX su fa wf kd o) n) 1))), (1, .int (nI (wst (fun o => sm (gnX su fa wf kd o) n) 1))), (0, .ref (ad 0))]) hx hb dX2_worstOutcome_9 rfl hl (by decide) rfl (fun ls hl => ?_)
  have loop10 : ∀ (n9 : Nat) (i : Nat) (ls : Array Slot), i ≤ N → N + 1 ≤ i + n9 → 1 ≤ i → lv_has ls 5 [(0, .ref (ad 0)), (1, .int (nI (wst (fun o => sm (gnX su fa wf kd o) n) i))), (2, .int ((fun o => sm (gnX su fa wf kd o) n) (wst (fun o => sm (gnX su fa wf kd o) n) i))), (3, .int (nI i))] → RdW p l e 5 s m [.ref (ad 0)] below meth c H (some (.int (nI (wst (fun o => sm (gnX su fa wf kd o) n) N)))) (F0 m 10 ls []) := by
    intro n9
    induction n9 with
    | zero => intro i  ls hi hf h1 hl; exact absurd hf (by omega)
    | succ n9 ih10 =>
      intro i  ls hi hf h1 hl
      refine lv_iload_n hx hb dX2_worstOutcome_10 rfl (lv_at hl 3 rfl) ?_
      refine lv_aload_n hx hb dX2_worstOutcome_11 rfl (lv_at hl 0 rfl) ?_
      refine va_get (D := D) (ci := 3) (v := .ref (ad 1)) (C := RX2) (T := TX2) (N := 5) hx hb hts inlX2 hown hK hP 0 rfl rfl 0 (by decide) (hts (Cond.fieldLink RX2 12 "TavernDice" "dice" "LTavernDice$Dice;") mw_1_14) (fun _ h9 => h9) rfl dX2_worstOutcome_12 ?_
      refine va_get (D := D) (ci := 1) (v := .int (nI N)) (C := RX0) (T := TX0) (N := 4) hx hb hts inlX0 hown hK hP 1 rfl rfl 3 (by decide) (hts (Cond.fieldLink RX2 58 "TavernDice$Dice" "outcomes" "I") mw_5_10) (fun _ h9 => h9) rfl dX2_worstOutcome_15 ?_
      refine lv_icmp_ge (tgt := 45) hx hb dX2_worstOutcome_18 (by decide) (fun c_1 => ?_) (fun c_1 => ?_)
      · refine lv_iload_n hx hb dX2_worstOutcome_45 rfl (lv_at hl 1 rfl) ?_
        exact rd_iret hH hx hb hr hlocks (rv (by rw [show i = N from (by have g := (nI_leI (by omega) (by omega)).mp c_1; omega)])) dX2_worstOutcome_46
      · have hlt : i < N := by
          rcases Nat.lt_or_ge i N with q | q
          · exact q
          · exact absurd (nI_le q (by omega)) c_1
        refine lv_aload_n hx hb dX2_worstOutcome_21 rfl (lv_at hl 0 rfl) ?_
        refine lv_iload_n hx hb dX2_worstOutcome_22 rfl (lv_at hl 3 rfl) ?_
        refine rdV (As := [.int (nI i)]) (rest := []) (b := ad 0) ⟨hx, hb, hml, hown, hts⟩ hK 1 (c_gainOfAll l D cs H RR0 i (by omega)) (gin_v mw_8_22 mw_8_23 mw_9_0 mw_1_2 mw_9_1) (by decide +kernel) ⟨Nat.le_of_ble_eq_true rfl, Nat.le_of_ble_eq_true rfl⟩ (va_recv hK hP (ci := 3) (q0 := 0) rfl rfl) rfl hl.1 rfl (Nat.le_of_ble_eq_true rfl) dX2_worstOutcome_23 ⟨(Nat.zero_le _), (Nat.zero_le _)⟩ ?_
        refine W.eq (g2 := F0 m 26 ls [.int (sm (gnX su fa wf kd i) n)]) rfl ?_
        refine lv_rwi (y := (fun o => sm (gnX su fa wf kd o) n) i) (rfl) ?_
        refine lv_istore (lv' := [(4, .int ((fun o => sm (gnX su fa wf kd o) n) i)), (0, .ref (ad 0)), (1, .int (nI (wst (fun o => sm (gnX su fa wf kd o) n) i))), (2, .int ((fun o => sm (gnX su fa wf kd o) n) (wst (fun o => sm (gnX su fa wf kd o) n) i))), (3, .int (nI i))]) hx hb dX2_worstOutcome_26 hl (by decide) rfl (fun ls hl => ?_)
        refine lv_iload hx hb dX2_worstOutcome_28 (lv_at hl 0 rfl) ?_
        refine lv_iload_n hx hb dX2_worstOutcome_30 rfl (lv_at hl 3 rfl) ?_
        refine lv_icmp_ge (tgt := 39) hx hb dX2_worstOutcome_31 (by decide) (fun c_2 => ?_) (fun c_2 => ?_)
        · have hl : lv_has ls 5 [(4, .int ((fun o => sm (gnX su fa wf kd o) n) i)), (0, .ref (ad 0)), (1, .int (nI (wst (fun o => sm (gnX su fa wf kd o) n) (i + 1)))), (2, .int ((fun o => sm (gnX su fa wf kd o) n) (wst (fun o => sm (gnX su fa wf kd o) n) (i + 1)))), (3, .int (nI i))] := by rw [show wst (fun o => sm (gnX su fa wf kd o) n) (i + 1) = wst (fun o => sm (gnX su fa wf kd o) n) i from if_neg (fun z => absurd (fa_trans z c_2) Int32.lt_irrefl)]; exact hl
          refine lv_iinc (v := nI (i + 1)) (lv' := [(3, .int (nI (i + 1))), (4, .int ((fun o => sm (gnX su fa wf kd o) n) i)), (0, .ref (ad 0)), (1, .int (nI (wst (fun o => sm (gnX su fa wf kd o) n) (i + 1)))), (2, .int ((fun o => sm (gnX su fa wf kd o) n) (wst (fun o => sm (gnX su fa wf kd o) n) (i + 1))))]) hx hb dX2_worstOutcome_39 hl (k := 4) rfl (nI_1 i) (by decide) rfl (fun ls hl => ?_)
          refine lv_goto (tgt := 10) hx hb dX2_worstOutcome_42 (by decide) ?_
          exact ih10 (i + 1) ls (by omega) (by omega) (by omega) (lv_sub hl [2, 3, 4, 0] rfl)
        · refine lv_iload hx hb dX2_worstOutcome_34 (lv_at hl 0 rfl) ?_
          refine lv_istore_n (lv' := [(2, .int ((fun o => sm (gnX su fa wf kd o) n) i)), (4, .int ((fun o => sm (gnX su fa wf kd o) n) i)), (0, .ref (ad 0)), (1, .int (nI (wst (fun o => sm (gnX su fa wf kd o) n) i))), (3, .int (nI i))]) hx hb dX2_worstOutcome_36 rfl hl (by decide) rfl (fun ls hl => ?_)
          refine lv_iload_n hx hb dX2_worstOutcome_37 rfl (lv_at hl 4 rfl) ?_
          refine lv_istore_n (lv' := [(1, .int (nI i)), (2, .int ((fun o => sm (gnX su fa wf kd o) n) i)), (4, .int ((fun o => sm (gnX su fa wf kd o) n) i)), (0, .ref (ad 0)), (3, .int (nI i))]) hx hb dX2_worstOutcome_38 rfl hl (by decide) rfl (fun ls hl => ?_)
          have hl : lv_has ls 5 [(1, .int (nI (wst (fun o => sm (gnX su fa wf kd o) n) (i + 1)))), (2, .int ((fun o => sm (gnX su fa wf kd o) n) (wst (fun o => sm (gnX su fa wf kd o) n) (i + 1)))), (4, .int ((fun o => sm (gnX su fa wf kd o) n) i)), (0, .ref (ad 0)), (3, .int (nI i))] := by rw [show wst (fun o => sm (gnX su fa wf kd o) n) (i + 1) = i from if_pos (fa_of_nle c_2)]; exact hl
          refine lv_iinc (v := nI (i + 1)) (lv' := [(3, .int (nI (i + 1))), (1, .int (nI (wst (fun o => sm (gnX su fa wf kd o) n) (i + 1)))), (2, .int ((fun o => sm (gnX su fa wf kd o) n) (wst (fun o => sm (gnX su fa wf kd o) n) (i + 1)))), (4, .int ((fun o => sm (gnX su fa wf kd o) n) i)), (0, .ref (ad 0))]) hx hb dX2_worstOutcome_39 hl (k := 4) rfl (nI_1 i) (by decide) rfl (fun ls hl => ?_)
          refine lv_goto (tgt := 10) hx hb dX2_worstOutcome_42 (by decide) ?_
          exact ih10 (i + 1) ls (by omega) (by omega) (by omega) (lv_sub hl [4, 1, 2, 0] rfl)
  exact loop10 N 1 ls hN1 (by omega) (Nat.le_refl 1) (lv_sub hl [3, 2, 1, 0] rfl)
