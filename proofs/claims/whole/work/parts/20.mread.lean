/-! the reference: what it reads, second part; rows by program -/
theorem m_comes5 (l : Launch) (D : va_G) (cs : Nat → ClassId) (H : Heap) {am : Nat → Nat} {th bank rnds : Int32} {dn N n : Nat} {fc pu wh kn nm sk br ht sg : Nat → Int32} (hP : va_P D vwCl (wM cs am th bank rnds dn N n fc pu wh kn nm sk br ht sg) H) {fn : Nat → Nat} (hF : FM fn dn N n fc) (k : Nat) (hk : k < 5) (q : Int32) (o : Nat) (ho : o < 1728) : Rd l D (Ty cs) 3 yX3_comes cX3_comes 6 (some .boolean) H [.ref (am 0), .int (nI k), .int q, .int (nI o)] (some (.int (b2i (holdsM fn dn k q o)))) := by
  match k, hk with
  | 0, _ => exact m_comes0 l D cs H hP hF q o ho
  | 1, _ => exact m_comes1 l D cs H hP hF q o ho
  | 2, _ => exact m_comes2 l D cs H hP hF q o ho
  | 3, _ => exact m_comes3 l D cs H hP hF q o ho
  | 4, _ => exact m_comes4 l D cs H hP hF q o ho
  | k + 5, h => exact absurd h (by omega)
set_option maxHeartbeats 4000000 in
set_option maxRecDepth 100000 in
theorem m_comesH (l : Launch) (D : va_G) (cs : Nat → ClassId) (H : Heap) {am : Nat → Nat} {th bank rnds : Int32} {dn N n : Nat} {fc pu wh kn nm sk br ht sg : Nat → Int32} (hP : va_P D vwCl (wM cs am th bank rnds dn N n fc pu wh kn nm sk br ht sg) H) {fn : Nat → Nat} (hF : FM fn dn N n fc) (k : Nat) (hk5 : 5 ≤ k) (hk : k < 10) (q : Int32) (o : Nat) (ho : o < 1728) : Rd l D (Ty cs) 4 yX3_comes cX3_comes 6 (some .boolean) H [.ref (am 0), .int (nI k), .int q, .int (nI o)] (some (.int (b2i (comesM fn dn k q o)))) := by
  refine rd_ent (by decide) (Nat.le_of_ble_eq_true rfl) ?_
  intro p e s m below meth c ls hx hb hr hml hown hts hlocks hl hH hK
  have hl : lv_has ls 6 [(0, .ref (am 0)), (1, .int (nI k)), (2, .int q), (3, .int (nI o))] := hl
  have hF0 := hF
  obtain ⟨hF3, hd1, hd3, hNe, hN1, hN, hn⟩ := hF
  refine lv_iload_n hx hb dX3_comes_0 rfl (lv_at hl 1 rfl) ?_
  refine lv_iconst (v := nI 5) hx hb dX3_comes_1 (by first | decide | rfl) ?_
  refine lv_icmp_lt (tgt := 23) hx hb dX3_comes_2 (by decide) (fun c_1 => False.elim (absurd c_1 (nI_nlt hk5 (by omega)))) (fun c_1 => ?_)
  refine lv_aload_n hx hb dX3_comes_5 rfl (lv_at hl 0 rfl) ?_
  refine lv_iload_n hx hb dX3_comes_6 rfl (lv_at hl 1 rfl) ?_
  refine lv_iconst (v := nI 5) hx hb dX3_comes_7 (by first | decide | rfl) ?_
  refine lv_isub hx hb dX3_comes_8 ?_
  refine lv_rwi (y := nI (k - 5)) (pk_sub hk5) ?_
  refine lv_iload_n hx hb dX3_comes_9 rfl (lv_at hl 2 rfl) ?_
  refine lv_iload_n hx hb dX3_comes_10 rfl (lv_at hl 3 rfl) ?_
  refine rdV (As := [.int (nI (k - 5)), .int q, .int (nI o)]) (rest := []) (b := am 0) ⟨hx, hb, hml, hown, hts⟩ hK 3 (m_comes5 l D cs H hP hF0 ((k - 5)) (by omega) q o (by omega)) (gin_v mw_14_20 mw_14_21 mw_14_22 mw_1_5 mw_14_23) (by decide +kernel) ⟨Nat.le_of_ble_eq_true rfl, Nat.le_of_ble_eq_true rfl⟩ (va_recv hK hP (ci := 4) (q0 := 0) rfl rfl) rfl hl.1 rfl (Nat.le_of_ble_eq_true rfl) dX3_comes_11 ⟨(Nat.zero_le _), (Nat.zero_le _)⟩ ?_
  refine W.eq (g2 := F0 m 14 ls [.int (b2i (holdsM fn dn ((k - 5)) q o))]) rfl ?_
  refine lv_if_ne (tgt := 21) hx hb dX3_comes_14 (by decide) (fun c_2 => ?_) (fun c_2 => ?_)
  · refine lv_iconst (v := 0) hx hb dX3_comes_21 (by first | decide | rfl) ?_
    exact rd_zret hH hx hb hr hlocks (rb0 (by rw [(show comesM fn dn k q o = !(holdsM fn dn (k - 5) q o) from if_neg (by omega)), (b2i_ne0 _).mp c_2]; rfl)) (by decide) dX3_comes_22
  · refine lv_iconst (v := 1) hx hb dX3_comes_17 (by first | decide | rfl) ?_
    refine lv_goto (tgt := 22) hx hb dX3_comes_18 (by decide) ?_
    exact rd_zret hH hx hb hr hlocks (rb1 (by rw [(show comesM fn dn k q o = !(holdsM fn dn (k - 5) q o) from if_neg (by omega)), (b2i_eq0 _).mp c_2]; rfl)) (by decide) dX3_comes_22
theorem m_comes (l : Launch) (D : va_G) (cs : Nat → ClassId) (H : Heap) {am : Nat → Nat} {th bank rnds : Int32} {dn N n : Nat} {fc pu wh kn nm sk br ht sg : Nat → Int32} (hP : va_P D vwCl (wM cs am th bank rnds dn N n fc pu wh kn nm sk br ht sg) H) {fn : Nat → Nat} (hF : FM fn dn N n fc) (k : Nat) (hk : k < 10) (q : Int32) (o : Nat) (ho : o < 1728) : Rd l D (Ty cs) 4 yX3_comes cX3_comes 6 (some .boolean) H [.ref (am 0), .int (nI k), .int q, .int (nI o)] (some (.int (b2i (comesM fn dn k q o)))) := by
  rcases Nat.lt_or_ge k 5 with h | h
  · rw [show comesM fn dn k q o = holdsM fn dn k q o from if_pos h]
    match k, h with
    | 0, _ => exact m_comesB0 l D cs H hP hF q o ho
    | 1, _ => exact m_comesB1 l D cs H hP hF q o ho
    | 2, _ => exact m_comesB2 l D cs H hP hF q o ho
    | 3, _ => exact m_comesB3 l D cs H hP hF q o ho
    | 4, _ => exact m_comesB4 l D cs H hP hF q o ho
    | k + 5, h => exact absurd h (by omega)
  · exact m_comesH l D cs H hP hF k h hk q o ho
set_option maxHeartbeats 4000000 in
set_option maxRecDepth 100000 in
theorem m_without (l : Launch) (D : va_G) (cs : Nat → ClassId) (H : Heap) {am : Nat → Nat} {th bank rnds : Int32} {dn N n : Nat} {fc pu wh kn nm sk br ht sg : Nat → Int32} (hP : va_P D vwCl (wM cs am th bank rnds dn N n fc pu wh kn nm sk br ht sg) H) {fn : Nat → Nat} (hF : FM fn dn N n fc) (q : Int32) : Rd l D (Ty cs) 2 yX3_without cX3_without 4 (some .int) H [.ref (am 0), .int q] (some (.int (nI (withoutM fn q dn)))) := by
  refine rd_ent (by decide) (Nat.le_of_ble_eq_true rfl) ?_
  intro p e s m below meth c ls hx hb hr hml hown hts hlocks hl hH hK
  have hl : lv_has ls 4 [(0, .ref (am 0)), (1, .int q)] := hl
  have hF0 := hF
  obtain ⟨hF3, hd1, hd3, hNe, hN1, hN, hn⟩ := hF
  refine lv_iconst (v := nI (withoutM fn q 0)) hx hb dX3_without_0 (by first | decide | rfl) ?_
  refine lv_istore_n (lv' := [(2, .int (nI (withoutM fn q 0))), (0, .ref (am 0)), (1, .int q)]) hx hb dX3_without_1 rfl hl (by decide) rfl (fun ls hl => ?_)
  refine lv_iconst (v := nI 0) hx hb dX3_without_2 (by first | decide | rfl) ?_
  refine lv_istore_n (lv' := [(3, .int (nI 0)), (2, .int (nI (withoutM fn q 0))), (0, .ref (am 0)), (1, .int q)]) hx hb dX3_without_3 rfl hl (by decide) rfl (fun ls hl => ?_)
  have loop4 : ∀ (n9 : Nat) (i : Nat) (ls : Array Slot), i ≤ dn → dn + 1 ≤ i + n9 → lv_has ls 4 [(0, .ref (am 0)), (1, .int q), (2, .int (nI (withoutM fn q i))), (3, .int (nI i))] → RdW p l e 2 s m [.ref (am 0), .int q] below meth c H (some (.int (nI (withoutM fn q dn)))) (F0 m 4 ls []) := by
    intro n9
    induction n9 with
    | zero => intro i  ls hi hf hl; exact absurd hf (by omega)
    | succ n9 ih4 =>
      intro i  ls hi hf hl
      refine lv_iload_n hx hb dX3_without_4 rfl (lv_at hl 3 rfl) ?_
      refine lv_aload_n hx hb dX3_without_5 rfl (lv_at hl 0 rfl) ?_
      refine va_get (D := D) (ci := 4) (v := .int (nI dn)) (C := RX3) (T := TX3) (N := 15) hx hb hts inlX3 hown hK hP 0 rfl rfl 2 (by decide) (hts (Cond.fieldLink RX3 13 "TavernDiceModel" "dice" "I") mw_3_20) (fun _ h9 => h9) rfl dX3_without_6 ?_
      refine lv_icmp_ge (tgt := 52) hx hb dX3_without_9 (by decide) (fun c_1 => ?_) (fun c_1 => ?_)
      · refine lv_iload_n hx hb dX3_without_52 rfl (lv_at hl 2 rfl) ?_
        exact rd_iret hH hx hb hr hlocks (rv (by rw [show i = dn from (by have g := (nI_leI (by omega) (by omega)).mp c_1; omega)])) dX3_without_53
      · have hlt : i < dn := by
          rcases Nat.lt_or_ge i dn with q | q
          · exact q
          · exact absurd (nI_le q (by omega)) c_1
        refine lv_iload_n hx hb dX3_without_12 rfl (lv_at hl 2 rfl) ?_
        refine lv_iload_n hx hb dX3_without_13 rfl (lv_at hl 1 rfl) ?_
        refine lv_iconst (v := 1) hx hb dX3_without_14 (by first | decide | rfl) ?_
        refine lv_aload_n hx hb dX3_without_15 rfl (lv_at hl 0 rfl) ?_
        refine va_get (D := D) (ci := 4) (v := .ref (am 1)) (C := RX3) (T := TX3) (N := 15) hx hb hts inlX3 hown hK hP 0 rfl rfl 1 (by decide) (hts (Cond.fieldLink RX3 9 "TavernDiceModel" "faces" "[I") mw_3_19) (fun _ h9 => h9) rfl dX3_without_16 ?_
        refine lv_iload_n hx hb dX3_without_19 rfl (lv_at hl 3 rfl) ?_
        refine va_iald hx hb hK hP 1 0 rfl rfl (vp_in_nI (by omega) (by omega)) dX3_without_20 ?_
        refine lv_rwi (y := nI (fn i)) ((congrArg fc (nI_clamp (by omega))).trans (hF3 i (by omega)).1) ?_
        refine rdS (As := [.int q, .int 1, .int (nI (fn i))]) (rest := [.int (nI (withoutM fn q i))]) ⟨hx, hb, hml, hown, hts⟩ hK 3 (m_isIn l D cs H q 1 (nI (fn i))) (gin_s mw_5_23 mw_6_0 mw_1_5 mw_6_1) (by decide +kernel) ⟨Nat.le_of_ble_eq_true rfl, Nat.le_of_ble_eq_true rfl⟩ rfl hl.1 rfl (Nat.le_of_ble_eq_true rfl) dX3_without_21 ⟨(Nat.zero_le _), (Nat.zero_le _)⟩ ?_
        refine W.eq (g2 := F0 m 24 ls [.int (b2i (inM q 1 (nI (fn i)))), .int (nI (withoutM fn q i))]) rfl ?_
        refine lv_if_eq (tgt := 38) hx hb dX3_without_24 (by decide) (fun c_2 => ?_) (fun c_2 => ?_)
        · refine lv_aload_n hx hb dX3_without_38 rfl (lv_at hl 0 rfl) ?_
          refine va_get (D := D) (ci := 4) (v := .ref (am 1)) (C := RX3) (T := TX3) (N := 15) hx hb hts inlX3 hown hK hP 0 rfl rfl 1 (by decide) (hts (Cond.fieldLink RX3 9 "TavernDiceModel" "faces" "[I") mw_3_19) (fun _ h9 => h9) rfl dX3_without_39 ?_
          refine lv_iload_n hx hb dX3_without_42 rfl (lv_at hl 3 rfl) ?_
          refine va_iald hx hb hK hP 1 0 rfl rfl (vp_in_nI (by omega) (by omega)) dX3_without_43 ?_
          refine lv_rwi (y := nI (fn i)) ((congrArg fc (nI_clamp (by omega))).trans (hF3 i (by omega)).1) ?_
          refine lv_imul hx hb dX3_without_44 ?_
          refine lv_rwi (y := nI (withoutM fn q (i + 1))) (by rw [pk_mul]; show _ = nI (withoutM fn q i * (if inM q 1 (nI (fn i)) then fn i - 1 else fn i)); rw [(b2i_eq0 _).mp c_2]; rfl) ?_
          refine lv_istore_n (lv' := [(2, .int (nI (withoutM fn q (i + 1)))), (0, .ref (am 0)), (1, .int q), (3, .int (nI i))]) hx hb dX3_without_45 rfl hl (by decide) rfl (fun ls hl => ?_)
          refine lv_iinc (v := nI (i + 1)) (lv' := [(3, .int (nI (i + 1))), (2, .int (nI (withoutM fn q (i + 1)))), (0, .ref (am 0)), (1, .int q)]) hx hb dX3_without_46 hl (k := 3) rfl (nI_1 i) (by decide) rfl (fun ls hl => ?_)
          refine lv_goto (tgt := 4) hx hb dX3_without_49 (by decide) ?_
          exact ih4 (i + 1) ls (by omega) (by omega) (lv_sub hl [2, 3, 1, 0] rfl)
        · refine lv_aload_n hx hb dX3_without_27 rfl (lv_at hl 0 rfl) ?_
          refine va_get (D := D) (ci := 4) (v := .ref (am 1)) (C := RX3) (T := TX3) (N := 15) hx hb hts inlX3 hown hK hP 0 rfl rfl 1 (by decide) (hts (Cond.fieldLink RX3 9 "TavernDiceModel" "faces" "[I") mw_3_19) (fun _ h9 => h9) rfl dX3_without_28 ?_
          refine lv_iload_n hx hb dX3_without_31 rfl (lv_at hl 3 rfl) ?_
          refine va_iald hx hb hK hP 1 0 rfl rfl (vp_in_nI (by omega) (by omega)) dX3_without_32 ?_
          refine lv_rwi (y := nI (fn i)) ((congrArg fc (nI_clamp (by omega))).trans (hF3 i (by omega)).1) ?_
          refine lv_iconst (v := 1) hx hb dX3_without_33 (by first | decide | rfl) ?_
          refine lv_isub hx hb dX3_without_34 ?_
          refine lv_rwi (y := nI (fn i - 1)) (pk_sub (b := 1) (hF3 i (by omega)).2.1) ?_
          refine lv_goto (tgt := 44) hx hb dX3_without_35 (by decide) ?_
          refine lv_imul hx hb dX3_without_44 ?_
          refine lv_rwi (y := nI (withoutM fn q (i + 1))) (by rw [pk_mul]; show _ = nI (withoutM fn q i * (if inM q 1 (nI (fn i)) then fn i - 1 else fn i)); rw [(b2i_ne0 _).mp c_2]; rfl) ?_
          refine lv_istore_n (lv' := [(2, .int (nI (withoutM fn q (i + 1)))), (0, .ref (am 0)), (1, .int q), (3, .int (nI i))]) hx hb dX3_without_45 rfl hl (by decide) rfl (fun ls hl => ?_)
          refine lv_iinc (v := nI (i + 1)) (lv' := [(3, .int (nI (i + 1))), (2, .int (nI (withoutM fn q (i + 1)))), (0, .ref (am 0)), (1, .int q)]) hx hb dX3_without_46 hl (k := 3) rfl (nI_1 i) (by decide) rfl (fun ls hl => ?_)
          refine lv_goto (tgt := 4) hx hb dX3_without_49 (by decide) ?_
          exact ih4 (i + 1) ls (by omega) (by omega) (lv_sub hl [2, 3, 1, 0] rfl)
  exact loop4 (dn + 1) 0 ls (Nat.zero_le _) (by omega) (lv_sub hl [2, 3, 1, 0] rfl)
set_option maxHeartbeats 4000000 in
set_option maxRecDepth 100000 in
theorem m_divisor (l : Launch) (D : va_G) (cs : Nat → ClassId) (H : Heap) (t : Int32) (u v : Nat) (ht : absI t = nI u) (hu : u < 2 ^ 31) (hv : v < 2 ^ 31) : Rd l D (Ty cs) 1 yX3_divisor cX3_divisor 5 (some .int) H [.int t, .int (nI v)] (some (.int (nI (Nat.gcd u v)))) := by
  refine rd_ent (by decide) (Nat.le_of_ble_eq_true rfl) ?_
  intro p e s m below meth c ls hx hb hr hml hown hts hlocks hl hH hK
  have hl : lv_has ls 5 [(0, .int t), (1, .int (nI v))] := hl
  refine lv_iload_n hx hb dX3_divisor_0 rfl (lv_at hl 0 rfl) ?_
  refine va_mabs hx hb (hml.trans hl.1.symm) hown (hts (Cond.methodLink RX3 86 Lib.Math.abs.name) mw_23_15) (hts (Cond.static Lib.Math.abs.name) mw_22_21) (hts (Cond.initialized "java/lang/Math") mw_2_15) (hts (Cond.code Lib.Math.abs.name Lib.Math.abs.code 1 (some .int)) mw_22_22) (Nat.le_of_ble_eq_true rfl) (Nat.le_of_ble_eq_true rfl) (Nat.zero_le _) (Nat.zero_le _) dX3_divisor_1 ?_
  refine lv_rwi (y := nI u) (ht) ?_
  refine lv_istore_n (lv' := [(2, .int (nI u)), (0, .int t), (1, .int (nI v))]) hx hb dX3_divisor_4 rfl hl (by decide) rfl (fun ls hl => ?_)
  refine lv_iload_n hx hb dX3_divisor_5 rfl (lv_at hl 2 rfl) ?_
  refine lv_istore_n (lv' := [(3, .int (nI v)), (2, .int (nI u)), (0, .int t), (1, .int (nI v))]) hx hb dX3_divisor_6 rfl hl (by decide) rfl (fun ls hl => ?_)
  have loop7 : ∀ (n9 : Nat) (a9 b9 : Nat) (ls : Array Slot), a9 < 2 ^ 31 → b9 < 2 ^ 31 → a9 + 1 ≤ n9 → Nat.gcd a9 b9 = Nat.gcd u v → lv_has ls 5 [(0, .int t), (1, .int (nI v)), (2, .int (nI a9)), (3, .int (nI b9))] → RdW p l e 1 s m [.int t, .int (nI v)] below meth c H (some (.int (nI (Nat.gcd u v)))) (F0 m 7 ls []) := by
    intro n9
    induction n9 with
    | zero => intro a9 b9  ls ha hb9 hf hE hl; exact absurd hf (by omega)
    | succ n9 ih7 =>
      intro a9 b9  ls ha hb9 hf hE hl
      refine lv_iload_n hx hb dX3_divisor_7 rfl (lv_at hl 2 rfl) ?_
      refine lv_if_eq (tgt := 24) hx hb dX3_divisor_8 (by decide) (fun c_1 => ?_) (fun c_1 => ?_)
      · refine lv_iload_n hx hb dX3_divisor_24 rfl (lv_at hl 3 rfl) ?_
        exact rd_iret hH hx hb hr hlocks (rv (by rw [← hE, (nI_eq (b := 0) (by omega) (by omega)).mp c_1, Nat.gcd_zero_left])) dX3_divisor_25
      · refine lv_iload_n hx hb dX3_divisor_11 rfl (lv_at hl 3 rfl) ?_
        refine lv_iload_n hx hb dX3_divisor_12 rfl (lv_at hl 2 rfl) ?_
        refine lv_irem hx hb dX3_divisor_13 (c_1) ?_
        refine lv_rwi (y := nI (b9 % a9)) (pk_rem (by omega) (by have g : a9 ≠ 0 := (fun z => c_1 (by rw [z]; rfl)); omega) (by omega)) ?_
        refine lv_istore (lv' := [(4, .int (nI (b9 % a9))), (0, .int t), (1, .int (nI v)), (2, .int (nI a9)), (3, .int (nI b9))]) hx hb dX3_divisor_14 hl (by decide) rfl (fun ls hl => ?_)
        refine lv_iload_n hx hb dX3_divisor_16 rfl (lv_at hl 3 rfl) ?_
        refine lv_istore_n (lv' := [(3, .int (nI a9)), (4, .int (nI (b9 % a9))), (0, .int t), (1, .int (nI v)), (2, .int (nI a9))]) hx hb dX3_divisor_17 rfl hl (by decide) rfl (fun ls hl => ?_)
        refine lv_iload hx hb dX3_divisor_18 (lv_at hl 1 rfl) ?_
        refine lv_istore_n (lv' := [(2, .int (nI (b9 % a9))), (3, .int (nI a9)), (4, .int (nI (b9 % a9))), (0, .int t), (1, .int (nI v))]) hx hb dX3_divisor_20 rfl hl (by decide) rfl (fun ls hl => ?_)
        refine lv_goto (tgt := 7) hx hb dX3_divisor_21 (by decide) ?_
        exact ih7 (b9 % a9) a9 ls (by have g : a9 ≠ 0 := (fun z => c_1 (by rw [z]; rfl)); have g2 := Nat.mod_lt b9 (show a9 > 0 by omega); omega) (by omega) (by have g : a9 ≠ 0 := (fun z => c_1 (by rw [z]; rfl)); have g2 := Nat.mod_lt b9 (show a9 > 0 by omega); omega) (by rw [← hE, Nat.gcd_rec a9 b9]) (lv_sub hl [3, 4, 0, 1] rfl)
  exact loop7 (u + 1) u v ls hu hv (by omega) rfl (lv_sub hl [2, 3, 1, 0] rfl)
set_option maxHeartbeats 4000000 in
set_option maxRecDepth 100000 in
theorem m_top (l : Launch) (D : va_G) (cs : Nat → ClassId) (H : Heap) {am : Nat → Nat} {th bank rnds : Int32} {dn N n : Nat} {fc pu wh kn nm sk br ht sg : Nat → Int32} (hP : va_P D vwCl (wM cs am th bank rnds dn N n fc pu wh kn nm sk br ht sg) H) {fn : Nat → Nat} (hF : FM fn dn N n fc) (g9 : Int32) (u : Nat) (hu1 : absI g9 = nI u) (hu2 : u < 2 ^ 31) : Rd l D (Ty cs) 2 yX3_top cX3_top 2 (some .int) H [.ref (am 0), .int g9] (some (.int (g9 / nI (Nat.gcd u N)))) := by
  refine rd_ent (by decide) (Nat.le_of_ble_eq_true rfl) ?_
  intro p e s m below meth c ls hx hb hr hml hown hts hlocks hl hH hK
  have hl : lv_has ls 2 [(0, .ref (am 0)), (1, .int g9)] := hl
  have hF0 := hF
  obtain ⟨hF3, hd1, hd3, hNe, hN1, hN, hn⟩ := hF
  refine lv_iload_n hx hb dX3_top_0 rfl (lv_at hl 1 rfl) ?_
  refine lv_iload_n hx hb dX3_top_1 rfl (lv_at hl 1 rfl) ?_
  refine lv_aload_n hx hb dX3_top_2 rfl (lv_at hl 0 rfl) ?_
  refine va_get (D := D) (ci := 4) (v := .int (nI N)) (C := RX3) (T := TX3) (N := 15) hx hb hts inlX3 hown hK hP 0 rfl rfl 3 (by decide) (hts (Cond.fieldLink RX3 17 "TavernDiceModel" "outcomes" "I") mw_3_21) (fun _ h9 => h9) rfl dX3_top_3 ?_
  refine rdS (As := [.int g9, .int (nI N)]) (rest := [.int g9]) ⟨hx, hb, hml, hown, hts⟩ hK 2 (m_divisor l D cs H g9 u N hu1 hu2 (by omega)) (gin_s mw_23_12 mw_23_13 mw_1_5 mw_23_14) (by decide +kernel) ⟨Nat.le_of_ble_eq_true rfl, Nat.le_of_ble_eq_true rfl⟩ rfl hl.1 rfl (Nat.le_of_ble_eq_true rfl) dX3_top_6 ⟨(Nat.zero_le _), (Nat.zero_le _)⟩ ?_
  refine W.eq (g2 := F0 m 9 ls [.int (nI (Nat.gcd u N)), .int g9]) rfl ?_
  refine lv_idiv hx hb dX3_top_9 (nI_ne0 (Nat.gcd_pos_of_pos_right u (by omega)) (Nat.lt_of_le_of_lt (Nat.gcd_le_right u (by omega)) (by omega))) ?_
  exact rd_iret hH hx hb hr hlocks (rfl) dX3_top_10
set_option maxHeartbeats 4000000 in
set_option maxRecDepth 100000 in
theorem m_bottom (l : Launch) (D : va_G) (cs : Nat → ClassId) (H : Heap) {am : Nat → Nat} {th bank rnds : Int32} {dn N n : Nat} {fc pu wh kn nm sk br ht sg : Nat → Int32} (hP : va_P D vwCl (wM cs am th bank rnds dn N n fc pu wh kn nm sk br ht sg) H) {fn : Nat → Nat} (hF : FM fn dn N n fc) (g9 : Int32) (u : Nat) (hu1 : absI g9 = nI u) (hu2 : u < 2 ^ 31) : Rd l D (Ty cs) 2 yX3_bottom cX3_bottom 2 (some .int) H [.ref (am 0), .int g9] (some (.int (nI N / nI (Nat.gcd u N)))) := by
  refine rd_ent (by decide) (Nat.le_of_ble_eq_true rfl) ?_
  intro p e s m below meth c ls hx hb hr hml hown hts hlocks hl hH hK
  have hl : lv_has ls 2 [(0, .ref (am 0)), (1, .int g9)] := hl
  have hF0 := hF
  obtain ⟨hF3, hd1, hd3, hNe, hN1, hN, hn⟩ := hF
  refine lv_aload_n hx hb dX3_bottom_0 rfl (lv_at hl 0 rfl) ?_
  refine va_get (D := D) (ci := 4) (v := .int (nI N)) (C := RX3) (T := TX3) (N := 15) hx hb hts inlX3 hown hK hP 0 rfl rfl 3 (by decide) (hts (Cond.fieldLink RX3 17 "TavernDiceModel" "outcomes" "I") mw_3_21) (fun _ h9 => h9) rfl dX3_bottom_1 ?_
  refine lv_iload_n hx hb dX3_bottom_4 rfl (lv_at hl 1 rfl) ?_
  refine lv_aload_n hx hb dX3_bottom_5 rfl (lv_at hl 0 rfl) ?_
  refine va_get (D := D) (ci := 4) (v := .int (nI N)) (C := RX3) (T := TX3) (N := 15) hx hb hts inlX3 hown hK hP 0 rfl rfl 3 (by decide) (hts (Cond.fieldLink RX3 17 "TavernDiceModel" "outcomes" "I") mw_3_21) (fun _ h9 => h9) rfl dX3_bottom_6 ?_
  refine rdS (As := [.int g9, .int (nI N)]) (rest := [.int (nI N)]) ⟨hx, hb, hml, hown, hts⟩ hK 2 (m_divisor l D cs H g9 u N hu1 hu2 (by omega)) (gin_s mw_23_12 mw_23_13 mw_1_5 mw_23_14) (by decide +kernel) ⟨Nat.le_of_ble_eq_true rfl, Nat.le_of_ble_eq_true rfl⟩ rfl hl.1 rfl (Nat.le_of_ble_eq_true rfl) dX3_bottom_9 ⟨(Nat.zero_le _), (Nat.zero_le _)⟩ ?_
  refine W.eq (g2 := F0 m 12 ls [.int (nI (Nat.gcd u N)), .int (nI N)]) rfl ?_
  refine lv_idiv hx hb dX3_bottom_12 (nI_ne0 (Nat.gcd_pos_of_pos_right u (by omega)) (Nat.lt_of_le_of_lt (Nat.gcd_le_right u (by omega)) (by omega))) ?_
  exact rd_iret hH hx hb hr hlocks (rfl) dX3_bottom_13
set_option maxHeartbeats 4000000 in
set_option maxRecDepth 100000 in
theorem m_gain (l : Launch) (D : va_G) (cs : Nat → ClassId) (H : Heap) {am : Nat → Nat} {th bank rnds : Int32} {dn N n : Nat} {fc pu wh kn nm sk br ht sg : Nat → Int32} (hP : va_P D vwCl (wM cs am th bank rnds dn N n fc pu wh kn nm sk br ht sg) H) {fn : Nat → Nat} (hF : FM fn dn N n fc) (o : Nat) (ho : o < 1728) : Rd l D (Ty cs) 1 yX3_gain cX3_gain 4 (some .int) H [.ref (am 0), .int (nI o)] (some (.int (sm (gnM ht sk br o) n))) := by
  refine rd_ent (by decide) (Nat.le_of_ble_eq_true rfl) ?_
  intro p e s m below meth c ls hx hb hr hml hown hts hlocks hl hH hK
  have hl : lv_has ls 4 [(0, .ref (am 0)), (1, .int (nI o))] := hl
  have hF0 := hF
  obtain ⟨hF3, hd1, hd3, hNe, hN1, hN, hn⟩ := hF
  refine lv_iconst (v := sm (gnM ht sk br o) 0) hx hb dX3_gain_0 (by first | decide | rfl) ?_
  refine lv_istore_n (lv' := [(2, .int (sm (gnM ht sk br o) 0)), (0, .ref (am 0)), (1, .int (nI o))]) hx hb dX3_gain_1 rfl hl (by decide) rfl (fun ls hl => ?_)
  refine lv_iconst (v := nI 0) hx hb dX3_gain_2 (by first | decide | rfl) ?_
  refine lv_istore_n (lv' := [(3, .int (nI 0)), (2, .int (sm (gnM ht sk br o) 0)), (0, .ref (am 0)), (1, .int (nI o))]) hx hb dX3_gain_3 rfl hl (by decide) rfl (fun ls hl => ?_)
  have loop4 : ∀ (n9 : Nat) (i : Nat) (ls : Array Slot), i ≤ n → n + 1 ≤ i + n9 → lv_has ls 4 [(0, .ref (am 0)), (1, .int (nI o)), (2, .int (sm (gnM ht sk br o) i)), (3, .int (nI i))] → RdW p l e 1 s m [.ref (am 0), .int (nI o)] below meth c H (some (.int (sm (gnM ht sk br o) n))) (F0 m 4 ls []) := by
    intro n9
    induction n9 with
    | zero => intro i  ls hi hf hl; exact absurd hf (by omega)
    | succ n9 ih4 =>
      intro i  ls hi hf hl
      refine lv_iload_n hx hb dX3_gain_4 rfl (lv_at hl 3 rfl) ?_
      refine lv_aload_n hx hb dX3_gain_5 rfl (lv_at hl 0 rfl) ?_
      refine va_get (D := D) (ci := 4) (v := .int (nI n)) (C := RX3) (T := TX3) (N := 15) hx hb hts inlX3 hown hK hP 0 rfl rfl 7 (by decide) (hts (Cond.fieldLink RX3 51 "TavernDiceModel" "open" "I") mw_5_16) (fun _ h9 => h9) rfl dX3_gain_6 ?_
      refine lv_icmp_ge (tgt := 52) hx hb dX3_gain_9 (by decide) (fun c_1 => ?_) (fun c_1 => ?_)
      · refine lv_iload_n hx hb dX3_gain_52 rfl (lv_at hl 2 rfl) ?_
        exact rd_iret hH hx hb hr hlocks (rv (by rw [show i = n from (by have g := (nI_leI (by omega) (by omega)).mp c_1; omega)])) dX3_gain_53
      · have hlt : i < n := by
          rcases Nat.lt_or_ge i n with q | q
          · exact q
          · exact absurd (nI_le q (by omega)) c_1
        refine lv_iload_n hx hb dX3_gain_12 rfl (lv_at hl 2 rfl) ?_
        refine lv_aload_n hx hb dX3_gain_13 rfl (lv_at hl 0 rfl) ?_
        refine va_get (D := D) (ci := 4) (v := .ref (am 8)) (C := RX3) (T := TX3) (N := 15) hx hb hts inlX3 hown hK hP 0 rfl rfl 13 (by decide) (hts (Cond.fieldLink RX3 41 "TavernDiceModel" "isHit" "[Z") mw_4_6) (fun _ h9 => h9) rfl dX3_gain_14 ?_
        refine lv_sipush (v := nI 1728) hx hb dX3_gain_17 (by first | decide | rfl) ?_
        refine lv_iload_n hx hb dX3_gain_20 rfl (lv_at hl 3 rfl) ?_
        refine lv_imul hx hb dX3_gain_21 ?_
        refine lv_rwi (y := nI (1728 * i)) (pk_mul _ _) ?_
        refine lv_iload_n hx hb dX3_gain_22 rfl (lv_at hl 1 rfl) ?_
        refine lv_iadd hx hb dX3_gain_23 ?_
        refine lv_rwi (y := nI (1728 * i + o)) (nI_add _ _) ?_
        refine va_zald hx hb hK hP 8 1 rfl rfl (vp_in_nI (by omega) (by omega)) dX3_gain_24 ?_
        refine lv_rwi (y := ht (1728 * i + o)) (congrArg ht (nI_clamp (by omega))) ?_
        refine lv_if_eq (tgt := 38) hx hb dX3_gain_25 (by decide) (fun c_2 => ?_) (fun c_2 => ?_)
        · refine lv_aload_n hx hb dX3_gain_38 rfl (lv_at hl 0 rfl) ?_
          refine va_get (D := D) (ci := 4) (v := .ref (am 6)) (C := RX3) (T := TX3) (N := 15) hx hb hts inlX3 hown hK hP 0 rfl rfl 11 (by decide) (hts (Cond.fieldLink RX3 35 "TavernDiceModel" "stake" "[I") mw_4_3) (fun _ h9 => h9) rfl dX3_gain_39 ?_
          refine lv_iload_n hx hb dX3_gain_42 rfl (lv_at hl 3 rfl) ?_
          refine va_iald hx hb hK hP 6 0 rfl rfl (vp_in_nI (by omega) (by omega)) dX3_gain_43 ?_
          refine lv_rwi (y := sk i) (congrArg sk (nI_clamp (by omega))) ?_
          refine lv_iadd hx hb dX3_gain_44 ?_
          refine lv_rwi (y := sm (gnM ht sk br o) (i + 1)) (by show _ = sm _ i + gnM ht sk br o i; unfold gnM; rw [if_pos c_2]) ?_
          refine lv_istore_n (lv' := [(2, .int (sm (gnM ht sk br o) (i + 1))), (0, .ref (am 0)), (1, .int (nI o)), (3, .int (nI i))]) hx hb dX3_gain_45 rfl hl (by decide) rfl (fun ls hl => ?_)
          refine lv_iinc (v := nI (i + 1)) (lv' := [(3, .int (nI (i + 1))), (2, .int (sm (gnM ht sk br o) (i + 1))), (0, .ref (am 0)), (1, .int (nI o))]) hx hb dX3_gain_46 hl (k := 3) rfl (nI_1 i) (by decide) rfl (fun ls hl => ?_)
          refine lv_goto (tgt := 4) hx hb dX3_gain_49 (by decide) ?_
          exact ih4 (i + 1) ls (by omega) (by omega) (lv_sub hl [2, 3, 1, 0] rfl)
        · refine lv_aload_n hx hb dX3_gain_28 rfl (lv_at hl 0 rfl) ?_
          refine va_get (D := D) (ci := 4) (v := .ref (am 7)) (C := RX3) (T := TX3) (N := 15) hx hb hts inlX3 hown hK hP 0 rfl rfl 12 (by decide) (hts (Cond.fieldLink RX3 38 "TavernDiceModel" "brings" "[I") mw_4_4) (fun _ h9 => h9) rfl dX3_gain_29 ?_
          refine lv_iload_n hx hb dX3_gain_32 rfl (lv_at hl 3 rfl) ?_
          refine va_iald hx hb hK hP 7 0 rfl rfl (vp_in_nI (by omega) (by omega)) dX3_gain_33 ?_
          refine lv_rwi (y := br i) (congrArg br (nI_clamp (by omega))) ?_
          refine lv_ineg hx hb dX3_gain_34 ?_
          refine lv_goto (tgt := 44) hx hb dX3_gain_35 (by decide) ?_
          refine lv_iadd hx hb dX3_gain_44 ?_
          refine lv_rwi (y := sm (gnM ht sk br o) (i + 1)) (by show _ = sm _ i + gnM ht sk br o i; unfold gnM; rw [if_neg c_2]) ?_
          refine lv_istore_n (lv' := [(2, .int (sm (gnM ht sk br o) (i + 1))), (0, .ref (am 0)), (1, .int (nI o)), (3, .int (nI i))]) hx hb dX3_gain_45 rfl hl (by decide) rfl (fun ls hl => ?_)
          refine lv_iinc (v := nI (i + 1)) (lv' := [(3, .int (nI (i + 1))), (2, .int (sm (gnM ht sk br o) (i + 1))), (0, .ref (am 0)), (1, .int (nI o))]) hx hb dX3_gain_46 hl (k := 3) rfl (nI_1 i) (by decide) rfl (fun ls hl => ?_)
          refine lv_goto (tgt := 4) hx hb dX3_gain_49 (by decide) ?_
          exact ih4 (i + 1) ls (by omega) (by omega) (lv_sub hl [2, 3, 1, 0] rfl)
  exact loop4 (n + 1) 0 ls (Nat.zero_le _) (by omega) (lv_sub hl [2, 3, 1, 0] rfl)
set_option maxHeartbeats 4000000 in
set_option maxRecDepth 100000 in
theorem m_worst (l : Launch) (D : va_G) (cs : Nat → ClassId) (H : Heap) {am : Nat → Nat} {th bank rnds : Int32} {dn N n : Nat} {fc pu wh kn nm sk br ht sg : Nat → Int32} (hP : va_P D vwCl (wM cs am th bank rnds dn N n fc pu wh kn nm sk br ht sg) H) {fn : Nat → Nat} (hF : FM fn dn N n fc) : Rd l D (Ty cs) 2 yX3_worst cX3_worst 3 (some .int) H [.ref (am 0)] (some (.int (nI (wst (fun o => sm (gnM ht sk br o) n) N)))) := by
  refine rd_ent (by decide) (Nat.le_of_ble_eq_true rfl) ?_
  intro p e s m below meth c ls hx hb hr hml hown hts hlocks hl hH hK
  have hl : lv_has ls 3 [(0, .ref (am 0))] := hl
  have hF0 := hF
  obtain ⟨hF3, hd1, hd3, hNe, hN1, hN, hn⟩ := hF
  refine lv_iconst (v := nI (wst (fun o => sm (gnM ht sk br o) n) 1)) hx hb dX3_worst_0 (by rw [wst_1]; decide) ?_
  refine lv_istore_n (lv' := [(1, .int (nI (wst (fun o => sm (gnM ht sk br o) n) 1))), (0, .ref (am 0))]) hx hb dX3_worst_1 rfl hl (by decide) rfl (fun ls hl => ?_)
  refine lv_iconst (v := nI 1) hx hb dX3_worst_2 (by first | decide | rfl) ?_
  refine lv_istore_n (lv' := [(2, .int (nI 1)), (1, .int (nI (wst (fun o => sm (gnM ht sk br o) n) 1))), (0, .ref (am 0))]) hx hb dX3_worst_3 rfl hl (by decide) rfl (fun ls hl => ?_)
  have loop4 : ∀ (n9 : Nat) (i : Nat) (ls : Array Slot), i ≤ N → N + 1 ≤ i + n9 → lv_has ls 3 [(0, .ref (am 0)), (1, .int (nI (wst (fun o => sm (gnM ht sk br o) n) i))), (2, .int (nI i))] → RdW p l e 2 s m [.ref (am 0)] below meth c H (some (.int (nI (wst (fun o => sm (gnM ht sk br o) n) N)))) (F0 m 4 ls []) := by
    intro n9
    induction n9 with
    | zero => intro i  ls hi hf hl; exact absurd hf (by omega)
    | succ n9 ih4 =>
      intro i  ls hi hf hl
      refine lv_iload_n hx hb dX3_worst_4 rfl (lv_at hl 2 rfl) ?_
      refine lv_aload_n hx hb dX3_worst_5 rfl (lv_at hl 0 rfl) ?_
      refine va_get (D := D) (ci := 4) (v := .int (nI N)) (C := RX3) (T := TX3) (N := 15) hx hb hts inlX3 hown hK hP 0 rfl rfl 3 (by decide) (hts (Cond.fieldLink RX3 17 "TavernDiceModel" "outcomes" "I") mw_3_21) (fun _ h9 => h9) rfl dX3_worst_6 ?_
      refine lv_icmp_ge (tgt := 33) hx hb dX3_worst_9 (by decide) (fun c_1 => ?_) (fun c_1 => ?_)
      · refine lv_iload_n hx hb dX3_worst_33 rfl (lv_at hl 1 rfl) ?_
        exact rd_iret hH hx hb hr hlocks (rv (by rw [show i = N from (by have g := (nI_leI (by omega) (by omega)).mp c_1; omega)])) dX3_worst_34
      · have hlt : i < N := by
          rcases Nat.lt_or_ge i N with q | q
          · exact q
          · exact absurd (nI_le q (by omega)) c_1
        have hw9 := wst_le (fun o => sm (gnM ht sk br o) n) i
        refine lv_aload_n hx hb dX3_worst_12 rfl (lv_at hl 0 rfl) ?_
        refine lv_iload_n hx hb dX3_worst_13 rfl (lv_at hl 2 rfl) ?_
        refine rdV (As := [.int (nI i)]) (rest := []) (b := am 0) ⟨hx, hb, hml, hown, hts⟩ hK 1 (m_gain l D cs H hP hF0 i (by omega)) (gin_v mw_18_5 mw_18_6 mw_18_7 mw_1_5 mw_18_8) (by decide +kernel) ⟨Nat.le_of_ble_eq_true rfl, Nat.le_of_ble_eq_true rfl⟩ (va_recv hK hP (ci := 4) (q0 := 0) rfl rfl) rfl hl.1 rfl (Nat.le_of_ble_eq_true rfl) dX3_worst_14 ⟨(Nat.zero_le _), (Nat.zero_le _)⟩ ?_
        refine W.eq (g2 := F0 m 17 ls [.int (sm (gnM ht sk br i) n)]) rfl ?_
        refine lv_aload_n hx hb dX3_worst_17 rfl (lv_at hl 0 rfl) ?_
        refine lv_iload_n hx hb dX3_worst_18 rfl (lv_at hl 1 rfl) ?_
        refine rdV (As := [.int (nI (wst (fun o => sm (gnM ht sk br o) n) i))]) (rest := [.int (sm (gnM ht sk br i) n)]) (b := am 0) ⟨hx, hb, hml, hown, hts⟩ hK 1 (m_gain l D cs H hP hF0 ((wst (fun o => sm (gnM ht sk br o) n) i)) (by omega)) (gin_v mw_18_5 mw_18_6 mw_18_7 mw_1_5 mw_18_8) (by decide +kernel) ⟨Nat.le_of_ble_eq_true rfl, Nat.le_of_ble_eq_true rfl⟩ (va_recv hK hP (ci := 4) (q0 := 0) rfl rfl) rfl hl.1 rfl (Nat.le_of_ble_eq_true rfl) dX3_worst_19 ⟨(Nat.zero_le _), (Nat.zero_le _)⟩ ?_
        refine W.eq (g2 := F0 m 22 ls [.int (sm (gnM ht sk br ((wst (fun o => sm (gnM ht sk br o) n) i))) n), .int (sm (gnM ht sk br i) n)]) rfl ?_
        refine lv_icmp_ge (tgt := 27) hx hb dX3_worst_22 (by decide) (fun c_2 => ?_) (fun c_2 => ?_)
        · have hl : lv_has ls 3 [(0, .ref (am 0)), (1, .int (nI (wst (fun o => sm (gnM ht sk br o) n) (i + 1)))), (2, .int (nI i))] := by rw [show wst (fun o => sm (gnM ht sk br o) n) (i + 1) = wst (fun o => sm (gnM ht sk br o) n) i from if_neg (fun z => absurd (fa_trans z c_2) Int32.lt_irrefl)]; exact hl
          refine lv_iinc (v := nI (i + 1)) (lv' := [(2, .int (nI (i + 1))), (0, .ref (am 0)), (1, .int (nI (wst (fun o => sm (gnM ht sk br o) n) (i + 1))))]) hx hb dX3_worst_27 hl (k := 2) rfl (nI_1 i) (by decide) rfl (fun ls hl => ?_)
          refine lv_goto (tgt := 4) hx hb dX3_worst_30 (by decide) ?_
          exact ih4 (i + 1) ls (by omega) (by omega) (lv_sub hl [1, 2, 0] rfl)
        · refine lv_iload_n hx hb dX3_worst_25 rfl (lv_at hl 2 rfl) ?_
          refine lv_istore_n (lv' := [(1, .int (nI i)), (0, .ref (am 0)), (2, .int (nI i))]) hx hb dX3_worst_26 rfl hl (by decide) rfl (fun ls hl => ?_)
          have hl : lv_has ls 3 [(1, .int (nI (wst (fun o => sm (gnM ht sk br o) n) (i + 1)))), (0, .ref (am 0)), (2, .int (nI i))] := by rw [show wst (fun o => sm (gnM ht sk br o) n) (i + 1) = i from if_pos (fa_of_nle c_2)]; exact hl
          refine lv_iinc (v := nI (i + 1)) (lv' := [(2, .int (nI (i + 1))), (1, .int (nI (wst (fun o => sm (gnM ht sk br o) n) (i + 1)))), (0, .ref (am 0))]) hx hb dX3_worst_27 hl (k := 2) rfl (nI_1 i) (by decide) rfl (fun ls hl => ?_)
          refine lv_goto (tgt := 4) hx hb dX3_worst_30 (by decide) ?_
          exact ih4 (i + 1) ls (by omega) (by omega) (lv_sub hl [2, 1, 0] rfl)
  exact loop4 N 1 ls hN1 (by omega) (lv_sub hl [2, 1, 0] rfl)
set_option maxHeartbeats 4000000 in
set_option maxRecDepth 100000 in
theorem m_behind (l : Launch) (D : va_G) (cs : Nat → ClassId) (H : Heap) {am : Nat → Nat} {th bank rnds : Int32} {dn N n : Nat} {fc pu wh kn nm sk br ht sg : Nat → Int32} (hP : va_P D vwCl (wM cs am th bank rnds dn N n fc pu wh kn nm sk br ht sg) H) {fn : Nat → Nat} (hF : FM fn dn N n fc) (p9 : Nat) (hp9 : p9 < 6) (o : Nat) (ho : o < 1728) : Rd l D (Ty cs) 1 yX3_behind cX3_behind 5 (some .int) H [.ref (am 0), .int (nI p9), .int (nI o)] (some (.int (behM pu wh sk br ht (nI p9) p9 o n))) := by
  refine rd_ent (by decide) (Nat.le_of_ble_eq_true rfl) ?_
  intro p e s m below meth c ls hx hb hr hml hown hts hlocks hl hH hK
  have hl : lv_has ls 5 [(0, .ref (am 0)), (1, .int (nI p9)), (2, .int (nI o))] := hl
  have hF0 := hF
  obtain ⟨hF3, hd1, hd3, hNe, hN1, hN, hn⟩ := hF
  refine lv_aload_n hx hb dX3_behind_0 rfl (lv_at hl 0 rfl) ?_
  refine va_get (D := D) (ci := 4) (v := .ref (am 2)) (C := RX3) (T := TX3) (N := 15) hx hb hts inlX3 hown hK hP 0 rfl rfl 4 (by decide) (hts (Cond.fieldLink RX3 20 "TavernDiceModel" "purse" "[I") mw_3_22) (fun _ h9 => h9) rfl dX3_behind_1 ?_
  refine lv_iload_n hx hb dX3_behind_4 rfl (lv_at hl 1 rfl) ?_
  refine va_iald hx hb hK hP 2 0 rfl rfl (vp_in_nI hp9 (by omega)) dX3_behind_5 ?_
  refine lv_rwi (y := behM pu wh sk br ht (nI p9) p9 o 0) (congrArg pu (nI_clamp (by omega))) ?_
  refine lv_istore_n (lv' := [(3, .int (behM pu wh sk br ht (nI p9) p9 o 0)), (0, .ref (am 0)), (1, .int (nI p9)), (2, .int (nI o))]) hx hb dX3_behind_6 rfl hl (by decide) rfl (fun ls hl => ?_)
  refine lv_iconst (v := nI 0) hx hb dX3_behind_7 (by first | decide | rfl) ?_
  refine lv_istore (lv' := [(4, .int (nI 0)), (3, .int (behM pu wh sk br ht (nI p9) p9 o 0)), (0, .ref (am 0)), (1, .int (nI p9)), (2, .int (nI o))]) hx hb dX3_behind_8 hl (by decide) rfl (fun ls hl => ?_)
  have loop10 : ∀ (n9 : Nat) (i : Nat) (ls : Array Slot), i ≤ n → n + 1 ≤ i + n9 → lv_has ls 5 [(0, .ref (am 0)), (1, .int (nI p9)), (2, .int (nI o)), (3, .int (behM pu wh sk br ht (nI p9) p9 o i)), (4, .int (nI i))] → RdW p l e 1 s m [.ref (am 0), .int (nI p9), .int (nI o)] below meth c H (some (.int (behM pu wh sk br ht (nI p9) p9 o n))) (F0 m 10 ls []) := by
    intro n9
    induction n9 with
    | zero => intro i  ls hi hf hl; exact absurd hf (by omega)
    | succ n9 ih10 =>
      intro i  ls hi hf hl
      refine lv_iload hx hb dX3_behind_10 (lv_at hl 4 rfl) ?_
      refine lv_aload_n hx hb dX3_behind_12 rfl (lv_at hl 0 rfl) ?_
      refine va_get (D := D) (ci := 4) (v := .int (nI n)) (C := RX3) (T := TX3) (N := 15) hx hb hts inlX3 hown hK hP 0 rfl rfl 7 (by decide) (hts (Cond.fieldLink RX3 51 "TavernDiceModel" "open" "I") mw_5_16) (fun _ h9 => h9) rfl dX3_behind_13 ?_
      refine lv_icmp_ge (tgt := 70) hx hb dX3_behind_16 (by decide) (fun c_1 => ?_) (fun c_1 => ?_)
      · refine lv_iload_n hx hb dX3_behind_70 rfl (lv_at hl 3 rfl) ?_
        exact rd_iret hH hx hb hr hlocks (rv (by rw [show i = n from (by have g := (nI_leI (by omega) (by omega)).mp c_1; omega)])) dX3_behind_71
      · have hlt : i < n := by
          rcases Nat.lt_or_ge i n with q | q
          · exact q
          · exact absurd (nI_le q (by omega)) c_1
        refine lv_aload_n hx hb dX3_behind_19 rfl (lv_at hl 0 rfl) ?_
        refine va_get (D := D) (ci := 4) (v := .ref (am 3)) (C := RX3) (T := TX3) (N := 15) hx hb hts inlX3 hown hK hP 0 rfl rfl 8 (by decide) (hts (Cond.fieldLink RX3 26 "TavernDiceModel" "who" "[I") mw_4_0) (fun _ h9 => h9) rfl dX3_behind_20 ?_
        refine lv_iload hx hb dX3_behind_23 (lv_at hl 4 rfl) ?_
        refine va_iald hx hb hK hP 3 0 rfl rfl (vp_in_nI (by omega) (by omega)) dX3_behind_25 ?_
        refine lv_rwi (y := wh i) (congrArg wh (nI_clamp (by omega))) ?_
        refine lv_iload_n hx hb dX3_behind_26 rfl (lv_at hl 1 rfl) ?_
        refine lv_icmp_ne (tgt := 64) hx hb dX3_behind_27 (by decide) (fun c_2 => ?_) (fun c_2 => ?_)
        · have hl : lv_has ls 5 [(0, .ref (am 0)), (1, .int (nI p9)), (2, .int (nI o)), (3, .int (behM pu wh sk br ht (nI p9) p9 o (i + 1))), (4, .int (nI i))] := by rw [show behM pu wh sk br ht (nI p9) p9 o (i + 1) = behM pu wh sk br ht (nI p9) p9 o i from if_neg (fun z => c_2 z.1)]; exact hl
          refine lv_iinc (v := nI (i + 1)) (lv' := [(4, .int (nI (i + 1))), (0, .ref (am 0)), (1, .int (nI p9)), (2, .int (nI o)), (3, .int (behM pu wh sk br ht (nI p9) p9 o (i + 1)))]) hx hb dX3_behind_64 hl (k := 4) rfl (nI_1 i) (by decide) rfl (fun ls hl => ?_)
          refine lv_goto (tgt := 10) hx hb dX3_behind_67 (by decide) ?_
          exact ih10 (i + 1) ls (by omega) (by omega) (lv_sub hl [1, 2, 3, 4, 0] rfl)
        · refine lv_aload_n hx hb dX3_behind_30 rfl (lv_at hl 0 rfl) ?_
          refine va_get (D := D) (ci := 4) (v := .ref (am 8)) (C := RX3) (T := TX3) (N := 15) hx hb hts inlX3 hown hK hP 0 rfl rfl 13 (by decide) (hts (Cond.fieldLink RX3 41 "TavernDiceModel" "isHit" "[Z") mw_4_6) (fun _ h9 => h9) rfl dX3_behind_31 ?_
          refine lv_sipush (v := nI 1728) hx hb dX3_behind_34 (by first | decide | rfl) ?_
          refine lv_iload hx hb dX3_behind_37 (lv_at hl 4 rfl) ?_
          refine lv_imul hx hb dX3_behind_39 ?_
          refine lv_rwi (y := nI (1728 * i)) (pk_mul _ _) ?_
          refine lv_iload_n hx hb dX3_behind_40 rfl (lv_at hl 2 rfl) ?_
          refine lv_iadd hx hb dX3_behind_41 ?_
          refine lv_rwi (y := nI (1728 * i + o)) (nI_add _ _) ?_
          refine va_zald hx hb hK hP 8 1 rfl rfl (vp_in_nI (by omega) (by omega)) dX3_behind_42 ?_
          refine lv_rwi (y := ht (1728 * i + o)) (congrArg ht (nI_clamp (by omega))) ?_
          refine lv_if_eq (tgt := 64) hx hb dX3_behind_43 (by decide) (fun c_3 => ?_) (fun c_3 => ?_)
          · have hl : lv_has ls 5 [(0, .ref (am 0)), (1, .int (nI p9)), (2, .int (nI o)), (3, .int (behM pu wh sk br ht (nI p9) p9 o (i + 1))), (4, .int (nI i))] := by rw [show behM pu wh sk br ht (nI p9) p9 o (i + 1) = behM pu wh sk br ht (nI p9) p9 o i from if_neg (fun z => z.2 c_3)]; exact hl
            refine lv_iinc (v := nI (i + 1)) (lv' := [(4, .int (nI (i + 1))), (0, .ref (am 0)), (1, .int (nI p9)), (2, .int (nI o)), (3, .int (behM pu wh sk br ht (nI p9) p9 o (i + 1)))]) hx hb dX3_behind_64 hl (k := 4) rfl (nI_1 i) (by decide) rfl (fun ls hl => ?_)
            refine lv_goto (tgt := 10) hx hb dX3_behind_67 (by decide) ?_
            exact ih10 (i + 1) ls (by omega) (by omega) (lv_sub hl [1, 2, 3, 4, 0] rfl)
          · refine lv_iload_n hx hb dX3_behind_46 rfl (lv_at hl 3 rfl) ?_
            refine lv_aload_n hx hb dX3_behind_47 rfl (lv_at hl 0 rfl) ?_
            refine va_get (D := D) (ci := 4) (v := .ref (am 6)) (C := RX3) (T := TX3) (N := 15) hx hb hts inlX3 hown hK hP 0 rfl rfl 11 (by decide) (hts (Cond.fieldLink RX3 35 "TavernDiceModel" "stake" "[I") mw_4_3) (fun _ h9 => h9) rfl dX3_behind_48 ?_
            refine lv_iload hx hb dX3_behind_51 (lv_at hl 4 rfl) ?_
            refine va_iald hx hb hK hP 6 0 rfl rfl (vp_in_nI (by omega) (by omega)) dX3_behind_53 ?_
            refine lv_rwi (y := sk i) (congrArg sk (nI_clamp (by omega))) ?_
            refine lv_aload_n hx hb dX3_behind_54 rfl (lv_at hl 0 rfl) ?_
            refine va_get (D := D) (ci := 4) (v := .ref (am 7)) (C := RX3) (T := TX3) (N := 15) hx hb hts inlX3 hown hK hP 0 rfl rfl 12 (by decide) (hts (Cond.fieldLink RX3 38 "TavernDiceModel" "brings" "[I") mw_4_4) (fun _ h9 => h9) rfl dX3_behind_55 ?_
            refine lv_iload hx hb dX3_behind_58 (lv_at hl 4 rfl) ?_
            refine va_iald hx hb hK hP 7 0 rfl rfl (vp_in_nI (by omega) (by omega)) dX3_behind_60 ?_
            refine lv_rwi (y := br i) (congrArg br (nI_clamp (by omega))) ?_
            refine lv_iadd hx hb dX3_behind_61 ?_
            refine lv_iadd hx hb dX3_behind_62 ?_
            refine lv_rwi (y := behM pu wh sk br ht (nI p9) p9 o (i + 1)) ((if_pos ⟨c_2, c_3⟩).symm) ?_
            refine lv_istore_n (lv' := [(3, .int (behM pu wh sk br ht (nI p9) p9 o (i + 1))), (0, .ref (am 0)), (1, .int (nI p9)), (2, .int (nI o)), (4, .int (nI i))]) hx hb dX3_behind_63 rfl hl (by decide) rfl (fun ls hl => ?_)
            refine lv_iinc (v := nI (i + 1)) (lv' := [(4, .int (nI (i + 1))), (3, .int (behM pu wh sk br ht (nI p9) p9 o (i + 1))), (0, .ref (am 0)), (1, .int (nI p9)), (2, .int (nI o))]) hx hb dX3_behind_64 hl (k := 4) rfl (nI_1 i) (by decide) rfl (fun ls hl => ?_)
            refine lv_goto (tgt := 10) hx hb dX3_behind_67 (by decide) ?_
            exact ih10 (i + 1) ls (by omega) (by omega) (lv_sub hl [2, 3, 4, 1, 0] rfl)
  exact loop10 (n + 1) 0 ls (Nat.zero_le _) (by omega) (lv_sub hl [2, 3, 4, 1, 0] rfl)
set_option maxHeartbeats 4000000 in
set_option maxRecDepth 100000 in
theorem m_least (l : Launch) (D : va_G) (cs : Nat → ClassId) (H : Heap) {am : Nat → Nat} {th bank rnds : Int32} {dn N n : Nat} {fc pu wh kn nm sk br ht sg : Nat → Int32} (hP : va_P D vwCl (wM cs am th bank rnds dn N n fc pu wh kn nm sk br ht sg) H) {fn : Nat → Nat} (hF : FM fn dn N n fc) (p9 : Nat) (hp9 : p9 < 6) : Rd l D (Ty cs) 2 yX3_least cX3_least 4 (some .int) H [.ref (am 0), .int (nI p9)] (some (.int (mnX (fun o => behM pu wh sk br ht (nI p9) p9 o n) (N - 1)))) := by
  refine rd_ent (by decide) (Nat.le_of_ble_eq_true rfl) ?_
  intro p e s m below meth c ls hx hb hr hml hown hts hlocks hl hH hK
  have hl : lv_has ls 4 [(0, .ref (am 0)), (1, .int (nI p9))] := hl
  have hF0 := hF
  obtain ⟨hF3, hd1, hd3, hNe, hN1, hN, hn⟩ := hF
  refine lv_aload_n hx hb dX3_least_0 rfl (lv_at hl 0 rfl) ?_
  refine lv_iload_n hx hb dX3_least_1 rfl (lv_at hl 1 rfl) ?_
  refine lv_iconst (v := nI 0) hx hb dX3_least_2 (by first | decide | rfl) ?_
  refine rdV (As := [.int (nI p9), .int (nI 0)]) (rest := []) (b := am 0) ⟨hx, hb, hml, hown, hts⟩ hK 2 (m_behind l D cs H hP hF0 p9 (by omega) 0 (by omega)) (gin_v mw_27_18 mw_27_19 mw_27_20 mw_1_5 mw_27_21) (by decide +kernel) ⟨Nat.le_of_ble_eq_true rfl, Nat.le_of_ble_eq_true rfl⟩ (va_recv hK hP (ci := 4) (q0 := 0) rfl rfl) rfl hl.1 rfl (Nat.le_of_ble_eq_true rfl) dX3_least_3 ⟨(Nat.zero_le _), (Nat.zero_le _)⟩ ?_
  refine W.eq (g2 := F0 m 6 ls [.int (behM pu wh sk br ht (nI p9) p9 0 n)]) rfl ?_
  refine lv_rwi (y := mnX (fun o => behM pu wh sk br ht (nI p9) p9 o n) 0) (rfl) ?_
  refine lv_istore_n (lv' := [(2, .int (mnX (fun o => behM pu wh sk br ht (nI p9) p9 o n) 0)), (0, .ref (am 0)), (1, .int (nI p9))]) hx hb dX3_least_6 rfl hl (by decide) rfl (fun ls hl => ?_)
  refine lv_iconst (v := nI (0 + 1)) hx hb dX3_least_7 (by first | decide | rfl) ?_
  refine lv_istore_n (lv' := [(3, .int (nI (0 + 1))), (2, .int (mnX (fun o => behM pu wh sk br ht (nI p9) p9 o n) 0)), (0, .ref (am 0)), (1, .int (nI p9))]) hx hb dX3_least_8 rfl hl (by decide) rfl (fun ls hl => ?_)
  have loop9 : ∀ (n9 : Nat) (j : Nat) (ls : Array Slot), j + 1 ≤ N → N ≤ j + n9 → lv_has ls 4 [(0, .ref (am 0)), (1, .int (nI p9)), (2, .int (mnX (fun o => behM pu wh sk br ht (nI p9) p9 o n) j)), (3, .int (nI (j + 1)))] → RdW p l e 2 s m [.ref (am 0), .int (nI p9)] below meth c H (some (.int (mnX (fun o => behM pu wh sk br ht (nI p9) p9 o n) (N - 1)))) (F0 m 9 ls []) := by
    intro n9
    induction n9 with
    | zero => intro j  ls hi hf hl; exact absurd hf (by omega)
    | succ n9 ih9 =>
      intro j  ls hi hf hl
      refine lv_iload_n hx hb dX3_least_9 rfl (lv_at hl 3 rfl) ?_
      refine lv_aload_n hx hb dX3_least_10 rfl (lv_at hl 0 rfl) ?_
      refine va_get (D := D) (ci := 4) (v := .int (nI N)) (C := RX3) (T := TX3) (N := 15) hx hb hts inlX3 hown hK hP 0 rfl rfl 3 (by decide) (hts (Cond.fieldLink RX3 17 "TavernDiceModel" "outcomes" "I") mw_3_21) (fun _ h9 => h9) rfl dX3_least_11 ?_
      refine lv_icmp_ge (tgt := 34) hx hb dX3_least_14 (by decide) (fun c_1 => ?_) (fun c_1 => ?_)
      · refine lv_iload_n hx hb dX3_least_34 rfl (lv_at hl 2 rfl) ?_
        exact rd_iret hH hx hb hr hlocks (rv (by rw [show N - 1 = j from by have g := (nI_leI (by omega) (by omega)).mp c_1; omega])) dX3_least_35
      · have hlt : j + 1 < N := by
          rcases Nat.lt_or_ge (j + 1) N with q | q
          · exact q
          · exact absurd (nI_le q (by omega)) c_1
        refine lv_iload_n hx hb dX3_least_17 rfl (lv_at hl 2 rfl) ?_
        refine lv_aload_n hx hb dX3_least_18 rfl (lv_at hl 0 rfl) ?_
        refine lv_iload_n hx hb dX3_least_19 rfl (lv_at hl 1 rfl) ?_
        refine lv_iload_n hx hb dX3_least_20 rfl (lv_at hl 3 rfl) ?_
        refine rdV (As := [.int (nI p9), .int (nI (j + 1))]) (rest := [.int (mnX (fun o => behM pu wh sk br ht (nI p9) p9 o n) j)]) (b := am 0) ⟨hx, hb, hml, hown, hts⟩ hK 2 (m_behind l D cs H hP hF0 p9 (by omega) ((j + 1)) (by omega)) (gin_v mw_27_18 mw_27_19 mw_27_20 mw_1_5 mw_27_21) (by decide +kernel) ⟨Nat.le_of_ble_eq_true rfl, Nat.le_of_ble_eq_true rfl⟩ (va_recv hK hP (ci := 4) (q0 := 0) rfl rfl) rfl hl.1 rfl (Nat.le_of_ble_eq_true rfl) dX3_least_21 ⟨(Nat.zero_le _), (Nat.zero_le _)⟩ ?_
        refine W.eq (g2 := F0 m 24 ls [.int (behM pu wh sk br ht (nI p9) p9 ((j + 1)) n), .int (mnX (fun o => behM pu wh sk br ht (nI p9) p9 o n) j)]) rfl ?_
        refine lv_rwi (y := (fun o => behM pu wh sk br ht (nI p9) p9 o n) (j + 1)) (rfl) ?_
        refine va_mmin hx hb (hml.trans hl.1.symm) hown (hts (Cond.methodLink RX3 69 Lib.Math.min.name) mw_10_6) (hts (Cond.static Lib.Math.min.name) mw_2_14) (hts (Cond.initialized "java/lang/Math") mw_2_15) (hts (Cond.code Lib.Math.min.name Lib.Math.min.code 2 (some .int)) mw_2_16) (Nat.le_of_ble_eq_true rfl) (Nat.le_of_ble_eq_true rfl) (Nat.zero_le _) (Nat.zero_le _) dX3_least_24 ?_
        refine lv_rwi (y := mnX (fun o => behM pu wh sk br ht (nI p9) p9 o n) (j + 1)) (rfl) ?_
        refine lv_istore_n (lv' := [(2, .int (mnX (fun o => behM pu wh sk br ht (nI p9) p9 o n) (j + 1))), (0, .ref (am 0)), (1, .int (nI p9)), (3, .int (nI (j + 1)))]) hx hb dX3_least_27 rfl hl (by decide) rfl (fun ls hl => ?_)
        refine lv_iinc (v := nI (j + 1 + 1)) (lv' := [(3, .int (nI (j + 1 + 1))), (2, .int (mnX (fun o => behM pu wh sk br ht (nI p9) p9 o n) (j + 1))), (0, .ref (am 0)), (1, .int (nI p9))]) hx hb dX3_least_28 hl (k := 3) rfl (nI_1 _) (by decide) rfl (fun ls hl => ?_)
        refine lv_goto (tgt := 9) hx hb dX3_least_31 (by decide) ?_
        exact ih9 (j + 1) ls (by omega) (by omega) (lv_sub hl [2, 3, 1, 0] rfl)
  exact loop9 N 0 ls hN1 (by omega) (lv_sub hl [2, 3, 1, 0] rfl)
set_option maxHeartbeats 4000000 in
set_option maxRecDepth 100000 in
theorem m_hedged (l : Launch) (D : va_G) (cs : Nat → ClassId) (H : Heap) {am : Nat → Nat} {th bank rnds : Int32} {dn N n : Nat} {fc pu wh kn nm sk br ht sg : Nat → Int32} (hP : va_P D vwCl (wM cs am th bank rnds dn N n fc pu wh kn nm sk br ht sg) H) {fn : Nat → Nat} (hF : FM fn dn N n fc) (p9 : Nat) (hp9 : p9 < 6) : Rd l D (Ty cs) 2 yX3_hedged cX3_hedged 3 (some .boolean) H [.ref (am 0), .int (nI p9)] (some (.int (b2i (alleq (fun o => behM pu wh sk br ht (nI p9) p9 o n) N)))) := by
  refine rd_ent (by decide) (Nat.le_of_ble_eq_true rfl) ?_
  intro p e s m below meth c ls hx hb hr hml hown hts hlocks hl hH hK
  have hl : lv_has ls 3 [(0, .ref (am 0)), (1, .int (nI p9))] := hl
  have hF0 := hF
  obtain ⟨hF3, hd1, hd3, hNe, hN1, hN, hn⟩ := hF
  refine lv_iconst (v := nI (0 + 1)) hx hb dX3_hedged_0 (by first | decide | rfl) ?_
  refine lv_istore_n (lv' := [(2, .int (nI (0 + 1))), (0, .ref (am 0)), (1, .int (nI p9))]) hx hb dX3_hedged_1 rfl hl (by decide) rfl (fun ls hl => ?_)
  have loop2 : ∀ (n9 : Nat) (j : Nat) (ls : Array Slot), j + 1 ≤ N → N ≤ j + n9 → (∀ o, o < j + 1 → (fun o => behM pu wh sk br ht (nI p9) p9 o n) o = (fun o => behM pu wh sk br ht (nI p9) p9 o n) 0) → lv_has ls 3 [(0, .ref (am 0)), (1, .int (nI p9)), (2, .int (nI (j + 1)))] → RdW p l e 2 s m [.ref (am 0), .int (nI p9)] below meth c H (some (.int (b2i (alleq (fun o => behM pu wh sk br ht (nI p9) p9 o n) N)))) (F0 m 2 ls []) := by
    intro n9
    induction n9 with
    | zero => intro j  ls hi hf hE hl; exact absurd hf (by omega)
    | succ n9 ih2 =>
      intro j  ls hi hf hE hl
      refine lv_iload_n hx hb dX3_hedged_2 rfl (lv_at hl 2 rfl) ?_
      refine lv_aload_n hx hb dX3_hedged_3 rfl (lv_at hl 0 rfl) ?_
      refine va_get (D := D) (ci := 4) (v := .int (nI N)) (C := RX3) (T := TX3) (N := 15) hx hb hts inlX3 hown hK hP 0 rfl rfl 3 (by decide) (hts (Cond.fieldLink RX3 17 "TavernDiceModel" "outcomes" "I") mw_3_21) (fun _ h9 => h9) rfl dX3_hedged_4 ?_
      refine lv_icmp_ge (tgt := 33) hx hb dX3_hedged_7 (by decide) (fun c_1 => ?_) (fun c_1 => ?_)
      · refine lv_iconst (v := 1) hx hb dX3_hedged_33 (by first | decide | rfl) ?_
        exact rd_zret hH hx hb hr hlocks (rb1 (decide_eq_true (fun o ho => hE o (by have g := (nI_leI (by omega) (by omega)).mp c_1; omega)))) (by decide) dX3_hedged_34
      · have hlt : j + 1 < N := by
          rcases Nat.lt_or_ge (j + 1) N with q | q
          · exact q
          · exact absurd (nI_le q (by omega)) c_1
        refine lv_aload_n hx hb dX3_hedged_10 rfl (lv_at hl 0 rfl) ?_
        refine lv_iload_n hx hb dX3_hedged_11 rfl (lv_at hl 1 rfl) ?_
        refine lv_iload_n hx hb dX3_hedged_12 rfl (lv_at hl 2 rfl) ?_
        refine rdV (As := [.int (nI p9), .int (nI (j + 1))]) (rest := []) (b := am 0) ⟨hx, hb, hml, hown, hts⟩ hK 2 (m_behind l D cs H hP hF0 p9 (by omega) ((j + 1)) (by omega)) (gin_v mw_27_18 mw_27_19 mw_27_20 mw_1_5 mw_27_21) (by decide +kernel) ⟨Nat.le_of_ble_eq_true rfl, Nat.le_of_ble_eq_true rfl⟩ (va_recv hK hP (ci := 4) (q0 := 0) rfl rfl) rfl hl.1 rfl (Nat.le_of_ble_eq_true rfl) dX3_hedged_13 ⟨(Nat.zero_le _), (Nat.zero_le _)⟩ ?_
        refine W.eq (g2 := F0 m 16 ls [.int (behM pu wh sk br ht (nI p9) p9 ((j + 1)) n)]) rfl ?_
        refine lv_rwi (y := (fun o => behM pu wh sk br ht (nI p9) p9 o n) (j + 1)) (rfl) ?_
        refine lv_aload_n hx hb dX3_hedged_16 rfl (lv_at hl 0 rfl) ?_
        refine lv_iload_n hx hb dX3_hedged_17 rfl (lv_at hl 1 rfl) ?_
        refine lv_iconst (v := nI 0) hx hb dX3_hedged_18 (by first | decide | rfl) ?_
        refine rdV (As := [.int (nI p9), .int (nI 0)]) (rest := [.int ((fun o => behM pu wh sk br ht (nI p9) p9 o n) (j + 1))]) (b := am 0) ⟨hx, hb, hml, hown, hts⟩ hK 2 (m_behind l D cs H hP hF0 p9 (by omega) 0 (by omega)) (gin_v mw_27_18 mw_27_19 mw_27_20 mw_1_5 mw_27_21) (by decide +kernel) ⟨Nat.le_of_ble_eq_true rfl, Nat.le_of_ble_eq_true rfl⟩ (va_recv hK hP (ci := 4) (q0 := 0) rfl rfl) rfl hl.1 rfl (Nat.le_of_ble_eq_true rfl) dX3_hedged_19 ⟨(Nat.zero_le _), (Nat.zero_le _)⟩ ?_
        refine W.eq (g2 := F0 m 22 ls [.int (behM pu wh sk br ht (nI p9) p9 0 n), .int ((fun o => behM pu wh sk br ht (nI p9) p9 o n) (j + 1))]) rfl ?_
        refine lv_rwi (y := (fun o => behM pu wh sk br ht (nI p9) p9 o n) 0) (rfl) ?_
        refine lv_icmp_eq (tgt := 27) hx hb dX3_hedged_22 (by decide) (fun c_2 => ?_) (fun c_2 => ?_)
        · refine lv_iinc (v := nI (j + 1 + 1)) (lv' := [(2, .int (nI (j + 1 + 1))), (0, .ref (am 0)), (1, .int (nI p9))]) hx hb dX3_hedged_27 hl (k := 2) rfl (nI_1 _) (by decide) rfl (fun ls hl => ?_)
          refine lv_goto (tgt := 2) hx hb dX3_hedged_30 (by decide) ?_
          exact ih2 (j + 1) ls (by omega) (by omega) (fun o ho => by
              rcases Nat.lt_or_ge o (j + 1) with q | q
              · exact hE o q
              · rw [show o = j + 1 by omega]; exact c_2) (lv_sub hl [1, 2, 0] rfl)
        · refine lv_iconst (v := 0) hx hb dX3_hedged_25 (by first | decide | rfl) ?_
          exact rd_zret hH hx hb hr hlocks (rb0 (decide_eq_false (fun z => c_2 (z (j + 1) hlt)))) (by decide) dX3_hedged_26
  exact loop2 N 0 ls hN1 (by omega) (fun o ho => by rw [show o = 0 by omega]) (lv_sub hl [1, 2, 0] rfl)
set_option maxHeartbeats 4000000 in
set_option maxRecDepth 100000 in
theorem m_hedge (l : Launch) (D : va_G) (cs : Nat → ClassId) (H : Heap) {am0 : Nat} (all wn bs : Int32) (hbs : ¬ bs = 0) : Rd l D (Ty cs) 1 yX3_hedge cX3_hedge 5 (some .int) H [.ref am0, .int all, .int wn, .int bs] (some (.int (fst9I (fst9 (hgM all wn bs) 999 1)))) := by
  refine rd_ent (by decide) (Nat.le_of_ble_eq_true rfl) ?_
  intro p e s m below meth c ls hx hb hr hml hown hts hlocks hl hH hK
  have hl : lv_has ls 5 [(0, .ref am0), (1, .int all), (2, .int wn), (3, .int bs)] := hl
  refine lv_iconst (v := nI 1) hx hb dX3_hedge_0 (by first | decide | rfl) ?_
  refine lv_istore (lv' := [(4, .int (nI 1)), (0, .ref am0), (1, .int all), (2, .int wn), (3, .int bs)]) hx hb dX3_hedge_1 hl (by decide) rfl (fun ls hl => ?_)
  have loop3 : ∀ (n9 : Nat) (j : Nat) (ls : Array Slot), j ≤ 1000 → 1001 ≤ j + n9 → fst9 (hgM all wn bs) (1000 - j) j = fst9 (hgM all wn bs) 999 1 → lv_has ls 5 [(0, .ref am0), (1, .int all), (2, .int wn), (3, .int bs), (4, .int (nI j))] → RdW p l e 1 s m [.ref am0, .int all, .int wn, .int bs] below meth c H (some (.int (fst9I (fst9 (hgM all wn bs) 999 1)))) (F0 m 3 ls []) := by
    intro n9
    induction n9 with
    | zero => intro j  ls hi hf hE hl; exact absurd hf (by omega)
    | succ n9 ih3 =>
      intro j  ls hi hf hE hl
      refine lv_iload hx hb dX3_hedge_3 (lv_at hl 4 rfl) ?_
      refine lv_sipush (v := nI 999) hx hb dX3_hedge_5 (by first | decide | rfl) ?_
      refine lv_icmp_gt (tgt := 33) hx hb dX3_hedge_8 (by decide) (fun c_1 => ?_) (fun c_1 => ?_)
      · refine lv_iconst (v := (-1)) hx hb dX3_hedge_33 (by first | decide | rfl) ?_
        exact rd_iret hH hx hb hr hlocks (rv (by rw [← hE, show 1000 - j = 0 by have g := (nI_ltI (by omega) (by omega)).mp c_1; omega]; rfl)) dX3_hedge_34
      · have hj : j ≤ 999 := by
          rcases Nat.lt_or_ge 999 j with q | q
          · exact absurd (nI_lt q (by omega)) c_1
          · exact q
        refine lv_iload hx hb dX3_hedge_11 (lv_at hl 4 rfl) ?_
        refine lv_iload hx hb dX3_hedge_13 (lv_at hl 4 rfl) ?_
        refine lv_iload_n hx hb dX3_hedge_15 rfl (lv_at hl 2 rfl) ?_
        refine lv_imul hx hb dX3_hedge_16 ?_
        refine lv_iload_n hx hb dX3_hedge_17 rfl (lv_at hl 3 rfl) ?_
        refine lv_idiv hx hb dX3_hedge_18 (hbs) ?_
        refine lv_iadd hx hb dX3_hedge_19 ?_
        refine lv_iload_n hx hb dX3_hedge_20 rfl (lv_at hl 1 rfl) ?_
        refine lv_icmp_ne (tgt := 27) hx hb dX3_hedge_21 (by decide) (fun c_2 => ?_) (fun c_2 => ?_)
        · refine lv_iinc (v := nI (j + 1)) (lv' := [(4, .int (nI (j + 1))), (0, .ref am0), (1, .int all), (2, .int wn), (3, .int bs)]) hx hb dX3_hedge_27 hl (k := 4) rfl (nI_1 j) (by decide) rfl (fun ls hl => ?_)
          refine lv_goto (tgt := 3) hx hb dX3_hedge_30 (by decide) ?_
          exact ih3 (j + 1) ls (by omega) (by omega) (by rw [← hE, fst9_f (f := 1000 - j) (i := j) (by omega) (decide_eq_false c_2)]; rfl) (lv_sub hl [1, 2, 3, 4, 0] rfl)
        · refine lv_iload hx hb dX3_hedge_24 (lv_at hl 4 rfl) ?_
          exact rd_iret hH hx hb hr hlocks (rv (by rw [← hE, fst9_t (f := 1000 - j) (i := j) (by omega) (decide_eq_true c_2)]; rfl)) dX3_hedge_26
  exact loop3 1000 1 ls (by omega) (by omega) rfl (lv_sub hl [1, 2, 3, 4, 0] rfl)
set_option maxHeartbeats 4000000 in
set_option maxRecDepth 100000 in
theorem m_allStakes (l : Launch) (D : va_G) (cs : Nat → ClassId) (H : Heap) {am : Nat → Nat} {th bank rnds : Int32} {dn N n : Nat} {fc pu wh kn nm sk br ht sg : Nat → Int32} (hP : va_P D vwCl (wM cs am th bank rnds dn N n fc pu wh kn nm sk br ht sg) H) {fn : Nat → Nat} (hF : FM fn dn N n fc) : Rd l D (Ty cs) 1 yX3_allStakes cX3_allStakes 3 (some .int) H [.ref (am 0)] (some (.int (sm sk n))) := by
  refine rd_ent (by decide) (Nat.le_of_ble_eq_true rfl) ?_
  intro p e s m below meth c ls hx hb hr hml hown hts hlocks hl hH hK
  have hl : lv_has ls 3 [(0, .ref (am 0))] := hl
  have hF0 := hF
  obtain ⟨hF3, hd1, hd3, hNe, hN1, hN, hn⟩ := hF
  refine lv_iconst (v := sm sk 0) hx hb dX3_allStakes_0 (by first | decide | rfl) ?_
  refine lv_istore_n (lv' := [(1, .int (sm sk 0)), (0, .ref (am 0))]) hx hb dX3_allStakes_1 rfl hl (by decide) rfl (fun ls hl => ?_)
  refine lv_iconst (v := nI 0) hx hb dX3_allStakes_2 (by first | decide | rfl) ?_
  refine lv_istore_n (lv' := [(2, .int (nI 0)), (1, .int (sm sk 0)), (0, .ref (am 0))]) hx hb dX3_allStakes_3 rfl hl (by decide) rfl (fun ls hl => ?_)
  have loop4 : ∀ (n9 : Nat) (i : Nat) (ls : Array Slot), i ≤ n → n + 1 ≤ i + n9 → lv_has ls 3 [(0, .ref (am 0)), (1, .int (sm sk i)), (2, .int (nI i))] → RdW p l e 1 s m [.ref (am 0)] below meth c H (some (.int (sm sk n))) (F0 m 4 ls []) := by
    intro n9
    induction n9 with
    | zero => intro i  ls hi hf hl; exact absurd hf (by omega)
    | succ n9 ih4 =>
      intro i  ls hi hf hl
      refine lv_iload_n hx hb dX3_allStakes_4 rfl (lv_at hl 2 rfl) ?_
      refine lv_aload_n hx hb dX3_allStakes_5 rfl (lv_at hl 0 rfl) ?_
      refine va_get (D := D) (ci := 4) (v := .int (nI n)) (C := RX3) (T := TX3) (N := 15) hx hb hts inlX3 hown hK hP 0 rfl rfl 7 (by decide) (hts (Cond.fieldLink RX3 51 "TavernDiceModel" "open" "I") mw_5_16) (fun _ h9 => h9) rfl dX3_allStakes_6 ?_
      refine lv_icmp_ge (tgt := 27) hx hb dX3_allStakes_9 (by decide) (fun c_1 => ?_) (fun c_1 => ?_)
      · refine lv_iload_n hx hb dX3_allStakes_27 rfl (lv_at hl 1 rfl) ?_
        exact rd_iret hH hx hb hr hlocks (rv (by rw [show i = n from (by have g := (nI_leI (by omega) (by omega)).mp c_1; omega)])) dX3_allStakes_28
      · have hlt : i < n := by
          rcases Nat.lt_or_ge i n with q | q
          · exact q
          · exact absurd (nI_le q (by omega)) c_1
        refine lv_iload_n hx hb dX3_allStakes_12 rfl (lv_at hl 1 rfl) ?_
        refine lv_aload_n hx hb dX3_allStakes_13 rfl (lv_at hl 0 rfl) ?_
        refine va_get (D := D) (ci := 4) (v := .ref (am 6)) (C := RX3) (T := TX3) (N := 15) hx hb hts inlX3 hown hK hP 0 rfl rfl 11 (by decide) (hts (Cond.fieldLink RX3 35 "TavernDiceModel" "stake" "[I") mw_4_3) (fun _ h9 => h9) rfl dX3_allStakes_14 ?_
        refine lv_iload_n hx hb dX3_allStakes_17 rfl (lv_at hl 2 rfl) ?_
        refine va_iald hx hb hK hP 6 0 rfl rfl (vp_in_nI (by omega) (by omega)) dX3_allStakes_18 ?_
        refine lv_rwi (y := sk i) (congrArg sk (nI_clamp (by omega))) ?_
        refine lv_iadd hx hb dX3_allStakes_19 ?_
        refine lv_rwi (y := sm sk (i + 1)) (rfl) ?_
        refine lv_istore_n (lv' := [(1, .int (sm sk (i + 1))), (0, .ref (am 0)), (2, .int (nI i))]) hx hb dX3_allStakes_20 rfl hl (by decide) rfl (fun ls hl => ?_)
        refine lv_iinc (v := nI (i + 1)) (lv' := [(2, .int (nI (i + 1))), (1, .int (sm sk (i + 1))), (0, .ref (am 0))]) hx hb dX3_allStakes_21 hl (k := 2) rfl (nI_1 i) (by decide) rfl (fun ls hl => ?_)
        refine lv_goto (tgt := 4) hx hb dX3_allStakes_24 (by decide) ?_
        exact ih4 (i + 1) ls (by omega) (by omega) (lv_sub hl [2, 1, 0] rfl)
  exact loop4 (n + 1) 0 ls (Nat.zero_le _) (by omega) (lv_sub hl [2, 1, 0] rfl)
set_option maxHeartbeats 4000000 in
set_option maxRecDepth 100000 in
theorem m_thrown (l : Launch) (D : va_G) (cs : Nat → ClassId) (H : Heap) {am : Nat → Nat} {th bank rnds : Int32} {dn N n : Nat} {fc pu wh kn nm sk br ht sg : Nat → Int32} (hP : va_P D vwCl (wM cs am th bank rnds dn N n fc pu wh kn nm sk br ht sg) H) {fn : Nat → Nat} (hF : FM fn dn N n fc) : Rd l D (Ty cs) 1 yX3_thrown cX3_thrown 1 (some .int) H [.ref (am 0)] (some (.int th)) := by
  refine rd_ent (by decide) (Nat.le_of_ble_eq_true rfl) ?_
  intro p e s m below meth c ls hx hb hr hml hown hts hlocks hl hH hK
  have hl : lv_has ls 1 [(0, .ref (am 0))] := hl
  have hF0 := hF
  obtain ⟨hF3, hd1, hd3, hNe, hN1, hN, hn⟩ := hF
  refine lv_aload_n hx hb dX3_thrown_0 rfl (lv_at hl 0 rfl) ?_
  refine va_get (D := D) (ci := 4) (v := .int th) (C := RX3) (T := TX3) (N := 15) hx hb hts inlX3 hown hK hP 0 rfl rfl 0 (by decide) (hts (Cond.fieldLink RX3 48 "TavernDiceModel" "thrown" "I") mw_5_15) (fun _ h9 => h9) rfl dX3_thrown_1 ?_
  exact rd_iret hH hx hb hr hlocks (rfl) dX3_thrown_4
