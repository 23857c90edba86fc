/-! both ledgers are told alike; rows by program -/
/-- an edge in lowest terms: its bottom -/
def eBot (N : Nat) (g : Int32) : Nat := N / Nat.gcd g.toInt.natAbs N
def EdF (N : Nat) (g : Int32) : Prop := nI N / cdX g (nI N) = nI (eBot N g) ∧ 1 ≤ eBot N g ∧ eBot N g ≤ 1728 ∧ (g / cdX g (nI N)).toInt64 * (nI N).toInt64 = g.toInt64 * (nI (eBot N g)).toInt64 ∧ ∀ j, 2 ≤ j → j ≤ eBot N g → ¬ (g / cdX g (nI N) - g / cdX g (nI N) / nI j * nI j = 0 ∧ eBot N g % j = 0)
set_option maxHeartbeats 4000000 in
set_option maxRecDepth 100000 in
theorem s_isSame (l : Launch) (D : va_G) (cs : Nat → ClassId) (H : Heap) {ad : Nat → Nat} {bank rnds cnt mcn : Int32} {N n cap : Nat} {su fa pu : Nat → Int32} {rf : Nat → Option Nat} {wa : Nat → Nat} {wf : Nat → Nat → Int32} {kd : Nat → Nat} (RR : RX D cs H ad bank rnds cnt mcn N n cap su fa pu rf wa wf kd) {sa : Nat → Nat} {fn : Nat → Nat} {dn : Nat} {df pv : Nat → Int32} {rs rw : Nat → Option Nat} {sr wr : Nat → Nat} {sf wg : Nat → Nat → Int32} (SS : RS D cs H sa bank rnds fn dn N n df pv rs rw sr wr sf wg wf kd) (hpv : ∀ j, j < 6 → pv j = pu j) (hcnt : cnt = nI dn) (hE : ∀ i, i < n → sm (fun o => gnS fn dn wf kd o i) N = goX N wf i) (hed : ∀ i, i < n → EdF N (goX N wf i)) (hea : EdF N (sm (goX N wf) n)) : Rd l D (Ty cs) 6 yX3_isSame cX3_isSame 8 (some .boolean) H [.ref (sa 0), .ref (ad 0)] (some (.int 1)) := by
  refine rd_ent (by decide) (Nat.le_of_ble_eq_true rfl) ?_
  intro p e s m below meth c ls hx hb hr hml hown hts hlocks hl hH hK
  have hl : lv_has ls 8 [(0, .ref (sa 0)), (1, .ref (ad 0))] := hl
  have RR0 := RR
  have SS0 := SS
  obtain ⟨hP, hG, -, -, -, hcap⟩ := RR
  obtain ⟨hPs, hRo, hVi, hF⟩ := SS
  have hF0 := hF
  obtain ⟨hFo, hFi, hd1, hd3, hfn, hN1, hN, hn⟩ := hF
  refine lv_aload_n hx hb dX3_isSame_0 rfl (lv_at hl 0 rfl) ?_
  refine va_get (D := D) (ci := 4) (v := .ref (sa 4)) (C := RX3) (T := TX3) (N := 6) hx hb hts inlX3 hown hK hPs 0 rfl rfl 5 (by decide) (hts (Cond.fieldLink RX3 29 "TavernDiceLaw$Sim" "wagers" "[[I") mw_4_3) (fun _ h9 => h9) rfl dX3_isSame_1 ?_
  refine va_alen hx hb hK hPs 4 3 rfl rfl (v := nI n) (rfl) dX3_isSame_4 ?_
  refine lv_istore_n (lv' := [(2, .int (nI n)), (0, .ref (sa 0)), (1, .ref (ad 0))]) hx hb dX3_isSame_5 rfl hl (by decide) rfl (fun ls hl => ?_)
  refine lv_iconst (v := nI 0) hx hb dX3_isSame_6 (by first | decide | rfl) ?_
  refine lv_istore_n (lv' := [(3, .int (nI 0)), (2, .int (nI n)), (0, .ref (sa 0)), (1, .ref (ad 0))]) hx hb dX3_isSame_7 rfl hl (by decide) rfl (fun ls hl => ?_)
  refine lv_iconst (v := sm (fun i => wf i 3) 0) hx hb dX3_isSame_8 (by first | decide | rfl) ?_
  refine lv_istore (lv' := [(4, .int (sm (fun i => wf i 3) 0)), (3, .int (nI 0)), (2, .int (nI n)), (0, .ref (sa 0)), (1, .ref (ad 0))]) hx hb dX3_isSame_9 hl (by decide) rfl (fun ls hl => ?_)
  refine lv_iconst (v := nI 0) hx hb dX3_isSame_11 (by first | decide | rfl) ?_
  refine lv_istore (lv' := [(5, .int (nI 0)), (4, .int (sm (fun i => wf i 3) 0)), (3, .int (nI 0)), (2, .int (nI n)), (0, .ref (sa 0)), (1, .ref (ad 0))]) hx hb dX3_isSame_12 hl (by decide) rfl (fun ls hl => ?_)
  have loop14 : ∀ (n9 : Nat) (i : Nat) (ls : Array Slot), i ≤ n → n + 1 ≤ i + n9 → lv_has ls 8 [(0, .ref (sa 0)), (1, .ref (ad 0)), (2, .int (nI n)), (3, .int (sm (fun i => wf i 3) i)), (4, .int (sm (goX N wf) i)), (5, .int (nI i))] → RdW p l e 6 s m [.ref (sa 0), .ref (ad 0)] below meth c H (some (.int 1)) (F0 m 14 ls []) := by
    intro n9
    induction n9 with
    | zero => intro i  ls hi hfu hl; exact absurd hfu (by omega)
    | succ n9 ih14 =>
      intro i  ls hi hfu hl
      refine lv_iload hx hb dX3_isSame_14 (lv_at hl 5 rfl) ?_
      refine lv_iload_n hx hb dX3_isSame_16 rfl (lv_at hl 2 rfl) ?_
      refine lv_icmp_ge (tgt := 119) hx hb dX3_isSame_17 (by decide) (fun c_1 => ?_) (fun c_1 => ?_)
      · have hl : lv_has ls 8 [(0, .ref (sa 0)), (1, .ref (ad 0)), (2, .int (nI n)), (3, .int (sm (fun i => wf i 3) n)), (4, .int (sm (goX N wf) n))] := by have gi : i = n := by { have g := (nI_leI (by omega) (by omega)).mp c_1; omega }; rw [gi] at hl; exact lv_sub hl [0, 1, 2, 3, 4] rfl
        refine lv_iconst (v := nI 0) hx hb dX3_isSame_119 (by first | decide | rfl) ?_
        refine lv_istore (lv' := [(5, .int (nI 0)), (0, .ref (sa 0)), (1, .ref (ad 0)), (2, .int (nI n)), (3, .int (sm (fun i => wf i 3) n)), (4, .int (sm (goX N wf) n))]) hx hb dX3_isSame_120 hl (by decide) rfl (fun ls hl => ?_)
        have loop122 : ∀ (n9 : Nat) (i : Nat) (ls : Array Slot), i ≤ 6 → 7 ≤ i + n9 → lv_has ls 8 [(0, .ref (sa 0)), (1, .ref (ad 0)), (2, .int (nI n)), (3, .int (sm (fun i => wf i 3) n)), (4, .int (sm (goX N wf) n)), (5, .int (nI i))] → RdW p l e 6 s m [.ref (sa 0), .ref (ad 0)] below meth c H (some (.int 1)) (F0 m 122 ls []) := by
          intro n9
          induction n9 with
          | zero => intro i  ls hi9 hfu9 hl; exact absurd hfu9 (by omega)
          | succ n9 ih122 =>
            intro i  ls hi9 hfu9 hl
            refine lv_iload hx hb dX3_isSame_122 (lv_at hl 5 rfl) ?_
            refine lv_bipush (v := nI 6) hx hb dX3_isSame_124 (by first | decide | rfl) ?_
            refine lv_icmp_ge (tgt := 153) hx hb dX3_isSame_126 (by decide) (fun c_2 => ?_) (fun c_2 => ?_)
            · refine lv_aload_n hx hb dX3_isSame_153 rfl (lv_at hl 1 rfl) ?_
              refine rdV (As := []) (rest := []) (b := ad 0) ⟨hx, hb, hml, hown, hts⟩ hK 0 (c_dice l D cs H RR0) (gin_v mw_21_3 mw_14_3 mw_14_4 mw_1_2 mw_14_5) (by decide +kernel) ⟨Nat.le_of_ble_eq_true rfl, Nat.le_of_ble_eq_true rfl⟩ (va_recv hK hP (ci := 3) (q0 := 0) rfl rfl) rfl hl.1 rfl (Nat.le_of_ble_eq_true rfl) dX3_isSame_154 ⟨(Nat.zero_le _), (Nat.zero_le _)⟩ ?_
              refine W.eq (g2 := F0 m 157 ls [.int cnt]) rfl ?_
              refine lv_aload_n hx hb dX3_isSame_157 rfl (lv_at hl 0 rfl) ?_
              refine va_get (D := D) (ci := 4) (v := .ref (sa 1)) (C := RX3) (T := TX3) (N := 6) hx hb hts inlX3 hown hK hPs 0 rfl rfl 0 (by decide) (hts (Cond.fieldLink RX3 7 "TavernDiceLaw$Sim" "dice" "[I") mw_3_22) (fun _ h9 => h9) rfl dX3_isSame_158 ?_
              refine va_alen hx hb hK hPs 1 0 rfl rfl (v := nI dn) (rfl) dX3_isSame_161 ?_
              refine lv_icmp_ne (tgt := 236) hx hb dX3_isSame_162 (by decide) (fun c_3 => False.elim (c_3 hcnt)) (fun c_3 => ?_)
              refine lv_aload_n hx hb dX3_isSame_165 rfl (lv_at hl 1 rfl) ?_
              refine rdV (As := []) (rest := []) (b := ad 0) ⟨hx, hb, hml, hown, hts⟩ hK 0 (c_outcomes l D cs H RR0) (gin_v mw_21_4 mw_14_12 mw_14_13 mw_1_2 mw_14_14) (by decide +kernel) ⟨Nat.le_of_ble_eq_true rfl, Nat.le_of_ble_eq_true rfl⟩ (va_recv hK hP (ci := 3) (q0 := 0) rfl rfl) rfl hl.1 rfl (Nat.le_of_ble_eq_true rfl) dX3_isSame_166 ⟨(Nat.zero_le _), (Nat.zero_le _)⟩ ?_
              refine W.eq (g2 := F0 m 169 ls [.int (nI N)]) rfl ?_
              refine lv_aload_n hx hb dX3_isSame_169 rfl (lv_at hl 0 rfl) ?_
              refine va_get (D := D) (ci := 4) (v := .ref (sa 2)) (C := RX3) (T := TX3) (N := 6) hx hb hts inlX3 hown hK hPs 0 rfl rfl 1 (by decide) (hts (Cond.fieldLink RX3 17 "TavernDiceLaw$Sim" "shown" "[[I") mw_3_23) (fun _ h9 => h9) rfl dX3_isSame_170 ?_
              refine va_alen hx hb hK hPs 2 3 rfl rfl (v := nI N) (rfl) dX3_isSame_173 ?_
              refine lv_icmp_ne (tgt := 236) hx hb dX3_isSame_174 (by decide) (fun c_4 => False.elim (c_4 rfl)) (fun c_4 => ?_)
              refine lv_aload_n hx hb dX3_isSame_177 rfl (lv_at hl 1 rfl) ?_
              refine rdV (As := []) (rest := []) (b := ad 0) ⟨hx, hb, hml, hown, hts⟩ hK 0 (c_open l D cs H RR0) (gin_v mw_21_5 mw_14_16 mw_14_17 mw_1_2 mw_14_18) (by decide +kernel) ⟨Nat.le_of_ble_eq_true rfl, Nat.le_of_ble_eq_true rfl⟩ (va_recv hK hP (ci := 3) (q0 := 0) rfl rfl) rfl hl.1 rfl (Nat.le_of_ble_eq_true rfl) dX3_isSame_178 ⟨(Nat.zero_le _), (Nat.zero_le _)⟩ ?_
              refine W.eq (g2 := F0 m 181 ls [.int (nI n)]) rfl ?_
              refine lv_iload_n hx hb dX3_isSame_181 rfl (lv_at hl 2 rfl) ?_
              refine lv_icmp_ne (tgt := 236) hx hb dX3_isSame_182 (by decide) (fun c_5 => False.elim (c_5 rfl)) (fun c_5 => ?_)
              refine lv_aload_n hx hb dX3_isSame_185 rfl (lv_at hl 1 rfl) ?_
              refine rdV (As := []) (rest := []) (b := ad 0) ⟨hx, hb, hml, hown, hts⟩ hK 0 (c_bank l D cs H RR0) (gin_v mw_21_6 mw_14_20 mw_14_21 mw_1_2 mw_14_22) (by decide +kernel) ⟨Nat.le_of_ble_eq_true rfl, Nat.le_of_ble_eq_true rfl⟩ (va_recv hK hP (ci := 3) (q0 := 0) rfl rfl) rfl hl.1 rfl (Nat.le_of_ble_eq_true rfl) dX3_isSame_186 ⟨(Nat.zero_le _), (Nat.zero_le _)⟩ ?_
              refine W.eq (g2 := F0 m 189 ls [.int bank]) rfl ?_
              refine lv_aload_n hx hb dX3_isSame_189 rfl (lv_at hl 0 rfl) ?_
              refine va_get (D := D) (ci := 4) (v := .int bank) (C := RX3) (T := TX3) (N := 6) hx hb hts inlX3 hown hK hPs 0 rfl rfl 3 (by decide) (hts (Cond.fieldLink RX3 24 "TavernDiceLaw$Sim" "bank" "I") mw_4_1) (fun _ h9 => h9) rfl dX3_isSame_190 ?_
              refine lv_icmp_ne (tgt := 236) hx hb dX3_isSame_193 (by decide) (fun c_6 => False.elim (c_6 rfl)) (fun c_6 => ?_)
              refine lv_aload_n hx hb dX3_isSame_196 rfl (lv_at hl 1 rfl) ?_
              refine rdV (As := []) (rest := []) (b := ad 0) ⟨hx, hb, hml, hown, hts⟩ hK 0 (c_rounds l D cs H RR0) (gin_v mw_21_7 mw_15_0 mw_15_1 mw_1_2 mw_15_2) (by decide +kernel) ⟨Nat.le_of_ble_eq_true rfl, Nat.le_of_ble_eq_true rfl⟩ (va_recv hK hP (ci := 3) (q0 := 0) rfl rfl) rfl hl.1 rfl (Nat.le_of_ble_eq_true rfl) dX3_isSame_197 ⟨(Nat.zero_le _), (Nat.zero_le _)⟩ ?_
              refine W.eq (g2 := F0 m 200 ls [.int rnds]) rfl ?_
              refine lv_aload_n hx hb dX3_isSame_200 rfl (lv_at hl 0 rfl) ?_
              refine va_get (D := D) (ci := 4) (v := .int rnds) (C := RX3) (T := TX3) (N := 6) hx hb hts inlX3 hown hK hPs 0 rfl rfl 4 (by decide) (hts (Cond.fieldLink RX3 48 "TavernDiceLaw$Sim" "rounds" "I") mw_8_7) (fun _ h9 => h9) rfl dX3_isSame_201 ?_
              refine lv_icmp_ne (tgt := 236) hx hb dX3_isSame_204 (by decide) (fun c_7 => False.elim (c_7 rfl)) (fun c_7 => ?_)
              refine lv_aload_n hx hb dX3_isSame_207 rfl (lv_at hl 1 rfl) ?_
              refine rdV (As := []) (rest := []) (b := ad 0) ⟨hx, hb, hml, hown, hts⟩ hK 0 (c_staked l D cs H RR0) (gin_v mw_21_8 mw_15_4 mw_15_5 mw_1_2 mw_15_6) (by decide +kernel) ⟨Nat.le_of_ble_eq_true rfl, Nat.le_of_ble_eq_true rfl⟩ (va_recv hK hP (ci := 3) (q0 := 0) rfl rfl) rfl hl.1 rfl (Nat.le_of_ble_eq_true rfl) dX3_isSame_208 ⟨(Nat.zero_le _), (Nat.zero_le _)⟩ ?_
              refine W.eq (g2 := F0 m 211 ls [.int (sm (fun i => wf i 3) n)]) rfl ?_
              refine lv_iload_n hx hb dX3_isSame_211 rfl (lv_at hl 3 rfl) ?_
              refine lv_icmp_ne (tgt := 236) hx hb dX3_isSame_212 (by decide) (fun c_8 => False.elim (c_8 rfl)) (fun c_8 => ?_)
              refine lv_aload_n hx hb dX3_isSame_215 rfl (lv_at hl 0 rfl) ?_
              refine lv_iload hx hb dX3_isSame_216 (lv_at hl 4 rfl) ?_
              refine lv_aload_n hx hb dX3_isSame_218 rfl (lv_at hl 1 rfl) ?_
              refine rdV (As := []) (rest := [.int (sm (goX N wf) n), .ref (sa 0)]) (b := ad 0) ⟨hx, hb, hml, hown, hts⟩ hK 0 (c_allEdgesTop l D cs H RR0) (gin_v mw_21_9 mw_15_8 mw_15_9 mw_1_2 mw_15_10) (by decide +kernel) ⟨Nat.le_of_ble_eq_true rfl, Nat.le_of_ble_eq_true rfl⟩ (va_recv hK hP (ci := 3) (q0 := 0) rfl rfl) rfl hl.1 rfl (Nat.le_of_ble_eq_true rfl) dX3_isSame_219 ⟨(Nat.zero_le _), (Nat.zero_le _)⟩ ?_
              refine W.eq (g2 := F0 m 222 ls [.int (sm (goX N wf) n / cdX (sm (goX N wf) n) (nI N)), .int (sm (goX N wf) n), .ref (sa 0)]) rfl ?_
              refine lv_aload_n hx hb dX3_isSame_222 rfl (lv_at hl 1 rfl) ?_
              refine rdV (As := []) (rest := [.int (sm (goX N wf) n / cdX (sm (goX N wf) n) (nI N)), .int (sm (goX N wf) n), .ref (sa 0)]) (b := ad 0) ⟨hx, hb, hml, hown, hts⟩ hK 0 (c_allEdgesBottom l D cs H RR0) (gin_v mw_21_10 mw_16_12 mw_16_13 mw_1_2 mw_16_14) (by decide +kernel) ⟨Nat.le_of_ble_eq_true rfl, Nat.le_of_ble_eq_true rfl⟩ (va_recv hK hP (ci := 3) (q0 := 0) rfl rfl) rfl hl.1 rfl (Nat.le_of_ble_eq_true rfl) dX3_isSame_223 ⟨(Nat.zero_le _), (Nat.zero_le _)⟩ ?_
              refine W.eq (g2 := F0 m 226 ls [.int (nI N / cdX (sm (goX N wf) n) (nI N)), .int (sm (goX N wf) n / cdX (sm (goX N wf) n) (nI N)), .int (sm (goX N wf) n), .ref (sa 0)]) rfl ?_
              refine lv_rwi (y := nI (eBot N (sm (goX N wf) n))) (hea.1) ?_
              refine rdV (As := [.int (sm (goX N wf) n), .int (sm (goX N wf) n / cdX (sm (goX N wf) n) (nI N)), .int (nI (eBot N (sm (goX N wf) n)))]) (rest := []) (b := sa 0) ⟨hx, hb, hml, hown, hts⟩ hK 3 (s_isEdge l D cs H SS0 (sm (goX N wf) n) _ (eBot N (sm (goX N wf) n)) hea.2.1 hea.2.2.1 hea.2.2.2.1 hea.2.2.2.2) (gin_v mw_20_22 mw_20_23 mw_21_0 mw_3_17 mw_21_1) (by decide +kernel) ⟨Nat.le_of_ble_eq_true rfl, Nat.le_of_ble_eq_true rfl⟩ (va_recv hK hPs (ci := 4) (q0 := 0) rfl rfl) rfl hl.1 rfl (Nat.le_of_ble_eq_true rfl) dX3_isSame_226 ⟨(Nat.zero_le _), (Nat.zero_le _)⟩ ?_
              refine W.eq (g2 := F0 m 229 ls [.int 1]) rfl ?_
              refine lv_if_eq (tgt := 236) hx hb dX3_isSame_229 (by decide) (fun c_9 => False.elim (absurd c_9 (by decide))) (fun c_9 => ?_)
              refine lv_iconst (v := 1) hx hb dX3_isSame_232 (by first | decide | rfl) ?_
              refine lv_goto (tgt := 237) hx hb dX3_isSame_233 (by decide) ?_
              exact rd_zret hH hx hb hr hlocks (rfl) (by decide) dX3_isSame_237
            · have hi6 : i < 6 := by
                rcases Nat.lt_or_ge i 6 with q | q
                · exact q
                · exact absurd (nI_le q (by omega)) c_2
              refine lv_aload_n hx hb dX3_isSame_129 rfl (lv_at hl 1 rfl) ?_
              refine lv_iload hx hb dX3_isSame_130 (lv_at hl 5 rfl) ?_
              refine rdV (As := [.int (nI i)]) (rest := []) (b := ad 0) ⟨hx, hb, hml, hown, hts⟩ hK 1 (c_purseOf l D cs H RR0 i hi6) (gin_v mw_21_2 mw_18_12 mw_18_13 mw_1_2 mw_18_14) (by decide +kernel) ⟨Nat.le_of_ble_eq_true rfl, Nat.le_of_ble_eq_true rfl⟩ (va_recv hK hP (ci := 3) (q0 := 0) rfl rfl) rfl hl.1 rfl (Nat.le_of_ble_eq_true rfl) dX3_isSame_132 ⟨(Nat.zero_le _), (Nat.zero_le _)⟩ ?_
              refine W.eq (g2 := F0 m 135 ls [.int (pu i)]) rfl ?_
              refine lv_aload_n hx hb dX3_isSame_135 rfl (lv_at hl 0 rfl) ?_
              refine va_get (D := D) (ci := 4) (v := .ref (sa 3)) (C := RX3) (T := TX3) (N := 6) hx hb hts inlX3 hown hK hPs 0 rfl rfl 2 (by decide) (hts (Cond.fieldLink RX3 21 "TavernDiceLaw$Sim" "purse" "[I") mw_4_0) (fun _ h9 => h9) rfl dX3_isSame_136 ?_
              refine lv_iload hx hb dX3_isSame_139 (lv_at hl 5 rfl) ?_
              refine va_iald hx hb hK hPs 3 0 rfl rfl (vp_in_nI hi6 (by omega)) dX3_isSame_141 ?_
              refine lv_rwi (y := pu i) ((congrArg pv (nI_clamp (by omega))).trans (hpv i hi6)) ?_
              refine lv_icmp_eq (tgt := 147) hx hb dX3_isSame_142 (by decide) (fun c_10 => ?_) (fun c_10 => False.elim (c_10 rfl))
              refine lv_iinc (v := nI (i + 1)) (lv' := [(5, .int (nI (i + 1))), (0, .ref (sa 0)), (1, .ref (ad 0)), (2, .int (nI n)), (3, .int (sm (fun i => wf i 3) n)), (4, .int (sm (goX N wf) n))]) hx hb dX3_isSame_147 hl (k := 5) rfl (nI_1 i) (by decide) rfl (fun ls hl => ?_)
              refine lv_goto (tgt := 122) hx hb dX3_isSame_150 (by decide) ?_
              exact ih122 (i + 1) ls (by omega) (by omega) (lv_sub hl [1, 2, 3, 4, 5, 0] rfl)
        exact loop122 7 0 ls (Nat.zero_le _) (by omega) (lv_sub hl [1, 2, 3, 4, 5, 0] rfl)
      · have hlt : i < n := by
          rcases Nat.lt_or_ge i n with q | q
          · exact q
          · exact absurd (nI_le q (by omega)) c_1
        refine lv_aload_n hx hb dX3_isSame_20 rfl (lv_at hl 0 rfl) ?_
        refine va_get (D := D) (ci := 4) (v := .ref (sa 4)) (C := RX3) (T := TX3) (N := 6) hx hb hts inlX3 hown hK hPs 0 rfl rfl 5 (by decide) (hts (Cond.fieldLink RX3 29 "TavernDiceLaw$Sim" "wagers" "[[I") mw_4_3) (fun _ h9 => h9) rfl dX3_isSame_21 ?_
        refine lv_iload hx hb dX3_isSame_24 (lv_at hl 5 rfl) ?_
        refine aldA hx hb hK hPs 4 3 rfl rfl (vp_in_nI hlt (by omega)) dX3_isSame_26 ?_
        refine lv_rwv (y := .ref (wr i)) (by rw [nI_clamp (by omega), (hVi i (by omega)).2]; rfl) ?_
        refine lv_astore (lv' := [(6, .ref (wr i)), (0, .ref (sa 0)), (1, .ref (ad 0)), (2, .int (nI n)), (3, .int (sm (fun i => wf i 3) i)), (4, .int (sm (goX N wf) i)), (5, .int (nI i))]) hx hb dX3_isSame_27 hl (by decide) rfl (fun ls hl => ?_)
        refine lv_aload_n hx hb dX3_isSame_29 rfl (lv_at hl 1 rfl) ?_
        refine lv_aload hx hb dX3_isSame_30 (lv_at hl 0 rfl) ?_
        refine rdV (As := [.ref (wr i)]) (rest := []) (b := sa 0) ⟨hx, hb, hml, hown, hts⟩ hK 1 (s_edge l D cs H SS0 i hlt) (gin_v mw_20_13 mw_20_14 mw_20_15 mw_3_17 mw_20_16) (by decide +kernel) ⟨Nat.le_of_ble_eq_true rfl, Nat.le_of_ble_eq_true rfl⟩ (va_recv hK hPs (ci := 4) (q0 := 0) rfl rfl) rfl hl.1 rfl (Nat.le_of_ble_eq_true rfl) dX3_isSame_32 ⟨(Nat.zero_le _), (Nat.zero_le _)⟩ ?_
        refine W.eq (g2 := F0 m 35 ls [.int (sm (fun o => gnS fn dn wf kd o i) N)]) rfl ?_
        refine lv_rwi (y := goX N wf i) (hE i hlt) ?_
        refine lv_istore (lv' := [(7, .int (goX N wf i)), (6, .ref (wr i)), (0, .ref (sa 0)), (1, .ref (ad 0)), (2, .int (nI n)), (3, .int (sm (fun i => wf i 3) i)), (4, .int (sm (goX N wf) i)), (5, .int (nI i))]) hx hb dX3_isSame_35 hl (by decide) rfl (fun ls hl => ?_)
        refine lv_iload_n hx hb dX3_isSame_37 rfl (lv_at hl 5 rfl) ?_
        refine lv_aload hx hb dX3_isSame_38 (lv_at hl 1 rfl) ?_
        refine lv_iconst (v := nI 3) hx hb dX3_isSame_40 (by first | decide | rfl) ?_
        refine va_iald hx hb hK (hVi i hlt).1 0 0 rfl rfl (vp_in_nI (by omega) (by omega)) dX3_isSame_41 ?_
        refine lv_rwi (y := wf i 3) ((congrArg (wg i) (nI_clamp (by omega))).trans (hF0.w hlt (by omega))) ?_
        refine lv_iadd hx hb dX3_isSame_42 ?_
        refine lv_rwi (y := sm (fun i => wf i 3) (i + 1)) (rfl) ?_
        refine lv_istore_n (lv' := [(3, .int (sm (fun i => wf i 3) (i + 1))), (7, .int (goX N wf i)), (6, .ref (wr i)), (0, .ref (sa 0)), (1, .ref (ad 0)), (2, .int (nI n)), (4, .int (sm (goX N wf) i)), (5, .int (nI i))]) hx hb dX3_isSame_43 rfl hl (by decide) rfl (fun ls hl => ?_)
        refine lv_iload hx hb dX3_isSame_44 (lv_at hl 6 rfl) ?_
        refine lv_iload hx hb dX3_isSame_46 (lv_at hl 1 rfl) ?_
        refine lv_iadd hx hb dX3_isSame_48 ?_
        refine lv_rwi (y := sm (goX N wf) (i + 1)) (rfl) ?_
        refine lv_istore (lv' := [(4, .int (sm (goX N wf) (i + 1))), (3, .int (sm (fun i => wf i 3) (i + 1))), (7, .int (goX N wf i)), (6, .ref (wr i)), (0, .ref (sa 0)), (1, .ref (ad 0)), (2, .int (nI n)), (5, .int (nI i))]) hx hb dX3_isSame_49 hl (by decide) rfl (fun ls hl => ?_)
        refine lv_aload_n hx hb dX3_isSame_51 rfl (lv_at hl 5 rfl) ?_
        refine lv_iload hx hb dX3_isSame_52 (lv_at hl 7 rfl) ?_
        refine rdV (As := [.int (nI i)]) (rest := []) (b := ad 0) ⟨hx, hb, hml, hown, hts⟩ hK 1 (c_patronOf l D cs H RR0 i hlt) (gin_v mw_20_17 mw_17_12 mw_17_13 mw_1_2 mw_17_14) (by decide +kernel) ⟨Nat.le_of_ble_eq_true rfl, Nat.le_of_ble_eq_true rfl⟩ (va_recv hK hP (ci := 3) (q0 := 0) rfl rfl) rfl hl.1 rfl (Nat.le_of_ble_eq_true rfl) dX3_isSame_54 ⟨(Nat.zero_le _), (Nat.zero_le _)⟩ ?_
        refine W.eq (g2 := F0 m 57 ls [.int (wf i 0)]) rfl ?_
        refine lv_aload hx hb dX3_isSame_57 (lv_at hl 3 rfl) ?_
        refine lv_iconst (v := nI 0) hx hb dX3_isSame_59 (by first | decide | rfl) ?_
        refine va_iald hx hb hK (hVi i hlt).1 0 0 rfl rfl (vp_in_nI (by omega) (by omega)) dX3_isSame_60 ?_
        refine lv_rwi (y := wf i 0) ((congrArg (wg i) (nI_clamp (by omega))).trans (hF0.w hlt (by omega))) ?_
        refine lv_icmp_ne (tgt := 111) hx hb dX3_isSame_61 (by decide) (fun c_11 => False.elim (c_11 rfl)) (fun c_11 => ?_)
        refine lv_aload_n hx hb dX3_isSame_64 rfl (lv_at hl 5 rfl) ?_
        refine lv_iload hx hb dX3_isSame_65 (lv_at hl 7 rfl) ?_
        refine rdV (As := [.int (nI i)]) (rest := []) (b := ad 0) ⟨hx, hb, hml, hown, hts⟩ hK 1 (c_stakeOf l D cs H RR0 i hlt) (gin_v mw_20_18 mw_17_16 mw_17_17 mw_1_2 mw_17_18) (by decide +kernel) ⟨Nat.le_of_ble_eq_true rfl, Nat.le_of_ble_eq_true rfl⟩ (va_recv hK hP (ci := 3) (q0 := 0) rfl rfl) rfl hl.1 rfl (Nat.le_of_ble_eq_true rfl) dX3_isSame_67 ⟨(Nat.zero_le _), (Nat.zero_le _)⟩ ?_
        refine W.eq (g2 := F0 m 70 ls [.int (wf i 3)]) rfl ?_
        refine lv_aload hx hb dX3_isSame_70 (lv_at hl 3 rfl) ?_
        refine lv_iconst (v := nI 3) hx hb dX3_isSame_72 (by first | decide | rfl) ?_
        refine va_iald hx hb hK (hVi i hlt).1 0 0 rfl rfl (vp_in_nI (by omega) (by omega)) dX3_isSame_73 ?_
        refine lv_rwi (y := wf i 3) ((congrArg (wg i) (nI_clamp (by omega))).trans (hF0.w hlt (by omega))) ?_
        refine lv_icmp_ne (tgt := 111) hx hb dX3_isSame_74 (by decide) (fun c_12 => False.elim (c_12 rfl)) (fun c_12 => ?_)
        refine lv_aload_n hx hb dX3_isSame_77 rfl (lv_at hl 5 rfl) ?_
        refine lv_iload hx hb dX3_isSame_78 (lv_at hl 7 rfl) ?_
        refine rdV (As := [.int (nI i)]) (rest := []) (b := ad 0) ⟨hx, hb, hml, hown, hts⟩ hK 1 (c_bringsOf l D cs H RR0 i hlt) (gin_v mw_20_19 mw_17_20 mw_17_21 mw_1_2 mw_17_22) (by decide +kernel) ⟨Nat.le_of_ble_eq_true rfl, Nat.le_of_ble_eq_true rfl⟩ (va_recv hK hP (ci := 3) (q0 := 0) rfl rfl) rfl hl.1 rfl (Nat.le_of_ble_eq_true rfl) dX3_isSame_80 ⟨(Nat.zero_le _), (Nat.zero_le _)⟩ ?_
        refine W.eq (g2 := F0 m 83 ls [.int (wf i 4)]) rfl ?_
        refine lv_aload hx hb dX3_isSame_83 (lv_at hl 3 rfl) ?_
        refine lv_iconst (v := nI 4) hx hb dX3_isSame_85 (by first | decide | rfl) ?_
        refine va_iald hx hb hK (hVi i hlt).1 0 0 rfl rfl (vp_in_nI (by omega) (by omega)) dX3_isSame_86 ?_
        refine lv_rwi (y := wf i 4) ((congrArg (wg i) (nI_clamp (by omega))).trans (hF0.w hlt (by omega))) ?_
        refine lv_icmp_ne (tgt := 111) hx hb dX3_isSame_87 (by decide) (fun c_13 => False.elim (c_13 rfl)) (fun c_13 => ?_)
        refine lv_aload_n hx hb dX3_isSame_90 rfl (lv_at hl 4 rfl) ?_
        refine lv_iload hx hb dX3_isSame_91 (lv_at hl 2 rfl) ?_
        refine lv_aload_n hx hb dX3_isSame_93 rfl (lv_at hl 5 rfl) ?_
        refine lv_iload hx hb dX3_isSame_94 (lv_at hl 7 rfl) ?_
        refine rdV (As := [.int (nI i)]) (rest := [.int (goX N wf i), .ref (sa 0)]) (b := ad 0) ⟨hx, hb, hml, hown, hts⟩ hK 1 (c_edgeTop l D cs H RR0 i hlt) (gin_v mw_20_20 mw_18_0 mw_18_1 mw_1_2 mw_18_2) (by decide +kernel) ⟨Nat.le_of_ble_eq_true rfl, Nat.le_of_ble_eq_true rfl⟩ (va_recv hK hP (ci := 3) (q0 := 0) rfl rfl) rfl hl.1 rfl (Nat.le_of_ble_eq_true rfl) dX3_isSame_96 ⟨(Nat.zero_le _), (Nat.zero_le _)⟩ ?_
        refine W.eq (g2 := F0 m 99 ls [.int (goX N wf i / cdX (goX N wf i) (nI N)), .int (goX N wf i), .ref (sa 0)]) rfl ?_
        refine lv_aload_n hx hb dX3_isSame_99 rfl (lv_at hl 5 rfl) ?_
        refine lv_iload hx hb dX3_isSame_100 (lv_at hl 7 rfl) ?_
        refine rdV (As := [.int (nI i)]) (rest := [.int (goX N wf i / cdX (goX N wf i) (nI N)), .int (goX N wf i), .ref (sa 0)]) (b := ad 0) ⟨hx, hb, hml, hown, hts⟩ hK 1 (c_edgeBottom l D cs H RR0 i hlt) (gin_v mw_20_21 mw_18_4 mw_18_5 mw_1_2 mw_18_6) (by decide +kernel) ⟨Nat.le_of_ble_eq_true rfl, Nat.le_of_ble_eq_true rfl⟩ (va_recv hK hP (ci := 3) (q0 := 0) rfl rfl) rfl hl.1 rfl (Nat.le_of_ble_eq_true rfl) dX3_isSame_102 ⟨(Nat.zero_le _), (Nat.zero_le _)⟩ ?_
        refine W.eq (g2 := F0 m 105 ls [.int (nI N / cdX (goX N wf i) (nI N)), .int (goX N wf i / cdX (goX N wf i) (nI N)), .int (goX N wf i), .ref (sa 0)]) rfl ?_
        refine lv_rwi (y := nI (eBot N (goX N wf i))) ((hed i hlt).1) ?_
        refine rdV (As := [.int (goX N wf i), .int (goX N wf i / cdX (goX N wf i) (nI N)), .int (nI (eBot N (goX N wf i)))]) (rest := []) (b := sa 0) ⟨hx, hb, hml, hown, hts⟩ hK 3 (s_isEdge l D cs H SS0 (goX N wf i) _ (eBot N (goX N wf i)) (hed i hlt).2.1 (hed i hlt).2.2.1 (hed i hlt).2.2.2.1 (hed i hlt).2.2.2.2) (gin_v mw_20_22 mw_20_23 mw_21_0 mw_3_17 mw_21_1) (by decide +kernel) ⟨Nat.le_of_ble_eq_true rfl, Nat.le_of_ble_eq_true rfl⟩ (va_recv hK hPs (ci := 4) (q0 := 0) rfl rfl) rfl hl.1 rfl (Nat.le_of_ble_eq_true rfl) dX3_isSame_105 ⟨(Nat.zero_le _), (Nat.zero_le _)⟩ ?_
        refine W.eq (g2 := F0 m 108 ls [.int 1]) rfl ?_
        refine lv_if_ne (tgt := 113) hx hb dX3_isSame_108 (by decide) (fun c_14 => ?_) (fun c_14 => False.elim (absurd c_14 (by decide)))
        refine lv_iinc (v := nI (i + 1)) (lv' := [(5, .int (nI (i + 1))), (4, .int (sm (goX N wf) (i + 1))), (3, .int (sm (fun i => wf i 3) (i + 1))), (7, .int (goX N wf i)), (6, .ref (wr i)), (0, .ref (sa 0)), (1, .ref (ad 0)), (2, .int (nI n))]) hx hb dX3_isSame_113 hl (k := 7) rfl (nI_1 i) (by decide) rfl (fun ls hl => ?_)
        refine lv_goto (tgt := 14) hx hb dX3_isSame_116 (by decide) ?_
        exact ih14 (i + 1) ls (by omega) (by omega) (lv_sub hl [5, 6, 7, 2, 1, 0] rfl)
  exact loop14 (n + 1) 0 ls (Nat.zero_le _) (by omega) (lv_sub hl [4, 5, 3, 2, 1, 0] rfl)
