/-! the reference: what writes, first part; rows by program -/
set_option maxHeartbeats 4000000 in
set_option maxRecDepth 100000 in
theorem m_no (l : Launch) (D : va_G) (cs : Nat → ClassId) (H : Heap) {am : Nat → Nat} {th bank rnds : Int32} {dn N n : Nat} {fc pu wh kn nm sk br ht sg : Nat → Int32} (t : Int32) (post : Option Value → va_W → Prop) (hpost : post (some (.int 0)) (wM cs am t bank rnds dn N n fc pu wh kn nm sk br ht sg)) (hP : va_P D vwCl (wM cs am th bank rnds dn N n fc pu wh kn nm sk br ht sg) H) (hD : va_D (fun _ => True) (wM cs am th bank rnds dn N n fc pu wh kn nm sk br ht sg)) : Wr l D cs 1 0 0 yX3_no cX3_no 2 (some .int) (wM cs am th bank rnds dn N n fc pu wh kn nm sk br ht sg) H [.ref (am 0), .int t] post := by
  refine wr_ent (by decide) (Nat.le_of_ble_eq_true rfl) hP hD ?_
  clear hP hD H
  intro p e s m below meth c ls A Q H hx hb hr hml hown hts hlocks hin hl hK hQ hA hH hP hD hS
  clear hH
  have hl : lv_has ls 2 [(0, .ref (am 0)), (1, .int t)] := hl
  refine lv_aload_n hx hb dX3_no_0 rfl (lv_at hl 0 rfl) ?_
  refine lv_iload_n hx hb dX3_no_1 rfl (lv_at hl 1 rfl) ?_
  refine va_put (D := D) (ci := 4) (v := .int t) (ty := .int) (C := RX3) (T := TX3) (N := 15) hx hb hts inlX3 tyX3 tyX3_ok nmX3 hown hK hP hD hS 0 rfl rfl 0 (by decide) (hts (Cond.fieldLink RX3 48 "TavernDiceModel" "thrown" "I") mw_5_15) (fun _ h9 => h9) rfl (by decide +kernel) rfl rfl (Nat.le_of_ble_eq_true rfl) dX3_no_2 (fun H locs hP hD hS => ?_)
  have hP : va_P D vwCl (wM cs am t bank rnds dn N n fc pu wh kn nm sk br ht sg) H := hP
  have hD : va_D _ (wM cs am t bank rnds dn N n fc pu wh kn nm sk br ht sg) := hD
  refine lv_iconst (v := 0) hx hb dX3_no_5 (by first | decide | rfl) ?_
  exact wr_iret hQ hx hb hr hlocks hP hD hS (hpost) dX3_no_6
set_option maxHeartbeats 4000000 in
set_option maxRecDepth 100000 in
theorem m_ok (l : Launch) (D : va_G) (cs : Nat → ClassId) (H : Heap) {am : Nat → Nat} {th bank rnds : Int32} {dn N n : Nat} {fc pu wh kn nm sk br ht sg : Nat → Int32} (t : Int32) (post : Option Value → va_W → Prop) (hpost : post (some (.int t)) (wM cs am 0 bank rnds dn N n fc pu wh kn nm sk br ht sg)) (hP : va_P D vwCl (wM cs am th bank rnds dn N n fc pu wh kn nm sk br ht sg) H) (hD : va_D (fun _ => True) (wM cs am th bank rnds dn N n fc pu wh kn nm sk br ht sg)) : Wr l D cs 1 0 0 yX3_ok cX3_ok 2 (some .int) (wM cs am th bank rnds dn N n fc pu wh kn nm sk br ht sg) H [.ref (am 0), .int t] post := by
  refine wr_ent (by decide) (Nat.le_of_ble_eq_true rfl) hP hD ?_
  clear hP hD H
  intro p e s m below meth c ls A Q H hx hb hr hml hown hts hlocks hin hl hK hQ hA hH hP hD hS
  clear hH
  have hl : lv_has ls 2 [(0, .ref (am 0)), (1, .int t)] := hl
  refine lv_aload_n hx hb dX3_ok_0 rfl (lv_at hl 0 rfl) ?_
  refine lv_iconst (v := 0) hx hb dX3_ok_1 (by first | decide | rfl) ?_
  refine va_put (D := D) (ci := 4) (v := .int 0) (ty := .int) (C := RX3) (T := TX3) (N := 15) hx hb hts inlX3 tyX3 tyX3_ok nmX3 hown hK hP hD hS 0 rfl rfl 0 (by decide) (hts (Cond.fieldLink RX3 48 "TavernDiceModel" "thrown" "I") mw_5_15) (fun _ h9 => h9) rfl (by decide +kernel) rfl rfl (Nat.le_of_ble_eq_true rfl) dX3_ok_2 (fun H locs hP hD hS => ?_)
  have hP : va_P D vwCl (wM cs am 0 bank rnds dn N n fc pu wh kn nm sk br ht sg) H := hP
  have hD : va_D _ (wM cs am 0 bank rnds dn N n fc pu wh kn nm sk br ht sg) := hD
  refine lv_iload_n hx hb dX3_ok_5 rfl (lv_at hl 1 rfl) ?_
  exact wr_iret hQ hx hb hr hlocks hP hD hS (hpost) dX3_ok_6
set_option maxHeartbeats 4000000 in
set_option maxRecDepth 100000 in
theorem m_add (l : Launch) (D : va_G) (cs : Nat → ClassId) (H : Heap) {am : Nat → Nat} {th bank rnds : Int32} {dn N n : Nat} {fc pu wh kn nm sk br ht sg : Nat → Int32} {fn : Nat → Nat} (hF : FM fn dn N n fc) (post : Option Value → va_W → Prop) (hpost : ∀ sg2 : Nat → Int32, (∀ v, v < 37 → sg2 v = nI (ws9 fn dn v)) → post none (wM cs am th bank rnds dn N n fc pu wh kn nm sk br ht sg2)) (hP : va_P D vwCl (wM cs am th bank rnds dn N n fc pu wh kn nm sk br ht sg) H) (hD : va_D (fun _ => True) (wM cs am th bank rnds dn N n fc pu wh kn nm sk br ht sg)) : Wr l D cs 2 0 0 yX3_add cX3_add 5 none (wM cs am th bank rnds dn N n fc pu wh kn nm sk br ht sg) H [.ref (am 0)] post := by
  refine wr_ent (by decide) (Nat.le_of_ble_eq_true rfl) hP hD ?_
  clear hP hD H
  intro p e s m below meth c ls A Q H hx hb hr hml hown hts hlocks hin hl hK hQ hA hH hP hD hS
  clear hH
  have hl : lv_has ls 5 [(0, .ref (am 0))] := hl
  have hF0 := hF
  obtain ⟨hF3, hd1, hd3, hNe, hN1, hN, hn⟩ := hF
  refine lv_iconst (v := nI 0) hx hb dX3_add_0 (by first | decide | rfl) ?_
  refine lv_istore_n (lv' := [(1, .int (nI 0)), (0, .ref (am 0))]) hx hb dX3_add_1 rfl hl (by decide) rfl (fun ls hl => ?_)
  have loop2 : ∀ (n9 : Nat) (i : Nat) (sg2 : Nat → Int32) (H : Heap) (locs : List Loc) (ls : Array Slot), i ≤ 37 → 38 ≤ i + n9 → (∀ v, v < i → sg2 v = nI (ws9 fn 0 v)) → va_P D vwCl (wM cs am th bank rnds dn N n fc pu wh kn nm sk br ht sg2) H → va_D A (wM cs am th bank rnds dn N n fc pu wh kn nm sk br ht sg2) → va_S A s.heap H locs → lv_has ls 5 [(0, .ref (am 0)), (1, .int (nI i))] → W p l e (rmL 2 0 0) s m [.ref (am 0)].toArray below meth c H locs 0 0 Q (F0 m 2 ls []) := by
    intro n9
    induction n9 with
    | zero => intro i  sg2  H locs ls hi hf hz hP hD hS hl; exact absurd hf (by omega)
    | succ n9 ih2 =>
      intro i  sg2  H locs ls hi hf hz hP hD hS hl
      refine lv_iload_n hx hb dX3_add_2 rfl (lv_at hl 1 rfl) ?_
      refine lv_bipush (v := nI 36) hx hb dX3_add_3 (by first | decide | rfl) ?_
      refine lv_icmp_gt (tgt := 29) hx hb dX3_add_5 (by decide) (fun c_1 => ?_) (fun c_1 => ?_)
      · have hz9 : ∀ v, v < 37 → sg2 v = nI (ws9 fn 0 v) := fun v hv => hz v (by have g := (nI_ltI (by omega) (by omega)).mp c_1; omega)
        refine lv_iconst (v := nI 0) hx hb dX3_add_29 (by first | decide | rfl) ?_
        refine lv_istore_n (lv' := [(1, .int (nI 0)), (0, .ref (am 0))]) hx hb dX3_add_30 rfl hl (by decide) rfl (fun ls hl => ?_)
        have loop31 : ∀ (n9 : Nat) (d : Nat) (sg3 : Nat → Int32) (H : Heap) (locs : List Loc) (ls : Array Slot), d ≤ dn → dn + 1 ≤ d + n9 → (∀ v, v < 37 → sg3 v = nI (ws9 fn d v)) → va_P D vwCl (wM cs am th bank rnds dn N n fc pu wh kn nm sk br ht sg3) H → va_D A (wM cs am th bank rnds dn N n fc pu wh kn nm sk br ht sg3) → va_S A s.heap H locs → lv_has ls 5 [(0, .ref (am 0)), (1, .int (nI d))] → W p l e (rmL 2 0 0) s m [.ref (am 0)].toArray below meth c H locs 0 0 Q (F0 m 31 ls []) := by
          intro n9
          induction n9 with
          | zero => intro d  sg3  H locs ls hdi hf hs3 hP hD hS hl; exact absurd hf (by omega)
          | succ n9 ih31 =>
            intro d  sg3  H locs ls hdi hf hs3 hP hD hS hl
            refine lv_iload_n hx hb dX3_add_31 rfl (lv_at hl 1 rfl) ?_
            refine lv_aload_n hx hb dX3_add_32 rfl (lv_at hl 0 rfl) ?_
            refine va_get (D := D) (ci := 4) (v := .int (nI dn)) (C := RX3) (T := TX3) (N := 15) hx hb hts inlX3 hown hK hP 0 rfl rfl 2 (by decide) (hts (Cond.fieldLink RX3 13 "TavernDiceModel" "dice" "I") mw_3_20) (fun _ h9 => h9) rfl dX3_add_33 ?_
            refine lv_icmp_ge (tgt := 103) hx hb dX3_add_36 (by decide) (fun c_2 => ?_) (fun c_2 => ?_)
            · exact wr_vret hQ hx hb hr hlocks hP hD hS (hpost sg3 (by rw [show dn = d from (by have g := (nI_leI (by omega) (by omega)).mp c_2; omega)]; exact hs3)) dX3_add_103
            · have hlt : d < dn := by
                rcases Nat.lt_or_ge d dn with q | q
                · exact q
                · exact absurd (nI_le q (by omega)) c_2
              refine lv_bipush (v := nI 37 + (-1)) hx hb dX3_add_39 (by decide) ?_
              refine lv_istore_n (lv' := [(2, .int (nI 37 + (-1))), (0, .ref (am 0)), (1, .int (nI d))]) hx hb dX3_add_41 rfl hl (by decide) rfl (fun ls hl => ?_)
              have loop42 : ∀ (n9 : Nat) (x9 : Nat) (sg4 : Nat → Int32) (H : Heap) (locs : List Loc) (ls : Array Slot), x9 ≤ 37 → x9 + 1 ≤ n9 → (∀ v, v < x9 → v < 37 → sg4 v = nI (ws9 fn d v)) → (∀ v, x9 ≤ v → v < 37 → sg4 v = nI (ws9 fn (d + 1) v)) → va_P D vwCl (wM cs am th bank rnds dn N n fc pu wh kn nm sk br ht sg4) H → va_D A (wM cs am th bank rnds dn N n fc pu wh kn nm sk br ht sg4) → va_S A s.heap H locs → lv_has ls 5 [(0, .ref (am 0)), (1, .int (nI d)), (2, .int (nI x9 + (-1)))] → W p l e (rmL 2 0 0) s m [.ref (am 0)].toArray below meth c H locs 0 0 Q (F0 m 42 ls []) := by
                intro n9
                induction n9 with
                | zero => intro x9  sg4  H locs ls hxi hf hs4 hu4 hP hD hS hl; exact absurd hf (by omega)
                | succ n9 ih42 =>
                  intro x9  sg4  H locs ls hxi hf hs4 hu4 hP hD hS hl
                  rcases x9 with _ | u
                  · skip
                    refine lv_iload_n hx hb dX3_add_42 rfl (lv_at hl 2 rfl) ?_
                    refine lv_if_lt (tgt := 97) hx hb dX3_add_43 (by decide) (fun c_3 => ?_) (fun c_3 => False.elim (c_3 (by decide)))
                    refine lv_iinc (v := nI (d + 1)) (lv' := [(1, .int (nI (d + 1))), (0, .ref (am 0)), (2, .int (nI 0 + (-1)))]) hx hb dX3_add_97 hl (k := 1) rfl (nI_1 d) (by decide) rfl (fun ls hl => ?_)
                    refine lv_goto (tgt := 31) hx hb dX3_add_100 (by decide) ?_
                    exact ih31 (d + 1) _ H _ ls (by omega) (by omega) (fun v hv => hu4 v (by omega) hv) hP hD hS (lv_sub hl [1, 0] rfl)
                  · rw [pk_m1] at hl
                    refine lv_iload_n hx hb dX3_add_42 rfl (lv_at hl 2 rfl) ?_
                    refine lv_if_lt (tgt := 97) hx hb dX3_add_43 (by decide) (fun c_4 => False.elim (absurd c_4 (nI_pos (by omega)))) (fun c_4 => ?_)
                    refine lv_iconst (v := nI (sgU (fun f => ws9 fn d (u - f)) 0)) hx hb dX3_add_46 (by first | decide | rfl) ?_
                    refine lv_istore_n (lv' := [(3, .int (nI (sgU (fun f => ws9 fn d (u - f)) 0))), (0, .ref (am 0)), (1, .int (nI d)), (2, .int (nI u))]) hx hb dX3_add_47 rfl hl (by decide) rfl (fun ls hl => ?_)
                    refine lv_iconst (v := nI (0 + 1)) hx hb dX3_add_48 (by first | decide | rfl) ?_
                    refine lv_istore (lv' := [(4, .int (nI (0 + 1))), (3, .int (nI (sgU (fun f => ws9 fn d (u - f)) 0))), (0, .ref (am 0)), (1, .int (nI d)), (2, .int (nI u))]) hx hb dX3_add_49 hl (by decide) rfl (fun ls hl => ?_)
                    have loop51 : ∀ (n9 : Nat) (f : Nat) (H : Heap) (locs : List Loc) (ls : Array Slot), f ≤ min u (fn d) → min u (fn d) + 1 ≤ f + n9 → va_P D vwCl (wM cs am th bank rnds dn N n fc pu wh kn nm sk br ht sg4) H → va_D A (wM cs am th bank rnds dn N n fc pu wh kn nm sk br ht sg4) → va_S A s.heap H locs → lv_has ls 5 [(0, .ref (am 0)), (1, .int (nI d)), (2, .int (nI u)), (3, .int (nI (sgU (fun f => ws9 fn d (u - f)) f))), (4, .int (nI (f + 1)))] → W p l e (rmL 2 0 0) s m [.ref (am 0)].toArray below meth c H locs 0 0 Q (F0 m 51 ls []) := by
                      intro n9
                      induction n9 with
                      | zero => intro f  H locs ls hfi hf hP hD hS hl; exact absurd hf (by omega)
                      | succ n9 ih51 =>
                        intro f  H locs ls hfi hf hP hD hS hl
                        refine lv_iload hx hb dX3_add_51 (lv_at hl 4 rfl) ?_
                        refine lv_iload_n hx hb dX3_add_53 rfl (lv_at hl 2 rfl) ?_
                        refine lv_aload_n hx hb dX3_add_54 rfl (lv_at hl 0 rfl) ?_
                        refine va_get (D := D) (ci := 4) (v := .ref (am 1)) (C := RX3) (T := TX3) (N := 15) hx hb hts inlX3 hown hK hP 0 rfl rfl 1 (by decide) (hts (Cond.fieldLink RX3 9 "TavernDiceModel" "faces" "[I") mw_3_19) (fun _ h9 => h9) rfl dX3_add_55 ?_
                        refine lv_iload_n hx hb dX3_add_58 rfl (lv_at hl 1 rfl) ?_
                        refine va_iald hx hb hK hP 1 0 rfl rfl (vp_in_nI (by omega) (by omega)) dX3_add_59 ?_
                        refine lv_rwi (y := nI (fn d)) ((congrArg fc (nI_clamp (by omega))).trans (hF3 d (by omega)).1) ?_
                        refine va_mmin hx hb (hml.trans hl.1.symm) hown (hts (Cond.methodLink RX3 69 Lib.Math.min.name) mw_10_6) (hts (Cond.static Lib.Math.min.name) mw_2_14) (hts (Cond.initialized "java/lang/Math") mw_2_15) (hts (Cond.code Lib.Math.min.name Lib.Math.min.code 2 (some .int)) mw_2_16) (Nat.le_of_ble_eq_true rfl) (Nat.le_of_ble_eq_true rfl) (Nat.le_of_ble_eq_true rfl) (Nat.le_of_ble_eq_true rfl) dX3_add_60 ?_
                        refine lv_rwi (y := nI (min u (fn d))) (by
                          have g := hF3 d (by omega)
                          by_cases z : fn d < u
                          · rw [if_pos (nI_lt z (by omega)), Nat.min_eq_right (by omega)]
                          · rw [if_neg (nI_nlt (by omega) (by omega)), Nat.min_eq_left (by omega)]) ?_
                        refine lv_icmp_gt (tgt := 84) hx hb dX3_add_63 (by decide) (fun c_5 => ?_) (fun c_5 => ?_)
                        · have hm9 : f = min u (fn d) := by
                            have g := (nI_ltI (a := min u (fn d)) (b := f + 1) (by have g := hF3 d (by omega); omega) (by omega)).mp c_5
                            omega
                          refine lv_aload_n hx hb dX3_add_84 rfl (lv_at hl 0 rfl) ?_
                          refine va_get (D := D) (ci := 4) (v := .ref (am 9)) (C := RX3) (T := TX3) (N := 15) hx hb hts inlX3 hown hK hP 0 rfl rfl 14 (by decide) (hts (Cond.fieldLink RX3 45 "TavernDiceModel" "sums" "[I") mw_4_7) (fun _ h9 => h9) rfl dX3_add_85 ?_
                          refine lv_iload_n hx hb dX3_add_88 rfl (lv_at hl 2 rfl) ?_
                          refine lv_iload_n hx hb dX3_add_89 rfl (lv_at hl 3 rfl) ?_
                          refine va_iast hx hb hK hP hD hS 9 0 rfl rfl (vp_in_nI (by omega) (by omega)) dX3_add_90 (fun H locs hP hD hS => ?_)
                          have g9 : upd sg4 (nI u).toNatClampNeg (nI (sgU (fun f => ws9 fn d (u - f)) f)) = upd sg4 u (nI (ws9 fn (d + 1) u)) := by rw [nI_clamp (by omega), hm9]; rfl
                          have hP : va_P D vwCl (wM cs am th bank rnds dn N n fc pu wh kn nm sk br ht (upd sg4 u (nI (ws9 fn (d + 1) u)))) H := Eq.mp (congrArg (fun z9 => va_P D vwCl (wM cs am th bank rnds dn N n fc pu wh kn nm sk br ht z9) H) g9) hP
                          have hD : va_D _ (wM cs am th bank rnds dn N n fc pu wh kn nm sk br ht (upd sg4 u (nI (ws9 fn (d + 1) u)))) := Eq.mp (congrArg (fun z9 => va_D _ (wM cs am th bank rnds dn N n fc pu wh kn nm sk br ht z9)) g9) hD
                          refine lv_iinc (v := nI u + (-1)) (lv' := [(2, .int (nI u + (-1))), (0, .ref (am 0)), (1, .int (nI d)), (3, .int (nI (sgU (fun f => ws9 fn d (u - f)) f))), (4, .int (nI (f + 1)))]) hx hb dX3_add_91 hl (k := 2) rfl (rfl) (by decide) rfl (fun ls hl => ?_)
                          refine lv_goto (tgt := 42) hx hb dX3_add_94 (by decide) ?_
                          exact ih42 u _ H _ ls (by omega) (by omega) (fun v h1 h2 => by rw [pk_un (by omega)]; exact hs4 v (by omega) h2) (fun v h1 h2 => by
                              rcases Nat.lt_or_ge u v with q | q
                              · rw [pk_un (by omega)]; exact hu4 v (by omega) h2
                              · rw [show v = u by omega, pk_us]) hP hD hS (lv_sub hl [1, 2, 0] rfl)
                        · have hf9 : f + 1 ≤ u ∧ f + 1 ≤ fn d := by
                            have g : f + 1 ≤ min u (fn d) := by
                              rcases Nat.lt_or_ge (min u (fn d)) (f + 1) with q | q
                              · exact absurd (nI_lt q (by have g := hF3 d (by omega); omega)) c_5
                              · exact q
                            exact ⟨Nat.le_trans g (Nat.min_le_left _ _), Nat.le_trans g (Nat.min_le_right _ _)⟩
                          refine lv_iload_n hx hb dX3_add_66 rfl (lv_at hl 3 rfl) ?_
                          refine lv_aload_n hx hb dX3_add_67 rfl (lv_at hl 0 rfl) ?_
                          refine va_get (D := D) (ci := 4) (v := .ref (am 9)) (C := RX3) (T := TX3) (N := 15) hx hb hts inlX3 hown hK hP 0 rfl rfl 14 (by decide) (hts (Cond.fieldLink RX3 45 "TavernDiceModel" "sums" "[I") mw_4_7) (fun _ h9 => h9) rfl dX3_add_68 ?_
                          refine lv_iload_n hx hb dX3_add_71 rfl (lv_at hl 2 rfl) ?_
                          refine lv_iload hx hb dX3_add_72 (lv_at hl 4 rfl) ?_
                          refine lv_isub hx hb dX3_add_74 ?_
                          refine lv_rwi (y := nI (u - (f + 1))) (pk_sub hf9.1) ?_
                          refine va_iald hx hb hK hP 9 0 rfl rfl (vp_in_nI (by omega) (by omega)) dX3_add_75 ?_
                          refine lv_rwi (y := nI (ws9 fn d (u - (f + 1)))) ((congrArg sg4 (nI_clamp (by omega))).trans (hs4 _ (by omega) (by omega))) ?_
                          refine lv_iadd hx hb dX3_add_76 ?_
                          refine lv_rwi (y := nI (sgU (fun f => ws9 fn d (u - f)) (f + 1))) (nI_add _ _) ?_
                          refine lv_istore_n (lv' := [(3, .int (nI (sgU (fun f => ws9 fn d (u - f)) (f + 1)))), (0, .ref (am 0)), (1, .int (nI d)), (2, .int (nI u)), (4, .int (nI (f + 1)))]) hx hb dX3_add_77 rfl hl (by decide) rfl (fun ls hl => ?_)
                          refine lv_iinc (v := nI (f + 1 + 1)) (lv' := [(4, .int (nI (f + 1 + 1))), (3, .int (nI (sgU (fun f => ws9 fn d (u - f)) (f + 1)))), (0, .ref (am 0)), (1, .int (nI d)), (2, .int (nI u))]) hx hb dX3_add_78 hl (k := 4) rfl (nI_1 _) (by decide) rfl (fun ls hl => ?_)
                          refine lv_goto (tgt := 51) hx hb dX3_add_81 (by decide) ?_
                          exact ih51 (f + 1) H _ ls (Nat.le_min.mpr hf9) (by omega) hP hD hS (lv_sub hl [2, 3, 4, 1, 0] rfl)
                    exact loop51 (min u (fn d) + 1) 0 H _ ls (Nat.zero_le _) (by omega) hP hD hS (lv_sub hl [2, 3, 4, 1, 0] rfl)
              exact loop42 38 37 _ H _ ls (by omega) (by omega) (fun v _ hv => hs3 v hv) (fun v h1 h2 => absurd h1 (by omega)) hP hD hS (lv_sub hl [1, 2, 0] rfl)
        exact loop31 (dn + 1) 0 _ H _ ls (Nat.zero_le _) (by omega) hz9 hP hD hS (lv_sub hl [1, 0] rfl)
      · have hi9 : i ≤ 36 := by
          rcases Nat.lt_or_ge 36 i with q | q
          · exact absurd (nI_lt q (by omega)) c_1
          · exact q
        refine lv_aload_n hx hb dX3_add_8 rfl (lv_at hl 0 rfl) ?_
        refine va_get (D := D) (ci := 4) (v := .ref (am 9)) (C := RX3) (T := TX3) (N := 15) hx hb hts inlX3 hown hK hP 0 rfl rfl 14 (by decide) (hts (Cond.fieldLink RX3 45 "TavernDiceModel" "sums" "[I") mw_4_7) (fun _ h9 => h9) rfl dX3_add_9 ?_
        refine lv_iload_n hx hb dX3_add_12 rfl (lv_at hl 1 rfl) ?_
        refine lv_iload_n hx hb dX3_add_13 rfl (lv_at hl 1 rfl) ?_
        refine lv_if_ne (tgt := 21) hx hb dX3_add_14 (by decide) (fun c_6 => ?_) (fun c_6 => ?_)
        · refine lv_iconst (v := nI (ws9 fn 0 i)) hx hb dX3_add_21 (by rw [show ws9 fn 0 i = 0 from if_neg (fun z => c_6 ((nI_eq (b := 0) (by omega) (by omega)).mpr z))]; decide) ?_
          refine va_iast hx hb hK hP hD hS 9 0 rfl rfl (vp_in_nI (by omega) (by omega)) dX3_add_22 (fun H locs hP hD hS => ?_)
          have g9 : upd sg2 (nI i).toNatClampNeg (nI (ws9 fn 0 i)) = upd sg2 i (nI (ws9 fn 0 i)) := congrArg (fun z => upd sg2 z (nI (ws9 fn 0 i))) (nI_clamp (by omega))
          have hP : va_P D vwCl (wM cs am th bank rnds dn N n fc pu wh kn nm sk br ht (upd sg2 i (nI (ws9 fn 0 i)))) H := Eq.mp (congrArg (fun z9 => va_P D vwCl (wM cs am th bank rnds dn N n fc pu wh kn nm sk br ht z9) H) g9) hP
          have hD : va_D _ (wM cs am th bank rnds dn N n fc pu wh kn nm sk br ht (upd sg2 i (nI (ws9 fn 0 i)))) := Eq.mp (congrArg (fun z9 => va_D _ (wM cs am th bank rnds dn N n fc pu wh kn nm sk br ht z9)) g9) hD
          refine lv_iinc (v := nI (i + 1)) (lv' := [(1, .int (nI (i + 1))), (0, .ref (am 0))]) hx hb dX3_add_23 hl (k := 1) rfl (nI_1 i) (by decide) rfl (fun ls hl => ?_)
          refine lv_goto (tgt := 2) hx hb dX3_add_26 (by decide) ?_
          exact ih2 (i + 1) _ H _ ls (by omega) (by omega) (fun v hv => by
              rcases Nat.lt_or_ge v i with q | q
              · rw [pk_un (by omega)]; exact hz v q
              · rw [show v = i by omega, pk_us]) hP hD hS (lv_sub hl [1, 0] rfl)
        · refine lv_iconst (v := nI (ws9 fn 0 i)) hx hb dX3_add_17 (by rw [show ws9 fn 0 i = 1 from if_pos ((nI_eq (b := 0) (by omega) (by omega)).mp c_6)]; decide) ?_
          refine lv_goto (tgt := 22) hx hb dX3_add_18 (by decide) ?_
          refine va_iast hx hb hK hP hD hS 9 0 rfl rfl (vp_in_nI (by omega) (by omega)) dX3_add_22 (fun H locs hP hD hS => ?_)
          have g9 : upd sg2 (nI i).toNatClampNeg (nI (ws9 fn 0 i)) = upd sg2 i (nI (ws9 fn 0 i)) := congrArg (fun z => upd sg2 z (nI (ws9 fn 0 i))) (nI_clamp (by omega))
          have hP : va_P D vwCl (wM cs am th bank rnds dn N n fc pu wh kn nm sk br ht (upd sg2 i (nI (ws9 fn 0 i)))) H := Eq.mp (congrArg (fun z9 => va_P D vwCl (wM cs am th bank rnds dn N n fc pu wh kn nm sk br ht z9) H) g9) hP
          have hD : va_D _ (wM cs am th bank rnds dn N n fc pu wh kn nm sk br ht (upd sg2 i (nI (ws9 fn 0 i)))) := Eq.mp (congrArg (fun z9 => va_D _ (wM cs am th bank rnds dn N n fc pu wh kn nm sk br ht z9)) g9) hD
          refine lv_iinc (v := nI (i + 1)) (lv' := [(1, .int (nI (i + 1))), (0, .ref (am 0))]) hx hb dX3_add_23 hl (k := 1) rfl (nI_1 i) (by decide) rfl (fun ls hl => ?_)
          refine lv_goto (tgt := 2) hx hb dX3_add_26 (by decide) ?_
          exact ih2 (i + 1) _ H _ ls (by omega) (by omega) (fun v hv => by
              rcases Nat.lt_or_ge v i with q | q
              · rw [pk_un (by omega)]; exact hz v q
              · rw [show v = i by omega, pk_us]) hP hD hS (lv_sub hl [1, 0] rfl)
  exact loop2 38 0 sg H _ ls (by omega) (by omega) (fun v hv => absurd hv (Nat.not_lt_zero v)) hP hD hS (lv_sub hl [1, 0] rfl)
