/-! the ledger by hand: what it reads; rows by program -/
theorem b2i_eq1 (b : Bool) : b2i b = 1 ↔ b = true := by cases b <;> decide
theorem b2i_ne1 (b : Bool) : ¬ b2i b = 1 ↔ b = false := by cases b <;> decide
set_option maxHeartbeats 4000000 in
set_option maxRecDepth 100000 in
theorem s_comes (l : Launch) (D : va_G) (cs : Nat → ClassId) (H : Heap) {a : Nat} {f : Nat → Int32} {fn : Nat → Nat} {dn o k : Nat} (q : Int32) (hP : va_P D vwCl [(a, .inl (cs 0, dn, .inl f))] H) (hf : ∀ j, j < dn → f j = nI (fcN fn o j)) (hd1 : 1 ≤ dn) (hd3 : dn ≤ 3) (hfn : ∀ j, j < 3 → 1 ≤ fn j ∧ fn j ≤ 12) (hk : k < 10) : Rd l D (Ty cs) 1 yX3_comes cX3_comes 10 (some .boolean) H [.int (nI k), .int q, .ref a] (some (.int (b2i (comesM fn dn k q o)))) := by
  refine rd_ent (by decide) (Nat.le_of_ble_eq_true rfl) ?_
  intro p e s m below meth c ls hx hb hr hml hown hts hlocks hl hH hK
  have hl : lv_has ls 10 [(0, .int (nI k)), (1, .int q), (2, .ref a)] := hl
  have hs9 := smN_le (f := fcN fn o) (c := 12) (n := dn) (fun j hj => (fcN_le hfn o (d := j) (by omega)).2)
  have h9 : ∀ {x : Nat}, ¬ nI x ≤ 0 → 0 < x := fun {x} z => by
    rcases Nat.eq_zero_or_pos x with y | y
    · exact absurd (by rw [y]; decide) z
    · exact y
  have hc9 := c4N_le fn q o dn
  refine lv_iconst (v := nI (smN (fcN fn o) 0)) hx hb dX3_comes_0 (by first | decide | rfl) ?_
  refine lv_istore_n (lv' := [(3, .int (nI (smN (fcN fn o) 0))), (0, .int (nI k)), (1, .int q), (2, .ref a)]) hx hb dX3_comes_1 rfl hl (by decide) rfl (fun ls hl => ?_)
  refine lv_iconst (v := nI (c4N fn q o 0)) hx hb dX3_comes_2 (by first | decide | rfl) ?_
  refine lv_istore (lv' := [(4, .int (nI (c4N fn q o 0))), (3, .int (nI (smN (fcN fn o) 0))), (0, .int (nI k)), (1, .int q), (2, .ref a)]) hx hb dX3_comes_3 hl (by decide) rfl (fun ls hl => ?_)
  refine lv_iconst (v := b2i (k3M fn o 0)) hx hb dX3_comes_5 (by first | decide | rfl) ?_
  refine lv_istore (lv' := [(5, .int (b2i (k3M fn o 0))), (4, .int (nI (c4N fn q o 0))), (3, .int (nI (smN (fcN fn o) 0))), (0, .int (nI k)), (1, .int q), (2, .ref a)]) hx hb dX3_comes_6 hl (by decide) rfl (fun ls hl => ?_)
  refine lv_aload_n hx hb dX3_comes_8 rfl (lv_at hl 5 rfl) ?_
  refine lv_astore (lv' := [(6, .ref a), (5, .int (b2i (k3M fn o 0))), (4, .int (nI (c4N fn q o 0))), (3, .int (nI (smN (fcN fn o) 0))), (0, .int (nI k)), (1, .int q), (2, .ref a)]) hx hb dX3_comes_9 hl (by decide) rfl (fun ls hl => ?_)
  refine lv_aload hx hb dX3_comes_11 (lv_at hl 0 rfl) ?_
  refine va_alen hx hb hK hP 0 0 rfl rfl (v := nI dn) (rfl) dX3_comes_13 ?_
  refine lv_istore (lv' := [(7, .int (nI dn)), (6, .ref a), (5, .int (b2i (k3M fn o 0))), (4, .int (nI (c4N fn q o 0))), (3, .int (nI (smN (fcN fn o) 0))), (0, .int (nI k)), (1, .int q), (2, .ref a)]) hx hb dX3_comes_14 hl (by decide) rfl (fun ls hl => ?_)
  refine lv_iconst (v := nI 0) hx hb dX3_comes_16 (by first | decide | rfl) ?_
  refine lv_istore (lv' := [(8, .int (nI 0)), (7, .int (nI dn)), (6, .ref a), (5, .int (b2i (k3M fn o 0))), (4, .int (nI (c4N fn q o 0))), (3, .int (nI (smN (fcN fn o) 0))), (0, .int (nI k)), (1, .int q), (2, .ref a)]) hx hb dX3_comes_17 hl (by decide) rfl (fun ls hl => ?_)
  have loop19 : ∀ (n9 : Nat) (i : Nat) (ls : Array Slot), i ≤ dn → dn + 1 ≤ i + n9 → lv_has ls 10 [(0, .int (nI k)), (1, .int q), (2, .ref a), (3, .int (nI (smN (fcN fn o) i))), (4, .int (nI (c4N fn q o i))), (5, .int (b2i (k3M fn o i))), (6, .ref a), (7, .int (nI dn)), (8, .int (nI i))] → RdW p l e 1 s m [.int (nI k), .int q, .ref a] below meth c H (some (.int (b2i (comesM fn dn k q o)))) (F0 m 19 ls []) := by
    intro n9
    induction n9 with
    | zero => intro i  ls hi hfu hl; exact absurd hfu (by omega)
    | succ n9 ih19 =>
      intro i  ls hi hfu hl
      refine lv_iload hx hb dX3_comes_19 (lv_at hl 8 rfl) ?_
      refine lv_iload hx hb dX3_comes_21 (lv_at hl 7 rfl) ?_
      refine lv_icmp_ge (tgt := 78) hx hb dX3_comes_23 (by decide) (fun c_1 => ?_) (fun c_1 => ?_)
      · have gi : dn = i := by have g := (nI_leI (by omega) (by omega)).mp c_1; omega
        subst gi
        refine lv_iload_n hx hb dX3_comes_78 rfl (lv_at hl 0 rfl) ?_
        refine lv_iconst (v := nI 5) hx hb dX3_comes_79 (by first | decide | rfl) ?_
        refine lv_irem hx hb dX3_comes_80 (by decide) ?_
        refine lv_rwi (y := nI (k % 5)) (pk_rem (by omega) (by omega) (by omega)) ?_
        refine lv_istore (lv' := [(6, .int (nI (k % 5))), (0, .int (nI k)), (1, .int q), (2, .ref a), (3, .int (nI (smN (fcN fn o) dn))), (4, .int (nI (c4N fn q o dn))), (5, .int (b2i (k3M fn o dn))), (7, .int (nI dn)), (8, .int (nI dn))]) hx hb dX3_comes_81 hl (by decide) rfl (fun ls hl => ?_)
        have join162 : ∀ (ls : Array Slot), lv_has ls 10 [(0, .int (nI k))] → RdW p l e 1 s m [.int (nI k), .int q, .ref a] below meth c H (some (.int (b2i (comesM fn dn k q o)))) (F0 m 162 ls [.int (b2i (holdsM fn dn (k % 5) q o))]) := by
          intro ls hl
          refine lv_istore (lv' := [(7, .int (b2i (holdsM fn dn (k % 5) q o))), (0, .int (nI k))]) hx hb dX3_comes_162 hl (by decide) rfl (fun ls hl => ?_)
          refine lv_iload hx hb dX3_comes_164 (lv_at hl 0 rfl) ?_
          refine lv_iload_n hx hb dX3_comes_166 rfl (lv_at hl 1 rfl) ?_
          refine lv_iconst (v := nI 4) hx hb dX3_comes_167 (by first | decide | rfl) ?_
          refine lv_icmp_le (tgt := 175) hx hb dX3_comes_168 (by decide) (fun c_2 => ?_) (fun c_2 => ?_)
          · refine lv_iconst (v := 0) hx hb dX3_comes_175 (by first | decide | rfl) ?_
            refine lv_icmp_eq (tgt := 183) hx hb dX3_comes_176 (by decide) (fun c_3 => ?_) (fun c_3 => ?_)
            · refine lv_iconst (v := 0) hx hb dX3_comes_183 (by first | decide | rfl) ?_
              exact rd_zret hH hx hb hr hlocks (rb0 (by rw [cm_lt (show k ≤ 4 from (nI_leI (by omega) (by omega)).mp c_2), (b2i_eq0 _).mp c_3])) (by decide) dX3_comes_184
            · refine lv_iconst (v := 1) hx hb dX3_comes_179 (by first | decide | rfl) ?_
              refine lv_goto (tgt := 184) hx hb dX3_comes_180 (by decide) ?_
              exact rd_zret hH hx hb hr hlocks (rb1 (by rw [cm_lt (show k ≤ 4 from (nI_leI (by omega) (by omega)).mp c_2), (b2i_ne0 _).mp c_3])) (by decide) dX3_comes_184
          · refine lv_iconst (v := 1) hx hb dX3_comes_171 (by first | decide | rfl) ?_
            refine lv_goto (tgt := 176) hx hb dX3_comes_172 (by decide) ?_
            refine lv_icmp_eq (tgt := 183) hx hb dX3_comes_176 (by decide) (fun c_4 => ?_) (fun c_4 => ?_)
            · refine lv_iconst (v := 0) hx hb dX3_comes_183 (by first | decide | rfl) ?_
              exact rd_zret hH hx hb hr hlocks (rb0 (by rw [cm_ge (show ¬ k ≤ 4 from fun z => c_2 (nI_le z (by omega))) hk, (b2i_eq1 _).mp c_4] <;> rfl)) (by decide) dX3_comes_184
            · refine lv_iconst (v := 1) hx hb dX3_comes_179 (by first | decide | rfl) ?_
              refine lv_goto (tgt := 184) hx hb dX3_comes_180 (by decide) ?_
              exact rd_zret hH hx hb hr hlocks (rb1 (by rw [cm_ge (show ¬ k ≤ 4 from fun z => c_2 (nI_le z (by omega))) hk, (b2i_ne1 _).mp c_4] <;> rfl)) (by decide) dX3_comes_184
        refine lv_iload hx hb dX3_comes_83 (lv_at hl 0 rfl) ?_
        refine lv_if_ne (tgt := 101) hx hb dX3_comes_85 (by decide) (fun c_5 => ?_) (fun c_5 => ?_)
        · refine lv_iload hx hb dX3_comes_101 (lv_at hl 0 rfl) ?_
          refine lv_iconst (v := nI 1) hx hb dX3_comes_103 (by first | decide | rfl) ?_
          refine lv_icmp_ne (tgt := 120) hx hb dX3_comes_104 (by decide) (fun c_6 => ?_) (fun c_6 => ?_)
          · refine lv_iload hx hb dX3_comes_120 (lv_at hl 0 rfl) ?_
            refine lv_iconst (v := nI 2) hx hb dX3_comes_122 (by first | decide | rfl) ?_
            refine lv_icmp_ne (tgt := 141) hx hb dX3_comes_123 (by decide) (fun c_7 => ?_) (fun c_7 => ?_)
            · refine lv_iload hx hb dX3_comes_141 (lv_at hl 0 rfl) ?_
              refine lv_iconst (v := nI 3) hx hb dX3_comes_143 (by first | decide | rfl) ?_
              refine lv_icmp_ne (tgt := 152) hx hb dX3_comes_144 (by decide) (fun c_8 => ?_) (fun c_8 => ?_)
              · refine lv_iload hx hb dX3_comes_152 (lv_at hl 5 rfl) ?_
                refine lv_if_le (tgt := 161) hx hb dX3_comes_154 (by decide) (fun c_9 => ?_) (fun c_9 => ?_)
                · refine lv_iconst (v := b2i (holdsM fn dn (k % 5) q o)) hx hb dX3_comes_161 (by rw [hm4 (by have g0 : k % 5 ≠ 0 := fun z => c_5 (congrArg nI z); have g1 : k % 5 ≠ 1 := fun z => c_6 (congrArg nI z); have g2 : k % 5 ≠ 2 := fun z => c_7 (congrArg nI z); have g3 : k % 5 ≠ 3 := fun z => c_8 (congrArg nI z); omega), (show k4M fn q o dn = false from Bool.eq_false_iff.mpr (fun z => by have g := (c4N_k fn q o dn).mpr z; exact absurd c_9 (nI_nle g (by omega))))] <;> rfl) ?_
                  exact join162 ls (lv_sub hl [1] rfl)
                · refine lv_iconst (v := b2i (holdsM fn dn (k % 5) q o)) hx hb dX3_comes_157 (by rw [hm4 (by have g0 : k % 5 ≠ 0 := fun z => c_5 (congrArg nI z); have g1 : k % 5 ≠ 1 := fun z => c_6 (congrArg nI z); have g2 : k % 5 ≠ 2 := fun z => c_7 (congrArg nI z); have g3 : k % 5 ≠ 3 := fun z => c_8 (congrArg nI z); omega), (c4N_k fn q o dn).mp (by have g := h9 c_9; omega)] <;> rfl) ?_
                  refine lv_goto (tgt := 162) hx hb dX3_comes_158 (by decide) ?_
                  exact join162 ls (lv_sub hl [1] rfl)
              · refine lv_iload hx hb dX3_comes_147 (lv_at hl 6 rfl) ?_
                refine lv_rwi (y := b2i (holdsM fn dn (k % 5) q o)) (by rw [hm3 ((nI_eq (b := 3) (by omega) (by omega)).mp (by first | exact c_8 | exact Classical.not_not.mp c_8))]) ?_
                refine lv_goto (tgt := 162) hx hb dX3_comes_149 (by decide) ?_
                exact join162 ls (lv_sub hl [1] rfl)
            · refine lv_iload_n hx hb dX3_comes_126 rfl (lv_at hl 4 rfl) ?_
              refine lv_iconst (v := nI 1) hx hb dX3_comes_127 (by first | decide | rfl) ?_
              refine lv_iand hx hb dX3_comes_128 ?_
              refine lv_rwi (y := nI (smN (fcN fn o) dn % 2)) (nI_odd (by omega)) ?_
              refine lv_iconst (v := nI 1) hx hb dX3_comes_129 (by first | decide | rfl) ?_
              refine lv_icmp_ne (tgt := 137) hx hb dX3_comes_130 (by decide) (fun c_10 => ?_) (fun c_10 => ?_)
              · refine lv_iconst (v := b2i (holdsM fn dn (k % 5) q o)) hx hb dX3_comes_137 (by rw [hm2 ((nI_eq (b := 2) (by omega) (by omega)).mp (by first | exact c_7 | exact Classical.not_not.mp c_7)), decide_eq_false (fun z => c_10 (congrArg nI z))] <;> rfl) ?_
                refine lv_goto (tgt := 162) hx hb dX3_comes_138 (by decide) ?_
                exact join162 ls (lv_sub hl [1] rfl)
              · refine lv_iconst (v := b2i (holdsM fn dn (k % 5) q o)) hx hb dX3_comes_133 (by rw [hm2 ((nI_eq (b := 2) (by omega) (by omega)).mp (by first | exact c_7 | exact Classical.not_not.mp c_7)), decide_eq_true ((nI_eq (b := 1) (by omega) (by omega)).mp c_10)] <;> rfl) ?_
                refine lv_goto (tgt := 162) hx hb dX3_comes_134 (by decide) ?_
                exact join162 ls (lv_sub hl [1] rfl)
          · refine lv_iload_n hx hb dX3_comes_107 rfl (lv_at hl 4 rfl) ?_
            refine lv_iload_n hx hb dX3_comes_108 rfl (lv_at hl 2 rfl) ?_
            refine lv_icmp_lt (tgt := 116) hx hb dX3_comes_109 (by decide) (fun c_11 => ?_) (fun c_11 => ?_)
            · refine lv_iconst (v := b2i (holdsM fn dn (k % 5) q o)) hx hb dX3_comes_116 (by rw [hm1 ((nI_eq (b := 1) (by omega) (by omega)).mp (by first | exact c_6 | exact Classical.not_not.mp c_6)), decide_eq_false (Int32.not_le.mpr c_11)] <;> rfl) ?_
              refine lv_goto (tgt := 162) hx hb dX3_comes_117 (by decide) ?_
              exact join162 ls (lv_sub hl [1] rfl)
            · refine lv_iconst (v := b2i (holdsM fn dn (k % 5) q o)) hx hb dX3_comes_112 (by rw [hm1 ((nI_eq (b := 1) (by omega) (by omega)).mp (by first | exact c_6 | exact Classical.not_not.mp c_6)), decide_eq_true (Int32.not_lt.mp c_11)] <;> rfl) ?_
              refine lv_goto (tgt := 162) hx hb dX3_comes_113 (by decide) ?_
              exact join162 ls (lv_sub hl [1] rfl)
        · refine lv_iload_n hx hb dX3_comes_88 rfl (lv_at hl 4 rfl) ?_
          refine lv_iload_n hx hb dX3_comes_89 rfl (lv_at hl 2 rfl) ?_
          refine lv_icmp_ne (tgt := 97) hx hb dX3_comes_90 (by decide) (fun c_12 => ?_) (fun c_12 => ?_)
          · refine lv_iconst (v := b2i (holdsM fn dn (k % 5) q o)) hx hb dX3_comes_97 (by rw [hm0 ((nI_eq (b := 0) (by omega) (by omega)).mp (by first | exact c_5 | exact Classical.not_not.mp c_5)), decide_eq_false c_12] <;> rfl) ?_
            refine lv_goto (tgt := 162) hx hb dX3_comes_98 (by decide) ?_
            exact join162 ls (lv_sub hl [1] rfl)
          · refine lv_iconst (v := b2i (holdsM fn dn (k % 5) q o)) hx hb dX3_comes_93 (by rw [hm0 ((nI_eq (b := 0) (by omega) (by omega)).mp (by first | exact c_5 | exact Classical.not_not.mp c_5)), decide_eq_true c_12] <;> rfl) ?_
            refine lv_goto (tgt := 162) hx hb dX3_comes_94 (by decide) ?_
            exact join162 ls (lv_sub hl [1] rfl)
      · have hlt : i < dn := by
          rcases Nat.lt_or_ge i dn with q | q
          · exact q
          · exact absurd (nI_le q (by omega)) c_1
        have hb1 := fcN_le hfn o (d := i) (by omega)
        have hb0 := fcN_le hfn o (d := 0) (by omega)
        refine lv_aload hx hb dX3_comes_26 (lv_at hl 6 rfl) ?_
        refine lv_iload hx hb dX3_comes_28 (lv_at hl 8 rfl) ?_
        refine va_iald hx hb hK hP 0 0 rfl rfl (vp_in_nI hlt (by omega)) dX3_comes_30 ?_
        refine lv_rwi (y := nI (fcN fn o i)) (by rw [nI_clamp (by omega)]; exact hf i hlt) ?_
        refine lv_istore (lv' := [(9, .int (nI (fcN fn o i))), (0, .int (nI k)), (1, .int q), (2, .ref a), (3, .int (nI (smN (fcN fn o) i))), (4, .int (nI (c4N fn q o i))), (5, .int (b2i (k3M fn o i))), (6, .ref a), (7, .int (nI dn)), (8, .int (nI i))]) hx hb dX3_comes_31 hl (by decide) rfl (fun ls hl => ?_)
        refine lv_iload_n hx hb dX3_comes_33 rfl (lv_at hl 4 rfl) ?_
        refine lv_iload hx hb dX3_comes_34 (lv_at hl 0 rfl) ?_
        refine lv_iadd hx hb dX3_comes_36 ?_
        refine lv_rwi (y := nI (smN (fcN fn o) (i + 1))) (nI_add _ _) ?_
        refine lv_istore_n (lv' := [(3, .int (nI (smN (fcN fn o) (i + 1)))), (9, .int (nI (fcN fn o i))), (0, .int (nI k)), (1, .int q), (2, .ref a), (4, .int (nI (c4N fn q o i))), (5, .int (b2i (k3M fn o i))), (6, .ref a), (7, .int (nI dn)), (8, .int (nI i))]) hx hb dX3_comes_37 rfl hl (by decide) rfl (fun ls hl => ?_)
        refine lv_iload hx hb dX3_comes_38 (lv_at hl 5 rfl) ?_
        refine lv_iload hx hb dX3_comes_40 (lv_at hl 1 rfl) ?_
        refine lv_iload_n hx hb dX3_comes_42 rfl (lv_at hl 3 rfl) ?_
        refine lv_icmp_ne (tgt := 50) hx hb dX3_comes_43 (by decide) (fun c_13 => ?_) (fun c_13 => ?_)
        · refine lv_iconst (v := nI 0) hx hb dX3_comes_50 (by first | decide | rfl) ?_
          refine lv_iadd hx hb dX3_comes_51 ?_
          refine lv_rwi (y := nI (c4N fn q o (i + 1))) (by rw [nI_add]; exact congrArg nI (by simp only [c4N]; rw [if_neg c_13])) ?_
          refine lv_istore (lv' := [(4, .int (nI (c4N fn q o (i + 1)))), (3, .int (nI (smN (fcN fn o) (i + 1)))), (9, .int (nI (fcN fn o i))), (0, .int (nI k)), (1, .int q), (2, .ref a), (5, .int (b2i (k3M fn o i))), (6, .ref a), (7, .int (nI dn)), (8, .int (nI i))]) hx hb dX3_comes_52 hl (by decide) rfl (fun ls hl => ?_)
          refine lv_iload hx hb dX3_comes_54 (lv_at hl 6 rfl) ?_
          refine lv_iload hx hb dX3_comes_56 (lv_at hl 2 rfl) ?_
          refine lv_aload_n hx hb dX3_comes_58 rfl (lv_at hl 5 rfl) ?_
          refine lv_iconst (v := nI 0) hx hb dX3_comes_59 (by first | decide | rfl) ?_
          refine va_iald hx hb hK hP 0 0 rfl rfl (vp_in_nI (by omega) (by omega)) dX3_comes_60 ?_
          refine lv_rwi (y := nI (fcN fn o 0)) (by rw [nI_clamp (by omega)]; exact hf 0 (by omega)) ?_
          refine lv_icmp_ne (tgt := 68) hx hb dX3_comes_61 (by decide) (fun c_14 => ?_) (fun c_14 => ?_)
          · refine lv_iconst (v := b2i (decide (fcN fn o i = fcN fn o 0))) hx hb dX3_comes_68 (by rw [decide_eq_false (fun z => c_14 (congrArg nI z))] <;> rfl) ?_
            refine lv_iand hx hb dX3_comes_69 ?_
            refine lv_rwi (y := b2i (k3M fn o (i + 1))) (b2i_and _ _) ?_
            refine lv_istore (lv' := [(5, .int (b2i (k3M fn o (i + 1)))), (4, .int (nI (c4N fn q o (i + 1)))), (3, .int (nI (smN (fcN fn o) (i + 1)))), (9, .int (nI (fcN fn o i))), (0, .int (nI k)), (1, .int q), (2, .ref a), (6, .ref a), (7, .int (nI dn)), (8, .int (nI i))]) hx hb dX3_comes_70 hl (by decide) rfl (fun ls hl => ?_)
            refine lv_iinc (v := nI (i + 1)) (lv' := [(8, .int (nI (i + 1))), (5, .int (b2i (k3M fn o (i + 1)))), (4, .int (nI (c4N fn q o (i + 1)))), (3, .int (nI (smN (fcN fn o) (i + 1)))), (9, .int (nI (fcN fn o i))), (0, .int (nI k)), (1, .int q), (2, .ref a), (6, .ref a), (7, .int (nI dn))]) hx hb dX3_comes_72 hl (k := 9) rfl (nI_1 i) (by decide) rfl (fun ls hl => ?_)
            refine lv_goto (tgt := 19) hx hb dX3_comes_75 (by decide) ?_
            exact ih19 (i + 1) ls (by omega) (by omega) (lv_sub hl [5, 6, 7, 3, 2, 1, 8, 9, 0] rfl)
          · refine lv_iconst (v := b2i (decide (fcN fn o i = fcN fn o 0))) hx hb dX3_comes_64 (by rw [decide_eq_true ((nI_eq (by omega) (by omega)).mp c_14)] <;> rfl) ?_
            refine lv_goto (tgt := 69) hx hb dX3_comes_65 (by decide) ?_
            refine lv_iand hx hb dX3_comes_69 ?_
            refine lv_rwi (y := b2i (k3M fn o (i + 1))) (b2i_and _ _) ?_
            refine lv_istore (lv' := [(5, .int (b2i (k3M fn o (i + 1)))), (4, .int (nI (c4N fn q o (i + 1)))), (3, .int (nI (smN (fcN fn o) (i + 1)))), (9, .int (nI (fcN fn o i))), (0, .int (nI k)), (1, .int q), (2, .ref a), (6, .ref a), (7, .int (nI dn)), (8, .int (nI i))]) hx hb dX3_comes_70 hl (by decide) rfl (fun ls hl => ?_)
            refine lv_iinc (v := nI (i + 1)) (lv' := [(8, .int (nI (i + 1))), (5, .int (b2i (k3M fn o (i + 1)))), (4, .int (nI (c4N fn q o (i + 1)))), (3, .int (nI (smN (fcN fn o) (i + 1)))), (9, .int (nI (fcN fn o i))), (0, .int (nI k)), (1, .int q), (2, .ref a), (6, .ref a), (7, .int (nI dn))]) hx hb dX3_comes_72 hl (k := 9) rfl (nI_1 i) (by decide) rfl (fun ls hl => ?_)
            refine lv_goto (tgt := 19) hx hb dX3_comes_75 (by decide) ?_
            exact ih19 (i + 1) ls (by omega) (by omega) (lv_sub hl [5, 6, 7, 3, 2, 1, 8, 9, 0] rfl)
        · refine lv_iconst (v := nI 1) hx hb dX3_comes_46 (by first | decide | rfl) ?_
          refine lv_goto (tgt := 51) hx hb dX3_comes_47 (by decide) ?_
          refine lv_iadd hx hb dX3_comes_51 ?_
          refine lv_rwi (y := nI (c4N fn q o (i + 1))) (by rw [nI_add]; exact congrArg nI (by simp only [c4N]; rw [if_pos c_13])) ?_
          refine lv_istore (lv' := [(4, .int (nI (c4N fn q o (i + 1)))), (3, .int (nI (smN (fcN fn o) (i + 1)))), (9, .int (nI (fcN fn o i))), (0, .int (nI k)), (1, .int q), (2, .ref a), (5, .int (b2i (k3M fn o i))), (6, .ref a), (7, .int (nI dn)), (8, .int (nI i))]) hx hb dX3_comes_52 hl (by decide) rfl (fun ls hl => ?_)
          refine lv_iload hx hb dX3_comes_54 (lv_at hl 6 rfl) ?_
          refine lv_iload hx hb dX3_comes_56 (lv_at hl 2 rfl) ?_
          refine lv_aload_n hx hb dX3_comes_58 rfl (lv_at hl 5 rfl) ?_
          refine lv_iconst (v := nI 0) hx hb dX3_comes_59 (by first | decide | rfl) ?_
          refine va_iald hx hb hK hP 0 0 rfl rfl (vp_in_nI (by omega) (by omega)) dX3_comes_60 ?_
          refine lv_rwi (y := nI (fcN fn o 0)) (by rw [nI_clamp (by omega)]; exact hf 0 (by omega)) ?_
          refine lv_icmp_ne (tgt := 68) hx hb dX3_comes_61 (by decide) (fun c_15 => ?_) (fun c_15 => ?_)
          · refine lv_iconst (v := b2i (decide (fcN fn o i = fcN fn o 0))) hx hb dX3_comes_68 (by rw [decide_eq_false (fun z => c_15 (congrArg nI z))] <;> rfl) ?_
            refine lv_iand hx hb dX3_comes_69 ?_
            refine lv_rwi (y := b2i (k3M fn o (i + 1))) (b2i_and _ _) ?_
            refine lv_istore (lv' := [(5, .int (b2i (k3M fn o (i + 1)))), (4, .int (nI (c4N fn q o (i + 1)))), (3, .int (nI (smN (fcN fn o) (i + 1)))), (9, .int (nI (fcN fn o i))), (0, .int (nI k)), (1, .int q), (2, .ref a), (6, .ref a), (7, .int (nI dn)), (8, .int (nI i))]) hx hb dX3_comes_70 hl (by decide) rfl (fun ls hl => ?_)
            refine lv_iinc (v := nI (i + 1)) (lv' := [(8, .int (nI (i + 1))), (5, .int (b2i (k3M fn o (i + 1)))), (4, .int (nI (c4N fn q o (i + 1)))), (3, .int (nI (smN (fcN fn o) (i + 1)))), (9, .int (nI (fcN fn o i))), (0, .int (nI k)), (1, .int q), (2, .ref a), (6, .ref a), (7, .int (nI dn))]) hx hb dX3_comes_72 hl (k := 9) rfl (nI_1 i) (by decide) rfl (fun ls hl => ?_)
            refine lv_goto (tgt := 19) hx hb dX3_comes_75 (by decide) ?_
            exact ih19 (i + 1) ls (by omega) (by omega) (lv_sub hl [5, 6, 7, 3, 2, 1, 8, 9, 0] rfl)
          · refine lv_iconst (v := b2i (decide (fcN fn o i = fcN fn o 0))) hx hb dX3_comes_64 (by rw [decide_eq_true ((nI_eq (by omega) (by omega)).mp c_15)] <;> rfl) ?_
            refine lv_goto (tgt := 69) hx hb dX3_comes_65 (by decide) ?_
            refine lv_iand hx hb dX3_comes_69 ?_
            refine lv_rwi (y := b2i (k3M fn o (i + 1))) (b2i_and _ _) ?_
            refine lv_istore (lv' := [(5, .int (b2i (k3M fn o (i + 1)))), (4, .int (nI (c4N fn q o (i + 1)))), (3, .int (nI (smN (fcN fn o) (i + 1)))), (9, .int (nI (fcN fn o i))), (0, .int (nI k)), (1, .int q), (2, .ref a), (6, .ref a), (7, .int (nI dn)), (8, .int (nI i))]) hx hb dX3_comes_70 hl (by decide) rfl (fun ls hl => ?_)
            refine lv_iinc (v := nI (i + 1)) (lv' := [(8, .int (nI (i + 1))), (5, .int (b2i (k3M fn o (i + 1)))), (4, .int (nI (c4N fn q o (i + 1)))), (3, .int (nI (smN (fcN fn o) (i + 1)))), (9, .int (nI (fcN fn o i))), (0, .int (nI k)), (1, .int q), (2, .ref a), (6, .ref a), (7, .int (nI dn))]) hx hb dX3_comes_72 hl (k := 9) rfl (nI_1 i) (by decide) rfl (fun ls hl => ?_)
            refine lv_goto (tgt := 19) hx hb dX3_comes_75 (by decide) ?_
            exact ih19 (i + 1) ls (by omega) (by omega) (lv_sub hl [5, 6, 7, 3, 2, 1, 8, 9, 0] rfl)
  exact loop19 (dn + 1) 0 ls (Nat.zero_le _) (by omega) (lv_sub hl [6, 7, 8, 5, 4, 3, 2, 1, 0] rfl)
set_option maxHeartbeats 4000000 in
set_option maxRecDepth 100000 in
theorem s_gain (l : Launch) (D : va_G) (cs : Nat → ClassId) (H : Heap) {a b : Nat} {f g : Nat → Int32} {fn : Nat → Nat} {dn o k : Nat} (hP : va_P D vwCl [(a, .inl (cs 0, dn, .inl f))] H) (hG : va_P D vwCl [(b, .inl (cs 0, 5, .inl g))] H) (hf : ∀ j, j < dn → f j = nI (fcN fn o j)) (hd1 : 1 ≤ dn) (hd3 : dn ≤ 3) (hfn : ∀ j, j < 3 → 1 ≤ fn j ∧ fn j ≤ 12) (hk : k < 10) (hgk : g 1 = nI k) (v : Int32) (hv : (if comesM fn dn k (g 2) o = true then -(g 4) else g 3) = v) : Rd l D (Ty cs) 2 yX3_gain cX3_gain 2 (some .int) H [.ref b, .ref a] (some (.int v)) := by
  refine rd_ent (by decide) (Nat.le_of_ble_eq_true rfl) ?_
  intro p e s m below meth c ls hx hb hr hml hown hts hlocks hl hH hK
  have hl : lv_has ls 2 [(0, .ref b), (1, .ref a)] := hl
  refine lv_aload_n hx hb dX3_gain_0 rfl (lv_at hl 0 rfl) ?_
  refine lv_iconst (v := nI 1) hx hb dX3_gain_1 (by first | decide | rfl) ?_
  refine va_iald hx hb hK hG 0 0 rfl rfl (vp_in_nI (by omega) (by omega)) dX3_gain_2 ?_
  refine lv_rwi (y := nI k) ((congrArg g (nI_clamp (by omega))).trans hgk) ?_
  refine lv_aload_n hx hb dX3_gain_3 rfl (lv_at hl 0 rfl) ?_
  refine lv_iconst (v := nI 2) hx hb dX3_gain_4 (by first | decide | rfl) ?_
  refine va_iald hx hb hK hG 0 0 rfl rfl (vp_in_nI (by omega) (by omega)) dX3_gain_5 ?_
  refine lv_rwi (y := g 2) (congrArg g (nI_clamp (by omega))) ?_
  refine lv_aload_n hx hb dX3_gain_6 rfl (lv_at hl 1 rfl) ?_
  refine rdS (As := [.int (nI k), .int (g 2), .ref a]) (rest := []) ⟨hx, hb, hml, hown, hts⟩ hK 3 (s_comes l D cs H (g 2) hP hf hd1 hd3 hfn hk) (gin_s mw_8_0 mw_8_1 mw_3_17 mw_8_2) (by decide +kernel) ⟨Nat.le_of_ble_eq_true rfl, Nat.le_of_ble_eq_true rfl⟩ rfl hl.1 rfl (Nat.le_of_ble_eq_true rfl) dX3_gain_7 ⟨(Nat.zero_le _), (Nat.zero_le _)⟩ ?_
  refine W.eq (g2 := F0 m 10 ls [.int (b2i (comesM fn dn k (g 2) o))]) rfl ?_
  refine lv_if_eq (tgt := 20) hx hb dX3_gain_10 (by decide) (fun c_1 => ?_) (fun c_1 => ?_)
  · refine lv_aload_n hx hb dX3_gain_20 rfl (lv_at hl 0 rfl) ?_
    refine lv_iconst (v := nI 3) hx hb dX3_gain_21 (by first | decide | rfl) ?_
    refine va_iald hx hb hK hG 0 0 rfl rfl (vp_in_nI (by omega) (by omega)) dX3_gain_22 ?_
    refine lv_rwi (y := g 3) (congrArg g (nI_clamp (by omega))) ?_
    exact rd_iret hH hx hb hr hlocks (rv (by rw [← hv, if_neg] <;> first | rfl | (rw [(b2i_eq0 _).mp c_1]; decide))) dX3_gain_23
  · refine lv_aload_n hx hb dX3_gain_13 rfl (lv_at hl 0 rfl) ?_
    refine lv_iconst (v := nI 4) hx hb dX3_gain_14 (by first | decide | rfl) ?_
    refine va_iald hx hb hK hG 0 0 rfl rfl (vp_in_nI (by omega) (by omega)) dX3_gain_15 ?_
    refine lv_rwi (y := g 4) (congrArg g (nI_clamp (by omega))) ?_
    refine lv_ineg hx hb dX3_gain_16 ?_
    refine lv_goto (tgt := 23) hx hb dX3_gain_17 (by decide) ?_
    exact rd_iret hH hx hb hr hlocks (rv (by rw [← hv, if_pos] <;> first | rfl | exact (b2i_ne0 _).mp c_1)) dX3_gain_23
set_option maxHeartbeats 4000000 in
set_option maxRecDepth 100000 in
theorem s_gainAll (l : Launch) (D : va_G) (cs : Nat → ClassId) (H : Heap) {sa : Nat → Nat} {bank rnds : Int32} {fn : Nat → Nat} {dn N n : Nat} {df pu : Nat → Int32} {rs rw : Nat → Option Nat} {sr wr : Nat → Nat} {sf wg wf : Nat → Nat → Int32} {kd : Nat → Nat} (SS : RS D cs H sa bank rnds fn dn N n df pu rs rw sr wr sf wg wf kd) (o : Nat) (ho : o < N) : Rd l D (Ty cs) 3 yX3_gain_ cX3_gain_ 7 (some .int) H [.ref (sa 0), .int (nI o)] (some (.int (sm (gnS fn dn wf kd o) n))) := by
  refine rd_ent (by decide) (Nat.le_of_ble_eq_true rfl) ?_
  intro p e s m below meth c ls hx hb hr hml hown hts hlocks hl hH hK
  have hl : lv_has ls 7 [(0, .ref (sa 0)), (1, .int (nI o))] := hl
  have SS0 := SS
  obtain ⟨hP, hRo, hVi, hF⟩ := SS
  have hF0 := hF
  obtain ⟨hFo, hFi, hd1, hd3, hfn, hN1, hN, hn⟩ := hF
  refine lv_iconst (v := sm (gnS fn dn wf kd o) 0) hx hb dX3_gain__0 (by first | decide | rfl) ?_
  refine lv_istore_n (lv' := [(2, .int (sm (gnS fn dn wf kd o) 0)), (0, .ref (sa 0)), (1, .int (nI o))]) hx hb dX3_gain__1 rfl hl (by decide) rfl (fun ls hl => ?_)
  refine lv_aload_n hx hb dX3_gain__2 rfl (lv_at hl 1 rfl) ?_
  refine va_get (D := D) (ci := 4) (v := .ref (sa 4)) (C := RX3) (T := TX3) (N := 6) hx hb hts inlX3 hown hK hP 0 rfl rfl 5 (by decide) (hts (Cond.fieldLink RX3 29 "TavernDiceLaw$Sim" "wagers" "[[I") mw_4_3) (fun _ h9 => h9) rfl dX3_gain__3 ?_
  refine lv_astore_n (lv' := [(3, .ref (sa 4)), (2, .int (sm (gnS fn dn wf kd o) 0)), (0, .ref (sa 0)), (1, .int (nI o))]) hx hb dX3_gain__6 rfl hl (by decide) rfl (fun ls hl => ?_)
  refine lv_aload_n hx hb dX3_gain__7 rfl (lv_at hl 0 rfl) ?_
  refine va_alen hx hb hK hP 4 3 rfl rfl (v := nI n) (rfl) dX3_gain__8 ?_
  refine lv_istore (lv' := [(4, .int (nI n)), (3, .ref (sa 4)), (2, .int (sm (gnS fn dn wf kd o) 0)), (0, .ref (sa 0)), (1, .int (nI o))]) hx hb dX3_gain__9 hl (by decide) rfl (fun ls hl => ?_)
  refine lv_iconst (v := nI 0) hx hb dX3_gain__11 (by first | decide | rfl) ?_
  refine lv_istore (lv' := [(5, .int (nI 0)), (4, .int (nI n)), (3, .ref (sa 4)), (2, .int (sm (gnS fn dn wf kd o) 0)), (0, .ref (sa 0)), (1, .int (nI o))]) hx hb dX3_gain__12 hl (by decide) rfl (fun ls hl => ?_)
  have loop14 : ∀ (n9 : Nat) (i : Nat) (ls : Array Slot), i ≤ n → n + 1 ≤ i + n9 → lv_has ls 7 [(0, .ref (sa 0)), (1, .int (nI o)), (2, .int (sm (gnS fn dn wf kd o) i)), (3, .ref (sa 4)), (4, .int (nI n)), (5, .int (nI i))] → RdW p l e 3 s m [.ref (sa 0), .int (nI o)] below meth c H (some (.int (sm (gnS fn dn wf kd o) n))) (F0 m 14 ls []) := by
    intro n9
    induction n9 with
    | zero => intro i  ls hi hfu hl; exact absurd hfu (by omega)
    | succ n9 ih14 =>
      intro i  ls hi hfu hl
      refine lv_iload hx hb dX3_gain__14 (lv_at hl 5 rfl) ?_
      refine lv_iload hx hb dX3_gain__16 (lv_at hl 4 rfl) ?_
      refine lv_icmp_ge (tgt := 47) hx hb dX3_gain__18 (by decide) (fun c_1 => ?_) (fun c_1 => ?_)
      · refine lv_iload_n hx hb dX3_gain__47 rfl (lv_at hl 2 rfl) ?_
        exact rd_iret hH hx hb hr hlocks (rv (by rw [show i = n from (by have g := (nI_leI (by omega) (by omega)).mp c_1; omega)])) dX3_gain__48
      · have hlt : i < n := by
          rcases Nat.lt_or_ge i n with q | q
          · exact q
          · exact absurd (nI_le q (by omega)) c_1
        refine lv_aload_n hx hb dX3_gain__21 rfl (lv_at hl 3 rfl) ?_
        refine lv_iload hx hb dX3_gain__22 (lv_at hl 5 rfl) ?_
        refine aldA hx hb hK hP 4 3 rfl rfl (vp_in_nI hlt (by omega)) dX3_gain__24 ?_
        refine lv_rwv (y := .ref (wr i)) (by rw [nI_clamp (by omega), (hVi i (by omega)).2]; rfl) ?_
        refine lv_astore (lv' := [(6, .ref (wr i)), (0, .ref (sa 0)), (1, .int (nI o)), (2, .int (sm (gnS fn dn wf kd o) i)), (3, .ref (sa 4)), (4, .int (nI n)), (5, .int (nI i))]) hx hb dX3_gain__25 hl (by decide) rfl (fun ls hl => ?_)
        refine lv_iload_n hx hb dX3_gain__27 rfl (lv_at hl 3 rfl) ?_
        refine lv_aload hx hb dX3_gain__28 (lv_at hl 0 rfl) ?_
        refine lv_aload_n hx hb dX3_gain__30 rfl (lv_at hl 1 rfl) ?_
        refine va_get (D := D) (ci := 4) (v := .ref (sa 2)) (C := RX3) (T := TX3) (N := 6) hx hb hts inlX3 hown hK hP 0 rfl rfl 1 (by decide) (hts (Cond.fieldLink RX3 17 "TavernDiceLaw$Sim" "shown" "[[I") mw_3_23) (fun _ h9 => h9) rfl dX3_gain__31 ?_
        refine lv_iload_n hx hb dX3_gain__34 rfl (lv_at hl 2 rfl) ?_
        refine aldA hx hb hK hP 2 3 rfl rfl (vp_in_nI ho (by omega)) dX3_gain__35 ?_
        refine lv_rwv (y := .ref (sr o)) (by rw [nI_clamp (by omega), (hRo o (by omega)).2]; rfl) ?_
        refine rdS (As := [.ref (wr i), .ref (sr o)]) (rest := [.int (sm (gnS fn dn wf kd o) i)]) ⟨hx, hb, hml, hown, hts⟩ hK 2 (s_gain l D cs H (hRo o (by omega)).1 (hVi i (by omega)).1 (hFo o (by omega)) hd1 hd3 hfn (hFi i (by omega)).2.2 (hF0.k1 (by omega)) _ (gn_row hF0 (by omega) o)) (gin_s mw_7_21 mw_7_22 mw_3_17 mw_7_23) (by decide +kernel) ⟨Nat.le_of_ble_eq_true rfl, Nat.le_of_ble_eq_true rfl⟩ rfl hl.1 rfl (Nat.le_of_ble_eq_true rfl) dX3_gain__36 ⟨(Nat.zero_le _), (Nat.zero_le _)⟩ ?_
        refine W.eq (g2 := F0 m 39 ls [.int (gnS fn dn wf kd o i), .int (sm (gnS fn dn wf kd o) i)]) rfl ?_
        refine lv_iadd hx hb dX3_gain__39 ?_
        refine lv_rwi (y := sm (gnS fn dn wf kd o) (i + 1)) (rfl) ?_
        refine lv_istore_n (lv' := [(2, .int (sm (gnS fn dn wf kd o) (i + 1))), (6, .ref (wr i)), (0, .ref (sa 0)), (1, .int (nI o)), (3, .ref (sa 4)), (4, .int (nI n)), (5, .int (nI i))]) hx hb dX3_gain__40 rfl hl (by decide) rfl (fun ls hl => ?_)
        refine lv_iinc (v := nI (i + 1)) (lv' := [(5, .int (nI (i + 1))), (2, .int (sm (gnS fn dn wf kd o) (i + 1))), (6, .ref (wr i)), (0, .ref (sa 0)), (1, .int (nI o)), (3, .ref (sa 4)), (4, .int (nI n))]) hx hb dX3_gain__41 hl (k := 6) rfl (nI_1 i) (by decide) rfl (fun ls hl => ?_)
        refine lv_goto (tgt := 14) hx hb dX3_gain__44 (by decide) ?_
        exact ih14 (i + 1) ls (by omega) (by omega) (lv_sub hl [3, 4, 1, 5, 6, 0] rfl)
  exact loop14 (n + 1) 0 ls (Nat.zero_le _) (by omega) (lv_sub hl [4, 5, 3, 2, 1, 0] rfl)
set_option maxHeartbeats 4000000 in
set_option maxRecDepth 100000 in
theorem s_edge (l : Launch) (D : va_G) (cs : Nat → ClassId) (H : Heap) {sa : Nat → Nat} {bank rnds : Int32} {fn : Nat → Nat} {dn N n : Nat} {df pu : Nat → Int32} {rs rw : Nat → Option Nat} {sr wr : Nat → Nat} {sf wg wf : Nat → Nat → Int32} {kd : Nat → Nat} (SS : RS D cs H sa bank rnds fn dn N n df pu rs rw sr wr sf wg wf kd) (i : Nat) (hlt : i < n) : Rd l D (Ty cs) 3 yX3_edge cX3_edge 7 (some .int) H [.ref (sa 0), .ref (wr i)] (some (.int (sm (fun o => gnS fn dn wf kd o i) N))) := by
  refine rd_ent (by decide) (Nat.le_of_ble_eq_true rfl) ?_
  intro p e s m below meth c ls hx hb hr hml hown hts hlocks hl hH hK
  have hl : lv_has ls 7 [(0, .ref (sa 0)), (1, .ref (wr i))] := hl
  have SS0 := SS
  obtain ⟨hP, hRo, hVi, hF⟩ := SS
  have hF0 := hF
  obtain ⟨hFo, hFi, hd1, hd3, hfn, hN1, hN, hn⟩ := hF
  refine lv_iconst (v := sm (fun o => gnS fn dn wf kd o i) 0) hx hb dX3_edge_0 (by first | decide | rfl) ?_
  refine lv_istore_n (lv' := [(2, .int (sm (fun o => gnS fn dn wf kd o i) 0)), (0, .ref (sa 0)), (1, .ref (wr i))]) hx hb dX3_edge_1 rfl hl (by decide) rfl (fun ls hl => ?_)
  refine lv_aload_n hx hb dX3_edge_2 rfl (lv_at hl 1 rfl) ?_
  refine va_get (D := D) (ci := 4) (v := .ref (sa 2)) (C := RX3) (T := TX3) (N := 6) hx hb hts inlX3 hown hK hP 0 rfl rfl 1 (by decide) (hts (Cond.fieldLink RX3 17 "TavernDiceLaw$Sim" "shown" "[[I") mw_3_23) (fun _ h9 => h9) rfl dX3_edge_3 ?_
  refine lv_astore_n (lv' := [(3, .ref (sa 2)), (2, .int (sm (fun o => gnS fn dn wf kd o i) 0)), (0, .ref (sa 0)), (1, .ref (wr i))]) hx hb dX3_edge_6 rfl hl (by decide) rfl (fun ls hl => ?_)
  refine lv_aload_n hx hb dX3_edge_7 rfl (lv_at hl 0 rfl) ?_
  refine va_alen hx hb hK hP 2 3 rfl rfl (v := nI N) (rfl) dX3_edge_8 ?_
  refine lv_istore (lv' := [(4, .int (nI N)), (3, .ref (sa 2)), (2, .int (sm (fun o => gnS fn dn wf kd o i) 0)), (0, .ref (sa 0)), (1, .ref (wr i))]) hx hb dX3_edge_9 hl (by decide) rfl (fun ls hl => ?_)
  refine lv_iconst (v := nI 0) hx hb dX3_edge_11 (by first | decide | rfl) ?_
  refine lv_istore (lv' := [(5, .int (nI 0)), (4, .int (nI N)), (3, .ref (sa 2)), (2, .int (sm (fun o => gnS fn dn wf kd o i) 0)), (0, .ref (sa 0)), (1, .ref (wr i))]) hx hb dX3_edge_12 hl (by decide) rfl (fun ls hl => ?_)
  have loop14 : ∀ (n9 : Nat) (o : Nat) (ls : Array Slot), o ≤ N → N + 1 ≤ o + n9 → lv_has ls 7 [(0, .ref (sa 0)), (1, .ref (wr i)), (2, .int (sm (fun o => gnS fn dn wf kd o i) o)), (3, .ref (sa 2)), (4, .int (nI N)), (5, .int (nI o))] → RdW p l e 3 s m [.ref (sa 0), .ref (wr i)] below meth c H (some (.int (sm (fun o => gnS fn dn wf kd o i) N))) (F0 m 14 ls []) := by
    intro n9
    induction n9 with
    | zero => intro o  ls hi hfu hl; exact absurd hfu (by omega)
    | succ n9 ih14 =>
      intro o  ls hi hfu hl
      refine lv_iload hx hb dX3_edge_14 (lv_at hl 5 rfl) ?_
      refine lv_iload hx hb dX3_edge_16 (lv_at hl 4 rfl) ?_
      refine lv_icmp_ge (tgt := 42) hx hb dX3_edge_18 (by decide) (fun c_1 => ?_) (fun c_1 => ?_)
      · refine lv_iload_n hx hb dX3_edge_42 rfl (lv_at hl 2 rfl) ?_
        exact rd_iret hH hx hb hr hlocks (rv (by rw [show o = N from (by have g := (nI_leI (by omega) (by omega)).mp c_1; omega)])) dX3_edge_43
      · have ho : o < N := by
          rcases Nat.lt_or_ge o N with q | q
          · exact q
          · exact absurd (nI_le q (by omega)) c_1
        refine lv_aload_n hx hb dX3_edge_21 rfl (lv_at hl 3 rfl) ?_
        refine lv_iload hx hb dX3_edge_22 (lv_at hl 5 rfl) ?_
        refine aldA hx hb hK hP 2 3 rfl rfl (vp_in_nI ho (by omega)) dX3_edge_24 ?_
        refine lv_rwv (y := .ref (sr o)) (by rw [nI_clamp (by omega), (hRo o (by omega)).2]; rfl) ?_
        refine lv_astore (lv' := [(6, .ref (sr o)), (0, .ref (sa 0)), (1, .ref (wr i)), (2, .int (sm (fun o => gnS fn dn wf kd o i) o)), (3, .ref (sa 2)), (4, .int (nI N)), (5, .int (nI o))]) hx hb dX3_edge_25 hl (by decide) rfl (fun ls hl => ?_)
        refine lv_iload_n hx hb dX3_edge_27 rfl (lv_at hl 3 rfl) ?_
        refine lv_aload_n hx hb dX3_edge_28 rfl (lv_at hl 2 rfl) ?_
        refine lv_aload hx hb dX3_edge_29 (lv_at hl 0 rfl) ?_
        refine rdS (As := [.ref (wr i), .ref (sr o)]) (rest := [.int (sm (fun o => gnS fn dn wf kd o i) o)]) ⟨hx, hb, hml, hown, hts⟩ hK 2 (s_gain l D cs H (hRo o (by omega)).1 (hVi i (by omega)).1 (hFo o (by omega)) hd1 hd3 hfn (hFi i (by omega)).2.2 (hF0.k1 (by omega)) _ (gn_row hF0 (by omega) o)) (gin_s mw_7_21 mw_7_22 mw_3_17 mw_7_23) (by decide +kernel) ⟨Nat.le_of_ble_eq_true rfl, Nat.le_of_ble_eq_true rfl⟩ rfl hl.1 rfl (Nat.le_of_ble_eq_true rfl) dX3_edge_31 ⟨(Nat.zero_le _), (Nat.zero_le _)⟩ ?_
        refine W.eq (g2 := F0 m 34 ls [.int (gnS fn dn wf kd o i), .int (sm (fun o => gnS fn dn wf kd o i) o)]) rfl ?_
        refine lv_iadd hx hb dX3_edge_34 ?_
        refine lv_rwi (y := sm (fun o => gnS fn dn wf kd o i) (o + 1)) (rfl) ?_
        refine lv_istore_n (lv' := [(2, .int (sm (fun o => gnS fn dn wf kd o i) (o + 1))), (6, .ref (sr o)), (0, .ref (sa 0)), (1, .ref (wr i)), (3, .ref (sa 2)), (4, .int (nI N)), (5, .int (nI o))]) hx hb dX3_edge_35 rfl hl (by decide) rfl (fun ls hl => ?_)
        refine lv_iinc (v := nI (o + 1)) (lv' := [(5, .int (nI (o + 1))), (2, .int (sm (fun o => gnS fn dn wf kd o i) (o + 1))), (6, .ref (sr o)), (0, .ref (sa 0)), (1, .ref (wr i)), (3, .ref (sa 2)), (4, .int (nI N))]) hx hb dX3_edge_36 hl (k := 6) rfl (nI_1 o) (by decide) rfl (fun ls hl => ?_)
        refine lv_goto (tgt := 14) hx hb dX3_edge_39 (by decide) ?_
        exact ih14 (o + 1) ls (by omega) (by omega) (lv_sub hl [3, 4, 1, 5, 6, 0] rfl)
  exact loop14 (N + 1) 0 ls (Nat.zero_le _) (by omega) (lv_sub hl [4, 5, 3, 2, 1, 0] rfl)
set_option maxHeartbeats 4000000 in
set_option maxRecDepth 100000 in
theorem s_purseAt (l : Launch) (D : va_G) (cs : Nat → ClassId) (H : Heap) {sa : Nat → Nat} {bank rnds : Int32} {fn : Nat → Nat} {dn N n : Nat} {df pu : Nat → Int32} {rs rw : Nat → Option Nat} {sr wr : Nat → Nat} {sf wg wf : Nat → Nat → Int32} {kd : Nat → Nat} (SS : RS D cs H sa bank rnds fn dn N n df pu rs rw sr wr sf wg wf kd) (p9 : Nat) (hp9 : p9 < 6) (o : Nat) (ho : o < N) : Rd l D (Ty cs) 3 yX3_purseAt cX3_purseAt 8 (some .int) H [.ref (sa 0), .int (nI p9), .int (nI o)] (some (.int (behS fn dn pu wf kd (nI p9) p9 o n))) := by
  refine rd_ent (by decide) (Nat.le_of_ble_eq_true rfl) ?_
  intro p e s m below meth c ls hx hb hr hml hown hts hlocks hl hH hK
  have hl : lv_has ls 8 [(0, .ref (sa 0)), (1, .int (nI p9)), (2, .int (nI o))] := hl
  have SS0 := SS
  obtain ⟨hP, hRo, hVi, hF⟩ := SS
  have hF0 := hF
  obtain ⟨hFo, hFi, hd1, hd3, hfn, hN1, hN, hn⟩ := hF
  refine lv_aload_n hx hb dX3_purseAt_0 rfl (lv_at hl 0 rfl) ?_
  refine va_get (D := D) (ci := 4) (v := .ref (sa 3)) (C := RX3) (T := TX3) (N := 6) hx hb hts inlX3 hown hK hP 0 rfl rfl 2 (by decide) (hts (Cond.fieldLink RX3 21 "TavernDiceLaw$Sim" "purse" "[I") mw_4_0) (fun _ h9 => h9) rfl dX3_purseAt_1 ?_
  refine lv_iload_n hx hb dX3_purseAt_4 rfl (lv_at hl 1 rfl) ?_
  refine va_iald hx hb hK hP 3 0 rfl rfl (vp_in_nI hp9 (by omega)) dX3_purseAt_5 ?_
  refine lv_rwi (y := behS fn dn pu wf kd (nI p9) p9 o 0) (congrArg pu (nI_clamp (by omega))) ?_
  refine lv_istore_n (lv' := [(3, .int (behS fn dn pu wf kd (nI p9) p9 o 0)), (0, .ref (sa 0)), (1, .int (nI p9)), (2, .int (nI o))]) hx hb dX3_purseAt_6 rfl hl (by decide) rfl (fun ls hl => ?_)
  refine lv_aload_n hx hb dX3_purseAt_7 rfl (lv_at hl 1 rfl) ?_
  refine va_get (D := D) (ci := 4) (v := .ref (sa 4)) (C := RX3) (T := TX3) (N := 6) hx hb hts inlX3 hown hK hP 0 rfl rfl 5 (by decide) (hts (Cond.fieldLink RX3 29 "TavernDiceLaw$Sim" "wagers" "[[I") mw_4_3) (fun _ h9 => h9) rfl dX3_purseAt_8 ?_
  refine lv_astore (lv' := [(4, .ref (sa 4)), (3, .int (behS fn dn pu wf kd (nI p9) p9 o 0)), (0, .ref (sa 0)), (1, .int (nI p9)), (2, .int (nI o))]) hx hb dX3_purseAt_11 hl (by decide) rfl (fun ls hl => ?_)
  refine lv_aload hx hb dX3_purseAt_13 (lv_at hl 0 rfl) ?_
  refine va_alen hx hb hK hP 4 3 rfl rfl (v := nI n) (rfl) dX3_purseAt_15 ?_
  refine lv_istore (lv' := [(5, .int (nI n)), (4, .ref (sa 4)), (3, .int (behS fn dn pu wf kd (nI p9) p9 o 0)), (0, .ref (sa 0)), (1, .int (nI p9)), (2, .int (nI o))]) hx hb dX3_purseAt_16 hl (by decide) rfl (fun ls hl => ?_)
  refine lv_iconst (v := nI 0) hx hb dX3_purseAt_18 (by first | decide | rfl) ?_
  refine lv_istore (lv' := [(6, .int (nI 0)), (5, .int (nI n)), (4, .ref (sa 4)), (3, .int (behS fn dn pu wf kd (nI p9) p9 o 0)), (0, .ref (sa 0)), (1, .int (nI p9)), (2, .int (nI o))]) hx hb dX3_purseAt_19 hl (by decide) rfl (fun ls hl => ?_)
  have loop21 : ∀ (n9 : Nat) (i : Nat) (ls : Array Slot), i ≤ n → n + 1 ≤ i + n9 → lv_has ls 8 [(0, .ref (sa 0)), (1, .int (nI p9)), (2, .int (nI o)), (3, .int (behS fn dn pu wf kd (nI p9) p9 o i)), (4, .ref (sa 4)), (5, .int (nI n)), (6, .int (nI i))] → RdW p l e 3 s m [.ref (sa 0), .int (nI p9), .int (nI o)] below meth c H (some (.int (behS fn dn pu wf kd (nI p9) p9 o n))) (F0 m 21 ls []) := by
    intro n9
    induction n9 with
    | zero => intro i  ls hi hfu hl; exact absurd hfu (by omega)
    | succ n9 ih21 =>
      intro i  ls hi hfu hl
      refine lv_iload hx hb dX3_purseAt_21 (lv_at hl 6 rfl) ?_
      refine lv_iload hx hb dX3_purseAt_23 (lv_at hl 5 rfl) ?_
      refine lv_icmp_ge (tgt := 85) hx hb dX3_purseAt_25 (by decide) (fun c_1 => ?_) (fun c_1 => ?_)
      · refine lv_iload_n hx hb dX3_purseAt_85 rfl (lv_at hl 3 rfl) ?_
        exact rd_iret hH hx hb hr hlocks (rv (by rw [show i = n from (by have g := (nI_leI (by omega) (by omega)).mp c_1; omega)])) dX3_purseAt_86
      · have hlt : i < n := by
          rcases Nat.lt_or_ge i n with q | q
          · exact q
          · exact absurd (nI_le q (by omega)) c_1
        refine lv_aload hx hb dX3_purseAt_28 (lv_at hl 4 rfl) ?_
        refine lv_iload hx hb dX3_purseAt_30 (lv_at hl 6 rfl) ?_
        refine aldA hx hb hK hP 4 3 rfl rfl (vp_in_nI hlt (by omega)) dX3_purseAt_32 ?_
        refine lv_rwv (y := .ref (wr i)) (by rw [nI_clamp (by omega), (hVi i (by omega)).2]; rfl) ?_
        refine lv_astore (lv' := [(7, .ref (wr i)), (0, .ref (sa 0)), (1, .int (nI p9)), (2, .int (nI o)), (3, .int (behS fn dn pu wf kd (nI p9) p9 o i)), (4, .ref (sa 4)), (5, .int (nI n)), (6, .int (nI i))]) hx hb dX3_purseAt_33 hl (by decide) rfl (fun ls hl => ?_)
        refine lv_iload_n hx hb dX3_purseAt_35 rfl (lv_at hl 4 rfl) ?_
        refine lv_aload hx hb dX3_purseAt_36 (lv_at hl 0 rfl) ?_
        refine lv_iconst (v := nI 0) hx hb dX3_purseAt_38 (by first | decide | rfl) ?_
        refine va_iald hx hb hK (hVi i hlt).1 0 0 rfl rfl (vp_in_nI (by omega) (by omega)) dX3_purseAt_39 ?_
        refine lv_rwi (y := wf i 0) ((congrArg (wg i) (nI_clamp (by omega))).trans (hF0.w hlt (by omega))) ?_
        refine lv_iload_n hx hb dX3_purseAt_40 rfl (lv_at hl 2 rfl) ?_
        refine lv_icmp_ne (tgt := 76) hx hb dX3_purseAt_41 (by decide) (fun c_2 => ?_) (fun c_2 => ?_)
        · refine lv_iconst (v := 0) hx hb dX3_purseAt_76 (by first | decide | rfl) ?_
          refine lv_iadd hx hb dX3_purseAt_77 ?_
          refine lv_rwi (y := behS fn dn pu wf kd (nI p9) p9 o (i + 1)) (behS_f (fun z => c_2 z.1)) ?_
          refine lv_istore_n (lv' := [(3, .int (behS fn dn pu wf kd (nI p9) p9 o (i + 1))), (7, .ref (wr i)), (0, .ref (sa 0)), (1, .int (nI p9)), (2, .int (nI o)), (4, .ref (sa 4)), (5, .int (nI n)), (6, .int (nI i))]) hx hb dX3_purseAt_78 rfl hl (by decide) rfl (fun ls hl => ?_)
          refine lv_iinc (v := nI (i + 1)) (lv' := [(6, .int (nI (i + 1))), (3, .int (behS fn dn pu wf kd (nI p9) p9 o (i + 1))), (7, .ref (wr i)), (0, .ref (sa 0)), (1, .int (nI p9)), (2, .int (nI o)), (4, .ref (sa 4)), (5, .int (nI n))]) hx hb dX3_purseAt_79 hl (k := 7) rfl (nI_1 i) (by decide) rfl (fun ls hl => ?_)
          refine lv_goto (tgt := 21) hx hb dX3_purseAt_82 (by decide) ?_
          exact ih21 (i + 1) ls (by omega) (by omega) (lv_sub hl [3, 4, 5, 1, 6, 7, 0] rfl)
        · refine lv_aload hx hb dX3_purseAt_44 (lv_at hl 0 rfl) ?_
          refine lv_iconst (v := nI 1) hx hb dX3_purseAt_46 (by first | decide | rfl) ?_
          refine va_iald hx hb hK (hVi i hlt).1 0 0 rfl rfl (vp_in_nI (by omega) (by omega)) dX3_purseAt_47 ?_
          refine lv_rwi (y := nI (kd i)) ((congrArg (wg i) (nI_clamp (by omega))).trans (hF0.k1 hlt)) ?_
          refine lv_aload hx hb dX3_purseAt_48 (lv_at hl 0 rfl) ?_
          refine lv_iconst (v := nI 2) hx hb dX3_purseAt_50 (by first | decide | rfl) ?_
          refine va_iald hx hb hK (hVi i hlt).1 0 0 rfl rfl (vp_in_nI (by omega) (by omega)) dX3_purseAt_51 ?_
          refine lv_rwi (y := wf i 2) ((congrArg (wg i) (nI_clamp (by omega))).trans (hF0.w hlt (by omega))) ?_
          refine lv_aload_n hx hb dX3_purseAt_52 rfl (lv_at hl 1 rfl) ?_
          refine va_get (D := D) (ci := 4) (v := .ref (sa 2)) (C := RX3) (T := TX3) (N := 6) hx hb hts inlX3 hown hK hP 0 rfl rfl 1 (by decide) (hts (Cond.fieldLink RX3 17 "TavernDiceLaw$Sim" "shown" "[[I") mw_3_23) (fun _ h9 => h9) rfl dX3_purseAt_53 ?_
          refine lv_iload_n hx hb dX3_purseAt_56 rfl (lv_at hl 3 rfl) ?_
          refine aldA hx hb hK hP 2 3 rfl rfl (vp_in_nI ho (by omega)) dX3_purseAt_57 ?_
          refine lv_rwv (y := .ref (sr o)) (by rw [nI_clamp (by omega), (hRo o (by omega)).2]; rfl) ?_
          refine rdS (As := [.int (nI (kd i)), .int (wf i 2), .ref (sr o)]) (rest := [.int (behS fn dn pu wf kd (nI p9) p9 o i)]) ⟨hx, hb, hml, hown, hts⟩ hK 3 (s_comes l D cs H (wf i 2) (hRo o ho).1 (hFo o ho) hd1 hd3 hfn (hFi i hlt).2.2) (gin_s mw_8_0 mw_8_1 mw_3_17 mw_8_2) (by decide +kernel) ⟨Nat.le_of_ble_eq_true rfl, Nat.le_of_ble_eq_true rfl⟩ rfl hl.1 rfl (Nat.le_of_ble_eq_true rfl) dX3_purseAt_58 ⟨(Nat.zero_le _), (Nat.zero_le _)⟩ ?_
          refine W.eq (g2 := F0 m 61 ls [.int (b2i (comesM fn dn (kd i) (wf i 2) o)), .int (behS fn dn pu wf kd (nI p9) p9 o i)]) rfl ?_
          refine lv_if_eq (tgt := 76) hx hb dX3_purseAt_61 (by decide) (fun c_3 => ?_) (fun c_3 => ?_)
          · refine lv_iconst (v := 0) hx hb dX3_purseAt_76 (by first | decide | rfl) ?_
            refine lv_iadd hx hb dX3_purseAt_77 ?_
            refine lv_rwi (y := behS fn dn pu wf kd (nI p9) p9 o (i + 1)) (behS_f (fun z => by have g := (b2i_eq0 _).mp c_3; rw [g] at z; exact absurd z.2 (by decide))) ?_
            refine lv_istore_n (lv' := [(3, .int (behS fn dn pu wf kd (nI p9) p9 o (i + 1))), (7, .ref (wr i)), (0, .ref (sa 0)), (1, .int (nI p9)), (2, .int (nI o)), (4, .ref (sa 4)), (5, .int (nI n)), (6, .int (nI i))]) hx hb dX3_purseAt_78 rfl hl (by decide) rfl (fun ls hl => ?_)
            refine lv_iinc (v := nI (i + 1)) (lv' := [(6, .int (nI (i + 1))), (3, .int (behS fn dn pu wf kd (nI p9) p9 o (i + 1))), (7, .ref (wr i)), (0, .ref (sa 0)), (1, .int (nI p9)), (2, .int (nI o)), (4, .ref (sa 4)), (5, .int (nI n))]) hx hb dX3_purseAt_79 hl (k := 7) rfl (nI_1 i) (by decide) rfl (fun ls hl => ?_)
            refine lv_goto (tgt := 21) hx hb dX3_purseAt_82 (by decide) ?_
            exact ih21 (i + 1) ls (by omega) (by omega) (lv_sub hl [3, 4, 5, 1, 6, 7, 0] rfl)
          · refine lv_aload hx hb dX3_purseAt_64 (lv_at hl 0 rfl) ?_
            refine lv_iconst (v := nI 3) hx hb dX3_purseAt_66 (by first | decide | rfl) ?_
            refine va_iald hx hb hK (hVi i hlt).1 0 0 rfl rfl (vp_in_nI (by omega) (by omega)) dX3_purseAt_67 ?_
            refine lv_rwi (y := wf i 3) ((congrArg (wg i) (nI_clamp (by omega))).trans (hF0.w hlt (by omega))) ?_
            refine lv_aload hx hb dX3_purseAt_68 (lv_at hl 0 rfl) ?_
            refine lv_iconst (v := nI 4) hx hb dX3_purseAt_70 (by first | decide | rfl) ?_
            refine va_iald hx hb hK (hVi i hlt).1 0 0 rfl rfl (vp_in_nI (by omega) (by omega)) dX3_purseAt_71 ?_
            refine lv_rwi (y := wf i 4) ((congrArg (wg i) (nI_clamp (by omega))).trans (hF0.w hlt (by omega))) ?_
            refine lv_iadd hx hb dX3_purseAt_72 ?_
            refine lv_goto (tgt := 77) hx hb dX3_purseAt_73 (by decide) ?_
            refine lv_iadd hx hb dX3_purseAt_77 ?_
            refine lv_rwi (y := behS fn dn pu wf kd (nI p9) p9 o (i + 1)) (behS_t c_2 ((b2i_ne0 _).mp c_3)) ?_
            refine lv_istore_n (lv' := [(3, .int (behS fn dn pu wf kd (nI p9) p9 o (i + 1))), (7, .ref (wr i)), (0, .ref (sa 0)), (1, .int (nI p9)), (2, .int (nI o)), (4, .ref (sa 4)), (5, .int (nI n)), (6, .int (nI i))]) hx hb dX3_purseAt_78 rfl hl (by decide) rfl (fun ls hl => ?_)
            refine lv_iinc (v := nI (i + 1)) (lv' := [(6, .int (nI (i + 1))), (3, .int (behS fn dn pu wf kd (nI p9) p9 o (i + 1))), (7, .ref (wr i)), (0, .ref (sa 0)), (1, .int (nI p9)), (2, .int (nI o)), (4, .ref (sa 4)), (5, .int (nI n))]) hx hb dX3_purseAt_79 hl (k := 7) rfl (nI_1 i) (by decide) rfl (fun ls hl => ?_)
            refine lv_goto (tgt := 21) hx hb dX3_purseAt_82 (by decide) ?_
            exact ih21 (i + 1) ls (by omega) (by omega) (lv_sub hl [3, 4, 5, 1, 6, 7, 0] rfl)
  exact loop21 (n + 1) 0 ls (Nat.zero_le _) (by omega) (lv_sub hl [4, 5, 6, 3, 2, 1, 0] rfl)
set_option maxHeartbeats 4000000 in
set_option maxRecDepth 100000 in
theorem s_isEdge (l : Launch) (D : va_G) (cs : Nat → ClassId) (H : Heap) {sa : Nat → Nat} {bank rnds : Int32} {fn : Nat → Nat} {dn N n : Nat} {df pu : Nat → Int32} {rs rw : Nat → Option Nat} {sr wr : Nat → Nat} {sf wg wf : Nat → Nat → Int32} {kd : Nat → Nat} (SS : RS D cs H sa bank rnds fn dn N n df pu rs rw sr wr sf wg wf kd) (sum top : Int32) (bot : Nat) (hb1 : 1 ≤ bot) (hbN : bot ≤ 1728) (he : top.toInt64 * (nI N).toInt64 = sum.toInt64 * (nI bot).toInt64) (hg : ∀ j, 2 ≤ j → j ≤ bot → ¬ (top - top / nI j * nI j = 0 ∧ bot % j = 0)) : Rd l D (Ty cs) 1 yX3_isEdge cX3_isEdge 5 (some .boolean) H [.ref (sa 0), .int sum, .int top, .int (nI bot)] (some (.int 1)) := by
  refine rd_ent (by decide) (Nat.le_of_ble_eq_true rfl) ?_
  intro p e s m below meth c ls hx hb hr hml hown hts hlocks hl hH hK
  have hl : lv_has ls 5 [(0, .ref (sa 0)), (1, .int sum), (2, .int top), (3, .int (nI bot))] := hl
  have SS0 := SS
  obtain ⟨hP, hRo, hVi, hF⟩ := SS
  have hF0 := hF
  obtain ⟨hFo, hFi, hd1, hd3, hfn, hN1, hN, hn⟩ := hF
  refine lv_iload_n hx hb dX3_isEdge_0 rfl (lv_at hl 3 rfl) ?_
  refine lv_iconst (v := nI 1) hx hb dX3_isEdge_1 (by first | decide | rfl) ?_
  refine lv_icmp_lt (tgt := 23) hx hb dX3_isEdge_2 (by decide) (fun c_1 => False.elim (absurd c_1 (nI_nlt hb1 (by omega)))) (fun c_1 => ?_)
  refine lv_iload_n hx hb dX3_isEdge_5 rfl (lv_at hl 2 rfl) ?_
  refine lv_i2l hx hb dX3_isEdge_6 rfl ?_
  refine lv_aload_n hx hb dX3_isEdge_7 rfl (lv_at hl 0 rfl) ?_
  refine va_get (D := D) (ci := 4) (v := .ref (sa 2)) (C := RX3) (T := TX3) (N := 6) hx hb hts inlX3 hown hK hP 0 rfl rfl 1 (by decide) (hts (Cond.fieldLink RX3 17 "TavernDiceLaw$Sim" "shown" "[[I") mw_3_23) (fun _ h9 => h9) rfl dX3_isEdge_8 ?_
  refine va_alen hx hb hK hP 2 3 rfl rfl (v := nI N) (rfl) dX3_isEdge_11 ?_
  refine lv_i2l hx hb dX3_isEdge_12 rfl ?_
  refine lv_lmul hx hb dX3_isEdge_13 ?_
  refine lv_iload_n hx hb dX3_isEdge_14 rfl (lv_at hl 1 rfl) ?_
  refine lv_i2l hx hb dX3_isEdge_15 rfl ?_
  refine lv_iload_n hx hb dX3_isEdge_16 rfl (lv_at hl 3 rfl) ?_
  refine lv_i2l hx hb dX3_isEdge_17 rfl ?_
  refine lv_lmul hx hb dX3_isEdge_18 ?_
  refine W.lcmp hx hb dX3_isEdge_19 ?_
  refine lv_if_eq (tgt := 25) hx hb dX3_isEdge_20 (by decide) (fun c_2 => ?_) (fun c_2 => False.elim (c_2 ((lcmp_eq _ _).mpr he)))
  refine lv_iconst (v := nI 2) hx hb dX3_isEdge_25 (by first | decide | rfl) ?_
  refine lv_istore (lv' := [(4, .int (nI 2)), (0, .ref (sa 0)), (1, .int sum), (2, .int top), (3, .int (nI bot))]) hx hb dX3_isEdge_26 hl (by decide) rfl (fun ls hl => ?_)
  have loop28 : ∀ (n9 : Nat) (j : Nat) (ls : Array Slot), 2 ≤ j → j ≤ bot + 2 → bot + 3 ≤ j + n9 → lv_has ls 5 [(0, .ref (sa 0)), (1, .int sum), (2, .int top), (3, .int (nI bot)), (4, .int (nI j))] → RdW p l e 1 s m [.ref (sa 0), .int sum, .int top, .int (nI bot)] below meth c H (some (.int 1)) (F0 m 28 ls []) := by
    intro n9
    induction n9 with
    | zero => intro j  ls h2 hi hfu hl; exact absurd hfu (by omega)
    | succ n9 ih28 =>
      intro j  ls h2 hi hfu hl
      refine lv_iload hx hb dX3_isEdge_28 (lv_at hl 4 rfl) ?_
      refine lv_iload_n hx hb dX3_isEdge_30 rfl (lv_at hl 3 rfl) ?_
      refine lv_icmp_gt (tgt := 56) hx hb dX3_isEdge_31 (by decide) (fun c_3 => ?_) (fun c_3 => ?_)
      · refine lv_iconst (v := 1) hx hb dX3_isEdge_56 (by first | decide | rfl) ?_
        exact rd_zret hH hx hb hr hlocks (rfl) (by decide) dX3_isEdge_57
      · have hj : j ≤ bot := by
          rcases Nat.lt_or_ge bot j with q | q
          · exact absurd (nI_lt q (by omega)) c_3
          · exact q
        refine lv_iload_n hx hb dX3_isEdge_34 rfl (lv_at hl 2 rfl) ?_
        refine lv_iload hx hb dX3_isEdge_35 (lv_at hl 4 rfl) ?_
        refine lv_irem hx hb dX3_isEdge_37 (nI_ne0 (by omega) (by omega)) ?_
        refine lv_if_ne (tgt := 50) hx hb dX3_isEdge_38 (by decide) (fun c_4 => ?_) (fun c_4 => ?_)
        · refine lv_iinc (v := nI (j + 1)) (lv' := [(4, .int (nI (j + 1))), (0, .ref (sa 0)), (1, .int sum), (2, .int top), (3, .int (nI bot))]) hx hb dX3_isEdge_50 hl (k := 4) rfl (nI_1 j) (by decide) rfl (fun ls hl => ?_)
          refine lv_goto (tgt := 28) hx hb dX3_isEdge_53 (by decide) ?_
          exact ih28 (j + 1) ls (by omega) (by omega) (by omega) (lv_sub hl [1, 2, 3, 4, 0] rfl)
        · refine lv_iload_n hx hb dX3_isEdge_41 rfl (lv_at hl 3 rfl) ?_
          refine lv_iload hx hb dX3_isEdge_42 (lv_at hl 4 rfl) ?_
          refine lv_irem hx hb dX3_isEdge_44 (nI_ne0 (by omega) (by omega)) ?_
          refine lv_rwi (y := nI (bot % j)) (pk_rem (by omega) (by omega) (by omega)) ?_
          refine lv_if_ne (tgt := 50) hx hb dX3_isEdge_45 (by decide) (fun c_5 => ?_) (fun c_5 => False.elim (hg j h2 hj ⟨(by first | exact c_4 | exact Classical.not_not.mp c_4), (nI_eq (b := 0) (Nat.lt_of_le_of_lt (Nat.mod_le _ _) (by omega)) (by omega)).mp (by first | exact c_5 | exact Classical.not_not.mp c_5)⟩))
          refine lv_iinc (v := nI (j + 1)) (lv' := [(4, .int (nI (j + 1))), (0, .ref (sa 0)), (1, .int sum), (2, .int top), (3, .int (nI bot))]) hx hb dX3_isEdge_50 hl (k := 4) rfl (nI_1 j) (by decide) rfl (fun ls hl => ?_)
          refine lv_goto (tgt := 28) hx hb dX3_isEdge_53 (by decide) ?_
          exact ih28 (j + 1) ls (by omega) (by omega) (by omega) (lv_sub hl [1, 2, 3, 4, 0] rfl)
  exact loop28 (bot + 3) 2 ls (Nat.le_refl 2) (by omega) (by omega) (lv_sub hl [1, 2, 3, 4, 0] rfl)
