/-! the law's small methods; rows by program -/
set_option maxHeartbeats 4000000 in
set_option maxRecDepth 100000 in
theorem s_below (l : Launch) (D : va_G) (cs : Nat → ClassId) (H : Heap) (v : Int32) (n : Nat) (h1 : 1 ≤ n) (hn : n < 2 ^ 31) : Rd l D (Ty cs) 1 yL_below cL_below 2 (some .int) H [.int v, .int (nI n)] (some (.int (nI (blw v n)))) := by
  refine rd_ent (by decide) (Nat.le_of_ble_eq_true rfl) ?_
  intro p e s m below meth c ls hx hb hr hml hown hts hlocks hl hH hK
  have hl : lv_has ls 2 [(0, .int v), (1, .int (nI n))] := hl
  refine lv_iload_n hx hb dL_below_0 rfl (lv_at hl 0 rfl) ?_
  refine lv_ldc hx hb hown (hts (Cond.constant RL 7 (2147483647)) mw_4_15) dL_below_1 ?_
  refine lv_iand hx hb dL_below_3 ?_
  refine lv_rwi (y := nI (v.toBitVec.toNat % 2 ^ 31)) (pk_and v 31 (by decide)) ?_
  refine lv_iload_n hx hb dL_below_4 rfl (lv_at hl 1 rfl) ?_
  refine lv_irem hx hb dL_below_5 (nI_ne0 h1 hn) ?_
  refine lv_rwi (y := nI (blw v n)) (pk_rem (Nat.mod_lt _ (by decide)) h1 hn) ?_
  exact rd_iret hH hx hb hr hlocks (rfl) dL_below_6
set_option maxHeartbeats 4000000 in
set_option maxRecDepth 100000 in
theorem s_cell (l : Launch) (D : va_G) (cs : Nat → ClassId) (H : Heap) {b L : Nat} {xs : Nat → Int32} (k : Nat) (hk9 : k < 2 ^ 30) (hL : L < 2 ^ 30) : Rc l D cs b L xs 1 yL_cell cL_cell 2 (some .int) H [.ref b, .int (nI k)] (some (.int (cellw xs L k))) := by
  refine rc_ent (by decide) (Nat.le_of_ble_eq_true rfl) ?_
  intro p e s m below meth c ls hx hb hr hml hown hts hlocks hl hH hK hX
  have hl : lv_has ls 2 [(0, .ref b), (1, .int (nI k))] := hl
  have hS : va_S (fun _ => False) H H [] := va_S.rf
  have hbA : ¬ (fun _ : Nat => False) b := fun q => q
  have hbl : b < H.size := by { obtain ⟨scr, h1, -⟩ := hX; exact (Array.getElem?_eq_some_iff.mp h1).1 }
  refine lv_iload_n hx hb dL_cell_0 rfl (lv_at hl 1 rfl) ?_
  refine lv_aload_n hx hb dL_cell_1 rfl (lv_at hl 0 rfl) ?_
  refine va_slen hx hb hX hbl hbA hS dL_cell_2 ?_
  refine lv_icmp_ge (tgt := 12) hx hb dL_cell_3 (by decide) (fun c_1 => ?_) (fun c_1 => ?_)
  · refine lv_ldc hx hb hown (hts (Cond.constant RL 8 (790386105)) mw_4_11) dL_cell_12 ?_
    refine lv_iload_n hx hb dL_cell_14 rfl (lv_at hl 1 rfl) ?_
    refine lv_iconst (v := 3) hx hb dL_cell_15 (by first | decide | rfl) ?_
    refine lv_iadd hx hb dL_cell_16 ?_
    refine lv_imul hx hb dL_cell_17 ?_
    exact rd_iret hH hx hb hr hlocks (rv (if_neg (fun z => absurd c_1 (nI_ge z (by omega)))).symm) dL_cell_18
  · have hk : k < L := by
      rcases Nat.lt_or_ge k L with q | q
      · exact q
      · exact absurd (nI_le q (by omega)) c_1
    refine lv_aload_n hx hb dL_cell_6 rfl (lv_at hl 0 rfl) ?_
    refine lv_iload_n hx hb dL_cell_7 rfl (lv_at hl 1 rfl) ?_
    refine va_sld hx hb hX hbl hbA hS (vp_in_nI hk (by omega)) dL_cell_8 ?_
    refine lv_rwi (y := xs k) (congrArg xs (nI_clamp (by omega))) ?_
    refine lv_goto (tgt := 18) hx hb dL_cell_9 (by decide) ?_
    exact rd_iret hH hx hb hr hlocks (rv (if_pos hk).symm) dL_cell_18
