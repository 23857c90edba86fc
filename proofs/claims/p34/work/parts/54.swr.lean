/-! the ledger by hand: its rows made; rows by program -/
set_option maxHeartbeats 4000000 in
set_option maxRecDepth 100000 in
theorem s_with (l : Launch) (D : va_G) (cs : Nat → ClassId) (z mi : Nat) (H : Heap) {tl : va_W} {a r n : Nat} {rw : Nat → Option Nat} {wr : Nat → Nat} {wg : Nat → Nat → Int32} {g : Nat → Int32} (hw : ∀ i, i < n → wV cs wr wg i ∈ tl ∧ rw i = some (wr i)) (hr9 : (r, .inl (cs 0, 5, .inl g)) ∈ tl) (hn : n ≤ 12) (post : Option Value → va_W → Prop) (hpost : ∀ (q : Nat) (rw9 : Nat → Option Nat), (∀ j, j < n → rw9 j = rw j) → rw9 n = some r → post (some (.ref q)) ([(a, .inl (cs 3, n, .inr (.inr (.inr (.inr (rw)))))), (q, .inl (cs 3, (n + 1), .inr (.inr (.inr (.inr (rw9))))))] ++ tl)) (hP : va_P D vwCl ([(a, .inl (cs 3, n, .inr (.inr (.inr (.inr (rw))))))] ++ tl) H) (hD : va_D (fun _ => True) ([(a, .inl (cs 3, n, .inr (.inr (.inr (.inr (rw))))))] ++ tl)) : Ws z mi l D cs 1 1 13 yX3_with cX3_with 4 (some (.array (.array .int))) ([(a, .inl (cs 3, n, .inr (.inr (.inr (.inr (rw))))))] ++ tl) H [.ref a, .ref r] post := by
  refine ws_ent (by decide) (Nat.le_of_ble_eq_true rfl) hP hD ?_
  clear hP hD H
  intro p e s m below meth c ls A Q H hx hb hr hml hown hts hlocks hin hl hK hQ hA hH hT hP hD hS
  clear hH
  have hl : lv_has ls 4 [(0, .ref a), (1, .ref r)] := hl
  refine lv_aload_n hx hb dX3_with_0 rfl (lv_at hl 0 rfl) ?_
  refine va_alen hx hb hK hP 0 3 rfl rfl (v := nI n) (rfl) dX3_with_1 ?_
  refine lv_iconst (v := 1) hx hb dX3_with_2 (by first | decide | rfl) ?_
  refine lv_iadd hx hb dX3_with_3 ?_
  refine lv_rwi (y := nI (n + 1)) (nI_1 n) ?_
  refine nwA (N' := (n + 1)) hx hb hown (hts (Cond.classLink RX3 28 "[I") mw_4_2) hT.2.2.2.1.2 hK hP hD hS hA (nI_pos (by omega)) (nI_clamp (by omega)) (by omega) (show _ ≤ 1 by omega) (show _ ≤ 13 by omega) dX3_with_4 (fun q4 H hP hD hS => ?_)
  have hP : va_P D vwCl ([(a, .inl (cs 3, n, .inr (.inr (.inr (.inr (rw)))))), (q4, .inl (cs 3, (n + 1), .inr (.inr (.inr (.inr (fun _ => none))))))] ++ tl) H := va_P.swap hP
  have hD : va_D _ ([(a, .inl (cs 3, n, .inr (.inr (.inr (.inr (rw)))))), (q4, .inl (cs 3, (n + 1), .inr (.inr (.inr (.inr (fun _ => none))))))] ++ tl) := va_D.swap hD
  refine lv_astore_n (lv' := [(2, .ref q4), (0, .ref a), (1, .ref r)]) hx hb dX3_with_7 rfl hl (by decide) rfl (fun ls hl => ?_)
  refine lv_iconst (v := nI 0) hx hb dX3_with_8 (by first | decide | rfl) ?_
  refine lv_istore_n (lv' := [(3, .int (nI 0)), (2, .ref q4), (0, .ref a), (1, .ref r)]) hx hb dX3_with_9 rfl hl (by decide) rfl (fun ls hl => ?_)
  have loop10 : ∀ (n9 : Nat) (i : Nat) (f9 : Nat → Option Nat) (H : Heap) (locs : List Loc) (ls : Array Slot), i ≤ n → n + 1 ≤ i + n9 → (∀ j, j < i → f9 j = rw j) → va_P D vwCl ([(a, .inl (cs 3, n, .inr (.inr (.inr (.inr (rw)))))), (q4, .inl (cs 3, (n + 1), .inr (.inr (.inr (.inr (f9))))))] ++ tl) H → va_D A ([(a, .inl (cs 3, n, .inr (.inr (.inr (.inr (rw)))))), (q4, .inl (cs 3, (n + 1), .inr (.inr (.inr (.inr (f9))))))] ++ tl) → va_S A s.heap H locs → lv_has ls 4 [(0, .ref a), (1, .ref r), (2, .ref q4), (3, .int (nI i))] → W p l e (rmL 1 1 13) s m [.ref a, .ref r].toArray below meth c H locs (0 + 1) (0 + (n + 1)) Q (F0 m 10 ls []) := by
    intro n9
    induction n9 with
    | zero => intro i  f9  H locs ls hi hfu hf9 hP hD hS hl; exact absurd hfu (by omega)
    | succ n9 ih10 =>
      intro i  f9  H locs ls hi hfu hf9 hP hD hS hl
      refine lv_iload_n hx hb dX3_with_10 rfl (lv_at hl 3 rfl) ?_
      refine lv_aload_n hx hb dX3_with_11 rfl (lv_at hl 0 rfl) ?_
      refine va_alen hx hb hK hP 0 3 rfl rfl (v := nI n) (rfl) dX3_with_12 ?_
      refine lv_icmp_ge (tgt := 28) hx hb dX3_with_13 (by decide) (fun c_1 => ?_) (fun c_1 => ?_)
      · have gi : n = i := by have g := (nI_leI (by omega) (by omega)).mp c_1; omega
        refine lv_aload_n hx hb dX3_with_28 rfl (lv_at hl 2 rfl) ?_
        refine lv_aload_n hx hb dX3_with_29 rfl (lv_at hl 0 rfl) ?_
        refine va_alen hx hb hK hP 0 3 rfl rfl (v := nI n) (rfl) dX3_with_30 ?_
        refine lv_aload_n hx hb dX3_with_31 rfl (lv_at hl 1 rfl) ?_
        refine astA hx hb hT.2.2.2.1.2 hK hP hD hS 1 rfl (List.mem_append_right _ hr9) (vp_in_nI (by omega) (by omega)) dX3_with_32 (fun H locs hP hD hS => ?_)
        have g9 : va_up f9 (nI n).toNatClampNeg (some r) = va_up f9 n (some r) := by rw [nI_clamp (by omega)]
        have hP : va_P D vwCl ([(a, .inl (cs 3, n, .inr (.inr (.inr (.inr (rw)))))), (q4, .inl (cs 3, (n + 1), .inr (.inr (.inr (.inr (va_up f9 n (some r)))))))] ++ tl) H := Eq.mp (congrArg (fun z9 => va_P D vwCl ([(a, .inl (cs 3, n, .inr (.inr (.inr (.inr (rw)))))), (q4, .inl (cs 3, (n + 1), .inr (.inr (.inr (.inr (z9))))))] ++ tl) H) g9) hP
        have hD : va_D _ ([(a, .inl (cs 3, n, .inr (.inr (.inr (.inr (rw)))))), (q4, .inl (cs 3, (n + 1), .inr (.inr (.inr (.inr (va_up f9 n (some r)))))))] ++ tl) := Eq.mp (congrArg (fun z9 => va_D _ ([(a, .inl (cs 3, n, .inr (.inr (.inr (.inr (rw)))))), (q4, .inl (cs 3, (n + 1), .inr (.inr (.inr (.inr (z9))))))] ++ tl)) g9) hD
        refine lv_aload_n hx hb dX3_with_33 rfl (lv_at hl 2 rfl) ?_
        refine W.widen (k := 1) (n := 13) (by omega) (by omega) ?_
        exact wr_aret hQ hx hb hr hlocks (Or.inr ⟨_, rfl⟩) (Or.inr ⟨_, rfl⟩) hP hD hS (hpost _ _ (fun j hj => by show (if j = n then _ else f9 j) = _; rw [if_neg (by omega)]; exact hf9 j (by omega)) (by show (if n = n then _ else _) = _; rw [if_pos rfl])) dX3_with_34
      · have hlt : i < n := by
          rcases Nat.lt_or_ge i n with q | q
          · exact q
          · exact absurd (nI_le q (by omega)) c_1
        refine lv_aload_n hx hb dX3_with_16 rfl (lv_at hl 2 rfl) ?_
        refine lv_iload_n hx hb dX3_with_17 rfl (lv_at hl 3 rfl) ?_
        refine lv_aload_n hx hb dX3_with_18 rfl (lv_at hl 0 rfl) ?_
        refine lv_iload_n hx hb dX3_with_19 rfl (lv_at hl 3 rfl) ?_
        refine aldA hx hb hK hP 0 3 rfl rfl (vp_in_nI hlt (by omega)) dX3_with_20 ?_
        refine lv_rwv (y := .ref (wr i)) (by rw [nI_clamp (by omega), (hw i hlt).2]; rfl) ?_
        refine astA hx hb hT.2.2.2.1.2 hK hP hD hS 1 rfl (List.mem_append_right _ (hw i hlt).1) (vp_in_nI (by omega) (by omega)) dX3_with_21 (fun H locs hP hD hS => ?_)
        have g9 : va_up f9 (nI i).toNatClampNeg (some (wr i)) = va_up f9 i (some (wr i)) := by rw [nI_clamp (by omega)]
        have hP : va_P D vwCl ([(a, .inl (cs 3, n, .inr (.inr (.inr (.inr (rw)))))), (q4, .inl (cs 3, (n + 1), .inr (.inr (.inr (.inr (va_up f9 i (some (wr i))))))))] ++ tl) H := Eq.mp (congrArg (fun z9 => va_P D vwCl ([(a, .inl (cs 3, n, .inr (.inr (.inr (.inr (rw)))))), (q4, .inl (cs 3, (n + 1), .inr (.inr (.inr (.inr (z9))))))] ++ tl) H) g9) hP
        have hD : va_D _ ([(a, .inl (cs 3, n, .inr (.inr (.inr (.inr (rw)))))), (q4, .inl (cs 3, (n + 1), .inr (.inr (.inr (.inr (va_up f9 i (some (wr i))))))))] ++ tl) := Eq.mp (congrArg (fun z9 => va_D _ ([(a, .inl (cs 3, n, .inr (.inr (.inr (.inr (rw)))))), (q4, .inl (cs 3, (n + 1), .inr (.inr (.inr (.inr (z9))))))] ++ tl)) g9) hD
        refine lv_iinc (v := nI (i + 1)) (lv' := [(3, .int (nI (i + 1))), (0, .ref a), (1, .ref r), (2, .ref q4)]) hx hb dX3_with_22 hl (k := 3) rfl (nI_1 i) (by decide) rfl (fun ls hl => ?_)
        refine lv_goto (tgt := 10) hx hb dX3_with_25 (by decide) ?_
        exact ih10 (i + 1) _ H _ ls (by omega) (by omega) (fun j hj => by
            show (if j = i then _ else f9 j) = _
            by_cases z9 : j = i
            · rw [if_pos z9, z9, (hw i hlt).2]
            · rw [if_neg z9]; exact hf9 j (by omega)) hP hD hS (lv_sub hl [1, 2, 3, 0] rfl)
  exact loop10 (n + 1) 0 _ H _ ls (Nat.zero_le _) (by omega) (fun j hj => absurd hj (Nat.not_lt_zero _)) hP hD hS (lv_sub hl [2, 3, 1, 0] rfl)
set_option maxHeartbeats 4000000 in
set_option maxRecDepth 100000 in
theorem s_all (l : Launch) (D : va_G) (cs : Nat → ClassId) (z mi : Nat) (H : Heap) {tl : va_W} {a : Nat} {fn : Nat → Nat} {dn N : Nat} {df : Nat → Int32} (hDN : DN fn dn N) (hdf : ∀ j, j < dn → df j = nI (fn j)) (post : Option Value → va_W → Prop) (hpost : ∀ (q : Nat) (r : Nat → Nat) (G : Nat → Nat → Int32), (∀ o, o < N → ∀ j, j < dn → G o j = nI (fcN fn o j)) → post (some (.ref q)) (rowsW (cs 0) r dn G N ++ ([(a, .inl (cs 0, dn, .inl (df))), (q, .inl (cs 3, N, .inr (.inr (.inr (.inr ((fun i => if i < N then some (r i) else none)))))))] ++ tl))) (hP : va_P D vwCl ([(a, .inl (cs 0, dn, .inl (df)))] ++ tl) H) (hD : va_D (fun _ => True) ([(a, .inl (cs 0, dn, .inl (df)))] ++ tl)) : Ws z mi l D cs 2 1729 6912 yX3_all cX3_all 6 (some (.array (.array .int))) ([(a, .inl (cs 0, dn, .inl (df)))] ++ tl) H [.ref a] post := by
  refine ws_ent (by decide) (Nat.le_of_ble_eq_true rfl) hP hD ?_
  clear hP hD H
  intro p e s m below meth c ls A Q H hx hb hr hml hown hts hlocks hin hl hK hQ hA hH hT hP hD hS
  clear hH
  have hl : lv_has ls 6 [(0, .ref a)] := hl
  obtain ⟨hN1, hN⟩ := hDN.N
  have hDN0 := hDN
  obtain ⟨hd1, hd3, hfn, hz9, -⟩ := hDN0
  have hNd : N * dn ≤ 1728 * 3 := Nat.mul_le_mul hN hd3
  have h12 : ∀ i, i ≤ 3 → pN fn i ≤ 1728 := fun i hi => Nat.le_trans (pN_le hfn i hi).2 (Nat.le_trans (Nat.pow_le_pow_right (by omega) hi) (by decide))
  refine lv_iconst (v := nI (pN fn 0)) hx hb dX3_all_0 (by first | decide | rfl) ?_
  refine lv_istore_n (lv' := [(1, .int (nI (pN fn 0))), (0, .ref a)]) hx hb dX3_all_1 rfl hl (by decide) rfl (fun ls hl => ?_)
  refine lv_aload_n hx hb dX3_all_2 rfl (lv_at hl 1 rfl) ?_
  refine lv_astore_n (lv' := [(2, .ref a), (1, .int (nI (pN fn 0))), (0, .ref a)]) hx hb dX3_all_3 rfl hl (by decide) rfl (fun ls hl => ?_)
  refine lv_aload_n hx hb dX3_all_4 rfl (lv_at hl 0 rfl) ?_
  refine va_alen hx hb hK hP 0 0 rfl rfl (v := nI dn) (rfl) dX3_all_5 ?_
  refine lv_istore_n (lv' := [(3, .int (nI dn)), (2, .ref a), (1, .int (nI (pN fn 0))), (0, .ref a)]) hx hb dX3_all_6 rfl hl (by decide) rfl (fun ls hl => ?_)
  refine lv_iconst (v := nI 0) hx hb dX3_all_7 (by first | decide | rfl) ?_
  refine lv_istore (lv' := [(4, .int (nI 0)), (3, .int (nI dn)), (2, .ref a), (1, .int (nI (pN fn 0))), (0, .ref a)]) hx hb dX3_all_8 hl (by decide) rfl (fun ls hl => ?_)
  have loop10 : ∀ (n9 : Nat) (i : Nat) (H : Heap) (locs : List Loc) (ls : Array Slot), i ≤ dn → dn + 1 ≤ i + n9 → va_P D vwCl ([(a, .inl (cs 0, dn, .inl (df)))] ++ tl) H → va_D A ([(a, .inl (cs 0, dn, .inl (df)))] ++ tl) → va_S A s.heap H locs → lv_has ls 6 [(0, .ref a), (1, .int (nI (pN fn i))), (2, .ref a), (3, .int (nI dn)), (4, .int (nI i))] → W p l e (rmL 2 1729 6912) s m [.ref a].toArray below meth c H locs (0) (0) Q (F0 m 10 ls []) := by
    intro n9
    induction n9 with
    | zero => intro i  H locs ls hi hfu hP hD hS hl; exact absurd hfu (by omega)
    | succ n9 ih10 =>
      intro i  H locs ls hi hfu hP hD hS hl
      refine lv_iload hx hb dX3_all_10 (lv_at hl 4 rfl) ?_
      refine lv_iload_n hx hb dX3_all_12 rfl (lv_at hl 3 rfl) ?_
      refine lv_icmp_ge (tgt := 33) hx hb dX3_all_13 (by decide) (fun c_1 => ?_) (fun c_1 => ?_)
      · have hl : lv_has ls 6 [(0, .ref a), (1, .int (nI N))] := by rw [← pN_dn hDN, show dn = i from by have g := (nI_leI (by omega) (by omega)).mp c_1; omega]; exact lv_sub hl [0, 1] rfl
        refine lv_iload_n hx hb dX3_all_33 rfl (lv_at hl 1 rfl) ?_
        refine lv_aload_n hx hb dX3_all_34 rfl (lv_at hl 0 rfl) ?_
        refine va_alen hx hb hK hP 0 0 rfl rfl (v := nI dn) (rfl) dX3_all_35 ?_
        refine nwM (N' := N) (K' := dn) hx hb hown (hts (Cond.classLink RX3 32 "[[I") mw_4_7) hT.2.2.2.1.2 (hts (Cond.arrayClass .int) mw_1_4) hK hP hD hS hA (nI_pos (by omega)) (nI_pos (by omega)) (nI_clamp (by omega)) (nI_clamp (by omega)) (by omega) (by omega) (show 0 + (1 + N) ≤ 1729 by omega) (show 0 + (N + N * dn) ≤ 6912 by omega) dX3_all_36 (fun q36 r36 H hP hD hS => ?_)
        have hP : va_P D vwCl (rowsW (cs 0) r36 dn ((fun _ _ => 0)) N ++ ([(a, .inl (cs 0, dn, .inl (df))), (q36, .inl (cs 3, N, .inr (.inr (.inr (.inr ((fun i => if i < N then some (r36 i) else none)))))))] ++ tl)) H := vaP_perm (pmB _ _ _ _) hP
        have hD : va_D _ (rowsW (cs 0) r36 dn ((fun _ _ => 0)) N ++ ([(a, .inl (cs 0, dn, .inl (df))), (q36, .inl (cs 3, N, .inr (.inr (.inr (.inr ((fun i => if i < N then some (r36 i) else none)))))))] ++ tl)) := vaD_perm (pmB _ _ _ _) hD
        refine lv_astore_n (lv' := [(2, .ref q36), (0, .ref a), (1, .int (nI N))]) hx hb dX3_all_40 rfl hl (by decide) rfl (fun ls hl => ?_)
        refine lv_iconst (v := nI 0) hx hb dX3_all_41 (by first | decide | rfl) ?_
        refine lv_istore_n (lv' := [(3, .int (nI 0)), (2, .ref q36), (0, .ref a), (1, .int (nI N))]) hx hb dX3_all_42 rfl hl (by decide) rfl (fun ls hl => ?_)
        have loop43 : ∀ (n9 : Nat) (i : Nat) (G9 : Nat → Nat → Int32) (H : Heap) (locs : List Loc) (ls : Array Slot), i ≤ dn → dn + 1 ≤ i + n9 → (∀ j9, j9 < i → G9 0 j9 = nI 1) → va_P D vwCl (rowsW (cs 0) r36 dn G9 N ++ ([(a, .inl (cs 0, dn, .inl (df))), (q36, .inl (cs 3, N, .inr (.inr (.inr (.inr ((fun i => if i < N then some (r36 i) else none)))))))] ++ tl)) H → va_D A (rowsW (cs 0) r36 dn G9 N ++ ([(a, .inl (cs 0, dn, .inl (df))), (q36, .inl (cs 3, N, .inr (.inr (.inr (.inr ((fun i => if i < N then some (r36 i) else none)))))))] ++ tl)) → va_S A s.heap H locs → lv_has ls 6 [(0, .ref a), (1, .int (nI N)), (2, .ref q36), (3, .int (nI i))] → W p l e (rmL 2 1729 6912) s m [.ref a].toArray below meth c H locs (0 + 1 + N) (0 + N + N * dn) Q (F0 m 43 ls []) := by
          intro n9
          induction n9 with
          | zero => intro i  G9  H locs ls hi hfu hG0 hP hD hS hl; exact absurd hfu (by omega)
          | succ n9 ih43 =>
            intro i  G9  H locs ls hi hfu hG0 hP hD hS hl
            refine lv_iload_n hx hb dX3_all_43 rfl (lv_at hl 3 rfl) ?_
            refine lv_aload_n hx hb dX3_all_44 rfl (lv_at hl 0 rfl) ?_
            refine va_alen hx hb hK hP (N + 0) 0 ((rows_tl 0).trans rfl) rfl (v := nI dn) (rfl) dX3_all_45 ?_
            refine lv_icmp_ge (tgt := 61) hx hb dX3_all_46 (by decide) (fun c_2 => ?_) (fun c_2 => ?_)
            · refine lv_iconst (v := nI (0 + 1)) hx hb dX3_all_61 (by first | decide | rfl) ?_
              refine lv_istore_n (lv' := [(3, .int (nI (0 + 1))), (0, .ref a), (1, .int (nI N)), (2, .ref q36)]) hx hb dX3_all_62 rfl hl (by decide) rfl (fun ls hl => ?_)
              have loop63 : ∀ (n9 : Nat) (o : Nat) (G9 : Nat → Nat → Int32) (H : Heap) (locs : List Loc) (ls : Array Slot), o + 1 ≤ N → N + 1 ≤ o + n9 → (∀ o9, o9 < o + 1 → ∀ j9, j9 < dn → G9 o9 j9 = nI (fcN fn o9 j9)) → va_P D vwCl (rowsW (cs 0) r36 dn G9 N ++ ([(a, .inl (cs 0, dn, .inl (df))), (q36, .inl (cs 3, N, .inr (.inr (.inr (.inr ((fun i => if i < N then some (r36 i) else none)))))))] ++ tl)) H → va_D A (rowsW (cs 0) r36 dn G9 N ++ ([(a, .inl (cs 0, dn, .inl (df))), (q36, .inl (cs 3, N, .inr (.inr (.inr (.inr ((fun i => if i < N then some (r36 i) else none)))))))] ++ tl)) → va_S A s.heap H locs → lv_has ls 6 [(0, .ref a), (1, .int (nI N)), (2, .ref q36), (3, .int (nI (o + 1)))] → W p l e (rmL 2 1729 6912) s m [.ref a].toArray below meth c H locs (0 + 1 + N) (0 + N + N * dn) Q (F0 m 63 ls []) := by
                intro n9
                induction n9 with
                | zero => intro o  G9  H locs ls h2 hfu hGo hP hD hS hl; exact absurd hfu (by omega)
                | succ n9 ih63 =>
                  intro o  G9  H locs ls h2 hfu hGo hP hD hS hl
                  refine lv_iload_n hx hb dX3_all_63 rfl (lv_at hl 3 rfl) ?_
                  refine lv_iload_n hx hb dX3_all_64 rfl (lv_at hl 1 rfl) ?_
                  refine lv_icmp_ge (tgt := 154) hx hb dX3_all_65 (by decide) (fun c_3 => ?_) (fun c_3 => ?_)
                  · refine lv_aload_n hx hb dX3_all_154 rfl (lv_at hl 2 rfl) ?_
                    refine W.widen (k := 1729) (n := 6912) (by omega) (by omega) ?_
                    exact wr_aret hQ hx hb hr hlocks (Or.inr ⟨_, rfl⟩) (Or.inr ⟨_, rfl⟩) hP hD hS (hpost _ _ _ (fun o9 h9 j9 hj9 => hGo o9 (by have g := (nI_leI (by omega) (by omega)).mp c_3; omega) j9 hj9)) dX3_all_155
                  · have ho9 : o + 1 < N := by
                      rcases Nat.lt_or_ge (o + 1) N with q | q
                      · exact q
                      · exact absurd (nI_le q (by omega)) c_3
                    refine lv_aload_n hx hb dX3_all_68 rfl (lv_at hl 0 rfl) ?_
                    refine va_alen hx hb hK hP (N + 0) 0 ((rows_tl 0).trans rfl) rfl (v := nI dn) (rfl) dX3_all_69 ?_
                    refine lv_iconst (v := nI 1) hx hb dX3_all_70 (by first | decide | rfl) ?_
                    refine lv_isub hx hb dX3_all_71 ?_
                    refine lv_rwi (y := nI (dn - 1)) (pk_sub (by omega)) ?_
                    refine lv_istore (lv' := [(4, .int (nI (dn - 1))), (0, .ref a), (1, .int (nI N)), (2, .ref q36), (3, .int (nI (o + 1)))]) hx hb dX3_all_72 hl (by decide) rfl (fun ls hl => ?_)
                    have loop74 : ∀ (n9 : Nat) (d : Nat) (G9 : Nat → Nat → Int32) (H : Heap) (locs : List Loc) (ls : Array Slot), d < dn → d + 1 ≤ n9 → (∀ o9, o9 < o + 1 → ∀ j9, j9 < dn → G9 o9 j9 = nI (fcN fn o9 j9)) → (∀ j9, d < j9 → j9 < dn → fcN fn o j9 = fn j9) → (∀ j9, d < j9 → j9 < dn → G9 (o + 1) j9 = nI 1) → va_P D vwCl (rowsW (cs 0) r36 dn G9 N ++ ([(a, .inl (cs 0, dn, .inl (df))), (q36, .inl (cs 3, N, .inr (.inr (.inr (.inr ((fun i => if i < N then some (r36 i) else none)))))))] ++ tl)) H → va_D A (rowsW (cs 0) r36 dn G9 N ++ ([(a, .inl (cs 0, dn, .inl (df))), (q36, .inl (cs 3, N, .inr (.inr (.inr (.inr ((fun i => if i < N then some (r36 i) else none)))))))] ++ tl)) → va_S A s.heap H locs → lv_has ls 6 [(0, .ref a), (1, .int (nI N)), (2, .ref q36), (3, .int (nI (o + 1))), (4, .int (nI d))] → W p l e (rmL 2 1729 6912) s m [.ref a].toArray below meth c H locs (0 + 1 + N) (0 + N + N * dn) Q (F0 m 74 ls []) := by
                      intro n9
                      induction n9 with
                      | zero => intro d  G9  H locs ls hdd hfu2 hGo hld h1s hP hD hS hl; exact absurd hfu2 (by omega)
                      | succ n9 ih74 =>
                        intro d  G9  H locs ls hdd hfu2 hGo hld h1s hP hD hS hl
                        refine lv_aload_n hx hb dX3_all_74 rfl (lv_at hl 2 rfl) ?_
                        refine lv_iload_n hx hb dX3_all_75 rfl (lv_at hl 3 rfl) ?_
                        refine lv_iconst (v := 1) hx hb dX3_all_76 (by first | decide | rfl) ?_
                        refine lv_isub hx hb dX3_all_77 ?_
                        refine lv_rwi (y := nI o) (nI_pred o) ?_
                        refine aldA hx hb hK hP (N + 1) 3 ((rows_tl 1).trans rfl) rfl (vp_in_nI (by omega) (by omega)) dX3_all_78 ?_
                        refine lv_rwv (y := .ref (r36 o)) (by rw [nI_clamp (by omega)]; show va_rf (if _ < N then _ else _) = _; rw [if_pos (by omega)]; rfl) ?_
                        refine lv_iload hx hb dX3_all_79 (lv_at hl 4 rfl) ?_
                        refine va_iald hx hb hK hP o 0 (rows_at (by omega)) rfl (vp_in_nI (by omega) (by omega)) dX3_all_81 ?_
                        refine lv_rwi (y := nI (fcN fn o d)) (by rw [nI_clamp (by omega)]; exact hGo o (by omega) d (by omega)) ?_
                        refine lv_aload_n hx hb dX3_all_82 rfl (lv_at hl 0 rfl) ?_
                        refine lv_iload hx hb dX3_all_83 (lv_at hl 4 rfl) ?_
                        refine va_iald hx hb hK hP (N + 0) 0 ((rows_tl 0).trans rfl) rfl (vp_in_nI (by omega) (by omega)) dX3_all_85 ?_
                        refine lv_rwi (y := nI (fn d)) (by rw [nI_clamp (by omega)]; exact hdf d (by omega)) ?_
                        refine lv_icmp_ne (tgt := 102) hx hb dX3_all_86 (by decide) (fun c_4 => ?_) (fun c_4 => ?_)
                        · have gd : fcN fn o d ≠ fn d := fun z9 => c_4 (congrArg nI z9)
                          refine lv_aload_n hx hb dX3_all_102 rfl (lv_at hl 2 rfl) ?_
                          refine lv_iload_n hx hb dX3_all_103 rfl (lv_at hl 3 rfl) ?_
                          refine aldA hx hb hK hP (N + 1) 3 ((rows_tl 1).trans rfl) rfl (vp_in_nI (by omega) (by omega)) dX3_all_104 ?_
                          refine lv_rwv (y := .ref (r36 (o + 1))) (by rw [nI_clamp (by omega)]; show va_rf (if _ < N then _ else _) = _; rw [if_pos (by omega)]; rfl) ?_
                          refine lv_iload hx hb dX3_all_105 (lv_at hl 4 rfl) ?_
                          refine lv_aload_n hx hb dX3_all_107 rfl (lv_at hl 2 rfl) ?_
                          refine lv_iload_n hx hb dX3_all_108 rfl (lv_at hl 3 rfl) ?_
                          refine lv_iconst (v := 1) hx hb dX3_all_109 (by first | decide | rfl) ?_
                          refine lv_isub hx hb dX3_all_110 ?_
                          refine lv_rwi (y := nI o) (nI_pred o) ?_
                          refine aldA hx hb hK hP (N + 1) 3 ((rows_tl 1).trans rfl) rfl (vp_in_nI (by omega) (by omega)) dX3_all_111 ?_
                          refine lv_rwv (y := .ref (r36 o)) (by rw [nI_clamp (by omega)]; show va_rf (if _ < N then _ else _) = _; rw [if_pos (by omega)]; rfl) ?_
                          refine lv_iload hx hb dX3_all_112 (lv_at hl 4 rfl) ?_
                          refine va_iald hx hb hK hP o 0 (rows_at (by omega)) rfl (vp_in_nI (by omega) (by omega)) dX3_all_114 ?_
                          refine lv_rwi (y := nI (fcN fn o d)) (by rw [nI_clamp (by omega)]; exact hGo o (by omega) d (by omega)) ?_
                          refine lv_iconst (v := 1) hx hb dX3_all_115 (by first | decide | rfl) ?_
                          refine lv_iadd hx hb dX3_all_116 ?_
                          refine lv_rwi (y := nI (fcN fn o d + 1)) (nI_1 _) ?_
                          refine va_iast hx hb hK hP hD hS (o + 1) 0 (rows_at (by omega)) rfl (vp_in_nI (by omega) (by omega)) dX3_all_117 (fun H locs hP hD hS => ?_)
                          rw [rows_set (by omega)] at hP hD
                          obtain ⟨G117, eG117⟩ : ∃ g9 : Nat → Nat → Int32, g9 = upG G9 (o + 1) (upd (G9 (o + 1)) (nI d).toNatClampNeg (nI (fcN fn o d + 1))) := ⟨_, rfl⟩
                          rw [← eG117] at hP hD
                          rw [nI_clamp (by omega)] at eG117
                          have hP : va_P D vwCl (rowsW (cs 0) r36 dn G117 N ++ ([(a, .inl (cs 0, dn, .inl (df))), (q36, .inl (cs 3, N, .inr (.inr (.inr (.inr ((fun i => if i < N then some (r36 i) else none)))))))] ++ tl)) H := hP
                          have hD : va_D _ (rowsW (cs 0) r36 dn G117 N ++ ([(a, .inl (cs 0, dn, .inl (df))), (q36, .inl (cs 3, N, .inr (.inr (.inr (.inr ((fun i => if i < N then some (r36 i) else none)))))))] ++ tl)) := hD
                          refine lv_iconst (v := nI 0) hx hb dX3_all_118 (by first | decide | rfl) ?_
                          refine lv_istore (lv' := [(5, .int (nI 0)), (0, .ref a), (1, .int (nI N)), (2, .ref q36), (3, .int (nI (o + 1))), (4, .int (nI d))]) hx hb dX3_all_119 hl (by decide) rfl (fun ls hl => ?_)
                          have loop121 : ∀ (n9 : Nat) (k : Nat) (G9 : Nat → Nat → Int32) (H : Heap) (locs : List Loc) (ls : Array Slot), k ≤ d → d + 1 ≤ k + n9 → (∀ o9, o9 < o + 1 → ∀ j9, j9 < dn → G9 o9 j9 = nI (fcN fn o9 j9)) → (∀ j9, d < j9 → j9 < dn → G9 (o + 1) j9 = nI 1) → G9 (o + 1) d = nI (fcN fn o d + 1) → (∀ j9, j9 < k → G9 (o + 1) j9 = nI (fcN fn o j9)) → va_P D vwCl (rowsW (cs 0) r36 dn G9 N ++ ([(a, .inl (cs 0, dn, .inl (df))), (q36, .inl (cs 3, N, .inr (.inr (.inr (.inr ((fun i => if i < N then some (r36 i) else none)))))))] ++ tl)) H → va_D A (rowsW (cs 0) r36 dn G9 N ++ ([(a, .inl (cs 0, dn, .inl (df))), (q36, .inl (cs 3, N, .inr (.inr (.inr (.inr ((fun i => if i < N then some (r36 i) else none)))))))] ++ tl)) → va_S A s.heap H locs → lv_has ls 6 [(0, .ref a), (1, .int (nI N)), (2, .ref q36), (3, .int (nI (o + 1))), (4, .int (nI d)), (5, .int (nI k))] → W p l e (rmL 2 1729 6912) s m [.ref a].toArray below meth c H locs (0 + 1 + N) (0 + N + N * dn) Q (F0 m 121 ls []) := by
                            intro n9
                            induction n9 with
                            | zero => intro k  G9  H locs ls hk9 hfu3 hGo h1s hGd hGk hP hD hS hl; exact absurd hfu3 (by omega)
                            | succ n9 ih121 =>
                              intro k  G9  H locs ls hk9 hfu3 hGo h1s hGd hGk hP hD hS hl
                              refine lv_iload hx hb dX3_all_121 (lv_at hl 5 rfl) ?_
                              refine lv_iload hx hb dX3_all_123 (lv_at hl 4 rfl) ?_
                              refine lv_icmp_ge (tgt := 148) hx hb dX3_all_125 (by decide) (fun c_5 => ?_) (fun c_5 => ?_)
                              · refine lv_iinc (v := nI (o + 1 + 1)) (lv' := [(3, .int (nI (o + 1 + 1))), (0, .ref a), (1, .int (nI N)), (2, .ref q36), (4, .int (nI d)), (5, .int (nI k))]) hx hb dX3_all_148 hl (k := 3) rfl (nI_1 _) (by decide) rfl (fun ls hl => ?_)
                                refine lv_goto (tgt := 63) hx hb dX3_all_151 (by decide) ?_
                                exact ih63 (o + 1) G9 H _ ls (by omega) (by omega) (fun o9 h9 j9 hj9 => by
                                    rcases Nat.lt_or_ge o9 (o + 1) with q | q
                                    · exact hGo o9 q j9 hj9
                                    · have eo : o9 = o + 1 := by omega
                                      rw [eo, odo_s hDN ho9 hdd hld gd j9 hj9]
                                      have gk : d ≤ k := (nI_leI (by omega) (by omega)).mp c_5
                                      rcases Nat.lt_trichotomy j9 d with y | y | y
                                      · rw [if_pos y]; exact hGk j9 (by omega)
                                      · rw [if_neg (by omega), if_pos y, y]; exact hGd
                                      · rw [if_neg (by omega), if_neg (by omega)]; exact h1s j9 y hj9) hP hD hS (lv_sub hl [1, 2, 3, 0] rfl)
                              · have hkd : k < d := by
                                  rcases Nat.lt_or_ge k d with q | q
                                  · exact q
                                  · exact absurd (nI_le q (by omega)) c_5
                                refine lv_aload_n hx hb dX3_all_128 rfl (lv_at hl 2 rfl) ?_
                                refine lv_iload_n hx hb dX3_all_129 rfl (lv_at hl 3 rfl) ?_
                                refine aldA hx hb hK hP (N + 1) 3 ((rows_tl 1).trans rfl) rfl (vp_in_nI (by omega) (by omega)) dX3_all_130 ?_
                                refine lv_rwv (y := .ref (r36 (o + 1))) (by rw [nI_clamp (by omega)]; show va_rf (if _ < N then _ else _) = _; rw [if_pos (by omega)]; rfl) ?_
                                refine lv_iload hx hb dX3_all_131 (lv_at hl 5 rfl) ?_
                                refine lv_aload_n hx hb dX3_all_133 rfl (lv_at hl 2 rfl) ?_
                                refine lv_iload_n hx hb dX3_all_134 rfl (lv_at hl 3 rfl) ?_
                                refine lv_iconst (v := 1) hx hb dX3_all_135 (by first | decide | rfl) ?_
                                refine lv_isub hx hb dX3_all_136 ?_
                                refine lv_rwi (y := nI o) (nI_pred o) ?_
                                refine aldA hx hb hK hP (N + 1) 3 ((rows_tl 1).trans rfl) rfl (vp_in_nI (by omega) (by omega)) dX3_all_137 ?_
                                refine lv_rwv (y := .ref (r36 o)) (by rw [nI_clamp (by omega)]; show va_rf (if _ < N then _ else _) = _; rw [if_pos (by omega)]; rfl) ?_
                                refine lv_iload hx hb dX3_all_138 (lv_at hl 5 rfl) ?_
                                refine va_iald hx hb hK hP o 0 (rows_at (by omega)) rfl (vp_in_nI (by omega) (by omega)) dX3_all_140 ?_
                                refine lv_rwi (y := nI (fcN fn o k)) (by rw [nI_clamp (by omega)]; exact hGo o (by omega) k (by omega)) ?_
                                refine va_iast hx hb hK hP hD hS (o + 1) 0 (rows_at (by omega)) rfl (vp_in_nI (by omega) (by omega)) dX3_all_141 (fun H locs hP hD hS => ?_)
                                rw [rows_set (by omega)] at hP hD
                                obtain ⟨G141, eG141⟩ : ∃ g9 : Nat → Nat → Int32, g9 = upG G9 (o + 1) (upd (G9 (o + 1)) (nI k).toNatClampNeg (nI (fcN fn o k))) := ⟨_, rfl⟩
                                rw [← eG141] at hP hD
                                rw [nI_clamp (by omega)] at eG141
                                have hP : va_P D vwCl (rowsW (cs 0) r36 dn G141 N ++ ([(a, .inl (cs 0, dn, .inl (df))), (q36, .inl (cs 3, N, .inr (.inr (.inr (.inr ((fun i => if i < N then some (r36 i) else none)))))))] ++ tl)) H := hP
                                have hD : va_D _ (rowsW (cs 0) r36 dn G141 N ++ ([(a, .inl (cs 0, dn, .inl (df))), (q36, .inl (cs 3, N, .inr (.inr (.inr (.inr ((fun i => if i < N then some (r36 i) else none)))))))] ++ tl)) := hD
                                refine lv_iinc (v := nI (k + 1)) (lv' := [(5, .int (nI (k + 1))), (0, .ref a), (1, .int (nI N)), (2, .ref q36), (3, .int (nI (o + 1))), (4, .int (nI d))]) hx hb dX3_all_142 hl (k := 5) rfl (nI_1 k) (by decide) rfl (fun ls hl => ?_)
                                refine lv_goto (tgt := 121) hx hb dX3_all_145 (by decide) ?_
                                exact ih121 (k + 1) G141 H _ ls (by omega) (by omega) (fun o9 h9 j9 hj9 => by rw [eG141, upG_n (by omega)]; exact hGo o9 h9 j9 hj9) (fun j9 a9 b9 => by rw [eG141, upG_s, pk_un (by omega)]; exact h1s j9 a9 b9) (by rw [eG141, upG_s, pk_un (by omega)]; exact hGd) (fun j9 hj9 => by
                                    rw [eG141, upG_s]
                                    rcases Nat.lt_or_ge j9 k with q | q
                                    · rw [pk_un (by omega)]; exact hGk j9 q
                                    · rw [show j9 = k by omega, pk_us]) hP hD hS (lv_sub hl [1, 2, 3, 4, 5, 0] rfl)
                          exact loop121 (d + 1) 0 G117 H _ ls (by omega) (by omega) (fun o9 h9 j9 hj9 => by rw [eG117, upG_n (by omega)]; exact hGo o9 h9 j9 hj9) (fun j9 a9 b9 => by rw [eG117, upG_s, pk_un (by omega)]; exact h1s j9 a9 b9) (by rw [eG117, upG_s, pk_us]) (fun j9 hj9 => absurd hj9 (Nat.not_lt_zero _)) hP hD hS (lv_sub hl [1, 2, 3, 4, 5, 0] rfl)
                        · have gd : fcN fn o d = fn d := (nI_eq (by have g := fcN_le hfn o (d := d) (by omega); omega) (by have g := hfn d (by omega); omega)).mp c_4
                          obtain ⟨d1, rfl⟩ : ∃ d1, d = d1 + 1 := ⟨d - 1, by
                            rcases Nat.eq_zero_or_pos d with q | q
                            · subst q
                              exact absurd (fun j9 hj9 => by
                                rcases Nat.eq_zero_or_pos j9 with y | y
                                · rw [y]; exact gd
                                · exact hld j9 y hj9) (odo_top hDN ho9)
                            · omega⟩
                          refine lv_aload_n hx hb dX3_all_89 rfl (lv_at hl 2 rfl) ?_
                          refine lv_iload_n hx hb dX3_all_90 rfl (lv_at hl 3 rfl) ?_
                          refine aldA hx hb hK hP (N + 1) 3 ((rows_tl 1).trans rfl) rfl (vp_in_nI (by omega) (by omega)) dX3_all_91 ?_
                          refine lv_rwv (y := .ref (r36 (o + 1))) (by rw [nI_clamp (by omega)]; show va_rf (if _ < N then _ else _) = _; rw [if_pos (by omega)]; rfl) ?_
                          refine lv_iload hx hb dX3_all_92 (lv_at hl 4 rfl) ?_
                          refine lv_iconst (v := nI 1) hx hb dX3_all_94 (by first | decide | rfl) ?_
                          refine va_iast hx hb hK hP hD hS (o + 1) 0 (rows_at (by omega)) rfl (vp_in_nI (by omega) (by omega)) dX3_all_95 (fun H locs hP hD hS => ?_)
                          rw [rows_set (by omega)] at hP hD
                          obtain ⟨G95, eG95⟩ : ∃ g9 : Nat → Nat → Int32, g9 = upG G9 (o + 1) (upd (G9 (o + 1)) (nI (d1 + 1)).toNatClampNeg (nI 1)) := ⟨_, rfl⟩
                          rw [← eG95] at hP hD
                          rw [nI_clamp (by omega)] at eG95
                          have hP : va_P D vwCl (rowsW (cs 0) r36 dn G95 N ++ ([(a, .inl (cs 0, dn, .inl (df))), (q36, .inl (cs 3, N, .inr (.inr (.inr (.inr ((fun i => if i < N then some (r36 i) else none)))))))] ++ tl)) H := hP
                          have hD : va_D _ (rowsW (cs 0) r36 dn G95 N ++ ([(a, .inl (cs 0, dn, .inl (df))), (q36, .inl (cs 3, N, .inr (.inr (.inr (.inr ((fun i => if i < N then some (r36 i) else none)))))))] ++ tl)) := hD
                          refine lv_iinc (v := nI d1) (lv' := [(4, .int (nI d1)), (0, .ref a), (1, .int (nI N)), (2, .ref q36), (3, .int (nI (o + 1)))]) hx hb dX3_all_96 hl (k := 4) rfl (pk_m1 d1) (by decide) rfl (fun ls hl => ?_)
                          refine lv_goto (tgt := 74) hx hb dX3_all_99 (by decide) ?_
                          exact ih74 d1 G95 H _ ls (by omega) (by omega) (fun o9 h9 j9 hj9 => by rw [eG95, upG_n (by omega)]; exact hGo o9 h9 j9 hj9) (fun j9 a9 b9 => by
                              rcases Nat.lt_or_ge (d1 + 1) j9 with q | q
                              · exact hld j9 q b9
                              · rw [show j9 = d1 + 1 by omega]; exact gd) (fun j9 a9 b9 => by
                              rw [eG95, upG_s]
                              rcases Nat.lt_or_ge (d1 + 1) j9 with q | q
                              · rw [pk_un (by omega)]; exact h1s j9 q b9
                              · rw [show j9 = d1 + 1 by omega, pk_us]) hP hD hS (lv_sub hl [1, 2, 3, 4, 0] rfl)
                    exact loop74 dn (dn - 1) _ H _ ls (by omega) (by omega) hGo (fun j9 a9 b9 => by omega) (fun j9 a9 b9 => by omega) hP hD hS (lv_sub hl [1, 2, 3, 4, 0] rfl)
              exact loop63 (N + 1) 0 _ H _ ls (by omega) (by omega) (fun o9 h9 j9 hj9 => by rw [show o9 = 0 by omega, odo_0 hfn (by omega)]; exact hG0 j9 (by have g := (nI_leI (by omega) (by omega)).mp c_2; omega)) hP hD hS (lv_sub hl [1, 2, 3, 0] rfl)
            · have hlt : i < dn := by
                rcases Nat.lt_or_ge i dn with q | q
                · exact q
                · exact absurd (nI_le q (by omega)) c_2
              refine lv_aload_n hx hb dX3_all_49 rfl (lv_at hl 2 rfl) ?_
              refine lv_iconst (v := nI 0) hx hb dX3_all_50 (by first | decide | rfl) ?_
              refine aldA hx hb hK hP (N + 1) 3 ((rows_tl 1).trans rfl) rfl (vp_in_nI (by omega) (by omega)) dX3_all_51 ?_
              refine lv_rwv (y := .ref (r36 0)) (by rw [nI_clamp (by omega)]; show va_rf (if _ < N then _ else _) = _; rw [if_pos (by omega)]; rfl) ?_
              refine lv_iload_n hx hb dX3_all_52 rfl (lv_at hl 3 rfl) ?_
              refine lv_iconst (v := nI 1) hx hb dX3_all_53 (by first | decide | rfl) ?_
              refine va_iast hx hb hK hP hD hS 0 0 (rows_at (by omega)) rfl (vp_in_nI (by omega) (by omega)) dX3_all_54 (fun H locs hP hD hS => ?_)
              rw [rows_set (by omega)] at hP hD
              obtain ⟨G54, eG54⟩ : ∃ g9 : Nat → Nat → Int32, g9 = upG G9 0 (upd (G9 0) (nI i).toNatClampNeg (nI 1)) := ⟨_, rfl⟩
              rw [← eG54] at hP hD
              rw [nI_clamp (by omega)] at eG54
              have hP : va_P D vwCl (rowsW (cs 0) r36 dn G54 N ++ ([(a, .inl (cs 0, dn, .inl (df))), (q36, .inl (cs 3, N, .inr (.inr (.inr (.inr ((fun i => if i < N then some (r36 i) else none)))))))] ++ tl)) H := hP
              have hD : va_D _ (rowsW (cs 0) r36 dn G54 N ++ ([(a, .inl (cs 0, dn, .inl (df))), (q36, .inl (cs 3, N, .inr (.inr (.inr (.inr ((fun i => if i < N then some (r36 i) else none)))))))] ++ tl)) := hD
              refine lv_iinc (v := nI (i + 1)) (lv' := [(3, .int (nI (i + 1))), (0, .ref a), (1, .int (nI N)), (2, .ref q36)]) hx hb dX3_all_55 hl (k := 3) rfl (nI_1 i) (by decide) rfl (fun ls hl => ?_)
              refine lv_goto (tgt := 43) hx hb dX3_all_58 (by decide) ?_
              exact ih43 (i + 1) G54 H _ ls (by omega) (by omega) (fun j9 hj9 => by
                  rw [eG54, upG_s]
                  rcases Nat.lt_or_ge j9 i with q | q
                  · rw [pk_un (by omega)]; exact hG0 j9 q
                  · rw [show j9 = i by omega, pk_us]) hP hD hS (lv_sub hl [1, 2, 3, 0] rfl)
        exact loop43 (dn + 1) 0 _ H _ ls (Nat.zero_le _) (by omega) (fun j9 hj9 => absurd hj9 (Nat.not_lt_zero _)) hP hD hS (lv_sub hl [2, 3, 1, 0] rfl)
      · have hlt : i < dn := by
          rcases Nat.lt_or_ge i dn with q | q
          · exact q
          · exact absurd (nI_le q (by omega)) c_1
        refine lv_aload_n hx hb dX3_all_16 rfl (lv_at hl 2 rfl) ?_
        refine lv_iload hx hb dX3_all_17 (lv_at hl 4 rfl) ?_
        refine va_iald hx hb hK hP 0 0 rfl rfl (vp_in_nI hlt (by omega)) dX3_all_19 ?_
        refine lv_rwi (y := nI (fn i)) (by rw [nI_clamp (by omega)]; exact hdf i hlt) ?_
        refine lv_istore (lv' := [(5, .int (nI (fn i))), (0, .ref a), (1, .int (nI (pN fn i))), (2, .ref a), (3, .int (nI dn)), (4, .int (nI i))]) hx hb dX3_all_20 hl (by decide) rfl (fun ls hl => ?_)
        refine lv_iload_n hx hb dX3_all_22 rfl (lv_at hl 2 rfl) ?_
        refine lv_iload hx hb dX3_all_23 (lv_at hl 0 rfl) ?_
        refine lv_imul hx hb dX3_all_25 ?_
        refine lv_rwi (y := nI (pN fn (i + 1))) (pk_mul _ _) ?_
        refine lv_istore_n (lv' := [(1, .int (nI (pN fn (i + 1)))), (5, .int (nI (fn i))), (0, .ref a), (2, .ref a), (3, .int (nI dn)), (4, .int (nI i))]) hx hb dX3_all_26 rfl hl (by decide) rfl (fun ls hl => ?_)
        refine lv_iinc (v := nI (i + 1)) (lv' := [(4, .int (nI (i + 1))), (1, .int (nI (pN fn (i + 1)))), (5, .int (nI (fn i))), (0, .ref a), (2, .ref a), (3, .int (nI dn))]) hx hb dX3_all_27 hl (k := 5) rfl (nI_1 i) (by decide) rfl (fun ls hl => ?_)
        refine lv_goto (tgt := 10) hx hb dX3_all_30 (by decide) ?_
        exact ih10 (i + 1) H _ ls (by omega) (by omega) hP hD hS (lv_sub hl [3, 1, 4, 5, 0] rfl)
  exact loop10 (dn + 1) 0 H _ ls (Nat.zero_le _) (by omega) hP hD hS (lv_sub hl [4, 3, 2, 1, 0] rfl)
