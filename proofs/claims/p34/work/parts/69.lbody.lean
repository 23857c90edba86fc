/-! the law: one round of its loop; rows by program -/
set_option maxHeartbeats 4000000 in
set_option maxRecDepth 100000 in
theorem L_acts {p : Program} {l : Launch} {e : Env} {s : State} {m : MethodId} {b : Nat} {below : List Frame} {meth : Method} {c : Code} {ls : Array Slot} {Q : State → Prop} {H : Heap} {locs : List Loc} {ce sl L : Nat} {xs : Nat → Int32} {D : va_G} {cs : Nat → ClassId} {z mi : Nat} {a1 s0 K t : Nat} {w : va_W} (CC : LC p l s m c b L xs D cs z mi (FrH s.heap)) (hce : ce + 6000 ≤ 600074) (hsl : sl + 30000 ≤ 7301550) (ht : t < 5) (hK90 : K ≤ 90) (hI : JI cs z a1 s0 K w) (hl : lv_has ls 27 [(0, .ref b), (1, .ref a1), (2, .ref s0), (3, .int (nI t))]) (hP : va_P D vwCl w H) (hD : va_D (FrH s.heap) w) (hS : va_S (FrH s.heap) s.heap H locs) (kk : ∀ (w1 : va_W) (H1 : Heap) (locs1 : List Loc) (ls1 : Array Slot), JI cs z a1 s0 (K + 3) w1 → va_P D vwCl w1 H1 → va_D (FrH s.heap) w1 → va_S (FrH s.heap) s.heap H1 locs1 → lv_has ls1 27 [(0, .ref b), (1, .ref a1), (2, .ref s0), (3, .int (nI t)), (4, .int (((cellw xs L (t + 1)) >>> (2 &&& 31) + 53 * nI t)))] → W p l e room_1 s m #[Value.ref b] below meth c H1 locs1 (ce + 1740 * 3) (sl + 7000 * 3) Q (F0 m 81 ls1 [])) : W p l e room_1 s m #[Value.ref b] below meth c H locs ce sl Q (F0 m 22 ls []) := by
  obtain ⟨hx, hb, hml, hown, hts, hK, hT, hR, hA, hX, hbl, hbA, hL, hl9, hNW⟩ := id CC
  have hA : ∀ q : Nat, s.heap.size ≤ q → FrH s.heap q := hA
  refine lv_iload_n hx hb dL_law_22 rfl (lv_at hl 3 rfl) ?_
  refine lv_iconst (v := nI 5) hx hb dL_law_23 (by first | decide | rfl) ?_
  refine lv_icmp_ge (tgt := 1073) hx hb dL_law_24 (by decide) (fun c_1 => False.elim (absurd c_1 (nI_ge ht (by omega)))) (fun c_1 => ?_)
  refine lv_aload_n hx hb dL_law_27 rfl (lv_at hl 0 rfl) ?_
  refine lv_iload_n hx hb dL_law_28 rfl (lv_at hl 3 rfl) ?_
  refine lv_iconst (v := 1) hx hb dL_law_29 (by first | decide | rfl) ?_
  refine lv_iadd hx hb dL_law_30 ?_
  refine lv_rwi (y := nI (t + 1)) (nI_1 t) ?_
  refine rcS (b := b) (L := L) (xs := xs) (As := [.ref b, .int (nI (t + 1))]) (rest := []) ⟨hx, hb, hml, hown, hts⟩ hK (hX.kept (hS.2.1 b hbl hbA)) 2 (s_cell l D cs H (t + 1) (by omega) (by omega)) (gin_s mw_4_8 mw_4_9 mw_3_13 mw_4_10) (by decide +kernel) ⟨Nat.le_of_ble_eq_true rfl, Nat.le_of_ble_eq_true rfl⟩ rfl hl.1 rfl (Nat.le_of_ble_eq_true rfl) dL_law_31 ⟨(show _ ≤ 600074 by omega), (show _ ≤ 7301550 by omega)⟩ ?_
  refine W.eq (g2 := F0 m 34 ls [.int (cellw xs L (t + 1))]) rfl ?_
  refine lv_iconst (v := 2) hx hb dL_law_34 (by first | decide | rfl) ?_
  refine lv_ishr hx hb dL_law_35 ?_
  refine lv_bipush (v := 53) hx hb dL_law_36 (by first | decide | rfl) ?_
  refine lv_iload_n hx hb dL_law_38 rfl (lv_at hl 3 rfl) ?_
  refine lv_imul hx hb dL_law_39 ?_
  refine lv_iadd hx hb dL_law_40 ?_
  refine lv_istore (lv' := [(4, .int (((cellw xs L (t + 1)) >>> (2 &&& 31)) + (53 * (nI t)))), (0, .ref b), (1, .ref a1), (2, .ref s0), (3, .int (nI t))]) hx hb dL_law_41 hl (by decide) rfl (fun ls hl => ?_)
  refine lv_iconst (v := nI 0) hx hb dL_law_43 (by first | decide | rfl) ?_
  refine lv_istore (lv' := [(5, .int (nI 0)), (4, .int (((cellw xs L (t + 1)) >>> (2 &&& 31)) + (53 * (nI t)))), (0, .ref b), (1, .ref a1), (2, .ref s0), (3, .int (nI t))]) hx hb dL_law_44 hl (by decide) rfl (fun ls hl => ?_)
  have loop46 : ∀ (n9 : Nat) (i : Nat) (w9 : va_W) (H : Heap) (locs : List Loc) (ls : Array Slot), i ≤ 3 → 4 ≤ i + n9 → JI cs z a1 s0 (K + i) w9 → va_P D vwCl (w9) H → va_D (FrH s.heap) (w9) → va_S (FrH s.heap) s.heap H locs → lv_has ls 27 [(0, .ref b), (1, .ref a1), (2, .ref s0), (3, .int (nI t)), (4, .int (((cellw xs L (t + 1)) >>> (2 &&& 31) + 53 * nI t))), (5, .int (nI i))] → W p l e room_1 s m [.ref b].toArray below meth c H locs (ce + 1740 * i) (sl + 7000 * i) Q (F0 m 46 ls []) := by
    intro n9
    induction n9 with
    | zero => intro i  w9  H locs ls hi hfu hw hP hD hS hl; exact absurd hfu (by omega)
    | succ n9 ih46 =>
      intro i  w9  H locs ls hi hfu hw hP hD hS hl
      refine lv_iload hx hb dL_law_46 (lv_at hl 5 rfl) ?_
      refine lv_iconst (v := nI 3) hx hb dL_law_48 (by first | decide | rfl) ?_
      refine lv_icmp_ge (tgt := 81) hx hb dL_law_49 (by decide) (fun c_2 => ?_) (fun c_2 => ?_)
      · have e3 : i = 3 := by { have g := (nI_leI (by omega) (by omega)).mp c_2; omega }
        subst e3
        exact kk w9 H _ ls hw hP hD hS (lv_sub hl [0, 1, 2, 3, 4] rfl)
      · have hlt : i < 3 := by
          rcases Nat.lt_or_ge i 3 with q | q
          · exact q
          · exact absurd (nI_le q (by omega)) c_2
        refine lv_aload_n hx hb dL_law_52 rfl (lv_at hl 1 rfl) ?_
        refine lv_aload_n hx hb dL_law_53 rfl (lv_at hl 2 rfl) ?_
        refine lv_iload hx hb dL_law_54 (lv_at hl 4 rfl) ?_
        refine lv_iconst (v := 3) hx hb dL_law_56 (by first | decide | rfl) ?_
        refine lv_iload hx hb dL_law_57 (lv_at hl 5 rfl) ?_
        refine lv_imul hx hb dL_law_59 ?_
        refine lv_ishr hx hb dL_law_60 ?_
        refine lv_bipush (v := 29) hx hb dL_law_61 (by first | decide | rfl) ?_
        refine lv_iload hx hb dL_law_63 (lv_at hl 5 rfl) ?_
        refine lv_imul hx hb dL_law_65 ?_
        refine lv_iadd hx hb dL_law_66 ?_
        refine whS (As := [.ref a1, .ref s0, .int (((((cellw xs L (t + 1)) >>> (2 &&& 31) + 53 * nI t)) >>> ((3 * (nI i)) &&& 31)) + (29 * (nI i)))]) (rest := []) ⟨hx, hb, hml, hown, hts⟩ hT hR hK 3 (act_c l hl9 D cs z mi H (((((cellw xs L (t + 1)) >>> (2 &&& 31) + 53 * nI t)) >>> ((3 * (nI i)) &&& 31)) + (29 * (nI i))) (by omega) hw (fun ov w1 => ov = some (.int 1) ∧ JI cs z a1 s0 ((K + i) + 1) w1) (fun w1 h1 => ⟨rfl, h1⟩) hP (hD.weaken (fun _ _ _ _ => trivial))) (gin_h mw_4_16 mw_4_17 mw_3_13 mw_4_18) (by decide +kernel) ⟨Nat.le_of_ble_eq_true rfl, Nat.le_of_ble_eq_true rfl⟩ rfl hl.1 rfl (Nat.le_of_ble_eq_true rfl) dL_law_67 ⟨(show _ ≤ 600074 by omega), (show _ ≤ 7301550 by omega)⟩ hD hS hA (fun ov9 w2 H locs hp9 hP hD hS => ?_)
        obtain ⟨rfl, hw2⟩ := hp9
        refine W.eq (g2 := F0 m 70 ls [.int 1]) rfl ?_
        refine lv_if_ne (tgt := 75) hx hb dL_law_70 (by decide) (fun c_3 => ?_) (fun c_3 => False.elim (absurd c_3 (by decide)))
        refine lv_iinc (v := nI (i + 1)) (lv' := [(5, .int (nI (i + 1))), (0, .ref b), (1, .ref a1), (2, .ref s0), (3, .int (nI t)), (4, .int (((cellw xs L (t + 1)) >>> (2 &&& 31) + 53 * nI t)))]) hx hb dL_law_75 hl (k := 5) rfl (nI_1 i) (by decide) rfl (fun ls hl => ?_)
        refine lv_goto (tgt := 46) hx hb dL_law_78 (by decide) ?_
        refine W.widen (k := ce + 1740 * (i + 1)) (n := sl + 7000 * (i + 1)) (by omega) (by omega) ?_
        exact ih46 (i + 1) w2 H _ ls (by omega) (by omega) hw2 hP hD hS (lv_sub hl [1, 2, 3, 4, 5, 0] rfl)
  exact loop46 4 0 w H _ ls (Nat.zero_le _) (by omega) hI hP hD hS (lv_sub hl [2, 3, 4, 5, 1, 0] rfl)
set_option maxHeartbeats 4000000 in
set_option maxRecDepth 100000 in
theorem L_body {p : Program} {l : Launch} {e : Env} {s : State} {m : MethodId} {b : Nat} {below : List Frame} {meth : Method} {c : Code} {ls : Array Slot} {Q : State → Prop} {H : Heap} {locs : List Loc} {ce sl L : Nat} {xs : Nat → Int32} {D : va_G} {cs : Nat → ClassId} {z mi : Nat} {a1 s0 k t : Nat} {x : Int32} {w : va_W} (CC : LC p l s m c b L xs D cs z mi (FrH s.heap)) (hce : ce + 1000 ≤ 600074) (hsl : sl + 5000 ≤ 7301550) (hk : k ≤ 90) (hI : JI cs z a1 s0 k w) (hl : lv_has ls 27 [(0, .ref b), (1, .ref a1), (2, .ref s0), (3, .int (nI t)), (4, .int x)]) (hP : va_P D vwCl w H) (hD : va_D (FrH s.heap) w) (hS : va_S (FrH s.heap) s.heap H locs)
    (kk : ∀ (w1 : va_W) (H1 : Heap) (locs1 : List Loc) (ls1 : Array Slot) (ce1 sl1 : Nat), JI cs z a1 s0 (k + 1) w1 → va_P D vwCl w1 H1 → va_D (FrH s.heap) w1 → va_S (FrH s.heap) s.heap H1 locs1 → ce1 ≤ ce + 100 → sl1 ≤ sl + 500 → lv_has ls1 27 [(0, .ref b), (1, .ref a1), (2, .ref s0), (3, .int (nI t))] → W p l e room_1 s m #[Value.ref b] below meth c H1 locs1 ce1 sl1 Q (F0 m 1067 ls1 [])) : W p l e room_1 s m #[Value.ref b] below meth c H locs ce sl Q (F0 m 81 ls []) := by
  obtain ⟨ad, sa, bank, rnds, cnt, mcn, f1, f2, f3, dn, N, n, cap, fn, su, fa, pu, df, pv, rf, wa, wf, rs, rw, sr, wr, sf, wg, EL, T, rfl, rfl, hJ, rfl⟩ := hI
  obtain ⟨hN1, hN, hn12⟩ := hJ.N1
  have hJ0 := hJ
  obtain ⟨hDC, hla, hW9, hpv9, hcnt, -, hT9, hF9, hmon, hbd⟩ := hJ0
  refine L_has (rnds := rnds) (mcn := mcn) (df := df) CC (by omega) (by omega) hJ hl hP hD hS ?_
  clear hl hP hD hS
  intro qh hs H locs ls hhs hP hD hS hl
  have RR0 := JF.rx (rnds := rnds) (mcn := mcn) hJ hP (fun q hq => List.mem_append_right [_] (mem_jwx (sa := sa) (df := df) (pv := pv) (dn := dn) (rs := rs) (rw := rw) hq))
  have hH := wr_left hP
  have hP := tl_P hP
  have hD := wr_rightD hD
  have hbeh : ∀ p9, p9 < 6 → ∀ o, ∃ v v', pu p9 = nI v ∧ BX su fa pu wf n p9 o = nI v' ∧ v ≤ v' ∧ v' < 2 ^ 31 := fun p9 hp o => by
    obtain ⟨v, ev, hv⟩ := hbd p9 hp
    obtain ⟨v', e', h1, h2⟩ := beh_nat hW9 ev (p := nI p9) (o := o) n (Nat.le_refl n)
    exact ⟨v, v', ev, e', h1, by omega⟩
  refine L_pat CC.lx (by omega) (by omega) RR0 hN1 hN hn12 hH hhs (fun p9 hp h => ?_) (fun p9 hp h => ?_) ?_ hl ?_
  · obtain ⟨o, ho, eo⟩ := mnX_mem (BX su fa pu wf n p9) (N - 1)
    obtain ⟨v, v', ev, e', h1, h2⟩ := hbeh p9 hp o
    rw [eo, e', ev] at h
    exact nI_nlt h1 h2 h
  · have hc : ∀ o, BX su fa pu wf n p9 o = pu p9 := fun o => hasF_no n h
    exact ⟨decide_eq_true (fun o ho => (hc o).trans (hc 0).symm), mnX_const (fun o ho => hc o)⟩
  · rw [← hmon]
    grind
  clear hl
  intro ls hl
  refine L_num CC.lx (by omega) (by omega) RR0 hN1 hN hn12 hDC hla hl ?_
  clear hl
  intro ls hl
  refine L_out CC.lx (by omega) (by omega) RR0 hN1 hN hn12 hW9 hl ?_
  clear hl
  intro ls hl
  refine L_wag CC.lx (by omega) (by omega) RR0 hN1 hN hn12 hW9 hl ?_
  clear hl
  intro ls hl
  refine L_pur CC.lx (by omega) (by omega) RR0 hN1 hN hn12 hl ?_
  clear hl
  intro ls hl
  obtain ⟨k9, ek9, hk9⟩ : ∃ o, blw (x >>> (3 &&& 31)) 10 = o ∧ o < 10 := ⟨_, rfl, blw_lt _ (by omega)⟩
  obtain ⟨q9, eq9, hq9⟩ : ∃ o, blw (x >>> (5 &&& 31)) 20 = o ∧ o < 20 := ⟨_, rfl, blw_lt _ (by omega)⟩
  obtain ⟨b9, eb9, hb1, hb2⟩ : ∃ o, 1 + blw (x >>> (6 &&& 31)) 10 = o ∧ 1 ≤ o ∧ o ≤ 10 := ⟨_, rfl, by omega, by have g := blw_lt (x >>> (6 &&& 31)) (n := 10) (by omega); omega⟩
  refine L_fair CC.lx (by omega) (by omega) RR0 hN1 hN hn12 rfl ek9 eq9 eb9 hk9 hq9 hb1 hb2 hl ?_
  clear hl
  intro ls hl
  refine L_try (rnds := rnds) (mcn := mcn) (df := df) CC (by omega) (by omega) hJ (by omega) rfl hk9 (by omega) hb1 hb2 hl hP hD hS ?_
  clear hl hP hD hS hH RR0 hmon hbd hbeh hhs hDC hla hW9 hpv9 hcnt hT9 hF9 hJ
  intro w1 H locs ls ce1 sl1 hJN hP hD hS hce1 hsl1 hl
  generalize ad 0 = a1 at *
  generalize sa 0 = s0 at *
  obtain ⟨ad, sa, bank, rnds, cnt, mcn, f1, f2, f3, dn, n, cap, fn, su, fa, pu, df, pv, rf, wa, wf, rs, rw, sr, wr, sf, wg, EL, T, rfl, rfl, hJ, rfl⟩ := hJN
  have hLT := hJ.2.2.2.2.2.1
  rcases hLT with ⟨rfl, rfl, e6, rfl⟩ | ⟨hc9, hnc, rfl, hLT⟩
  · refine L_thr0 (n := 0) (cap := 0) (EL := []) (rnds := rnds) (mcn := mcn) (df := df) CC (by omega) (by omega) hJ (by omega) e6 hl hP hD hS ?_
    intro w2 H2 locs2 ls2 ce2 sl2 hI2 hP2 hD2 hS2 hce2 hsl2 hl2
    exact kk w2 H2 locs2 ls2 ce2 sl2 hI2 hP2 hD2 hS2 (by omega) (by omega) hl2
  · refine L_thr1 (EL := []) (rnds := rnds) (mcn := mcn) (df := df) CC (by omega) (by omega) hJ (by omega) hc9 hnc hLT hl (vaP_perm (List.Perm.append_left (wX cs ad bank rnds cnt mcn N n su fa pu) (pm1 (wS cs sa bank rnds dn N n df pv rs rw) [wE cs ad cap rf] T)) hP) (vaD_perm (List.Perm.append_left (wX cs ad bank rnds cnt mcn N n su fa pu) (pm1 (wS cs sa bank rnds dn N n df pv rs rw) [wE cs ad cap rf] T)) hD) hS ?_
    intro w2 H2 locs2 ls2 ce2 sl2 hI2 hP2 hD2 hS2 hce2 hsl2 hl2
    exact kk w2 H2 locs2 ls2 ce2 sl2 hI2 hP2 hD2 hS2 (by omega) (by omega) hl2
