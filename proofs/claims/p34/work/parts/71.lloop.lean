/-! the law's loop over its rounds -/
set_option maxHeartbeats 4000000 in
set_option maxRecDepth 100000 in
theorem L_loop {p : Program} {l : Launch} {e : Env} {s : State} {m : MethodId} {b : Nat} {below : List Frame} {meth : Method} {c : Code} {L : Nat} {xs : Nat → Int32} {D : va_G} {cs : Nat → ClassId} {z mi : Nat} {a1 s0 : Nat} (hr : meth.sig.returnType = ret) (hlocks : meth.locks = false) (CC : LC p l s m c b L xs D cs z mi (FrH s.heap)) : ∀ (f t ce sl : Nat) (w : va_W) (H : Heap) (locs : List Loc) (ls : Array Slot), 6 ≤ t + f → t ≤ 5 → ce ≤ 50000 + 6000 * t → sl ≤ 200000 + 30000 * t → JI cs z a1 s0 (20 + 4 * t) w → va_P D vwCl w H → va_D (FrH s.heap) w → va_S (FrH s.heap) s.heap H locs → lv_has ls 27 [(0, .ref b), (1, .ref a1), (2, .ref s0), (3, .int (nI t))] → W p l e room_1 s m #[Value.ref b] below meth c H locs ce sl (lw_Z below #[Value.ref b] s) (F0 m 22 ls [])
  | 0, t, _, _, _, _, _, _, h, ht, _, _, _, _, _, _, _ => absurd h (by omega)
  | f + 1, t, ce, sl, w, H, locs, ls, h, ht, hce, hsl, hI, hP, hD, hS, hl => by
    obtain ⟨hx, hb, hml, hown, hts, hK, hT, hR, hA, hX, hbl, hbA, hL, hl9, hNW⟩ := id CC
    by_cases h5 : t < 5
    · refine L_acts CC (by omega) (by omega) h5 (by omega) hI hl hP hD hS ?_
      clear hI hl hP hD hS
      intro w H locs ls hI hP hD hS hl
      refine L_body CC (by omega) (by omega) (by omega) hI hl hP hD hS ?_
      clear hI hl hP hD hS
      intro w H locs ls ce1 sl1 hI hP hD hS hce1 hsl1 hl
      refine lv_iinc (v := nI (t + 1)) (lv' := [(3, .int (nI (t + 1))), (0, .ref b), (1, .ref a1), (2, .ref s0)]) hx hb dL_law_1067 hl (k := 3) rfl (nI_1 t) (by decide) rfl (fun ls hl => ?_)
      refine lv_goto (tgt := 22) hx hb dL_law_1070 (by decide) ?_
      exact L_loop hr hlocks CC f (t + 1) ce1 sl1 w H locs ls (by omega) (by omega) (by omega) (by omega) (JI.mono hI (by omega)) hP hD hS (lv_sub hl [1, 2, 3, 0] rfl)
    · have h5 : t = 5 := by omega
      subst h5
      obtain ⟨ad, sa, bank, rnds, cnt, mcn, f1, f2, f3, dn, N, n, cap, fn, su, fa, pu, df, pv, rf, wa, wf, rs, rw, sr, wr, sf, wg, EL, T, rfl, rfl, hJ, rfl⟩ := hI
      obtain ⟨hN1, hN, hn12⟩ := hJ.N1
      have hJ0 := hJ
      obtain ⟨hDC, hla, hW9, hpv9, hcnt, -, -, -, -, -⟩ := hJ0
      have RR0 := JF.rx (rnds := rnds) (mcn := mcn) hJ hP (fun q hq => mem_jwx (sa := sa) (df := df) (pv := pv) (dn := dn) (rs := rs) (rw := rw) hq)
      have SS0 := JF.rsx (sa := sa) (bank := bank) (rnds := rnds) (df := df) hJ hP (fun q hq => mem_jws (ad := ad) (cnt := cnt) (mcn := mcn) (su := su) (fa := fa) (pu := pu) (EL := EL) hq)
      refine lv_iload_n hx hb dL_law_22 rfl (lv_at hl 3 rfl) ?_
      refine lv_iconst (v := nI 5) hx hb dL_law_23 (by first | decide | rfl) ?_
      refine lv_icmp_ge (tgt := 1073) hx hb dL_law_24 (by decide) (fun c_1 => ?_) (fun c_1 => False.elim (absurd c_1 (by decide)))
      refine lv_aload_n hx hb dL_law_1073 rfl (lv_at hl 2 rfl) ?_
      refine lv_aload_n hx hb dL_law_1074 rfl (lv_at hl 1 rfl) ?_
      have hea : EdF N (sm (goX N wf) n) := by
        have g := gos_bd hN hn12 hW9
        exact edF hN1 hN ⟨by omega, by omega⟩
      have hed : ∀ i, i < n → EdF N (goX N wf i) := fun i hi => by
        have g := go_bd hN hW9 hi
        exact edF hN1 hN ⟨by omega, by omega⟩
      refine rdV (As := [.ref (ad 0)]) (rest := []) (b := sa 0) ⟨hx, hb, hml, hown, hts⟩ hK 1 (s_isSame l D cs H RR0 SS0 hpv9 hcnt (fun i hi => jc_edge hDC hla hW9 hi) hed hea) (gin_v mw_20_9 mw_20_10 mw_20_11 mw_3_17 mw_20_12) (by decide +kernel) ⟨Nat.le_of_ble_eq_true rfl, Nat.le_of_ble_eq_true rfl⟩ (va_recv hK SS0.1 (ci := 4) (q0 := 0) rfl rfl) rfl hl.1 rfl (Nat.le_of_ble_eq_true rfl) dL_law_1075 ⟨(show _ ≤ 600074 by omega), (show _ ≤ 7301550 by omega)⟩ ?_
      refine W.eq (g2 := F0 m 1078 ls [.int 1]) rfl ?_
      refine va_forget (fun q hq => hS.2.2 q hq) ?_
      refine W.widen (k := 600074) (n := 7301550) (by omega) (by omega) ?_
      exact lw_ret hx hb hr hlocks dL_law_1078
