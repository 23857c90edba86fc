/-! the law: which case, and the loop; by program -/
section Law
variable {p : Program} {l : Launch} {e : Env} {s : State} {m : MethodId} {b : Nat} {below : List Frame} {meth : Method} {c : Code} {H : Heap} {locs : List Loc} {cells slots ce sl : Nat} {Q : State → Prop} {L : Nat} {xs : Nat → Int32} {D : va_G} {cs : Nat → ClassId} {z mi : Nat} {A : Nat → Prop} {a1 a2 oo od i : Nat} {ls : Array Slot}
variable {am ad : Nat → Nat} {bank rnds th cnt mcn : Int32} {f1 f2 f3 dn N n cap : Nat} {fn : Nat → Nat} {fc puM wh kn nm sk br ht sg su fa puX : Nat → Int32} {rf : Nat → Option Nat} {wa : Nat → Nat} {wf : Nat → Nat → Int32} {fo : Nat → Int64} {fd : Nat → UInt64} {T : va_W}
set_option maxHeartbeats 4000000 in
set_option maxRecDepth 100000 in
theorem L_disp (CC : LC p l s m c b L xs D cs z mi A) (hI : IV D cs z A s.heap a1 a2 oo od H locs) (hl : lv_has ls 9 (LL b a1 a2 oo od i)) (hi : i + 7 ≤ L) (hrm : cells + 4 ≤ 601024 ∧ slots + 64 ≤ 7293034) (k : LK p l e s m b below meth c Q D cs z A a1 a2 oo od i cells slots) : W p l e room_1 s m #[Value.ref b] below meth c H locs cells slots Q (F0 m 38 ls []) := by
  obtain ⟨am, ad, bank, rnds, th, cnt, mcn, f1, f2, f3, dn, N, n, cap, fn, fc, puM, wh, kn, nm, sk, br, ht, sg, su, fa, puX, rf, wa, wf, fo, fd, T, h1, h2, hF, hP, hD, hS⟩ := hI
  obtain ⟨hx, hb, hml, hown, hts, hT, hR, hK, hA, hX, hbl, hbA, hL, hl9⟩ := id CC
  refine lv_aload_n hx hb dL_law_38 rfl (lv_at hl 5 rfl) ?_
  refine lv_iload hx hb dL_law_39 (lv_at hl 0 rfl) ?_
  refine va_sld hx hb hX hbl hbA hS (nI_in (show i < L by omega) (show L < 2 ^ 31 by omega)) dL_law_41 ?_
  refine lv_bipush (v := 31) hx hb dL_law_42 (by first | decide | rfl) ?_
  refine lv_iand hx hb dL_law_44 ?_
  obtain ⟨t, ht, et⟩ := pk_andE (xs (nI i).toNatClampNeg) 5 (m := 31) (by decide)
  refine lv_rwi (y := nI t) et ?_
  clear et
  have ht : t < 32 := ht
  by_cases h31 : t = 31
  · subst h31
    exact lv_tableOut (tgt := 1603) hx hb dL_law_45 (Or.inr (by rw [nI_toInt (by omega)]; omega)) (by decide) (L_k CC k h1 h2 hF hP hD hS (Nat.le_add_right _ 4) (Nat.le_add_right _ 64) hl)
  · have q : t < 31 := by omega
    clear ht h31
    rcases (show t = 0 ∨ t = 1 ∨ t = 2 ∨ t = 3 ∨ t = 4 ∨ t = 5 ∨ t = 6 ∨ t = 7 ∨ t = 8 ∨ t = 9 ∨ t = 10 ∨ t = 11 ∨ t = 12 ∨ t = 13 ∨ t = 14 ∨ t = 15 ∨ t = 16 ∨ t = 17 ∨ t = 18 ∨ t = 19 ∨ t = 20 ∨ t = 21 ∨ t = 22 ∨ t = 23 ∨ t = 24 ∨ t = 25 ∨ t = 26 ∨ t = 27 ∨ t = 28 ∨ t = 29 ∨ t = 30 by omega) with rfl | rfl | rfl | rfl | rfl | rfl | rfl | rfl | rfl | rfl | rfl | rfl | rfl | rfl | rfl | rfl | rfl | rfl | rfl | rfl | rfl | rfl | rfl | rfl | rfl | rfl | rfl | rfl | rfl | rfl | rfl
    · exact lv_tableIn (off := 139) (tgt := 184) hx hb dL_law_45 (by rw [nI_toInt (by omega)]; omega) (by rw [nI_toInt (by omega)]; omega) (by rw [nI_toInt (by omega)]; rfl) (by decide) (L_c0 CC h1 h2 hF hP hD hS hl hi hrm k)
    · exact lv_tableIn (off := 219) (tgt := 264) hx hb dL_law_45 (by rw [nI_toInt (by omega)]; omega) (by rw [nI_toInt (by omega)]; omega) (by rw [nI_toInt (by omega)]; rfl) (by decide) (L_c1 CC h1 h2 hF hP hD hS hl hi hrm k)
    · exact lv_tableIn (off := 232) (tgt := 277) hx hb dL_law_45 (by rw [nI_toInt (by omega)]; omega) (by rw [nI_toInt (by omega)]; omega) (by rw [nI_toInt (by omega)]; rfl) (by decide) (L_c2 CC h1 h2 hF hP hD hS hl hi hrm k)
    · exact lv_tableIn (off := 245) (tgt := 290) hx hb dL_law_45 (by rw [nI_toInt (by omega)]; omega) (by rw [nI_toInt (by omega)]; omega) (by rw [nI_toInt (by omega)]; rfl) (by decide) (L_c3 CC h1 h2 hF hP hD hS hl hi hrm k)
    · exact lv_tableIn (off := 301) (tgt := 346) hx hb dL_law_45 (by rw [nI_toInt (by omega)]; omega) (by rw [nI_toInt (by omega)]; omega) (by rw [nI_toInt (by omega)]; rfl) (by decide) (L_c4 CC h1 h2 hF hP hD hS hl hi hrm k)
    · exact lv_tableIn (off := 369) (tgt := 414) hx hb dL_law_45 (by rw [nI_toInt (by omega)]; omega) (by rw [nI_toInt (by omega)]; omega) (by rw [nI_toInt (by omega)]; rfl) (by decide) (L_c5 CC h1 h2 hF hP hD hS hl hi hrm k)
    · exact lv_tableIn (off := 458) (tgt := 503) hx hb dL_law_45 (by rw [nI_toInt (by omega)]; omega) (by rw [nI_toInt (by omega)]; omega) (by rw [nI_toInt (by omega)]; rfl) (by decide) (L_c6 CC h1 h2 hF hP hD hS hl hi hrm k)
    · exact lv_tableIn (off := 576) (tgt := 621) hx hb dL_law_45 (by rw [nI_toInt (by omega)]; omega) (by rw [nI_toInt (by omega)]; omega) (by rw [nI_toInt (by omega)]; rfl) (by decide) (L_c7 CC h1 h2 hF hP hD hS hl hi hrm k)
    · exact lv_tableIn (off := 632) (tgt := 677) hx hb dL_law_45 (by rw [nI_toInt (by omega)]; omega) (by rw [nI_toInt (by omega)]; omega) (by rw [nI_toInt (by omega)]; rfl) (by decide) (L_c8 CC h1 h2 hF hP hD hS hl hi hrm k)
    · exact lv_tableIn (off := 688) (tgt := 733) hx hb dL_law_45 (by rw [nI_toInt (by omega)]; omega) (by rw [nI_toInt (by omega)]; omega) (by rw [nI_toInt (by omega)]; rfl) (by decide) (L_c9 CC h1 h2 hF hP hD hS hl hi hrm k)
    · exact lv_tableIn (off := 701) (tgt := 746) hx hb dL_law_45 (by rw [nI_toInt (by omega)]; omega) (by rw [nI_toInt (by omega)]; omega) (by rw [nI_toInt (by omega)]; rfl) (by decide) (L_c10 CC h1 h2 hF hP hD hS hl hi hrm k)
    · exact lv_tableIn (off := 714) (tgt := 759) hx hb dL_law_45 (by rw [nI_toInt (by omega)]; omega) (by rw [nI_toInt (by omega)]; omega) (by rw [nI_toInt (by omega)]; rfl) (by decide) (L_c11 CC h1 h2 hF hP hD hS hl hi hrm k)
    · exact lv_tableIn (off := 727) (tgt := 772) hx hb dL_law_45 (by rw [nI_toInt (by omega)]; omega) (by rw [nI_toInt (by omega)]; omega) (by rw [nI_toInt (by omega)]; rfl) (by decide) (L_c12 CC h1 h2 hF hP hD hS hl hi hrm k)
    · exact lv_tableIn (off := 783) (tgt := 828) hx hb dL_law_45 (by rw [nI_toInt (by omega)]; omega) (by rw [nI_toInt (by omega)]; omega) (by rw [nI_toInt (by omega)]; rfl) (by decide) (L_c13 CC h1 h2 hF hP hD hS hl hi hrm k)
    · exact lv_tableIn (off := 839) (tgt := 884) hx hb dL_law_45 (by rw [nI_toInt (by omega)]; omega) (by rw [nI_toInt (by omega)]; omega) (by rw [nI_toInt (by omega)]; rfl) (by decide) (L_c14 CC h1 h2 hF hP hD hS hl hi hrm k)
    · exact lv_tableIn (off := 895) (tgt := 940) hx hb dL_law_45 (by rw [nI_toInt (by omega)]; omega) (by rw [nI_toInt (by omega)]; omega) (by rw [nI_toInt (by omega)]; rfl) (by decide) (L_c15 CC h1 h2 hF hP hD hS hl hi hrm k)
    · exact lv_tableIn (off := 951) (tgt := 996) hx hb dL_law_45 (by rw [nI_toInt (by omega)]; omega) (by rw [nI_toInt (by omega)]; omega) (by rw [nI_toInt (by omega)]; rfl) (by decide) (L_c16 CC h1 h2 hF hP hD hS hl hi hrm k)
    · exact lv_tableIn (off := 964) (tgt := 1009) hx hb dL_law_45 (by rw [nI_toInt (by omega)]; omega) (by rw [nI_toInt (by omega)]; omega) (by rw [nI_toInt (by omega)]; rfl) (by decide) (L_c17 CC h1 h2 hF hP hD hS hl hi hrm k)
    · exact lv_tableIn (off := 1020) (tgt := 1065) hx hb dL_law_45 (by rw [nI_toInt (by omega)]; omega) (by rw [nI_toInt (by omega)]; omega) (by rw [nI_toInt (by omega)]; rfl) (by decide) (L_c18 CC h1 h2 hF hP hD hS hl hi hrm k)
    · exact lv_tableIn (off := 1076) (tgt := 1121) hx hb dL_law_45 (by rw [nI_toInt (by omega)]; omega) (by rw [nI_toInt (by omega)]; omega) (by rw [nI_toInt (by omega)]; rfl) (by decide) (L_c19 CC h1 h2 hF hP hD hS hl hi hrm k)
    · exact lv_tableIn (off := 1089) (tgt := 1134) hx hb dL_law_45 (by rw [nI_toInt (by omega)]; omega) (by rw [nI_toInt (by omega)]; omega) (by rw [nI_toInt (by omega)]; rfl) (by decide) (L_c20 CC h1 h2 hF hP hD hS hl hi hrm k)
    · exact lv_tableIn (off := 1102) (tgt := 1147) hx hb dL_law_45 (by rw [nI_toInt (by omega)]; omega) (by rw [nI_toInt (by omega)]; omega) (by rw [nI_toInt (by omega)]; rfl) (by decide) (L_c21 CC h1 h2 hF hP hD hS hl hi hrm k)
    · exact lv_tableIn (off := 1115) (tgt := 1160) hx hb dL_law_45 (by rw [nI_toInt (by omega)]; omega) (by rw [nI_toInt (by omega)]; omega) (by rw [nI_toInt (by omega)]; rfl) (by decide) (L_c22 CC h1 h2 hF hP hD hS hl hi hrm k)
    · exact lv_tableIn (off := 1171) (tgt := 1216) hx hb dL_law_45 (by rw [nI_toInt (by omega)]; omega) (by rw [nI_toInt (by omega)]; omega) (by rw [nI_toInt (by omega)]; rfl) (by decide) (L_c23 CC h1 h2 hF hP hD hS hl hi hrm k)
    · exact lv_tableIn (off := 1184) (tgt := 1229) hx hb dL_law_45 (by rw [nI_toInt (by omega)]; omega) (by rw [nI_toInt (by omega)]; omega) (by rw [nI_toInt (by omega)]; rfl) (by decide) (L_c24 CC h1 h2 hF hP hD hS hl hi hrm k)
    · exact lv_tableIn (off := 1197) (tgt := 1242) hx hb dL_law_45 (by rw [nI_toInt (by omega)]; omega) (by rw [nI_toInt (by omega)]; omega) (by rw [nI_toInt (by omega)]; rfl) (by decide) (L_c25 CC h1 h2 hF hP hD hS hl hi hrm k)
    · exact lv_tableIn (off := 1265) (tgt := 1310) hx hb dL_law_45 (by rw [nI_toInt (by omega)]; omega) (by rw [nI_toInt (by omega)]; omega) (by rw [nI_toInt (by omega)]; rfl) (by decide) (L_c26 CC h1 h2 hF hP hD hS hl hi hrm k)
    · exact lv_tableIn (off := 1321) (tgt := 1366) hx hb dL_law_45 (by rw [nI_toInt (by omega)]; omega) (by rw [nI_toInt (by omega)]; omega) (by rw [nI_toInt (by omega)]; rfl) (by decide) (L_c27 CC h1 h2 hF hP hD hS hl hi hrm k)
    · exact lv_tableIn (off := 1384) (tgt := 1429) hx hb dL_law_45 (by rw [nI_toInt (by omega)]; omega) (by rw [nI_toInt (by omega)]; omega) (by rw [nI_toInt (by omega)]; rfl) (by decide) (L_c28 CC h1 h2 hF hP hD hS hl hi hrm k)
    · exact lv_tableIn (off := 1464) (tgt := 1509) hx hb dL_law_45 (by rw [nI_toInt (by omega)]; omega) (by rw [nI_toInt (by omega)]; omega) (by rw [nI_toInt (by omega)]; rfl) (by decide) (L_c29 CC h1 h2 hF hP hD hS hl hi hrm k)
    · exact lv_tableIn (off := 1544) (tgt := 1589) hx hb dL_law_45 (by rw [nI_toInt (by omega)]; omega) (by rw [nI_toInt (by omega)]; omega) (by rw [nI_toInt (by omega)]; rfl) (by decide) (L_c30 CC h1 h2 hF hP hD hS hl hi hrm k)
set_option maxHeartbeats 4000000 in
set_option maxRecDepth 100000 in
theorem L_loop (hr : meth.sig.returnType = ret) (hlocks : meth.locks = false) (CC : LC p l s m c b L xs D cs z mi (FrH s.heap)) : ∀ (f i ce sl : Nat) (H : Heap) (locs : List Loc) (ls : Array Slot), L < i + f → i ≤ L → ce ≤ 100 + 4 * i → sl ≤ 30000 + 64 * i → IV D cs z (FrH s.heap) s.heap a1 a2 oo od H locs → lv_has ls 9 (LL b a1 a2 oo od i) → W p l e room_1 s m #[Value.ref b] below meth c H locs ce sl (lw_Z below #[Value.ref b] s) (F0 m 28 ls [])
  | 0, i, _, _, _, _, _, h, hi, _, _, _, _ => absurd h (by omega)
  | f + 1, i, ce, sl, H, locs, ls, h, hi, hce, hsl, hI, hl => by
    obtain ⟨hx, hb, hml, hown, hts, hT, hR, hK, hA, hX, hbl, hbA, hL, hl9⟩ := id CC
    have hS : va_S (FrH s.heap) s.heap H locs := by
      obtain ⟨am, ad, bank, rnds, th, cnt, mcn, f1, f2, f3, dn, N, n, cap, fn, fc, puM, wh, kn, nm, sk, br, ht, sg, su, fa, puX, rf, wa, wf, fo, fd, T, h1, h2, hF, hP, hD, hS⟩ := hI
      exact hS
    refine lv_iload hx hb dL_law_28 (lv_at hl 0 rfl) ?_
    refine lv_aload_n hx hb dL_law_30 rfl (lv_at hl 5 rfl) ?_
    refine va_slen hx hb hX hbl hbA hS dL_law_31 ?_
    refine lv_bipush (v := nI 7) hx hb dL_law_32 (by first | decide | rfl) ?_
    refine lv_isub hx hb dL_law_34 ?_
    have eL : (nI L - nI 7).toInt = (L : Int) - 7 := pk_sub_toInt (by omega) (by omega)
    have ei : (nI i).toInt = (i : Int) := nI_toInt (by omega)
    refine lv_icmp_gt (tgt := 1609) hx hb dL_law_35 (by decide) (fun hq => ?_) (fun hq => ?_)
    · refine lv_iconst (v := 1) hx hb dL_law_1609 (by decide) ?_
      refine va_forget (fun q hq => hS.2.2 q hq) ?_
      refine W.widen (k := 601024) (n := 7293034) (by omega) (by omega) ?_
      refine W.base ?_
      exact lw_ret (Drawn.sameBut.refl s.drawn lw_cs) hx hb hr hlocks dL_law_1610
    · have hi7 : i + 7 ≤ L := by
        have a := Int32.not_lt.mp hq
        have a := i32_le.mp a
        rw [ei, show (Int32.ofNat L - nI 7).toInt = (L : Int) - 7 from eL] at a
        omega
      refine L_disp CC hI hl hi7 ⟨by omega, by omega⟩ ?_
      intro H locs ls ce1 sl1 hce1 hsl1 hI hl
      refine lv_iinc (v := nI (i + 7)) (lv' := LL b a1 a2 oo od (i + 7)) hx hb dL_law_1603 hl (k := 0) rfl (show nI i + Int32.ofInt 7 = nI (i + 7) from nI_add i 7) (by decide) rfl (fun ls hl => ?_)
      refine lv_goto (tgt := 28) hx hb dL_law_1606 (by decide) ?_
      exact L_loop hr hlocks CC f (i + 7) ce1 sl1 H locs ls (by omega) hi7 (by omega) (by omega) hI hl
end Law
