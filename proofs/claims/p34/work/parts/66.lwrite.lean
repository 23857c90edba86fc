/-! the law: those who have wagers; rows by program -/
def LC (p : Program) (l : Launch) (s : State) (m : MethodId) (c : Code) (b L : Nat) (xs : Nat → Int32) (D : va_G) (cs : Nat → ClassId) (z mi : Nat) (A : Nat → Prop) : Prop :=
  p.tables.exec = Jvm.exec ∧ c.code = cL_law ∧ c.maxLocals = 27 ∧ s.vm.findClass RL = some m.cls ∧ (∀ w ∈ wsL_law, w.before #[Value.ref b] s = true) ∧ va_K D vwCl (Ty cs) s ∧ ST z mi A s s.heap ∧ SR s ∧ (∀ q : Nat, s.heap.size ≤ q → A q) ∧ va_X b L xs s s.heap ∧ b < s.heap.size ∧ ¬ A b ∧ L ≤ 260 ∧ l.stackTraces = false ∧ NW s
theorem LC.lx {p : Program} {l : Launch} {s : State} {m : MethodId} {c : Code} {b L : Nat} {xs : Nat → Int32} {D : va_G} {cs : Nat → ClassId} {z mi : Nat} {A : Nat → Prop} (h : LC p l s m c b L xs D cs z mi A) : LX p c m s b D cs := ⟨h.1, h.2.1, h.2.2.1, h.2.2.2.1, h.2.2.2.2.1, h.2.2.2.2.2.1⟩
section Mem
variable {cs : Nat → ClassId} {ad sa : Nat → Nat} {bank rnds cnt mcn : Int32} {dn N n : Nat} {su fa pu df pv : Nat → Int32} {rs rw : Nat → Option Nat} {EL T : va_W} {q : Nat × va_E}
theorem mem_jwx (h : q ∈ wX cs ad bank rnds cnt mcn N n su fa pu ++ (EL ++ T)) : q ∈ JW cs ad sa bank rnds cnt mcn dn N n su fa pu df pv rs rw EL T := (List.mem_append.mp h).elim (fun h => List.mem_append_left _ h) (fun h => List.mem_append_right _ (List.mem_append_right _ h))
theorem mem_jws (h : q ∈ wS cs sa bank rnds dn N n df pv rs rw ++ T) : q ∈ JW cs ad sa bank rnds cnt mcn dn N n su fa pu df pv rs rw EL T := List.mem_append_right _ ((List.mem_append.mp h).elim (fun h => List.mem_append_left _ h) (fun h => List.mem_append_right _ (List.mem_append_right _ h)))
end Mem
set_option maxHeartbeats 4000000 in
set_option maxRecDepth 100000 in
theorem L_has {p : Program} {l : Launch} {e : Env} {s : State} {m : MethodId} {b : Nat} {below : List Frame} {meth : Method} {c : Code} {ls : Array Slot} {Q : State → Prop} {H : Heap} {locs : List Loc} {ce sl L : Nat} {xs : Nat → Int32} {D : va_G} {cs : Nat → ClassId} {z mi : Nat} {k : Nat} {ad sa : Nat → Nat} {bank rnds cnt mcn : Int32} {f1 f2 f3 dn N n cap : Nat} {fn : Nat → Nat} {su fa pu df pv : Nat → Int32} {rf : Nat → Option Nat} {wa : Nat → Nat} {wf : Nat → Nat → Int32} {rs rw : Nat → Option Nat} {sr wr : Nat → Nat} {sf wg : Nat → Nat → Int32} {EL T : va_W} {t : Nat} {x : Int32} (CC : LC p l s m c b L xs D cs z mi (FrH s.heap)) (hce : ce + 100 ≤ 600074) (hsl : sl + 500 ≤ 7301550) (hJ : JF cs z k ad bank cnt f1 f2 f3 dn N n cap fn su fa pu pv rf wa wf rs rw sr wr sf wg EL T)  (hl : lv_has ls 27 [(0, .ref b), (1, .ref (ad 0)), (2, .ref (sa 0)), (3, .int (nI t)), (4, .int x)]) (hP : va_P D vwCl (JW cs ad sa bank rnds cnt mcn dn N n su fa pu df pv rs rw EL T) H) (hD : va_D (FrH s.heap) (JW cs ad sa bank rnds cnt mcn dn N n su fa pu df pv rs rw EL T)) (hS : va_S (FrH s.heap) s.heap H locs) (kk : ∀ (qh : Nat) (hs : Nat → Int32) (H1 : Heap) (locs1 : List Loc) (ls1 : Array Slot), (∀ j, j < 6 → hs j = b2i (hasF wf j n)) → va_P D vwCl ([(qh, .inl (cs 1, 6, .inl hs))] ++ (JW cs ad sa bank rnds cnt mcn dn N n su fa pu df pv rs rw EL T)) H1 → va_D (FrH s.heap) ([(qh, .inl (cs 1, 6, .inl hs))] ++ (JW cs ad sa bank rnds cnt mcn dn N n su fa pu df pv rs rw EL T)) → va_S (FrH s.heap) s.heap H1 locs1 → lv_has ls1 27 [(0, .ref b), (1, .ref (ad 0)), (2, .ref (sa 0)), (3, .int (nI t)), (4, .int x), (5, .long (DG cnt bank rnds N n su fa pu wf)), (7, .int (bank + sm (fun i => wf i 3) n)), (8, .int (nI N)), (9, .ref qh)] → W p l e room_1 s m #[Value.ref b] below meth c H1 locs1 (ce + 1) (sl + 6) Q (F0 m 138 ls1 [])) : W p l e room_1 s m #[Value.ref b] below meth c H locs ce sl Q (F0 m 81 ls []) := by
  obtain ⟨hx, hb, hml, hown, hts, hK, hT, hR, hA, hX, hbl, hbA, hL, hl9, hNW⟩ := id CC
  have hA : ∀ q : Nat, s.heap.size ≤ q → FrH s.heap q := hA
  obtain ⟨hN1, hN, hn12⟩ := hJ.N1
  have hW9 := hJ.2.2.1
  have RR0 := JF.rx (rnds := rnds) (mcn := mcn) hJ hP (fun q hq => mem_jwx hq)
  refine lv_aload_n hx hb dL_law_81 rfl (lv_at hl 1 rfl) ?_
  refine rdV (As := []) (rest := []) (b := ad 0) ⟨hx, hb, hml, hown, hts⟩ hK 0 (c_digest l D cs H RR0) (gin_v mw_13_21 mw_13_22 mw_13_23 mw_1_2 mw_14_0) (by decide +kernel) ⟨Nat.le_of_ble_eq_true rfl, Nat.le_of_ble_eq_true rfl⟩ (va_recv hK RR0.1 (ci := 3) (q0 := 0) rfl rfl) rfl hl.1 rfl (Nat.le_of_ble_eq_true rfl) dL_law_82 ⟨(show _ ≤ 600074 by omega), (show _ ≤ 7301550 by omega)⟩ ?_
  refine W.eq (g2 := F0 m 85 ls [.long (DG cnt bank rnds N n su fa pu wf)]) rfl ?_
  refine lv_lstore (lv' := [(5, .long (DG cnt bank rnds N n su fa pu wf)), (0, .ref b), (1, .ref (ad 0)), (2, .ref (sa 0)), (3, .int (nI t)), (4, .int x)]) hx hb dL_law_85 hl (by decide) rfl (fun ls hl => ?_)
  refine lv_aload_n hx hb dL_law_87 rfl (lv_at hl 2 rfl) ?_
  refine rdV (As := []) (rest := []) (b := ad 0) ⟨hx, hb, hml, hown, hts⟩ hK 0 (c_bank l D cs H RR0) (gin_v mw_19_0 mw_14_20 mw_14_21 mw_1_2 mw_14_22) (by decide +kernel) ⟨Nat.le_of_ble_eq_true rfl, Nat.le_of_ble_eq_true rfl⟩ (va_recv hK RR0.1 (ci := 3) (q0 := 0) rfl rfl) rfl hl.1 rfl (Nat.le_of_ble_eq_true rfl) dL_law_88 ⟨(show _ ≤ 600074 by omega), (show _ ≤ 7301550 by omega)⟩ ?_
  refine W.eq (g2 := F0 m 91 ls [.int bank]) rfl ?_
  refine lv_aload_n hx hb dL_law_91 rfl (lv_at hl 2 rfl) ?_
  refine rdV (As := []) (rest := [.int bank]) (b := ad 0) ⟨hx, hb, hml, hown, hts⟩ hK 0 (c_staked l D cs H RR0) (gin_v mw_19_1 mw_15_4 mw_15_5 mw_1_2 mw_15_6) (by decide +kernel) ⟨Nat.le_of_ble_eq_true rfl, Nat.le_of_ble_eq_true rfl⟩ (va_recv hK RR0.1 (ci := 3) (q0 := 0) rfl rfl) rfl hl.1 rfl (Nat.le_of_ble_eq_true rfl) dL_law_92 ⟨(show _ ≤ 600074 by omega), (show _ ≤ 7301550 by omega)⟩ ?_
  refine W.eq (g2 := F0 m 95 ls [.int (sm (fun i => wf i 3) n), .int bank]) rfl ?_
  refine lv_iadd hx hb dL_law_95 ?_
  refine lv_istore (lv' := [(7, .int (bank + (sm (fun i => wf i 3) n))), (5, .long (DG cnt bank rnds N n su fa pu wf)), (0, .ref b), (1, .ref (ad 0)), (2, .ref (sa 0)), (3, .int (nI t)), (4, .int x)]) hx hb dL_law_96 hl (by decide) rfl (fun ls hl => ?_)
  refine lv_aload_n hx hb dL_law_98 rfl (lv_at hl 3 rfl) ?_
  refine rdV (As := []) (rest := []) (b := ad 0) ⟨hx, hb, hml, hown, hts⟩ hK 0 (c_outcomes l D cs H RR0) (gin_v mw_19_2 mw_14_12 mw_14_13 mw_1_2 mw_14_14) (by decide +kernel) ⟨Nat.le_of_ble_eq_true rfl, Nat.le_of_ble_eq_true rfl⟩ (va_recv hK RR0.1 (ci := 3) (q0 := 0) rfl rfl) rfl hl.1 rfl (Nat.le_of_ble_eq_true rfl) dL_law_99 ⟨(show _ ≤ 600074 by omega), (show _ ≤ 7301550 by omega)⟩ ?_
  refine W.eq (g2 := F0 m 102 ls [.int (nI N)]) rfl ?_
  refine lv_istore (lv' := [(8, .int (nI N)), (7, .int (bank + (sm (fun i => wf i 3) n))), (5, .long (DG cnt bank rnds N n su fa pu wf)), (0, .ref b), (1, .ref (ad 0)), (2, .ref (sa 0)), (3, .int (nI t)), (4, .int x)]) hx hb dL_law_102 hl (by decide) rfl (fun ls hl => ?_)
  refine lv_bipush (v := nI 6) hx hb dL_law_104 (by first | decide | rfl) ?_
  refine nwZ (N' := 6) hx hb (hts (Cond.arrayClass .boolean) mw_1_3) hK hP hD hS hA (by decide) (by decide) (by decide) (show _ ≤ 600074 by omega) (show _ ≤ 7301550 by omega) dL_law_106 (fun qh H hP hD hS => ?_)
  have hP : va_P D vwCl ([(qh, .inl (cs 1, 6, .inl ((fun _ => 0))))] ++ (JW cs ad sa bank rnds cnt mcn dn N n su fa pu df pv rs rw EL T)) H := vaP_perm List.perm_append_comm hP
  have hD : va_D _ ([(qh, .inl (cs 1, 6, .inl ((fun _ => 0))))] ++ (JW cs ad sa bank rnds cnt mcn dn N n su fa pu df pv rs rw EL T)) := vaD_perm List.perm_append_comm hD
  refine lv_astore (lv' := [(9, .ref qh), (8, .int (nI N)), (7, .int (bank + (sm (fun i => wf i 3) n))), (5, .long (DG cnt bank rnds N n su fa pu wf)), (0, .ref b), (1, .ref (ad 0)), (2, .ref (sa 0)), (3, .int (nI t)), (4, .int x)]) hx hb dL_law_108 hl (by decide) rfl (fun ls hl => ?_)
  refine lv_iconst (v := nI 0) hx hb dL_law_110 (by first | decide | rfl) ?_
  refine lv_istore (lv' := [(10, .int (nI 0)), (9, .ref qh), (8, .int (nI N)), (7, .int (bank + (sm (fun i => wf i 3) n))), (5, .long (DG cnt bank rnds N n su fa pu wf)), (0, .ref b), (1, .ref (ad 0)), (2, .ref (sa 0)), (3, .int (nI t)), (4, .int x)]) hx hb dL_law_111 hl (by decide) rfl (fun ls hl => ?_)
  have loop113 : ∀ (n9 : Nat) (i : Nat) (hs : Nat → Int32) (H : Heap) (locs : List Loc) (ls : Array Slot), i ≤ n → n + 1 ≤ i + n9 → (∀ j, j < 6 → hs j = b2i (hasF wf j i)) → va_P D vwCl ([(qh, .inl (cs 1, 6, .inl (hs)))] ++ (JW cs ad sa bank rnds cnt mcn dn N n su fa pu df pv rs rw EL T)) H → va_D (FrH s.heap) ([(qh, .inl (cs 1, 6, .inl (hs)))] ++ (JW cs ad sa bank rnds cnt mcn dn N n su fa pu df pv rs rw EL T)) → va_S (FrH s.heap) s.heap H locs → lv_has ls 27 [(0, .ref b), (1, .ref (ad 0)), (2, .ref (sa 0)), (3, .int (nI t)), (4, .int x), (5, .long (DG cnt bank rnds N n su fa pu wf)), (7, .int (bank + sm (fun i => wf i 3) n)), (8, .int (nI N)), (9, .ref qh), (10, .int (nI i))] → W p l e room_1 s m [.ref b].toArray below meth c H locs (ce + 1) (sl + 6) Q (F0 m 113 ls []) := by
    intro n9
    induction n9 with
    | zero => intro i  hs  H locs ls hi hfu hhs hP hD hS hl; exact absurd hfu (by omega)
    | succ n9 ih113 =>
      intro i  hs  H locs ls hi hfu hhs hP hD hS hl
      refine lv_iload hx hb dL_law_113 (lv_at hl 9 rfl) ?_
      have RR0 := JF.rx (rnds := rnds) (mcn := mcn) hJ hP (fun q hq => List.mem_append_right [_] (mem_jwx hq))
      refine lv_aload_n hx hb dL_law_115 rfl (lv_at hl 1 rfl) ?_
      refine rdV (As := []) (rest := [.int (nI i)]) (b := ad 0) ⟨hx, hb, hml, hown, hts⟩ hK 0 (c_open l D cs H RR0) (gin_v mw_19_3 mw_14_16 mw_14_17 mw_1_2 mw_14_18) (by decide +kernel) ⟨Nat.le_of_ble_eq_true rfl, Nat.le_of_ble_eq_true rfl⟩ (va_recv hK RR0.1 (ci := 3) (q0 := 0) rfl rfl) rfl hl.1 rfl (Nat.le_of_ble_eq_true rfl) dL_law_116 ⟨(show _ ≤ 600074 by omega), (show _ ≤ 7301550 by omega)⟩ ?_
      refine W.eq (g2 := F0 m 119 ls [.int (nI n), .int (nI i)]) rfl ?_
      refine lv_icmp_ge (tgt := 138) hx hb dL_law_119 (by decide) (fun c_1 => ?_) (fun c_1 => ?_)
      · exact kk qh hs H _ ls (by rw [← show i = n from by have g := (nI_leI (by omega) (by omega)).mp c_1; omega]; exact hhs) hP hD hS (lv_sub hl [0, 1, 2, 3, 4, 5, 6, 7, 8] rfl)
      · have hlt : i < n := by
          rcases Nat.lt_or_ge i n with q | q
          · exact q
          · exact absurd (nI_le q (by omega)) c_1
        refine lv_aload hx hb dL_law_122 (lv_at hl 8 rfl) ?_
        refine lv_aload_n hx hb dL_law_124 rfl (lv_at hl 1 rfl) ?_
        refine lv_iload hx hb dL_law_125 (lv_at hl 9 rfl) ?_
        refine rdV (As := [.int (nI i)]) (rest := [.ref qh]) (b := ad 0) ⟨hx, hb, hml, hown, hts⟩ hK 1 (c_patronOf l D cs H RR0 i (by omega)) (gin_v mw_19_4 mw_17_12 mw_17_13 mw_1_2 mw_17_14) (by decide +kernel) ⟨Nat.le_of_ble_eq_true rfl, Nat.le_of_ble_eq_true rfl⟩ (va_recv hK RR0.1 (ci := 3) (q0 := 0) rfl rfl) rfl hl.1 rfl (Nat.le_of_ble_eq_true rfl) dL_law_127 ⟨(show _ ≤ 600074 by omega), (show _ ≤ 7301550 by omega)⟩ ?_
        refine W.eq (g2 := F0 m 130 ls [.int (wf i 0), .ref qh]) rfl ?_
        refine lv_rwi (y := nI (iN (wf i 0))) ((hW9 i hlt).1.1) ?_
        refine lv_iconst (v := 1) hx hb dL_law_130 (by first | decide | rfl) ?_
        refine va_zast hx hb hK hP hD hS 0 1 rfl rfl (vp_in_nI (hW9 i hlt).1.2 (by omega)) dL_law_131 (fun H locs hP hD hS => ?_)
        have g9 : upd hs (nI (iN (wf i 0))).toNatClampNeg (vp_nar .boolean 1) = upd hs (iN (wf i 0)) 1 := by rw [nI_clamp (by have := (hW9 i hlt).1.2; omega)]; rfl
        have hP : va_P D vwCl ([(qh, .inl (cs 1, 6, .inl (upd hs (iN (wf i 0)) 1)))] ++ (JW cs ad sa bank rnds cnt mcn dn N n su fa pu df pv rs rw EL T)) H := Eq.mp (congrArg (fun z9 => va_P D vwCl ([(qh, .inl (cs 1, 6, .inl (z9)))] ++ (JW cs ad sa bank rnds cnt mcn dn N n su fa pu df pv rs rw EL T)) H) g9) hP
        have hD : va_D _ ([(qh, .inl (cs 1, 6, .inl (upd hs (iN (wf i 0)) 1)))] ++ (JW cs ad sa bank rnds cnt mcn dn N n su fa pu df pv rs rw EL T)) := Eq.mp (congrArg (fun z9 => va_D _ ([(qh, .inl (cs 1, 6, .inl (z9)))] ++ (JW cs ad sa bank rnds cnt mcn dn N n su fa pu df pv rs rw EL T))) g9) hD
        refine lv_iinc (v := nI (i + 1)) (lv' := [(10, .int (nI (i + 1))), (0, .ref b), (1, .ref (ad 0)), (2, .ref (sa 0)), (3, .int (nI t)), (4, .int x), (5, .long (DG cnt bank rnds N n su fa pu wf)), (7, .int (bank + sm (fun i => wf i 3) n)), (8, .int (nI N)), (9, .ref qh)]) hx hb dL_law_132 hl (k := 9) rfl (nI_1 i) (by decide) rfl (fun ls hl => ?_)
        refine lv_goto (tgt := 113) hx hb dL_law_135 (by decide) ?_
        exact ih113 (i + 1) _ H _ ls (by omega) (by omega) (fun j hj => by
            show (if j = iN (wf i 0) then _ else hs j) = b2i (hasF wf j i || decide (wf i 0 = nI j))
            by_cases z9 : j = iN (wf i 0)
            · rw [if_pos z9, decide_eq_true (by rw [z9]; exact (hW9 i hlt).1.1), Bool.or_true]; rfl
            · rw [if_neg z9, decide_eq_false (fun y => z9 (by rw [y, iN_nI (by omega)])), Bool.or_false]; exact hhs j hj) hP hD hS (lv_sub hl [1, 2, 3, 4, 5, 6, 7, 8, 9, 0] rfl)
  exact loop113 (n + 1) 0 _ H _ ls (Nat.zero_le _) (by omega) (fun j hj => rfl) hP hD hS (lv_sub hl [5, 6, 7, 8, 9, 4, 3, 2, 1, 0] rfl)
