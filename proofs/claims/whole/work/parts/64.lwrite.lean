/-! the law: calls that write; by program -/
theorem pm5 {α : Type} (M O B X E G T : List α) : (M ++ (O ++ (B ++ (X ++ (E ++ (G ++ T)))))).Perm ((X ++ (E ++ (G ++ O))) ++ (M ++ (B ++ T))) := by
  classical
  rw [List.perm_iff_count]; intro a; simp only [List.count_append]; omega
theorem pm6 {α : Type} (M O B X E G F T : List α) : (M ++ (O ++ (B ++ (X ++ (E ++ (G ++ (F ++ T))))))).Perm ((X ++ (E ++ (G ++ (F ++ O)))) ++ (M ++ (B ++ T))) := by
  classical
  rw [List.perm_iff_count]; intro a; simp only [List.count_append]; omega
theorem wG_new {n xw : Nat} {v : Nat → Int32} {wa : Nat → Nat} {wf : Nat → Nat → Int32} : wG (fun j => if j = n then xw else wa j) (fun j => if j = n then v else wf j) n = (xw, .inr (2, [.int (v 0), .int (v 1), .int (v 2), .int (v 3), .int (v 4), .int (v 5)])) := by
  simp only [wG, if_true]
theorem rfB_at {rf : Nat → Option Nat} {j xw a : Nat} (hj : j < 10) (h : rf j = some a) : va_up (va_cpy rf (fun _ => none) 0 0 10) 10 (some xw) j = some a := by
  show (if j = 10 then _ else if 0 ≤ j ∧ j < 0 + 10 then rf (0 + (j - 0)) else _) = _
  rw [if_neg (by omega), if_pos (by omega), show 0 + (j - 0) = j by omega]
  exact h
section Law
variable {p : Program} {l : Launch} {e : Env} {s : State} {m : MethodId} {b : Nat} {below : List Frame} {meth : Method} {c : Code} {H : Heap} {locs : List Loc} {cells slots ce sl : Nat} {Q : State → Prop} {L : Nat} {xs : Nat → Int32} {D : va_G} {cs : Nat → ClassId} {z mi : Nat} {A : Nat → Prop} {a1 a2 oo od i : Nat} {ls : Array Slot}
variable {am ad : Nat → Nat} {bank rnds th cnt mcn : Int32} {f1 f2 f3 dn N n cap : Nat} {fn : Nat → Nat} {fc puM wh kn nm sk br ht sg su fa puX : Nat → Int32} {rf : Nat → Option Nat} {wa : Nat → Nat} {wf : Nat → Nat → Int32} {fo : Nat → Int64} {fd : Nat → UInt64} {T : va_W}
set_option maxHeartbeats 4000000 in
set_option maxRecDepth 100000 in
theorem L_c8 (CC : LC p l s m c b L xs D cs z mi A) (h1 : am 0 = a2) (h2 : ad 0 = a1) (hF : LF cs z ad cnt f1 f2 f3 dn N n cap fn fc puM wh kn nm sk br ht su fa puX rf wa wf T) (hP : va_P D vwCl (LWw cs am ad oo od bank rnds th cnt mcn dn N n fc puM wh kn nm sk br ht sg su fa puX fo fd T) H) (hD : va_D A (LWw cs am ad oo od bank rnds th cnt mcn dn N n fc puM wh kn nm sk br ht sg su fa puX fo fd T)) (hS : va_S A s.heap H locs) (hl : lv_has ls 9 (LL b a1 a2 oo od i)) (hi : i + 7 ≤ L) (hrm : cells + 4 ≤ 601024 ∧ slots + 64 ≤ 7293034) (k : LK p l e s m b below meth c Q D cs z A a1 a2 oo od i cells slots) : W p l e room_1 s m #[Value.ref b] below meth c H locs cells slots Q (F0 m 677 ls []) := by
  subst h1
  subst h2
  obtain ⟨hx, hb, hml, hown, hts, hT, hR, hK, hA, hX, hbl, hbA, hL, hl9⟩ := id CC
  obtain ⟨hN1, hN, hn12⟩ := hF.N1
  obtain ⟨hDC, hla, hFM, hWR, hpu, hB, hcnt, hLT⟩ := id hF
  rcases in_ix (xs (i + 1)) (n := N) (by omega) with ⟨o, ho, e1, hv⟩ | ⟨ho, hv⟩
  · refine L_a8 CC hS hl hi e1 ?_
    have eg := WR.gn hDC hla hWR ho
    rcases hLT with ⟨hc0, hn0, had⟩ | ⟨hc, hnc, ⟨T1, eT, hT1⟩, hr⟩
    · subst hn0
      subst hc0
      have hP1 := vaP_perm (pm4 _ _ _ _ _) hP
      have hD1 := vaD_perm (pm4 _ _ _ _ _) hD
      refine whS (As := [.ref (ad 0), .int (nI o), .ref oo]) (rest := []) ⟨hx, hb, hml, hown, hts⟩ hT hR hK 3 (w_settle0 l hl9 D cs z mi H rf wa wf (kN kn) hN1 hN o ho (fun ov w1 => ∃ f9 : Nat → Int64, f9 0 = (sm (gnX su fa wf (kN kn) o) 0).toInt64 ∧ ov = some (.int 0) ∧ w1 = (wX cs ad (bank + sm (gnX su fa wf (kN kn) o) 0) (rnds + 1) cnt (mcn + 1) N 0 su fa (stpX su fa puX wf (kN kn) o 0 6) ++ wO cs oo f9) ++ (wM cs am th bank rnds dn N 0 fc puM wh kn nm sk br ht sg ++ (wB cs od fd ++ T))) (fun f9 h9 => ⟨f9, h9, rfl, rfl⟩) hP1 (hD1.weaken (fun _ _ _ _ => trivial))) (gin_h mw_16_16 mw_16_17 mw_4_10 mw_16_18) (by decide +kernel) ⟨Nat.le_of_ble_eq_true rfl, Nat.le_of_ble_eq_true rfl⟩ rfl hl.1 rfl (Nat.le_of_ble_eq_true rfl) dL_law_685 ⟨Nat.le_trans (show cells + 0 ≤ cells + 4 by omega) hrm.1, Nat.le_trans (show slots + 0 ≤ slots + 64 by omega) hrm.2⟩ hD1 hS hA (fun ov9 w9 H locs hp9 hP hD hS => ?_)
      obtain ⟨f9, h9, rfl, rfl⟩ := hp9
      clear hP1 hD1
      rw [eg] at hP hD h9
      have hP := vaP_perm (pm4 _ _ _ _ _).symm hP
      have hD := vaD_perm (pm4 _ _ _ _ _).symm hD
      refine L_b8 CC hS hl hi e1 (fun ls hl => ?_)
      refine L_m CC (n9 := 1) (As := [.int (nI o)]) (rest := []) (M1 := (fun sg => wM cs am 0 (bank + sm (gnM ht sk br o) 0) (rnds + 1) dn N 0 fc (stM puM sk br ht (kN wh) o 0) wh kn nm sk br ht sg)) (v := .int (sm (gnM ht sk br o) 0)) (mc := 0) (ms := 0) hP hD hS (fun post hp hP hD => mp_settle l D cs H hFM hWR.pt o ho hv post (hp sg) hP hD) (gin_v mw_18_0 mw_18_1 mw_18_2 mw_1_5 mw_18_3) (by decide +kernel) ⟨Nat.le_of_ble_eq_true rfl, Nat.le_of_ble_eq_true rfl⟩ rfl hl.1 rfl (Nat.le_of_ble_eq_true rfl) dL_law_697 ⟨Nat.le_trans (show cells + 0 + 0 ≤ cells + 4 by omega) hrm.1, Nat.le_trans (show slots + 0 + 0 ≤ slots + 64 by omega) hrm.2⟩ (fun H locs sg hP hD hS => ?_)
      exact L_t8 CC rfl rfl (hF.settle ho (rf' := rf) (T' := T) (Or.inl ⟨rfl, rfl, had⟩ : LT cs z ad 0 0 rf wa wf T)) hP hD hS hl (fun _ => h9) hrm (show cells + 0 + 0 ≤ cells + 4 by omega) (show slots + 0 + 0 ≤ slots + 64 by omega) k
    · subst eT
      have hP : va_P D vwCl (wM cs am th bank rnds dn N n fc puM wh kn nm sk br ht sg ++ (wO cs oo fo ++ (wB cs od fd ++ (wX cs ad bank rnds cnt mcn N n su fa puX ++ ([wE cs ad cap rf] ++ T1))))) H := hP
      have hD : va_D A (wM cs am th bank rnds dn N n fc puM wh kn nm sk br ht sg ++ (wO cs oo fo ++ (wB cs od fd ++ (wX cs ad bank rnds cnt mcn N n su fa puX ++ ([wE cs ad cap rf] ++ T1))))) := hD
      have hP1 := vaP_perm (pm3 _ _ _ _ _ _) hP
      have hD1 := vaD_perm (pm3 _ _ _ _ _ _) hD
      refine whS (As := [.ref (ad 0), .int (nI o), .ref oo]) (rest := []) ⟨hx, hb, hml, hown, hts⟩ hT hR hK 3 (w_settle l hl9 D cs z mi H (fun j hj => List.mem_append_right _ (List.mem_append_right _ (hT1 j hj))) hr hWR.kdX hN1 hN hn12 hnc (by omega) o ho (fun ov w1 => ∃ f9 : Nat → Int64, f9 0 = (sm (gnX su fa wf (kN kn) o) n).toInt64 ∧ ov = some (.int 0) ∧ w1 = (wX cs ad (bank + sm (gnX su fa wf (kN kn) o) n) (rnds + 1) cnt (mcn + 1) N 0 su fa (stpX su fa puX wf (kN kn) o n 6) ++ ([wE cs ad cap (clr rf n)] ++ wO cs oo f9)) ++ (wM cs am th bank rnds dn N n fc puM wh kn nm sk br ht sg ++ (wB cs od fd ++ T1))) (fun f9 h9 => ⟨f9, h9, rfl, rfl⟩) hP1 (hD1.weaken (fun _ _ _ _ => trivial))) (gin_h mw_16_16 mw_16_17 mw_4_10 mw_16_18) (by decide +kernel) ⟨Nat.le_of_ble_eq_true rfl, Nat.le_of_ble_eq_true rfl⟩ rfl hl.1 rfl (Nat.le_of_ble_eq_true rfl) dL_law_685 ⟨Nat.le_trans (show cells + 0 ≤ cells + 4 by omega) hrm.1, Nat.le_trans (show slots + 0 ≤ slots + 64 by omega) hrm.2⟩ hD1 hS hA (fun ov9 w9 H locs hp9 hP hD hS => ?_)
      obtain ⟨f9, h9, rfl, rfl⟩ := hp9
      clear hP1 hD1
      rw [eg] at hP hD h9
      have hP := vaP_perm (pm3 _ _ _ _ _ _).symm hP
      have hD := vaD_perm (pm3 _ _ _ _ _ _).symm hD
      refine L_b8 CC hS hl hi e1 (fun ls hl => ?_)
      refine L_m CC (n9 := 1) (As := [.int (nI o)]) (rest := []) (M1 := (fun sg => wM cs am 0 (bank + sm (gnM ht sk br o) n) (rnds + 1) dn N 0 fc (stM puM sk br ht (kN wh) o n) wh kn nm sk br ht sg)) (v := .int (sm (gnM ht sk br o) n)) (mc := 0) (ms := 0) hP hD hS (fun post hp hP hD => mp_settle l D cs H hFM hWR.pt o ho hv post (hp sg) hP hD) (gin_v mw_18_0 mw_18_1 mw_18_2 mw_1_5 mw_18_3) (by decide +kernel) ⟨Nat.le_of_ble_eq_true rfl, Nat.le_of_ble_eq_true rfl⟩ rfl hl.1 rfl (Nat.le_of_ble_eq_true rfl) dL_law_697 ⟨Nat.le_trans (show cells + 0 + 0 ≤ cells + 4 by omega) hrm.1, Nat.le_trans (show slots + 0 + 0 ≤ slots + 64 by omega) hrm.2⟩ (fun H locs sg hP hD hS => ?_)
      exact L_t8 CC rfl rfl (hF.settle ho (rf' := clr rf n) (T' := wE cs ad cap (clr rf n) :: T1) (Or.inr ⟨hc, Nat.zero_le _, ⟨T1, rfl, fun j hj => absurd hj (Nat.not_lt_zero j)⟩, fun j hj => absurd hj (Nat.not_lt_zero j)⟩)) hP hD hS hl (fun _ => h9) hrm (show cells + 0 + 0 ≤ cells + 4 by omega) (show slots + 0 + 0 ≤ slots + 64 by omega) k
  · refine L_a8 CC hS hl hi rfl ?_
    refine L_vr CC (n9 := 3) (K := 1) (As := [.ref (ad 0), .int (xs (i + 1)), .ref oo]) hP hD hS (fun post hp hP hD => v_settle l hl9 D cs z mi H (fun H9 h9 => hF.rx h9 (fun q hq => List.mem_append_right _ (List.mem_append_right _ (List.mem_append_right _ hq)))) _ ho post hp hP hD) (gin_h mw_16_16 mw_16_17 mw_4_10 mw_16_18) (by decide +kernel) ⟨Nat.le_of_ble_eq_true rfl, Nat.le_of_ble_eq_true rfl⟩ rfl hl.1 rfl dL_law_685 ⟨Nat.le_trans (show cells + 1 ≤ cells + 4 by omega) hrm.1, Nat.le_trans (show slots + 6 ≤ slots + 64 by omega) hrm.2⟩ (fun H locs hP hD hS => ?_)
    refine L_b8 CC hS hl hi rfl (fun ls hl => ?_)
    refine L_m CC (n9 := 1) (As := [.int (xs (i + 1))]) (rest := []) (M1 := (fun sg => wM cs am 1 bank rnds dn N n fc puM wh kn nm sk br ht sg)) (v := .int 0) (mc := 0) (ms := 0) hP hD hS (fun post hp hP hD => mp_settle_no l D cs H hFM _ hv post (hp sg) hP hD) (gin_v mw_18_0 mw_18_1 mw_18_2 mw_1_5 mw_18_3) (by decide +kernel) ⟨Nat.le_of_ble_eq_true rfl, Nat.le_of_ble_eq_true rfl⟩ rfl hl.1 rfl (Nat.le_of_ble_eq_true rfl) dL_law_697 ⟨Nat.le_trans (show cells + 1 + 0 ≤ cells + 4 by omega) hrm.1, Nat.le_trans (show slots + 6 + 0 ≤ slots + 64 by omega) hrm.2⟩ (fun H locs sg hP hD hS => ?_)
    exact L_t8 CC rfl rfl hF hP hD hS hl (fun z9 => absurd z9 (by decide)) hrm (show cells + 1 + 0 ≤ cells + 4 by omega) (show slots + 6 + 0 ≤ slots + 64 by omega) k
set_option maxHeartbeats 4000000 in
set_option maxRecDepth 100000 in
theorem L_c7 (CC : LC p l s m c b L xs D cs z mi A) (h1 : am 0 = a2) (h2 : ad 0 = a1) (hF : LF cs z ad cnt f1 f2 f3 dn N n cap fn fc puM wh kn nm sk br ht su fa puX rf wa wf T) (hP : va_P D vwCl (LWw cs am ad oo od bank rnds th cnt mcn dn N n fc puM wh kn nm sk br ht sg su fa puX fo fd T) H) (hD : va_D A (LWw cs am ad oo od bank rnds th cnt mcn dn N n fc puM wh kn nm sk br ht sg su fa puX fo fd T)) (hS : va_S A s.heap H locs) (hl : lv_has ls 9 (LL b a1 a2 oo od i)) (hi : i + 7 ≤ L) (hrm : cells + 4 ≤ 601024 ∧ slots + 64 ≤ 7293034) (k : LK p l e s m b below meth c Q D cs z A a1 a2 oo od i cells slots) : W p l e room_1 s m #[Value.ref b] below meth c H locs cells slots Q (F0 m 621 ls []) := by
  subst h1
  subst h2
  obtain ⟨hx, hb, hml, hown, hts, hT, hR, hK, hA, hX, hbl, hbA, hL, hl9⟩ := id CC
  obtain ⟨hN1, hN, hn12⟩ := hF.N1
  obtain ⟨hDC, hla, hFM, hWR, hpu, hB, hcnt, hLT⟩ := id hF
  rcases in_ix (xs (i + 1)) (n := n) (by omega) with ⟨o, ho, e1, hv⟩ | ⟨ho, hv⟩
  · refine L_a7 CC hS hl hi e1 ?_
    obtain ⟨n1, rfl⟩ : ∃ n1, n = n1 + 1 := ⟨n - 1, by omega⟩
    rcases hLT with ⟨hc0, hn0, had⟩ | ⟨hc, hnc, ⟨T1, eT, hT1⟩, hr⟩
    · exact absurd hn0 (by omega)
    · subst eT
      have hP : va_P D vwCl (wM cs am th bank rnds dn N (n1 + 1) fc puM wh kn nm sk br ht sg ++ (wO cs oo fo ++ (wB cs od fd ++ (wX cs ad bank rnds cnt mcn N (n1 + 1) su fa puX ++ ([wE cs ad cap rf] ++ T1))))) H := hP
      have hD : va_D A (wM cs am th bank rnds dn N (n1 + 1) fc puM wh kn nm sk br ht sg ++ (wO cs oo fo ++ (wB cs od fd ++ (wX cs ad bank rnds cnt mcn N (n1 + 1) su fa puX ++ ([wE cs ad cap rf] ++ T1))))) := hD
      have hP1 := vaP_perm (pm3 _ _ _ _ _ _) hP
      have hD1 := vaD_perm (pm3 _ _ _ _ _ _) hD
      refine whS (As := [.ref (ad 0), .int (nI o), .ref oo]) (rest := []) ⟨hx, hb, hml, hown, hts⟩ hT hR hK 3 (w_takeBack l hl9 D cs z mi H (fun j hj => List.mem_append_right _ (List.mem_append_right _ (hT1 j hj))) hr hWR.kdX hN1 hN hn12 hnc (by omega) hWR.ptX o ho (fun ov w1 => ∃ f9 : Nat → Int64, f9 0 = (wf o 3).toInt64 ∧ ov = some (.int 0) ∧ w1 = (wX cs ad bank rnds cnt (mcn + 1) N n1 su fa (upd puX (kN wh o) (puX (kN wh o) + wf o 3)) ++ ([wE cs ad cap (shR rf o n1)] ++ wO cs oo f9)) ++ (wM cs am th bank rnds dn N (n1 + 1) fc puM wh kn nm sk br ht sg ++ (wB cs od fd ++ T1))) (fun f9 h9 => ⟨f9, h9, rfl, rfl⟩) hP1 (hD1.weaken (fun _ _ _ _ => trivial))) (gin_h mw_15_0 mw_15_1 mw_4_10 mw_15_2) (by decide +kernel) ⟨Nat.le_of_ble_eq_true rfl, Nat.le_of_ble_eq_true rfl⟩ rfl hl.1 rfl (Nat.le_of_ble_eq_true rfl) dL_law_629 ⟨Nat.le_trans (show cells + 0 ≤ cells + 4 by omega) hrm.1, Nat.le_trans (show slots + 0 ≤ slots + 64 by omega) hrm.2⟩ hD1 hS hA (fun ov9 w9 H locs hp9 hP hD hS => ?_)
      obtain ⟨f9, h9, rfl, rfl⟩ := hp9
      clear hP1 hD1
      have hP := vaP_perm (pm3 _ _ _ _ _ _).symm hP
      have hD := vaD_perm (pm3 _ _ _ _ _ _).symm hD
      refine L_b7 CC hS hl hi e1 (fun ls hl => ?_)
      refine L_m CC (n9 := 1) (As := [.int (nI o)]) (rest := []) (M1 := (fun sg => wM cs am 0 bank rnds dn N n1 fc (upd puM (kN wh o) (puM (kN wh o) + sk o)) (shM wh o n1) (shM kn o n1) (shM nm o n1) (shM sk o n1) (shM br o n1) (shH N ht o (n1 - o)) sg)) (v := .int (sk o)) (mc := 0) (ms := 0) hP hD hS (fun post hp hP hD => mp_takeBack l D cs H hFM hWR.pt hB o ho hv post (hp sg) hP hD) (gin_v mw_16_7 mw_16_8 mw_16_9 mw_1_5 mw_16_10) (by decide +kernel) ⟨Nat.le_of_ble_eq_true rfl, Nat.le_of_ble_eq_true rfl⟩ rfl hl.1 rfl (Nat.le_of_ble_eq_true rfl) dL_law_641 ⟨Nat.le_trans (show cells + 0 + 0 ≤ cells + 4 by omega) hrm.1, Nat.le_trans (show slots + 0 + 0 ≤ slots + 64 by omega) hrm.2⟩ (fun H locs sg hP hD hS => ?_)
      exact L_t7 CC rfl rfl (hF.take hc hnc hT1 hr ho) hP hD hS hl (fun _ => h9.trans (congrArg Int32.toInt64 (hWR o ho).1.2.2.2.1)) hrm (show cells + 0 + 0 ≤ cells + 4 by omega) (show slots + 0 + 0 ≤ slots + 64 by omega) k
  · refine L_a7 CC hS hl hi rfl ?_
    refine L_vr CC (n9 := 3) (K := 1) (As := [.ref (ad 0), .int (xs (i + 1)), .ref oo]) hP hD hS (fun post hp hP hD => v_takeBack l hl9 D cs z mi H (fun H9 h9 => hF.rx h9 (fun q hq => List.mem_append_right _ (List.mem_append_right _ (List.mem_append_right _ hq)))) _ ho post hp hP hD) (gin_h mw_15_0 mw_15_1 mw_4_10 mw_15_2) (by decide +kernel) ⟨Nat.le_of_ble_eq_true rfl, Nat.le_of_ble_eq_true rfl⟩ rfl hl.1 rfl dL_law_629 ⟨Nat.le_trans (show cells + 1 ≤ cells + 4 by omega) hrm.1, Nat.le_trans (show slots + 6 ≤ slots + 64 by omega) hrm.2⟩ (fun H locs hP hD hS => ?_)
    refine L_b7 CC hS hl hi rfl (fun ls hl => ?_)
    refine L_m CC (n9 := 1) (As := [.int (xs (i + 1))]) (rest := []) (M1 := (fun sg => wM cs am 1 bank rnds dn N n fc puM wh kn nm sk br ht sg)) (v := .int 0) (mc := 0) (ms := 0) hP hD hS (fun post hp hP hD => mp_takeBack_no l D cs H hFM _ hv post (hp sg) hP hD) (gin_v mw_16_7 mw_16_8 mw_16_9 mw_1_5 mw_16_10) (by decide +kernel) ⟨Nat.le_of_ble_eq_true rfl, Nat.le_of_ble_eq_true rfl⟩ rfl hl.1 rfl (Nat.le_of_ble_eq_true rfl) dL_law_641 ⟨Nat.le_trans (show cells + 1 + 0 ≤ cells + 4 by omega) hrm.1, Nat.le_trans (show slots + 6 + 0 ≤ slots + 64 by omega) hrm.2⟩ (fun H locs sg hP hD hS => ?_)
    exact L_t7 CC rfl rfl hF hP hD hS hl (fun z9 => absurd z9 (by decide)) hrm (show cells + 1 + 0 ≤ cells + 4 by omega) (show slots + 6 + 0 ≤ slots + 64 by omega) k
set_option maxHeartbeats 4000000 in
set_option maxRecDepth 100000 in
theorem L_c6 (CC : LC p l s m c b L xs D cs z mi A) (h1 : am 0 = a2) (h2 : ad 0 = a1) (hF : LF cs z ad cnt f1 f2 f3 dn N n cap fn fc puM wh kn nm sk br ht su fa puX rf wa wf T) (hP : va_P D vwCl (LWw cs am ad oo od bank rnds th cnt mcn dn N n fc puM wh kn nm sk br ht sg su fa puX fo fd T) H) (hD : va_D A (LWw cs am ad oo od bank rnds th cnt mcn dn N n fc puM wh kn nm sk br ht sg su fa puX fo fd T)) (hS : va_S A s.heap H locs) (hl : lv_has ls 9 (LL b a1 a2 oo od i)) (hi : i + 7 ≤ L) (hrm : cells + 4 ≤ 601024 ∧ slots + 64 ≤ 7293034) (k : LK p l e s m b below meth c Q D cs z A a1 a2 oo od i cells slots) : W p l e room_1 s m #[Value.ref b] below meth c H locs cells slots Q (F0 m 503 ls []) := by
  subst h1
  subst h2
  obtain ⟨hx, hb, hml, hown, hts, hT, hR, hK, hA, hX, hbl, hbA, hL, hl9⟩ := id CC
  obtain ⟨hN1, hN, hn12⟩ := hF.N1
  obtain ⟨hDC, hla, hFM, hWR, hpu, hB, hcnt, hLT⟩ := id hF
  rcases in_6 (xs (i + 1)) with ⟨p9, hpa, e1, hv⟩ | ⟨ho, hv⟩
  · rcases in_ev (xs (i + 2)) (xs (i + 3)) with ⟨k9, q9, hk, hq, e2, e3, hv2⟩ | ⟨ho, hw⟩
    · rcases in_lo (xs (i + 4)) 100 with ⟨s1, s2, hs⟩ | ⟨hz, hs⟩
      · rcases in_lo (xs (i + 5)) 20 with ⟨w1, w2, hw⟩ | ⟨hz, hw⟩
        · rcases in_lo (xs (i + 6)) 10 with ⟨b1, b2, hy⟩ | ⟨hz, hy⟩
          · by_cases hn : n < 12
            · by_cases hle : xs (i + 4) ≤ puX p9
              · have hle2 : xs (i + 4) ≤ puM p9 := by rw [← hpu p9 hpa]; exact hle
                refine L_a6 CC hS hl hi e1 e2 e3 rfl rfl rfl ?_
                rcases hLT with ⟨hc0, hn0, had⟩ | ⟨hc, hnc, ⟨T1, eT, hT1⟩, hr⟩
                · subst hn0
                  subst hc0
                  subst had
                  have hP1 := vaP_perm (pm4 _ _ _ _ _) hP
                  have hD1 := vaD_perm (pm4 _ _ _ _ _) hD
                  refine whS (As := [.ref (ad 0), .int (nI p9), .int (nI k9), .int (nI q9), .int (xs (i + 4)), .int (xs (i + 5)), .int (xs (i + 6)), .ref oo]) (rest := []) ⟨hx, hb, hml, hown, hts⟩ hT hR hK 8 (w_layA l hl9 D cs (ad 6) mi H p9 k9 q9 (xs (i + 4)) (xs (i + 5)) (xs (i + 6)) hpa hk hq s1 s2 w1 w2 b1 b2 hle hN (fun ov w1 => ∃ (qa xw : Nat) (f9 : Nat → Int64), f9 0 = (nI 0).toInt64 ∧ ov = some (.int 0) ∧ w1 = (wX cs ((fun j => if j = 6 then qa else ad j)) bank rnds cnt (mcn + 1) N (0 + 1) su fa (upd puX p9 (puX p9 - xs (i + 4))) ++ ([wE cs (fun j => if j = 6 then qa else ad j) 10 (va_up (fun _ => none) 0 (some xw))] ++ ([wG (fun j => if j = 0 then xw else wa j) (fun j => if j = 0 then (wvF (nI p9) (nI k9) (nI q9) (xs (i + 4)) (brX (xs (i + 4)) (xs (i + 5)) (xs (i + 6))) (nI (cn (comesX su fa k9 (nI q9)) N))) else wf j) 0] ++ wO cs oo f9))) ++ (wM cs am th bank rnds dn N 0 fc puM wh kn nm sk br ht sg ++ (wB cs od fd ++ T))) (fun qa xw f9 h9 => ⟨qa, xw, f9, h9, rfl, by rw [wG_new] <;> rfl⟩) hP1 (hD1.weaken (fun _ _ _ _ => trivial))) (gin_h mw_11_2 mw_11_3 mw_4_10 mw_11_4) (by decide +kernel) ⟨Nat.le_of_ble_eq_true rfl, Nat.le_of_ble_eq_true rfl⟩ rfl hl.1 rfl (Nat.le_of_ble_eq_true rfl) dL_law_542 ⟨Nat.le_trans (show cells + 2 ≤ cells + 4 by omega) hrm.1, Nat.le_trans (show slots + 16 ≤ slots + 64 by omega) hrm.2⟩ hD1 hS hA (fun ov9 w9 H locs hp9 hP hD hS => ?_)
                  obtain ⟨qa, xw, f9, h9, rfl, rfl⟩ := hp9
                  clear hP1 hD1
                  have hP := vaP_perm (pm5 _ _ _ _ _ _ _).symm hP
                  have hD := vaD_perm (pm5 _ _ _ _ _ _ _).symm hD
                  refine L_b6 CC hS hl hi e1 e2 e3 rfl rfl rfl (fun ls hl => ?_)
                  refine L_m CC (n9 := 6) (As := [.int (nI p9), .int (nI k9), .int (nI q9), .int (xs (i + 4)), .int (xs (i + 5)), .int (xs (i + 6))]) (rest := []) (M1 := (fun sg => wM cs am 0 bank rnds dn N (0 + 1) fc (upd puM p9 (puM p9 - xs (i + 4))) (upd wh 0 (nI p9)) (upd kn 0 (nI k9)) (upd nm 0 (nI q9)) (upd sk 0 (xs (i + 4))) (upd br 0 (xs (i + 4) * xs (i + 5) / xs (i + 6))) (hitM ht (fun o => comesM fn dn k9 (nI q9) o) 0 N) sg)) (v := .int (nI 0)) (mc := 0) (ms := 0) hP hD hS (fun post hp hP hD => mp_lay l D cs H hFM p9 k9 q9 _ _ _ hpa hk hq hv hv2 hs hw hy (ne0_lo b1) hn hle2 post (hp sg) hP hD) (gin_v mw_14_13 mw_14_14 mw_14_15 mw_1_5 mw_14_16) (by decide +kernel) ⟨Nat.le_of_ble_eq_true rfl, Nat.le_of_ble_eq_true rfl⟩ rfl hl.1 rfl (Nat.le_of_ble_eq_true rfl) dL_law_585 ⟨Nat.le_trans (show cells + 2 + 0 ≤ cells + 4 by omega) hrm.1, Nat.le_trans (show slots + 16 + 0 ≤ slots + 64 by omega) hrm.2⟩ (fun H locs sg hP hD hS => ?_)
                  exact L_t6 CC rfl rfl (hF.lay hn hpa hk hq s1 s2 w1 w2 b1 b2 (ad' := (fun j => if j = 6 then qa else ad j)) (cap' := 10) (rf' := (va_up (fun _ => none) 0 (some xw))) (wa' := (fun j => if j = 0 then xw else wa j)) (LT.lay (Or.inl rfl) (by omega) (T2 := T) (fun j hj => absurd hj (Nat.not_lt_zero j)) (fun j hj => absurd hj (Nat.not_lt_zero j)) rfl)) hP hD hS hl (fun _ => h9) hrm (show cells + 2 + 0 ≤ cells + 4 by omega) (show slots + 16 + 0 ≤ slots + 64 by omega) k
                · subst eT
                  by_cases hnc2 : n < cap
                  · skip
                    have hP : va_P D vwCl (wM cs am th bank rnds dn N n fc puM wh kn nm sk br ht sg ++ (wO cs oo fo ++ (wB cs od fd ++ (wX cs ad bank rnds cnt mcn N n su fa puX ++ ([wE cs ad cap rf] ++ T1))))) H := hP
                    have hD : va_D A (wM cs am th bank rnds dn N n fc puM wh kn nm sk br ht sg ++ (wO cs oo fo ++ (wB cs od fd ++ (wX cs ad bank rnds cnt mcn N n su fa puX ++ ([wE cs ad cap rf] ++ T1))))) := hD
                    have hP1 := vaP_perm (pm3 _ _ _ _ _ _) hP
                    have hD1 := vaD_perm (pm3 _ _ _ _ _ _) hD
                    refine whS (As := [.ref (ad 0), .int (nI p9), .int (nI k9), .int (nI q9), .int (xs (i + 4)), .int (xs (i + 5)), .int (xs (i + 6)), .ref oo]) (rest := []) ⟨hx, hb, hml, hown, hts⟩ hT hR hK 8 (w_lay l hl9 D cs z mi H p9 k9 q9 (xs (i + 4)) (xs (i + 5)) (xs (i + 6)) hpa hk hq s1 s2 w1 w2 b1 b2 hle hN hnc2 hn (by omega) (fun ov w1 => ∃ (xw : Nat) (f9 : Nat → Int64), f9 0 = (nI n).toInt64 ∧ ov = some (.int 0) ∧ w1 = (wX cs ad bank rnds cnt (mcn + 1) N (n + 1) su fa (upd puX p9 (puX p9 - xs (i + 4))) ++ ([wE cs ad cap (va_up rf n (some xw))] ++ ([wG (fun j => if j = n then xw else wa j) (fun j => if j = n then (wvF (nI p9) (nI k9) (nI q9) (xs (i + 4)) (brX (xs (i + 4)) (xs (i + 5)) (xs (i + 6))) (nI (cn (comesX su fa k9 (nI q9)) N))) else wf j) n] ++ wO cs oo f9))) ++ (wM cs am th bank rnds dn N n fc puM wh kn nm sk br ht sg ++ (wB cs od fd ++ T1))) (fun xw f9 h9 => ⟨xw, f9, h9, rfl, by rw [wG_new] <;> rfl⟩) hP1 (hD1.weaken (fun _ _ _ _ => trivial))) (gin_h mw_11_2 mw_11_3 mw_4_10 mw_11_4) (by decide +kernel) ⟨Nat.le_of_ble_eq_true rfl, Nat.le_of_ble_eq_true rfl⟩ rfl hl.1 rfl (Nat.le_of_ble_eq_true rfl) dL_law_542 ⟨Nat.le_trans (show cells + 1 ≤ cells + 4 by omega) hrm.1, Nat.le_trans (show slots + 6 ≤ slots + 64 by omega) hrm.2⟩ hD1 hS hA (fun ov9 w9 H locs hp9 hP hD hS => ?_)
                    obtain ⟨xw, f9, h9, rfl, rfl⟩ := hp9
                    clear hP1 hD1
                    have hP := vaP_perm (pm5 _ _ _ _ _ _ _).symm hP
                    have hD := vaD_perm (pm5 _ _ _ _ _ _ _).symm hD
                    refine L_b6 CC hS hl hi e1 e2 e3 rfl rfl rfl (fun ls hl => ?_)
                    refine L_m CC (n9 := 6) (As := [.int (nI p9), .int (nI k9), .int (nI q9), .int (xs (i + 4)), .int (xs (i + 5)), .int (xs (i + 6))]) (rest := []) (M1 := (fun sg => wM cs am 0 bank rnds dn N (n + 1) fc (upd puM p9 (puM p9 - xs (i + 4))) (upd wh n (nI p9)) (upd kn n (nI k9)) (upd nm n (nI q9)) (upd sk n (xs (i + 4))) (upd br n (xs (i + 4) * xs (i + 5) / xs (i + 6))) (hitM ht (fun o => comesM fn dn k9 (nI q9) o) n N) sg)) (v := .int (nI n)) (mc := 0) (ms := 0) hP hD hS (fun post hp hP hD => mp_lay l D cs H hFM p9 k9 q9 _ _ _ hpa hk hq hv hv2 hs hw hy (ne0_lo b1) hn hle2 post (hp sg) hP hD) (gin_v mw_14_13 mw_14_14 mw_14_15 mw_1_5 mw_14_16) (by decide +kernel) ⟨Nat.le_of_ble_eq_true rfl, Nat.le_of_ble_eq_true rfl⟩ rfl hl.1 rfl (Nat.le_of_ble_eq_true rfl) dL_law_585 ⟨Nat.le_trans (show cells + 1 + 0 ≤ cells + 4 by omega) hrm.1, Nat.le_trans (show slots + 6 + 0 ≤ slots + 64 by omega) hrm.2⟩ (fun H locs sg hP hD hS => ?_)
                    exact L_t6 CC rfl rfl (hF.lay hn hpa hk hq s1 s2 w1 w2 b1 b2 (ad' := ad) (cap' := cap) (rf' := (va_up rf n (some xw))) (wa' := (fun j => if j = n then xw else wa j)) (LT.lay hc (by omega) hT1 (fun j hj => (if_neg (by omega)).trans (hr j hj)) (if_pos rfl))) hP hD hS hl (fun _ => h9) hrm (show cells + 1 + 0 ≤ cells + 4 by omega) (show slots + 6 + 0 ≤ slots + 64 by omega) k
                  · have hn10 : n = 10 := by omega
                    have hc10 : cap = 10 := by omega
                    subst hn10
                    subst hc10
                    have hP : va_P D vwCl (wM cs am th bank rnds dn N 10 fc puM wh kn nm sk br ht sg ++ (wO cs oo fo ++ (wB cs od fd ++ (wX cs ad bank rnds cnt mcn N 10 su fa puX ++ ([wE cs ad 10 rf] ++ T1))))) H := hP
                    have hD : va_D A (wM cs am th bank rnds dn N 10 fc puM wh kn nm sk br ht sg ++ (wO cs oo fo ++ (wB cs od fd ++ (wX cs ad bank rnds cnt mcn N 10 su fa puX ++ ([wE cs ad 10 rf] ++ T1))))) := hD
                    have hP1 := vaP_perm (pm3 _ _ _ _ _ _) hP
                    have hD1 := vaD_perm (pm3 _ _ _ _ _ _) hD
                    refine whS (As := [.ref (ad 0), .int (nI p9), .int (nI k9), .int (nI q9), .int (xs (i + 4)), .int (xs (i + 5)), .int (xs (i + 6)), .ref oo]) (rest := []) ⟨hx, hb, hml, hown, hts⟩ hT hR hK 8 (w_layB l hl9 D cs z mi H p9 k9 q9 (xs (i + 4)) (xs (i + 5)) (xs (i + 6)) hpa hk hq s1 s2 w1 w2 b1 b2 hle hN (fun j hj => List.mem_append_right _ (List.mem_append_right _ (hT1 j hj))) hr (fun ov w1 => ∃ (qa xw : Nat) (f9 : Nat → Int64), f9 0 = (nI 10).toInt64 ∧ ov = some (.int 0) ∧ w1 = (wX cs ((fun j => if j = 6 then qa else ad j)) bank rnds cnt (mcn + 1) N (10 + 1) su fa (upd puX p9 (puX p9 - xs (i + 4))) ++ ([wE cs (fun j => if j = 6 then qa else ad j) 15 (va_up (va_cpy rf (fun _ => none) 0 0 10) 10 (some xw))] ++ ([wG (fun j => if j = 10 then xw else wa j) (fun j => if j = 10 then (wvF (nI p9) (nI k9) (nI q9) (xs (i + 4)) (brX (xs (i + 4)) (xs (i + 5)) (xs (i + 6))) (nI (cn (comesX su fa k9 (nI q9)) N))) else wf j) 10] ++ ([wE cs ad 10 rf] ++ wO cs oo f9)))) ++ (wM cs am th bank rnds dn N 10 fc puM wh kn nm sk br ht sg ++ (wB cs od fd ++ T1))) (fun qa xw f9 h9 => ⟨qa, xw, f9, h9, rfl, by rw [wG_new] <;> rfl⟩) hP1 (hD1.weaken (fun _ _ _ _ => trivial))) (gin_h mw_11_2 mw_11_3 mw_4_10 mw_11_4) (by decide +kernel) ⟨Nat.le_of_ble_eq_true rfl, Nat.le_of_ble_eq_true rfl⟩ rfl hl.1 rfl (Nat.le_of_ble_eq_true rfl) dL_law_542 ⟨Nat.le_trans (show cells + 2 ≤ cells + 4 by omega) hrm.1, Nat.le_trans (show slots + 21 ≤ slots + 64 by omega) hrm.2⟩ hD1 hS hA (fun ov9 w9 H locs hp9 hP hD hS => ?_)
                    obtain ⟨qa, xw, f9, h9, rfl, rfl⟩ := hp9
                    clear hP1 hD1
                    have hP := vaP_perm (pm6 _ _ _ _ _ _ _ _).symm hP
                    have hD := vaD_perm (pm6 _ _ _ _ _ _ _ _).symm hD
                    refine L_b6 CC hS hl hi e1 e2 e3 rfl rfl rfl (fun ls hl => ?_)
                    refine L_m CC (n9 := 6) (As := [.int (nI p9), .int (nI k9), .int (nI q9), .int (xs (i + 4)), .int (xs (i + 5)), .int (xs (i + 6))]) (rest := []) (M1 := (fun sg => wM cs am 0 bank rnds dn N (10 + 1) fc (upd puM p9 (puM p9 - xs (i + 4))) (upd wh 10 (nI p9)) (upd kn 10 (nI k9)) (upd nm 10 (nI q9)) (upd sk 10 (xs (i + 4))) (upd br 10 (xs (i + 4) * xs (i + 5) / xs (i + 6))) (hitM ht (fun o => comesM fn dn k9 (nI q9) o) 10 N) sg)) (v := .int (nI 10)) (mc := 0) (ms := 0) hP hD hS (fun post hp hP hD => mp_lay l D cs H hFM p9 k9 q9 _ _ _ hpa hk hq hv hv2 hs hw hy (ne0_lo b1) hn hle2 post (hp sg) hP hD) (gin_v mw_14_13 mw_14_14 mw_14_15 mw_1_5 mw_14_16) (by decide +kernel) ⟨Nat.le_of_ble_eq_true rfl, Nat.le_of_ble_eq_true rfl⟩ rfl hl.1 rfl (Nat.le_of_ble_eq_true rfl) dL_law_585 ⟨Nat.le_trans (show cells + 2 + 0 ≤ cells + 4 by omega) hrm.1, Nat.le_trans (show slots + 21 + 0 ≤ slots + 64 by omega) hrm.2⟩ (fun H locs sg hP hD hS => ?_)
                    exact L_t6 CC rfl rfl (hF.lay hn hpa hk hq s1 s2 w1 w2 b1 b2 (ad' := (fun j => if j = 6 then qa else ad j)) (cap' := 15) (rf' := (va_up (va_cpy rf (fun _ => none) 0 0 10) 10 (some xw))) (wa' := (fun j => if j = 10 then xw else wa j)) (LT.lay (Or.inr rfl) (by omega) (T2 := wE cs ad 10 rf :: T1) (fun j hj => List.mem_cons_of_mem _ (hT1 j hj)) (fun j hj => rfB_at hj (hr j hj)) (if_pos rfl))) hP hD hS hl (fun _ => h9) hrm (show cells + 2 + 0 ≤ cells + 4 by omega) (show slots + 21 + 0 ≤ slots + 64 by omega) k
              · refine L_a6 CC hS hl hi e1 e2 e3 rfl rfl rfl ?_
                refine L_vr CC (n9 := 8) (K := 3) (As := [.ref (ad 0), .int (nI p9), .int (nI k9), .int (nI q9), .int (xs (i + 4)), .int (xs (i + 5)), .int (xs (i + 6)), .ref oo]) hP hD hS (fun post hp hP hD => v_lay7 l hl9 D cs z mi H (fun H9 h9 => hF.rx h9 (fun q hq => List.mem_append_right _ (List.mem_append_right _ (List.mem_append_right _ hq)))) p9 hpa k9 q9 hk hq _ s1 s2 _ w1 w2 _ b1 b2 hn hle post hp hP hD) (gin_h mw_11_2 mw_11_3 mw_4_10 mw_11_4) (by decide +kernel) ⟨Nat.le_of_ble_eq_true rfl, Nat.le_of_ble_eq_true rfl⟩ rfl hl.1 rfl dL_law_542 ⟨Nat.le_trans (show cells + 1 ≤ cells + 4 by omega) hrm.1, Nat.le_trans (show slots + 6 ≤ slots + 64 by omega) hrm.2⟩ (fun H locs hP hD hS => ?_)
                refine L_b6 CC hS hl hi e1 e2 e3 rfl rfl rfl (fun ls hl => ?_)
                refine L_m CC (n9 := 6) (As := [.int (nI p9), .int (nI k9), .int (nI q9), .int (xs (i + 4)), .int (xs (i + 5)), .int (xs (i + 6))]) (rest := []) (M1 := (fun sg => wM cs am 3 bank rnds dn N n fc puM wh kn nm sk br ht sg)) (v := .int 0) (mc := 0) (ms := 0) hP hD hS (fun post hp hP hD => mp_lay_no3 l D cs H hFM p9 k9 q9 _ _ _ hpa hk hq hv hv2 hs hw hy (ne0_lo b1) (Or.inr (by rw [← hpu p9 hpa]; exact hle)) post (hp sg) hP hD) (gin_v mw_14_13 mw_14_14 mw_14_15 mw_1_5 mw_14_16) (by decide +kernel) ⟨Nat.le_of_ble_eq_true rfl, Nat.le_of_ble_eq_true rfl⟩ rfl hl.1 rfl (Nat.le_of_ble_eq_true rfl) dL_law_585 ⟨Nat.le_trans (show cells + 1 + 0 ≤ cells + 4 by omega) hrm.1, Nat.le_trans (show slots + 6 + 0 ≤ slots + 64 by omega) hrm.2⟩ (fun H locs sg hP hD hS => ?_)
                exact L_t6 CC rfl rfl hF hP hD hS hl (fun z9 => absurd z9 (by decide)) hrm (show cells + 1 + 0 ≤ cells + 4 by omega) (show slots + 6 + 0 ≤ slots + 64 by omega) k
            · refine L_a6 CC hS hl hi e1 e2 e3 rfl rfl rfl ?_
              refine L_vr CC (n9 := 8) (K := 3) (As := [.ref (ad 0), .int (nI p9), .int (nI k9), .int (nI q9), .int (xs (i + 4)), .int (xs (i + 5)), .int (xs (i + 6)), .ref oo]) hP hD hS (fun post hp hP hD => v_lay6 l hl9 D cs z mi H (fun H9 h9 => hF.rx h9 (fun q hq => List.mem_append_right _ (List.mem_append_right _ (List.mem_append_right _ hq)))) p9 hpa k9 q9 hk hq _ s1 s2 _ w1 w2 _ b1 b2 (Nat.not_lt.mp hn) post hp hP hD) (gin_h mw_11_2 mw_11_3 mw_4_10 mw_11_4) (by decide +kernel) ⟨Nat.le_of_ble_eq_true rfl, Nat.le_of_ble_eq_true rfl⟩ rfl hl.1 rfl dL_law_542 ⟨Nat.le_trans (show cells + 1 ≤ cells + 4 by omega) hrm.1, Nat.le_trans (show slots + 6 ≤ slots + 64 by omega) hrm.2⟩ (fun H locs hP hD hS => ?_)
              refine L_b6 CC hS hl hi e1 e2 e3 rfl rfl rfl (fun ls hl => ?_)
              refine L_m CC (n9 := 6) (As := [.int (nI p9), .int (nI k9), .int (nI q9), .int (xs (i + 4)), .int (xs (i + 5)), .int (xs (i + 6))]) (rest := []) (M1 := (fun sg => wM cs am 3 bank rnds dn N n fc puM wh kn nm sk br ht sg)) (v := .int 0) (mc := 0) (ms := 0) hP hD hS (fun post hp hP hD => mp_lay_no3 l D cs H hFM p9 k9 q9 _ _ _ hpa hk hq hv hv2 hs hw hy (ne0_lo b1) (Or.inl (by omega)) post (hp sg) hP hD) (gin_v mw_14_13 mw_14_14 mw_14_15 mw_1_5 mw_14_16) (by decide +kernel) ⟨Nat.le_of_ble_eq_true rfl, Nat.le_of_ble_eq_true rfl⟩ rfl hl.1 rfl (Nat.le_of_ble_eq_true rfl) dL_law_585 ⟨Nat.le_trans (show cells + 1 + 0 ≤ cells + 4 by omega) hrm.1, Nat.le_trans (show slots + 6 + 0 ≤ slots + 64 by omega) hrm.2⟩ (fun H locs sg hP hD hS => ?_)
              exact L_t6 CC rfl rfl hF hP hD hS hl (fun z9 => absurd z9 (by decide)) hrm (show cells + 1 + 0 ≤ cells + 4 by omega) (show slots + 6 + 0 ≤ slots + 64 by omega) k
          · refine L_a6 CC hS hl hi e1 e2 e3 rfl rfl rfl ?_
            refine L_vr CC (n9 := 8) (K := 2) (As := [.ref (ad 0), .int (nI p9), .int (nI k9), .int (nI q9), .int (xs (i + 4)), .int (xs (i + 5)), .int (xs (i + 6)), .ref oo]) hP hD hS (fun post hp hP hD => v_lay5 l hl9 D cs z mi H (fun H9 h9 => hF.rx h9 (fun q hq => List.mem_append_right _ (List.mem_append_right _ (List.mem_append_right _ hq)))) p9 hpa k9 q9 hk hq _ s1 s2 _ w1 w2 _ hz post hp hP hD) (gin_h mw_11_2 mw_11_3 mw_4_10 mw_11_4) (by decide +kernel) ⟨Nat.le_of_ble_eq_true rfl, Nat.le_of_ble_eq_true rfl⟩ rfl hl.1 rfl dL_law_542 ⟨Nat.le_trans (show cells + 1 ≤ cells + 4 by omega) hrm.1, Nat.le_trans (show slots + 6 ≤ slots + 64 by omega) hrm.2⟩ (fun H locs hP hD hS => ?_)
            refine L_b6 CC hS hl hi e1 e2 e3 rfl rfl rfl (fun ls hl => ?_)
            refine L_m CC (n9 := 6) (As := [.int (nI p9), .int (nI k9), .int (nI q9), .int (xs (i + 4)), .int (xs (i + 5)), .int (xs (i + 6))]) (rest := []) (M1 := (fun sg => wM cs am 2 bank rnds dn N n fc puM wh kn nm sk br ht sg)) (v := .int 0) (mc := 0) (ms := 0) hP hD hS (fun post hp hP hD => mp_lay_no2 l D cs H hFM _ _ _ _ _ _ hv (by rw [hv2, hs, hw, hy] <;> rfl) post (hp sg) hP hD) (gin_v mw_14_13 mw_14_14 mw_14_15 mw_1_5 mw_14_16) (by decide +kernel) ⟨Nat.le_of_ble_eq_true rfl, Nat.le_of_ble_eq_true rfl⟩ rfl hl.1 rfl (Nat.le_of_ble_eq_true rfl) dL_law_585 ⟨Nat.le_trans (show cells + 1 + 0 ≤ cells + 4 by omega) hrm.1, Nat.le_trans (show slots + 6 + 0 ≤ slots + 64 by omega) hrm.2⟩ (fun H locs sg hP hD hS => ?_)
            exact L_t6 CC rfl rfl hF hP hD hS hl (fun z9 => absurd z9 (by decide)) hrm (show cells + 1 + 0 ≤ cells + 4 by omega) (show slots + 6 + 0 ≤ slots + 64 by omega) k
        · refine L_a6 CC hS hl hi e1 e2 e3 rfl rfl rfl ?_
          refine L_vr CC (n9 := 8) (K := 2) (As := [.ref (ad 0), .int (nI p9), .int (nI k9), .int (nI q9), .int (xs (i + 4)), .int (xs (i + 5)), .int (xs (i + 6)), .ref oo]) hP hD hS (fun post hp hP hD => v_lay4 l hl9 D cs z mi H (fun H9 h9 => hF.rx h9 (fun q hq => List.mem_append_right _ (List.mem_append_right _ (List.mem_append_right _ hq)))) p9 hpa k9 q9 hk hq _ s1 s2 _ _ hz post hp hP hD) (gin_h mw_11_2 mw_11_3 mw_4_10 mw_11_4) (by decide +kernel) ⟨Nat.le_of_ble_eq_true rfl, Nat.le_of_ble_eq_true rfl⟩ rfl hl.1 rfl dL_law_542 ⟨Nat.le_trans (show cells + 1 ≤ cells + 4 by omega) hrm.1, Nat.le_trans (show slots + 6 ≤ slots + 64 by omega) hrm.2⟩ (fun H locs hP hD hS => ?_)
          refine L_b6 CC hS hl hi e1 e2 e3 rfl rfl rfl (fun ls hl => ?_)
          refine L_m CC (n9 := 6) (As := [.int (nI p9), .int (nI k9), .int (nI q9), .int (xs (i + 4)), .int (xs (i + 5)), .int (xs (i + 6))]) (rest := []) (M1 := (fun sg => wM cs am 2 bank rnds dn N n fc puM wh kn nm sk br ht sg)) (v := .int 0) (mc := 0) (ms := 0) hP hD hS (fun post hp hP hD => mp_lay_no2 l D cs H hFM _ _ _ _ _ _ hv (by rw [hv2, hs, hw] <;> rfl) post (hp sg) hP hD) (gin_v mw_14_13 mw_14_14 mw_14_15 mw_1_5 mw_14_16) (by decide +kernel) ⟨Nat.le_of_ble_eq_true rfl, Nat.le_of_ble_eq_true rfl⟩ rfl hl.1 rfl (Nat.le_of_ble_eq_true rfl) dL_law_585 ⟨Nat.le_trans (show cells + 1 + 0 ≤ cells + 4 by omega) hrm.1, Nat.le_trans (show slots + 6 + 0 ≤ slots + 64 by omega) hrm.2⟩ (fun H locs sg hP hD hS => ?_)
          exact L_t6 CC rfl rfl hF hP hD hS hl (fun z9 => absurd z9 (by decide)) hrm (show cells + 1 + 0 ≤ cells + 4 by omega) (show slots + 6 + 0 ≤ slots + 64 by omega) k
      · refine L_a6 CC hS hl hi e1 e2 e3 rfl rfl rfl ?_
        refine L_vr CC (n9 := 8) (K := 2) (As := [.ref (ad 0), .int (nI p9), .int (nI k9), .int (nI q9), .int (xs (i + 4)), .int (xs (i + 5)), .int (xs (i + 6)), .ref oo]) hP hD hS (fun post hp hP hD => v_lay3 l hl9 D cs z mi H (fun H9 h9 => hF.rx h9 (fun q hq => List.mem_append_right _ (List.mem_append_right _ (List.mem_append_right _ hq)))) p9 hpa k9 q9 hk hq _ _ _ hz post hp hP hD) (gin_h mw_11_2 mw_11_3 mw_4_10 mw_11_4) (by decide +kernel) ⟨Nat.le_of_ble_eq_true rfl, Nat.le_of_ble_eq_true rfl⟩ rfl hl.1 rfl dL_law_542 ⟨Nat.le_trans (show cells + 1 ≤ cells + 4 by omega) hrm.1, Nat.le_trans (show slots + 6 ≤ slots + 64 by omega) hrm.2⟩ (fun H locs hP hD hS => ?_)
        refine L_b6 CC hS hl hi e1 e2 e3 rfl rfl rfl (fun ls hl => ?_)
        refine L_m CC (n9 := 6) (As := [.int (nI p9), .int (nI k9), .int (nI q9), .int (xs (i + 4)), .int (xs (i + 5)), .int (xs (i + 6))]) (rest := []) (M1 := (fun sg => wM cs am 2 bank rnds dn N n fc puM wh kn nm sk br ht sg)) (v := .int 0) (mc := 0) (ms := 0) hP hD hS (fun post hp hP hD => mp_lay_no2 l D cs H hFM _ _ _ _ _ _ hv (by rw [hv2, hs] <;> rfl) post (hp sg) hP hD) (gin_v mw_14_13 mw_14_14 mw_14_15 mw_1_5 mw_14_16) (by decide +kernel) ⟨Nat.le_of_ble_eq_true rfl, Nat.le_of_ble_eq_true rfl⟩ rfl hl.1 rfl (Nat.le_of_ble_eq_true rfl) dL_law_585 ⟨Nat.le_trans (show cells + 1 + 0 ≤ cells + 4 by omega) hrm.1, Nat.le_trans (show slots + 6 + 0 ≤ slots + 64 by omega) hrm.2⟩ (fun H locs sg hP hD hS => ?_)
        exact L_t6 CC rfl rfl hF hP hD hS hl (fun z9 => absurd z9 (by decide)) hrm (show cells + 1 + 0 ≤ cells + 4 by omega) (show slots + 6 + 0 ≤ slots + 64 by omega) k
    · refine L_a6 CC hS hl hi e1 rfl rfl rfl rfl rfl ?_
      refine L_vr CC (n9 := 8) (K := 2) (As := [.ref (ad 0), .int (nI p9), .int (xs (i + 2)), .int (xs (i + 3)), .int (xs (i + 4)), .int (xs (i + 5)), .int (xs (i + 6)), .ref oo]) hP hD hS (fun post hp hP hD => v_lay2 l hl9 D cs z mi H (fun H9 h9 => hF.rx h9 (fun q hq => List.mem_append_right _ (List.mem_append_right _ (List.mem_append_right _ hq)))) p9 hpa _ _ ho _ _ _ post hp hP hD) (gin_h mw_11_2 mw_11_3 mw_4_10 mw_11_4) (by decide +kernel) ⟨Nat.le_of_ble_eq_true rfl, Nat.le_of_ble_eq_true rfl⟩ rfl hl.1 rfl dL_law_542 ⟨Nat.le_trans (show cells + 1 ≤ cells + 4 by omega) hrm.1, Nat.le_trans (show slots + 6 ≤ slots + 64 by omega) hrm.2⟩ (fun H locs hP hD hS => ?_)
      refine L_b6 CC hS hl hi e1 rfl rfl rfl rfl rfl (fun ls hl => ?_)
      refine L_m CC (n9 := 6) (As := [.int (nI p9), .int (xs (i + 2)), .int (xs (i + 3)), .int (xs (i + 4)), .int (xs (i + 5)), .int (xs (i + 6))]) (rest := []) (M1 := (fun sg => wM cs am 2 bank rnds dn N n fc puM wh kn nm sk br ht sg)) (v := .int 0) (mc := 0) (ms := 0) hP hD hS (fun post hp hP hD => mp_lay_no2 l D cs H hFM _ _ _ _ _ _ hv (by rw [hw] <;> rfl) post (hp sg) hP hD) (gin_v mw_14_13 mw_14_14 mw_14_15 mw_1_5 mw_14_16) (by decide +kernel) ⟨Nat.le_of_ble_eq_true rfl, Nat.le_of_ble_eq_true rfl⟩ rfl hl.1 rfl (Nat.le_of_ble_eq_true rfl) dL_law_585 ⟨Nat.le_trans (show cells + 1 + 0 ≤ cells + 4 by omega) hrm.1, Nat.le_trans (show slots + 6 + 0 ≤ slots + 64 by omega) hrm.2⟩ (fun H locs sg hP hD hS => ?_)
      exact L_t6 CC rfl rfl hF hP hD hS hl (fun z9 => absurd z9 (by decide)) hrm (show cells + 1 + 0 ≤ cells + 4 by omega) (show slots + 6 + 0 ≤ slots + 64 by omega) k
  · refine L_a6 CC hS hl hi rfl rfl rfl rfl rfl rfl ?_
    refine L_vr CC (n9 := 8) (K := 1) (As := [.ref (ad 0), .int (xs (i + 1)), .int (xs (i + 2)), .int (xs (i + 3)), .int (xs (i + 4)), .int (xs (i + 5)), .int (xs (i + 6)), .ref oo]) hP hD hS (fun post hp hP hD => v_lay1 l hl9 D cs z mi H (fun H9 h9 => hF.rx h9 (fun q hq => List.mem_append_right _ (List.mem_append_right _ (List.mem_append_right _ hq)))) _ ho _ _ _ _ _ post hp hP hD) (gin_h mw_11_2 mw_11_3 mw_4_10 mw_11_4) (by decide +kernel) ⟨Nat.le_of_ble_eq_true rfl, Nat.le_of_ble_eq_true rfl⟩ rfl hl.1 rfl dL_law_542 ⟨Nat.le_trans (show cells + 1 ≤ cells + 4 by omega) hrm.1, Nat.le_trans (show slots + 6 ≤ slots + 64 by omega) hrm.2⟩ (fun H locs hP hD hS => ?_)
    refine L_b6 CC hS hl hi rfl rfl rfl rfl rfl rfl (fun ls hl => ?_)
    refine L_m CC (n9 := 6) (As := [.int (xs (i + 1)), .int (xs (i + 2)), .int (xs (i + 3)), .int (xs (i + 4)), .int (xs (i + 5)), .int (xs (i + 6))]) (rest := []) (M1 := (fun sg => wM cs am 1 bank rnds dn N n fc puM wh kn nm sk br ht sg)) (v := .int 0) (mc := 0) (ms := 0) hP hD hS (fun post hp hP hD => mp_lay_no1 l D cs H hFM _ _ _ _ _ _ hv post (hp sg) hP hD) (gin_v mw_14_13 mw_14_14 mw_14_15 mw_1_5 mw_14_16) (by decide +kernel) ⟨Nat.le_of_ble_eq_true rfl, Nat.le_of_ble_eq_true rfl⟩ rfl hl.1 rfl (Nat.le_of_ble_eq_true rfl) dL_law_585 ⟨Nat.le_trans (show cells + 1 + 0 ≤ cells + 4 by omega) hrm.1, Nat.le_trans (show slots + 6 + 0 ≤ slots + 64 by omega) hrm.2⟩ (fun H locs sg hP hD hS => ?_)
    exact L_t6 CC rfl rfl hF hP hD hS hl (fun z9 => absurd z9 (by decide)) hrm (show cells + 1 + 0 ≤ cells + 4 by omega) (show slots + 6 + 0 ≤ slots + 64 by omega) k
set_option maxHeartbeats 4000000 in
set_option maxRecDepth 100000 in
theorem L_c0 (CC : LC p l s m c b L xs D cs z mi A) (h1 : am 0 = a2) (h2 : ad 0 = a1) (hF : LF cs z ad cnt f1 f2 f3 dn N n cap fn fc puM wh kn nm sk br ht su fa puX rf wa wf T) (hP : va_P D vwCl (LWw cs am ad oo od bank rnds th cnt mcn dn N n fc puM wh kn nm sk br ht sg su fa puX fo fd T) H) (hD : va_D A (LWw cs am ad oo od bank rnds th cnt mcn dn N n fc puM wh kn nm sk br ht sg su fa puX fo fd T)) (hS : va_S A s.heap H locs) (hl : lv_has ls 9 (LL b a1 a2 oo od i)) (hi : i + 7 ≤ L) (hrm : cells + 4 ≤ 601024 ∧ slots + 64 ≤ 7293034) (k : LK p l e s m b below meth c Q D cs z A a1 a2 oo od i cells slots) : W p l e room_1 s m #[Value.ref b] below meth c H locs cells slots Q (F0 m 184 ls []) := by
  subst h1
  subst h2
  obtain ⟨hx, hb, hml, hown, hts, hT, hR, hK, hA, hX, hbl, hbA, hL, hl9⟩ := id CC
  obtain ⟨hN1, hN, hn12⟩ := hF.N1
  obtain ⟨hDC, hla, hFM, hWR, hpu, hB, hcnt, hLT⟩ := id hF
  rcases Bool.eq_false_or_eq_true (inM (xs (i + 1)) 2 12 && (decide (xs (i + 2) = 0) || inM (xs (i + 2)) 2 12) && (decide (xs (i + 3) = 0) || inM (xs (i + 3)) 2 12) && (!decide (xs (i + 2) = 0) || decide (xs (i + 3) = 0))) with hv | hv
  · rcases Nat.eq_zero_or_pos n with hn0 | hn0
    · subst hn0
      have hv0 := hv
      rw [Bool.and_eq_true, Bool.and_eq_true, Bool.and_eq_true] at hv
      obtain ⟨⟨⟨ha, hb9⟩, hc9⟩, hd9⟩ := hv
      obtain ⟨g1, a1, a2, e1⟩ := die_ex ha
      obtain ⟨g2, hg2, b2, e2⟩ := dieN_ex hb9
      obtain ⟨g3, hg3, c2, e3⟩ := dieN_ex hc9
      rw [e1] at ha
      rw [e2] at hb9
      rw [e3] at hc9
      rw [e2, e3] at hd9
      have hNN : g1 * exN g2 * exN g3 ≤ 1728 := Nat.le_trans (Nat.mul_le_mul (Nat.mul_le_mul a2 (ex_le b2)) (ex_le c2)) (by decide)
      refine L_a0 CC hS hl hi e1 e2 e3 ?_
      rcases hg2 with hz2 | ⟨hg2, hi2⟩
      · subst hz2
        have hz3 : g3 = 0 := by
          rcases hg3 with z9 | ⟨z9, -⟩
          · exact z9
          · refine absurd hd9 ?_
            rw [decide_eq_true (show nI 0 = 0 from rfl), decide_eq_false (nI_ne0 (show 0 < g3 by omega) (by omega))]
            decide
        subst hz3
        have hP1 := vaP_perm (pm4 _ _ _ _ _) hP
        have hD1 := vaD_perm (pm4 _ _ _ _ _) hD
        refine whS (As := [.ref (ad 0), .int (nI g1), .int (nI 0), .int (nI 0), .ref oo]) (rest := []) ⟨hx, hb, hml, hown, hts⟩ hT hR hK 5 (w_setDice1 l hl9 D cs z mi H g1 0 0 a2 b2 c2 rfl rfl ha hb9 hc9 hNN (fun ov w1 => ∃ (sl fl : Nat → Int32) (f9 : Nat → Int64), f9 0 = (nI (g1 * exN 0 * exN 0)).toInt64 ∧ laid 0 0 sl fl (g1 * exN 0 * exN 0) ∧ ov = some (.int 0) ∧ w1 = (wX cs ad bank rnds (nI (1 + 0 + 0)) mcn (g1 * exN 0 * exN 0) 0 sl fl puX ++ wO cs oo f9) ++ (wM cs am th bank rnds dn N 0 fc puM wh kn nm sk br ht sg ++ (wB cs od fd ++ T))) (fun sl fl f9 h9 hl9 => ⟨sl, fl, f9, h9, hl9, rfl, rfl⟩) hP1 (hD1.weaken (fun _ _ _ _ => trivial))) (gin_h mw_4_8 mw_4_9 mw_4_10 mw_4_11) (by decide +kernel) ⟨Nat.le_of_ble_eq_true rfl, Nat.le_of_ble_eq_true rfl⟩ rfl hl.1 rfl (Nat.le_of_ble_eq_true rfl) dL_law_204 ⟨Nat.le_trans (show cells + 0 ≤ cells + 4 by omega) hrm.1, Nat.le_trans (show slots + 0 ≤ slots + 64 by omega) hrm.2⟩ hD1 hS hA (fun ov9 w9 H locs hp9 hP hD hS => ?_)
        obtain ⟨sl, fl, f9, h9, hla9, rfl, rfl⟩ := hp9
        clear hP1 hD1
        have hP := vaP_perm (pm4 _ _ _ _ _).symm hP
        have hD := vaD_perm (pm4 _ _ _ _ _).symm hD
        have hF' := hF.dice (g1 := g1) (g2 := 0) (g3 := 0) (dn' := 1) (N' := g1 * exN 0 * exN 0) ⟨a1, a2⟩ b2 c2 (fun _ => rfl) rfl rfl hla9
        refine L_b0 CC hS hl hi e1 (x2 := 0) e2 (x3 := 0) e3 (fun ls hl => ?_)
        refine L_m CC (n9 := 3) (As := [.int (nI g1), .int 0, .int 0]) (rest := []) (M1 := (fun sg => wM cs am 0 bank rnds 1 (g1 * 1 * 1) 0 (upd (upd (upd fc 0 (nI g1)) 1 (nI 1)) 2 (nI 1)) puM wh kn nm sk br ht sg)) (v := .int (nI (g1 * 1 * 1))) (mc := 0) (ms := 0) hP hD hS (fun post hp hP hD => mp_setDice1 l D cs H hFM g1 ha ⟨a1, a2⟩ post (hp sg) hP hD) (gin_v mw_5_11 mw_5_12 mw_5_13 mw_1_5 mw_5_14) (by decide +kernel) ⟨Nat.le_of_ble_eq_true rfl, Nat.le_of_ble_eq_true rfl⟩ rfl hl.1 rfl (Nat.le_of_ble_eq_true rfl) dL_law_228 ⟨Nat.le_trans (show cells + 0 + 0 ≤ cells + 4 by omega) hrm.1, Nat.le_trans (show slots + 0 + 0 ≤ slots + 64 by omega) hrm.2⟩ (fun H locs sg hP hD hS => ?_)
        exact L_t0 CC rfl rfl hF' hP hD hS hl (fun _ => h9) hrm (show cells + 0 + 0 ≤ cells + 4 by omega) (show slots + 0 + 0 ≤ slots + 64 by omega) k
      · rcases hg3 with hz3 | ⟨hg3, hi3⟩
        · subst hz3
          have hP1 := vaP_perm (pm4 _ _ _ _ _) hP
          have hD1 := vaD_perm (pm4 _ _ _ _ _) hD
          refine whS (As := [.ref (ad 0), .int (nI g1), .int (nI g2), .int (nI 0), .ref oo]) (rest := []) ⟨hx, hb, hml, hown, hts⟩ hT hR hK 5 (w_setDice2 l hl9 D cs z mi H g1 g2 0 a2 b2 c2 (by omega) rfl ha hb9 hc9 hNN (fun ov w1 => ∃ (sl fl : Nat → Int32) (f9 : Nat → Int64), f9 0 = (nI (g1 * exN g2 * exN 0)).toInt64 ∧ laid g2 0 sl fl (g1 * exN g2 * exN 0) ∧ ov = some (.int 0) ∧ w1 = (wX cs ad bank rnds (nI (1 + 1 + 0)) mcn (g1 * exN g2 * exN 0) 0 sl fl puX ++ wO cs oo f9) ++ (wM cs am th bank rnds dn N 0 fc puM wh kn nm sk br ht sg ++ (wB cs od fd ++ T))) (fun sl fl f9 h9 hl9 => ⟨sl, fl, f9, h9, hl9, rfl, rfl⟩) hP1 (hD1.weaken (fun _ _ _ _ => trivial))) (gin_h mw_4_8 mw_4_9 mw_4_10 mw_4_11) (by decide +kernel) ⟨Nat.le_of_ble_eq_true rfl, Nat.le_of_ble_eq_true rfl⟩ rfl hl.1 rfl (Nat.le_of_ble_eq_true rfl) dL_law_204 ⟨Nat.le_trans (show cells + 0 ≤ cells + 4 by omega) hrm.1, Nat.le_trans (show slots + 0 ≤ slots + 64 by omega) hrm.2⟩ hD1 hS hA (fun ov9 w9 H locs hp9 hP hD hS => ?_)
          obtain ⟨sl, fl, f9, h9, hla9, rfl, rfl⟩ := hp9
          clear hP1 hD1
          have hP := vaP_perm (pm4 _ _ _ _ _).symm hP
          have hD := vaD_perm (pm4 _ _ _ _ _).symm hD
          have hF' := hF.dice (g1 := g1) (g2 := g2) (g3 := 0) (dn' := 2) (N' := g1 * exN g2 * exN 0) ⟨a1, a2⟩ b2 c2 (fun _ => rfl) (by rw [if_neg (by omega)] <;> rfl) rfl hla9
          rw [show exN g2 = g2 from if_neg (by omega)] at hP hD h9 hF'
          refine L_b0 CC hS hl hi e1 (x2 := nI g2) e2 (x3 := 0) e3 (fun ls hl => ?_)
          refine L_m CC (n9 := 3) (As := [.int (nI g1), .int (nI g2), .int 0]) (rest := []) (M1 := (fun sg => wM cs am 0 bank rnds 2 (g1 * g2 * 1) 0 (upd (upd (upd fc 0 (nI g1)) 1 (nI g2)) 2 (nI 1)) puM wh kn nm sk br ht sg)) (v := .int (nI (g1 * g2 * 1))) (mc := 0) (ms := 0) hP hD hS (fun post hp hP hD => mp_setDice2 l D cs H hFM g1 ha ⟨a1, a2⟩ g2 hi2 ⟨hg2, b2⟩ post (hp sg) hP hD) (gin_v mw_5_11 mw_5_12 mw_5_13 mw_1_5 mw_5_14) (by decide +kernel) ⟨Nat.le_of_ble_eq_true rfl, Nat.le_of_ble_eq_true rfl⟩ rfl hl.1 rfl (Nat.le_of_ble_eq_true rfl) dL_law_228 ⟨Nat.le_trans (show cells + 0 + 0 ≤ cells + 4 by omega) hrm.1, Nat.le_trans (show slots + 0 + 0 ≤ slots + 64 by omega) hrm.2⟩ (fun H locs sg hP hD hS => ?_)
          exact L_t0 CC rfl rfl hF' hP hD hS hl (fun _ => h9) hrm (show cells + 0 + 0 ≤ cells + 4 by omega) (show slots + 0 + 0 ≤ slots + 64 by omega) k
        · skip
          have hP1 := vaP_perm (pm4 _ _ _ _ _) hP
          have hD1 := vaD_perm (pm4 _ _ _ _ _) hD
          refine whS (As := [.ref (ad 0), .int (nI g1), .int (nI g2), .int (nI g3), .ref oo]) (rest := []) ⟨hx, hb, hml, hown, hts⟩ hT hR hK 5 (w_setDice3 l hl9 D cs z mi H g1 g2 g3 a2 b2 c2 (by omega) (by omega) ha hb9 hc9 hNN (fun ov w1 => ∃ (sl fl : Nat → Int32) (f9 : Nat → Int64), f9 0 = (nI (g1 * exN g2 * exN g3)).toInt64 ∧ laid g2 g3 sl fl (g1 * exN g2 * exN g3) ∧ ov = some (.int 0) ∧ w1 = (wX cs ad bank rnds (nI (1 + 1 + 1)) mcn (g1 * exN g2 * exN g3) 0 sl fl puX ++ wO cs oo f9) ++ (wM cs am th bank rnds dn N 0 fc puM wh kn nm sk br ht sg ++ (wB cs od fd ++ T))) (fun sl fl f9 h9 hl9 => ⟨sl, fl, f9, h9, hl9, rfl, rfl⟩) hP1 (hD1.weaken (fun _ _ _ _ => trivial))) (gin_h mw_4_8 mw_4_9 mw_4_10 mw_4_11) (by decide +kernel) ⟨Nat.le_of_ble_eq_true rfl, Nat.le_of_ble_eq_true rfl⟩ rfl hl.1 rfl (Nat.le_of_ble_eq_true rfl) dL_law_204 ⟨Nat.le_trans (show cells + 0 ≤ cells + 4 by omega) hrm.1, Nat.le_trans (show slots + 0 ≤ slots + 64 by omega) hrm.2⟩ hD1 hS hA (fun ov9 w9 H locs hp9 hP hD hS => ?_)
          obtain ⟨sl, fl, f9, h9, hla9, rfl, rfl⟩ := hp9
          clear hP1 hD1
          have hP := vaP_perm (pm4 _ _ _ _ _).symm hP
          have hD := vaD_perm (pm4 _ _ _ _ _).symm hD
          have hF' := hF.dice (g1 := g1) (g2 := g2) (g3 := g3) (dn' := 3) (N' := g1 * exN g2 * exN g3) ⟨a1, a2⟩ b2 c2 (fun z9 => absurd z9 (by omega)) (by rw [if_neg (by omega), if_neg (by omega)] <;> rfl) rfl hla9
          rw [show exN g2 = g2 from if_neg (by omega)] at hP hD h9 hF'
          rw [show exN g3 = g3 from if_neg (by omega)] at hP hD h9 hF'
          refine L_b0 CC hS hl hi e1 (x2 := nI g2) e2 (x3 := nI g3) e3 (fun ls hl => ?_)
          refine L_m CC (n9 := 3) (As := [.int (nI g1), .int (nI g2), .int (nI g3)]) (rest := []) (M1 := (fun sg => wM cs am 0 bank rnds 3 (g1 * g2 * g3) 0 (upd (upd (upd fc 0 (nI g1)) 1 (nI g2)) 2 (nI g3)) puM wh kn nm sk br ht sg)) (v := .int (nI (g1 * g2 * g3))) (mc := 0) (ms := 0) hP hD hS (fun post hp hP hD => mp_setDice3 l D cs H hFM g1 ha ⟨a1, a2⟩ g2 hi2 ⟨hg2, b2⟩ g3 hi3 ⟨hg3, c2⟩ post (hp sg) hP hD) (gin_v mw_5_11 mw_5_12 mw_5_13 mw_1_5 mw_5_14) (by decide +kernel) ⟨Nat.le_of_ble_eq_true rfl, Nat.le_of_ble_eq_true rfl⟩ rfl hl.1 rfl (Nat.le_of_ble_eq_true rfl) dL_law_228 ⟨Nat.le_trans (show cells + 0 + 0 ≤ cells + 4 by omega) hrm.1, Nat.le_trans (show slots + 0 + 0 ≤ slots + 64 by omega) hrm.2⟩ (fun H locs sg hP hD hS => ?_)
          exact L_t0 CC rfl rfl hF' hP hD hS hl (fun _ => h9) hrm (show cells + 0 + 0 ≤ cells + 4 by omega) (show slots + 0 + 0 ≤ slots + 64 by omega) k
    · refine L_a0 CC hS hl hi rfl rfl rfl ?_
      refine L_vr CC (n9 := 5) (K := 2) (As := [.ref (ad 0), .int (xs (i + 1)), .int (xs (i + 2)), .int (xs (i + 3)), .ref oo]) hP hD hS (fun post hp hP hD => v_setDice2 l hl9 D cs z mi H (fun H9 h9 => hF.rx h9 (fun q hq => List.mem_append_right _ (List.mem_append_right _ (List.mem_append_right _ hq)))) _ _ _ hv hn0 post hp hP hD) (gin_h mw_4_8 mw_4_9 mw_4_10 mw_4_11) (by decide +kernel) ⟨Nat.le_of_ble_eq_true rfl, Nat.le_of_ble_eq_true rfl⟩ rfl hl.1 rfl dL_law_204 ⟨Nat.le_trans (show cells + 1 ≤ cells + 4 by omega) hrm.1, Nat.le_trans (show slots + 6 ≤ slots + 64 by omega) hrm.2⟩ (fun H locs hP hD hS => ?_)
      refine L_b0 CC hS hl hi rfl rfl rfl (fun ls hl => ?_)
      refine L_m CC (n9 := 3) (As := [.int (xs (i + 1)), .int (xs (i + 2)), .int (xs (i + 3))]) (rest := []) (M1 := (fun sg => wM cs am 2 bank rnds dn N n fc puM wh kn nm sk br ht sg)) (v := .int 0) (mc := 0) (ms := 0) hP hD hS (fun post hp hP hD => mp_setDice_no2 l D cs H hFM _ _ _ hv hn0 post (hp sg) hP hD) (gin_v mw_5_11 mw_5_12 mw_5_13 mw_1_5 mw_5_14) (by decide +kernel) ⟨Nat.le_of_ble_eq_true rfl, Nat.le_of_ble_eq_true rfl⟩ rfl hl.1 rfl (Nat.le_of_ble_eq_true rfl) dL_law_228 ⟨Nat.le_trans (show cells + 1 + 0 ≤ cells + 4 by omega) hrm.1, Nat.le_trans (show slots + 6 + 0 ≤ slots + 64 by omega) hrm.2⟩ (fun H locs sg hP hD hS => ?_)
      exact L_t0 CC rfl rfl hF hP hD hS hl (fun z9 => absurd z9 (by decide)) hrm (show cells + 1 + 0 ≤ cells + 4 by omega) (show slots + 6 + 0 ≤ slots + 64 by omega) k
  · refine L_a0 CC hS hl hi rfl rfl rfl ?_
    refine L_vr CC (n9 := 5) (K := 1) (As := [.ref (ad 0), .int (xs (i + 1)), .int (xs (i + 2)), .int (xs (i + 3)), .ref oo]) hP hD hS (fun post hp hP hD => v_setDice1 l hl9 D cs z mi H (fun H9 h9 => hF.rx h9 (fun q hq => List.mem_append_right _ (List.mem_append_right _ (List.mem_append_right _ hq)))) _ _ _ hv post hp hP hD) (gin_h mw_4_8 mw_4_9 mw_4_10 mw_4_11) (by decide +kernel) ⟨Nat.le_of_ble_eq_true rfl, Nat.le_of_ble_eq_true rfl⟩ rfl hl.1 rfl dL_law_204 ⟨Nat.le_trans (show cells + 1 ≤ cells + 4 by omega) hrm.1, Nat.le_trans (show slots + 6 ≤ slots + 64 by omega) hrm.2⟩ (fun H locs hP hD hS => ?_)
    refine L_b0 CC hS hl hi rfl rfl rfl (fun ls hl => ?_)
    refine L_m CC (n9 := 3) (As := [.int (xs (i + 1)), .int (xs (i + 2)), .int (xs (i + 3))]) (rest := []) (M1 := (fun sg => wM cs am 1 bank rnds dn N n fc puM wh kn nm sk br ht sg)) (v := .int 0) (mc := 0) (ms := 0) hP hD hS (fun post hp hP hD => mp_setDice_no1 l D cs H hFM _ _ _ hv post (hp sg) hP hD) (gin_v mw_5_11 mw_5_12 mw_5_13 mw_1_5 mw_5_14) (by decide +kernel) ⟨Nat.le_of_ble_eq_true rfl, Nat.le_of_ble_eq_true rfl⟩ rfl hl.1 rfl (Nat.le_of_ble_eq_true rfl) dL_law_228 ⟨Nat.le_trans (show cells + 1 + 0 ≤ cells + 4 by omega) hrm.1, Nat.le_trans (show slots + 6 + 0 ≤ slots + 64 by omega) hrm.2⟩ (fun H locs sg hP hD hS => ?_)
    exact L_t0 CC rfl rfl hF hP hD hS hl (fun z9 => absurd z9 (by decide)) hrm (show cells + 1 + 0 ≤ cells + 4 by omega) (show slots + 6 + 0 ≤ slots + 64 by omega) k
end Law
