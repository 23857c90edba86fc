/-! rows for the law -/
theorem vf_no {x : UInt64} : vf_n64 x ↔ FP.Core.dIsNaN x = false := by
  unfold vf_n64
  rw [UInt64.le_iff_toNat_le, UInt64.toNat_and]
  have h1 : (0x7fffffffffffffff : UInt64).toNat = 2 ^ 63 - 1 := by decide
  have h2 : (0x7ff0000000000000 : UInt64).toNat = 9218868437227405312 := by decide
  rw [h1, h2, Nat.and_two_pow_sub_one_eq_mod, ← Bool.not_eq_true, FP.Core.isNaN_bits]
  omega
theorem nan_ok {N : Nat} (h1 : 1 ≤ N) (hN : N ≤ 1728) (x : Int32) : vf_n64 (FP.ddiv (FP.i2d x) (FP.i2d (nI N))) := by
  rw [FP.ddiv_core, FP.i2d_core]
  exact vf_no.mpr (FP.Core.ddiv_out ((FP.Core.notNaN_iff _).mpr (FP.Core.i2d_fin x).ne_nan) (FP.Core.i2d_fin _) (fun z => FP.Core.i2d_ne_zero (nI_ne0 h1 (by omega)) ((FP.Core.zero_bits2 _).mp z)))
theorem dc_self {x : UInt64} {op : CmpOp} (h : vf_n64 x) : Op.cmpValue (FP.dcmp x x) op = 0 := by
  rw [FP.dcmp_core, FP.Core.dcmp_self ((FP.Core.notNaN_iff _).mp (vf_no.mp h))]
  cases op <;> rfl
theorem i32_le {a b : Int32} : a ≤ b ↔ a.toInt ≤ b.toInt := Int32.le_iff_toInt_le
theorem i32_lt {a b : Int32} : a < b ↔ a.toInt < b.toInt := Int32.lt_iff_toInt_lt
theorem t32_0 : ((0 : Int32)).toInt = 0 := by decide
theorem t32_1 : ((1 : Int32)).toInt = 1 := by decide
theorem t32_2 : ((2 : Int32)).toInt = 2 := by decide
theorem t32_5 : ((5 : Int32)).toInt = 5 := by decide
theorem t32_6 : ((6 : Int32)).toInt = 6 := by decide
theorem t32_9 : ((9 : Int32)).toInt = 9 := by decide
theorem t32_10 : ((10 : Int32)).toInt = 10 := by decide
theorem t32_12 : ((12 : Int32)).toInt = 12 := by decide
theorem t32_36 : ((36 : Int32)).toInt = 36 := by decide
theorem nI_m1I {n : Nat} (h : n < 2 ^ 30) : (nI n - 1).toInt = (n : Int) - 1 := pk_sub_toInt (b := 1) h (by omega)
theorem in_ix (x : Int32) {n : Nat} (hn : n < 2 ^ 30) : (∃ j : Nat, j < n ∧ x = nI j ∧ inM (nI j) 0 (nI n - 1) = true) ∨ ((x < 0 ∨ ¬ x < nI n) ∧ inM x 0 (nI n - 1) = false) := by
  have e := nI_m1I hn
  have en := nI_toInt (show n < 2 ^ 31 by omega)
  by_cases h1 : x < 0
  · exact Or.inr ⟨Or.inl h1, decide_eq_false (fun q => Int32.not_lt.mpr q.1 h1)⟩
  · by_cases h2 : x < nI n
    · obtain ⟨j, hj, rfl⟩ := nI_of h1
      have hj2 : j < n := (nI_ltI hj (by omega)).mp h2
      refine Or.inl ⟨j, hj2, rfl, decide_eq_true ⟨Int32.not_lt.mp h1, ?_⟩⟩
      rw [i32_le, e, nI_toInt hj]
      omega
    · refine Or.inr ⟨Or.inr h2, decide_eq_false (fun q => h2 ?_)⟩
      have a := i32_le.mp q.2
      rw [e] at a
      rw [i32_lt, en]
      omega
theorem in_6 (x : Int32) : (∃ j : Nat, j < 6 ∧ x = nI j ∧ inM (nI j) 0 5 = true) ∨ ((x < 0 ∨ ¬ x < 6) ∧ inM x 0 5 = false) := in_ix x (n := 6) (by omega)
theorem in_lo (x h : Int32) : (¬ x < 1 ∧ x ≤ h ∧ inM x 1 h = true) ∨ ((x < 1 ∨ ¬ x ≤ h) ∧ inM x 1 h = false) := by
  by_cases a : x < 1
  · exact Or.inr ⟨Or.inl a, decide_eq_false (fun q => Int32.not_lt.mpr q.1 a)⟩
  · by_cases b : x ≤ h
    · exact Or.inl ⟨a, b, decide_eq_true ⟨Int32.not_lt.mp a, b⟩⟩
    · exact Or.inr ⟨Or.inr b, decide_eq_false (fun q => b q.2)⟩
theorem in_ev (k q : Int32) : (∃ i j : Nat, i < 10 ∧ j ≤ 36 ∧ k = nI i ∧ q = nI j ∧ (inM (nI i) 0 9 && inM (nI j) 0 36) = true) ∨ ((k < 0 ∨ 10 ≤ k ∨ q < 0 ∨ ¬ q ≤ 36) ∧ (inM k 0 9 && inM q 0 36) = false) := by
  rcases in_ix k (n := 10) (by omega) with ⟨i, hi, rfl, ei⟩ | ⟨hk, ek⟩
  · rcases in_ix q (n := 37) (by omega) with ⟨j, hj, rfl, ej⟩ | ⟨hq, eq⟩
    · refine Or.inl ⟨i, j, hi, by omega, rfl, rfl, ?_⟩
      have a : inM (nI i) 0 9 = true := ei
      have b : inM (nI j) 0 36 = true := ej
      rw [a, b]
      rfl
    · have b : inM q 0 36 = false := eq
      refine Or.inr ⟨Or.inr (Or.inr ?_), by rw [b, Bool.and_false]⟩
      rcases hq with hq | hq
      · exact Or.inl hq
      · refine Or.inr (fun z => hq ?_)
        have a := i32_le.mp z
        rw [t32_36] at a
        rw [i32_lt, nI_toInt (by omega)]
        omega
  · have b : inM k 0 9 = false := ek
    refine Or.inr ⟨?_, by rw [b, Bool.false_and]⟩
    rcases hk with hk | hk
    · exact Or.inl hk
    · exact Or.inr (Or.inl (Int32.not_lt.mp hk))
theorem die_ex {x : Int32} (h : inM x 2 12 = true) : ∃ j : Nat, 2 ≤ j ∧ j ≤ 12 ∧ x = nI j := by
  have q := of_decide_eq_true h
  have a := i32_le.mp q.1
  have b := i32_le.mp q.2
  rw [t32_2] at a
  rw [t32_12] at b
  obtain ⟨j, hj, rfl⟩ := nI_of (x := x) (fun z => by
    have c := i32_lt.mp z
    rw [t32_0] at c
    omega)
  rw [nI_toInt hj] at a b
  exact ⟨j, by omega, by omega, rfl⟩
theorem dieN_ex {x : Int32} (h : (decide (x = 0) || inM x 2 12) = true) : ∃ j : Nat, (j = 0 ∨ (2 ≤ j ∧ inM (nI j) 2 12 = true)) ∧ j ≤ 12 ∧ x = nI j := by
  rcases Bool.or_eq_true_iff.mp h with h | h
  · exact ⟨0, Or.inl rfl, by omega, of_decide_eq_true h⟩
  · obtain ⟨j, h1, h2, rfl⟩ := die_ex h
    exact ⟨j, Or.inr ⟨h1, h⟩, h2, rfl⟩
/-! orders of a world's blocks -/
theorem vaP_perm {D : va_G} {ws ws' : va_W} {H : Heap} (h : ws.Perm ws') (hP : va_P D vwCl ws H) : va_P D vwCl ws' H := vaP_mem hP (fun _ hq => h.mem_iff.mpr hq)
theorem pm1 {α : Type} (M O Y : List α) : (M ++ (O ++ Y)).Perm (O ++ (M ++ Y)) := by
  classical
  rw [List.perm_iff_count]; intro a; simp only [List.count_append]; omega
theorem pm2 {α : Type} (M O B Z : List α) : (M ++ (O ++ (B ++ Z))).Perm (B ++ (M ++ (O ++ Z))) := by
  classical
  rw [List.perm_iff_count]; intro a; simp only [List.count_append]; omega
theorem pm3 {α : Type} (M O B X E T : List α) : (M ++ (O ++ (B ++ (X ++ (E ++ T))))).Perm ((X ++ (E ++ O)) ++ (M ++ (B ++ T))) := by
  classical
  rw [List.perm_iff_count]; intro a; simp only [List.count_append]; omega
theorem pm4 {α : Type} (M O B X T : List α) : (M ++ (O ++ (B ++ (X ++ T)))).Perm ((X ++ O) ++ (M ++ (B ++ T))) := by
  classical
  rw [List.perm_iff_count]; intro a; simp only [List.count_append]; omega
/-! the law's world, and what holds of both sides -/
abbrev wO (cs : Nat → ClassId) (oo : Nat) (fo : Nat → Int64) : va_W := [(oo, .inl (cs 3, 1, .inr (.inl fo)))]
abbrev wB (cs : Nat → ClassId) (od : Nat) (fd : Nat → UInt64) : va_W := [(od, .inl (cs 4, 1, .inr (.inr (.inr (.inl fd)))))]
abbrev LWw (cs : Nat → ClassId) (am ad : Nat → Nat) (oo od : Nat) (bank rnds th cnt mcn : Int32) (dn N n : Nat) (fc puM wh kn nm sk br ht sg su fa puX : Nat → Int32) (fo : Nat → Int64) (fd : Nat → UInt64) (T : va_W) : va_W :=
  wM cs am th bank rnds dn N n fc puM wh kn nm sk br ht sg ++ (wO cs oo fo ++ (wB cs od fd ++ (wX cs ad bank rnds cnt mcn N n su fa puX ++ T)))
def LT (cs : Nat → ClassId) (z : Nat) (ad : Nat → Nat) (n cap : Nat) (rf : Nat → Option Nat) (wa : Nat → Nat) (wf : Nat → Nat → Int32) (T : va_W) : Prop :=
  (cap = 0 ∧ n = 0 ∧ ad 6 = z) ∨ ((cap = 10 ∨ cap = 15) ∧ n ≤ cap ∧ (∃ T1 : va_W, T = wE cs ad cap rf :: T1 ∧ ∀ i, i < n → wG wa wf i ∈ T1) ∧ ∀ i, i < n → rf i = some (wa i))
def LF (cs : Nat → ClassId) (z : Nat) (ad : Nat → Nat) (cnt : Int32) (f1 f2 f3 dn N n cap : Nat) (fn : Nat → Nat) (fc puM wh kn nm sk br ht su fa puX : Nat → Int32) (rf : Nat → Option Nat) (wa : Nat → Nat) (wf : Nat → Nat → Int32) (T : va_W) : Prop :=
  DC f1 f2 f3 fn dn N ∧ laid f2 f3 su fa N ∧ FM fn dn N n fc ∧ WR fn dn N n wf wh kn nm sk br ht ∧ (∀ j, j < 6 → puX j = puM j) ∧ (∀ j, fits .boolean (.int (ht j)) = true) ∧ cnt = nI dn ∧ LT cs z ad n cap rf wa wf T
theorem LF.N1 {cs : Nat → ClassId} {z : Nat} {ad : Nat → Nat} {cnt : Int32} {f1 f2 f3 dn N n cap : Nat} {fn : Nat → Nat} {fc puM wh kn nm sk br ht su fa puX : Nat → Int32} {rf : Nat → Option Nat} {wa : Nat → Nat} {wf : Nat → Nat → Int32} {T : va_W} (h : LF cs z ad cnt f1 f2 f3 dn N n cap fn fc puM wh kn nm sk br ht su fa puX rf wa wf T) : 1 ≤ N ∧ N ≤ 1728 ∧ n ≤ 12 := h.2.2.1.2.2.2.2
theorem LF.rx {cs : Nat → ClassId} {z : Nat} {ad : Nat → Nat} {cnt : Int32} {f1 f2 f3 dn N n cap : Nat} {fn : Nat → Nat} {fc puM wh kn nm sk br ht su fa puX : Nat → Int32} {rf : Nat → Option Nat} {wa : Nat → Nat} {wf : Nat → Nat → Int32} {T : va_W} (h : LF cs z ad cnt f1 f2 f3 dn N n cap fn fc puM wh kn nm sk br ht su fa puX rf wa wf T) {D : va_G} {bank rnds mcn : Int32} {H : Heap} {ws : va_W} (hP : va_P D vwCl ws H) (hX : ∀ q ∈ wX cs ad bank rnds cnt mcn N n su fa puX ++ T, q ∈ ws) : RX D cs H ad bank rnds cnt mcn N n cap su fa puX rf wa wf (kN kn) := by
  obtain ⟨h1, h2, h3⟩ := h.N1
  obtain ⟨-, -, -, hW, -, -, -, hT⟩ := h
  refine ⟨vaP_mem hP (fun q hq => hX q (List.mem_append_left _ hq)), ?_, h1, h2, h3, ?_⟩
  · intro i hi
    rcases hT with ⟨-, e, -⟩ | ⟨hc, hn, ⟨T1, eT, hT1⟩, hr⟩
    · rw [e] at hi
      exact absurd hi (Nat.not_lt_zero _)
    · subst eT
      refine ⟨vaP_mem hP (fun q hq => ?_), vaP_mem hP (fun q hq => ?_), hr i hi, (hW.kdX i hi).1, (hW.kdX i hi).2, Nat.lt_of_lt_of_le hi hn⟩
      · rw [List.mem_singleton.mp hq]
        exact hX _ (List.mem_append_right _ (List.mem_cons_of_mem _ (hT1 i hi)))
      · rw [List.mem_singleton.mp hq]
        exact hX _ (List.mem_append_right _ List.mem_cons_self)
  · rcases hT with ⟨e, -⟩ | ⟨e | e, -⟩ <;> omega
/-- the law's loop's state -/
def IV (D : va_G) (cs : Nat → ClassId) (z : Nat) (A : Nat → Prop) (H0 : Heap) (a1 a2 oo od : Nat) (H : Heap) (locs : List Loc) : Prop :=
  ∃ (am ad : Nat → Nat) (bank rnds th cnt mcn : Int32) (f1 f2 f3 dn N n cap : Nat) (fn : Nat → Nat) (fc puM wh kn nm sk br ht sg su fa puX : Nat → Int32) (rf : Nat → Option Nat) (wa : Nat → Nat) (wf : Nat → Nat → Int32) (fo : Nat → Int64) (fd : Nat → UInt64) (T : va_W), am 0 = a2 ∧ ad 0 = a1 ∧ LF cs z ad cnt f1 f2 f3 dn N n cap fn fc puM wh kn nm sk br ht su fa puX rf wa wf T ∧ va_P D vwCl (LWw cs am ad oo od bank rnds th cnt mcn dn N n fc puM wh kn nm sk br ht sg su fa puX fo fd T) H ∧ va_D A (LWw cs am ad oo od bank rnds th cnt mcn dn N n fc puM wh kn nm sk br ht sg su fa puX fo fd T) ∧ va_S A H0 H locs
theorem IV.mk {D : va_G} {cs : Nat → ClassId} {z : Nat} {A : Nat → Prop} {H0 : Heap} {a1 a2 oo od : Nat} {H : Heap} {locs : List Loc} {am ad : Nat → Nat} {bank rnds th cnt mcn : Int32} {f1 f2 f3 dn N n cap : Nat} {fn : Nat → Nat} {fc puM wh kn nm sk br ht sg su fa puX : Nat → Int32} {rf : Nat → Option Nat} {wa : Nat → Nat} {wf : Nat → Nat → Int32} {fo : Nat → Int64} {fd : Nat → UInt64} {T : va_W} (h1 : am 0 = a2) (h2 : ad 0 = a1) (hF : LF cs z ad cnt f1 f2 f3 dn N n cap fn fc puM wh kn nm sk br ht su fa puX rf wa wf T) (hP : va_P D vwCl (LWw cs am ad oo od bank rnds th cnt mcn dn N n fc puM wh kn nm sk br ht sg su fa puX fo fd T) H) (hD : va_D A (LWw cs am ad oo od bank rnds th cnt mcn dn N n fc puM wh kn nm sk br ht sg su fa puX fo fd T)) (hS : va_S A H0 H locs) : IV D cs z A H0 a1 a2 oo od H locs :=
  ⟨am, ad, bank, rnds, th, cnt, mcn, f1, f2, f3, dn, N, n, cap, fn, fc, puM, wh, kn, nm, sk, br, ht, sg, su, fa, puX, rf, wa, wf, fo, fd, T, h1, h2, hF, hP, hD, hS⟩
/-- what holds throughout the law -/
def LC (p : Program) (l : Launch) (s : State) (m : MethodId) (c : Code) (b L : Nat) (xs : Nat → Int32) (D : va_G) (cs : Nat → ClassId) (z mi : Nat) (A : Nat → Prop) : Prop :=
  p.tables.exec = Jvm.exec ∧ c.code = cL_law ∧ c.maxLocals = 9 ∧ s.vm.findClass RL = some m.cls ∧ (∀ w ∈ wsL_law, w.before #[Value.ref b] s = true) ∧ ST z mi A s s.heap ∧ SR s ∧ va_K D vwCl (Ty cs) s ∧ (∀ q : Nat, s.heap.size ≤ q → A q) ∧ va_X b L xs s s.heap ∧ b < s.heap.size ∧ ¬ A b ∧ L ≤ 3584 ∧ l.stackTraces = false
abbrev LL (b : Nat) (a1 a2 oo od i : Nat) : List (Nat × Value) := [(5, .int (nI i)), (4, .ref od), (3, .ref oo), (2, .ref a2), (1, .ref a1), (0, .ref b)]
def LK (p : Program) (l : Launch) (e : Env) (s : State) (m : MethodId) (b : Nat) (below : List Frame) (meth : Method) (c : Code) (Q : State → Prop) (D : va_G) (cs : Nat → ClassId) (z : Nat) (A : Nat → Prop) (a1 a2 oo od i cells slots : Nat) : Prop :=
  ∀ (H : Heap) (locs : List Loc) (ls : Array Slot) (ce sl : Nat), ce ≤ cells + 4 → sl ≤ slots + 64 → IV D cs z A s.heap a1 a2 oo od H locs → lv_has ls 9 (LL b a1 a2 oo od i) → W p l e room_1 s m #[Value.ref b] below meth c H locs ce sl Q (F0 m 1603 ls [])
