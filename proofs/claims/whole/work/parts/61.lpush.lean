/-! the law: what it pushes, and the end of a case; by program -/
section Law
variable {p : Program} {l : Launch} {e : Env} {s : State} {m : MethodId} {b : Nat} {below : List Frame} {meth : Method} {c : Code} {H : Heap} {locs : List Loc} {cells slots ce sl : Nat} {Q : State → Prop} {L : Nat} {xs : Nat → Int32} {D : va_G} {cs : Nat → ClassId} {z mi : Nat} {A : Nat → Prop} {a1 a2 oo od i : Nat} {ls : Array Slot}
variable {am ad : Nat → Nat} {bank rnds th cnt mcn : Int32} {f1 f2 f3 dn N n cap : Nat} {fn : Nat → Nat} {fc puM wh kn nm sk br ht sg su fa puX : Nat → Int32} {rf : Nat → Option Nat} {wa : Nat → Nat} {wf : Nat → Nat → Int32} {fo : Nat → Int64} {fd : Nat → UInt64} {T : va_W}
theorem lv_rwl0 {pc : Nat} {x y : Int64} {rest : List Value} (h : x = y) (k : W p l e room_1 s m #[Value.ref b] below meth c H locs ce sl Q (F0 m pc ls (.long y :: rest))) : W p l e room_1 s m #[Value.ref b] below meth c H locs ce sl Q (F0 m pc ls (.long x :: rest)) := h ▸ k
set_option maxHeartbeats 4000000 in
theorem L_a0 (CC : LC p l s m c b L xs D cs z mi A) (hS : va_S A s.heap H locs) (hl : lv_has ls 9 (LL b a1 a2 oo od i)) (hi : i + 7 ≤ L) {x1 x2 x3 : Int32} (e1 : xs (i + 1) = x1) (e2 : xs (i + 2) = x2) (e3 : xs (i + 3) = x3) (k : W p l e room_1 s m #[Value.ref b] below meth c H locs ce sl Q (F0 m 204 ls [.ref oo, .int x3, .int x2, .int x1, .ref a1])) : W p l e room_1 s m #[Value.ref b] below meth c H locs ce sl Q (F0 m 184 ls []) := by
  obtain ⟨hx, hb, hml, hown, hts, hT, hR, hK, hA, hX, hbl, hbA, hL, hl9⟩ := id CC
  refine lv_aload_n hx hb dL_law_184 rfl (lv_at hl 4 rfl) ?_
  refine lv_aload_n hx hb dL_law_185 rfl (lv_at hl 5 rfl) ?_
  refine lv_iload hx hb dL_law_186 (lv_at hl 0 rfl) ?_
  refine lv_iconst (v := nI 1) hx hb dL_law_188 (by first | decide | rfl) ?_
  refine lv_iadd hx hb dL_law_189 ?_
  refine lv_rwi (y := nI (i + 1)) (nI_add i 1) ?_
  refine va_sld hx hb hX hbl hbA hS (nI_in (show i + 1 < L by omega) (show L < 2 ^ 31 by omega)) dL_law_190 ?_
  refine lv_rwi (y := x1) ((congrArg xs (nI_clamp (show i + 1 < 2 ^ 31 by omega))).trans e1) ?_
  refine lv_aload_n hx hb dL_law_191 rfl (lv_at hl 5 rfl) ?_
  refine lv_iload hx hb dL_law_192 (lv_at hl 0 rfl) ?_
  refine lv_iconst (v := nI 2) hx hb dL_law_194 (by first | decide | rfl) ?_
  refine lv_iadd hx hb dL_law_195 ?_
  refine lv_rwi (y := nI (i + 2)) (nI_add i 2) ?_
  refine va_sld hx hb hX hbl hbA hS (nI_in (show i + 2 < L by omega) (show L < 2 ^ 31 by omega)) dL_law_196 ?_
  refine lv_rwi (y := x2) ((congrArg xs (nI_clamp (show i + 2 < 2 ^ 31 by omega))).trans e2) ?_
  refine lv_aload_n hx hb dL_law_197 rfl (lv_at hl 5 rfl) ?_
  refine lv_iload hx hb dL_law_198 (lv_at hl 0 rfl) ?_
  refine lv_iconst (v := nI 3) hx hb dL_law_200 (by first | decide | rfl) ?_
  refine lv_iadd hx hb dL_law_201 ?_
  refine lv_rwi (y := nI (i + 3)) (nI_add i 3) ?_
  refine va_sld hx hb hX hbl hbA hS (nI_in (show i + 3 < L by omega) (show L < 2 ^ 31 by omega)) dL_law_202 ?_
  refine lv_rwi (y := x3) ((congrArg xs (nI_clamp (show i + 3 < 2 ^ 31 by omega))).trans e3) ?_
  refine lv_aload_n hx hb dL_law_203 rfl (lv_at hl 2 rfl) ?_
  exact k
set_option maxHeartbeats 4000000 in
theorem L_b0 (CC : LC p l s m c b L xs D cs z mi A) (hS : va_S A s.heap H locs) (hl : lv_has ls 9 (LL b a1 a2 oo od i)) (hi : i + 7 ≤ L) {K : Int32} {x1 x2 x3 : Int32} (e1 : xs (i + 1) = x1) (e2 : xs (i + 2) = x2) (e3 : xs (i + 3) = x3) (k : ∀ ls : Array Slot, lv_has ls 9 ((6, .int K) :: LL b a1 a2 oo od i) → W p l e room_1 s m #[Value.ref b] below meth c H locs ce sl Q (F0 m 228 ls [.int x3, .int x2, .int x1, .ref a2])) : W p l e room_1 s m #[Value.ref b] below meth c H locs ce sl Q (F0 m 207 ls [.int K]) := by
  obtain ⟨hx, hb, hml, hown, hts, hT, hR, hK, hA, hX, hbl, hbA, hL, hl9⟩ := id CC
  refine lv_istore (lv' := [(6, .int K), (5, .int (nI i)), (4, .ref od), (3, .ref oo), (2, .ref a2), (1, .ref a1), (0, .ref b)]) hx hb dL_law_207 hl (by decide) rfl (fun ls hl => ?_)
  refine lv_aload_n hx hb dL_law_209 rfl (lv_at hl 4 rfl) ?_
  refine lv_aload_n hx hb dL_law_210 rfl (lv_at hl 6 rfl) ?_
  refine lv_iload hx hb dL_law_211 (lv_at hl 1 rfl) ?_
  refine lv_iconst (v := nI 1) hx hb dL_law_213 (by first | decide | rfl) ?_
  refine lv_iadd hx hb dL_law_214 ?_
  refine lv_rwi (y := nI (i + 1)) (nI_add i 1) ?_
  refine va_sld hx hb hX hbl hbA hS (nI_in (show i + 1 < L by omega) (show L < 2 ^ 31 by omega)) dL_law_215 ?_
  refine lv_rwi (y := x1) ((congrArg xs (nI_clamp (show i + 1 < 2 ^ 31 by omega))).trans e1) ?_
  refine lv_aload_n hx hb dL_law_216 rfl (lv_at hl 6 rfl) ?_
  refine lv_iload hx hb dL_law_217 (lv_at hl 1 rfl) ?_
  refine lv_iconst (v := nI 2) hx hb dL_law_219 (by first | decide | rfl) ?_
  refine lv_iadd hx hb dL_law_220 ?_
  refine lv_rwi (y := nI (i + 2)) (nI_add i 2) ?_
  refine va_sld hx hb hX hbl hbA hS (nI_in (show i + 2 < L by omega) (show L < 2 ^ 31 by omega)) dL_law_221 ?_
  refine lv_rwi (y := x2) ((congrArg xs (nI_clamp (show i + 2 < 2 ^ 31 by omega))).trans e2) ?_
  refine lv_aload_n hx hb dL_law_222 rfl (lv_at hl 6 rfl) ?_
  refine lv_iload hx hb dL_law_223 (lv_at hl 1 rfl) ?_
  refine lv_iconst (v := nI 3) hx hb dL_law_225 (by first | decide | rfl) ?_
  refine lv_iadd hx hb dL_law_226 ?_
  refine lv_rwi (y := nI (i + 3)) (nI_add i 3) ?_
  refine va_sld hx hb hX hbl hbA hS (nI_in (show i + 3 < L by omega) (show L < 2 ^ 31 by omega)) dL_law_227 ?_
  refine lv_rwi (y := x3) ((congrArg xs (nI_clamp (show i + 3 < 2 ^ 31 by omega))).trans e3) ?_
  exact k ls hl
set_option maxHeartbeats 4000000 in
set_option maxRecDepth 100000 in
theorem L_t0 (CC : LC p l s m c b L xs D cs z mi A) {K : Int32} (h1 : am 0 = a2) (h2 : ad 0 = a1) (hF : LF cs z ad cnt f1 f2 f3 dn N n cap fn fc puM wh kn nm sk br ht su fa puX rf wa wf T) (hP : va_P D vwCl (LWw cs am ad oo od bank rnds K cnt mcn dn N n fc puM wh kn nm sk br ht sg su fa puX fo fd T) H) (hD : va_D A (LWw cs am ad oo od bank rnds K cnt mcn dn N n fc puM wh kn nm sk br ht sg su fa puX fo fd T)) (hS : va_S A s.heap H locs) (hl : lv_has ls 9 ((6, .int K) :: LL b a1 a2 oo od i)) {bv : Int32} (hg : K = 0 → fo 0 = bv.toInt64) (hrm : cells + 4 ≤ 601024 ∧ slots + 64 ≤ 7293034) (hce : ce ≤ cells + 4) (hsl : sl ≤ slots + 64) (k : LK p l e s m b below meth c Q D cs z A a1 a2 oo od i cells slots) : W p l e room_1 s m #[Value.ref b] below meth c H locs ce sl Q (F0 m 231 ls [.int bv]) := by
  obtain ⟨hx, hb, hml, hown, hts, hT, hR, hK, hA, hX, hbl, hbA, hL, hl9⟩ := id CC
  subst h1
  subst h2
  refine lv_istore (lv' := [(7, .int bv), (6, .int K), (5, .int (nI i)), (4, .ref od), (3, .ref oo), (2, .ref (am 0)), (1, .ref (ad 0)), (0, .ref b)]) hx hb dL_law_231 hl (by decide) rfl (fun ls hl => ?_)
  refine lv_aload_n hx hb dL_law_233 rfl (lv_at hl 5 rfl) ?_
  refine rdV (As := []) (rest := []) (b := am 0) ⟨hx, hb, hml, hown, hts⟩ hK 0 (m_thrown l D cs H (wr_left hP) hF.2.2.1) (gin_v mw_6_6 mw_6_7 mw_6_8 mw_1_5 mw_6_9) (by decide +kernel) ⟨Nat.le_of_ble_eq_true rfl, Nat.le_of_ble_eq_true rfl⟩ (va_recv hK hP (ci := 4) (q0 := 0) rfl rfl) rfl hl.1 rfl (Nat.le_of_ble_eq_true rfl) dL_law_234 ⟨Nat.le_trans hce hrm.1, Nat.le_trans hsl hrm.2⟩ ?_
  refine W.eq (g2 := F0 m 237 ls [.int K]) rfl ?_
  refine lv_iload hx hb dL_law_237 (lv_at hl 1 rfl) ?_
  refine lv_icmp_eq (tgt := 244) hx hb dL_law_239 (by decide) (fun _ => ?_) (fun h => absurd rfl h)
  refine lv_iload hx hb dL_law_244 (lv_at hl 1 rfl) ?_
  have fin : ∀ ls : Array Slot, lv_has ls 9 [(7, .int bv), (6, .int K), (5, .int (nI i)), (4, .ref od), (3, .ref oo), (2, .ref (am 0)), (1, .ref (ad 0)), (0, .ref b)] → W p l e room_1 s m #[Value.ref b] below meth c H locs ce sl Q (F0 m 261 ls []) := fun ls hl => lv_goto (tgt := 1603) hx hb dL_law_261 (by decide) (L_k CC k rfl rfl hF hP hD hS hce hsl (lv_sub hl [2, 3, 4, 5, 6, 7] rfl))
  refine lv_if_ne (tgt := 261) hx hb dL_law_246 (by decide) (fun _ => fin ls hl) (fun hk => ?_)
  have hg := hg hk
  refine lv_aload_n hx hb dL_law_249 rfl (lv_at hl 4 rfl) ?_
  refine lv_iconst (v := nI 0) hx hb dL_law_250 (by first | decide | rfl) ?_
  refine va_lald hx hb hK hP 10 3 rfl rfl (nI_in (by omega) (by omega)) dL_law_251 ?_
  refine lv_rwl (y := bv.toInt64) ((congrArg fo (nI_clamp (n := 0) (by omega))).trans hg) ?_
  refine lv_iload hx hb dL_law_252 (lv_at hl 0 rfl) ?_
  refine lv_i2l hx hb dL_law_254 rfl ?_
  refine W.lcmp hx hb dL_law_255 ?_
  exact lv_if_eq (tgt := 261) hx hb dL_law_256 (by decide) (fun _ => fin ls hl) (fun h => absurd ((lcmp_eq _ _).mpr rfl) h)
set_option maxHeartbeats 4000000 in
theorem L_a3 (CC : LC p l s m c b L xs D cs z mi A) (hS : va_S A s.heap H locs) (hl : lv_has ls 9 (LL b a1 a2 oo od i)) (hi : i + 7 ≤ L) {x1 : Int32} (e1 : xs (i + 1) = x1) (k : W p l e room_1 s m #[Value.ref b] below meth c H locs ce sl Q (F0 m 298 ls [.ref oo, .int x1, .ref a1])) : W p l e room_1 s m #[Value.ref b] below meth c H locs ce sl Q (F0 m 290 ls []) := by
  obtain ⟨hx, hb, hml, hown, hts, hT, hR, hK, hA, hX, hbl, hbA, hL, hl9⟩ := id CC
  refine lv_aload_n hx hb dL_law_290 rfl (lv_at hl 4 rfl) ?_
  refine lv_aload_n hx hb dL_law_291 rfl (lv_at hl 5 rfl) ?_
  refine lv_iload hx hb dL_law_292 (lv_at hl 0 rfl) ?_
  refine lv_iconst (v := nI 1) hx hb dL_law_294 (by first | decide | rfl) ?_
  refine lv_iadd hx hb dL_law_295 ?_
  refine lv_rwi (y := nI (i + 1)) (nI_add i 1) ?_
  refine va_sld hx hb hX hbl hbA hS (nI_in (show i + 1 < L by omega) (show L < 2 ^ 31 by omega)) dL_law_296 ?_
  refine lv_rwi (y := x1) ((congrArg xs (nI_clamp (show i + 1 < 2 ^ 31 by omega))).trans e1) ?_
  refine lv_aload_n hx hb dL_law_297 rfl (lv_at hl 2 rfl) ?_
  exact k
set_option maxHeartbeats 4000000 in
theorem L_b3 (CC : LC p l s m c b L xs D cs z mi A) (hS : va_S A s.heap H locs) (hl : lv_has ls 9 (LL b a1 a2 oo od i)) (hi : i + 7 ≤ L) {K : Int32} {x1 : Int32} (e1 : xs (i + 1) = x1) (k : ∀ ls : Array Slot, lv_has ls 9 ((6, .int K) :: LL b a1 a2 oo od i) → W p l e room_1 s m #[Value.ref b] below meth c H locs ce sl Q (F0 m 310 ls [.int x1, .ref a2])) : W p l e room_1 s m #[Value.ref b] below meth c H locs ce sl Q (F0 m 301 ls [.int K]) := by
  obtain ⟨hx, hb, hml, hown, hts, hT, hR, hK, hA, hX, hbl, hbA, hL, hl9⟩ := id CC
  refine lv_istore (lv' := [(6, .int K), (5, .int (nI i)), (4, .ref od), (3, .ref oo), (2, .ref a2), (1, .ref a1), (0, .ref b)]) hx hb dL_law_301 hl (by decide) rfl (fun ls hl => ?_)
  refine lv_aload_n hx hb dL_law_303 rfl (lv_at hl 4 rfl) ?_
  refine lv_aload_n hx hb dL_law_304 rfl (lv_at hl 6 rfl) ?_
  refine lv_iload hx hb dL_law_305 (lv_at hl 1 rfl) ?_
  refine lv_iconst (v := nI 1) hx hb dL_law_307 (by first | decide | rfl) ?_
  refine lv_iadd hx hb dL_law_308 ?_
  refine lv_rwi (y := nI (i + 1)) (nI_add i 1) ?_
  refine va_sld hx hb hX hbl hbA hS (nI_in (show i + 1 < L by omega) (show L < 2 ^ 31 by omega)) dL_law_309 ?_
  refine lv_rwi (y := x1) ((congrArg xs (nI_clamp (show i + 1 < 2 ^ 31 by omega))).trans e1) ?_
  exact k ls hl
set_option maxHeartbeats 4000000 in
set_option maxRecDepth 100000 in
theorem L_t3 (CC : LC p l s m c b L xs D cs z mi A) {K : Int32} (h1 : am 0 = a2) (h2 : ad 0 = a1) (hF : LF cs z ad cnt f1 f2 f3 dn N n cap fn fc puM wh kn nm sk br ht su fa puX rf wa wf T) (hP : va_P D vwCl (LWw cs am ad oo od bank rnds K cnt mcn dn N n fc puM wh kn nm sk br ht sg su fa puX fo fd T) H) (hD : va_D A (LWw cs am ad oo od bank rnds K cnt mcn dn N n fc puM wh kn nm sk br ht sg su fa puX fo fd T)) (hS : va_S A s.heap H locs) (hl : lv_has ls 9 ((6, .int K) :: LL b a1 a2 oo od i)) {bv : Int32} (hg : K = 0 → fo 0 = bv.toInt64) (hrm : cells + 4 ≤ 601024 ∧ slots + 64 ≤ 7293034) (hce : ce ≤ cells + 4) (hsl : sl ≤ slots + 64) (k : LK p l e s m b below meth c Q D cs z A a1 a2 oo od i cells slots) : W p l e room_1 s m #[Value.ref b] below meth c H locs ce sl Q (F0 m 313 ls [.int bv]) := by
  obtain ⟨hx, hb, hml, hown, hts, hT, hR, hK, hA, hX, hbl, hbA, hL, hl9⟩ := id CC
  subst h1
  subst h2
  refine lv_istore (lv' := [(7, .int bv), (6, .int K), (5, .int (nI i)), (4, .ref od), (3, .ref oo), (2, .ref (am 0)), (1, .ref (ad 0)), (0, .ref b)]) hx hb dL_law_313 hl (by decide) rfl (fun ls hl => ?_)
  refine lv_aload_n hx hb dL_law_315 rfl (lv_at hl 5 rfl) ?_
  refine rdV (As := []) (rest := []) (b := am 0) ⟨hx, hb, hml, hown, hts⟩ hK 0 (m_thrown l D cs H (wr_left hP) hF.2.2.1) (gin_v mw_6_6 mw_6_7 mw_6_8 mw_1_5 mw_6_9) (by decide +kernel) ⟨Nat.le_of_ble_eq_true rfl, Nat.le_of_ble_eq_true rfl⟩ (va_recv hK hP (ci := 4) (q0 := 0) rfl rfl) rfl hl.1 rfl (Nat.le_of_ble_eq_true rfl) dL_law_316 ⟨Nat.le_trans hce hrm.1, Nat.le_trans hsl hrm.2⟩ ?_
  refine W.eq (g2 := F0 m 319 ls [.int K]) rfl ?_
  refine lv_iload hx hb dL_law_319 (lv_at hl 1 rfl) ?_
  refine lv_icmp_eq (tgt := 326) hx hb dL_law_321 (by decide) (fun _ => ?_) (fun h => absurd rfl h)
  refine lv_iload hx hb dL_law_326 (lv_at hl 1 rfl) ?_
  have fin : ∀ ls : Array Slot, lv_has ls 9 [(7, .int bv), (6, .int K), (5, .int (nI i)), (4, .ref od), (3, .ref oo), (2, .ref (am 0)), (1, .ref (ad 0)), (0, .ref b)] → W p l e room_1 s m #[Value.ref b] below meth c H locs ce sl Q (F0 m 343 ls []) := fun ls hl => lv_goto (tgt := 1603) hx hb dL_law_343 (by decide) (L_k CC k rfl rfl hF hP hD hS hce hsl (lv_sub hl [2, 3, 4, 5, 6, 7] rfl))
  refine lv_if_ne (tgt := 343) hx hb dL_law_328 (by decide) (fun _ => fin ls hl) (fun hk => ?_)
  have hg := hg hk
  refine lv_aload_n hx hb dL_law_331 rfl (lv_at hl 4 rfl) ?_
  refine lv_iconst (v := nI 0) hx hb dL_law_332 (by first | decide | rfl) ?_
  refine va_lald hx hb hK hP 10 3 rfl rfl (nI_in (by omega) (by omega)) dL_law_333 ?_
  refine lv_rwl (y := bv.toInt64) ((congrArg fo (nI_clamp (n := 0) (by omega))).trans hg) ?_
  refine lv_iload hx hb dL_law_334 (lv_at hl 0 rfl) ?_
  refine lv_i2l hx hb dL_law_336 rfl ?_
  refine W.lcmp hx hb dL_law_337 ?_
  exact lv_if_eq (tgt := 343) hx hb dL_law_338 (by decide) (fun _ => fin ls hl) (fun h => absurd ((lcmp_eq _ _).mpr rfl) h)
set_option maxHeartbeats 4000000 in
theorem L_a4 (CC : LC p l s m c b L xs D cs z mi A) (hS : va_S A s.heap H locs) (hl : lv_has ls 9 (LL b a1 a2 oo od i)) (hi : i + 7 ≤ L) {x1 x2 : Int32} (e1 : xs (i + 1) = x1) (e2 : xs (i + 2) = x2) (k : W p l e room_1 s m #[Value.ref b] below meth c H locs ce sl Q (F0 m 360 ls [.ref oo, .int x2, .int x1, .ref a1])) : W p l e room_1 s m #[Value.ref b] below meth c H locs ce sl Q (F0 m 346 ls []) := by
  obtain ⟨hx, hb, hml, hown, hts, hT, hR, hK, hA, hX, hbl, hbA, hL, hl9⟩ := id CC
  refine lv_aload_n hx hb dL_law_346 rfl (lv_at hl 4 rfl) ?_
  refine lv_aload_n hx hb dL_law_347 rfl (lv_at hl 5 rfl) ?_
  refine lv_iload hx hb dL_law_348 (lv_at hl 0 rfl) ?_
  refine lv_iconst (v := nI 1) hx hb dL_law_350 (by first | decide | rfl) ?_
  refine lv_iadd hx hb dL_law_351 ?_
  refine lv_rwi (y := nI (i + 1)) (nI_add i 1) ?_
  refine va_sld hx hb hX hbl hbA hS (nI_in (show i + 1 < L by omega) (show L < 2 ^ 31 by omega)) dL_law_352 ?_
  refine lv_rwi (y := x1) ((congrArg xs (nI_clamp (show i + 1 < 2 ^ 31 by omega))).trans e1) ?_
  refine lv_aload_n hx hb dL_law_353 rfl (lv_at hl 5 rfl) ?_
  refine lv_iload hx hb dL_law_354 (lv_at hl 0 rfl) ?_
  refine lv_iconst (v := nI 2) hx hb dL_law_356 (by first | decide | rfl) ?_
  refine lv_iadd hx hb dL_law_357 ?_
  refine lv_rwi (y := nI (i + 2)) (nI_add i 2) ?_
  refine va_sld hx hb hX hbl hbA hS (nI_in (show i + 2 < L by omega) (show L < 2 ^ 31 by omega)) dL_law_358 ?_
  refine lv_rwi (y := x2) ((congrArg xs (nI_clamp (show i + 2 < 2 ^ 31 by omega))).trans e2) ?_
  refine lv_aload_n hx hb dL_law_359 rfl (lv_at hl 2 rfl) ?_
  exact k
set_option maxHeartbeats 4000000 in
theorem L_b4 (CC : LC p l s m c b L xs D cs z mi A) (hS : va_S A s.heap H locs) (hl : lv_has ls 9 (LL b a1 a2 oo od i)) (hi : i + 7 ≤ L) {K : Int32} {x1 x2 : Int32} (e1 : xs (i + 1) = x1) (e2 : xs (i + 2) = x2) (k : ∀ ls : Array Slot, lv_has ls 9 ((6, .int K) :: LL b a1 a2 oo od i) → W p l e room_1 s m #[Value.ref b] below meth c H locs ce sl Q (F0 m 378 ls [.int x2, .int x1, .ref a2])) : W p l e room_1 s m #[Value.ref b] below meth c H locs ce sl Q (F0 m 363 ls [.int K]) := by
  obtain ⟨hx, hb, hml, hown, hts, hT, hR, hK, hA, hX, hbl, hbA, hL, hl9⟩ := id CC
  refine lv_istore (lv' := [(6, .int K), (5, .int (nI i)), (4, .ref od), (3, .ref oo), (2, .ref a2), (1, .ref a1), (0, .ref b)]) hx hb dL_law_363 hl (by decide) rfl (fun ls hl => ?_)
  refine lv_aload_n hx hb dL_law_365 rfl (lv_at hl 4 rfl) ?_
  refine lv_aload_n hx hb dL_law_366 rfl (lv_at hl 6 rfl) ?_
  refine lv_iload hx hb dL_law_367 (lv_at hl 1 rfl) ?_
  refine lv_iconst (v := nI 1) hx hb dL_law_369 (by first | decide | rfl) ?_
  refine lv_iadd hx hb dL_law_370 ?_
  refine lv_rwi (y := nI (i + 1)) (nI_add i 1) ?_
  refine va_sld hx hb hX hbl hbA hS (nI_in (show i + 1 < L by omega) (show L < 2 ^ 31 by omega)) dL_law_371 ?_
  refine lv_rwi (y := x1) ((congrArg xs (nI_clamp (show i + 1 < 2 ^ 31 by omega))).trans e1) ?_
  refine lv_aload_n hx hb dL_law_372 rfl (lv_at hl 6 rfl) ?_
  refine lv_iload hx hb dL_law_373 (lv_at hl 1 rfl) ?_
  refine lv_iconst (v := nI 2) hx hb dL_law_375 (by first | decide | rfl) ?_
  refine lv_iadd hx hb dL_law_376 ?_
  refine lv_rwi (y := nI (i + 2)) (nI_add i 2) ?_
  refine va_sld hx hb hX hbl hbA hS (nI_in (show i + 2 < L by omega) (show L < 2 ^ 31 by omega)) dL_law_377 ?_
  refine lv_rwi (y := x2) ((congrArg xs (nI_clamp (show i + 2 < 2 ^ 31 by omega))).trans e2) ?_
  exact k ls hl
set_option maxHeartbeats 4000000 in
set_option maxRecDepth 100000 in
theorem L_t4 (CC : LC p l s m c b L xs D cs z mi A) {K : Int32} (h1 : am 0 = a2) (h2 : ad 0 = a1) (hF : LF cs z ad cnt f1 f2 f3 dn N n cap fn fc puM wh kn nm sk br ht su fa puX rf wa wf T) (hP : va_P D vwCl (LWw cs am ad oo od bank rnds K cnt mcn dn N n fc puM wh kn nm sk br ht sg su fa puX fo fd T) H) (hD : va_D A (LWw cs am ad oo od bank rnds K cnt mcn dn N n fc puM wh kn nm sk br ht sg su fa puX fo fd T)) (hS : va_S A s.heap H locs) (hl : lv_has ls 9 ((6, .int K) :: LL b a1 a2 oo od i)) {bv : Int32} (hg : K = 0 → fo 0 = bv.toInt64) (hrm : cells + 4 ≤ 601024 ∧ slots + 64 ≤ 7293034) (hce : ce ≤ cells + 4) (hsl : sl ≤ slots + 64) (k : LK p l e s m b below meth c Q D cs z A a1 a2 oo od i cells slots) : W p l e room_1 s m #[Value.ref b] below meth c H locs ce sl Q (F0 m 381 ls [.int bv]) := by
  obtain ⟨hx, hb, hml, hown, hts, hT, hR, hK, hA, hX, hbl, hbA, hL, hl9⟩ := id CC
  subst h1
  subst h2
  refine lv_istore (lv' := [(7, .int bv), (6, .int K), (5, .int (nI i)), (4, .ref od), (3, .ref oo), (2, .ref (am 0)), (1, .ref (ad 0)), (0, .ref b)]) hx hb dL_law_381 hl (by decide) rfl (fun ls hl => ?_)
  refine lv_aload_n hx hb dL_law_383 rfl (lv_at hl 5 rfl) ?_
  refine rdV (As := []) (rest := []) (b := am 0) ⟨hx, hb, hml, hown, hts⟩ hK 0 (m_thrown l D cs H (wr_left hP) hF.2.2.1) (gin_v mw_6_6 mw_6_7 mw_6_8 mw_1_5 mw_6_9) (by decide +kernel) ⟨Nat.le_of_ble_eq_true rfl, Nat.le_of_ble_eq_true rfl⟩ (va_recv hK hP (ci := 4) (q0 := 0) rfl rfl) rfl hl.1 rfl (Nat.le_of_ble_eq_true rfl) dL_law_384 ⟨Nat.le_trans hce hrm.1, Nat.le_trans hsl hrm.2⟩ ?_
  refine W.eq (g2 := F0 m 387 ls [.int K]) rfl ?_
  refine lv_iload hx hb dL_law_387 (lv_at hl 1 rfl) ?_
  refine lv_icmp_eq (tgt := 394) hx hb dL_law_389 (by decide) (fun _ => ?_) (fun h => absurd rfl h)
  refine lv_iload hx hb dL_law_394 (lv_at hl 1 rfl) ?_
  have fin : ∀ ls : Array Slot, lv_has ls 9 [(7, .int bv), (6, .int K), (5, .int (nI i)), (4, .ref od), (3, .ref oo), (2, .ref (am 0)), (1, .ref (ad 0)), (0, .ref b)] → W p l e room_1 s m #[Value.ref b] below meth c H locs ce sl Q (F0 m 411 ls []) := fun ls hl => lv_goto (tgt := 1603) hx hb dL_law_411 (by decide) (L_k CC k rfl rfl hF hP hD hS hce hsl (lv_sub hl [2, 3, 4, 5, 6, 7] rfl))
  refine lv_if_ne (tgt := 411) hx hb dL_law_396 (by decide) (fun _ => fin ls hl) (fun hk => ?_)
  have hg := hg hk
  refine lv_aload_n hx hb dL_law_399 rfl (lv_at hl 4 rfl) ?_
  refine lv_iconst (v := nI 0) hx hb dL_law_400 (by first | decide | rfl) ?_
  refine va_lald hx hb hK hP 10 3 rfl rfl (nI_in (by omega) (by omega)) dL_law_401 ?_
  refine lv_rwl (y := bv.toInt64) ((congrArg fo (nI_clamp (n := 0) (by omega))).trans hg) ?_
  refine lv_iload hx hb dL_law_402 (lv_at hl 0 rfl) ?_
  refine lv_i2l hx hb dL_law_404 rfl ?_
  refine W.lcmp hx hb dL_law_405 ?_
  exact lv_if_eq (tgt := 411) hx hb dL_law_406 (by decide) (fun _ => fin ls hl) (fun h => absurd ((lcmp_eq _ _).mpr rfl) h)
set_option maxHeartbeats 4000000 in
theorem L_a5 (CC : LC p l s m c b L xs D cs z mi A) (hS : va_S A s.heap H locs) (hl : lv_has ls 9 (LL b a1 a2 oo od i)) (hi : i + 7 ≤ L) {x1 x2 : Int32} (e1 : xs (i + 1) = x1) (e2 : xs (i + 2) = x2) (k : W p l e room_1 s m #[Value.ref b] below meth c H locs ce sl Q (F0 m 429 ls [.ref od, .int x2, .int x1, .ref a1])) : W p l e room_1 s m #[Value.ref b] below meth c H locs ce sl Q (F0 m 414 ls []) := by
  obtain ⟨hx, hb, hml, hown, hts, hT, hR, hK, hA, hX, hbl, hbA, hL, hl9⟩ := id CC
  refine lv_aload_n hx hb dL_law_414 rfl (lv_at hl 4 rfl) ?_
  refine lv_aload_n hx hb dL_law_415 rfl (lv_at hl 5 rfl) ?_
  refine lv_iload hx hb dL_law_416 (lv_at hl 0 rfl) ?_
  refine lv_iconst (v := nI 1) hx hb dL_law_418 (by first | decide | rfl) ?_
  refine lv_iadd hx hb dL_law_419 ?_
  refine lv_rwi (y := nI (i + 1)) (nI_add i 1) ?_
  refine va_sld hx hb hX hbl hbA hS (nI_in (show i + 1 < L by omega) (show L < 2 ^ 31 by omega)) dL_law_420 ?_
  refine lv_rwi (y := x1) ((congrArg xs (nI_clamp (show i + 1 < 2 ^ 31 by omega))).trans e1) ?_
  refine lv_aload_n hx hb dL_law_421 rfl (lv_at hl 5 rfl) ?_
  refine lv_iload hx hb dL_law_422 (lv_at hl 0 rfl) ?_
  refine lv_iconst (v := nI 2) hx hb dL_law_424 (by first | decide | rfl) ?_
  refine lv_iadd hx hb dL_law_425 ?_
  refine lv_rwi (y := nI (i + 2)) (nI_add i 2) ?_
  refine va_sld hx hb hX hbl hbA hS (nI_in (show i + 2 < L by omega) (show L < 2 ^ 31 by omega)) dL_law_426 ?_
  refine lv_rwi (y := x2) ((congrArg xs (nI_clamp (show i + 2 < 2 ^ 31 by omega))).trans e2) ?_
  refine lv_aload hx hb dL_law_427 (lv_at hl 1 rfl) ?_
  exact k
set_option maxHeartbeats 4000000 in
theorem L_b5 (CC : LC p l s m c b L xs D cs z mi A) (hS : va_S A s.heap H locs) (hl : lv_has ls 9 (LL b a1 a2 oo od i)) (hi : i + 7 ≤ L) {K : Int32} {x1 x2 : Int32} (e1 : xs (i + 1) = x1) (e2 : xs (i + 2) = x2) (k : ∀ ls : Array Slot, lv_has ls 9 ((6, .int K) :: LL b a1 a2 oo od i) → W p l e room_1 s m #[Value.ref b] below meth c H locs ce sl Q (F0 m 447 ls [.int x2, .int x1, .ref a2])) : W p l e room_1 s m #[Value.ref b] below meth c H locs ce sl Q (F0 m 432 ls [.int K]) := by
  obtain ⟨hx, hb, hml, hown, hts, hT, hR, hK, hA, hX, hbl, hbA, hL, hl9⟩ := id CC
  refine lv_istore (lv' := [(6, .int K), (5, .int (nI i)), (4, .ref od), (3, .ref oo), (2, .ref a2), (1, .ref a1), (0, .ref b)]) hx hb dL_law_432 hl (by decide) rfl (fun ls hl => ?_)
  refine lv_aload_n hx hb dL_law_434 rfl (lv_at hl 4 rfl) ?_
  refine lv_aload_n hx hb dL_law_435 rfl (lv_at hl 6 rfl) ?_
  refine lv_iload hx hb dL_law_436 (lv_at hl 1 rfl) ?_
  refine lv_iconst (v := nI 1) hx hb dL_law_438 (by first | decide | rfl) ?_
  refine lv_iadd hx hb dL_law_439 ?_
  refine lv_rwi (y := nI (i + 1)) (nI_add i 1) ?_
  refine va_sld hx hb hX hbl hbA hS (nI_in (show i + 1 < L by omega) (show L < 2 ^ 31 by omega)) dL_law_440 ?_
  refine lv_rwi (y := x1) ((congrArg xs (nI_clamp (show i + 1 < 2 ^ 31 by omega))).trans e1) ?_
  refine lv_aload_n hx hb dL_law_441 rfl (lv_at hl 6 rfl) ?_
  refine lv_iload hx hb dL_law_442 (lv_at hl 1 rfl) ?_
  refine lv_iconst (v := nI 2) hx hb dL_law_444 (by first | decide | rfl) ?_
  refine lv_iadd hx hb dL_law_445 ?_
  refine lv_rwi (y := nI (i + 2)) (nI_add i 2) ?_
  refine va_sld hx hb hX hbl hbA hS (nI_in (show i + 2 < L by omega) (show L < 2 ^ 31 by omega)) dL_law_446 ?_
  refine lv_rwi (y := x2) ((congrArg xs (nI_clamp (show i + 2 < 2 ^ 31 by omega))).trans e2) ?_
  exact k ls hl
set_option maxHeartbeats 4000000 in
set_option maxRecDepth 100000 in
theorem L_t5 (CC : LC p l s m c b L xs D cs z mi A) {K : Int32} (h1 : am 0 = a2) (h2 : ad 0 = a1) (hF : LF cs z ad cnt f1 f2 f3 dn N n cap fn fc puM wh kn nm sk br ht su fa puX rf wa wf T) (hP : va_P D vwCl (LWw cs am ad oo od bank rnds K cnt mcn dn N n fc puM wh kn nm sk br ht sg su fa puX fo fd T) H) (hD : va_D A (LWw cs am ad oo od bank rnds K cnt mcn dn N n fc puM wh kn nm sk br ht sg su fa puX fo fd T)) (hS : va_S A s.heap H locs) (hl : lv_has ls 9 ((6, .int K) :: LL b a1 a2 oo od i)) {bv : UInt64} (hg : K = 0 → fd 0 = bv ∧ vf_n64 bv) (hrm : cells + 4 ≤ 601024 ∧ slots + 64 ≤ 7293034) (hce : ce ≤ cells + 4) (hsl : sl ≤ slots + 64) (k : LK p l e s m b below meth c Q D cs z A a1 a2 oo od i cells slots) : W p l e room_1 s m #[Value.ref b] below meth c H locs ce sl Q (F0 m 450 ls [.double bv]) := by
  obtain ⟨hx, hb, hml, hown, hts, hT, hR, hK, hA, hX, hbl, hbA, hL, hl9⟩ := id CC
  subst h1
  subst h2
  refine lv_dstore (lv' := [(7, .double bv), (6, .int K), (5, .int (nI i)), (4, .ref od), (3, .ref oo), (2, .ref (am 0)), (1, .ref (ad 0)), (0, .ref b)]) hx hb dL_law_450 hl (by decide) rfl (fun ls hl => ?_)
  refine lv_aload_n hx hb dL_law_452 rfl (lv_at hl 5 rfl) ?_
  refine rdV (As := []) (rest := []) (b := am 0) ⟨hx, hb, hml, hown, hts⟩ hK 0 (m_thrown l D cs H (wr_left hP) hF.2.2.1) (gin_v mw_6_6 mw_6_7 mw_6_8 mw_1_5 mw_6_9) (by decide +kernel) ⟨Nat.le_of_ble_eq_true rfl, Nat.le_of_ble_eq_true rfl⟩ (va_recv hK hP (ci := 4) (q0 := 0) rfl rfl) rfl hl.1 rfl (Nat.le_of_ble_eq_true rfl) dL_law_453 ⟨Nat.le_trans hce hrm.1, Nat.le_trans hsl hrm.2⟩ ?_
  refine W.eq (g2 := F0 m 456 ls [.int K]) rfl ?_
  refine lv_iload hx hb dL_law_456 (lv_at hl 1 rfl) ?_
  refine lv_icmp_eq (tgt := 463) hx hb dL_law_458 (by decide) (fun _ => ?_) (fun h => absurd rfl h)
  refine lv_iload hx hb dL_law_463 (lv_at hl 1 rfl) ?_
  have fin : ∀ ls : Array Slot, lv_has ls 9 [(7, .double bv), (6, .int K), (5, .int (nI i)), (4, .ref od), (3, .ref oo), (2, .ref (am 0)), (1, .ref (ad 0)), (0, .ref b)] → W p l e room_1 s m #[Value.ref b] below meth c H locs ce sl Q (F0 m 500 ls []) := fun ls hl => lv_goto (tgt := 1603) hx hb dL_law_500 (by decide) (L_k CC k rfl rfl hF hP hD hS hce hsl (lv_sub hl [2, 3, 4, 5, 6, 7] rfl))
  refine lv_if_ne (tgt := 500) hx hb dL_law_465 (by decide) (fun _ => fin ls hl) (fun hk => ?_)
  have hg := hg hk
  refine lv_aload hx hb dL_law_468 (lv_at hl 3 rfl) ?_
  refine lv_iconst (v := nI 0) hx hb dL_law_470 (by first | decide | rfl) ?_
  refine va_dald hx hb hK hP 11 4 rfl rfl (nI_in (by omega) (by omega)) dL_law_471 ?_
  refine lv_dload hx hb dL_law_472 (lv_at hl 0 rfl) ?_
  refine lv_dcmp hx hb dL_law_474 ?_
  refine lv_rwi (y := 0) ((congrArg (fun v9 => Op.cmpValue (FP.dcmp v9 bv) .l) ((congrArg fd (nI_clamp (n := 0) (by omega))).trans hg.1)).trans (dc_self hg.2)) ?_
  exact lv_if_eq (tgt := 500) hx hb dL_law_475 (by decide) (fun _ => fin ls hl) (fun h => absurd rfl h)
set_option maxHeartbeats 4000000 in
theorem L_a6 (CC : LC p l s m c b L xs D cs z mi A) (hS : va_S A s.heap H locs) (hl : lv_has ls 9 (LL b a1 a2 oo od i)) (hi : i + 7 ≤ L) {x1 x2 x3 x4 x5 x6 : Int32} (e1 : xs (i + 1) = x1) (e2 : xs (i + 2) = x2) (e3 : xs (i + 3) = x3) (e4 : xs (i + 4) = x4) (e5 : xs (i + 5) = x5) (e6 : xs (i + 6) = x6) (k : W p l e room_1 s m #[Value.ref b] below meth c H locs ce sl Q (F0 m 542 ls [.ref oo, .int x6, .int x5, .int x4, .int x3, .int x2, .int x1, .ref a1])) : W p l e room_1 s m #[Value.ref b] below meth c H locs ce sl Q (F0 m 503 ls []) := by
  obtain ⟨hx, hb, hml, hown, hts, hT, hR, hK, hA, hX, hbl, hbA, hL, hl9⟩ := id CC
  refine lv_aload_n hx hb dL_law_503 rfl (lv_at hl 4 rfl) ?_
  refine lv_aload_n hx hb dL_law_504 rfl (lv_at hl 5 rfl) ?_
  refine lv_iload hx hb dL_law_505 (lv_at hl 0 rfl) ?_
  refine lv_iconst (v := nI 1) hx hb dL_law_507 (by first | decide | rfl) ?_
  refine lv_iadd hx hb dL_law_508 ?_
  refine lv_rwi (y := nI (i + 1)) (nI_add i 1) ?_
  refine va_sld hx hb hX hbl hbA hS (nI_in (show i + 1 < L by omega) (show L < 2 ^ 31 by omega)) dL_law_509 ?_
  refine lv_rwi (y := x1) ((congrArg xs (nI_clamp (show i + 1 < 2 ^ 31 by omega))).trans e1) ?_
  refine lv_aload_n hx hb dL_law_510 rfl (lv_at hl 5 rfl) ?_
  refine lv_iload hx hb dL_law_511 (lv_at hl 0 rfl) ?_
  refine lv_iconst (v := nI 2) hx hb dL_law_513 (by first | decide | rfl) ?_
  refine lv_iadd hx hb dL_law_514 ?_
  refine lv_rwi (y := nI (i + 2)) (nI_add i 2) ?_
  refine va_sld hx hb hX hbl hbA hS (nI_in (show i + 2 < L by omega) (show L < 2 ^ 31 by omega)) dL_law_515 ?_
  refine lv_rwi (y := x2) ((congrArg xs (nI_clamp (show i + 2 < 2 ^ 31 by omega))).trans e2) ?_
  refine lv_aload_n hx hb dL_law_516 rfl (lv_at hl 5 rfl) ?_
  refine lv_iload hx hb dL_law_517 (lv_at hl 0 rfl) ?_
  refine lv_iconst (v := nI 3) hx hb dL_law_519 (by first | decide | rfl) ?_
  refine lv_iadd hx hb dL_law_520 ?_
  refine lv_rwi (y := nI (i + 3)) (nI_add i 3) ?_
  refine va_sld hx hb hX hbl hbA hS (nI_in (show i + 3 < L by omega) (show L < 2 ^ 31 by omega)) dL_law_521 ?_
  refine lv_rwi (y := x3) ((congrArg xs (nI_clamp (show i + 3 < 2 ^ 31 by omega))).trans e3) ?_
  refine lv_aload_n hx hb dL_law_522 rfl (lv_at hl 5 rfl) ?_
  refine lv_iload hx hb dL_law_523 (lv_at hl 0 rfl) ?_
  refine lv_iconst (v := nI 4) hx hb dL_law_525 (by first | decide | rfl) ?_
  refine lv_iadd hx hb dL_law_526 ?_
  refine lv_rwi (y := nI (i + 4)) (nI_add i 4) ?_
  refine va_sld hx hb hX hbl hbA hS (nI_in (show i + 4 < L by omega) (show L < 2 ^ 31 by omega)) dL_law_527 ?_
  refine lv_rwi (y := x4) ((congrArg xs (nI_clamp (show i + 4 < 2 ^ 31 by omega))).trans e4) ?_
  refine lv_aload_n hx hb dL_law_528 rfl (lv_at hl 5 rfl) ?_
  refine lv_iload hx hb dL_law_529 (lv_at hl 0 rfl) ?_
  refine lv_iconst (v := nI 5) hx hb dL_law_531 (by first | decide | rfl) ?_
  refine lv_iadd hx hb dL_law_532 ?_
  refine lv_rwi (y := nI (i + 5)) (nI_add i 5) ?_
  refine va_sld hx hb hX hbl hbA hS (nI_in (show i + 5 < L by omega) (show L < 2 ^ 31 by omega)) dL_law_533 ?_
  refine lv_rwi (y := x5) ((congrArg xs (nI_clamp (show i + 5 < 2 ^ 31 by omega))).trans e5) ?_
  refine lv_aload_n hx hb dL_law_534 rfl (lv_at hl 5 rfl) ?_
  refine lv_iload hx hb dL_law_535 (lv_at hl 0 rfl) ?_
  refine lv_bipush (v := nI 6) hx hb dL_law_537 (by first | decide | rfl) ?_
  refine lv_iadd hx hb dL_law_539 ?_
  refine lv_rwi (y := nI (i + 6)) (nI_add i 6) ?_
  refine va_sld hx hb hX hbl hbA hS (nI_in (show i + 6 < L by omega) (show L < 2 ^ 31 by omega)) dL_law_540 ?_
  refine lv_rwi (y := x6) ((congrArg xs (nI_clamp (show i + 6 < 2 ^ 31 by omega))).trans e6) ?_
  refine lv_aload_n hx hb dL_law_541 rfl (lv_at hl 2 rfl) ?_
  exact k
set_option maxHeartbeats 4000000 in
theorem L_b6 (CC : LC p l s m c b L xs D cs z mi A) (hS : va_S A s.heap H locs) (hl : lv_has ls 9 (LL b a1 a2 oo od i)) (hi : i + 7 ≤ L) {K : Int32} {x1 x2 x3 x4 x5 x6 : Int32} (e1 : xs (i + 1) = x1) (e2 : xs (i + 2) = x2) (e3 : xs (i + 3) = x3) (e4 : xs (i + 4) = x4) (e5 : xs (i + 5) = x5) (e6 : xs (i + 6) = x6) (k : ∀ ls : Array Slot, lv_has ls 9 ((6, .int K) :: LL b a1 a2 oo od i) → W p l e room_1 s m #[Value.ref b] below meth c H locs ce sl Q (F0 m 585 ls [.int x6, .int x5, .int x4, .int x3, .int x2, .int x1, .ref a2])) : W p l e room_1 s m #[Value.ref b] below meth c H locs ce sl Q (F0 m 545 ls [.int K]) := by
  obtain ⟨hx, hb, hml, hown, hts, hT, hR, hK, hA, hX, hbl, hbA, hL, hl9⟩ := id CC
  refine lv_istore (lv' := [(6, .int K), (5, .int (nI i)), (4, .ref od), (3, .ref oo), (2, .ref a2), (1, .ref a1), (0, .ref b)]) hx hb dL_law_545 hl (by decide) rfl (fun ls hl => ?_)
  refine lv_aload_n hx hb dL_law_547 rfl (lv_at hl 4 rfl) ?_
  refine lv_aload_n hx hb dL_law_548 rfl (lv_at hl 6 rfl) ?_
  refine lv_iload hx hb dL_law_549 (lv_at hl 1 rfl) ?_
  refine lv_iconst (v := nI 1) hx hb dL_law_551 (by first | decide | rfl) ?_
  refine lv_iadd hx hb dL_law_552 ?_
  refine lv_rwi (y := nI (i + 1)) (nI_add i 1) ?_
  refine va_sld hx hb hX hbl hbA hS (nI_in (show i + 1 < L by omega) (show L < 2 ^ 31 by omega)) dL_law_553 ?_
  refine lv_rwi (y := x1) ((congrArg xs (nI_clamp (show i + 1 < 2 ^ 31 by omega))).trans e1) ?_
  refine lv_aload_n hx hb dL_law_554 rfl (lv_at hl 6 rfl) ?_
  refine lv_iload hx hb dL_law_555 (lv_at hl 1 rfl) ?_
  refine lv_iconst (v := nI 2) hx hb dL_law_557 (by first | decide | rfl) ?_
  refine lv_iadd hx hb dL_law_558 ?_
  refine lv_rwi (y := nI (i + 2)) (nI_add i 2) ?_
  refine va_sld hx hb hX hbl hbA hS (nI_in (show i + 2 < L by omega) (show L < 2 ^ 31 by omega)) dL_law_559 ?_
  refine lv_rwi (y := x2) ((congrArg xs (nI_clamp (show i + 2 < 2 ^ 31 by omega))).trans e2) ?_
  refine lv_aload_n hx hb dL_law_560 rfl (lv_at hl 6 rfl) ?_
  refine lv_iload hx hb dL_law_561 (lv_at hl 1 rfl) ?_
  refine lv_iconst (v := nI 3) hx hb dL_law_563 (by first | decide | rfl) ?_
  refine lv_iadd hx hb dL_law_564 ?_
  refine lv_rwi (y := nI (i + 3)) (nI_add i 3) ?_
  refine va_sld hx hb hX hbl hbA hS (nI_in (show i + 3 < L by omega) (show L < 2 ^ 31 by omega)) dL_law_565 ?_
  refine lv_rwi (y := x3) ((congrArg xs (nI_clamp (show i + 3 < 2 ^ 31 by omega))).trans e3) ?_
  refine lv_aload_n hx hb dL_law_566 rfl (lv_at hl 6 rfl) ?_
  refine lv_iload hx hb dL_law_567 (lv_at hl 1 rfl) ?_
  refine lv_iconst (v := nI 4) hx hb dL_law_569 (by first | decide | rfl) ?_
  refine lv_iadd hx hb dL_law_570 ?_
  refine lv_rwi (y := nI (i + 4)) (nI_add i 4) ?_
  refine va_sld hx hb hX hbl hbA hS (nI_in (show i + 4 < L by omega) (show L < 2 ^ 31 by omega)) dL_law_571 ?_
  refine lv_rwi (y := x4) ((congrArg xs (nI_clamp (show i + 4 < 2 ^ 31 by omega))).trans e4) ?_
  refine lv_aload_n hx hb dL_law_572 rfl (lv_at hl 6 rfl) ?_
  refine lv_iload hx hb dL_law_573 (lv_at hl 1 rfl) ?_
  refine lv_iconst (v := nI 5) hx hb dL_law_575 (by first | decide | rfl) ?_
  refine lv_iadd hx hb dL_law_576 ?_
  refine lv_rwi (y := nI (i + 5)) (nI_add i 5) ?_
  refine va_sld hx hb hX hbl hbA hS (nI_in (show i + 5 < L by omega) (show L < 2 ^ 31 by omega)) dL_law_577 ?_
  refine lv_rwi (y := x5) ((congrArg xs (nI_clamp (show i + 5 < 2 ^ 31 by omega))).trans e5) ?_
  refine lv_aload_n hx hb dL_law_578 rfl (lv_at hl 6 rfl) ?_
  refine lv_iload hx hb dL_law_579 (lv_at hl 1 rfl) ?_
  refine lv_bipush (v := nI 6) hx hb dL_law_581 (by first | decide | rfl) ?_
  refine lv_iadd hx hb dL_law_583 ?_
  refine lv_rwi (y := nI (i + 6)) (nI_add i 6) ?_
  refine va_sld hx hb hX hbl hbA hS (nI_in (show i + 6 < L by omega) (show L < 2 ^ 31 by omega)) dL_law_584 ?_
  refine lv_rwi (y := x6) ((congrArg xs (nI_clamp (show i + 6 < 2 ^ 31 by omega))).trans e6) ?_
  exact k ls hl
set_option maxHeartbeats 4000000 in
set_option maxRecDepth 100000 in
theorem L_t6 (CC : LC p l s m c b L xs D cs z mi A) {K : Int32} (h1 : am 0 = a2) (h2 : ad 0 = a1) (hF : LF cs z ad cnt f1 f2 f3 dn N n cap fn fc puM wh kn nm sk br ht su fa puX rf wa wf T) (hP : va_P D vwCl (LWw cs am ad oo od bank rnds K cnt mcn dn N n fc puM wh kn nm sk br ht sg su fa puX fo fd T) H) (hD : va_D A (LWw cs am ad oo od bank rnds K cnt mcn dn N n fc puM wh kn nm sk br ht sg su fa puX fo fd T)) (hS : va_S A s.heap H locs) (hl : lv_has ls 9 ((6, .int K) :: LL b a1 a2 oo od i)) {bv : Int32} (hg : K = 0 → fo 0 = bv.toInt64) (hrm : cells + 4 ≤ 601024 ∧ slots + 64 ≤ 7293034) (hce : ce ≤ cells + 4) (hsl : sl ≤ slots + 64) (k : LK p l e s m b below meth c Q D cs z A a1 a2 oo od i cells slots) : W p l e room_1 s m #[Value.ref b] below meth c H locs ce sl Q (F0 m 588 ls [.int bv]) := by
  obtain ⟨hx, hb, hml, hown, hts, hT, hR, hK, hA, hX, hbl, hbA, hL, hl9⟩ := id CC
  subst h1
  subst h2
  refine lv_istore (lv' := [(7, .int bv), (6, .int K), (5, .int (nI i)), (4, .ref od), (3, .ref oo), (2, .ref (am 0)), (1, .ref (ad 0)), (0, .ref b)]) hx hb dL_law_588 hl (by decide) rfl (fun ls hl => ?_)
  refine lv_aload_n hx hb dL_law_590 rfl (lv_at hl 5 rfl) ?_
  refine rdV (As := []) (rest := []) (b := am 0) ⟨hx, hb, hml, hown, hts⟩ hK 0 (m_thrown l D cs H (wr_left hP) hF.2.2.1) (gin_v mw_6_6 mw_6_7 mw_6_8 mw_1_5 mw_6_9) (by decide +kernel) ⟨Nat.le_of_ble_eq_true rfl, Nat.le_of_ble_eq_true rfl⟩ (va_recv hK hP (ci := 4) (q0 := 0) rfl rfl) rfl hl.1 rfl (Nat.le_of_ble_eq_true rfl) dL_law_591 ⟨Nat.le_trans hce hrm.1, Nat.le_trans hsl hrm.2⟩ ?_
  refine W.eq (g2 := F0 m 594 ls [.int K]) rfl ?_
  refine lv_iload hx hb dL_law_594 (lv_at hl 1 rfl) ?_
  refine lv_icmp_eq (tgt := 601) hx hb dL_law_596 (by decide) (fun _ => ?_) (fun h => absurd rfl h)
  refine lv_iload hx hb dL_law_601 (lv_at hl 1 rfl) ?_
  have fin : ∀ ls : Array Slot, lv_has ls 9 [(7, .int bv), (6, .int K), (5, .int (nI i)), (4, .ref od), (3, .ref oo), (2, .ref (am 0)), (1, .ref (ad 0)), (0, .ref b)] → W p l e room_1 s m #[Value.ref b] below meth c H locs ce sl Q (F0 m 618 ls []) := fun ls hl => lv_goto (tgt := 1603) hx hb dL_law_618 (by decide) (L_k CC k rfl rfl hF hP hD hS hce hsl (lv_sub hl [2, 3, 4, 5, 6, 7] rfl))
  refine lv_if_ne (tgt := 618) hx hb dL_law_603 (by decide) (fun _ => fin ls hl) (fun hk => ?_)
  have hg := hg hk
  refine lv_aload_n hx hb dL_law_606 rfl (lv_at hl 4 rfl) ?_
  refine lv_iconst (v := nI 0) hx hb dL_law_607 (by first | decide | rfl) ?_
  refine va_lald hx hb hK hP 10 3 rfl rfl (nI_in (by omega) (by omega)) dL_law_608 ?_
  refine lv_rwl (y := bv.toInt64) ((congrArg fo (nI_clamp (n := 0) (by omega))).trans hg) ?_
  refine lv_iload hx hb dL_law_609 (lv_at hl 0 rfl) ?_
  refine lv_i2l hx hb dL_law_611 rfl ?_
  refine W.lcmp hx hb dL_law_612 ?_
  exact lv_if_eq (tgt := 618) hx hb dL_law_613 (by decide) (fun _ => fin ls hl) (fun h => absurd ((lcmp_eq _ _).mpr rfl) h)
set_option maxHeartbeats 4000000 in
theorem L_a7 (CC : LC p l s m c b L xs D cs z mi A) (hS : va_S A s.heap H locs) (hl : lv_has ls 9 (LL b a1 a2 oo od i)) (hi : i + 7 ≤ L) {x1 : Int32} (e1 : xs (i + 1) = x1) (k : W p l e room_1 s m #[Value.ref b] below meth c H locs ce sl Q (F0 m 629 ls [.ref oo, .int x1, .ref a1])) : W p l e room_1 s m #[Value.ref b] below meth c H locs ce sl Q (F0 m 621 ls []) := by
  obtain ⟨hx, hb, hml, hown, hts, hT, hR, hK, hA, hX, hbl, hbA, hL, hl9⟩ := id CC
  refine lv_aload_n hx hb dL_law_621 rfl (lv_at hl 4 rfl) ?_
  refine lv_aload_n hx hb dL_law_622 rfl (lv_at hl 5 rfl) ?_
  refine lv_iload hx hb dL_law_623 (lv_at hl 0 rfl) ?_
  refine lv_iconst (v := nI 1) hx hb dL_law_625 (by first | decide | rfl) ?_
  refine lv_iadd hx hb dL_law_626 ?_
  refine lv_rwi (y := nI (i + 1)) (nI_add i 1) ?_
  refine va_sld hx hb hX hbl hbA hS (nI_in (show i + 1 < L by omega) (show L < 2 ^ 31 by omega)) dL_law_627 ?_
  refine lv_rwi (y := x1) ((congrArg xs (nI_clamp (show i + 1 < 2 ^ 31 by omega))).trans e1) ?_
  refine lv_aload_n hx hb dL_law_628 rfl (lv_at hl 2 rfl) ?_
  exact k
set_option maxHeartbeats 4000000 in
theorem L_b7 (CC : LC p l s m c b L xs D cs z mi A) (hS : va_S A s.heap H locs) (hl : lv_has ls 9 (LL b a1 a2 oo od i)) (hi : i + 7 ≤ L) {K : Int32} {x1 : Int32} (e1 : xs (i + 1) = x1) (k : ∀ ls : Array Slot, lv_has ls 9 ((6, .int K) :: LL b a1 a2 oo od i) → W p l e room_1 s m #[Value.ref b] below meth c H locs ce sl Q (F0 m 641 ls [.int x1, .ref a2])) : W p l e room_1 s m #[Value.ref b] below meth c H locs ce sl Q (F0 m 632 ls [.int K]) := by
  obtain ⟨hx, hb, hml, hown, hts, hT, hR, hK, hA, hX, hbl, hbA, hL, hl9⟩ := id CC
  refine lv_istore (lv' := [(6, .int K), (5, .int (nI i)), (4, .ref od), (3, .ref oo), (2, .ref a2), (1, .ref a1), (0, .ref b)]) hx hb dL_law_632 hl (by decide) rfl (fun ls hl => ?_)
  refine lv_aload_n hx hb dL_law_634 rfl (lv_at hl 4 rfl) ?_
  refine lv_aload_n hx hb dL_law_635 rfl (lv_at hl 6 rfl) ?_
  refine lv_iload hx hb dL_law_636 (lv_at hl 1 rfl) ?_
  refine lv_iconst (v := nI 1) hx hb dL_law_638 (by first | decide | rfl) ?_
  refine lv_iadd hx hb dL_law_639 ?_
  refine lv_rwi (y := nI (i + 1)) (nI_add i 1) ?_
  refine va_sld hx hb hX hbl hbA hS (nI_in (show i + 1 < L by omega) (show L < 2 ^ 31 by omega)) dL_law_640 ?_
  refine lv_rwi (y := x1) ((congrArg xs (nI_clamp (show i + 1 < 2 ^ 31 by omega))).trans e1) ?_
  exact k ls hl
set_option maxHeartbeats 4000000 in
set_option maxRecDepth 100000 in
theorem L_t7 (CC : LC p l s m c b L xs D cs z mi A) {K : Int32} (h1 : am 0 = a2) (h2 : ad 0 = a1) (hF : LF cs z ad cnt f1 f2 f3 dn N n cap fn fc puM wh kn nm sk br ht su fa puX rf wa wf T) (hP : va_P D vwCl (LWw cs am ad oo od bank rnds K cnt mcn dn N n fc puM wh kn nm sk br ht sg su fa puX fo fd T) H) (hD : va_D A (LWw cs am ad oo od bank rnds K cnt mcn dn N n fc puM wh kn nm sk br ht sg su fa puX fo fd T)) (hS : va_S A s.heap H locs) (hl : lv_has ls 9 ((6, .int K) :: LL b a1 a2 oo od i)) {bv : Int32} (hg : K = 0 → fo 0 = bv.toInt64) (hrm : cells + 4 ≤ 601024 ∧ slots + 64 ≤ 7293034) (hce : ce ≤ cells + 4) (hsl : sl ≤ slots + 64) (k : LK p l e s m b below meth c Q D cs z A a1 a2 oo od i cells slots) : W p l e room_1 s m #[Value.ref b] below meth c H locs ce sl Q (F0 m 644 ls [.int bv]) := by
  obtain ⟨hx, hb, hml, hown, hts, hT, hR, hK, hA, hX, hbl, hbA, hL, hl9⟩ := id CC
  subst h1
  subst h2
  refine lv_istore (lv' := [(7, .int bv), (6, .int K), (5, .int (nI i)), (4, .ref od), (3, .ref oo), (2, .ref (am 0)), (1, .ref (ad 0)), (0, .ref b)]) hx hb dL_law_644 hl (by decide) rfl (fun ls hl => ?_)
  refine lv_aload_n hx hb dL_law_646 rfl (lv_at hl 5 rfl) ?_
  refine rdV (As := []) (rest := []) (b := am 0) ⟨hx, hb, hml, hown, hts⟩ hK 0 (m_thrown l D cs H (wr_left hP) hF.2.2.1) (gin_v mw_6_6 mw_6_7 mw_6_8 mw_1_5 mw_6_9) (by decide +kernel) ⟨Nat.le_of_ble_eq_true rfl, Nat.le_of_ble_eq_true rfl⟩ (va_recv hK hP (ci := 4) (q0 := 0) rfl rfl) rfl hl.1 rfl (Nat.le_of_ble_eq_true rfl) dL_law_647 ⟨Nat.le_trans hce hrm.1, Nat.le_trans hsl hrm.2⟩ ?_
  refine W.eq (g2 := F0 m 650 ls [.int K]) rfl ?_
  refine lv_iload hx hb dL_law_650 (lv_at hl 1 rfl) ?_
  refine lv_icmp_eq (tgt := 657) hx hb dL_law_652 (by decide) (fun _ => ?_) (fun h => absurd rfl h)
  refine lv_iload hx hb dL_law_657 (lv_at hl 1 rfl) ?_
  have fin : ∀ ls : Array Slot, lv_has ls 9 [(7, .int bv), (6, .int K), (5, .int (nI i)), (4, .ref od), (3, .ref oo), (2, .ref (am 0)), (1, .ref (ad 0)), (0, .ref b)] → W p l e room_1 s m #[Value.ref b] below meth c H locs ce sl Q (F0 m 674 ls []) := fun ls hl => lv_goto (tgt := 1603) hx hb dL_law_674 (by decide) (L_k CC k rfl rfl hF hP hD hS hce hsl (lv_sub hl [2, 3, 4, 5, 6, 7] rfl))
  refine lv_if_ne (tgt := 674) hx hb dL_law_659 (by decide) (fun _ => fin ls hl) (fun hk => ?_)
  have hg := hg hk
  refine lv_aload_n hx hb dL_law_662 rfl (lv_at hl 4 rfl) ?_
  refine lv_iconst (v := nI 0) hx hb dL_law_663 (by first | decide | rfl) ?_
  refine va_lald hx hb hK hP 10 3 rfl rfl (nI_in (by omega) (by omega)) dL_law_664 ?_
  refine lv_rwl (y := bv.toInt64) ((congrArg fo (nI_clamp (n := 0) (by omega))).trans hg) ?_
  refine lv_iload hx hb dL_law_665 (lv_at hl 0 rfl) ?_
  refine lv_i2l hx hb dL_law_667 rfl ?_
  refine W.lcmp hx hb dL_law_668 ?_
  exact lv_if_eq (tgt := 674) hx hb dL_law_669 (by decide) (fun _ => fin ls hl) (fun h => absurd ((lcmp_eq _ _).mpr rfl) h)
set_option maxHeartbeats 4000000 in
theorem L_a8 (CC : LC p l s m c b L xs D cs z mi A) (hS : va_S A s.heap H locs) (hl : lv_has ls 9 (LL b a1 a2 oo od i)) (hi : i + 7 ≤ L) {x1 : Int32} (e1 : xs (i + 1) = x1) (k : W p l e room_1 s m #[Value.ref b] below meth c H locs ce sl Q (F0 m 685 ls [.ref oo, .int x1, .ref a1])) : W p l e room_1 s m #[Value.ref b] below meth c H locs ce sl Q (F0 m 677 ls []) := by
  obtain ⟨hx, hb, hml, hown, hts, hT, hR, hK, hA, hX, hbl, hbA, hL, hl9⟩ := id CC
  refine lv_aload_n hx hb dL_law_677 rfl (lv_at hl 4 rfl) ?_
  refine lv_aload_n hx hb dL_law_678 rfl (lv_at hl 5 rfl) ?_
  refine lv_iload hx hb dL_law_679 (lv_at hl 0 rfl) ?_
  refine lv_iconst (v := nI 1) hx hb dL_law_681 (by first | decide | rfl) ?_
  refine lv_iadd hx hb dL_law_682 ?_
  refine lv_rwi (y := nI (i + 1)) (nI_add i 1) ?_
  refine va_sld hx hb hX hbl hbA hS (nI_in (show i + 1 < L by omega) (show L < 2 ^ 31 by omega)) dL_law_683 ?_
  refine lv_rwi (y := x1) ((congrArg xs (nI_clamp (show i + 1 < 2 ^ 31 by omega))).trans e1) ?_
  refine lv_aload_n hx hb dL_law_684 rfl (lv_at hl 2 rfl) ?_
  exact k
set_option maxHeartbeats 4000000 in
theorem L_b8 (CC : LC p l s m c b L xs D cs z mi A) (hS : va_S A s.heap H locs) (hl : lv_has ls 9 (LL b a1 a2 oo od i)) (hi : i + 7 ≤ L) {K : Int32} {x1 : Int32} (e1 : xs (i + 1) = x1) (k : ∀ ls : Array Slot, lv_has ls 9 ((6, .int K) :: LL b a1 a2 oo od i) → W p l e room_1 s m #[Value.ref b] below meth c H locs ce sl Q (F0 m 697 ls [.int x1, .ref a2])) : W p l e room_1 s m #[Value.ref b] below meth c H locs ce sl Q (F0 m 688 ls [.int K]) := by
  obtain ⟨hx, hb, hml, hown, hts, hT, hR, hK, hA, hX, hbl, hbA, hL, hl9⟩ := id CC
  refine lv_istore (lv' := [(6, .int K), (5, .int (nI i)), (4, .ref od), (3, .ref oo), (2, .ref a2), (1, .ref a1), (0, .ref b)]) hx hb dL_law_688 hl (by decide) rfl (fun ls hl => ?_)
  refine lv_aload_n hx hb dL_law_690 rfl (lv_at hl 4 rfl) ?_
  refine lv_aload_n hx hb dL_law_691 rfl (lv_at hl 6 rfl) ?_
  refine lv_iload hx hb dL_law_692 (lv_at hl 1 rfl) ?_
  refine lv_iconst (v := nI 1) hx hb dL_law_694 (by first | decide | rfl) ?_
  refine lv_iadd hx hb dL_law_695 ?_
  refine lv_rwi (y := nI (i + 1)) (nI_add i 1) ?_
  refine va_sld hx hb hX hbl hbA hS (nI_in (show i + 1 < L by omega) (show L < 2 ^ 31 by omega)) dL_law_696 ?_
  refine lv_rwi (y := x1) ((congrArg xs (nI_clamp (show i + 1 < 2 ^ 31 by omega))).trans e1) ?_
  exact k ls hl
set_option maxHeartbeats 4000000 in
set_option maxRecDepth 100000 in
theorem L_t8 (CC : LC p l s m c b L xs D cs z mi A) {K : Int32} (h1 : am 0 = a2) (h2 : ad 0 = a1) (hF : LF cs z ad cnt f1 f2 f3 dn N n cap fn fc puM wh kn nm sk br ht su fa puX rf wa wf T) (hP : va_P D vwCl (LWw cs am ad oo od bank rnds K cnt mcn dn N n fc puM wh kn nm sk br ht sg su fa puX fo fd T) H) (hD : va_D A (LWw cs am ad oo od bank rnds K cnt mcn dn N n fc puM wh kn nm sk br ht sg su fa puX fo fd T)) (hS : va_S A s.heap H locs) (hl : lv_has ls 9 ((6, .int K) :: LL b a1 a2 oo od i)) {bv : Int32} (hg : K = 0 → fo 0 = bv.toInt64) (hrm : cells + 4 ≤ 601024 ∧ slots + 64 ≤ 7293034) (hce : ce ≤ cells + 4) (hsl : sl ≤ slots + 64) (k : LK p l e s m b below meth c Q D cs z A a1 a2 oo od i cells slots) : W p l e room_1 s m #[Value.ref b] below meth c H locs ce sl Q (F0 m 700 ls [.int bv]) := by
  obtain ⟨hx, hb, hml, hown, hts, hT, hR, hK, hA, hX, hbl, hbA, hL, hl9⟩ := id CC
  subst h1
  subst h2
  refine lv_istore (lv' := [(7, .int bv), (6, .int K), (5, .int (nI i)), (4, .ref od), (3, .ref oo), (2, .ref (am 0)), (1, .ref (ad 0)), (0, .ref b)]) hx hb dL_law_700 hl (by decide) rfl (fun ls hl => ?_)
  refine lv_aload_n hx hb dL_law_702 rfl (lv_at hl 5 rfl) ?_
  refine rdV (As := []) (rest := []) (b := am 0) ⟨hx, hb, hml, hown, hts⟩ hK 0 (m_thrown l D cs H (wr_left hP) hF.2.2.1) (gin_v mw_6_6 mw_6_7 mw_6_8 mw_1_5 mw_6_9) (by decide +kernel) ⟨Nat.le_of_ble_eq_true rfl, Nat.le_of_ble_eq_true rfl⟩ (va_recv hK hP (ci := 4) (q0 := 0) rfl rfl) rfl hl.1 rfl (Nat.le_of_ble_eq_true rfl) dL_law_703 ⟨Nat.le_trans hce hrm.1, Nat.le_trans hsl hrm.2⟩ ?_
  refine W.eq (g2 := F0 m 706 ls [.int K]) rfl ?_
  refine lv_iload hx hb dL_law_706 (lv_at hl 1 rfl) ?_
  refine lv_icmp_eq (tgt := 713) hx hb dL_law_708 (by decide) (fun _ => ?_) (fun h => absurd rfl h)
  refine lv_iload hx hb dL_law_713 (lv_at hl 1 rfl) ?_
  have fin : ∀ ls : Array Slot, lv_has ls 9 [(7, .int bv), (6, .int K), (5, .int (nI i)), (4, .ref od), (3, .ref oo), (2, .ref (am 0)), (1, .ref (ad 0)), (0, .ref b)] → W p l e room_1 s m #[Value.ref b] below meth c H locs ce sl Q (F0 m 730 ls []) := fun ls hl => lv_goto (tgt := 1603) hx hb dL_law_730 (by decide) (L_k CC k rfl rfl hF hP hD hS hce hsl (lv_sub hl [2, 3, 4, 5, 6, 7] rfl))
  refine lv_if_ne (tgt := 730) hx hb dL_law_715 (by decide) (fun _ => fin ls hl) (fun hk => ?_)
  have hg := hg hk
  refine lv_aload_n hx hb dL_law_718 rfl (lv_at hl 4 rfl) ?_
  refine lv_iconst (v := nI 0) hx hb dL_law_719 (by first | decide | rfl) ?_
  refine va_lald hx hb hK hP 10 3 rfl rfl (nI_in (by omega) (by omega)) dL_law_720 ?_
  refine lv_rwl (y := bv.toInt64) ((congrArg fo (nI_clamp (n := 0) (by omega))).trans hg) ?_
  refine lv_iload hx hb dL_law_721 (lv_at hl 0 rfl) ?_
  refine lv_i2l hx hb dL_law_723 rfl ?_
  refine W.lcmp hx hb dL_law_724 ?_
  exact lv_if_eq (tgt := 730) hx hb dL_law_725 (by decide) (fun _ => fin ls hl) (fun h => absurd ((lcmp_eq _ _).mpr rfl) h)
set_option maxHeartbeats 4000000 in
theorem L_a12 (CC : LC p l s m c b L xs D cs z mi A) (hS : va_S A s.heap H locs) (hl : lv_has ls 9 (LL b a1 a2 oo od i)) (hi : i + 7 ≤ L) {x1 : Int32} (e1 : xs (i + 1) = x1) (k : W p l e room_1 s m #[Value.ref b] below meth c H locs ce sl Q (F0 m 780 ls [.ref oo, .int x1, .ref a1])) : W p l e room_1 s m #[Value.ref b] below meth c H locs ce sl Q (F0 m 772 ls []) := by
  obtain ⟨hx, hb, hml, hown, hts, hT, hR, hK, hA, hX, hbl, hbA, hL, hl9⟩ := id CC
  refine lv_aload_n hx hb dL_law_772 rfl (lv_at hl 4 rfl) ?_
  refine lv_aload_n hx hb dL_law_773 rfl (lv_at hl 5 rfl) ?_
  refine lv_iload hx hb dL_law_774 (lv_at hl 0 rfl) ?_
  refine lv_iconst (v := nI 1) hx hb dL_law_776 (by first | decide | rfl) ?_
  refine lv_iadd hx hb dL_law_777 ?_
  refine lv_rwi (y := nI (i + 1)) (nI_add i 1) ?_
  refine va_sld hx hb hX hbl hbA hS (nI_in (show i + 1 < L by omega) (show L < 2 ^ 31 by omega)) dL_law_778 ?_
  refine lv_rwi (y := x1) ((congrArg xs (nI_clamp (show i + 1 < 2 ^ 31 by omega))).trans e1) ?_
  refine lv_aload_n hx hb dL_law_779 rfl (lv_at hl 2 rfl) ?_
  exact k
set_option maxHeartbeats 4000000 in
theorem L_b12 (CC : LC p l s m c b L xs D cs z mi A) (hS : va_S A s.heap H locs) (hl : lv_has ls 9 (LL b a1 a2 oo od i)) (hi : i + 7 ≤ L) {K : Int32} {x1 : Int32} (e1 : xs (i + 1) = x1) (k : ∀ ls : Array Slot, lv_has ls 9 ((6, .int K) :: LL b a1 a2 oo od i) → W p l e room_1 s m #[Value.ref b] below meth c H locs ce sl Q (F0 m 792 ls [.int x1, .ref a2])) : W p l e room_1 s m #[Value.ref b] below meth c H locs ce sl Q (F0 m 783 ls [.int K]) := by
  obtain ⟨hx, hb, hml, hown, hts, hT, hR, hK, hA, hX, hbl, hbA, hL, hl9⟩ := id CC
  refine lv_istore (lv' := [(6, .int K), (5, .int (nI i)), (4, .ref od), (3, .ref oo), (2, .ref a2), (1, .ref a1), (0, .ref b)]) hx hb dL_law_783 hl (by decide) rfl (fun ls hl => ?_)
  refine lv_aload_n hx hb dL_law_785 rfl (lv_at hl 4 rfl) ?_
  refine lv_aload_n hx hb dL_law_786 rfl (lv_at hl 6 rfl) ?_
  refine lv_iload hx hb dL_law_787 (lv_at hl 1 rfl) ?_
  refine lv_iconst (v := nI 1) hx hb dL_law_789 (by first | decide | rfl) ?_
  refine lv_iadd hx hb dL_law_790 ?_
  refine lv_rwi (y := nI (i + 1)) (nI_add i 1) ?_
  refine va_sld hx hb hX hbl hbA hS (nI_in (show i + 1 < L by omega) (show L < 2 ^ 31 by omega)) dL_law_791 ?_
  refine lv_rwi (y := x1) ((congrArg xs (nI_clamp (show i + 1 < 2 ^ 31 by omega))).trans e1) ?_
  exact k ls hl
set_option maxHeartbeats 4000000 in
set_option maxRecDepth 100000 in
theorem L_t12 (CC : LC p l s m c b L xs D cs z mi A) {K : Int32} (h1 : am 0 = a2) (h2 : ad 0 = a1) (hF : LF cs z ad cnt f1 f2 f3 dn N n cap fn fc puM wh kn nm sk br ht su fa puX rf wa wf T) (hP : va_P D vwCl (LWw cs am ad oo od bank rnds K cnt mcn dn N n fc puM wh kn nm sk br ht sg su fa puX fo fd T) H) (hD : va_D A (LWw cs am ad oo od bank rnds K cnt mcn dn N n fc puM wh kn nm sk br ht sg su fa puX fo fd T)) (hS : va_S A s.heap H locs) (hl : lv_has ls 9 ((6, .int K) :: LL b a1 a2 oo od i)) {bv : Int32} (hg : K = 0 → fo 0 = bv.toInt64) (hrm : cells + 4 ≤ 601024 ∧ slots + 64 ≤ 7293034) (hce : ce ≤ cells + 4) (hsl : sl ≤ slots + 64) (k : LK p l e s m b below meth c Q D cs z A a1 a2 oo od i cells slots) : W p l e room_1 s m #[Value.ref b] below meth c H locs ce sl Q (F0 m 795 ls [.int bv]) := by
  obtain ⟨hx, hb, hml, hown, hts, hT, hR, hK, hA, hX, hbl, hbA, hL, hl9⟩ := id CC
  subst h1
  subst h2
  refine lv_istore (lv' := [(7, .int bv), (6, .int K), (5, .int (nI i)), (4, .ref od), (3, .ref oo), (2, .ref (am 0)), (1, .ref (ad 0)), (0, .ref b)]) hx hb dL_law_795 hl (by decide) rfl (fun ls hl => ?_)
  refine lv_aload_n hx hb dL_law_797 rfl (lv_at hl 5 rfl) ?_
  refine rdV (As := []) (rest := []) (b := am 0) ⟨hx, hb, hml, hown, hts⟩ hK 0 (m_thrown l D cs H (wr_left hP) hF.2.2.1) (gin_v mw_6_6 mw_6_7 mw_6_8 mw_1_5 mw_6_9) (by decide +kernel) ⟨Nat.le_of_ble_eq_true rfl, Nat.le_of_ble_eq_true rfl⟩ (va_recv hK hP (ci := 4) (q0 := 0) rfl rfl) rfl hl.1 rfl (Nat.le_of_ble_eq_true rfl) dL_law_798 ⟨Nat.le_trans hce hrm.1, Nat.le_trans hsl hrm.2⟩ ?_
  refine W.eq (g2 := F0 m 801 ls [.int K]) rfl ?_
  refine lv_iload hx hb dL_law_801 (lv_at hl 1 rfl) ?_
  refine lv_icmp_eq (tgt := 808) hx hb dL_law_803 (by decide) (fun _ => ?_) (fun h => absurd rfl h)
  refine lv_iload hx hb dL_law_808 (lv_at hl 1 rfl) ?_
  have fin : ∀ ls : Array Slot, lv_has ls 9 [(7, .int bv), (6, .int K), (5, .int (nI i)), (4, .ref od), (3, .ref oo), (2, .ref (am 0)), (1, .ref (ad 0)), (0, .ref b)] → W p l e room_1 s m #[Value.ref b] below meth c H locs ce sl Q (F0 m 825 ls []) := fun ls hl => lv_goto (tgt := 1603) hx hb dL_law_825 (by decide) (L_k CC k rfl rfl hF hP hD hS hce hsl (lv_sub hl [2, 3, 4, 5, 6, 7] rfl))
  refine lv_if_ne (tgt := 825) hx hb dL_law_810 (by decide) (fun _ => fin ls hl) (fun hk => ?_)
  have hg := hg hk
  refine lv_aload_n hx hb dL_law_813 rfl (lv_at hl 4 rfl) ?_
  refine lv_iconst (v := nI 0) hx hb dL_law_814 (by first | decide | rfl) ?_
  refine va_lald hx hb hK hP 10 3 rfl rfl (nI_in (by omega) (by omega)) dL_law_815 ?_
  refine lv_rwl (y := bv.toInt64) ((congrArg fo (nI_clamp (n := 0) (by omega))).trans hg) ?_
  refine lv_iload hx hb dL_law_816 (lv_at hl 0 rfl) ?_
  refine lv_i2l hx hb dL_law_818 rfl ?_
  refine W.lcmp hx hb dL_law_819 ?_
  exact lv_if_eq (tgt := 825) hx hb dL_law_820 (by decide) (fun _ => fin ls hl) (fun h => absurd ((lcmp_eq _ _).mpr rfl) h)
set_option maxHeartbeats 4000000 in
theorem L_a13 (CC : LC p l s m c b L xs D cs z mi A) (hS : va_S A s.heap H locs) (hl : lv_has ls 9 (LL b a1 a2 oo od i)) (hi : i + 7 ≤ L) {x1 : Int32} (e1 : xs (i + 1) = x1) (k : W p l e room_1 s m #[Value.ref b] below meth c H locs ce sl Q (F0 m 836 ls [.ref oo, .int x1, .ref a1])) : W p l e room_1 s m #[Value.ref b] below meth c H locs ce sl Q (F0 m 828 ls []) := by
  obtain ⟨hx, hb, hml, hown, hts, hT, hR, hK, hA, hX, hbl, hbA, hL, hl9⟩ := id CC
  refine lv_aload_n hx hb dL_law_828 rfl (lv_at hl 4 rfl) ?_
  refine lv_aload_n hx hb dL_law_829 rfl (lv_at hl 5 rfl) ?_
  refine lv_iload hx hb dL_law_830 (lv_at hl 0 rfl) ?_
  refine lv_iconst (v := nI 1) hx hb dL_law_832 (by first | decide | rfl) ?_
  refine lv_iadd hx hb dL_law_833 ?_
  refine lv_rwi (y := nI (i + 1)) (nI_add i 1) ?_
  refine va_sld hx hb hX hbl hbA hS (nI_in (show i + 1 < L by omega) (show L < 2 ^ 31 by omega)) dL_law_834 ?_
  refine lv_rwi (y := x1) ((congrArg xs (nI_clamp (show i + 1 < 2 ^ 31 by omega))).trans e1) ?_
  refine lv_aload_n hx hb dL_law_835 rfl (lv_at hl 2 rfl) ?_
  exact k
set_option maxHeartbeats 4000000 in
theorem L_b13 (CC : LC p l s m c b L xs D cs z mi A) (hS : va_S A s.heap H locs) (hl : lv_has ls 9 (LL b a1 a2 oo od i)) (hi : i + 7 ≤ L) {K : Int32} {x1 : Int32} (e1 : xs (i + 1) = x1) (k : ∀ ls : Array Slot, lv_has ls 9 ((6, .int K) :: LL b a1 a2 oo od i) → W p l e room_1 s m #[Value.ref b] below meth c H locs ce sl Q (F0 m 848 ls [.int x1, .ref a2])) : W p l e room_1 s m #[Value.ref b] below meth c H locs ce sl Q (F0 m 839 ls [.int K]) := by
  obtain ⟨hx, hb, hml, hown, hts, hT, hR, hK, hA, hX, hbl, hbA, hL, hl9⟩ := id CC
  refine lv_istore (lv' := [(6, .int K), (5, .int (nI i)), (4, .ref od), (3, .ref oo), (2, .ref a2), (1, .ref a1), (0, .ref b)]) hx hb dL_law_839 hl (by decide) rfl (fun ls hl => ?_)
  refine lv_aload_n hx hb dL_law_841 rfl (lv_at hl 4 rfl) ?_
  refine lv_aload_n hx hb dL_law_842 rfl (lv_at hl 6 rfl) ?_
  refine lv_iload hx hb dL_law_843 (lv_at hl 1 rfl) ?_
  refine lv_iconst (v := nI 1) hx hb dL_law_845 (by first | decide | rfl) ?_
  refine lv_iadd hx hb dL_law_846 ?_
  refine lv_rwi (y := nI (i + 1)) (nI_add i 1) ?_
  refine va_sld hx hb hX hbl hbA hS (nI_in (show i + 1 < L by omega) (show L < 2 ^ 31 by omega)) dL_law_847 ?_
  refine lv_rwi (y := x1) ((congrArg xs (nI_clamp (show i + 1 < 2 ^ 31 by omega))).trans e1) ?_
  exact k ls hl
set_option maxHeartbeats 4000000 in
set_option maxRecDepth 100000 in
theorem L_t13 (CC : LC p l s m c b L xs D cs z mi A) {K : Int32} (h1 : am 0 = a2) (h2 : ad 0 = a1) (hF : LF cs z ad cnt f1 f2 f3 dn N n cap fn fc puM wh kn nm sk br ht su fa puX rf wa wf T) (hP : va_P D vwCl (LWw cs am ad oo od bank rnds K cnt mcn dn N n fc puM wh kn nm sk br ht sg su fa puX fo fd T) H) (hD : va_D A (LWw cs am ad oo od bank rnds K cnt mcn dn N n fc puM wh kn nm sk br ht sg su fa puX fo fd T)) (hS : va_S A s.heap H locs) (hl : lv_has ls 9 ((6, .int K) :: LL b a1 a2 oo od i)) {bv : Int32} (hg : K = 0 → fo 0 = bv.toInt64) (hrm : cells + 4 ≤ 601024 ∧ slots + 64 ≤ 7293034) (hce : ce ≤ cells + 4) (hsl : sl ≤ slots + 64) (k : LK p l e s m b below meth c Q D cs z A a1 a2 oo od i cells slots) : W p l e room_1 s m #[Value.ref b] below meth c H locs ce sl Q (F0 m 851 ls [.int bv]) := by
  obtain ⟨hx, hb, hml, hown, hts, hT, hR, hK, hA, hX, hbl, hbA, hL, hl9⟩ := id CC
  subst h1
  subst h2
  refine lv_istore (lv' := [(7, .int bv), (6, .int K), (5, .int (nI i)), (4, .ref od), (3, .ref oo), (2, .ref (am 0)), (1, .ref (ad 0)), (0, .ref b)]) hx hb dL_law_851 hl (by decide) rfl (fun ls hl => ?_)
  refine lv_aload_n hx hb dL_law_853 rfl (lv_at hl 5 rfl) ?_
  refine rdV (As := []) (rest := []) (b := am 0) ⟨hx, hb, hml, hown, hts⟩ hK 0 (m_thrown l D cs H (wr_left hP) hF.2.2.1) (gin_v mw_6_6 mw_6_7 mw_6_8 mw_1_5 mw_6_9) (by decide +kernel) ⟨Nat.le_of_ble_eq_true rfl, Nat.le_of_ble_eq_true rfl⟩ (va_recv hK hP (ci := 4) (q0 := 0) rfl rfl) rfl hl.1 rfl (Nat.le_of_ble_eq_true rfl) dL_law_854 ⟨Nat.le_trans hce hrm.1, Nat.le_trans hsl hrm.2⟩ ?_
  refine W.eq (g2 := F0 m 857 ls [.int K]) rfl ?_
  refine lv_iload hx hb dL_law_857 (lv_at hl 1 rfl) ?_
  refine lv_icmp_eq (tgt := 864) hx hb dL_law_859 (by decide) (fun _ => ?_) (fun h => absurd rfl h)
  refine lv_iload hx hb dL_law_864 (lv_at hl 1 rfl) ?_
  have fin : ∀ ls : Array Slot, lv_has ls 9 [(7, .int bv), (6, .int K), (5, .int (nI i)), (4, .ref od), (3, .ref oo), (2, .ref (am 0)), (1, .ref (ad 0)), (0, .ref b)] → W p l e room_1 s m #[Value.ref b] below meth c H locs ce sl Q (F0 m 881 ls []) := fun ls hl => lv_goto (tgt := 1603) hx hb dL_law_881 (by decide) (L_k CC k rfl rfl hF hP hD hS hce hsl (lv_sub hl [2, 3, 4, 5, 6, 7] rfl))
  refine lv_if_ne (tgt := 881) hx hb dL_law_866 (by decide) (fun _ => fin ls hl) (fun hk => ?_)
  have hg := hg hk
  refine lv_aload_n hx hb dL_law_869 rfl (lv_at hl 4 rfl) ?_
  refine lv_iconst (v := nI 0) hx hb dL_law_870 (by first | decide | rfl) ?_
  refine va_lald hx hb hK hP 10 3 rfl rfl (nI_in (by omega) (by omega)) dL_law_871 ?_
  refine lv_rwl (y := bv.toInt64) ((congrArg fo (nI_clamp (n := 0) (by omega))).trans hg) ?_
  refine lv_iload hx hb dL_law_872 (lv_at hl 0 rfl) ?_
  refine lv_i2l hx hb dL_law_874 rfl ?_
  refine W.lcmp hx hb dL_law_875 ?_
  exact lv_if_eq (tgt := 881) hx hb dL_law_876 (by decide) (fun _ => fin ls hl) (fun h => absurd ((lcmp_eq _ _).mpr rfl) h)
set_option maxHeartbeats 4000000 in
theorem L_a14 (CC : LC p l s m c b L xs D cs z mi A) (hS : va_S A s.heap H locs) (hl : lv_has ls 9 (LL b a1 a2 oo od i)) (hi : i + 7 ≤ L) {x1 : Int32} (e1 : xs (i + 1) = x1) (k : W p l e room_1 s m #[Value.ref b] below meth c H locs ce sl Q (F0 m 892 ls [.ref oo, .int x1, .ref a1])) : W p l e room_1 s m #[Value.ref b] below meth c H locs ce sl Q (F0 m 884 ls []) := by
  obtain ⟨hx, hb, hml, hown, hts, hT, hR, hK, hA, hX, hbl, hbA, hL, hl9⟩ := id CC
  refine lv_aload_n hx hb dL_law_884 rfl (lv_at hl 4 rfl) ?_
  refine lv_aload_n hx hb dL_law_885 rfl (lv_at hl 5 rfl) ?_
  refine lv_iload hx hb dL_law_886 (lv_at hl 0 rfl) ?_
  refine lv_iconst (v := nI 1) hx hb dL_law_888 (by first | decide | rfl) ?_
  refine lv_iadd hx hb dL_law_889 ?_
  refine lv_rwi (y := nI (i + 1)) (nI_add i 1) ?_
  refine va_sld hx hb hX hbl hbA hS (nI_in (show i + 1 < L by omega) (show L < 2 ^ 31 by omega)) dL_law_890 ?_
  refine lv_rwi (y := x1) ((congrArg xs (nI_clamp (show i + 1 < 2 ^ 31 by omega))).trans e1) ?_
  refine lv_aload_n hx hb dL_law_891 rfl (lv_at hl 2 rfl) ?_
  exact k
set_option maxHeartbeats 4000000 in
theorem L_b14 (CC : LC p l s m c b L xs D cs z mi A) (hS : va_S A s.heap H locs) (hl : lv_has ls 9 (LL b a1 a2 oo od i)) (hi : i + 7 ≤ L) {K : Int32} {x1 : Int32} (e1 : xs (i + 1) = x1) (k : ∀ ls : Array Slot, lv_has ls 9 ((6, .int K) :: LL b a1 a2 oo od i) → W p l e room_1 s m #[Value.ref b] below meth c H locs ce sl Q (F0 m 904 ls [.int x1, .ref a2])) : W p l e room_1 s m #[Value.ref b] below meth c H locs ce sl Q (F0 m 895 ls [.int K]) := by
  obtain ⟨hx, hb, hml, hown, hts, hT, hR, hK, hA, hX, hbl, hbA, hL, hl9⟩ := id CC
  refine lv_istore (lv' := [(6, .int K), (5, .int (nI i)), (4, .ref od), (3, .ref oo), (2, .ref a2), (1, .ref a1), (0, .ref b)]) hx hb dL_law_895 hl (by decide) rfl (fun ls hl => ?_)
  refine lv_aload_n hx hb dL_law_897 rfl (lv_at hl 4 rfl) ?_
  refine lv_aload_n hx hb dL_law_898 rfl (lv_at hl 6 rfl) ?_
  refine lv_iload hx hb dL_law_899 (lv_at hl 1 rfl) ?_
  refine lv_iconst (v := nI 1) hx hb dL_law_901 (by first | decide | rfl) ?_
  refine lv_iadd hx hb dL_law_902 ?_
  refine lv_rwi (y := nI (i + 1)) (nI_add i 1) ?_
  refine va_sld hx hb hX hbl hbA hS (nI_in (show i + 1 < L by omega) (show L < 2 ^ 31 by omega)) dL_law_903 ?_
  refine lv_rwi (y := x1) ((congrArg xs (nI_clamp (show i + 1 < 2 ^ 31 by omega))).trans e1) ?_
  exact k ls hl
set_option maxHeartbeats 4000000 in
set_option maxRecDepth 100000 in
theorem L_t14 (CC : LC p l s m c b L xs D cs z mi A) {K : Int32} (h1 : am 0 = a2) (h2 : ad 0 = a1) (hF : LF cs z ad cnt f1 f2 f3 dn N n cap fn fc puM wh kn nm sk br ht su fa puX rf wa wf T) (hP : va_P D vwCl (LWw cs am ad oo od bank rnds K cnt mcn dn N n fc puM wh kn nm sk br ht sg su fa puX fo fd T) H) (hD : va_D A (LWw cs am ad oo od bank rnds K cnt mcn dn N n fc puM wh kn nm sk br ht sg su fa puX fo fd T)) (hS : va_S A s.heap H locs) (hl : lv_has ls 9 ((6, .int K) :: LL b a1 a2 oo od i)) {bv : Int32} (hg : K = 0 → fo 0 = bv.toInt64) (hrm : cells + 4 ≤ 601024 ∧ slots + 64 ≤ 7293034) (hce : ce ≤ cells + 4) (hsl : sl ≤ slots + 64) (k : LK p l e s m b below meth c Q D cs z A a1 a2 oo od i cells slots) : W p l e room_1 s m #[Value.ref b] below meth c H locs ce sl Q (F0 m 907 ls [.int bv]) := by
  obtain ⟨hx, hb, hml, hown, hts, hT, hR, hK, hA, hX, hbl, hbA, hL, hl9⟩ := id CC
  subst h1
  subst h2
  refine lv_istore (lv' := [(7, .int bv), (6, .int K), (5, .int (nI i)), (4, .ref od), (3, .ref oo), (2, .ref (am 0)), (1, .ref (ad 0)), (0, .ref b)]) hx hb dL_law_907 hl (by decide) rfl (fun ls hl => ?_)
  refine lv_aload_n hx hb dL_law_909 rfl (lv_at hl 5 rfl) ?_
  refine rdV (As := []) (rest := []) (b := am 0) ⟨hx, hb, hml, hown, hts⟩ hK 0 (m_thrown l D cs H (wr_left hP) hF.2.2.1) (gin_v mw_6_6 mw_6_7 mw_6_8 mw_1_5 mw_6_9) (by decide +kernel) ⟨Nat.le_of_ble_eq_true rfl, Nat.le_of_ble_eq_true rfl⟩ (va_recv hK hP (ci := 4) (q0 := 0) rfl rfl) rfl hl.1 rfl (Nat.le_of_ble_eq_true rfl) dL_law_910 ⟨Nat.le_trans hce hrm.1, Nat.le_trans hsl hrm.2⟩ ?_
  refine W.eq (g2 := F0 m 913 ls [.int K]) rfl ?_
  refine lv_iload hx hb dL_law_913 (lv_at hl 1 rfl) ?_
  refine lv_icmp_eq (tgt := 920) hx hb dL_law_915 (by decide) (fun _ => ?_) (fun h => absurd rfl h)
  refine lv_iload hx hb dL_law_920 (lv_at hl 1 rfl) ?_
  have fin : ∀ ls : Array Slot, lv_has ls 9 [(7, .int bv), (6, .int K), (5, .int (nI i)), (4, .ref od), (3, .ref oo), (2, .ref (am 0)), (1, .ref (ad 0)), (0, .ref b)] → W p l e room_1 s m #[Value.ref b] below meth c H locs ce sl Q (F0 m 937 ls []) := fun ls hl => lv_goto (tgt := 1603) hx hb dL_law_937 (by decide) (L_k CC k rfl rfl hF hP hD hS hce hsl (lv_sub hl [2, 3, 4, 5, 6, 7] rfl))
  refine lv_if_ne (tgt := 937) hx hb dL_law_922 (by decide) (fun _ => fin ls hl) (fun hk => ?_)
  have hg := hg hk
  refine lv_aload_n hx hb dL_law_925 rfl (lv_at hl 4 rfl) ?_
  refine lv_iconst (v := nI 0) hx hb dL_law_926 (by first | decide | rfl) ?_
  refine va_lald hx hb hK hP 10 3 rfl rfl (nI_in (by omega) (by omega)) dL_law_927 ?_
  refine lv_rwl (y := bv.toInt64) ((congrArg fo (nI_clamp (n := 0) (by omega))).trans hg) ?_
  refine lv_iload hx hb dL_law_928 (lv_at hl 0 rfl) ?_
  refine lv_i2l hx hb dL_law_930 rfl ?_
  refine W.lcmp hx hb dL_law_931 ?_
  exact lv_if_eq (tgt := 937) hx hb dL_law_932 (by decide) (fun _ => fin ls hl) (fun h => absurd ((lcmp_eq _ _).mpr rfl) h)
set_option maxHeartbeats 4000000 in
theorem L_a15 (CC : LC p l s m c b L xs D cs z mi A) (hS : va_S A s.heap H locs) (hl : lv_has ls 9 (LL b a1 a2 oo od i)) (hi : i + 7 ≤ L) {x1 : Int32} (e1 : xs (i + 1) = x1) (k : W p l e room_1 s m #[Value.ref b] below meth c H locs ce sl Q (F0 m 948 ls [.ref oo, .int x1, .ref a1])) : W p l e room_1 s m #[Value.ref b] below meth c H locs ce sl Q (F0 m 940 ls []) := by
  obtain ⟨hx, hb, hml, hown, hts, hT, hR, hK, hA, hX, hbl, hbA, hL, hl9⟩ := id CC
  refine lv_aload_n hx hb dL_law_940 rfl (lv_at hl 4 rfl) ?_
  refine lv_aload_n hx hb dL_law_941 rfl (lv_at hl 5 rfl) ?_
  refine lv_iload hx hb dL_law_942 (lv_at hl 0 rfl) ?_
  refine lv_iconst (v := nI 1) hx hb dL_law_944 (by first | decide | rfl) ?_
  refine lv_iadd hx hb dL_law_945 ?_
  refine lv_rwi (y := nI (i + 1)) (nI_add i 1) ?_
  refine va_sld hx hb hX hbl hbA hS (nI_in (show i + 1 < L by omega) (show L < 2 ^ 31 by omega)) dL_law_946 ?_
  refine lv_rwi (y := x1) ((congrArg xs (nI_clamp (show i + 1 < 2 ^ 31 by omega))).trans e1) ?_
  refine lv_aload_n hx hb dL_law_947 rfl (lv_at hl 2 rfl) ?_
  exact k
set_option maxHeartbeats 4000000 in
theorem L_b15 (CC : LC p l s m c b L xs D cs z mi A) (hS : va_S A s.heap H locs) (hl : lv_has ls 9 (LL b a1 a2 oo od i)) (hi : i + 7 ≤ L) {K : Int32} {x1 : Int32} (e1 : xs (i + 1) = x1) (k : ∀ ls : Array Slot, lv_has ls 9 ((6, .int K) :: LL b a1 a2 oo od i) → W p l e room_1 s m #[Value.ref b] below meth c H locs ce sl Q (F0 m 960 ls [.int x1, .ref a2])) : W p l e room_1 s m #[Value.ref b] below meth c H locs ce sl Q (F0 m 951 ls [.int K]) := by
  obtain ⟨hx, hb, hml, hown, hts, hT, hR, hK, hA, hX, hbl, hbA, hL, hl9⟩ := id CC
  refine lv_istore (lv' := [(6, .int K), (5, .int (nI i)), (4, .ref od), (3, .ref oo), (2, .ref a2), (1, .ref a1), (0, .ref b)]) hx hb dL_law_951 hl (by decide) rfl (fun ls hl => ?_)
  refine lv_aload_n hx hb dL_law_953 rfl (lv_at hl 4 rfl) ?_
  refine lv_aload_n hx hb dL_law_954 rfl (lv_at hl 6 rfl) ?_
  refine lv_iload hx hb dL_law_955 (lv_at hl 1 rfl) ?_
  refine lv_iconst (v := nI 1) hx hb dL_law_957 (by first | decide | rfl) ?_
  refine lv_iadd hx hb dL_law_958 ?_
  refine lv_rwi (y := nI (i + 1)) (nI_add i 1) ?_
  refine va_sld hx hb hX hbl hbA hS (nI_in (show i + 1 < L by omega) (show L < 2 ^ 31 by omega)) dL_law_959 ?_
  refine lv_rwi (y := x1) ((congrArg xs (nI_clamp (show i + 1 < 2 ^ 31 by omega))).trans e1) ?_
  exact k ls hl
set_option maxHeartbeats 4000000 in
set_option maxRecDepth 100000 in
theorem L_t15 (CC : LC p l s m c b L xs D cs z mi A) {K : Int32} (h1 : am 0 = a2) (h2 : ad 0 = a1) (hF : LF cs z ad cnt f1 f2 f3 dn N n cap fn fc puM wh kn nm sk br ht su fa puX rf wa wf T) (hP : va_P D vwCl (LWw cs am ad oo od bank rnds K cnt mcn dn N n fc puM wh kn nm sk br ht sg su fa puX fo fd T) H) (hD : va_D A (LWw cs am ad oo od bank rnds K cnt mcn dn N n fc puM wh kn nm sk br ht sg su fa puX fo fd T)) (hS : va_S A s.heap H locs) (hl : lv_has ls 9 ((6, .int K) :: LL b a1 a2 oo od i)) {bv : Int32} (hg : K = 0 → fo 0 = bv.toInt64) (hrm : cells + 4 ≤ 601024 ∧ slots + 64 ≤ 7293034) (hce : ce ≤ cells + 4) (hsl : sl ≤ slots + 64) (k : LK p l e s m b below meth c Q D cs z A a1 a2 oo od i cells slots) : W p l e room_1 s m #[Value.ref b] below meth c H locs ce sl Q (F0 m 963 ls [.int bv]) := by
  obtain ⟨hx, hb, hml, hown, hts, hT, hR, hK, hA, hX, hbl, hbA, hL, hl9⟩ := id CC
  subst h1
  subst h2
  refine lv_istore (lv' := [(7, .int bv), (6, .int K), (5, .int (nI i)), (4, .ref od), (3, .ref oo), (2, .ref (am 0)), (1, .ref (ad 0)), (0, .ref b)]) hx hb dL_law_963 hl (by decide) rfl (fun ls hl => ?_)
  refine lv_aload_n hx hb dL_law_965 rfl (lv_at hl 5 rfl) ?_
  refine rdV (As := []) (rest := []) (b := am 0) ⟨hx, hb, hml, hown, hts⟩ hK 0 (m_thrown l D cs H (wr_left hP) hF.2.2.1) (gin_v mw_6_6 mw_6_7 mw_6_8 mw_1_5 mw_6_9) (by decide +kernel) ⟨Nat.le_of_ble_eq_true rfl, Nat.le_of_ble_eq_true rfl⟩ (va_recv hK hP (ci := 4) (q0 := 0) rfl rfl) rfl hl.1 rfl (Nat.le_of_ble_eq_true rfl) dL_law_966 ⟨Nat.le_trans hce hrm.1, Nat.le_trans hsl hrm.2⟩ ?_
  refine W.eq (g2 := F0 m 969 ls [.int K]) rfl ?_
  refine lv_iload hx hb dL_law_969 (lv_at hl 1 rfl) ?_
  refine lv_icmp_eq (tgt := 976) hx hb dL_law_971 (by decide) (fun _ => ?_) (fun h => absurd rfl h)
  refine lv_iload hx hb dL_law_976 (lv_at hl 1 rfl) ?_
  have fin : ∀ ls : Array Slot, lv_has ls 9 [(7, .int bv), (6, .int K), (5, .int (nI i)), (4, .ref od), (3, .ref oo), (2, .ref (am 0)), (1, .ref (ad 0)), (0, .ref b)] → W p l e room_1 s m #[Value.ref b] below meth c H locs ce sl Q (F0 m 993 ls []) := fun ls hl => lv_goto (tgt := 1603) hx hb dL_law_993 (by decide) (L_k CC k rfl rfl hF hP hD hS hce hsl (lv_sub hl [2, 3, 4, 5, 6, 7] rfl))
  refine lv_if_ne (tgt := 993) hx hb dL_law_978 (by decide) (fun _ => fin ls hl) (fun hk => ?_)
  have hg := hg hk
  refine lv_aload_n hx hb dL_law_981 rfl (lv_at hl 4 rfl) ?_
  refine lv_iconst (v := nI 0) hx hb dL_law_982 (by first | decide | rfl) ?_
  refine va_lald hx hb hK hP 10 3 rfl rfl (nI_in (by omega) (by omega)) dL_law_983 ?_
  refine lv_rwl (y := bv.toInt64) ((congrArg fo (nI_clamp (n := 0) (by omega))).trans hg) ?_
  refine lv_iload hx hb dL_law_984 (lv_at hl 0 rfl) ?_
  refine lv_i2l hx hb dL_law_986 rfl ?_
  refine W.lcmp hx hb dL_law_987 ?_
  exact lv_if_eq (tgt := 993) hx hb dL_law_988 (by decide) (fun _ => fin ls hl) (fun h => absurd ((lcmp_eq _ _).mpr rfl) h)
set_option maxHeartbeats 4000000 in
theorem L_a17 (CC : LC p l s m c b L xs D cs z mi A) (hS : va_S A s.heap H locs) (hl : lv_has ls 9 (LL b a1 a2 oo od i)) (hi : i + 7 ≤ L) {x1 : Int32} (e1 : xs (i + 1) = x1) (k : W p l e room_1 s m #[Value.ref b] below meth c H locs ce sl Q (F0 m 1017 ls [.ref oo, .int x1, .ref a1])) : W p l e room_1 s m #[Value.ref b] below meth c H locs ce sl Q (F0 m 1009 ls []) := by
  obtain ⟨hx, hb, hml, hown, hts, hT, hR, hK, hA, hX, hbl, hbA, hL, hl9⟩ := id CC
  refine lv_aload_n hx hb dL_law_1009 rfl (lv_at hl 4 rfl) ?_
  refine lv_aload_n hx hb dL_law_1010 rfl (lv_at hl 5 rfl) ?_
  refine lv_iload hx hb dL_law_1011 (lv_at hl 0 rfl) ?_
  refine lv_iconst (v := nI 1) hx hb dL_law_1013 (by first | decide | rfl) ?_
  refine lv_iadd hx hb dL_law_1014 ?_
  refine lv_rwi (y := nI (i + 1)) (nI_add i 1) ?_
  refine va_sld hx hb hX hbl hbA hS (nI_in (show i + 1 < L by omega) (show L < 2 ^ 31 by omega)) dL_law_1015 ?_
  refine lv_rwi (y := x1) ((congrArg xs (nI_clamp (show i + 1 < 2 ^ 31 by omega))).trans e1) ?_
  refine lv_aload_n hx hb dL_law_1016 rfl (lv_at hl 2 rfl) ?_
  exact k
set_option maxHeartbeats 4000000 in
theorem L_b17 (CC : LC p l s m c b L xs D cs z mi A) (hS : va_S A s.heap H locs) (hl : lv_has ls 9 (LL b a1 a2 oo od i)) (hi : i + 7 ≤ L) {K : Int32} {x1 : Int32} (e1 : xs (i + 1) = x1) (k : ∀ ls : Array Slot, lv_has ls 9 ((6, .int K) :: LL b a1 a2 oo od i) → W p l e room_1 s m #[Value.ref b] below meth c H locs ce sl Q (F0 m 1029 ls [.int x1, .ref a2])) : W p l e room_1 s m #[Value.ref b] below meth c H locs ce sl Q (F0 m 1020 ls [.int K]) := by
  obtain ⟨hx, hb, hml, hown, hts, hT, hR, hK, hA, hX, hbl, hbA, hL, hl9⟩ := id CC
  refine lv_istore (lv' := [(6, .int K), (5, .int (nI i)), (4, .ref od), (3, .ref oo), (2, .ref a2), (1, .ref a1), (0, .ref b)]) hx hb dL_law_1020 hl (by decide) rfl (fun ls hl => ?_)
  refine lv_aload_n hx hb dL_law_1022 rfl (lv_at hl 4 rfl) ?_
  refine lv_aload_n hx hb dL_law_1023 rfl (lv_at hl 6 rfl) ?_
  refine lv_iload hx hb dL_law_1024 (lv_at hl 1 rfl) ?_
  refine lv_iconst (v := nI 1) hx hb dL_law_1026 (by first | decide | rfl) ?_
  refine lv_iadd hx hb dL_law_1027 ?_
  refine lv_rwi (y := nI (i + 1)) (nI_add i 1) ?_
  refine va_sld hx hb hX hbl hbA hS (nI_in (show i + 1 < L by omega) (show L < 2 ^ 31 by omega)) dL_law_1028 ?_
  refine lv_rwi (y := x1) ((congrArg xs (nI_clamp (show i + 1 < 2 ^ 31 by omega))).trans e1) ?_
  exact k ls hl
set_option maxHeartbeats 4000000 in
set_option maxRecDepth 100000 in
theorem L_t17 (CC : LC p l s m c b L xs D cs z mi A) {K : Int32} (h1 : am 0 = a2) (h2 : ad 0 = a1) (hF : LF cs z ad cnt f1 f2 f3 dn N n cap fn fc puM wh kn nm sk br ht su fa puX rf wa wf T) (hP : va_P D vwCl (LWw cs am ad oo od bank rnds K cnt mcn dn N n fc puM wh kn nm sk br ht sg su fa puX fo fd T) H) (hD : va_D A (LWw cs am ad oo od bank rnds K cnt mcn dn N n fc puM wh kn nm sk br ht sg su fa puX fo fd T)) (hS : va_S A s.heap H locs) (hl : lv_has ls 9 ((6, .int K) :: LL b a1 a2 oo od i)) {bv : Int32} (hg : K = 0 → fo 0 = bv.toInt64) (hrm : cells + 4 ≤ 601024 ∧ slots + 64 ≤ 7293034) (hce : ce ≤ cells + 4) (hsl : sl ≤ slots + 64) (k : LK p l e s m b below meth c Q D cs z A a1 a2 oo od i cells slots) : W p l e room_1 s m #[Value.ref b] below meth c H locs ce sl Q (F0 m 1032 ls [.int bv]) := by
  obtain ⟨hx, hb, hml, hown, hts, hT, hR, hK, hA, hX, hbl, hbA, hL, hl9⟩ := id CC
  subst h1
  subst h2
  refine lv_istore (lv' := [(7, .int bv), (6, .int K), (5, .int (nI i)), (4, .ref od), (3, .ref oo), (2, .ref (am 0)), (1, .ref (ad 0)), (0, .ref b)]) hx hb dL_law_1032 hl (by decide) rfl (fun ls hl => ?_)
  refine lv_aload_n hx hb dL_law_1034 rfl (lv_at hl 5 rfl) ?_
  refine rdV (As := []) (rest := []) (b := am 0) ⟨hx, hb, hml, hown, hts⟩ hK 0 (m_thrown l D cs H (wr_left hP) hF.2.2.1) (gin_v mw_6_6 mw_6_7 mw_6_8 mw_1_5 mw_6_9) (by decide +kernel) ⟨Nat.le_of_ble_eq_true rfl, Nat.le_of_ble_eq_true rfl⟩ (va_recv hK hP (ci := 4) (q0 := 0) rfl rfl) rfl hl.1 rfl (Nat.le_of_ble_eq_true rfl) dL_law_1035 ⟨Nat.le_trans hce hrm.1, Nat.le_trans hsl hrm.2⟩ ?_
  refine W.eq (g2 := F0 m 1038 ls [.int K]) rfl ?_
  refine lv_iload hx hb dL_law_1038 (lv_at hl 1 rfl) ?_
  refine lv_icmp_eq (tgt := 1045) hx hb dL_law_1040 (by decide) (fun _ => ?_) (fun h => absurd rfl h)
  refine lv_iload hx hb dL_law_1045 (lv_at hl 1 rfl) ?_
  have fin : ∀ ls : Array Slot, lv_has ls 9 [(7, .int bv), (6, .int K), (5, .int (nI i)), (4, .ref od), (3, .ref oo), (2, .ref (am 0)), (1, .ref (ad 0)), (0, .ref b)] → W p l e room_1 s m #[Value.ref b] below meth c H locs ce sl Q (F0 m 1062 ls []) := fun ls hl => lv_goto (tgt := 1603) hx hb dL_law_1062 (by decide) (L_k CC k rfl rfl hF hP hD hS hce hsl (lv_sub hl [2, 3, 4, 5, 6, 7] rfl))
  refine lv_if_ne (tgt := 1062) hx hb dL_law_1047 (by decide) (fun _ => fin ls hl) (fun hk => ?_)
  have hg := hg hk
  refine lv_aload_n hx hb dL_law_1050 rfl (lv_at hl 4 rfl) ?_
  refine lv_iconst (v := nI 0) hx hb dL_law_1051 (by first | decide | rfl) ?_
  refine va_lald hx hb hK hP 10 3 rfl rfl (nI_in (by omega) (by omega)) dL_law_1052 ?_
  refine lv_rwl (y := bv.toInt64) ((congrArg fo (nI_clamp (n := 0) (by omega))).trans hg) ?_
  refine lv_iload hx hb dL_law_1053 (lv_at hl 0 rfl) ?_
  refine lv_i2l hx hb dL_law_1055 rfl ?_
  refine W.lcmp hx hb dL_law_1056 ?_
  exact lv_if_eq (tgt := 1062) hx hb dL_law_1057 (by decide) (fun _ => fin ls hl) (fun h => absurd ((lcmp_eq _ _).mpr rfl) h)
set_option maxHeartbeats 4000000 in
theorem L_a18 (CC : LC p l s m c b L xs D cs z mi A) (hS : va_S A s.heap H locs) (hl : lv_has ls 9 (LL b a1 a2 oo od i)) (hi : i + 7 ≤ L) {x1 : Int32} (e1 : xs (i + 1) = x1) (k : W p l e room_1 s m #[Value.ref b] below meth c H locs ce sl Q (F0 m 1073 ls [.ref oo, .int x1, .ref a1])) : W p l e room_1 s m #[Value.ref b] below meth c H locs ce sl Q (F0 m 1065 ls []) := by
  obtain ⟨hx, hb, hml, hown, hts, hT, hR, hK, hA, hX, hbl, hbA, hL, hl9⟩ := id CC
  refine lv_aload_n hx hb dL_law_1065 rfl (lv_at hl 4 rfl) ?_
  refine lv_aload_n hx hb dL_law_1066 rfl (lv_at hl 5 rfl) ?_
  refine lv_iload hx hb dL_law_1067 (lv_at hl 0 rfl) ?_
  refine lv_iconst (v := nI 1) hx hb dL_law_1069 (by first | decide | rfl) ?_
  refine lv_iadd hx hb dL_law_1070 ?_
  refine lv_rwi (y := nI (i + 1)) (nI_add i 1) ?_
  refine va_sld hx hb hX hbl hbA hS (nI_in (show i + 1 < L by omega) (show L < 2 ^ 31 by omega)) dL_law_1071 ?_
  refine lv_rwi (y := x1) ((congrArg xs (nI_clamp (show i + 1 < 2 ^ 31 by omega))).trans e1) ?_
  refine lv_aload_n hx hb dL_law_1072 rfl (lv_at hl 2 rfl) ?_
  exact k
set_option maxHeartbeats 4000000 in
theorem L_b18 (CC : LC p l s m c b L xs D cs z mi A) (hS : va_S A s.heap H locs) (hl : lv_has ls 9 (LL b a1 a2 oo od i)) (hi : i + 7 ≤ L) {K : Int32} {x1 : Int32} (e1 : xs (i + 1) = x1) (k : ∀ ls : Array Slot, lv_has ls 9 ((6, .int K) :: LL b a1 a2 oo od i) → W p l e room_1 s m #[Value.ref b] below meth c H locs ce sl Q (F0 m 1085 ls [.int x1, .ref a2])) : W p l e room_1 s m #[Value.ref b] below meth c H locs ce sl Q (F0 m 1076 ls [.int K]) := by
  obtain ⟨hx, hb, hml, hown, hts, hT, hR, hK, hA, hX, hbl, hbA, hL, hl9⟩ := id CC
  refine lv_istore (lv' := [(6, .int K), (5, .int (nI i)), (4, .ref od), (3, .ref oo), (2, .ref a2), (1, .ref a1), (0, .ref b)]) hx hb dL_law_1076 hl (by decide) rfl (fun ls hl => ?_)
  refine lv_aload_n hx hb dL_law_1078 rfl (lv_at hl 4 rfl) ?_
  refine lv_aload_n hx hb dL_law_1079 rfl (lv_at hl 6 rfl) ?_
  refine lv_iload hx hb dL_law_1080 (lv_at hl 1 rfl) ?_
  refine lv_iconst (v := nI 1) hx hb dL_law_1082 (by first | decide | rfl) ?_
  refine lv_iadd hx hb dL_law_1083 ?_
  refine lv_rwi (y := nI (i + 1)) (nI_add i 1) ?_
  refine va_sld hx hb hX hbl hbA hS (nI_in (show i + 1 < L by omega) (show L < 2 ^ 31 by omega)) dL_law_1084 ?_
  refine lv_rwi (y := x1) ((congrArg xs (nI_clamp (show i + 1 < 2 ^ 31 by omega))).trans e1) ?_
  exact k ls hl
set_option maxHeartbeats 4000000 in
set_option maxRecDepth 100000 in
theorem L_t18 (CC : LC p l s m c b L xs D cs z mi A) {K : Int32} (h1 : am 0 = a2) (h2 : ad 0 = a1) (hF : LF cs z ad cnt f1 f2 f3 dn N n cap fn fc puM wh kn nm sk br ht su fa puX rf wa wf T) (hP : va_P D vwCl (LWw cs am ad oo od bank rnds K cnt mcn dn N n fc puM wh kn nm sk br ht sg su fa puX fo fd T) H) (hD : va_D A (LWw cs am ad oo od bank rnds K cnt mcn dn N n fc puM wh kn nm sk br ht sg su fa puX fo fd T)) (hS : va_S A s.heap H locs) (hl : lv_has ls 9 ((6, .int K) :: LL b a1 a2 oo od i)) {bv : Int32} (hg : K = 0 → fo 0 = bv.toInt64) (hrm : cells + 4 ≤ 601024 ∧ slots + 64 ≤ 7293034) (hce : ce ≤ cells + 4) (hsl : sl ≤ slots + 64) (k : LK p l e s m b below meth c Q D cs z A a1 a2 oo od i cells slots) : W p l e room_1 s m #[Value.ref b] below meth c H locs ce sl Q (F0 m 1088 ls [.int bv]) := by
  obtain ⟨hx, hb, hml, hown, hts, hT, hR, hK, hA, hX, hbl, hbA, hL, hl9⟩ := id CC
  subst h1
  subst h2
  refine lv_istore (lv' := [(7, .int bv), (6, .int K), (5, .int (nI i)), (4, .ref od), (3, .ref oo), (2, .ref (am 0)), (1, .ref (ad 0)), (0, .ref b)]) hx hb dL_law_1088 hl (by decide) rfl (fun ls hl => ?_)
  refine lv_aload_n hx hb dL_law_1090 rfl (lv_at hl 5 rfl) ?_
  refine rdV (As := []) (rest := []) (b := am 0) ⟨hx, hb, hml, hown, hts⟩ hK 0 (m_thrown l D cs H (wr_left hP) hF.2.2.1) (gin_v mw_6_6 mw_6_7 mw_6_8 mw_1_5 mw_6_9) (by decide +kernel) ⟨Nat.le_of_ble_eq_true rfl, Nat.le_of_ble_eq_true rfl⟩ (va_recv hK hP (ci := 4) (q0 := 0) rfl rfl) rfl hl.1 rfl (Nat.le_of_ble_eq_true rfl) dL_law_1091 ⟨Nat.le_trans hce hrm.1, Nat.le_trans hsl hrm.2⟩ ?_
  refine W.eq (g2 := F0 m 1094 ls [.int K]) rfl ?_
  refine lv_iload hx hb dL_law_1094 (lv_at hl 1 rfl) ?_
  refine lv_icmp_eq (tgt := 1101) hx hb dL_law_1096 (by decide) (fun _ => ?_) (fun h => absurd rfl h)
  refine lv_iload hx hb dL_law_1101 (lv_at hl 1 rfl) ?_
  have fin : ∀ ls : Array Slot, lv_has ls 9 [(7, .int bv), (6, .int K), (5, .int (nI i)), (4, .ref od), (3, .ref oo), (2, .ref (am 0)), (1, .ref (ad 0)), (0, .ref b)] → W p l e room_1 s m #[Value.ref b] below meth c H locs ce sl Q (F0 m 1118 ls []) := fun ls hl => lv_goto (tgt := 1603) hx hb dL_law_1118 (by decide) (L_k CC k rfl rfl hF hP hD hS hce hsl (lv_sub hl [2, 3, 4, 5, 6, 7] rfl))
  refine lv_if_ne (tgt := 1118) hx hb dL_law_1103 (by decide) (fun _ => fin ls hl) (fun hk => ?_)
  have hg := hg hk
  refine lv_aload_n hx hb dL_law_1106 rfl (lv_at hl 4 rfl) ?_
  refine lv_iconst (v := nI 0) hx hb dL_law_1107 (by first | decide | rfl) ?_
  refine va_lald hx hb hK hP 10 3 rfl rfl (nI_in (by omega) (by omega)) dL_law_1108 ?_
  refine lv_rwl (y := bv.toInt64) ((congrArg fo (nI_clamp (n := 0) (by omega))).trans hg) ?_
  refine lv_iload hx hb dL_law_1109 (lv_at hl 0 rfl) ?_
  refine lv_i2l hx hb dL_law_1111 rfl ?_
  refine W.lcmp hx hb dL_law_1112 ?_
  exact lv_if_eq (tgt := 1118) hx hb dL_law_1113 (by decide) (fun _ => fin ls hl) (fun h => absurd ((lcmp_eq _ _).mpr rfl) h)
set_option maxHeartbeats 4000000 in
theorem L_a22 (CC : LC p l s m c b L xs D cs z mi A) (hS : va_S A s.heap H locs) (hl : lv_has ls 9 (LL b a1 a2 oo od i)) (hi : i + 7 ≤ L) {x1 : Int32} (e1 : xs (i + 1) = x1) (k : W p l e room_1 s m #[Value.ref b] below meth c H locs ce sl Q (F0 m 1168 ls [.ref oo, .int x1, .ref a1])) : W p l e room_1 s m #[Value.ref b] below meth c H locs ce sl Q (F0 m 1160 ls []) := by
  obtain ⟨hx, hb, hml, hown, hts, hT, hR, hK, hA, hX, hbl, hbA, hL, hl9⟩ := id CC
  refine lv_aload_n hx hb dL_law_1160 rfl (lv_at hl 4 rfl) ?_
  refine lv_aload_n hx hb dL_law_1161 rfl (lv_at hl 5 rfl) ?_
  refine lv_iload hx hb dL_law_1162 (lv_at hl 0 rfl) ?_
  refine lv_iconst (v := nI 1) hx hb dL_law_1164 (by first | decide | rfl) ?_
  refine lv_iadd hx hb dL_law_1165 ?_
  refine lv_rwi (y := nI (i + 1)) (nI_add i 1) ?_
  refine va_sld hx hb hX hbl hbA hS (nI_in (show i + 1 < L by omega) (show L < 2 ^ 31 by omega)) dL_law_1166 ?_
  refine lv_rwi (y := x1) ((congrArg xs (nI_clamp (show i + 1 < 2 ^ 31 by omega))).trans e1) ?_
  refine lv_aload_n hx hb dL_law_1167 rfl (lv_at hl 2 rfl) ?_
  exact k
set_option maxHeartbeats 4000000 in
theorem L_b22 (CC : LC p l s m c b L xs D cs z mi A) (hS : va_S A s.heap H locs) (hl : lv_has ls 9 (LL b a1 a2 oo od i)) (hi : i + 7 ≤ L) {K : Int32} {x1 : Int32} (e1 : xs (i + 1) = x1) (k : ∀ ls : Array Slot, lv_has ls 9 ((6, .int K) :: LL b a1 a2 oo od i) → W p l e room_1 s m #[Value.ref b] below meth c H locs ce sl Q (F0 m 1180 ls [.int x1, .ref a2])) : W p l e room_1 s m #[Value.ref b] below meth c H locs ce sl Q (F0 m 1171 ls [.int K]) := by
  obtain ⟨hx, hb, hml, hown, hts, hT, hR, hK, hA, hX, hbl, hbA, hL, hl9⟩ := id CC
  refine lv_istore (lv' := [(6, .int K), (5, .int (nI i)), (4, .ref od), (3, .ref oo), (2, .ref a2), (1, .ref a1), (0, .ref b)]) hx hb dL_law_1171 hl (by decide) rfl (fun ls hl => ?_)
  refine lv_aload_n hx hb dL_law_1173 rfl (lv_at hl 4 rfl) ?_
  refine lv_aload_n hx hb dL_law_1174 rfl (lv_at hl 6 rfl) ?_
  refine lv_iload hx hb dL_law_1175 (lv_at hl 1 rfl) ?_
  refine lv_iconst (v := nI 1) hx hb dL_law_1177 (by first | decide | rfl) ?_
  refine lv_iadd hx hb dL_law_1178 ?_
  refine lv_rwi (y := nI (i + 1)) (nI_add i 1) ?_
  refine va_sld hx hb hX hbl hbA hS (nI_in (show i + 1 < L by omega) (show L < 2 ^ 31 by omega)) dL_law_1179 ?_
  refine lv_rwi (y := x1) ((congrArg xs (nI_clamp (show i + 1 < 2 ^ 31 by omega))).trans e1) ?_
  exact k ls hl
set_option maxHeartbeats 4000000 in
set_option maxRecDepth 100000 in
theorem L_t22 (CC : LC p l s m c b L xs D cs z mi A) {K : Int32} (h1 : am 0 = a2) (h2 : ad 0 = a1) (hF : LF cs z ad cnt f1 f2 f3 dn N n cap fn fc puM wh kn nm sk br ht su fa puX rf wa wf T) (hP : va_P D vwCl (LWw cs am ad oo od bank rnds K cnt mcn dn N n fc puM wh kn nm sk br ht sg su fa puX fo fd T) H) (hD : va_D A (LWw cs am ad oo od bank rnds K cnt mcn dn N n fc puM wh kn nm sk br ht sg su fa puX fo fd T)) (hS : va_S A s.heap H locs) (hl : lv_has ls 9 ((6, .int K) :: LL b a1 a2 oo od i)) {bv : Int32} (hg : K = 0 → fo 0 = bv.toInt64) (hrm : cells + 4 ≤ 601024 ∧ slots + 64 ≤ 7293034) (hce : ce ≤ cells + 4) (hsl : sl ≤ slots + 64) (k : LK p l e s m b below meth c Q D cs z A a1 a2 oo od i cells slots) : W p l e room_1 s m #[Value.ref b] below meth c H locs ce sl Q (F0 m 1183 ls [.int bv]) := by
  obtain ⟨hx, hb, hml, hown, hts, hT, hR, hK, hA, hX, hbl, hbA, hL, hl9⟩ := id CC
  subst h1
  subst h2
  refine lv_istore (lv' := [(7, .int bv), (6, .int K), (5, .int (nI i)), (4, .ref od), (3, .ref oo), (2, .ref (am 0)), (1, .ref (ad 0)), (0, .ref b)]) hx hb dL_law_1183 hl (by decide) rfl (fun ls hl => ?_)
  refine lv_aload_n hx hb dL_law_1185 rfl (lv_at hl 5 rfl) ?_
  refine rdV (As := []) (rest := []) (b := am 0) ⟨hx, hb, hml, hown, hts⟩ hK 0 (m_thrown l D cs H (wr_left hP) hF.2.2.1) (gin_v mw_6_6 mw_6_7 mw_6_8 mw_1_5 mw_6_9) (by decide +kernel) ⟨Nat.le_of_ble_eq_true rfl, Nat.le_of_ble_eq_true rfl⟩ (va_recv hK hP (ci := 4) (q0 := 0) rfl rfl) rfl hl.1 rfl (Nat.le_of_ble_eq_true rfl) dL_law_1186 ⟨Nat.le_trans hce hrm.1, Nat.le_trans hsl hrm.2⟩ ?_
  refine W.eq (g2 := F0 m 1189 ls [.int K]) rfl ?_
  refine lv_iload hx hb dL_law_1189 (lv_at hl 1 rfl) ?_
  refine lv_icmp_eq (tgt := 1196) hx hb dL_law_1191 (by decide) (fun _ => ?_) (fun h => absurd rfl h)
  refine lv_iload hx hb dL_law_1196 (lv_at hl 1 rfl) ?_
  have fin : ∀ ls : Array Slot, lv_has ls 9 [(7, .int bv), (6, .int K), (5, .int (nI i)), (4, .ref od), (3, .ref oo), (2, .ref (am 0)), (1, .ref (ad 0)), (0, .ref b)] → W p l e room_1 s m #[Value.ref b] below meth c H locs ce sl Q (F0 m 1213 ls []) := fun ls hl => lv_goto (tgt := 1603) hx hb dL_law_1213 (by decide) (L_k CC k rfl rfl hF hP hD hS hce hsl (lv_sub hl [2, 3, 4, 5, 6, 7] rfl))
  refine lv_if_ne (tgt := 1213) hx hb dL_law_1198 (by decide) (fun _ => fin ls hl) (fun hk => ?_)
  have hg := hg hk
  refine lv_aload_n hx hb dL_law_1201 rfl (lv_at hl 4 rfl) ?_
  refine lv_iconst (v := nI 0) hx hb dL_law_1202 (by first | decide | rfl) ?_
  refine va_lald hx hb hK hP 10 3 rfl rfl (nI_in (by omega) (by omega)) dL_law_1203 ?_
  refine lv_rwl (y := bv.toInt64) ((congrArg fo (nI_clamp (n := 0) (by omega))).trans hg) ?_
  refine lv_iload hx hb dL_law_1204 (lv_at hl 0 rfl) ?_
  refine lv_i2l hx hb dL_law_1206 rfl ?_
  refine W.lcmp hx hb dL_law_1207 ?_
  exact lv_if_eq (tgt := 1213) hx hb dL_law_1208 (by decide) (fun _ => fin ls hl) (fun h => absurd ((lcmp_eq _ _).mpr rfl) h)
set_option maxHeartbeats 4000000 in
theorem L_a25 (CC : LC p l s m c b L xs D cs z mi A) (hS : va_S A s.heap H locs) (hl : lv_has ls 9 (LL b a1 a2 oo od i)) (hi : i + 7 ≤ L) {x1 x2 : Int32} (e1 : xs (i + 1) = x1) (e2 : xs (i + 2) = x2) (k : W p l e room_1 s m #[Value.ref b] below meth c H locs ce sl Q (F0 m 1256 ls [.ref oo, .int x2, .int x1, .ref a1])) : W p l e room_1 s m #[Value.ref b] below meth c H locs ce sl Q (F0 m 1242 ls []) := by
  obtain ⟨hx, hb, hml, hown, hts, hT, hR, hK, hA, hX, hbl, hbA, hL, hl9⟩ := id CC
  refine lv_aload_n hx hb dL_law_1242 rfl (lv_at hl 4 rfl) ?_
  refine lv_aload_n hx hb dL_law_1243 rfl (lv_at hl 5 rfl) ?_
  refine lv_iload hx hb dL_law_1244 (lv_at hl 0 rfl) ?_
  refine lv_iconst (v := nI 1) hx hb dL_law_1246 (by first | decide | rfl) ?_
  refine lv_iadd hx hb dL_law_1247 ?_
  refine lv_rwi (y := nI (i + 1)) (nI_add i 1) ?_
  refine va_sld hx hb hX hbl hbA hS (nI_in (show i + 1 < L by omega) (show L < 2 ^ 31 by omega)) dL_law_1248 ?_
  refine lv_rwi (y := x1) ((congrArg xs (nI_clamp (show i + 1 < 2 ^ 31 by omega))).trans e1) ?_
  refine lv_aload_n hx hb dL_law_1249 rfl (lv_at hl 5 rfl) ?_
  refine lv_iload hx hb dL_law_1250 (lv_at hl 0 rfl) ?_
  refine lv_iconst (v := nI 2) hx hb dL_law_1252 (by first | decide | rfl) ?_
  refine lv_iadd hx hb dL_law_1253 ?_
  refine lv_rwi (y := nI (i + 2)) (nI_add i 2) ?_
  refine va_sld hx hb hX hbl hbA hS (nI_in (show i + 2 < L by omega) (show L < 2 ^ 31 by omega)) dL_law_1254 ?_
  refine lv_rwi (y := x2) ((congrArg xs (nI_clamp (show i + 2 < 2 ^ 31 by omega))).trans e2) ?_
  refine lv_aload_n hx hb dL_law_1255 rfl (lv_at hl 2 rfl) ?_
  exact k
set_option maxHeartbeats 4000000 in
theorem L_b25 (CC : LC p l s m c b L xs D cs z mi A) (hS : va_S A s.heap H locs) (hl : lv_has ls 9 (LL b a1 a2 oo od i)) (hi : i + 7 ≤ L) {K : Int32} {x1 x2 : Int32} (e1 : xs (i + 1) = x1) (e2 : xs (i + 2) = x2) (k : ∀ ls : Array Slot, lv_has ls 9 ((6, .int K) :: LL b a1 a2 oo od i) → W p l e room_1 s m #[Value.ref b] below meth c H locs ce sl Q (F0 m 1274 ls [.int x2, .int x1, .ref a2])) : W p l e room_1 s m #[Value.ref b] below meth c H locs ce sl Q (F0 m 1259 ls [.int K]) := by
  obtain ⟨hx, hb, hml, hown, hts, hT, hR, hK, hA, hX, hbl, hbA, hL, hl9⟩ := id CC
  refine lv_istore (lv' := [(6, .int K), (5, .int (nI i)), (4, .ref od), (3, .ref oo), (2, .ref a2), (1, .ref a1), (0, .ref b)]) hx hb dL_law_1259 hl (by decide) rfl (fun ls hl => ?_)
  refine lv_aload_n hx hb dL_law_1261 rfl (lv_at hl 4 rfl) ?_
  refine lv_aload_n hx hb dL_law_1262 rfl (lv_at hl 6 rfl) ?_
  refine lv_iload hx hb dL_law_1263 (lv_at hl 1 rfl) ?_
  refine lv_iconst (v := nI 1) hx hb dL_law_1265 (by first | decide | rfl) ?_
  refine lv_iadd hx hb dL_law_1266 ?_
  refine lv_rwi (y := nI (i + 1)) (nI_add i 1) ?_
  refine va_sld hx hb hX hbl hbA hS (nI_in (show i + 1 < L by omega) (show L < 2 ^ 31 by omega)) dL_law_1267 ?_
  refine lv_rwi (y := x1) ((congrArg xs (nI_clamp (show i + 1 < 2 ^ 31 by omega))).trans e1) ?_
  refine lv_aload_n hx hb dL_law_1268 rfl (lv_at hl 6 rfl) ?_
  refine lv_iload hx hb dL_law_1269 (lv_at hl 1 rfl) ?_
  refine lv_iconst (v := nI 2) hx hb dL_law_1271 (by first | decide | rfl) ?_
  refine lv_iadd hx hb dL_law_1272 ?_
  refine lv_rwi (y := nI (i + 2)) (nI_add i 2) ?_
  refine va_sld hx hb hX hbl hbA hS (nI_in (show i + 2 < L by omega) (show L < 2 ^ 31 by omega)) dL_law_1273 ?_
  refine lv_rwi (y := x2) ((congrArg xs (nI_clamp (show i + 2 < 2 ^ 31 by omega))).trans e2) ?_
  exact k ls hl
set_option maxHeartbeats 4000000 in
set_option maxRecDepth 100000 in
theorem L_t25 (CC : LC p l s m c b L xs D cs z mi A) {K : Int32} (h1 : am 0 = a2) (h2 : ad 0 = a1) (hF : LF cs z ad cnt f1 f2 f3 dn N n cap fn fc puM wh kn nm sk br ht su fa puX rf wa wf T) (hP : va_P D vwCl (LWw cs am ad oo od bank rnds K cnt mcn dn N n fc puM wh kn nm sk br ht sg su fa puX fo fd T) H) (hD : va_D A (LWw cs am ad oo od bank rnds K cnt mcn dn N n fc puM wh kn nm sk br ht sg su fa puX fo fd T)) (hS : va_S A s.heap H locs) (hl : lv_has ls 9 ((6, .int K) :: LL b a1 a2 oo od i)) {bv : Int32} (hg : K = 0 → fo 0 = bv.toInt64) (hrm : cells + 4 ≤ 601024 ∧ slots + 64 ≤ 7293034) (hce : ce ≤ cells + 4) (hsl : sl ≤ slots + 64) (k : LK p l e s m b below meth c Q D cs z A a1 a2 oo od i cells slots) : W p l e room_1 s m #[Value.ref b] below meth c H locs ce sl Q (F0 m 1277 ls [.int bv]) := by
  obtain ⟨hx, hb, hml, hown, hts, hT, hR, hK, hA, hX, hbl, hbA, hL, hl9⟩ := id CC
  subst h1
  subst h2
  refine lv_istore (lv' := [(7, .int bv), (6, .int K), (5, .int (nI i)), (4, .ref od), (3, .ref oo), (2, .ref (am 0)), (1, .ref (ad 0)), (0, .ref b)]) hx hb dL_law_1277 hl (by decide) rfl (fun ls hl => ?_)
  refine lv_aload_n hx hb dL_law_1279 rfl (lv_at hl 5 rfl) ?_
  refine rdV (As := []) (rest := []) (b := am 0) ⟨hx, hb, hml, hown, hts⟩ hK 0 (m_thrown l D cs H (wr_left hP) hF.2.2.1) (gin_v mw_6_6 mw_6_7 mw_6_8 mw_1_5 mw_6_9) (by decide +kernel) ⟨Nat.le_of_ble_eq_true rfl, Nat.le_of_ble_eq_true rfl⟩ (va_recv hK hP (ci := 4) (q0 := 0) rfl rfl) rfl hl.1 rfl (Nat.le_of_ble_eq_true rfl) dL_law_1280 ⟨Nat.le_trans hce hrm.1, Nat.le_trans hsl hrm.2⟩ ?_
  refine W.eq (g2 := F0 m 1283 ls [.int K]) rfl ?_
  refine lv_iload hx hb dL_law_1283 (lv_at hl 1 rfl) ?_
  refine lv_icmp_eq (tgt := 1290) hx hb dL_law_1285 (by decide) (fun _ => ?_) (fun h => absurd rfl h)
  refine lv_iload hx hb dL_law_1290 (lv_at hl 1 rfl) ?_
  have fin : ∀ ls : Array Slot, lv_has ls 9 [(7, .int bv), (6, .int K), (5, .int (nI i)), (4, .ref od), (3, .ref oo), (2, .ref (am 0)), (1, .ref (ad 0)), (0, .ref b)] → W p l e room_1 s m #[Value.ref b] below meth c H locs ce sl Q (F0 m 1307 ls []) := fun ls hl => lv_goto (tgt := 1603) hx hb dL_law_1307 (by decide) (L_k CC k rfl rfl hF hP hD hS hce hsl (lv_sub hl [2, 3, 4, 5, 6, 7] rfl))
  refine lv_if_ne (tgt := 1307) hx hb dL_law_1292 (by decide) (fun _ => fin ls hl) (fun hk => ?_)
  have hg := hg hk
  refine lv_aload_n hx hb dL_law_1295 rfl (lv_at hl 4 rfl) ?_
  refine lv_iconst (v := nI 0) hx hb dL_law_1296 (by first | decide | rfl) ?_
  refine va_lald hx hb hK hP 10 3 rfl rfl (nI_in (by omega) (by omega)) dL_law_1297 ?_
  refine lv_rwl (y := bv.toInt64) ((congrArg fo (nI_clamp (n := 0) (by omega))).trans hg) ?_
  refine lv_iload hx hb dL_law_1298 (lv_at hl 0 rfl) ?_
  refine lv_i2l hx hb dL_law_1300 rfl ?_
  refine W.lcmp hx hb dL_law_1301 ?_
  exact lv_if_eq (tgt := 1307) hx hb dL_law_1302 (by decide) (fun _ => fin ls hl) (fun h => absurd ((lcmp_eq _ _).mpr rfl) h)
set_option maxHeartbeats 4000000 in
theorem L_a26 (CC : LC p l s m c b L xs D cs z mi A) (hS : va_S A s.heap H locs) (hl : lv_has ls 9 (LL b a1 a2 oo od i)) (hi : i + 7 ≤ L) {x1 : Int32} (e1 : xs (i + 1) = x1) (k : W p l e room_1 s m #[Value.ref b] below meth c H locs ce sl Q (F0 m 1318 ls [.ref oo, .int x1, .ref a1])) : W p l e room_1 s m #[Value.ref b] below meth c H locs ce sl Q (F0 m 1310 ls []) := by
  obtain ⟨hx, hb, hml, hown, hts, hT, hR, hK, hA, hX, hbl, hbA, hL, hl9⟩ := id CC
  refine lv_aload_n hx hb dL_law_1310 rfl (lv_at hl 4 rfl) ?_
  refine lv_aload_n hx hb dL_law_1311 rfl (lv_at hl 5 rfl) ?_
  refine lv_iload hx hb dL_law_1312 (lv_at hl 0 rfl) ?_
  refine lv_iconst (v := nI 1) hx hb dL_law_1314 (by first | decide | rfl) ?_
  refine lv_iadd hx hb dL_law_1315 ?_
  refine lv_rwi (y := nI (i + 1)) (nI_add i 1) ?_
  refine va_sld hx hb hX hbl hbA hS (nI_in (show i + 1 < L by omega) (show L < 2 ^ 31 by omega)) dL_law_1316 ?_
  refine lv_rwi (y := x1) ((congrArg xs (nI_clamp (show i + 1 < 2 ^ 31 by omega))).trans e1) ?_
  refine lv_aload_n hx hb dL_law_1317 rfl (lv_at hl 2 rfl) ?_
  exact k
set_option maxHeartbeats 4000000 in
theorem L_b26 (CC : LC p l s m c b L xs D cs z mi A) (hS : va_S A s.heap H locs) (hl : lv_has ls 9 (LL b a1 a2 oo od i)) (hi : i + 7 ≤ L) {K : Int32} {x1 : Int32} (e1 : xs (i + 1) = x1) (k : ∀ ls : Array Slot, lv_has ls 9 ((6, .int K) :: LL b a1 a2 oo od i) → W p l e room_1 s m #[Value.ref b] below meth c H locs ce sl Q (F0 m 1330 ls [.int x1, .ref a2])) : W p l e room_1 s m #[Value.ref b] below meth c H locs ce sl Q (F0 m 1321 ls [.int K]) := by
  obtain ⟨hx, hb, hml, hown, hts, hT, hR, hK, hA, hX, hbl, hbA, hL, hl9⟩ := id CC
  refine lv_istore (lv' := [(6, .int K), (5, .int (nI i)), (4, .ref od), (3, .ref oo), (2, .ref a2), (1, .ref a1), (0, .ref b)]) hx hb dL_law_1321 hl (by decide) rfl (fun ls hl => ?_)
  refine lv_aload_n hx hb dL_law_1323 rfl (lv_at hl 4 rfl) ?_
  refine lv_aload_n hx hb dL_law_1324 rfl (lv_at hl 6 rfl) ?_
  refine lv_iload hx hb dL_law_1325 (lv_at hl 1 rfl) ?_
  refine lv_iconst (v := nI 1) hx hb dL_law_1327 (by first | decide | rfl) ?_
  refine lv_iadd hx hb dL_law_1328 ?_
  refine lv_rwi (y := nI (i + 1)) (nI_add i 1) ?_
  refine va_sld hx hb hX hbl hbA hS (nI_in (show i + 1 < L by omega) (show L < 2 ^ 31 by omega)) dL_law_1329 ?_
  refine lv_rwi (y := x1) ((congrArg xs (nI_clamp (show i + 1 < 2 ^ 31 by omega))).trans e1) ?_
  exact k ls hl
set_option maxHeartbeats 4000000 in
set_option maxRecDepth 100000 in
theorem L_t26 (CC : LC p l s m c b L xs D cs z mi A) {K : Int32} (h1 : am 0 = a2) (h2 : ad 0 = a1) (hF : LF cs z ad cnt f1 f2 f3 dn N n cap fn fc puM wh kn nm sk br ht su fa puX rf wa wf T) (hP : va_P D vwCl (LWw cs am ad oo od bank rnds K cnt mcn dn N n fc puM wh kn nm sk br ht sg su fa puX fo fd T) H) (hD : va_D A (LWw cs am ad oo od bank rnds K cnt mcn dn N n fc puM wh kn nm sk br ht sg su fa puX fo fd T)) (hS : va_S A s.heap H locs) (hl : lv_has ls 9 ((6, .int K) :: LL b a1 a2 oo od i)) {bv : Int32} (hg : K = 0 → fo 0 = bv.toInt64) (hrm : cells + 4 ≤ 601024 ∧ slots + 64 ≤ 7293034) (hce : ce ≤ cells + 4) (hsl : sl ≤ slots + 64) (k : LK p l e s m b below meth c Q D cs z A a1 a2 oo od i cells slots) : W p l e room_1 s m #[Value.ref b] below meth c H locs ce sl Q (F0 m 1333 ls [.int bv]) := by
  obtain ⟨hx, hb, hml, hown, hts, hT, hR, hK, hA, hX, hbl, hbA, hL, hl9⟩ := id CC
  subst h1
  subst h2
  refine lv_istore (lv' := [(7, .int bv), (6, .int K), (5, .int (nI i)), (4, .ref od), (3, .ref oo), (2, .ref (am 0)), (1, .ref (ad 0)), (0, .ref b)]) hx hb dL_law_1333 hl (by decide) rfl (fun ls hl => ?_)
  refine lv_aload_n hx hb dL_law_1335 rfl (lv_at hl 5 rfl) ?_
  refine rdV (As := []) (rest := []) (b := am 0) ⟨hx, hb, hml, hown, hts⟩ hK 0 (m_thrown l D cs H (wr_left hP) hF.2.2.1) (gin_v mw_6_6 mw_6_7 mw_6_8 mw_1_5 mw_6_9) (by decide +kernel) ⟨Nat.le_of_ble_eq_true rfl, Nat.le_of_ble_eq_true rfl⟩ (va_recv hK hP (ci := 4) (q0 := 0) rfl rfl) rfl hl.1 rfl (Nat.le_of_ble_eq_true rfl) dL_law_1336 ⟨Nat.le_trans hce hrm.1, Nat.le_trans hsl hrm.2⟩ ?_
  refine W.eq (g2 := F0 m 1339 ls [.int K]) rfl ?_
  refine lv_iload hx hb dL_law_1339 (lv_at hl 1 rfl) ?_
  refine lv_icmp_eq (tgt := 1346) hx hb dL_law_1341 (by decide) (fun _ => ?_) (fun h => absurd rfl h)
  refine lv_iload hx hb dL_law_1346 (lv_at hl 1 rfl) ?_
  have fin : ∀ ls : Array Slot, lv_has ls 9 [(7, .int bv), (6, .int K), (5, .int (nI i)), (4, .ref od), (3, .ref oo), (2, .ref (am 0)), (1, .ref (ad 0)), (0, .ref b)] → W p l e room_1 s m #[Value.ref b] below meth c H locs ce sl Q (F0 m 1363 ls []) := fun ls hl => lv_goto (tgt := 1603) hx hb dL_law_1363 (by decide) (L_k CC k rfl rfl hF hP hD hS hce hsl (lv_sub hl [2, 3, 4, 5, 6, 7] rfl))
  refine lv_if_ne (tgt := 1363) hx hb dL_law_1348 (by decide) (fun _ => fin ls hl) (fun hk => ?_)
  have hg := hg hk
  refine lv_aload_n hx hb dL_law_1351 rfl (lv_at hl 4 rfl) ?_
  refine lv_iconst (v := nI 0) hx hb dL_law_1352 (by first | decide | rfl) ?_
  refine va_lald hx hb hK hP 10 3 rfl rfl (nI_in (by omega) (by omega)) dL_law_1353 ?_
  refine lv_rwl (y := bv.toInt64) ((congrArg fo (nI_clamp (n := 0) (by omega))).trans hg) ?_
  refine lv_iload hx hb dL_law_1354 (lv_at hl 0 rfl) ?_
  refine lv_i2l hx hb dL_law_1356 rfl ?_
  refine W.lcmp hx hb dL_law_1357 ?_
  exact lv_if_eq (tgt := 1363) hx hb dL_law_1358 (by decide) (fun _ => fin ls hl) (fun h => absurd ((lcmp_eq _ _).mpr rfl) h)
set_option maxHeartbeats 4000000 in
theorem L_a27 (CC : LC p l s m c b L xs D cs z mi A) (hS : va_S A s.heap H locs) (hl : lv_has ls 9 (LL b a1 a2 oo od i)) (hi : i + 7 ≤ L) {x1 : Int32} (e1 : xs (i + 1) = x1) (k : W p l e room_1 s m #[Value.ref b] below meth c H locs ce sl Q (F0 m 1374 ls [.ref oo, .int x1, .ref a1])) : W p l e room_1 s m #[Value.ref b] below meth c H locs ce sl Q (F0 m 1366 ls []) := by
  obtain ⟨hx, hb, hml, hown, hts, hT, hR, hK, hA, hX, hbl, hbA, hL, hl9⟩ := id CC
  refine lv_aload_n hx hb dL_law_1366 rfl (lv_at hl 4 rfl) ?_
  refine lv_aload_n hx hb dL_law_1367 rfl (lv_at hl 5 rfl) ?_
  refine lv_iload hx hb dL_law_1368 (lv_at hl 0 rfl) ?_
  refine lv_iconst (v := nI 1) hx hb dL_law_1370 (by first | decide | rfl) ?_
  refine lv_iadd hx hb dL_law_1371 ?_
  refine lv_rwi (y := nI (i + 1)) (nI_add i 1) ?_
  refine va_sld hx hb hX hbl hbA hS (nI_in (show i + 1 < L by omega) (show L < 2 ^ 31 by omega)) dL_law_1372 ?_
  refine lv_rwi (y := x1) ((congrArg xs (nI_clamp (show i + 1 < 2 ^ 31 by omega))).trans e1) ?_
  refine lv_aload_n hx hb dL_law_1373 rfl (lv_at hl 2 rfl) ?_
  exact k
set_option maxHeartbeats 4000000 in
theorem L_b27 (CC : LC p l s m c b L xs D cs z mi A) (hS : va_S A s.heap H locs) (hl : lv_has ls 9 (LL b a1 a2 oo od i)) (hi : i + 7 ≤ L) {K : Int32} {x1 : Int32} (e1 : xs (i + 1) = x1) (k : ∀ ls : Array Slot, lv_has ls 9 ((6, .int K) :: LL b a1 a2 oo od i) → W p l e room_1 s m #[Value.ref b] below meth c H locs ce sl Q (F0 m 1386 ls [.int x1, .ref a2])) : W p l e room_1 s m #[Value.ref b] below meth c H locs ce sl Q (F0 m 1377 ls [.int K]) := by
  obtain ⟨hx, hb, hml, hown, hts, hT, hR, hK, hA, hX, hbl, hbA, hL, hl9⟩ := id CC
  refine lv_istore (lv' := [(6, .int K), (5, .int (nI i)), (4, .ref od), (3, .ref oo), (2, .ref a2), (1, .ref a1), (0, .ref b)]) hx hb dL_law_1377 hl (by decide) rfl (fun ls hl => ?_)
  refine lv_aload_n hx hb dL_law_1379 rfl (lv_at hl 4 rfl) ?_
  refine lv_aload_n hx hb dL_law_1380 rfl (lv_at hl 6 rfl) ?_
  refine lv_iload hx hb dL_law_1381 (lv_at hl 1 rfl) ?_
  refine lv_iconst (v := nI 1) hx hb dL_law_1383 (by first | decide | rfl) ?_
  refine lv_iadd hx hb dL_law_1384 ?_
  refine lv_rwi (y := nI (i + 1)) (nI_add i 1) ?_
  refine va_sld hx hb hX hbl hbA hS (nI_in (show i + 1 < L by omega) (show L < 2 ^ 31 by omega)) dL_law_1385 ?_
  refine lv_rwi (y := x1) ((congrArg xs (nI_clamp (show i + 1 < 2 ^ 31 by omega))).trans e1) ?_
  exact k ls hl
set_option maxHeartbeats 4000000 in
set_option maxRecDepth 100000 in
theorem L_t27 (CC : LC p l s m c b L xs D cs z mi A) {K : Int32} (h1 : am 0 = a2) (h2 : ad 0 = a1) (hF : LF cs z ad cnt f1 f2 f3 dn N n cap fn fc puM wh kn nm sk br ht su fa puX rf wa wf T) (hP : va_P D vwCl (LWw cs am ad oo od bank rnds K cnt mcn dn N n fc puM wh kn nm sk br ht sg su fa puX fo fd T) H) (hD : va_D A (LWw cs am ad oo od bank rnds K cnt mcn dn N n fc puM wh kn nm sk br ht sg su fa puX fo fd T)) (hS : va_S A s.heap H locs) (hl : lv_has ls 9 ((6, .int K) :: LL b a1 a2 oo od i)) {bv : Int32} (hg : K = 0 → fo 0 = if bv = 0 then 0 else 1) (hrm : cells + 4 ≤ 601024 ∧ slots + 64 ≤ 7293034) (hce : ce ≤ cells + 4) (hsl : sl ≤ slots + 64) (k : LK p l e s m b below meth c Q D cs z A a1 a2 oo od i cells slots) : W p l e room_1 s m #[Value.ref b] below meth c H locs ce sl Q (F0 m 1389 ls [.int bv]) := by
  obtain ⟨hx, hb, hml, hown, hts, hT, hR, hK, hA, hX, hbl, hbA, hL, hl9⟩ := id CC
  subst h1
  subst h2
  refine lv_istore (lv' := [(7, .int bv), (6, .int K), (5, .int (nI i)), (4, .ref od), (3, .ref oo), (2, .ref (am 0)), (1, .ref (ad 0)), (0, .ref b)]) hx hb dL_law_1389 hl (by decide) rfl (fun ls hl => ?_)
  refine lv_aload_n hx hb dL_law_1391 rfl (lv_at hl 5 rfl) ?_
  refine rdV (As := []) (rest := []) (b := am 0) ⟨hx, hb, hml, hown, hts⟩ hK 0 (m_thrown l D cs H (wr_left hP) hF.2.2.1) (gin_v mw_6_6 mw_6_7 mw_6_8 mw_1_5 mw_6_9) (by decide +kernel) ⟨Nat.le_of_ble_eq_true rfl, Nat.le_of_ble_eq_true rfl⟩ (va_recv hK hP (ci := 4) (q0 := 0) rfl rfl) rfl hl.1 rfl (Nat.le_of_ble_eq_true rfl) dL_law_1392 ⟨Nat.le_trans hce hrm.1, Nat.le_trans hsl hrm.2⟩ ?_
  refine W.eq (g2 := F0 m 1395 ls [.int K]) rfl ?_
  refine lv_iload hx hb dL_law_1395 (lv_at hl 1 rfl) ?_
  refine lv_icmp_eq (tgt := 1402) hx hb dL_law_1397 (by decide) (fun _ => ?_) (fun h => absurd rfl h)
  refine lv_iload hx hb dL_law_1402 (lv_at hl 1 rfl) ?_
  have fin : ∀ ls : Array Slot, lv_has ls 9 [(7, .int bv), (6, .int K), (5, .int (nI i)), (4, .ref od), (3, .ref oo), (2, .ref (am 0)), (1, .ref (ad 0)), (0, .ref b)] → W p l e room_1 s m #[Value.ref b] below meth c H locs ce sl Q (F0 m 1426 ls []) := fun ls hl => lv_goto (tgt := 1603) hx hb dL_law_1426 (by decide) (L_k CC k rfl rfl hF hP hD hS hce hsl (lv_sub hl [2, 3, 4, 5, 6, 7] rfl))
  refine lv_if_ne (tgt := 1426) hx hb dL_law_1404 (by decide) (fun _ => fin ls hl) (fun hk => ?_)
  have hg := hg hk
  refine lv_aload_n hx hb dL_law_1407 rfl (lv_at hl 4 rfl) ?_
  refine lv_iconst (v := nI 0) hx hb dL_law_1408 (by first | decide | rfl) ?_
  refine va_lald hx hb hK hP 10 3 rfl rfl (nI_in (by omega) (by omega)) dL_law_1409 ?_
  refine lv_rwl (y := (if bv = 0 then 0 else 1)) ((congrArg fo (nI_clamp (n := 0) (by omega))).trans hg) ?_
  refine lv_iload hx hb dL_law_1410 (lv_at hl 0 rfl) ?_
  refine lv_if_eq (tgt := 1419) hx hb dL_law_1412 (by decide) (fun hz => ?_) (fun hz => ?_)
  · refine lv_rwl0 (y := 0) (if_pos hz) ?_
    refine lv_lconst (v := 0) hx hb dL_law_1419 (by decide) ?_
    refine W.lcmp hx hb dL_law_1420 ?_
    exact lv_if_eq (tgt := 1426) hx hb dL_law_1421 (by decide) (fun _ => fin ls hl) (fun h => absurd ((lcmp_eq _ _).mpr rfl) h)
  · refine lv_rwl0 (y := 1) (if_neg hz) ?_
    refine lv_lconst (v := 1) hx hb dL_law_1415 (by decide) ?_
    refine lv_goto (tgt := 1420) hx hb dL_law_1416 (by decide) ?_
    refine W.lcmp hx hb dL_law_1420 ?_
    exact lv_if_eq (tgt := 1426) hx hb dL_law_1421 (by decide) (fun _ => fin ls hl) (fun h => absurd ((lcmp_eq _ _).mpr rfl) h)
set_option maxHeartbeats 4000000 in
theorem L_a28 (CC : LC p l s m c b L xs D cs z mi A) (hS : va_S A s.heap H locs) (hl : lv_has ls 9 (LL b a1 a2 oo od i)) (hi : i + 7 ≤ L) {x1 x2 x3 : Int32} (e1 : xs (i + 1) = x1) (e2 : xs (i + 2) = x2) (e3 : xs (i + 3) = x3) (k : W p l e room_1 s m #[Value.ref b] below meth c H locs ce sl Q (F0 m 1449 ls [.ref oo, .int x3, .int x2, .int x1, .ref a1])) : W p l e room_1 s m #[Value.ref b] below meth c H locs ce sl Q (F0 m 1429 ls []) := by
  obtain ⟨hx, hb, hml, hown, hts, hT, hR, hK, hA, hX, hbl, hbA, hL, hl9⟩ := id CC
  refine lv_aload_n hx hb dL_law_1429 rfl (lv_at hl 4 rfl) ?_
  refine lv_aload_n hx hb dL_law_1430 rfl (lv_at hl 5 rfl) ?_
  refine lv_iload hx hb dL_law_1431 (lv_at hl 0 rfl) ?_
  refine lv_iconst (v := nI 1) hx hb dL_law_1433 (by first | decide | rfl) ?_
  refine lv_iadd hx hb dL_law_1434 ?_
  refine lv_rwi (y := nI (i + 1)) (nI_add i 1) ?_
  refine va_sld hx hb hX hbl hbA hS (nI_in (show i + 1 < L by omega) (show L < 2 ^ 31 by omega)) dL_law_1435 ?_
  refine lv_rwi (y := x1) ((congrArg xs (nI_clamp (show i + 1 < 2 ^ 31 by omega))).trans e1) ?_
  refine lv_aload_n hx hb dL_law_1436 rfl (lv_at hl 5 rfl) ?_
  refine lv_iload hx hb dL_law_1437 (lv_at hl 0 rfl) ?_
  refine lv_iconst (v := nI 2) hx hb dL_law_1439 (by first | decide | rfl) ?_
  refine lv_iadd hx hb dL_law_1440 ?_
  refine lv_rwi (y := nI (i + 2)) (nI_add i 2) ?_
  refine va_sld hx hb hX hbl hbA hS (nI_in (show i + 2 < L by omega) (show L < 2 ^ 31 by omega)) dL_law_1441 ?_
  refine lv_rwi (y := x2) ((congrArg xs (nI_clamp (show i + 2 < 2 ^ 31 by omega))).trans e2) ?_
  refine lv_aload_n hx hb dL_law_1442 rfl (lv_at hl 5 rfl) ?_
  refine lv_iload hx hb dL_law_1443 (lv_at hl 0 rfl) ?_
  refine lv_iconst (v := nI 3) hx hb dL_law_1445 (by first | decide | rfl) ?_
  refine lv_iadd hx hb dL_law_1446 ?_
  refine lv_rwi (y := nI (i + 3)) (nI_add i 3) ?_
  refine va_sld hx hb hX hbl hbA hS (nI_in (show i + 3 < L by omega) (show L < 2 ^ 31 by omega)) dL_law_1447 ?_
  refine lv_rwi (y := x3) ((congrArg xs (nI_clamp (show i + 3 < 2 ^ 31 by omega))).trans e3) ?_
  refine lv_aload_n hx hb dL_law_1448 rfl (lv_at hl 2 rfl) ?_
  exact k
set_option maxHeartbeats 4000000 in
theorem L_b28 (CC : LC p l s m c b L xs D cs z mi A) (hS : va_S A s.heap H locs) (hl : lv_has ls 9 (LL b a1 a2 oo od i)) (hi : i + 7 ≤ L) {K : Int32} {x1 x2 x3 : Int32} (e1 : xs (i + 1) = x1) (e2 : xs (i + 2) = x2) (e3 : xs (i + 3) = x3) (k : ∀ ls : Array Slot, lv_has ls 9 ((6, .int K) :: LL b a1 a2 oo od i) → W p l e room_1 s m #[Value.ref b] below meth c H locs ce sl Q (F0 m 1473 ls [.int x3, .int x2, .int x1, .ref a2])) : W p l e room_1 s m #[Value.ref b] below meth c H locs ce sl Q (F0 m 1452 ls [.int K]) := by
  obtain ⟨hx, hb, hml, hown, hts, hT, hR, hK, hA, hX, hbl, hbA, hL, hl9⟩ := id CC
  refine lv_istore (lv' := [(6, .int K), (5, .int (nI i)), (4, .ref od), (3, .ref oo), (2, .ref a2), (1, .ref a1), (0, .ref b)]) hx hb dL_law_1452 hl (by decide) rfl (fun ls hl => ?_)
  refine lv_aload_n hx hb dL_law_1454 rfl (lv_at hl 4 rfl) ?_
  refine lv_aload_n hx hb dL_law_1455 rfl (lv_at hl 6 rfl) ?_
  refine lv_iload hx hb dL_law_1456 (lv_at hl 1 rfl) ?_
  refine lv_iconst (v := nI 1) hx hb dL_law_1458 (by first | decide | rfl) ?_
  refine lv_iadd hx hb dL_law_1459 ?_
  refine lv_rwi (y := nI (i + 1)) (nI_add i 1) ?_
  refine va_sld hx hb hX hbl hbA hS (nI_in (show i + 1 < L by omega) (show L < 2 ^ 31 by omega)) dL_law_1460 ?_
  refine lv_rwi (y := x1) ((congrArg xs (nI_clamp (show i + 1 < 2 ^ 31 by omega))).trans e1) ?_
  refine lv_aload_n hx hb dL_law_1461 rfl (lv_at hl 6 rfl) ?_
  refine lv_iload hx hb dL_law_1462 (lv_at hl 1 rfl) ?_
  refine lv_iconst (v := nI 2) hx hb dL_law_1464 (by first | decide | rfl) ?_
  refine lv_iadd hx hb dL_law_1465 ?_
  refine lv_rwi (y := nI (i + 2)) (nI_add i 2) ?_
  refine va_sld hx hb hX hbl hbA hS (nI_in (show i + 2 < L by omega) (show L < 2 ^ 31 by omega)) dL_law_1466 ?_
  refine lv_rwi (y := x2) ((congrArg xs (nI_clamp (show i + 2 < 2 ^ 31 by omega))).trans e2) ?_
  refine lv_aload_n hx hb dL_law_1467 rfl (lv_at hl 6 rfl) ?_
  refine lv_iload hx hb dL_law_1468 (lv_at hl 1 rfl) ?_
  refine lv_iconst (v := nI 3) hx hb dL_law_1470 (by first | decide | rfl) ?_
  refine lv_iadd hx hb dL_law_1471 ?_
  refine lv_rwi (y := nI (i + 3)) (nI_add i 3) ?_
  refine va_sld hx hb hX hbl hbA hS (nI_in (show i + 3 < L by omega) (show L < 2 ^ 31 by omega)) dL_law_1472 ?_
  refine lv_rwi (y := x3) ((congrArg xs (nI_clamp (show i + 3 < 2 ^ 31 by omega))).trans e3) ?_
  exact k ls hl
set_option maxHeartbeats 4000000 in
set_option maxRecDepth 100000 in
theorem L_t28 (CC : LC p l s m c b L xs D cs z mi A) {K : Int32} (h1 : am 0 = a2) (h2 : ad 0 = a1) (hF : LF cs z ad cnt f1 f2 f3 dn N n cap fn fc puM wh kn nm sk br ht su fa puX rf wa wf T) (hP : va_P D vwCl (LWw cs am ad oo od bank rnds K cnt mcn dn N n fc puM wh kn nm sk br ht sg su fa puX fo fd T) H) (hD : va_D A (LWw cs am ad oo od bank rnds K cnt mcn dn N n fc puM wh kn nm sk br ht sg su fa puX fo fd T)) (hS : va_S A s.heap H locs) (hl : lv_has ls 9 ((6, .int K) :: LL b a1 a2 oo od i)) {bv : Int32} (hg : K = 0 → fo 0 = bv.toInt64) (hrm : cells + 4 ≤ 601024 ∧ slots + 64 ≤ 7293034) (hce : ce ≤ cells + 4) (hsl : sl ≤ slots + 64) (k : LK p l e s m b below meth c Q D cs z A a1 a2 oo od i cells slots) : W p l e room_1 s m #[Value.ref b] below meth c H locs ce sl Q (F0 m 1476 ls [.int bv]) := by
  obtain ⟨hx, hb, hml, hown, hts, hT, hR, hK, hA, hX, hbl, hbA, hL, hl9⟩ := id CC
  subst h1
  subst h2
  refine lv_istore (lv' := [(7, .int bv), (6, .int K), (5, .int (nI i)), (4, .ref od), (3, .ref oo), (2, .ref (am 0)), (1, .ref (ad 0)), (0, .ref b)]) hx hb dL_law_1476 hl (by decide) rfl (fun ls hl => ?_)
  refine lv_aload_n hx hb dL_law_1478 rfl (lv_at hl 5 rfl) ?_
  refine rdV (As := []) (rest := []) (b := am 0) ⟨hx, hb, hml, hown, hts⟩ hK 0 (m_thrown l D cs H (wr_left hP) hF.2.2.1) (gin_v mw_6_6 mw_6_7 mw_6_8 mw_1_5 mw_6_9) (by decide +kernel) ⟨Nat.le_of_ble_eq_true rfl, Nat.le_of_ble_eq_true rfl⟩ (va_recv hK hP (ci := 4) (q0 := 0) rfl rfl) rfl hl.1 rfl (Nat.le_of_ble_eq_true rfl) dL_law_1479 ⟨Nat.le_trans hce hrm.1, Nat.le_trans hsl hrm.2⟩ ?_
  refine W.eq (g2 := F0 m 1482 ls [.int K]) rfl ?_
  refine lv_iload hx hb dL_law_1482 (lv_at hl 1 rfl) ?_
  refine lv_icmp_eq (tgt := 1489) hx hb dL_law_1484 (by decide) (fun _ => ?_) (fun h => absurd rfl h)
  refine lv_iload hx hb dL_law_1489 (lv_at hl 1 rfl) ?_
  have fin : ∀ ls : Array Slot, lv_has ls 9 [(7, .int bv), (6, .int K), (5, .int (nI i)), (4, .ref od), (3, .ref oo), (2, .ref (am 0)), (1, .ref (ad 0)), (0, .ref b)] → W p l e room_1 s m #[Value.ref b] below meth c H locs ce sl Q (F0 m 1506 ls []) := fun ls hl => lv_goto (tgt := 1603) hx hb dL_law_1506 (by decide) (L_k CC k rfl rfl hF hP hD hS hce hsl (lv_sub hl [2, 3, 4, 5, 6, 7] rfl))
  refine lv_if_ne (tgt := 1506) hx hb dL_law_1491 (by decide) (fun _ => fin ls hl) (fun hk => ?_)
  have hg := hg hk
  refine lv_aload_n hx hb dL_law_1494 rfl (lv_at hl 4 rfl) ?_
  refine lv_iconst (v := nI 0) hx hb dL_law_1495 (by first | decide | rfl) ?_
  refine va_lald hx hb hK hP 10 3 rfl rfl (nI_in (by omega) (by omega)) dL_law_1496 ?_
  refine lv_rwl (y := bv.toInt64) ((congrArg fo (nI_clamp (n := 0) (by omega))).trans hg) ?_
  refine lv_iload hx hb dL_law_1497 (lv_at hl 0 rfl) ?_
  refine lv_i2l hx hb dL_law_1499 rfl ?_
  refine W.lcmp hx hb dL_law_1500 ?_
  exact lv_if_eq (tgt := 1506) hx hb dL_law_1501 (by decide) (fun _ => fin ls hl) (fun h => absurd ((lcmp_eq _ _).mpr rfl) h)
set_option maxHeartbeats 4000000 in
theorem L_a29 (CC : LC p l s m c b L xs D cs z mi A) (hS : va_S A s.heap H locs) (hl : lv_has ls 9 (LL b a1 a2 oo od i)) (hi : i + 7 ≤ L) {x1 x2 x3 : Int32} (e1 : xs (i + 1) = x1) (e2 : xs (i + 2) = x2) (e3 : xs (i + 3) = x3) (k : W p l e room_1 s m #[Value.ref b] below meth c H locs ce sl Q (F0 m 1529 ls [.ref oo, .int x3, .int x2, .int x1, .ref a1])) : W p l e room_1 s m #[Value.ref b] below meth c H locs ce sl Q (F0 m 1509 ls []) := by
  obtain ⟨hx, hb, hml, hown, hts, hT, hR, hK, hA, hX, hbl, hbA, hL, hl9⟩ := id CC
  refine lv_aload_n hx hb dL_law_1509 rfl (lv_at hl 4 rfl) ?_
  refine lv_aload_n hx hb dL_law_1510 rfl (lv_at hl 5 rfl) ?_
  refine lv_iload hx hb dL_law_1511 (lv_at hl 0 rfl) ?_
  refine lv_iconst (v := nI 1) hx hb dL_law_1513 (by first | decide | rfl) ?_
  refine lv_iadd hx hb dL_law_1514 ?_
  refine lv_rwi (y := nI (i + 1)) (nI_add i 1) ?_
  refine va_sld hx hb hX hbl hbA hS (nI_in (show i + 1 < L by omega) (show L < 2 ^ 31 by omega)) dL_law_1515 ?_
  refine lv_rwi (y := x1) ((congrArg xs (nI_clamp (show i + 1 < 2 ^ 31 by omega))).trans e1) ?_
  refine lv_aload_n hx hb dL_law_1516 rfl (lv_at hl 5 rfl) ?_
  refine lv_iload hx hb dL_law_1517 (lv_at hl 0 rfl) ?_
  refine lv_iconst (v := nI 2) hx hb dL_law_1519 (by first | decide | rfl) ?_
  refine lv_iadd hx hb dL_law_1520 ?_
  refine lv_rwi (y := nI (i + 2)) (nI_add i 2) ?_
  refine va_sld hx hb hX hbl hbA hS (nI_in (show i + 2 < L by omega) (show L < 2 ^ 31 by omega)) dL_law_1521 ?_
  refine lv_rwi (y := x2) ((congrArg xs (nI_clamp (show i + 2 < 2 ^ 31 by omega))).trans e2) ?_
  refine lv_aload_n hx hb dL_law_1522 rfl (lv_at hl 5 rfl) ?_
  refine lv_iload hx hb dL_law_1523 (lv_at hl 0 rfl) ?_
  refine lv_iconst (v := nI 3) hx hb dL_law_1525 (by first | decide | rfl) ?_
  refine lv_iadd hx hb dL_law_1526 ?_
  refine lv_rwi (y := nI (i + 3)) (nI_add i 3) ?_
  refine va_sld hx hb hX hbl hbA hS (nI_in (show i + 3 < L by omega) (show L < 2 ^ 31 by omega)) dL_law_1527 ?_
  refine lv_rwi (y := x3) ((congrArg xs (nI_clamp (show i + 3 < 2 ^ 31 by omega))).trans e3) ?_
  refine lv_aload_n hx hb dL_law_1528 rfl (lv_at hl 2 rfl) ?_
  exact k
set_option maxHeartbeats 4000000 in
theorem L_b29 (CC : LC p l s m c b L xs D cs z mi A) (hS : va_S A s.heap H locs) (hl : lv_has ls 9 (LL b a1 a2 oo od i)) (hi : i + 7 ≤ L) {K : Int32} {x1 x2 x3 : Int32} (e1 : xs (i + 1) = x1) (e2 : xs (i + 2) = x2) (e3 : xs (i + 3) = x3) (k : ∀ ls : Array Slot, lv_has ls 9 ((6, .int K) :: LL b a1 a2 oo od i) → W p l e room_1 s m #[Value.ref b] below meth c H locs ce sl Q (F0 m 1553 ls [.int x3, .int x2, .int x1, .ref a2])) : W p l e room_1 s m #[Value.ref b] below meth c H locs ce sl Q (F0 m 1532 ls [.int K]) := by
  obtain ⟨hx, hb, hml, hown, hts, hT, hR, hK, hA, hX, hbl, hbA, hL, hl9⟩ := id CC
  refine lv_istore (lv' := [(6, .int K), (5, .int (nI i)), (4, .ref od), (3, .ref oo), (2, .ref a2), (1, .ref a1), (0, .ref b)]) hx hb dL_law_1532 hl (by decide) rfl (fun ls hl => ?_)
  refine lv_aload_n hx hb dL_law_1534 rfl (lv_at hl 4 rfl) ?_
  refine lv_aload_n hx hb dL_law_1535 rfl (lv_at hl 6 rfl) ?_
  refine lv_iload hx hb dL_law_1536 (lv_at hl 1 rfl) ?_
  refine lv_iconst (v := nI 1) hx hb dL_law_1538 (by first | decide | rfl) ?_
  refine lv_iadd hx hb dL_law_1539 ?_
  refine lv_rwi (y := nI (i + 1)) (nI_add i 1) ?_
  refine va_sld hx hb hX hbl hbA hS (nI_in (show i + 1 < L by omega) (show L < 2 ^ 31 by omega)) dL_law_1540 ?_
  refine lv_rwi (y := x1) ((congrArg xs (nI_clamp (show i + 1 < 2 ^ 31 by omega))).trans e1) ?_
  refine lv_aload_n hx hb dL_law_1541 rfl (lv_at hl 6 rfl) ?_
  refine lv_iload hx hb dL_law_1542 (lv_at hl 1 rfl) ?_
  refine lv_iconst (v := nI 2) hx hb dL_law_1544 (by first | decide | rfl) ?_
  refine lv_iadd hx hb dL_law_1545 ?_
  refine lv_rwi (y := nI (i + 2)) (nI_add i 2) ?_
  refine va_sld hx hb hX hbl hbA hS (nI_in (show i + 2 < L by omega) (show L < 2 ^ 31 by omega)) dL_law_1546 ?_
  refine lv_rwi (y := x2) ((congrArg xs (nI_clamp (show i + 2 < 2 ^ 31 by omega))).trans e2) ?_
  refine lv_aload_n hx hb dL_law_1547 rfl (lv_at hl 6 rfl) ?_
  refine lv_iload hx hb dL_law_1548 (lv_at hl 1 rfl) ?_
  refine lv_iconst (v := nI 3) hx hb dL_law_1550 (by first | decide | rfl) ?_
  refine lv_iadd hx hb dL_law_1551 ?_
  refine lv_rwi (y := nI (i + 3)) (nI_add i 3) ?_
  refine va_sld hx hb hX hbl hbA hS (nI_in (show i + 3 < L by omega) (show L < 2 ^ 31 by omega)) dL_law_1552 ?_
  refine lv_rwi (y := x3) ((congrArg xs (nI_clamp (show i + 3 < 2 ^ 31 by omega))).trans e3) ?_
  exact k ls hl
set_option maxHeartbeats 4000000 in
set_option maxRecDepth 100000 in
theorem L_t29 (CC : LC p l s m c b L xs D cs z mi A) {K : Int32} (h1 : am 0 = a2) (h2 : ad 0 = a1) (hF : LF cs z ad cnt f1 f2 f3 dn N n cap fn fc puM wh kn nm sk br ht su fa puX rf wa wf T) (hP : va_P D vwCl (LWw cs am ad oo od bank rnds K cnt mcn dn N n fc puM wh kn nm sk br ht sg su fa puX fo fd T) H) (hD : va_D A (LWw cs am ad oo od bank rnds K cnt mcn dn N n fc puM wh kn nm sk br ht sg su fa puX fo fd T)) (hS : va_S A s.heap H locs) (hl : lv_has ls 9 ((6, .int K) :: LL b a1 a2 oo od i)) {bv : Int32} (hg : K = 0 → fo 0 = bv.toInt64) (hrm : cells + 4 ≤ 601024 ∧ slots + 64 ≤ 7293034) (hce : ce ≤ cells + 4) (hsl : sl ≤ slots + 64) (k : LK p l e s m b below meth c Q D cs z A a1 a2 oo od i cells slots) : W p l e room_1 s m #[Value.ref b] below meth c H locs ce sl Q (F0 m 1556 ls [.int bv]) := by
  obtain ⟨hx, hb, hml, hown, hts, hT, hR, hK, hA, hX, hbl, hbA, hL, hl9⟩ := id CC
  subst h1
  subst h2
  refine lv_istore (lv' := [(7, .int bv), (6, .int K), (5, .int (nI i)), (4, .ref od), (3, .ref oo), (2, .ref (am 0)), (1, .ref (ad 0)), (0, .ref b)]) hx hb dL_law_1556 hl (by decide) rfl (fun ls hl => ?_)
  refine lv_aload_n hx hb dL_law_1558 rfl (lv_at hl 5 rfl) ?_
  refine rdV (As := []) (rest := []) (b := am 0) ⟨hx, hb, hml, hown, hts⟩ hK 0 (m_thrown l D cs H (wr_left hP) hF.2.2.1) (gin_v mw_6_6 mw_6_7 mw_6_8 mw_1_5 mw_6_9) (by decide +kernel) ⟨Nat.le_of_ble_eq_true rfl, Nat.le_of_ble_eq_true rfl⟩ (va_recv hK hP (ci := 4) (q0 := 0) rfl rfl) rfl hl.1 rfl (Nat.le_of_ble_eq_true rfl) dL_law_1559 ⟨Nat.le_trans hce hrm.1, Nat.le_trans hsl hrm.2⟩ ?_
  refine W.eq (g2 := F0 m 1562 ls [.int K]) rfl ?_
  refine lv_iload hx hb dL_law_1562 (lv_at hl 1 rfl) ?_
  refine lv_icmp_eq (tgt := 1569) hx hb dL_law_1564 (by decide) (fun _ => ?_) (fun h => absurd rfl h)
  refine lv_iload hx hb dL_law_1569 (lv_at hl 1 rfl) ?_
  have fin : ∀ ls : Array Slot, lv_has ls 9 [(7, .int bv), (6, .int K), (5, .int (nI i)), (4, .ref od), (3, .ref oo), (2, .ref (am 0)), (1, .ref (ad 0)), (0, .ref b)] → W p l e room_1 s m #[Value.ref b] below meth c H locs ce sl Q (F0 m 1586 ls []) := fun ls hl => lv_goto (tgt := 1603) hx hb dL_law_1586 (by decide) (L_k CC k rfl rfl hF hP hD hS hce hsl (lv_sub hl [2, 3, 4, 5, 6, 7] rfl))
  refine lv_if_ne (tgt := 1586) hx hb dL_law_1571 (by decide) (fun _ => fin ls hl) (fun hk => ?_)
  have hg := hg hk
  refine lv_aload_n hx hb dL_law_1574 rfl (lv_at hl 4 rfl) ?_
  refine lv_iconst (v := nI 0) hx hb dL_law_1575 (by first | decide | rfl) ?_
  refine va_lald hx hb hK hP 10 3 rfl rfl (nI_in (by omega) (by omega)) dL_law_1576 ?_
  refine lv_rwl (y := bv.toInt64) ((congrArg fo (nI_clamp (n := 0) (by omega))).trans hg) ?_
  refine lv_iload hx hb dL_law_1577 (lv_at hl 0 rfl) ?_
  refine lv_i2l hx hb dL_law_1579 rfl ?_
  refine W.lcmp hx hb dL_law_1580 ?_
  exact lv_if_eq (tgt := 1586) hx hb dL_law_1581 (by decide) (fun _ => fin ls hl) (fun h => absurd ((lcmp_eq _ _).mpr rfl) h)
end Law
