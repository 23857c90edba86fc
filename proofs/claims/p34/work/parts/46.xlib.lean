/-! what throws: texts, contracts, a throw, a callee's throw passed on, a throw caught -/
def srL : List (Nat × String) := [(40, "no such dice"), (51, "wagers are open"), (82, "no such stake"), (94, "too many wagers are open"), (96, "the purse has less than the stake"), (256, "no such outcome"), (259, "no such wager"), (261, "no such patron"), (263, "no such event"), (265, "no such win"), (267, "no such base")]
def SR (U : State) : Prop := ∀ q ∈ srL, ∃ a : Nat, vk_R RX2 q.1 q.2 a U
theorem SR.same {u U : State} (hv : U.vm = u.vm) (h : SR u) : SR U := fun q hq => by
  obtain ⟨a, ha⟩ := h q hq
  exact ⟨a, vk_R.same hv ha⟩
theorem SR.warm {s U : State} (hW : s.WarmedH U.vm) (h : SR s) : SR U := fun q hq => by
  obtain ⟨a, ha⟩ := h q hq
  exact ⟨a, vk_R.warm hW ha⟩
def XE (E : String) : String → State → State → Prop := fun E' st t => E' = E ∧ st.heap.size ≤ t.heap.size ∧ ∀ q : Nat, q < st.heap.size → t.heap[q]? = st.heap[q]?
abbrev FrH (H : Heap) : Nat → Prop := fun q => H.size ≤ q
def Wx (z mi : Nat) (l : Launch) (D : va_G) (cs : Nat → ClassId) (d : Nat) (y : MethodName) (cc : ByteArray) (nL : Nat) (ret : Option FieldType) (H : Heap) (As : List Value) (E : String) : Prop :=
  vx_Met l y (wy y cc nL ret) (rmL d 1 6) (va_Pc As (fun U => U.heap = H ∧ va_K D vwCl (Ty cs) U ∧ ST z mi (FrH H) U H ∧ SR U)) (fun _ _ _ _ => False) (XE E) 1 6 (FrH H)
theorem cdW_tab {w : Cond} (h : cdW w = true) : w.onTables = true := by
  cases w <;> first | rfl | exact absurd h (by simp [cdW])
theorem cd_use {w : Cond} {A : Array Value} {s : State} (hc : ∀ w ∈ cdL, va_Nw w s) (hw : w ∈ cdL) : w.before A s = true := va_Nw.use (cdW_tab (List.all_eq_true.mp cdL_ok w hw)) (hc w hw)
theorem hat_IAE {args : Array Value} {s : State} (hts : ∀ w ∈ wsL_law, w.before args s = true) (hc : ∀ w ∈ cdL, va_Nw w s) : ∀ w ∈ vx_atS RX2 42 xIAE xNS, w.before args s = true := by
  intro w hw
  by_cases g : goodWord w = true
  · exact hts w (List.mem_append_left _ (List.mem_append_left _ (List.mem_append_right _ (List.mem_filter.mpr ⟨hw, g⟩))))
  · exact cd_use hc (List.mem_append_left _ (List.mem_filter.mpr ⟨List.mem_append_left _ (List.mem_append_left _ hw), by rw [Bool.not_eq_true] at g; show (!goodWord w) = true; rw [g]; rfl⟩))
theorem hat_ISE {args : Array Value} {s : State} (hts : ∀ w ∈ wsL_law, w.before args s = true) (hc : ∀ w ∈ cdL, va_Nw w s) : ∀ w ∈ vx_atS RX2 53 xISE xNS, w.before args s = true := by
  intro w hw
  by_cases g : goodWord w = true
  · exact hts w (List.mem_append_left _ (List.mem_append_right _ (List.mem_filter.mpr ⟨hw, g⟩)))
  · exact cd_use hc (List.mem_append_left _ (List.mem_filter.mpr ⟨List.mem_append_left _ (List.mem_append_right _ hw), by rw [Bool.not_eq_true] at g; show (!goodWord w) = true; rw [g]; rfl⟩))
theorem hat_IOB {args : Array Value} {s : State} (hts : ∀ w ∈ wsL_law, w.before args s = true) (hc : ∀ w ∈ cdL, va_Nw w s) : ∀ w ∈ vx_atS RX2 258 xIOB xNS, w.before args s = true := by
  intro w hw
  by_cases g : goodWord w = true
  · exact hts w (List.mem_append_right _ (List.mem_filter.mpr ⟨hw, g⟩))
  · exact cd_use hc (List.mem_append_left _ (List.mem_filter.mpr ⟨List.mem_append_right _ hw, by rw [Bool.not_eq_true] at g; show (!goodWord w) = true; rw [g]; rfl⟩))
theorem gd_IAE : (Cond.classLink RX2 38 xIAE :: Cond.initialized xIAE :: vx_atS RX2 42 xIAE xNS).all vx_ot = true := by decide +kernel
theorem gd_ISE : (Cond.classLink RX2 49 xISE :: Cond.initialized xISE :: vx_atS RX2 53 xISE xNS).all vx_ot = true := by decide +kernel
theorem gd_IOB : (Cond.classLink RX2 254 xIOB :: Cond.initialized xIOB :: vx_atS RX2 258 xIOB xNS).all vx_ot = true := by decide +kernel
theorem fit_IAE : Bundle.fit xIAE = true := by decide +kernel
theorem fit_ISE : Bundle.fit xISE = true := by decide +kernel
theorem fit_IOB : Bundle.fit xIOB = true := by decide +kernel
theorem fit_NS : ∀ n ∈ xNS, Bundle.fit n = true := by
  have h : xNS.all Bundle.fit = true := by decide +kernel
  exact fun n hn => List.all_eq_true.mp h n hn
theorem wx_ent {z mi : Nat} {l : Launch} {D : va_G} {cs : Nat → ClassId} {d : Nat} {y : MethodName} {cc : ByteArray} {nL : Nat} {ret : Option FieldType} {H : Heap} {As : List Value} {E : String} (hy : plainName y.cls = true) (hn : (lg_sl As).length ≤ nL)
    (body : ∀ (p : Program) (e : Env) (s : State) (m : MethodId) (below : List Frame) (meth : Method) (c : Code) (ls : Array Slot) (Q : State → Prop), p.tables.exec = Jvm.exec → c.code = cc → meth.sig.returnType = ret → c.maxLocals = nL → s.vm.findClass y.cls = some m.cls → (∀ w ∈ wsL_law, w.before As.toArray s = true) → meth.locks = false → lv_has ls nL (lv_args 0 As) → va_K D vwCl (Ty cs) s → ST z mi (FrH s.heap) s s.heap → SR s → s.heap = H → (∀ x ∈ c.exceptionTable.toList, False) →
      Q = vx_MQ below (fun _ _ _ _ => False) (XE E) As.toArray s 1 6 (FrH s.heap) → W p l e (rmL d 1 6) s m As.toArray below meth c H [] 0 0 Q (F0 m 0 ls [])) :
    Wx z mi l D cs d y cc nL ret H As E := by
  refine vx_ofW (cc := cc) (maxL := nL) (ret := ret) hy rfl ?_
  intro p e s m args below meth c s₁ B hml hex hv
  obtain ⟨rfl, hP⟩ := hv
  obtain ⟨hH, hK, hT, hR⟩ := hP
  subst hH
  have hts0 := atoms_spec (ws := wy y cc nL ret) B.pre
  rw [lg_entry_eq]
  exact body p e s m below meth c _ _ B.exec B.bytes B.returns hml (findClass_of_methodNamed B.named) (fun w h => hts0 w (List.mem_cons_of_mem _ h)) B.notSynchronized (lv_entry As hn) hK hT hR rfl hex rfl
section WxRows
variable {p : Program} {l : Launch} {e : Env} {R : Room} {s : State} {m : MethodId} {args : Array Value} {below : List Frame} {meth : Method} {c : Code} {H : Heap} {Q : State → Prop} {cc cc' : ByteArray} {pc nL nL' : Nat} {ls : Array Slot} {rest st0 : List Value} {D : va_G} {cs : Nat → ClassId} {own C : String} {index d d1 : Nat} {y : MethodName} {ret : Option FieldType} {As : List Value} {b : Addr} {E : String} {z mi : Nat}
theorem wx_x {E' : String} {t : State} (hH : s.heap = H) (hE : E' = E) (h1 : H.size ≤ t.heap.size) (h2 : ∀ q : Nat, q < H.size → t.heap[q]? = H[q]?) : XE E E' s t := by
  subst hH
  exact ⟨hE, h1, h2⟩
theorem wx_throw {ik is ic : Nat} {text : String} (hQ : Q = vx_MQ below (fun _ _ _ _ => False) (XE E) args s 1 6 (FrH s.heap)) (hH : s.heap = H) (hx : p.tables.exec = Jvm.exec) (hb : c.code = cc) (hl9 : l.stackTraces = false) (hml : c.maxLocals = nL) (hown : s.vm.findClass RX2 = some m.cls) (hts : ∀ w ∈ wsL_law, w.before args s = true) (hT : ST z mi (FrH s.heap) s s.heap) (hR : SR s) (hex : ∀ x ∈ c.exceptionTable.toList, False) (hlocks : meth.locks = false) (hsz : ls.size = nL)
    (hfit : Bundle.fit E = true) (hk : Cond.classLink RX2 ik E ∈ wsL_law) (hini : Cond.initialized E ∈ wsL_law) (hstr : (is, text) ∈ srL) (hat : ∀ w ∈ vx_atS RX2 ic E xNS, w.before args s = true) (hgood : (Cond.classLink RX2 ik E :: Cond.initialized E :: vx_atS RX2 ic E xNS).all vx_ot = true)
    (d0 : decode cc pc = .ok (.new ik, 3)) (d3 : decode cc (pc + 3) = .ok (.dup, 1)) (d4 : decode cc (pc + 4) = .ok (.ldc is, 2)) (d6 : decode cc (pc + 6) = .ok (.invokespecial ic, 3)) (d9 : decode cc (pc + 9) = .ok (.athrow, 1)) (hd : 6 ≤ d) (hrest : (rest.map fun v => v.category).sum ≤ 40) :
    W p l e (rmL d 1 6) s m args below meth c H [] 0 0 Q (F0 m pc ls rest) := by
  subst hQ
  subst hH
  obtain ⟨sa, hsa⟩ := hR _ hstr
  refine vx_throwS (A := FrH s.heap) hx hb hl9 hown hfit fit_NS (hts _ hk) (hts _ hini) hsa hat (fun w hw => List.all_eq_true.mp hgood w hw) hT.2.2.2.2.1 hT.2.2.2.2.2.1 va_S.rf (hsz.trans hml.symm) d0 d3 d4 d6 d9 (fun x h => (hex x h).elim) ?_ ?_ (Nat.le_refl _) (Nat.le_refl _) hlocks (fun t _ h1 h2 => ⟨rfl, h1, h2⟩) (fun z hz => absurd hz List.not_mem_nil) (Nat.le_refl _) (Nat.le_refl _)
  · show 2 + 3 < d; omega
  · show _ + (13 * (2 + 1) + 43) ≤ 32 * d; omega
theorem wx_throwW {ik is ic : Nat} {text : String} (hQ : Q = vx_MQ below (fun _ _ _ _ => False) (XE E) args s 1 6 (FrH s.heap)) (hH : s.heap = H) (hx : p.tables.exec = Jvm.exec) (hb : c.code = cc) (hl9 : l.stackTraces = false) (hml : c.maxLocals = nL) (hown : s.vm.findClass RX2 = some m.cls) (hts : ∀ w ∈ wsL_law, w.before args s = true) (hT : ST z mi (FrH s.heap) s s.heap) (hR : SR s) (hex : ∀ x ∈ c.exceptionTable.toList, False) (hlocks : meth.locks = false) (hsz : ls.size = nL)
    (hfit : Bundle.fit E = true) (hk : Cond.classLink RX2 ik E ∈ wsL_law) (hini : Cond.initialized E ∈ wsL_law) (hstr : (is, text) ∈ srL) (hat : ∀ w ∈ vx_atS RX2 ic E xNS, w.before args s = true) (hgood : (Cond.classLink RX2 ik E :: Cond.initialized E :: vx_atS RX2 ic E xNS).all vx_ot = true)
    (d0 : decode cc pc = .ok (.new ik, 3)) (d3 : decode cc (pc + 3) = .ok (.dup, 1)) (d4 : decode cc (pc + 4) = .ok (.ldc_w is, 3)) (d7 : decode cc (pc + 7) = .ok (.invokespecial ic, 3)) (d10 : decode cc (pc + 10) = .ok (.athrow, 1)) (hd : 6 ≤ d) (hrest : (rest.map fun v => v.category).sum ≤ 40) :
    W p l e (rmL d 1 6) s m args below meth c H [] 0 0 Q (F0 m pc ls rest) := by
  subst hQ
  subst hH
  obtain ⟨sa, hsa⟩ := hR _ hstr
  refine vx_throwSW (A := FrH s.heap) hx hb hl9 hown hfit fit_NS (hts _ hk) (hts _ hini) hsa hat (fun w hw => List.all_eq_true.mp hgood w hw) hT.2.2.2.2.1 hT.2.2.2.2.2.1 va_S.rf (hsz.trans hml.symm) d0 d3 d4 d7 d10 (fun x h => (hex x h).elim) ?_ ?_ (Nat.le_refl _) (Nat.le_refl _) hlocks (fun t _ h1 h2 => ⟨rfl, h1, h2⟩) (fun z hz => absurd hz List.not_mem_nil) (Nat.le_refl _) (Nat.le_refl _)
  · show 2 + 3 < d; omega
  · show _ + (13 * (2 + 1) + 43) ≤ 32 * d; omega
theorem wx_blind {As : List Value} {B : Nat → Prop} : FrameBlind (va_Pc As (fun U => U.heap = H ∧ va_K D vwCl (Ty cs) U ∧ ST z mi B U H ∧ SR U)) := fun a U g mk q => by
  obtain ⟨q0, q1, qK, qT, qR⟩ := q
  exact ⟨q0, q1, va_K.moved (u := U) (U := U.calling g mk a) (Vm.Alike.refl U.vm) qK, ST.moved (u := U) (U := U.calling g mk a) (Vm.Alike.refl U.vm) qT, SR.same (u := U) (U := U.calling g mk a) rfl qR⟩
/-- a callee's throw goes on to the caller -/
theorem wx_pass {g : JFrame} {a : Array Value} (hQ : Q = vx_MQ below (fun _ _ _ _ => False) (XE E) args s 1 6 (FrH s.heap)) (hH : s.heap = H) (hex : ∀ x ∈ c.exceptionTable.toList, False) (hlocks : meth.locks = false) (hg : { g with stack := rest } = F0 m pc ls rest) (hr : vx_Run p l e R s m args below meth c H [] 0 0 1 6 g rest ((fun (_ : Array Value) (_ : State) (_ : Outcome) (_ : State) => False) a) (XE E) (FrH H)) : W p l e R s m args below meth c H [] 0 0 Q g := by
  subst hQ
  intro T hT X
  rcases hr T hT X with ⟨v, st₀, t, T', L, h0, X', hL, e1, e2, hF, st⟩ | ⟨q, st₀, t, T', L, E', ce, h0, X', hL, e1, e2, hX, hcell, hv, hcl, st⟩
  · exact hF.elim
  · rw [hg] at st
    obtain ⟨hE, hz, hk⟩ := hX
    rw [h0] at hz hk
    have hW : vx_W p l e R s m args below meth c T'.heap ([] ++ L) (0 + 1) (0 + 6) (vx_MQ below (fun _ _ _ _ => False) (XE E) args s 1 6 (FrH s.heap)) (F0 m pc ls rest) q :=
      vx_out (E := E') (fun x h => (hex x h).elim) hlocks (by rw [e1]; exact hcell) hv hcl (fun t9 ht9 _ => wx_x hH hE (by rw [ht9, e1]; exact hz) (fun q9 hq9 => by rw [ht9, e1]; exact hk q9 hq9)) (fun z9 hz9 => by rw [hH]; exact hL z9 (by simpa using hz9)) (Nat.le_refl _) (Nat.le_refl _)
    obtain ⟨t2, a1, b1⟩ := hW T' rfl X'
    exact ⟨t2, st.trans a1, b1⟩
theorem wx_passV (S : CallFix p m c cc nL s args wsL_law own) (hQ : Q = vx_MQ below (fun _ _ _ _ => False) (XE E) args s 1 6 (FrH s.heap)) (hH : s.heap = H) (hex : ∀ x ∈ c.exceptionTable.toList, False) (hlocks : meth.locks = false) (hK : va_K D vwCl (Ty cs) s) (hT : ST z mi (FrH s.heap) s s.heap) (hR : SR s) (n : Nat) (hM : Wx z mi l D cs d1 y cc' nL' ret H (.ref b :: As) E) (hG : GoodIn wsL_law (wsV own index C y (wy y cc' nL' ret)))
    (hd : y.cls = C ∧ y.cls ≠ "java/lang/invoke/MethodHandle" ∧ y.cls ≠ "java/lang/invoke/VarHandle" ∧ (parseMethodDescriptor y.desc).map (fun d => d.parameters.length) = some n) (hRm : d1 + 1 ≤ d ∧ 8 + (nL' + 11) + 32 * d1 ≤ 32 * d)
    (hrecv : ∃ cellB : Cell, H[b]? = some cellB ∧ cellB.vm.isStatics = false ∧ s.vm.findClass C = some cellB.cls) (hn : As.length = n) (hsize : ls.size = nL) (hst : st0 = As.reverse ++ .ref b :: rest) (hW : (rest.map fun v => v.category).sum ≤ 8) (hdg : decode cc pc = .ok (.invokevirtual index, 3)) : W p l e (rmL d 1 6) s m args below meth c H [] 0 0 Q (F0 m pc ls st0) := by
  subst hH
  exact wx_pass (g := F0 m pc ls st0) (a := (Value.ref b :: As).toArray) hQ rfl hex hlocks rfl (vx_runV (g := F0 m pc ls st0) S hM (cwV n S.2.2.2.2 hG rfl rfl rfl hd hRm) ⟨wx_blind, hrecv, fun _U hU hW => ⟨rfl, hU, va_K.moved hW.alike hK, ST.moved hW.alike hT, hR.warm hW⟩⟩ rfl hn hsize hst (lv_room hW) hdg ⟨Nat.le_refl _, Nat.le_refl _⟩)
theorem wx_passS (S : CallFix p m c cc nL s args wsL_law own) (hQ : Q = vx_MQ below (fun _ _ _ _ => False) (XE E) args s 1 6 (FrH s.heap)) (hH : s.heap = H) (hex : ∀ x ∈ c.exceptionTable.toList, False) (hlocks : meth.locks = false) (hK : va_K D vwCl (Ty cs) s) (hT : ST z mi (FrH s.heap) s s.heap) (hR : SR s) (n : Nat) (hM : Wx z mi l D cs d1 y cc' nL' ret H As E) (hG : GoodIn wsL_law (va_wsS own index y (wy y cc' nL' ret)))
    (hd : y.cls ≠ "java/lang/invoke/MethodHandle" ∧ y.cls ≠ "java/lang/invoke/VarHandle" ∧ (parseMethodDescriptor y.desc).map (fun d => d.parameters.length) = some n) (hRm : d1 + 1 ≤ d ∧ 8 + (nL' + 11) + 32 * d1 ≤ 32 * d)
    (hn : As.length = n) (hsize : ls.size = nL) (hst : st0 = As.reverse ++ rest) (hW : (rest.map fun v => v.category).sum ≤ 8) (hdg : decode cc pc = .ok (.invokestatic index, 3)) : W p l e (rmL d 1 6) s m args below meth c H [] 0 0 Q (F0 m pc ls st0) := by
  subst hH
  exact wx_pass (g := F0 m pc ls st0) (a := As.toArray) hQ rfl hex hlocks rfl (vx_runS (g := F0 m pc ls st0) S hM (va_cwS n S.2.2.2.2 hG rfl rfl rfl hd hRm) ⟨wx_blind, fun _U hU hW => ⟨rfl, hU, va_K.moved hW.alike hK, ST.moved hW.alike hT, hR.warm hW⟩⟩ rfl hn hsize hst (lv_room hW) hdg ⟨Nat.le_refl _, Nat.le_refl _⟩)
end WxRows
