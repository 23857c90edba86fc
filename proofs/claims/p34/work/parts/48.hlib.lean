/-! the law's own methods that call the class and catch: their contracts, their calls, a throw caught -/
abbrev wyh (y : MethodName) (cc : ByteArray) (nL : Nat) (ret : Option FieldType) (hh : List (Nat × Nat × Nat × Nat)) : List Cond := .codeWith y cc nL ret hh :: wsL_law
def Wh (z mi : Nat) (l : Launch) (D : va_G) (cs : Nat → ClassId) (d mc ms : Nat) (y : MethodName) (cc : ByteArray) (nL : Nat) (ret : Option FieldType) (hh : List (Nat × Nat × Nat × Nat)) (ws : va_W) (H : Heap) (As : List Value) (post : Option Value → va_W → Prop) : Prop :=
  Met l y (wyh y cc nL ret hh) (rmL d mc ms) (va_Pc As (fun U => U.heap = H ∧ va_K D vwCl (Ty cs) U ∧ ST z mi (va_A ws H.size) U H ∧ SR U)) (Wq D ws H.size post) mc ms (va_A ws H.size)
theorem wh_ent {z mi : Nat} {l : Launch} {D : va_G} {cs : Nat → ClassId} {d mc ms : Nat} {y : MethodName} {cc : ByteArray} {nL : Nat} {ret : Option FieldType} {hh : List (Nat × Nat × Nat × Nat)} {ws : va_W} {H : Heap} {As : List Value} {post : Option Value → va_W → Prop} (hy : plainName y.cls = true) (hn : (lg_sl As).length ≤ nL) (hP : va_P D vwCl ws H) (hD : va_D (fun _ => True) ws)
    (body : ∀ (p : Program) (e : Env) (s : State) (m : MethodId) (below : List Frame) (meth : Method) (c : Code) (ls : Array Slot) (A : Nat → Prop) (Q : State → Prop) (H9 : Heap), p.tables.exec = Jvm.exec → c.code = cc → meth.sig.returnType = ret → c.maxLocals = nL → s.vm.findClass y.cls = some m.cls → (∀ w ∈ wsL_law, w.before As.toArray s = true) → meth.locks = false → lv_has ls nL (lv_args 0 As) → va_K D vwCl (Ty cs) s →
      (A = va_A ws s.heap.size ∧ Q = MQ below (Wq D ws s.heap.size post) As.toArray s mc ms A) → (∀ q : Nat, s.heap.size ≤ q → A q) → s.heap = H9 → ST z mi A s s.heap → SR s → c.exceptionTable.toList = tableOf hh → va_P D vwCl ws H9 → va_D A ws → va_S A s.heap H9 [] →
      W p l e (rmL d mc ms) s m As.toArray below meth c H9 [] 0 0 Q (F0 m 0 ls [])) :
    Wh z mi l D cs d mc ms y cc nL ret hh ws H As post := by
  refine va_MetW (cc := cc) (maxL := nL) (ret := ret) (hh := hh) hy rfl ?_
  intro p e s m args below meth c s₁ B hml hv
  obtain ⟨rfl, hPu⟩ := hv
  obtain ⟨hH, hK, hT, hR⟩ := hPu
  subst hH
  have hts0 := atoms_spec (ws := wyh y cc nL ret hh) B.pre
  have htab := vx_table (x := y) B (hts0 _ List.mem_cons_self)
  rw [lg_entry_eq]
  exact body p e s m below meth c _ _ _ _ B.exec B.bytes B.returns hml (findClass_of_methodNamed B.named) (fun w h => hts0 w (List.mem_cons_of_mem _ h)) B.notSynchronized (lv_entry As hn) hK ⟨rfl, rfl⟩ (fun q h => Or.inr h) rfl hT hR htab hP hD.self va_S.rf
section WhRows
variable {p : Program} {l : Launch} {e : Env} {R : Room} {s : State} {m : MethodId} {args : Array Value} {below : List Frame} {meth : Method} {c : Code} {H : Heap} {locs : List Loc} {cells slots mc ms : Nat} {Q : State → Prop} {cc cc' : ByteArray} {pc nL nL' : Nat} {ls : Array Slot} {rest st0 : List Value} {D : va_G} {cs : Nat → ClassId} {own C : String} {index d : Nat} {y : MethodName} {ret : Option FieldType} {hh : List (Nat × Nat × Nat × Nat)} {As : List Value} {b : Addr} {ws : va_W} {A : Nat → Prop} {post : Option Value → va_W → Prop} {z mi : Nat} {E : String}
theorem gin_h {own : String} {idx : Nat} {y : MethodName} {cc : ByteArray} {nL : Nat} {ret : Option FieldType} {hh : List (Nat × Nat × Nat × Nat)} (h1 : Cond.methodLink own idx y ∈ wsL_law) (h2 : Cond.static y ∈ wsL_law) (h4 : Cond.initialized y.cls ∈ wsL_law) (h5 : Cond.codeWith y cc nL ret hh ∈ wsL_law) : GoodIn wsL_law (va_wsS own idx y (wyh y cc nL ret hh)) := by
  intro w hw
  refine gin_law w ?_
  rcases List.mem_append.mp hw with h | h
  · rcases List.mem_cons.mp h with rfl | h
    · exact h1
    · rcases List.mem_cons.mp h with rfl | h
      · exact h2
      · rcases List.mem_cons.mp h with rfl | h
        · exact h4
        · exact absurd h List.not_mem_nil
  · rcases List.mem_cons.mp h with rfl | h
    · exact h5
    · exact h
theorem whS (S : CallFix p m c cc nL s args wsL_law own) (hT : ST z mi A s s.heap) (hR : SR s) (hK : va_K D vwCl (Ty cs) s) (n : Nat) (hM : Wh z mi l D cs d mc ms y cc' nL' ret hh ws H As post) (hG : GoodIn wsL_law (va_wsS own index y (wyh y cc' nL' ret hh)))
    (hd : y.cls ≠ "java/lang/invoke/MethodHandle" ∧ y.cls ≠ "java/lang/invoke/VarHandle" ∧ (parseMethodDescriptor y.desc).map (fun d => d.parameters.length) = some n) (hRm : d + 1 ≤ R.frames ∧ 8 + (nL' + 11) + 32 * d ≤ R.locals)
    (hn : As.length = n) (hsize : ls.size = nL) (hst : st0 = As.reverse ++ rest) (hW : (rest.map fun v => v.category).sum ≤ 8) (hdg : decode cc pc = .ok (.invokestatic index, 3)) (hf : cells + mc ≤ R.cells ∧ slots + ms ≤ R.slots)
    (hD : va_D A ws) (hS : va_S A s.heap H locs) (hA : ∀ q, s.heap.size ≤ q → A q)
    (kk : ∀ (ov : Option Value) (w1 : va_W) (H1 : Heap) (locs1 : List Loc), post ov w1 → va_P D vwCl w1 H1 → va_D A w1 → va_S A s.heap H1 locs1 → W p l e R s m args below meth c H1 locs1 (cells + mc) (slots + ms) Q (F0 m (pc + 3) ls (ov.toList ++ rest))) : W p l e R s m args below meth c H locs cells slots Q (F0 m pc ls st0) :=
  wr_run (a := As.toArray) (vx_runSW (g := F0 m pc ls st0) S hM (vx_cwSW n S.2.2.2.2 hG rfl rfl rfl hd hRm) ⟨wx_blind, fun _U hU hW => ⟨rfl, hU, va_K.moved hW.alike hK, hT.at hS hD hA hW.alike, hR.warm hW⟩⟩ rfl hn hsize hst (lv_room hW) hdg hf) hD hS hA kk
theorem ST.fresh (h : ST z mi A s s.heap) (hS : va_S A s.heap H locs) (hA : ∀ q, s.heap.size ≤ q → A q) {U : State} (hvm : s.vm.Alike U.vm) : ST z mi (FrH H) U H :=
  ((h.kept hS.2.1).narrow (fun q hq => hA q (Nat.le_trans hS.1 hq))).moved hvm
theorem wh_catchV (S : CallFix p m c cc nL s args wsL_law own) (hT : ST z mi A s s.heap) (hR : SR s) (hK : va_K D vwCl (Ty cs) s) (n : Nat) (hM : Wx z mi l D cs d y cc' nL' ret H (.ref b :: As) E) (hG : GoodIn wsL_law (wsV own index C y (wy y cc' nL' ret)))
    (hd : y.cls = C ∧ y.cls ≠ "java/lang/invoke/MethodHandle" ∧ y.cls ≠ "java/lang/invoke/VarHandle" ∧ (parseMethodDescriptor y.desc).map (fun d => d.parameters.length) = some n) (hRm : d + 1 ≤ R.frames ∧ 8 + (nL' + 11) + 32 * d ≤ R.locals)
    (hrecv : ∃ cellB : Cell, H[b]? = some cellB ∧ cellB.vm.isStatics = false ∧ s.vm.findClass C = some cellB.cls) (hn : As.length = n) (hsize : ls.size = nL) (hst : st0 = As.reverse ++ .ref b :: rest) (hW : (rest.map fun v => v.category).sum ≤ 8) (hdg : decode cc pc = .ok (.invokevirtual index, 3)) (hf : cells + 1 ≤ R.cells ∧ slots + 6 ≤ R.slots)
    (hP : va_P D vwCl ws H) (hD : va_D A ws) (hS : va_S A s.heap H locs) (hA : ∀ q, s.heap.size ≤ q → A q)
    (kx : ∀ (q : Nat) (ce : Cell) (H1 : Heap) (locs1 : List Loc), va_P D vwCl ws H1 → va_D A ws → va_S A s.heap H1 locs1 → H1[q]? = some ce → ce.vm = .none → s.vm.findClass E = some ce.cls → vx_W p l e R s m args below meth c H1 locs1 (cells + 1) (slots + 6) Q (F0 m pc ls rest) q) : W p l e R s m args below meth c H locs cells slots Q (F0 m pc ls st0) := by
  have hr := vx_runV (g := F0 m pc ls st0) (locs := locs) (cells := cells) (slots := slots) (e := e) (below := below) (meth := meth) (H := H) S hM (cwV n S.2.2.2.2 hG rfl rfl rfl hd hRm) ⟨wx_blind, hrecv, fun _U hU hW => ⟨rfl, hU, va_K.moved hW.alike hK, hT.fresh hS hA hW.alike, hR.warm hW⟩⟩ rfl hn hsize hst (lv_room hW) hdg hf
  intro T hT0 X
  rcases hr T hT0 X with ⟨v, st₀, t, T', L, h0, X', hL, e1, e2, hF, st⟩ | ⟨q, st₀, t, T', L, E', ce, h0, X', hL, e1, e2, hX, hcell, hv, hcl, st⟩
  · exact hF.elim
  · obtain ⟨hE, hz, hk⟩ := hX
    subst hE
    rw [h0] at hz hk
    have hz' : H.size ≤ T'.heap.size := by rw [e1]; exact hz
    have hk' : ∀ q : Nat, q < H.size → T'.heap[q]? = H[q]? := fun q hq => by rw [e1]; exact hk q hq
    have hP1 : va_P D vwCl ws T'.heap := hP.kept (fun k q9 hq9 => hk' _ (hP k q9 hq9).lt)
    have hS1 : va_S A s.heap T'.heap (locs ++ L) := ⟨Nat.le_trans hS.1 hz', fun q9 h1 h2 => by rw [hk' q9 (Nat.lt_of_lt_of_le h1 hS.1)]; exact hS.2.1 q9 h1 h2, fun q9 hq9 => by
      rcases List.mem_append.mp hq9 with h | h
      · exact hS.2.2 q9 h
      · exact hA _ (Nat.le_trans hS.1 (hL q9 h))⟩
    obtain ⟨t2, a1, b1⟩ := kx q ce T'.heap (locs ++ L) hP1 hD hS1 (by rw [e1]; exact hcell) hv hcl T' rfl X'
    exact ⟨t2, st.trans a1, b1⟩
theorem rd_dret {ov : Option Value} {v : UInt64} (hH : s.heap = H) (hx : p.tables.exec = Jvm.exec) (hb : c.code = cc) (hr : meth.sig.returnType = some .double) (hlocks : meth.locks = false) (hv : ov = some (.double v)) (hdg : decode cc pc = .ok (.dreturn, 1)) : W p l e R s m args below meth c H [] 0 0 (MQ below (fun _ st oc t => oc = .returned ov ∧ t.heap = st.heap) args s 0 0 (fun _ => False)) (F0 m pc ls [.double v]) := by
  subst hv
  exact W.dret (v := v) hx hb hr (fun t ht _ => ⟨rfl, ht.trans hH.symm⟩) (fun q hq => absurd hq List.not_mem_nil) hdg hlocks
theorem tl_P {D : va_G} {X tl : va_W} {H : Heap} (hP : va_P D vwCl (X ++ tl) H) : va_P D vwCl tl H := vaP_mem hP (fun q hq => List.mem_append_right _ hq)
theorem cn_nc {E T : String} {s : State} (hc : ∀ q ∈ cnL, va_Nc q.1 q.2 s) (h : (E, T) ∈ cnL) : va_Nc E T s := hc _ h
end WhRows
theorem cd_IAE : (Cond.castable xIAE xIAE) ∈ cdL := List.mem_append_right _ (List.mem_cons_of_mem _ List.mem_cons_self)
theorem cd_ISE : (Cond.castable xISE xISE) ∈ cdL := List.mem_append_right _ (List.mem_cons_of_mem _ (List.mem_cons_of_mem _ List.mem_cons_self))
theorem cd_IOB : (Cond.castable xIOB xIOB) ∈ cdL := List.mem_append_right _ (List.mem_cons_of_mem _ (List.mem_cons_of_mem _ (List.mem_cons_of_mem _ List.mem_cons_self)))
