/-! own rows: one list of words for all methods; methods that only read -/
abbrev wy (y : MethodName) (cc : ByteArray) (nL : Nat) (ret : Option FieldType) : List Cond := .code y cc nL ret :: wsL_law
abbrev rmL (d mc ms : Nat) : Room := { frames := d, cells := mc, slots := ms, locals := 32 * d }
theorem wsL_law_good : wsL_law.all goodWord = true := by decide +kernel
theorem gin_law : GoodIn wsL_law wsL_law := fun w h => ⟨h, good_of_word (List.all_eq_true.mp wsL_law_good w h)⟩
theorem gin_v {own : String} {idx : Nat} {C : String} {y : MethodName} {cc : ByteArray} {nL : Nat} {ret : Option FieldType} (h1 : Cond.methodLink own idx y ∈ wsL_law) (h2 : Cond.instanceMethod y ∈ wsL_law) (h3 : Cond.selects C y y ∈ wsL_law) (h4 : Cond.initialized C ∈ wsL_law) (h5 : Cond.code y cc nL ret ∈ wsL_law) : GoodIn wsL_law (wsV own idx C y (wy y cc nL ret)) := by
  intro w hw
  refine gin_law w ?_
  rcases List.mem_append.mp hw with h | h
  · rcases List.mem_cons.mp h with rfl | h
    · exact h1
    · rcases List.mem_cons.mp h with rfl | h
      · exact h2
      · rcases List.mem_cons.mp h with rfl | h
        · exact h3
        · rcases List.mem_cons.mp h with rfl | h
          · exact h4
          · exact absurd h List.not_mem_nil
  · rcases List.mem_cons.mp h with rfl | h
    · exact h5
    · exact h
theorem gin_s {own : String} {idx : Nat} {y : MethodName} {cc : ByteArray} {nL : Nat} {ret : Option FieldType} (h1 : Cond.methodLink own idx y ∈ wsL_law) (h2 : Cond.static y ∈ wsL_law) (h4 : Cond.initialized y.cls ∈ wsL_law) (h5 : Cond.code y cc nL ret ∈ wsL_law) : GoodIn wsL_law (va_wsS own idx y (wy y cc nL ret)) := by
  intro w hw
  refine gin_law w ?_
  rcases List.mem_append.mp hw with h | h
  · rcases List.mem_cons.mp h with rfl | h
    · exact h1
    · rcases List.mem_cons.mp h with rfl | h
      · exact h2
      · rcases List.mem_cons.mp h with rfl | h
        · exact h4
        · exact absurd h List.not_mem_nil
  · rcases List.mem_cons.mp h with rfl | h
    · exact h5
    · exact h
theorem gin_i {y : MethodName} {cc : ByteArray} {nL : Nat} {ret : Option FieldType} (h5 : Cond.code y cc nL ret ∈ wsL_law) : GoodIn wsL_law (wy y cc nL ret) := by
  intro w hw
  refine gin_law w ?_
  rcases List.mem_cons.mp hw with rfl | h
  · exact h5
  · exact h
/-- the entry of a walk -/
theorem ent {l : Launch} {y : MethodName} {cc : ByteArray} {nL : Nat} {ret : Option FieldType} {d mc ms : Nat} {As : List Value} {Pu : State → Prop} {Qc : Array Value → State → Outcome → State → Prop} {free : Addr → Prop} (hy : plainName y.cls = true) (hn : (lg_sl As).length ≤ nL)
    (body : ∀ (p : Program) (e : Env) (s : State) (m : MethodId) (below : List Frame) (meth : Method) (c : Code) (ls : Array Slot), p.tables.exec = Jvm.exec → c.code = cc → meth.sig.returnType = ret → c.maxLocals = nL → s.vm.findClass y.cls = some m.cls → (∀ w ∈ wsL_law, w.before As.toArray s = true) → meth.locks = false → meth.name = y.name → lv_has ls nL (lv_args 0 As) → Pu s → W p l e (rmL d mc ms) s m As.toArray below meth c s.heap [] 0 0 (MQ below Qc As.toArray s mc ms free) (F0 m 0 ls [])) :
    Met l y (wy y cc nL ret) (rmL d mc ms) (va_Pc As Pu) Qc mc ms free := by
  refine Met.ofW (cc := cc) (maxL := nL) (ret := ret) hy rfl ?_
  intro p e s m args below meth c s₁ B hml hv
  obtain ⟨rfl, hP⟩ := hv
  have hts0 := atoms_spec (ws := wy y cc nL ret) B.pre
  rw [lg_entry_eq]
  exact body p e s m below meth c _ B.exec B.bytes B.returns hml (findClass_of_methodNamed B.named) (fun w h => hts0 w (List.mem_cons_of_mem _ h)) B.notSynchronized (name_of_methodNamed B.named B.method).1 (lv_entry As hn) hP
/-- a method that only reads: the heap stays, its answer is ov -/
def Rd (l : Launch) (D : va_G) (tys : List (ClassId × FieldType)) (d : Nat) (y : MethodName) (cc : ByteArray) (nL : Nat) (ret : Option FieldType) (H : Heap) (As : List Value) (ov : Option Value) : Prop :=
  Met l y (wy y cc nL ret) (rmL d 0 0) (va_Pc As (fun U => U.heap = H ∧ va_K D vwCl tys U)) (fun _ st oc t => oc = .returned ov ∧ t.heap = st.heap) 0 0 (fun _ => False)
theorem rd_ent {l : Launch} {D : va_G} {tys : List (ClassId × FieldType)} {d : Nat} {y : MethodName} {cc : ByteArray} {nL : Nat} {ret : Option FieldType} {H : Heap} {As : List Value} {ov : Option Value} (hy : plainName y.cls = true) (hn : (lg_sl As).length ≤ nL)
    (body : ∀ (p : Program) (e : Env) (s : State) (m : MethodId) (below : List Frame) (meth : Method) (c : Code) (ls : Array Slot), p.tables.exec = Jvm.exec → c.code = cc → meth.sig.returnType = ret → c.maxLocals = nL → s.vm.findClass y.cls = some m.cls → (∀ w ∈ wsL_law, w.before As.toArray s = true) → meth.locks = false → lv_has ls nL (lv_args 0 As) → s.heap = H → va_K D vwCl tys s → W p l e (rmL d 0 0) s m As.toArray below meth c H [] 0 0 (MQ below (fun _ st oc t => oc = .returned ov ∧ t.heap = st.heap) As.toArray s 0 0 (fun _ => False)) (F0 m 0 ls [])) :
    Rd l D tys d y cc nL ret H As ov := by
  refine ent hy hn ?_
  intro p e s m below meth c ls hx hb hr hml hown hts hlocks _ hl hP
  obtain ⟨hH, hK⟩ := hP
  rw [hH]
  exact body p e s m below meth c ls hx hb hr hml hown hts hlocks hl hH hK
section RdCalls
variable {p : Program} {l : Launch} {e : Env} {R : Room} {s : State} {m : MethodId} {args : Array Value} {below : List Frame} {meth : Method} {c : Code} {H : Heap} {locs : List Loc} {cells slots : Nat} {Q : State → Prop} {cc cc' : ByteArray} {pc nL nL' : Nat} {ls : Array Slot} {rest st0 : List Value} {D : va_G} {tys : List (ClassId × FieldType)} {own C : String} {index d : Nat} {y : MethodName} {ret : Option FieldType} {As : List Value} {b : Addr} {ov : Option Value}
theorem rd_run {g : JFrame} {a : Array Value} (hr : va_Run p l e R s m args below meth c H locs cells slots 0 0 g rest ((fun (_ : Array Value) (st : State) (oc : Outcome) (t : State) => oc = .returned ov ∧ t.heap = st.heap) a) (fun _ => False)) (k : W p l e R s m args below meth c H locs cells slots Q { g with pc := g.pc + 3, stack := ov.toList ++ rest }) : W p l e R s m args below meth c H locs cells slots Q g := by
  intro T hT X
  obtain ⟨v, st₀, t, T', L, h0, X', hL, e1, e2, ⟨hv, hh⟩, st⟩ := hr T hT X
  cases hv
  have hL0 : L = [] := by
    cases L with
    | nil => rfl
    | cons q L => exact (hL q List.mem_cons_self).elim
  subst hL0
  rw [List.append_nil] at X'
  obtain ⟨t2, a1, b1⟩ := k T' (by rw [e1, hh, h0]) X'
  exact ⟨t2, st t2 a1, b1⟩
theorem rd_blind {As : List Value} : FrameBlind (va_Pc As (fun U => U.heap = H ∧ va_K D vwCl tys U)) := fun a U g mk q => by
  obtain ⟨q0, q1, qK⟩ := q
  exact ⟨q0, q1, va_K.moved (u := U) (U := U.calling g mk a) (Vm.Alike.refl U.vm) qK⟩
theorem rdV (S : CallFix p m c cc nL s args wsL_law own) (hK : va_K D vwCl tys s) (n : Nat) (hM : Rd l D tys d y cc' nL' ret H (.ref b :: As) ov) (hG : GoodIn wsL_law (wsV own index C y (wy y cc' nL' ret)))
    (hd : y.cls = C ∧ y.cls ≠ "java/lang/invoke/MethodHandle" ∧ y.cls ≠ "java/lang/invoke/VarHandle" ∧ (parseMethodDescriptor y.desc).map (fun d => d.parameters.length) = some n) (hR : d + 1 ≤ R.frames ∧ 8 + (nL' + 11) + 32 * d ≤ R.locals)
    (hrecv : ∃ cellB : Cell, H[b]? = some cellB ∧ cellB.vm.isStatics = false ∧ s.vm.findClass C = some cellB.cls) (hn : As.length = n) (hsize : ls.size = nL) (hst : st0 = As.reverse ++ .ref b :: rest) (hW : (rest.map fun v => v.category).sum ≤ 8) (hdg : decode cc pc = .ok (.invokevirtual index, 3)) (hf : cells ≤ R.cells ∧ slots ≤ R.slots)
    (k : W p l e R s m args below meth c H locs cells slots Q (F0 m (pc + 3) ls (ov.toList ++ rest))) : W p l e R s m args below meth c H locs cells slots Q (F0 m pc ls st0) :=
  rd_run (a := (Value.ref b :: As).toArray) (va_runV (g := F0 m pc ls st0) S hM (cwV n S.2.2.2.2 hG rfl rfl rfl hd hR) ⟨rd_blind, hrecv, fun _U hU hW => ⟨rfl, hU, va_K.moved hW.alike hK⟩⟩ rfl hn hsize hst (lv_room hW) hdg hf) k
theorem rdS (S : CallFix p m c cc nL s args wsL_law own) (hK : va_K D vwCl tys s) (n : Nat) (hM : Rd l D tys d y cc' nL' ret H As ov) (hG : GoodIn wsL_law (va_wsS own index y (wy y cc' nL' ret)))
    (hd : y.cls ≠ "java/lang/invoke/MethodHandle" ∧ y.cls ≠ "java/lang/invoke/VarHandle" ∧ (parseMethodDescriptor y.desc).map (fun d => d.parameters.length) = some n) (hR : d + 1 ≤ R.frames ∧ 8 + (nL' + 11) + 32 * d ≤ R.locals)
    (hn : As.length = n) (hsize : ls.size = nL) (hst : st0 = As.reverse ++ rest) (hW : (rest.map fun v => v.category).sum ≤ 8) (hdg : decode cc pc = .ok (.invokestatic index, 3)) (hf : cells ≤ R.cells ∧ slots ≤ R.slots)
    (k : W p l e R s m args below meth c H locs cells slots Q (F0 m (pc + 3) ls (ov.toList ++ rest))) : W p l e R s m args below meth c H locs cells slots Q (F0 m pc ls st0) :=
  rd_run (a := As.toArray) (va_runS (g := F0 m pc ls st0) S hM (va_cwS n S.2.2.2.2 hG rfl rfl rfl hd hR) ⟨rd_blind, fun _U hU hW => ⟨rfl, hU, va_K.moved hW.alike hK⟩⟩ rfl hn hsize hst (lv_room hW) hdg hf) k
/-- its end: an int (a boolean too), a long, nothing, a reference -/
theorem rd_iret {v : Int32} (hH : s.heap = H) (hx : p.tables.exec = Jvm.exec) (hb : c.code = cc) (hr : meth.sig.returnType = some .int) (hlocks : meth.locks = false) (hv : ov = some (.int v)) (hdg : decode cc pc = .ok (.ireturn, 1)) : W p l e R s m args below meth c H [] 0 0 (MQ below (fun _ st oc t => oc = .returned ov ∧ t.heap = st.heap) args s 0 0 (fun _ => False)) (F0 m pc ls [.int v]) := by
  subst hv
  exact W.iret (v := v) hx hb hr (fun t ht _ => ⟨rfl, ht.trans hH.symm⟩) (fun q hq => absurd hq List.not_mem_nil) hdg hlocks
theorem rd_zret {v : Int32} (hH : s.heap = H) (hx : p.tables.exec = Jvm.exec) (hb : c.code = cc) (hr : meth.sig.returnType = some .boolean) (hlocks : meth.locks = false) (hv : ov = some (.int v)) (h01 : narrow .boolean (.int v) = .int v) (hdg : decode cc pc = .ok (.ireturn, 1)) : W p l e R s m args below meth c H [] 0 0 (MQ below (fun _ st oc t => oc = .returned ov ∧ t.heap = st.heap) args s 0 0 (fun _ => False)) (F0 m pc ls [.int v]) := by
  subst hv
  exact W.zret (v := v) hx hb hr h01 (fun t ht _ => ⟨rfl, ht.trans hH.symm⟩) (fun q hq => absurd hq List.not_mem_nil) hdg hlocks
theorem rd_lret {v : Int64} (hH : s.heap = H) (hx : p.tables.exec = Jvm.exec) (hb : c.code = cc) (hr : meth.sig.returnType = some .long) (hlocks : meth.locks = false) (hv : ov = some (.long v)) (hdg : decode cc pc = .ok (.lreturn, 1)) : W p l e R s m args below meth c H [] 0 0 (MQ below (fun _ st oc t => oc = .returned ov ∧ t.heap = st.heap) args s 0 0 (fun _ => False)) (F0 m pc ls [.long v]) := by
  subst hv
  exact W.lret (v := v) hx hb hr (fun t ht _ => ⟨rfl, ht.trans hH.symm⟩) (fun q hq => absurd hq List.not_mem_nil) hdg hlocks
theorem rd_vret (hH : s.heap = H) (hx : p.tables.exec = Jvm.exec) (hb : c.code = cc) (hr : meth.sig.returnType = none) (hlocks : meth.locks = false) (hv : ov = none) (hdg : decode cc pc = .ok (.return_, 1)) : W p l e R s m args below meth c H [] 0 0 (MQ below (fun _ st oc t => oc = .returned ov ∧ t.heap = st.heap) args s 0 0 (fun _ => False)) (F0 m pc ls []) := by
  subst hv
  exact W.vret hx hb hr (fun t ht _ => ⟨rfl, ht.trans hH.symm⟩) (fun q hq => absurd hq List.not_mem_nil) hdg hlocks
theorem rd_aret {v : Value} {rt : FieldType} (hH : s.heap = H) (hx : p.tables.exec = Jvm.exec) (hb : c.code = cc) (hr : meth.sig.returnType = some rt) (hlocks : meth.locks = false) (hrt : (∃ n, rt = .object n) ∨ ∃ t, rt = .array t) (hv1 : v = .null ∨ ∃ a, v = .ref a) (hv : ov = some v) (hdg : decode cc pc = .ok (.areturn, 1)) : W p l e R s m args below meth c H [] 0 0 (MQ below (fun _ st oc t => oc = .returned ov ∧ t.heap = st.heap) args s 0 0 (fun _ => False)) (F0 m pc ls [v]) := by
  subst hv
  exact W.aret (v := v) hx hb hr hrt hv1 (fun t ht _ => ⟨rfl, ht.trans hH.symm⟩) (fun q hq => absurd hq List.not_mem_nil) hdg hlocks
theorem lv_rwi {x y : Int32} (h : x = y) (k : W p l e R s m args below meth c H locs cells slots Q (F0 m pc ls (.int y :: rest))) : W p l e R s m args below meth c H locs cells slots Q (F0 m pc ls (.int x :: rest)) := h ▸ k
theorem lv_rwl {x y : Int64} (h : x = y) (k : W p l e R s m args below meth c H locs cells slots Q (F0 m pc ls (.long y :: rest))) : W p l e R s m args below meth c H locs cells slots Q (F0 m pc ls (.long x :: rest)) := h ▸ k
theorem lv_rwv {x y : Value} (h : x = y) (k : W p l e R s m args below meth c H locs cells slots Q (F0 m pc ls (y :: rest))) : W p l e R s m args below meth c H locs cells slots Q (F0 m pc ls (x :: rest)) := h ▸ k
end RdCalls
