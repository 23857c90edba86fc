/-! methods that write: the world behind them, the frame, the call -/
def Wq (D : va_G) (ws : va_W) (n0 : Nat) (post : Option Value → va_W → Prop) : Array Value → State → Outcome → State → Prop := fun _ st oc t =>
  (∃ (ov : Option Value) (w1 : va_W), oc = .returned ov ∧ post ov w1 ∧ va_P D vwCl w1 t.heap ∧ va_D (va_A ws n0) w1) ∧ va_F (va_A ws n0) st t
def Wr (l : Launch) (D : va_G) (cs : Nat → ClassId) (d mc ms : Nat) (y : MethodName) (cc : ByteArray) (nL : Nat) (ret : Option FieldType) (ws : va_W) (H : Heap) (As : List Value) (post : Option Value → va_W → Prop) : Prop :=
  Met l y (wy y cc nL ret) (rmL d mc ms) (va_Pc As (fun U => U.heap = H ∧ va_K D vwCl (Ty cs) U)) (Wq D ws H.size post) mc ms (va_A ws H.size)
theorem wr_ent {l : Launch} {D : va_G} {cs : Nat → ClassId} {d mc ms : Nat} {y : MethodName} {cc : ByteArray} {nL : Nat} {ret : Option FieldType} {ws : va_W} {H : Heap} {As : List Value} {post : Option Value → va_W → Prop} (hy : plainName y.cls = true) (hn : (lg_sl As).length ≤ nL) (hP : va_P D vwCl ws H) (hD : va_D (fun _ => True) ws)
    (body : ∀ (p : Program) (e : Env) (s : State) (m : MethodId) (below : List Frame) (meth : Method) (c : Code) (ls : Array Slot) (A : Nat → Prop) (Q : State → Prop) (H9 : Heap), p.tables.exec = Jvm.exec → c.code = cc → meth.sig.returnType = ret → c.maxLocals = nL → s.vm.findClass y.cls = some m.cls → (∀ w ∈ wsL_law, w.before As.toArray s = true) → meth.locks = false → meth.name = y.name → lv_has ls nL (lv_args 0 As) → va_K D vwCl (Ty cs) s →
      (A = va_A ws s.heap.size ∧ Q = MQ below (Wq D ws s.heap.size post) As.toArray s mc ms A) → (∀ q : Nat, s.heap.size ≤ q → A q) → s.heap = H9 → va_P D vwCl ws H9 → va_D A ws → va_S A s.heap H9 [] →
      W p l e (rmL d mc ms) s m As.toArray below meth c H9 [] 0 0 Q (F0 m 0 ls [])) :
    Wr l D cs d mc ms y cc nL ret ws H As post := by
  refine ent hy hn ?_
  intro p e s m below meth c ls hx hb hr hml hown hts hlocks hin hl hPu
  obtain ⟨hH, hK⟩ := hPu
  subst hH
  exact body p e s m below meth c ls _ _ _ hx hb hr hml hown hts hlocks hin hl hK ⟨rfl, rfl⟩ (fun q h => Or.inr h) rfl hP hD.self va_S.rf
section WrCalls
variable {p : Program} {l : Launch} {e : Env} {R : Room} {s : State} {m : MethodId} {args : Array Value} {below : List Frame} {meth : Method} {c : Code} {H H0 : Heap} {locs : List Loc} {cells slots mc ms : Nat} {Q : State → Prop} {cc cc' : ByteArray} {pc nL nL' : Nat} {ls : Array Slot} {rest st0 : List Value} {D : va_G} {cs : Nat → ClassId} {own C : String} {index d : Nat} {y : MethodName} {ret : Option FieldType} {As : List Value} {b : Addr} {ws : va_W} {A : Nat → Prop} {post : Option Value → va_W → Prop}
theorem wr_run {g : JFrame} {a : Array Value} (hr : va_Run p l e R s m args below meth c H locs cells slots mc ms g rest ((Wq D ws H.size post) a) (va_A ws H.size)) (hD : va_D A ws) (hS : va_S A H0 H locs) (hA : ∀ q, H0.size ≤ q → A q)
    (kk : ∀ (ov : Option Value) (w1 : va_W) (H1 : Heap) (locs1 : List Loc), post ov w1 → va_P D vwCl w1 H1 → va_D A w1 → va_S A H0 H1 locs1 → W p l e R s m args below meth c H1 locs1 (cells + mc) (slots + ms) Q { g with pc := g.pc + 3, stack := ov.toList ++ rest }) : W p l e R s m args below meth c H locs cells slots Q g := by
  intro T hT X
  have hFA : ∀ q, va_A ws H.size q → A q := by
    intro q h
    rcases h with ⟨k, e, h⟩ | h
    · exact hD.2 k (q, e) h
    · exact hA q (Nat.le_trans hS.1 h)
  obtain ⟨v, st₀, t, T', L, h0, X', hL, e1, e2, ⟨⟨ov, w1, hv, hp, hP1, hD1⟩, hz, hk⟩, st⟩ := hr T hT X
  cases hv
  rw [h0] at hz hk
  obtain ⟨t2, a1, b1⟩ := kk _ w1 T'.heap (locs ++ L) hp (by rw [e1]; exact hP1) (hD1.weaken (fun k q hq hw => hFA _ hw))
    ⟨Nat.le_trans hS.1 (by rw [e1]; exact hz), fun q h1 h2 => by rw [e1, hk q (Nat.lt_of_lt_of_le h1 hS.1) (fun z => h2 (hFA q z))]; exact hS.2.1 q h1 h2, fun q hq => by
      rcases List.mem_append.mp hq with h | h
      · exact hS.2.2 q h
      · exact hFA _ (hL q h)⟩ T' rfl X'
  exact ⟨t2, st t2 a1, b1⟩
theorem wrV (S : CallFix p m c cc nL s args wsL_law own) (hK : va_K D vwCl (Ty cs) s) (n : Nat) (hM : Wr l D cs d mc ms y cc' nL' ret ws H (.ref b :: As) post) (hG : GoodIn wsL_law (wsV own index C y (wy y cc' nL' ret)))
    (hd : y.cls = C ∧ y.cls ≠ "java/lang/invoke/MethodHandle" ∧ y.cls ≠ "java/lang/invoke/VarHandle" ∧ (parseMethodDescriptor y.desc).map (fun d => d.parameters.length) = some n) (hR : d + 1 ≤ R.frames ∧ 8 + (nL' + 11) + 32 * d ≤ R.locals)
    (hrecv : ∃ cellB : Cell, H[b]? = some cellB ∧ cellB.vm.isStatics = false ∧ s.vm.findClass C = some cellB.cls) (hn : As.length = n) (hsize : ls.size = nL) (hst : st0 = As.reverse ++ .ref b :: rest) (hW : (rest.map fun v => v.category).sum ≤ 8) (hdg : decode cc pc = .ok (.invokevirtual index, 3)) (hf : cells + mc ≤ R.cells ∧ slots + ms ≤ R.slots)
    (hD : va_D A ws) (hS : va_S A H0 H locs) (hA : ∀ q, H0.size ≤ q → A q)
    (kk : ∀ (ov : Option Value) (w1 : va_W) (H1 : Heap) (locs1 : List Loc), post ov w1 → va_P D vwCl w1 H1 → va_D A w1 → va_S A H0 H1 locs1 → W p l e R s m args below meth c H1 locs1 (cells + mc) (slots + ms) Q (F0 m (pc + 3) ls (ov.toList ++ rest))) : W p l e R s m args below meth c H locs cells slots Q (F0 m pc ls st0) :=
  wr_run (a := (Value.ref b :: As).toArray) (va_runV (g := F0 m pc ls st0) S hM (cwV n S.2.2.2.2 hG rfl rfl rfl hd hR) ⟨rd_blind, hrecv, fun _U hU hW => ⟨rfl, hU, va_K.moved hW.alike hK⟩⟩ rfl hn hsize hst (lv_room hW) hdg hf) hD hS hA kk
theorem wrI (S : CallFix p m c cc nL s args wsL_law own) (hK : va_K D vwCl (Ty cs) s) (n : Nat) (hM : Wr l D cs d mc ms y cc' nL' none ws H (.ref b :: As) post) (h5 : Cond.code y cc' nL' none ∈ wsL_law) (h1 : Cond.methodLink own index y ∈ wsL_law) (h2 : Cond.instanceMethod y ∈ wsL_law) (h4 : Cond.initialized y.cls ∈ wsL_law) (hy1 : y.name = "<init>")
    (hd : y.cls ≠ "java/lang/invoke/MethodHandle" ∧ y.cls ≠ "java/lang/invoke/VarHandle" ∧ (parseMethodDescriptor y.desc).map (fun d => d.parameters.length) = some n) (hR : d + 1 ≤ R.frames ∧ 8 + (nL' + 11) + 32 * d ≤ R.locals)
    (hn : As.length = n) (hsize : ls.size = nL) (hst : st0 = As.reverse ++ .ref b :: rest) (hW : (rest.map fun v => v.category).sum ≤ 8) (hdg : decode cc pc = .ok (.invokespecial index, 3)) (hf : cells + mc ≤ R.cells ∧ slots + ms ≤ R.slots)
    (hD : va_D A ws) (hS : va_S A H0 H locs) (hA : ∀ q, H0.size ≤ q → A q)
    (kk : ∀ (ov : Option Value) (w1 : va_W) (H1 : Heap) (locs1 : List Loc), post ov w1 → va_P D vwCl w1 H1 → va_D A w1 → va_S A H0 H1 locs1 → W p l e R s m args below meth c H1 locs1 (cells + mc) (slots + ms) Q (F0 m (pc + 3) ls (ov.toList ++ rest))) : W p l e R s m args below meth c H locs cells slots Q (F0 m pc ls st0) :=
  wr_run (a := (Value.ref b :: As).toArray) (va_runI (g := F0 m pc ls st0) S hM (cwI n S.2.2.2.2 (gin_i h5) rfl rfl rfl (S.2.2.2.2 _ h4) (S.2.2.2.2 _ h1) (S.2.2.2.2 _ h2) hy1 hd hR) ⟨rd_blind, fun _U hU hW => ⟨rfl, hU, va_K.moved hW.alike hK⟩⟩ rfl hn hsize hst (lv_room hW) hdg hf) hD hS hA kk
/-- its ends -/
theorem wr_end {n0 : Nat} {w1 : va_W} {ov : Option Value} {t : State} (hp : post ov w1) (hP : va_P D vwCl w1 H) (hD : va_D (va_A ws n0) w1) (hS : va_S (va_A ws n0) s.heap H locs) (ht : t.heap = H) : Wq D ws n0 post args s (.returned ov) t :=
  ⟨⟨ov, w1, rfl, hp, by rw [ht]; exact hP, hD⟩, hS.F ht⟩
theorem wr_iret {n0 : Nat} {w1 : va_W} {v : Int32} (hQ : A = va_A ws n0 ∧ Q = MQ below (Wq D ws n0 post) args s cells slots A) (hx : p.tables.exec = Jvm.exec) (hb : c.code = cc) (hr : meth.sig.returnType = some .int) (hlocks : meth.locks = false) (hP : va_P D vwCl w1 H) (hD : va_D A w1) (hS : va_S A s.heap H locs) (hp : post (some (.int v)) w1) (hdg : decode cc pc = .ok (.ireturn, 1)) : W p l e R s m args below meth c H locs cells slots Q (F0 m pc ls [.int v]) := by
  obtain ⟨rfl, rfl⟩ := hQ
  exact W.iret (v := v) hx hb hr (fun t ht _ => wr_end hp hP hD hS ht) hS.2.2 hdg hlocks
theorem wr_zret {n0 : Nat} {w1 : va_W} {v : Int32} (hQ : A = va_A ws n0 ∧ Q = MQ below (Wq D ws n0 post) args s cells slots A) (hx : p.tables.exec = Jvm.exec) (hb : c.code = cc) (hr : meth.sig.returnType = some .boolean) (hlocks : meth.locks = false) (hP : va_P D vwCl w1 H) (hD : va_D A w1) (hS : va_S A s.heap H locs) (hp : post (some (.int v)) w1) (h01 : narrow .boolean (.int v) = .int v) (hdg : decode cc pc = .ok (.ireturn, 1)) : W p l e R s m args below meth c H locs cells slots Q (F0 m pc ls [.int v]) := by
  obtain ⟨rfl, rfl⟩ := hQ
  exact W.zret (v := v) hx hb hr h01 (fun t ht _ => wr_end hp hP hD hS ht) hS.2.2 hdg hlocks
theorem wr_lret {n0 : Nat} {w1 : va_W} {v : Int64} (hQ : A = va_A ws n0 ∧ Q = MQ below (Wq D ws n0 post) args s cells slots A) (hx : p.tables.exec = Jvm.exec) (hb : c.code = cc) (hr : meth.sig.returnType = some .long) (hlocks : meth.locks = false) (hP : va_P D vwCl w1 H) (hD : va_D A w1) (hS : va_S A s.heap H locs) (hp : post (some (.long v)) w1) (hdg : decode cc pc = .ok (.lreturn, 1)) : W p l e R s m args below meth c H locs cells slots Q (F0 m pc ls [.long v]) := by
  obtain ⟨rfl, rfl⟩ := hQ
  exact W.lret (v := v) hx hb hr (fun t ht _ => wr_end hp hP hD hS ht) hS.2.2 hdg hlocks
theorem wr_dret {n0 : Nat} {w1 : va_W} {v : UInt64} (hQ : A = va_A ws n0 ∧ Q = MQ below (Wq D ws n0 post) args s cells slots A) (hx : p.tables.exec = Jvm.exec) (hb : c.code = cc) (hr : meth.sig.returnType = some .double) (hlocks : meth.locks = false) (hP : va_P D vwCl w1 H) (hD : va_D A w1) (hS : va_S A s.heap H locs) (hp : post (some (.double v)) w1) (hdg : decode cc pc = .ok (.dreturn, 1)) : W p l e R s m args below meth c H locs cells slots Q (F0 m pc ls [.double v]) := by
  obtain ⟨rfl, rfl⟩ := hQ
  exact W.dret (v := v) hx hb hr (fun t ht _ => wr_end hp hP hD hS ht) hS.2.2 hdg hlocks
theorem wr_aret {n0 : Nat} {w1 : va_W} {v : Value} {rt : FieldType} (hQ : A = va_A ws n0 ∧ Q = MQ below (Wq D ws n0 post) args s cells slots A) (hx : p.tables.exec = Jvm.exec) (hb : c.code = cc) (hr : meth.sig.returnType = some rt) (hlocks : meth.locks = false) (hrt : (∃ n, rt = .object n) ∨ ∃ t, rt = .array t) (hv1 : v = .null ∨ ∃ a, v = .ref a) (hP : va_P D vwCl w1 H) (hD : va_D A w1) (hS : va_S A s.heap H locs) (hp : post (some v) w1) (hdg : decode cc pc = .ok (.areturn, 1)) : W p l e R s m args below meth c H locs cells slots Q (F0 m pc ls [v]) := by
  obtain ⟨rfl, rfl⟩ := hQ
  exact W.aret (v := v) hx hb hr hrt hv1 (fun t ht _ => wr_end hp hP hD hS ht) hS.2.2 hdg hlocks
theorem wr_vret {n0 : Nat} {w1 : va_W} (hQ : A = va_A ws n0 ∧ Q = MQ below (Wq D ws n0 post) args s cells slots A) (hx : p.tables.exec = Jvm.exec) (hb : c.code = cc) (hr : meth.sig.returnType = none) (hlocks : meth.locks = false) (hP : va_P D vwCl w1 H) (hD : va_D A w1) (hS : va_S A s.heap H locs) (hp : post none w1) (hdg : decode cc pc = .ok (.return_, 1)) : W p l e R s m args below meth c H locs cells slots Q (F0 m pc ls []) := by
  obtain ⟨rfl, rfl⟩ := hQ
  exact W.vret hx hb hr (fun t ht _ => wr_end hp hP hD hS ht) hS.2.2 hdg hlocks
end WrCalls
