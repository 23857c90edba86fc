/-! what stays as it was at the start: static fields, mirrors, words of the tables that no list of good words holds; contracts of methods that use them -/
abbrev xIAE : String := "java/lang/IllegalArgumentException"
abbrev xISE : String := "java/lang/IllegalStateException"
abbrev xIOB : String := "java/lang/IndexOutOfBoundsException"
abbrev xNS : List String := ["java/lang/RuntimeException", "java/lang/Exception"]
def cdL : List Cond := (vx_atS RX2 42 xIAE xNS ++ vx_atS RX2 53 xISE xNS ++ vx_atS RX2 258 xIOB xNS).filter (fun w => !goodWord w) ++ [.castable RX1 "java/lang/Object", .castable xIAE xIAE, .castable xISE xISE, .castable xIOB xIOB, .declares ⟨"java/lang/Object", "getClass", "()Ljava/lang/Class;"⟩]
def cnL : List (String × String) := [(xIAE, xISE), (xIOB, xISE)]
def cdW (w : Cond) : Bool := match w with
  | .castable _ _ => true
  | .declares _ => true
  | _ => false
theorem cdL_ok : cdL.all cdW = true := by decide +kernel
theorem cd_moved {w : Cond} (h : cdW w = true) {u U : State} (hvm : u.vm.Alike U.vm) (hw : va_Nw w u) : va_Nw w U := by
  cases w with
  | castable C T => exact va_tabs rfl (rfl : (u.setVm U.vm).vm = U.vm) (by rw [Cond.castable_setVm hvm]; exact hw)
  | declares x => exact va_tabs rfl (rfl : (u.setVm U.vm).vm = U.vm) (by rw [Cond.declares_setVm hvm]; exact hw)
  | _ => exact absurd h (by simp [cdW])
abbrev sAL : String := "java/util/ArrayList"
abbrev sDE : String := "DEFAULTCAPACITY_EMPTY_ELEMENTDATA"
abbrev sOA : String := "[Ljava/lang/Object;"
def ST (z mi : Nat) (A : Nat → Prop) (U : State) (H : Heap) : Prop :=
  va_Z sAL sDE sOA (.ref z) A U H ∧ va_T (.object "java/lang/Object") z 0 (fun _ => .null) A U H ∧ va_Mi sOA mi U ∧ (va_AO "java/lang/Object" U ∧ va_AOA .int U) ∧ vx_Zq Bundle.tN "UNASSIGNED_STACK" Bundle.steD A U H ∧ vx_Zq Bundle.tN "SUPPRESSED_SENTINEL" Bundle.listD A U H ∧ (∀ w ∈ cdL, va_Nw w U) ∧ ∀ q ∈ cnL, va_Nc q.1 q.2 U
theorem ST.moved {z mi : Nat} {A : Nat → Prop} {u U : State} {H : Heap} (hvm : u.vm.Alike U.vm) (h : ST z mi A u H) : ST z mi A U H := by
  obtain ⟨a, b, c, d, e, f, g, i⟩ := h
  exact ⟨a.moved hvm, b.moved hvm, c.moved hvm, ⟨d.1.moved hvm, d.2.moved hvm⟩, e.moved hvm, f.moved hvm, fun w hw => cd_moved (List.all_eq_true.mp cdL_ok w hw) hvm (g w hw), fun q hq => (i q hq).moved hvm⟩
theorem ST.kept {z mi : Nat} {A : Nat → Prop} {U : State} {H H1 : Heap} (h : ST z mi A U H) (hq : ∀ a : Nat, a < H.size → ¬ A a → H1[a]? = H[a]?) : ST z mi A U H1 := by
  obtain ⟨a, b, c, d, e, f, g, i⟩ := h
  exact ⟨a.kept hq, b.kept hq, c, d, e.kept hq, f.kept hq, g, i⟩
theorem ST.narrow {z mi : Nat} {A B : Nat → Prop} {U : State} {H : Heap} (h : ST z mi A U H) (hAB : ∀ q, B q → A q) : ST z mi B U H := by
  obtain ⟨a, b, c, d, e, f, g, i⟩ := h
  exact ⟨a.narrow hAB, b.narrow hAB, c, d, e.narrow hAB, f.narrow hAB, g, i⟩
theorem ST.at {z mi : Nat} {A : Nat → Prop} {s U : State} {H : Heap} {locs : List Loc} {ws : va_W} (h : ST z mi A s s.heap) (hS : va_S A s.heap H locs) (hD : va_D A ws) (hA : ∀ q, s.heap.size ≤ q → A q) (hvm : s.vm.Alike U.vm) : ST z mi (va_A ws H.size) U H := by
  refine ((h.kept hS.2.1).narrow (fun q hq => ?_)).moved hvm
  rcases hq with ⟨k, e, hk⟩ | hq
  · exact hD.2 k (q, e) hk
  · exact hA q (Nat.le_trans hS.1 hq)
/-- a writer's contract, the start's facts besides -/
def Ws (z mi : Nat) (l : Launch) (D : va_G) (cs : Nat → ClassId) (d mc ms : Nat) (y : MethodName) (cc : ByteArray) (nL : Nat) (ret : Option FieldType) (ws : va_W) (H : Heap) (As : List Value) (post : Option Value → va_W → Prop) : Prop :=
  Met l y (wy y cc nL ret) (rmL d mc ms) (va_Pc As (fun U => U.heap = H ∧ va_K D vwCl (Ty cs) U ∧ ST z mi (va_A ws H.size) U H)) (Wq D ws H.size post) mc ms (va_A ws H.size)
theorem ws_ent {z mi : Nat} {l : Launch} {D : va_G} {cs : Nat → ClassId} {d mc ms : Nat} {y : MethodName} {cc : ByteArray} {nL : Nat} {ret : Option FieldType} {ws : va_W} {H : Heap} {As : List Value} {post : Option Value → va_W → Prop} (hy : plainName y.cls = true) (hn : (lg_sl As).length ≤ nL) (hP : va_P D vwCl ws H) (hD : va_D (fun _ => True) ws)
    (body : ∀ (p : Program) (e : Env) (s : State) (m : MethodId) (below : List Frame) (meth : Method) (c : Code) (ls : Array Slot) (A : Nat → Prop) (Q : State → Prop) (H9 : Heap), p.tables.exec = Jvm.exec → c.code = cc → meth.sig.returnType = ret → c.maxLocals = nL → s.vm.findClass y.cls = some m.cls → (∀ w ∈ wsL_law, w.before As.toArray s = true) → meth.locks = false → meth.name = y.name → lv_has ls nL (lv_args 0 As) → va_K D vwCl (Ty cs) s →
      (A = va_A ws s.heap.size ∧ Q = MQ below (Wq D ws s.heap.size post) As.toArray s mc ms A) → (∀ q : Nat, s.heap.size ≤ q → A q) → s.heap = H9 → ST z mi A s s.heap → va_P D vwCl ws H9 → va_D A ws → va_S A s.heap H9 [] →
      W p l e (rmL d mc ms) s m As.toArray below meth c H9 [] 0 0 Q (F0 m 0 ls [])) :
    Ws z mi l D cs d mc ms y cc nL ret ws H As post := by
  refine ent hy hn ?_
  intro p e s m below meth c ls hx hb hr hml hown hts hlocks hin hl hPu
  obtain ⟨hH, hK, hT⟩ := hPu
  subst hH
  exact body p e s m below meth c ls _ _ _ hx hb hr hml hown hts hlocks hin hl hK ⟨rfl, rfl⟩ (fun q h => Or.inr h) rfl hT hP hD.self va_S.rf
section WsCalls
variable {p : Program} {l : Launch} {e : Env} {R : Room} {s : State} {m : MethodId} {args : Array Value} {below : List Frame} {meth : Method} {c : Code} {H : Heap} {locs : List Loc} {cells slots mc ms : Nat} {Q : State → Prop} {cc cc' : ByteArray} {pc nL nL' : Nat} {ls : Array Slot} {rest st0 : List Value} {D : va_G} {cs : Nat → ClassId} {own C : String} {index d : Nat} {y : MethodName} {ret : Option FieldType} {As : List Value} {b : Addr} {ws : va_W} {A : Nat → Prop} {post : Option Value → va_W → Prop} {z mi : Nat}
theorem ws_blind {As : List Value} {B : Nat → Prop} : FrameBlind (va_Pc As (fun U => U.heap = H ∧ va_K D vwCl (Ty cs) U ∧ ST z mi B U H)) := fun a U g mk q => by
  obtain ⟨q0, q1, qK, qT⟩ := q
  exact ⟨q0, q1, va_K.moved (u := U) (U := U.calling g mk a) (Vm.Alike.refl U.vm) qK, ST.moved (u := U) (U := U.calling g mk a) (Vm.Alike.refl U.vm) qT⟩
theorem wtV (S : CallFix p m c cc nL s args wsL_law own) (hT : ST z mi A s s.heap) (hK : va_K D vwCl (Ty cs) s) (n : Nat) (hM : Ws z mi l D cs d mc ms y cc' nL' ret ws H (.ref b :: As) post) (hG : GoodIn wsL_law (wsV own index C y (wy y cc' nL' ret)))
    (hd : y.cls = C ∧ y.cls ≠ "java/lang/invoke/MethodHandle" ∧ y.cls ≠ "java/lang/invoke/VarHandle" ∧ (parseMethodDescriptor y.desc).map (fun d => d.parameters.length) = some n) (hR : d + 1 ≤ R.frames ∧ 8 + (nL' + 11) + 32 * d ≤ R.locals)
    (hrecv : ∃ cellB : Cell, H[b]? = some cellB ∧ cellB.vm.isStatics = false ∧ s.vm.findClass C = some cellB.cls) (hn : As.length = n) (hsize : ls.size = nL) (hst : st0 = As.reverse ++ .ref b :: rest) (hW : (rest.map fun v => v.category).sum ≤ 8) (hdg : decode cc pc = .ok (.invokevirtual index, 3)) (hf : cells + mc ≤ R.cells ∧ slots + ms ≤ R.slots)
    (hD : va_D A ws) (hS : va_S A s.heap H locs) (hA : ∀ q, s.heap.size ≤ q → A q)
    (kk : ∀ (ov : Option Value) (w1 : va_W) (H1 : Heap) (locs1 : List Loc), post ov w1 → va_P D vwCl w1 H1 → va_D A w1 → va_S A s.heap H1 locs1 → W p l e R s m args below meth c H1 locs1 (cells + mc) (slots + ms) Q (F0 m (pc + 3) ls (ov.toList ++ rest))) : W p l e R s m args below meth c H locs cells slots Q (F0 m pc ls st0) :=
  wr_run (a := (Value.ref b :: As).toArray) (va_runV (g := F0 m pc ls st0) S hM (cwV n S.2.2.2.2 hG rfl rfl rfl hd hR) ⟨ws_blind, hrecv, fun _U hU hW => ⟨rfl, hU, va_K.moved hW.alike hK, hT.at hS hD hA hW.alike⟩⟩ rfl hn hsize hst (lv_room hW) hdg hf) hD hS hA kk
theorem wtI (S : CallFix p m c cc nL s args wsL_law own) (hT : ST z mi A s s.heap) (hK : va_K D vwCl (Ty cs) s) (n : Nat) (hM : Ws z mi l D cs d mc ms y cc' nL' none ws H (.ref b :: As) post) (h5 : Cond.code y cc' nL' none ∈ wsL_law) (h1 : Cond.methodLink own index y ∈ wsL_law) (h2 : Cond.instanceMethod y ∈ wsL_law) (h4 : Cond.initialized y.cls ∈ wsL_law) (hy1 : y.name = "<init>")
    (hd : y.cls ≠ "java/lang/invoke/MethodHandle" ∧ y.cls ≠ "java/lang/invoke/VarHandle" ∧ (parseMethodDescriptor y.desc).map (fun d => d.parameters.length) = some n) (hR : d + 1 ≤ R.frames ∧ 8 + (nL' + 11) + 32 * d ≤ R.locals)
    (hn : As.length = n) (hsize : ls.size = nL) (hst : st0 = As.reverse ++ .ref b :: rest) (hW : (rest.map fun v => v.category).sum ≤ 8) (hdg : decode cc pc = .ok (.invokespecial index, 3)) (hf : cells + mc ≤ R.cells ∧ slots + ms ≤ R.slots)
    (hD : va_D A ws) (hS : va_S A s.heap H locs) (hA : ∀ q, s.heap.size ≤ q → A q)
    (kk : ∀ (ov : Option Value) (w1 : va_W) (H1 : Heap) (locs1 : List Loc), post ov w1 → va_P D vwCl w1 H1 → va_D A w1 → va_S A s.heap H1 locs1 → W p l e R s m args below meth c H1 locs1 (cells + mc) (slots + ms) Q (F0 m (pc + 3) ls (ov.toList ++ rest))) : W p l e R s m args below meth c H locs cells slots Q (F0 m pc ls st0) :=
  wr_run (a := (Value.ref b :: As).toArray) (va_runI (g := F0 m pc ls st0) S hM (cwI n S.2.2.2.2 (gin_i h5) rfl rfl rfl (S.2.2.2.2 _ h4) (S.2.2.2.2 _ h1) (S.2.2.2.2 _ h2) hy1 hd hR) ⟨ws_blind, fun _U hU hW => ⟨rfl, hU, va_K.moved hW.alike hK, hT.at hS hD hA hW.alike⟩⟩ rfl hn hsize hst (lv_room hW) hdg hf) hD hS hA kk
theorem wtS (S : CallFix p m c cc nL s args wsL_law own) (hT : ST z mi A s s.heap) (hK : va_K D vwCl (Ty cs) s) (n : Nat) (hM : Ws z mi l D cs d mc ms y cc' nL' ret ws H As post) (hG : GoodIn wsL_law (va_wsS own index y (wy y cc' nL' ret)))
    (hd : y.cls ≠ "java/lang/invoke/MethodHandle" ∧ y.cls ≠ "java/lang/invoke/VarHandle" ∧ (parseMethodDescriptor y.desc).map (fun d => d.parameters.length) = some n) (hR : d + 1 ≤ R.frames ∧ 8 + (nL' + 11) + 32 * d ≤ R.locals)
    (hn : As.length = n) (hsize : ls.size = nL) (hst : st0 = As.reverse ++ rest) (hW : (rest.map fun v => v.category).sum ≤ 8) (hdg : decode cc pc = .ok (.invokestatic index, 3)) (hf : cells + mc ≤ R.cells ∧ slots + ms ≤ R.slots)
    (hD : va_D A ws) (hS : va_S A s.heap H locs) (hA : ∀ q, s.heap.size ≤ q → A q)
    (kk : ∀ (ov : Option Value) (w1 : va_W) (H1 : Heap) (locs1 : List Loc), post ov w1 → va_P D vwCl w1 H1 → va_D A w1 → va_S A s.heap H1 locs1 → W p l e R s m args below meth c H1 locs1 (cells + mc) (slots + ms) Q (F0 m (pc + 3) ls (ov.toList ++ rest))) : W p l e R s m args below meth c H locs cells slots Q (F0 m pc ls st0) :=
  wr_run (a := As.toArray) (va_runS (g := F0 m pc ls st0) S hM (va_cwS n S.2.2.2.2 hG rfl rfl rfl hd hR) ⟨ws_blind, fun _U hU hW => ⟨rfl, hU, va_K.moved hW.alike hK, hT.at hS hD hA hW.alike⟩⟩ rfl hn hsize hst (lv_room hW) hdg hf) hD hS hA kk
end WsCalls
