/-! a constructor of a nest mate; a writer that reads the script and makes one -/
def NW (U : State) : Prop := va_Nw (.methodLinkNest RL 65 yX3_init RL) U
section NestCalls
variable {p : Program} {l : Launch} {e : Env} {R : Room} {s : State} {m : MethodId} {args : Array Value} {below : List Frame} {meth : Method} {c : Code} {H : Heap} {locs : List Loc} {cells slots mc ms : Nat} {Q : State → Prop} {cc cc' : ByteArray} {pc nL nL' : Nat} {ls : Array Slot} {rest st0 : List Value} {D : va_G} {cs : Nat → ClassId} {own : String} {index d : Nat} {y : MethodName} {ret : Option FieldType} {As : List Value} {b0 : Addr} {b L : Nat} {xs : Nat → Int32} {ws : va_W} {A : Nat → Prop} {post : Option Value → va_W → Prop} {z mi : Nat}
theorem wtIN {host : String} (S : CallFix p m c cc nL s args wsL_law own) (hT : ST z mi A s s.heap) (hN : va_Nw (.methodLinkNest own index y host) s) (hK : va_K D vwCl (Ty cs) s) (n : Nat) (hM : Ws z mi l D cs d mc ms y cc' nL' none ws H (.ref b0 :: As) post) (h5 : Cond.code y cc' nL' none ∈ wsL_law) (h2 : Cond.instanceMethod y ∈ wsL_law) (h4 : Cond.initialized y.cls ∈ wsL_law) (hy1 : y.name = "<init>")
    (hd : y.cls ≠ "java/lang/invoke/MethodHandle" ∧ y.cls ≠ "java/lang/invoke/VarHandle" ∧ (parseMethodDescriptor y.desc).map (fun d => d.parameters.length) = some n) (hR : d + 1 ≤ R.frames ∧ 8 + (nL' + 11) + 32 * d ≤ R.locals)
    (hn : As.length = n) (hsize : ls.size = nL) (hst : st0 = As.reverse ++ .ref b0 :: rest) (hW : (rest.map fun v => v.category).sum ≤ 8) (hdg : decode cc pc = .ok (.invokespecial index, 3)) (hf : cells + mc ≤ R.cells ∧ slots + ms ≤ R.slots)
    (hD : va_D A ws) (hS : va_S A s.heap H locs) (hA : ∀ q, s.heap.size ≤ q → A q)
    (kk : ∀ (ov : Option Value) (w1 : va_W) (H1 : Heap) (locs1 : List Loc), post ov w1 → va_P D vwCl w1 H1 → va_D A w1 → va_S A s.heap H1 locs1 → W p l e R s m args below meth c H1 locs1 (cells + mc) (slots + ms) Q (F0 m (pc + 3) ls (ov.toList ++ rest))) : W p l e R s m args below meth c H locs cells slots Q (F0 m pc ls st0) :=
  wr_run (a := (Value.ref b0 :: As).toArray) (va_runIN (g := F0 m pc ls st0) (host := host) S hM ⟨va_cnB n S.2.2.2.2 (gin_i h5) rfl rfl rfl hN (S.2.2.2.2 _ h4) hd hR, hy1, S.2.2.2.2 _ h2⟩ ⟨ws_blind, fun _U hU hW => ⟨rfl, hU, va_K.moved hW.alike hK, hT.at hS hD hA hW.alike⟩⟩ rfl hn hsize hst (lv_room hW) hdg hf) hD hS hA kk
def Wv (b L : Nat) (xs : Nat → Int32) (z mi : Nat) (l : Launch) (D : va_G) (cs : Nat → ClassId) (d mc ms : Nat) (y : MethodName) (cc : ByteArray) (nL : Nat) (ret : Option FieldType) (ws : va_W) (H : Heap) (As : List Value) (post : Option Value → va_W → Prop) : Prop :=
  Met l y (wy y cc nL ret) (rmL d mc ms) (va_Pc As (fun U => U.heap = H ∧ va_K D vwCl (Ty cs) U ∧ ST z mi (va_A ws H.size) U H ∧ SR U ∧ NW U ∧ va_X b L xs U H ∧ b < H.size ∧ ¬ va_A ws H.size b)) (Wq D ws H.size post) mc ms (va_A ws H.size)
theorem wv_ent (hy : plainName y.cls = true) (hn : (lg_sl As).length ≤ nL) (hP : va_P D vwCl ws H) (hD : va_D (fun _ => True) ws)
    (body : ∀ (p : Program) (e : Env) (s : State) (m : MethodId) (below : List Frame) (meth : Method) (c : Code) (ls : Array Slot) (A : Nat → Prop) (Q : State → Prop) (H9 : Heap), p.tables.exec = Jvm.exec → c.code = cc → meth.sig.returnType = ret → c.maxLocals = nL → s.vm.findClass y.cls = some m.cls → (∀ w ∈ wsL_law, w.before As.toArray s = true) → meth.locks = false → lv_has ls nL (lv_args 0 As) → va_K D vwCl (Ty cs) s →
      (A = va_A ws s.heap.size ∧ Q = MQ below (Wq D ws s.heap.size post) As.toArray s mc ms A) → (∀ q : Nat, s.heap.size ≤ q → A q) → s.heap = H9 → ST z mi A s s.heap → SR s → NW s → va_X b L xs s s.heap → b < s.heap.size → ¬ A b → va_P D vwCl ws H9 → va_D A ws → va_S A s.heap H9 [] →
      W p l e (rmL d mc ms) s m As.toArray below meth c H9 [] 0 0 Q (F0 m 0 ls [])) :
    Wv b L xs z mi l D cs d mc ms y cc nL ret ws H As post := by
  refine ent hy hn ?_
  intro p e s m below meth c ls hx hb hr hml hown hts hlocks hin hl hPu
  obtain ⟨hH, hK, hT, hR, hN, hX, hbl, hbA⟩ := hPu
  subst hH
  exact body p e s m below meth c ls _ _ _ hx hb hr hml hown hts hlocks hl hK ⟨rfl, rfl⟩ (fun q h => Or.inr h) rfl hT hR hN hX hbl hbA hP hD.self va_S.rf
theorem wv_blind {B : Nat → Prop} : FrameBlind (va_Pc As (fun U => U.heap = H ∧ va_K D vwCl (Ty cs) U ∧ ST z mi B U H ∧ SR U ∧ NW U ∧ va_X b L xs U H ∧ b < H.size ∧ ¬ B b)) := fun a U g mk q => by
  obtain ⟨q0, q1, qK, qT, qR, qN, qX, q2, q3⟩ := q
  exact ⟨q0, q1, va_K.moved (u := U) (U := U.calling g mk a) (Vm.Alike.refl U.vm) qK, ST.moved (u := U) (U := U.calling g mk a) (Vm.Alike.refl U.vm) qT, SR.same (u := U) (U := U.calling g mk a) rfl qR, va_Nw.same (u := U) (U := U.calling g mk a) rfl rfl qN, va_X.moved (u := U) (U := U.calling g mk a) (Vm.Alike.refl U.vm) qX, q2, q3⟩
theorem wvS (S : CallFix p m c cc nL s args wsL_law own) (hT : ST z mi A s s.heap) (hR : SR s) (hN : NW s) (hK : va_K D vwCl (Ty cs) s) (hX : va_X b L xs s s.heap) (hbl : b < s.heap.size) (hbA : ¬ A b) (n : Nat) (hM : Wv b L xs z mi l D cs d mc ms y cc' nL' ret ws H As post) (hG : GoodIn wsL_law (va_wsS own index y (wy y cc' nL' ret)))
    (hd : y.cls ≠ "java/lang/invoke/MethodHandle" ∧ y.cls ≠ "java/lang/invoke/VarHandle" ∧ (parseMethodDescriptor y.desc).map (fun d => d.parameters.length) = some n) (hRm : d + 1 ≤ R.frames ∧ 8 + (nL' + 11) + 32 * d ≤ R.locals)
    (hn : As.length = n) (hsize : ls.size = nL) (hst : st0 = As.reverse ++ rest) (hW : (rest.map fun v => v.category).sum ≤ 8) (hdg : decode cc pc = .ok (.invokestatic index, 3)) (hf : cells + mc ≤ R.cells ∧ slots + ms ≤ R.slots)
    (hD : va_D A ws) (hS : va_S A s.heap H locs) (hA : ∀ q, s.heap.size ≤ q → A q)
    (kk : ∀ (ov : Option Value) (w1 : va_W) (H1 : Heap) (locs1 : List Loc), post ov w1 → va_P D vwCl w1 H1 → va_D A w1 → va_S A s.heap H1 locs1 → W p l e R s m args below meth c H1 locs1 (cells + mc) (slots + ms) Q (F0 m (pc + 3) ls (ov.toList ++ rest))) : W p l e R s m args below meth c H locs cells slots Q (F0 m pc ls st0) :=
  have hbB : ¬ va_A ws H.size b := fun q => by
    rcases q with ⟨k, e9, hk⟩ | q
    · exact hbA (hD.2 k (b, e9) hk)
    · exact absurd (Nat.lt_of_lt_of_le hbl hS.1) (Nat.not_lt.mpr q)
  wr_run (a := As.toArray) (va_runS (g := F0 m pc ls st0) S hM (va_cwS n S.2.2.2.2 hG rfl rfl rfl hd hRm) ⟨wv_blind, fun _U hU hW => ⟨rfl, hU, va_K.moved hW.alike hK, hT.at hS hD hA hW.alike, hR.warm hW, va_Nw.warmM hW hN, va_X.moved hW.alike (hX.kept (hS.2.1 b hbl hbA)), Nat.lt_of_lt_of_le hbl hS.1, hbB⟩⟩ rfl hn hsize hst (lv_room hW) hdg hf) hD hS hA kk
end NestCalls
