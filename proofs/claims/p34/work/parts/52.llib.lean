/-! the script; the law's small words; orders of a world's blocks -/
def blw (v : Int32) (n : Nat) : Nat := v.toBitVec.toNat % 2 ^ 31 % n
theorem blw_lt (v : Int32) {n : Nat} (h : 1 ≤ n) : blw v n < n := Nat.mod_lt _ h
def cellw (xs : Nat → Int32) (L k : Nat) : Int32 := if k < L then xs k else 790386105 * (nI k + 3)
def fnS (a b c : Nat) : Nat → Nat := fun j => match j with
  | 0 => a
  | 1 => b
  | _ => c
abbrev kW (wf : Nat → Nat → Int32) : Nat → Nat := fun i => (wf i 1).toNatClampNeg
theorem pm1 {α : Type} (M O Y : List α) : (M ++ (O ++ Y)).Perm (O ++ (M ++ Y)) := by
  classical
  rw [List.perm_iff_count]; intro a; simp only [List.count_append]; omega
theorem pmA {α : Type} (R A L T : List α) : (R ++ (A ++ (L ++ T))).Perm ((L ++ A) ++ (R ++ T)) := by
  classical
  rw [List.perm_iff_count]; intro a; simp only [List.count_append]; omega
theorem pmB {α : Type} (R X T : List α) (x : α) : (R ++ ((X ++ T) ++ [x])).Perm (R ++ ((X ++ [x]) ++ T)) := by
  classical
  rw [List.perm_iff_count]; intro a; simp only [List.count_append]; omega
theorem vaP_perm {D : va_G} {ws ws' : va_W} {H : Heap} (h : ws.Perm ws') (hP : va_P D vwCl ws H) : va_P D vwCl ws' H := vaP_mem hP (fun _ hq => h.mem_iff.mpr hq)
/-- a row of a world by a function that says the same of its places -/
theorem cell_fun {c0 : ClassId} {n : Nat} {f g : Nat → Int32} (h : ∀ j, j < n → f j = g j) : vp_cell c0 (n, .inl f) = vp_cell c0 (n, .inl g) := by
  rw [vp_cell_i, vp_cell_i]
  unfold arrV
  congr 1
  apply Array.ext_getElem?
  intro j
  by_cases q : j < n
  · simp [q, h j q]
  · simp [q]
/-- a method that reads the script beside the heap -/
def Rc (l : Launch) (D : va_G) (cs : Nat → ClassId) (b L : Nat) (xs : Nat → Int32) (d : Nat) (y : MethodName) (cc : ByteArray) (nL : Nat) (ret : Option FieldType) (H : Heap) (As : List Value) (ov : Option Value) : Prop :=
  Met l y (wy y cc nL ret) (rmL d 0 0) (va_Pc As (fun U => U.heap = H ∧ va_K D vwCl (Ty cs) U ∧ va_X b L xs U H)) (fun _ st oc t => oc = .returned ov ∧ t.heap = st.heap) 0 0 (fun _ => False)
theorem rc_ent {l : Launch} {D : va_G} {cs : Nat → ClassId} {b L : Nat} {xs : Nat → Int32} {d : Nat} {y : MethodName} {cc : ByteArray} {nL : Nat} {ret : Option FieldType} {H : Heap} {As : List Value} {ov : Option Value} (hy : plainName y.cls = true) (hn : (lg_sl As).length ≤ nL)
    (body : ∀ (p : Program) (e : Env) (s : State) (m : MethodId) (below : List Frame) (meth : Method) (c : Code) (ls : Array Slot), p.tables.exec = Jvm.exec → c.code = cc → meth.sig.returnType = ret → c.maxLocals = nL → s.vm.findClass y.cls = some m.cls → (∀ w ∈ wsL_law, w.before As.toArray s = true) → meth.locks = false → lv_has ls nL (lv_args 0 As) → s.heap = H → va_K D vwCl (Ty cs) s → va_X b L xs s H → W p l e (rmL d 0 0) s m As.toArray below meth c H [] 0 0 (MQ below (fun _ st oc t => oc = .returned ov ∧ t.heap = st.heap) As.toArray s 0 0 (fun _ => False)) (F0 m 0 ls [])) :
    Rc l D cs b L xs d y cc nL ret H As ov := by
  refine ent hy hn ?_
  intro p e s m below meth c ls hx hb hr hml hown hts hlocks _ hl hP
  obtain ⟨hH, hK, hX⟩ := hP
  rw [hH]
  exact body p e s m below meth c ls hx hb hr hml hown hts hlocks hl hH hK hX
section RcCalls
variable {p : Program} {l : Launch} {e : Env} {R : Room} {s : State} {m : MethodId} {args : Array Value} {below : List Frame} {meth : Method} {c : Code} {H : Heap} {locs : List Loc} {cells slots mc ms : Nat} {Q : State → Prop} {cc cc' : ByteArray} {pc nL nL' : Nat} {ls : Array Slot} {rest st0 : List Value} {D : va_G} {cs : Nat → ClassId} {own : String} {index d : Nat} {y : MethodName} {ret : Option FieldType} {As : List Value} {b L : Nat} {xs : Nat → Int32} {ov : Option Value} {ws : va_W} {A : Nat → Prop} {post : Option Value → va_W → Prop} {z mi : Nat}
theorem rc_blind : FrameBlind (va_Pc As (fun U => U.heap = H ∧ va_K D vwCl (Ty cs) U ∧ va_X b L xs U H)) := fun a U g mk q => by
  obtain ⟨q0, q1, qK, qX⟩ := q
  exact ⟨q0, q1, va_K.moved (u := U) (U := U.calling g mk a) (Vm.Alike.refl U.vm) qK, va_X.moved (u := U) (U := U.calling g mk a) (Vm.Alike.refl U.vm) qX⟩
theorem rcS (S : CallFix p m c cc nL s args wsL_law own) (hK : va_K D vwCl (Ty cs) s) (hX : va_X b L xs s H) (n : Nat) (hM : Rc l D cs b L xs d y cc' nL' ret H As ov) (hG : GoodIn wsL_law (va_wsS own index y (wy y cc' nL' ret)))
    (hd : y.cls ≠ "java/lang/invoke/MethodHandle" ∧ y.cls ≠ "java/lang/invoke/VarHandle" ∧ (parseMethodDescriptor y.desc).map (fun d => d.parameters.length) = some n) (hR : d + 1 ≤ R.frames ∧ 8 + (nL' + 11) + 32 * d ≤ R.locals)
    (hn : As.length = n) (hsize : ls.size = nL) (hst : st0 = As.reverse ++ rest) (hW : (rest.map fun v => v.category).sum ≤ 8) (hdg : decode cc pc = .ok (.invokestatic index, 3)) (hf : cells ≤ R.cells ∧ slots ≤ R.slots)
    (k : W p l e R s m args below meth c H locs cells slots Q (F0 m (pc + 3) ls (ov.toList ++ rest))) : W p l e R s m args below meth c H locs cells slots Q (F0 m pc ls st0) :=
  rd_run (a := As.toArray) (va_runS (g := F0 m pc ls st0) S hM (va_cwS n S.2.2.2.2 hG rfl rfl rfl hd hR) ⟨rc_blind, fun _U hU hW => ⟨rfl, hU, va_K.moved hW.alike hK, va_X.moved hW.alike hX⟩⟩ rfl hn hsize hst (lv_room hW) hdg hf) k
/-- a writer that reads the script -/
def Wb (b L : Nat) (xs : Nat → Int32) (z mi : Nat) (l : Launch) (D : va_G) (cs : Nat → ClassId) (d mc ms : Nat) (y : MethodName) (cc : ByteArray) (nL : Nat) (ret : Option FieldType) (ws : va_W) (H : Heap) (As : List Value) (post : Option Value → va_W → Prop) : Prop :=
  Met l y (wy y cc nL ret) (rmL d mc ms) (va_Pc As (fun U => U.heap = H ∧ va_K D vwCl (Ty cs) U ∧ ST z mi (va_A ws H.size) U H ∧ SR U ∧ va_X b L xs U H ∧ b < H.size ∧ ¬ va_A ws H.size b)) (Wq D ws H.size post) mc ms (va_A ws H.size)
theorem wb_ent {b L : Nat} {xs : Nat → Int32} {z mi : Nat} {l : Launch} {D : va_G} {cs : Nat → ClassId} {d mc ms : Nat} {y : MethodName} {cc : ByteArray} {nL : Nat} {ret : Option FieldType} {ws : va_W} {H : Heap} {As : List Value} {post : Option Value → va_W → Prop} (hy : plainName y.cls = true) (hn : (lg_sl As).length ≤ nL) (hP : va_P D vwCl ws H) (hD : va_D (fun _ => True) ws)
    (body : ∀ (p : Program) (e : Env) (s : State) (m : MethodId) (below : List Frame) (meth : Method) (c : Code) (ls : Array Slot) (A : Nat → Prop) (Q : State → Prop) (H9 : Heap), p.tables.exec = Jvm.exec → c.code = cc → meth.sig.returnType = ret → c.maxLocals = nL → s.vm.findClass y.cls = some m.cls → (∀ w ∈ wsL_law, w.before As.toArray s = true) → meth.locks = false → lv_has ls nL (lv_args 0 As) → va_K D vwCl (Ty cs) s →
      (A = va_A ws s.heap.size ∧ Q = MQ below (Wq D ws s.heap.size post) As.toArray s mc ms A) → (∀ q : Nat, s.heap.size ≤ q → A q) → s.heap = H9 → ST z mi A s s.heap → SR s → va_X b L xs s s.heap → b < s.heap.size → ¬ A b → va_P D vwCl ws H9 → va_D A ws → va_S A s.heap H9 [] →
      W p l e (rmL d mc ms) s m As.toArray below meth c H9 [] 0 0 Q (F0 m 0 ls [])) :
    Wb b L xs z mi l D cs d mc ms y cc nL ret ws H As post := by
  refine ent hy hn ?_
  intro p e s m below meth c ls hx hb hr hml hown hts hlocks hin hl hPu
  obtain ⟨hH, hK, hT, hR, hX, hbl, hbA⟩ := hPu
  subst hH
  exact body p e s m below meth c ls _ _ _ hx hb hr hml hown hts hlocks hl hK ⟨rfl, rfl⟩ (fun q h => Or.inr h) rfl hT hR hX hbl hbA hP hD.self va_S.rf
theorem wb_blind {B : Nat → Prop} : FrameBlind (va_Pc As (fun U => U.heap = H ∧ va_K D vwCl (Ty cs) U ∧ ST z mi B U H ∧ SR U ∧ va_X b L xs U H ∧ b < H.size ∧ ¬ B b)) := fun a U g mk q => by
  obtain ⟨q0, q1, qK, qT, qR, qX, q2, q3⟩ := q
  exact ⟨q0, q1, va_K.moved (u := U) (U := U.calling g mk a) (Vm.Alike.refl U.vm) qK, ST.moved (u := U) (U := U.calling g mk a) (Vm.Alike.refl U.vm) qT, SR.same (u := U) (U := U.calling g mk a) rfl qR, va_X.moved (u := U) (U := U.calling g mk a) (Vm.Alike.refl U.vm) qX, q2, q3⟩
theorem wbS (S : CallFix p m c cc nL s args wsL_law own) (hT : ST z mi A s s.heap) (hR : SR s) (hK : va_K D vwCl (Ty cs) s) (hX : va_X b L xs s s.heap) (hbl : b < s.heap.size) (hbA : ¬ A b) (n : Nat) (hM : Wb b L xs z mi l D cs d mc ms y cc' nL' ret ws H As post) (hG : GoodIn wsL_law (va_wsS own index y (wy y cc' nL' ret)))
    (hd : y.cls ≠ "java/lang/invoke/MethodHandle" ∧ y.cls ≠ "java/lang/invoke/VarHandle" ∧ (parseMethodDescriptor y.desc).map (fun d => d.parameters.length) = some n) (hRm : d + 1 ≤ R.frames ∧ 8 + (nL' + 11) + 32 * d ≤ R.locals)
    (hn : As.length = n) (hsize : ls.size = nL) (hst : st0 = As.reverse ++ rest) (hW : (rest.map fun v => v.category).sum ≤ 8) (hdg : decode cc pc = .ok (.invokestatic index, 3)) (hf : cells + mc ≤ R.cells ∧ slots + ms ≤ R.slots)
    (hD : va_D A ws) (hS : va_S A s.heap H locs) (hA : ∀ q, s.heap.size ≤ q → A q)
    (kk : ∀ (ov : Option Value) (w1 : va_W) (H1 : Heap) (locs1 : List Loc), post ov w1 → va_P D vwCl w1 H1 → va_D A w1 → va_S A s.heap H1 locs1 → W p l e R s m args below meth c H1 locs1 (cells + mc) (slots + ms) Q (F0 m (pc + 3) ls (ov.toList ++ rest))) : W p l e R s m args below meth c H locs cells slots Q (F0 m pc ls st0) :=
  have hbB : ¬ va_A ws H.size b := fun q => by
    rcases q with ⟨k, e9, hk⟩ | q
    · exact hbA (hD.2 k (b, e9) hk)
    · exact absurd (Nat.lt_of_lt_of_le hbl hS.1) (Nat.not_lt.mpr q)
  wr_run (a := As.toArray) (va_runS (g := F0 m pc ls st0) S hM (va_cwS n S.2.2.2.2 hG rfl rfl rfl hd hRm) ⟨wb_blind, fun _U hU hW => ⟨rfl, hU, va_K.moved hW.alike hK, hT.at hS hD hA hW.alike, hR.warm hW, va_X.moved hW.alike (hX.kept (hS.2.1 b hbl hbA)), Nat.lt_of_lt_of_le hbl hS.1, hbB⟩⟩ rfl hn hsize hst (lv_room hW) hdg hf) hD hS hA kk
end RcCalls
