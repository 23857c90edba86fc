/-! rows of int arrays: reading a row, storing one, making rows -/
theorem ty3_comp {D : va_G} {cs : Nat → ClassId} {s : State} (hO : va_AOA .int s) (hK : va_K D vwCl (Ty cs) s) : ∃ k : Class, s.vm.classes[cs 3]? = some k ∧ k.kind = .array (cs 0) (.array .int) := by
  obtain ⟨comp, c9, k, h1, -, h3, h4, h5⟩ := arrayOverA_spec hO
  have e0 : s.vm.findClass ("[" ++ FieldType.int.toString) = some (cs 0) := (hK.2 0 _ rfl).2
  have e3 : s.vm.findClass ("[" ++ (FieldType.array .int).toString) = some (cs 3) := (hK.2 3 _ rfl).2
  have ec : comp = cs 0 := Option.some.inj (h1.symm.trans e0)
  have e9 : c9 = cs 3 := Option.some.inj (h5.symm.trans e3)
  subst ec
  subst e9
  exact ⟨k, h3, h4⟩
section ArrRows
variable {p : Program} {l : Launch} {e : Env} {R : Room} {s : State} {m : MethodId} {args : Array Value} {below : List Frame} {meth : Method} {c : Code} {H H0 : Heap} {locs : List Loc} {cells slots : Nat} {Q : State → Prop} {cc : ByteArray} {pc : Nat} {ls : Array Slot} {rest : List Value} {D : va_G} {cs : Nat → ClassId} {ws : va_W} {A : Nat → Prop} {a : Nat}
theorem aldA (hexec : p.tables.exec = Jvm.exec) (hb : c.code = cc) (hK : va_K D vwCl (Ty cs) s) (hP : va_P D vwCl ws H) (q0 t0 : Nat) {cA : ClassId} {n : Nat} {f : Nat → Option Nat} (ha : ws[q0]? = some (a, .inl (cA, n, .inr (.inr (.inr (.inr f)))))) (ht : (Ty cs)[t0]? = some (cA, .array .int)) {i : Int32} (hin : vp_in i n) (hdg : decode cc pc = .ok (.aaload, 1))
    (kk : W p l e R s m args below meth c H locs cells slots Q (F0 m (pc + 1) ls (va_rf (f i.toNatClampNeg) :: rest))) : W p l e R s m args below meth c H locs cells slots Q (F0 m pc ls (.int i :: .ref a :: rest)) := by
  have hlt : i.toNatClampNeg < n := Nat.not_le.mp fun q => hin (Or.inr q)
  exact W.aald (v := va_rf (f i.toNatClampNeg)) (ty := .array .int) hexec hb (hP q0 _ ha) ((hK.2 t0 _ ht).1 n (fun j => va_rf (f j))) rfl (fun q => by cases q) (by show ¬ (i < 0 ∨ (arrV _ _ _).slots.size ≤ _); rw [arrV_size]; exact hin) (by show (arrV _ _ _).slots[_]? = _; rw [arrV_read _ _ hlt]) rfl rfl hdg kk
theorem astA (hexec : p.tables.exec = Jvm.exec) (hb : c.code = cc) (hO : va_AOA .int s) (hK : va_K D vwCl (Ty cs) s) (hP : va_P D vwCl ws H) (hD : va_D A ws) (hS : va_S A H0 H locs) (q0 : Nat) {n v nv : Nat} {g : Nat → Int32} {f : Nat → Option Nat} (ha : ws[q0]? = some (a, .inl (cs 3, n, .inr (.inr (.inr (.inr f)))))) (hv : (v, .inl (cs 0, nv, .inl g)) ∈ ws) {i : Int32} (hin : vp_in i n) (hdg : decode cc pc = .ok (.aastore, 1))
    (kk : ∀ (H1 : Heap) (locs1 : List Loc), va_P D vwCl (ws.set q0 (a, .inl (cs 3, n, .inr (.inr (.inr (.inr (va_up f i.toNatClampNeg (some v)))))))) H1 → va_D A (ws.set q0 (a, .inl (cs 3, n, .inr (.inr (.inr (.inr (va_up f i.toNatClampNeg (some v)))))))) → va_S A H0 H1 locs1 → W p l e R s m args below meth c H1 locs1 cells slots Q (F0 m (pc + 1) ls rest)) : W p l e R s m args below meth c H locs cells slots Q (F0 m pc ls (.ref v :: .int i :: .ref a :: rest)) := by
  have hlt : i.toNatClampNeg < n := Nat.not_le.mp fun q => hin (Or.inr q)
  have h0 : ¬ i < 0 := fun q => hin (Or.inl q)
  obtain ⟨kv, hkv⟩ := List.getElem?_of_mem hv
  have g1 : H[v]? = some (vp_cell (cs 0) (nv, .inl g)) := hP kv _ hkv
  obtain ⟨kA, k1, k2⟩ := ty3_comp hO hK
  obtain ⟨k0, hk0, -⟩ := Vm.findClass_spec (show s.vm.findClass ("[" ++ FieldType.int.toString) = some (cs 0) from (hK.2 0 _ rfl).2)
  refine W.aast hexec hb (hP q0 _ ha) (fun q h => by cases h) (fun h => by cases h) k1 k2 rfl hk0 ⟨h0, by show _ < (arrV _ _ _).slots.size; rw [arrV_size]; exact hlt⟩ g1 (fun q h => by cases h) hk0 (va_asg _ _) rfl rfl hdg fun H1 e z oq => ?_
  refine kk H1 _ (hP.set hD ha ?_ oq) (hD.set ha) (hS.put z oq (hD.2 q0 _ ha))
  show H1[a]? = some (vp_cell _ _)
  rw [e]
  rw [vp_cell_q, vp_cell_q, arrV_store]
  congr 2
  funext q
  by_cases hq : q = i.toNatClampNeg
  · subst hq
    simp [updV, va_up, va_rf]
  · simp [updV, va_up, hq]
theorem nwA {own : String} {index : Nat} (hexec : p.tables.exec = Jvm.exec) (hb : c.code = cc) (hown : s.vm.findClass own = some m.cls) (hclink : (Cond.classLink own index "[I").before args s = true) (hO : va_AOA .int s) (hK : va_K D vwCl (Ty cs) s) (hP : va_P D vwCl ws H) (hD : va_D A ws) (hS : va_S A H0 H locs) (hA : ∀ q, H0.size ≤ q → A q) {n : Int32} {N' : Nat} (hn : ¬ n < 0) (hN : n.toNatClampNeg = N') (hbytes : N' * 4 ≤ 536870912) (hcells : cells + 1 ≤ R.cells) (hslots : slots + N' ≤ R.slots) (hdg : decode cc pc = .ok (.anewarray index, 3))
    (kk : ∀ (q : Nat) (H1 : Heap), va_P D vwCl (ws ++ [(q, .inl (cs 3, N', .inr (.inr (.inr (.inr (fun _ => none))))))]) H1 → va_D A (ws ++ [(q, .inl (cs 3, N', .inr (.inr (.inr (.inr (fun _ => none))))))]) → va_S A H0 H1 locs → W p l e R s m args below meth c H1 locs (cells + 1) (slots + N') Q (F0 m (pc + 3) ls (.ref q :: rest))) : W p l e R s m args below meth c H locs cells slots Q (F0 m pc ls (.int n :: rest)) := by
  subst hN
  refine W.anewA (t := .int) hexec hb hown hclink (va_AOA.use hO) rfl hdg rfl hn hbytes hcells hslots fun cA kA comp f1 f2 f3 f4 => ?_
  have e3 : cA = cs 3 := Option.some.inj (f1.symm.trans (show s.vm.findClass ("[" ++ (FieldType.array .int).toString) = some (cs 3) from (hK.2 3 _ rfl).2))
  subst e3
  generalize hH1 : H.push ({ cls := cs 3, slots := Array.replicate n.toNatClampNeg .null, vm := .none } : Cell) = H1
  have z1 : H1.size = H.size + 1 := by rw [← hH1, Array.size_push]
  have e1 : H1[H.size]? = some (arrV (cs 3) n.toNatClampNeg (fun _ => .null)) := by rw [← hH1, Array.getElem?_push_size, ← arrV_new]
  have o1 : ∀ q : Nat, q < H.size → H1[q]? = H[q]? := fun q hq => by rw [← hH1, Array.getElem?_push, if_neg (Nat.ne_of_lt hq)]
  have hk : ∀ (k : Nat) (x : Nat × va_E), ws[k]? = some x → H1[x.1]? = H[x.1]? := fun k x hx => o1 x.1 ((hP k x hx).lt)
  refine kk H.size H1 ((hP.kept hk).app (fun k x hx => ?_)) (hD.push hP rfl (hA _ hS.1)) ⟨Nat.le_trans hS.1 (by omega), fun x h1 h2 => (o1 x (Nat.lt_of_lt_of_le h1 hS.1)).trans (hS.2.1 x h1 h2), hS.2.2⟩
  have hz : k < 1 := (List.getElem?_eq_some_iff.mp hx).1
  rw [show k = 0 by omega] at hx
  cases hx
  show H1[H.size]? = some (vp_cell _ _)
  rw [vp_cell_q]
  exact e1
end ArrRows
/-- rows in a row: the cells of N int arrays -/
def rowsW (c0 : ClassId) (r : Nat → Nat) (dn : Nat) (G : Nat → Nat → Int32) (N : Nat) : va_W := (List.range N).map (fun o => (r o, .inl (c0, dn, .inl (G o))))
def upG (G : Nat → Nat → Int32) (o : Nat) (g : Nat → Int32) : Nat → Nat → Int32 := fun o' => if o' = o then g else G o'
theorem upG_s {G : Nat → Nat → Int32} {o : Nat} {g : Nat → Int32} : upG G o g o = g := if_pos rfl
theorem upG_n {G : Nat → Nat → Int32} {o o' : Nat} {g : Nat → Int32} (h : o' ≠ o) : upG G o g o' = G o' := if_neg h
theorem rows_len {c0 : ClassId} {r : Nat → Nat} {dn : Nat} {G : Nat → Nat → Int32} {N : Nat} : (rowsW c0 r dn G N).length = N := by simp [rowsW]
theorem rows_at {c0 : ClassId} {r : Nat → Nat} {dn : Nat} {G : Nat → Nat → Int32} {N : Nat} {X : va_W} {o : Nat} (h : o < N) : (rowsW c0 r dn G N ++ X)[o]? = some (r o, .inl (c0, dn, .inl (G o))) := by
  rw [List.getElem?_append_left (by rw [rows_len]; exact h)]
  simp [rowsW, h]
theorem rows_tl {c0 : ClassId} {r : Nat → Nat} {dn : Nat} {G : Nat → Nat → Int32} {N : Nat} {X : va_W} (k : Nat) : (rowsW c0 r dn G N ++ X)[N + k]? = X[k]? := by
  rw [List.getElem?_append_right (by rw [rows_len]; omega), rows_len, Nat.add_sub_cancel_left]
theorem rows_set {c0 : ClassId} {r : Nat → Nat} {dn : Nat} {G : Nat → Nat → Int32} {N : Nat} {X : va_W} {o : Nat} (h : o < N) (g : Nat → Int32) : (rowsW c0 r dn G N ++ X).set o (r o, .inl (c0, dn, .inl g)) = rowsW c0 r dn (upG G o g) N ++ X := by
  apply List.ext_getElem?
  intro k
  rw [List.getElem?_set]
  by_cases e : o = k
  · subst e
    rw [if_pos rfl, rows_at h, upG_s]
    rw [if_pos]
    rw [List.length_append, rows_len]
    omega
  · rw [if_neg e]
    by_cases q : k < N
    · rw [rows_at q, rows_at q, upG_n (fun z => e z.symm)]
    · rw [show k = N + (k - N) by omega, rows_tl, rows_tl]
theorem rows_mem {c0 : ClassId} {r : Nat → Nat} {dn : Nat} {G : Nat → Nat → Int32} {N o : Nat} (h : o < N) : (r o, .inl (c0, dn, .inl (G o))) ∈ rowsW c0 r dn G N := List.mem_map.mpr ⟨o, List.mem_range.mpr h, rfl⟩
section ArrMulti
variable {p : Program} {l : Launch} {e : Env} {R : Room} {s : State} {m : MethodId} {args : Array Value} {below : List Frame} {meth : Method} {c : Code} {H H0 : Heap} {locs : List Loc} {cells slots : Nat} {Q : State → Prop} {cc : ByteArray} {pc : Nat} {ls : Array Slot} {rest : List Value} {D : va_G} {cs : Nat → ClassId} {ws : va_W} {A : Nat → Prop}
theorem nwM {own : String} {index : Nat} (hexec : p.tables.exec = Jvm.exec) (hb : c.code = cc) (hown : s.vm.findClass own = some m.cls) (hclink : (Cond.classLink own index "[[I").before args s = true) (hO : va_AOA .int s) (harr : (Cond.arrayClass .int).before args s = true) (hK : va_K D vwCl (Ty cs) s) (hP : va_P D vwCl ws H) (hD : va_D A ws) (hS : va_S A H0 H locs) (hA : ∀ q, H0.size ≤ q → A q) {n k : Int32} {N' K' : Nat} (hn : ¬ n < 0) (hk : ¬ k < 0) (hN : n.toNatClampNeg = N') (hM : k.toNatClampNeg = K') (hb1 : N' * 4 ≤ 536870912) (hb2 : K' * 4 ≤ 536870912) (hcells : cells + (1 + N') ≤ R.cells) (hslots : slots + (N' + N' * K') ≤ R.slots) (hdg : decode cc pc = .ok (.multianewarray index 2, 4))
    (kk : ∀ (q : Nat) (r : Nat → Nat) (H1 : Heap), va_P D vwCl (rowsW (cs 0) r K' (fun _ _ => 0) N' ++ (ws ++ [(q, .inl (cs 3, N', .inr (.inr (.inr (.inr (fun i => if i < N' then some (r i) else none))))))])) H1 → va_D A (rowsW (cs 0) r K' (fun _ _ => 0) N' ++ (ws ++ [(q, .inl (cs 3, N', .inr (.inr (.inr (.inr (fun i => if i < N' then some (r i) else none))))))])) → va_S A H0 H1 locs → W p l e R s m args below meth c H1 locs (cells + 1 + N') (slots + N' + N' * K') Q (F0 m (pc + 4) ls (.ref q :: rest))) : W p l e R s m args below meth c H locs cells slots Q (F0 m pc ls (.int k :: .int n :: rest)) := by
  have hP0 : va_P D vwCl (ws ++ va_pl [] (fun _ => .inl (cs 0, K', .inl (fun _ => 0)))) H := by
    show va_P D vwCl (ws ++ []) H
    rw [List.append_nil]
    exact hP
  have hD0 : va_D A (ws ++ va_pl [] (fun _ => .inl (cs 0, K', .inl (fun _ => 0)))) := by
    show va_D A (ws ++ [])
    rw [List.append_nil]
    exact hD
  refine va_mna (ty := .int) (cy := cs 0) (N' := N') (K' := K') (z := (K', .inl (fun _ => 0))) hexec hb hown hclink hO harr (show s.vm.findClass ("[" ++ FieldType.int.toString) = some (cs 0) from (hK.2 0 _ rfl).2) hK hP0 hD0 hS hA hn hk hN hM hb1 hb2 (by omega) rfl rfl hcells hslots (fun c9 => ?_) hdg (fun q r cA H1 hr1 hr2 hK1 hP1 hD1 hS1 => ?_)
  · show _ = vp_cell c9 (K', .inl (fun _ => 0))
    rw [vp_cell_i, ← arrV_new]
    rfl
  · have e3 : cA = cs 3 := Option.some.inj ((show s.vm.findClass ("[" ++ (FieldType.array .int).toString) = some cA from (hK1.2 4 _ rfl).2).symm.trans (show s.vm.findClass ("[" ++ (FieldType.array .int).toString) = some (cs 3) from (hK.2 3 _ rfl).2))
    subst e3
    have eR : va_pl ([] ++ (List.range N').map r) (vr_up (fun _ => .inl (cs 0, K', .inl (fun _ => 0))) ((List.range N').map r) (.inl (cs 0, K', .inl (fun _ => 0)))) = rowsW (cs 0) r K' (fun _ _ => 0) N' := by
      rw [List.nil_append]
      unfold va_pl rowsW
      rw [List.map_map]
      apply List.map_congr_left
      intro o ho
      show (r o, vr_up _ _ _ (r o)) = _
      unfold vr_up
      rw [ite_self]
    rw [eR] at hP1 hD1
    exact kk q r H1 (vaP_mem hP1 (fun x hx => (List.mem_append.mp hx).elim (fun h => List.mem_append_right _ h) (fun h => List.mem_append_left _ h))) (vaD_perm List.perm_append_comm hD1) hS1
end ArrMulti
