/-! the class's state as it is read: its cells, its wagers; what its methods answer, in words of these -/
section Cast
variable {p : Program} {l : Launch} {e : Env} {R : Room} {s : State} {m : MethodId} {args : Array Value} {below : List Frame} {meth : Method} {c : Code} {H : Heap} {locs : List Loc} {cells slots : Nat} {Q : State → Prop} {cc : ByteArray} {pc : Nat} {ls : Array Slot} {rest : List Value} {a : Nat}
theorem va_castSelf (hexec : p.tables.exec = Jvm.exec) (hb : c.code = cc) {own C : String} {index : Nat} (hown : s.vm.findClass own = some m.cls) (hlink : (Cond.classLink own index C).before args s = true)
    (hr : ∃ cell : Cell, H[a]? = some cell ∧ cell.vm.isStatics = false ∧ s.vm.findClass C = some cell.cls) (hdg : decode cc pc = .ok (.checkcast index, 3))
    (k : W p l e R s m args below meth c H locs cells slots Q (F0 m (pc + 3) ls (.ref a :: rest))) : W p l e R s m args below meth c H locs cells slots Q (F0 m pc ls (.ref a :: rest)) := by
  obtain ⟨cell, h1, h2, h3⟩ := hr
  intro T hT X
  obtain ⟨vm', X', st⟩ := X.checkcastYes hexec hown hlink (by rw [hT]; exact h1) h2 h3 (Vm.assignable_self _ _) (g := F0 m pc ls (.ref a :: rest)) rfl rfl (by rw [hb]; exact hdg)
  obtain ⟨t, a1, b1⟩ := k (T.setVm vm') hT X'
  exact ⟨t, st t a1, b1⟩
end Cast
theorem lcmp_le (x y : Int64) : lg_cmp x y ≤ 0 ↔ ¬ y < x := by
  unfold lg_cmp
  by_cases h : y < x
  · rw [if_pos h]
    exact ⟨fun z => absurd z (by decide), fun z => absurd h z⟩
  · rw [if_neg h]
    refine ⟨fun _ => h, fun _ => ?_⟩
    by_cases h2 : x = y
    · rw [if_pos h2]; decide
    · rw [if_neg h2]; decide
theorem lcmp_eq (x y : Int64) : lg_cmp x y = 0 ↔ x = y := by
  unfold lg_cmp
  by_cases h : y < x
  · rw [if_pos h]
    exact ⟨fun z => absurd z (by decide), fun z => absurd h (by rw [z]; exact Int64.lt_irrefl)⟩
  · rw [if_neg h]
    by_cases h2 : x = y
    · rw [if_pos h2]; exact ⟨fun _ => h2, fun _ => rfl⟩
    · rw [if_neg h2]; exact ⟨fun z => absurd z (by decide), fun z => absurd z h2⟩
def dieX (f : Int32) : Bool := decide (2 ≤ f ∧ f ≤ 12)
def dieNX (f : Int32) : Bool := decide (f = 0) || dieX f
def brX (sk wn bs : Int32) : Int32 := if bs < 1 then 0 else sk * wn / bs
/-- sums of ints -/
def sm (f : Nat → Int32) : Nat → Int32
  | 0 => 0
  | n + 1 => sm f n + f n
/-- Euclid's steps, n at most -/
def euI : Nat → Int32 → Int32 → Int32
  | 0, a, _ => a
  | n + 1, a, b => if b = 0 then a else euI n b (a - a / b * b)
def absI (x : Int32) : Int32 := if 0 ≤ x then x else 0 - x
def cdX (t b : Int32) : Int32 := if euI 64 (absI t) b < 1 then 1 else euI 64 (absI t) b
theorem cdX_ne (t b : Int32) : ¬ cdX t b = 0 := by
  unfold cdX
  split
  · decide
  · rename_i h
    intro z
    rw [z] at h
    exact h (by decide)
theorem euI_0 (n : Nat) (a : Int32) : euI n a 0 = a := by cases n <;> simp [euI]
theorem euI_s {i : Nat} {a b : Int32} (hi : i < 64) (hb : ¬ b = 0) : euI (64 - i) a b = euI (64 - (i + 1)) b (a - a / b * b) := by
  rw [show 64 - i = (64 - (i + 1)) + 1 by omega]
  exact if_neg hb
abbrev wX (cs : Nat → ClassId) (ad : Nat → Nat) (bank rnds cnt mcn : Int32) (N n : Nat) (su fa pu : Nat → Int32) : va_W :=
  [(ad 0, .inr (3, [.ref (ad 1), .ref (ad 2), .ref (ad 3), .int bank, .int rnds])), (ad 1, .inr (1, [.ref (ad 4), .ref (ad 5), .int cnt, .int (nI N)])), (ad 4, .inl (cs 0, 1728, .inl su)), (ad 5, .inl (cs 0, 1728, .inl fa)), (ad 2, .inr (0, [.int mcn, .ref (ad 6), .int (nI n)])), (ad 3, .inl (cs 0, 6, .inl pu))]
abbrev wG (wa : Nat → Nat) (wf : Nat → Nat → Int32) (i : Nat) : Nat × va_E := (wa i, .inr (2, [.int (wf i 0), .int (wf i 1), .int (wf i 2), .int (wf i 3), .int (wf i 4), .int (wf i 5)]))
abbrev wE (cs : Nat → ClassId) (ad : Nat → Nat) (cap : Nat) (rf : Nat → Option Nat) : Nat × va_E := (ad 6, .inl (cs 2, cap, .inr (.inr (.inr (.inr rf)))))
/-- the class's cells in the heap H, for reading -/
def RX (D : va_G) (cs : Nat → ClassId) (H : Heap) (ad : Nat → Nat) (bank rnds cnt mcn : Int32) (N n cap : Nat) (su fa pu : Nat → Int32) (rf : Nat → Option Nat) (wa : Nat → Nat) (wf : Nat → Nat → Int32) (kd : Nat → Nat) : Prop :=
  va_P D vwCl (wX cs ad bank rnds cnt mcn N n su fa pu) H ∧ (∀ i, i < n → va_P D vwCl [wG wa wf i] H ∧ va_P D vwCl [wE cs ad cap rf] H ∧ rf i = some (wa i) ∧ wf i 1 = nI (kd i) ∧ kd i < 10 ∧ i < cap) ∧ 1 ≤ N ∧ N ≤ 1728 ∧ n ≤ 12 ∧ cap ≤ 1000
/-- what the house gains by a wager with an outcome; by all; a purse behind it; over all outcomes -/
def gnX (su fa : Nat → Int32) (wf : Nat → Nat → Int32) (kd : Nat → Nat) (o i : Nat) : Int32 := if comesX su fa (kd i) (wf i 2) o then -(wf i 4) else wf i 3
def behX (su fa pu : Nat → Int32) (wf : Nat → Nat → Int32) (kd : Nat → Nat) (p : Int32) (pi o : Nat) : Nat → Int32
  | 0 => pu pi
  | i + 1 => if wf i 0 = p ∧ comesX su fa (kd i) (wf i 2) o = true then behX su fa pu wf kd p pi o i + (wf i 3 + wf i 4) else behX su fa pu wf kd p pi o i
def goX (N : Nat) (wf : Nat → Nat → Int32) (i : Nat) : Int32 := wf i 3 * (nI N - wf i 5) - wf i 4 * wf i 5
def wst (g : Nat → Int32) : Nat → Nat
  | 0 => 0
  | i + 1 => if g i < g (wst g i) then i else wst g i
theorem wst_le (g : Nat → Int32) : ∀ i, wst g i ≤ i
  | 0 => Nat.le_refl 0
  | i + 1 => by
    have h := wst_le g i
    simp only [wst]
    split <;> omega
theorem wst_1 (g : Nat → Int32) : wst g 1 = 0 := by simp only [wst]; exact ite_self 0
def drs (N : Nat) (wf : Nat → Nat → Int32) : Nat → Int32 × Int64 × Int64
  | 0 => (-1, 0, 1)
  | i + 1 => if (drs N wf i).1 < 0 ∨ (drs N wf i).2.1 * (wf i 3).toInt64 < (goX N wf i).toInt64 * (drs N wf i).2.2 then (nI i, (goX N wf i).toInt64, (wf i 3).toInt64) else drs N wf i
def mnX (g : Nat → Int32) : Nat → Int32
  | 0 => g 0
  | i + 1 => if g (i + 1) < mnX g i then g (i + 1) else mnX g i
