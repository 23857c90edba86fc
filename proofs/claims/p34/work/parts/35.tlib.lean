/-! rows for the class's writers -/
theorem cd_w0 : (Cond.castable RX1 "java/lang/Object") ∈ cdL := List.mem_append_right _ (List.mem_cons_self)
theorem cd_w1 : (Cond.declares ⟨"java/lang/Object", "getClass", "()Ljava/lang/Class;"⟩) ∈ cdL := List.mem_append_right _ (List.mem_cons_of_mem _ (List.mem_cons_of_mem _ (List.mem_cons_of_mem _ (List.mem_cons_of_mem _ List.mem_cons_self))))
theorem arr_recv {D : va_G} {cs : Nat → ClassId} {s : State} {ws : va_W} {H : Heap} {k a : Nat} {x : vp_A} (hK : va_K D vwCl (Ty cs) s) (hP : va_P D vwCl ws H) (he : ws[k]? = some (a, .inl (cs 2, x))) : ∃ cell : Cell, H[a]? = some cell ∧ cell.vm.isStatics = false ∧ s.vm.findClass sOA = some cell.cls := by
  refine ⟨_, hP k _ he, ?_, ?_⟩
  · obtain ⟨n, f | f | f | f | f⟩ := x <;> rfl
  · obtain ⟨-, -, -, -, -, h4⟩ := (hK.2 2 _ rfl).2
    have hcl0 : (vp_cell (cs 2) x).cls = cs 2 := by obtain ⟨n, f | f | f | f | f⟩ := x <;> rfl
    show s.vm.findClass sOA = some (vp_cell (cs 2) x).cls
    rw [hcl0]
    exact h4
theorem hel_of {D : va_G} {cs : Nat → ClassId} {s : State} {X tl : va_W} {H : Heap} {wa : Nat → Nat} {wf : Nat → Nat → Int32} {rf : Nat → Option Nat} {n : Nat} (hK : va_K D vwCl (Ty cs) s) (hP : va_P D vwCl (X ++ tl) H) (hw : ∀ i, i < n → wG wa wf i ∈ tl) (hr : ∀ i, i < n → rf i = some (wa i)) {j y : Nat} (hj : j < n) (e : rf j = some y) : ∃ cellV : Cell, H[y]? = some cellV ∧ cellV.vm.isStatics = false ∧ s.vm.findClass RX1 = some cellV.cls := by
  have e2 : y = wa j := Option.some.inj (e.symm.trans (hr j hj))
  subst e2
  obtain ⟨k, hk⟩ := List.getElem?_of_mem (List.mem_append_right X (hw j hj))
  exact va_recv hK hP (ci := 2) (q0 := k) rfl hk
/-- an outcome's place: which face each die shows -/
theorem lay_ix {x y z s t : Nat} (hy : y < s) (hz : z < t) : ((x * s + y) * t + z) / (s * t) = x ∧ ((x * s + y) * t + z) / t % s = y ∧ ((x * s + y) * t + z) % t = z := by
  have ht : 0 < t := by omega
  have hs : 0 < s := by omega
  have h1 : ((x * s + y) * t + z) / t = x * s + y := by
    rw [Nat.mul_comm, Nat.mul_add_div ht, Nat.div_eq_of_lt hz, Nat.add_zero]
  have h2 : (x * s + y) % s = y := by rw [Nat.mul_comm, Nat.mul_add_mod, Nat.mod_eq_of_lt hy]
  refine ⟨?_, by rw [h1, h2], by rw [Nat.mul_comm, Nat.mul_add_mod, Nat.mod_eq_of_lt hz]⟩
  rw [Nat.mul_comm s t, ← Nat.div_div_eq_div_mul, h1, Nat.mul_comm, Nat.mul_add_div hs, Nat.div_eq_of_lt hy, Nat.add_zero]
def lbN (b : Nat) : Nat := if b = 0 then 0 else 1
def exN (b : Nat) : Nat := if b = 0 then 1 else b
/-- an outcome's sum and the bits of its faces, dice a b c (0: no die) -/
def suF (b c o : Nat) : Int32 := nI (o / (exN b * exN c) + 1 + (lbN b + o / exN c % exN b) + (lbN c + o % exN c))
def faF (b c o : Nat) : Int32 := bitX (nI (o / (exN b * exN c) + 1)) ||| bitX (nI (lbN b + o / exN c % exN b)) ||| bitX (nI (lbN c + o % exN c))
/-- the first M places are laid out -/
def laid (b c : Nat) (su fa : Nat → Int32) (M : Nat) : Prop := ∀ o, o < M → su o = suF b c o ∧ fa o = faF b c o
theorem laid_0 (b c : Nat) (su fa : Nat → Int32) : laid b c su fa 0 := fun _ h => absurd h (Nat.not_lt_zero _)
theorem laid_s {b c M : Nat} {su fa : Nat → Int32} (h : laid b c su fa M) {x y z : Nat} (hM : M = (x * exN b + y) * exN c + z) (hy : y < exN b) (hz : z < exN c) : laid b c (upd su M (nI (x + 1 + (lbN b + y) + (lbN c + z)))) (upd fa M (bitX (nI (x + 1)) ||| bitX (nI (lbN b + y)) ||| bitX (nI (lbN c + z)))) (M + 1) := by
  intro o ho
  obtain ⟨h1, h2, h3⟩ := lay_ix (x := x) hy hz
  rw [← hM] at h1 h2 h3
  by_cases e : o = M
  · subst e
    refine ⟨?_, ?_⟩
    · show (if o = o then _ else _) = _
      rw [if_pos rfl, suF, h1, h2, h3]
    · show (if o = o then _ else _) = _
      rw [if_pos rfl, faF, h1, h2, h3]
  · obtain ⟨g1, g2⟩ := h o (by omega)
    refine ⟨?_, ?_⟩
    · show (if o = M then _ else _) = _
      rw [if_neg e, g1]
    · show (if o = M then _ else _) = _
      rw [if_neg e, g2]
theorem lb_ex (c : Nat) : lbN c + exN c = c + 1 := by unfold lbN exN; split <;> omega
theorem lb_le (c : Nat) : lbN c ≤ 1 := by unfold lbN; split <;> omega
theorem ex_le {c : Nat} (h : c ≤ 12) : exN c ≤ 12 := by unfold exN; split <;> omega
theorem mn_lb {b : Nat} (h : b < 2 ^ 31) : (if nI b < nI 1 then nI b else nI 1) = nI (lbN b + 0) := by
  by_cases e : b = 0
  · subst e
    rw [if_pos (nI_lt (by omega) (by omega))]
    rfl
  · rw [if_neg (nI_nlt (by omega) h)]
    show nI 1 = nI (if b = 0 then 0 else 1)
    rw [if_neg e]
theorem lay_lt {x y z a s t : Nat} (hx : x < a) (hy : y < s) (hz : z < t) : (x * s + y) * t + z < a * s * t := by
  have h1 : x * s + y + 1 ≤ a * s := by
    have := Nat.mul_le_mul_right s (show x + 1 ≤ a from hx)
    rw [Nat.add_mul, Nat.one_mul] at this
    omega
  have h2 := Nat.mul_le_mul_right t h1
  rw [Nat.add_mul (x * s + y) 1 t, Nat.one_mul] at h2
  omega
