/-! the class's state, from its cells; what its writers leave -/
theorem tl_w {D : va_G} {X tl : va_W} {H : Heap} {wa : Nat → Nat} {wf : Nat → Nat → Int32} {i : Nat} (hP : va_P D vwCl (X ++ tl) H) (h : wG wa wf i ∈ tl) : va_P D vwCl [wG wa wf i] H := vaP_mem hP (fun q hq => by
  rw [List.mem_singleton.mp hq]
  exact List.mem_append_right _ h)
theorem rx_of {D : va_G} {cs : Nat → ClassId} {H : Heap} {ad : Nat → Nat} {bank rnds cnt mcn : Int32} {N n cap : Nat} {su fa pu : Nat → Int32} {rf : Nat → Option Nat} {wa : Nat → Nat} {wf : Nat → Nat → Int32} {kd : Nat → Nat} {tl : va_W} (hP : va_P D vwCl (wX cs ad bank rnds cnt mcn N n su fa pu ++ ([wE cs ad cap rf] ++ tl)) H) (hw : ∀ i, i < n → wG wa wf i ∈ tl) (hr9 : ∀ i, i < n → rf i = some (wa i)) (hkd : ∀ i, i < n → wf i 1 = nI (kd i) ∧ kd i < 10) (hN1 : 1 ≤ N) (hN : N ≤ 1728) (hn12 : n ≤ 12) (hnc : n ≤ cap) (hcap : cap ≤ 1000) : RX D cs H ad bank rnds cnt mcn N n cap su fa pu rf wa wf kd :=
  ⟨vaP_mem hP (fun q hq => List.mem_append_left _ hq), fun i hi => ⟨vaP_mem hP (fun q hq => by rw [List.mem_singleton.mp hq]; exact List.mem_append_right _ (List.mem_append_right _ (hw i hi))), vaP_mem hP (fun q hq => List.mem_append_right _ (List.mem_append_left _ hq)), hr9 i hi, (hkd i hi).1, (hkd i hi).2, by omega⟩, hN1, hN, hn12, hcap⟩
theorem rx_of0 {D : va_G} {cs : Nat → ClassId} {H : Heap} {ad : Nat → Nat} {bank rnds cnt mcn : Int32} {N : Nat} {su fa pu : Nat → Int32} {tl : va_W} (rf : Nat → Option Nat) (wa : Nat → Nat) (wf : Nat → Nat → Int32) (kd : Nat → Nat) (hP : va_P D vwCl (wX cs ad bank rnds cnt mcn N 0 su fa pu ++ tl) H) (hN1 : 1 ≤ N) (hN : N ≤ 1728) : RX D cs H ad bank rnds cnt mcn N 0 0 su fa pu rf wa wf kd :=
  ⟨vaP_mem hP (fun q hq => List.mem_append_left _ hq), fun i hi => absurd hi (Nat.not_lt_zero _), hN1, hN, by omega, by omega⟩
def wvF (a b c d e f : Int32) : Nat → Int32 := fun j => match j with
  | 0 => a
  | 1 => b
  | 2 => c
  | 3 => d
  | 4 => e
  | _ => f
def puI (i : Nat) : Nat → Int32 := fun j => if j < i then 100 else 0
theorem puI_0 : (fun _ : Nat => (0 : Int32)) = puI 0 := rfl
theorem puI_s (i : Nat) : upd (puI i) i 100 = puI (i + 1) := by
  funext j
  show (if j = i then (100 : Int32) else if j < i then 100 else 0) = (if j < i + 1 then 100 else 0)
  by_cases h : j = i
  · rw [if_pos h, if_pos (by omega)]
  · rw [if_neg h]
    by_cases h2 : j < i
    · rw [if_pos h2, if_pos (by omega)]
    · rw [if_neg h2, if_neg (by omega)]
def stpX (su fa pu : Nat → Int32) (wf : Nat → Nat → Int32) (kd : Nat → Nat) (o n i : Nat) : Nat → Int32 := fun j => if j < i then behX su fa pu wf kd (nI j) j o n else pu j
theorem stpX_0 (su fa pu : Nat → Int32) (wf : Nat → Nat → Int32) (kd : Nat → Nat) (o n : Nat) : pu = stpX su fa pu wf kd o n 0 := rfl
theorem behX_pu {su fa pu pu' : Nat → Int32} {wf : Nat → Nat → Int32} {kd : Nat → Nat} {p : Int32} {pi o : Nat} (h : pu' pi = pu pi) : ∀ n, behX su fa pu' wf kd p pi o n = behX su fa pu wf kd p pi o n
  | 0 => h
  | n + 1 => by
    have ih := behX_pu (su := su) (fa := fa) (wf := wf) (kd := kd) (p := p) (o := o) h n
    simp only [behX]
    rw [ih]
theorem stpX_s (su fa pu : Nat → Int32) (wf : Nat → Nat → Int32) (kd : Nat → Nat) (o n i : Nat) : upd (stpX su fa pu wf kd o n i) i (behX su fa (stpX su fa pu wf kd o n i) wf kd (nI i) i o n) = stpX su fa pu wf kd o n (i + 1) := by
  funext j
  have hb : behX su fa (stpX su fa pu wf kd o n i) wf kd (nI i) i o n = behX su fa pu wf kd (nI i) i o n := behX_pu (if_neg (Nat.lt_irrefl i)) n
  rw [hb]
  show (if j = i then _ else if j < i then behX su fa pu wf kd (nI j) j o n else pu j) = (if j < i + 1 then behX su fa pu wf kd (nI j) j o n else pu j)
  by_cases h : j = i
  · rw [if_pos h, if_pos (by omega), h]
  · rw [if_neg h]
    by_cases h2 : j < i
    · rw [if_pos h2, if_pos (by omega)]
    · rw [if_neg h2, if_neg (by omega)]
