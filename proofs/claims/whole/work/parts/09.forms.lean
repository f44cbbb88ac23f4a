/-! contracts that name their answer -/
def bI (P : Prop) [Decidable P] : Int := if P then 1 else 0
theorem bI_t {P : Prop} [Decidable P] (h : P) : bI P = 1 := if_pos h
theorem bI_f {P : Prop} [Decidable P] (h : ¬ P) : bI P = 0 := if_neg h
theorem bI_01 (P : Prop) [Decidable P] : bI P = 0 ∨ bI P = 1 := by
  unfold bI; split <;> simp
theorem bI_c {P P' : Prop} [Decidable P] [Decidable P'] (h : P ↔ P') : bI P = bI P' := by
  unfold bI; simp only [h]
theorem bI_rng (P : Prop) [Decidable P] : rng (bI P) := by
  rcases bI_01 P with h | h <;> rw [h] <;> exact ⟨by decide, by decide⟩
abbrev MF (z : ZM) (d : Nat) (as : List AV) (h : List AC) (x : Int) (h' : List AC) : Prop := M0 z d as h (fun v u => v = some x ∧ u = h')
abbrev MV (z : ZM) (d : Nat) (as : List AV) (h : List AC) (h' : List AC) : Prop := M0 z d as h (fun v u => v = none ∧ u = h')
theorem set_self {h : List AC} {i : Nat} {c c' : AC} (hi : h[i]? = some c) : (h.set i c')[i]? = some c' := by
  rw [List.getElem?_set_self (List.getElem?_eq_some_iff.mp hi).1]
theorem set_ne {h : List AC} {i j : Nat} {c c' : AC} (hij : i ≠ j) (hj : h[j]? = some c) : (h.set i c')[j]? = some c := by
  rw [List.getElem?_set_ne hij]; exact hj
theorem set_same {h : List AC} {i : Nat} {c : AC} (hi : h[i]? = some c) : h.set i c = h := by
  apply List.ext_getElem?
  intro j
  by_cases hj : i = j
  · subst hj; rw [set_self hi, hi]
  · rw [List.getElem?_set_ne hj]
def lsb : List (Nat × AV) → List (Nat × AV) → Prop
  | [], _ => True
  | q :: l, ls => lkp ls q.1 = some q.2 ∧ lsb l ls
theorem lsb_mem {ls : List (Nat × AV)} : ∀ {l : List (Nat × AV)}, lsb l ls → ∀ q ∈ l, q ∈ ls
  | [], _, q, hq => by cases hq
  | r :: l, h, q, hq => by
    rcases List.mem_cons.mp hq with rfl | hq
    · exact lkp_mem h.1
    · exact lsb_mem h.2 q hq
section Rules
variable {z : ZM} {G : GG} {R : Room} {MC MS k n pc pn : Nat} {ls : List (Nat × AV)} {st : List AV} {h : List AC} {Q : Option Int → List AC → Prop}
theorem AW.lw {ls' : List (Nat × AV)} (hs : lsb ls' ls) (kk : AW z G R MC MS k n pc ls' st h Q) : AW z G R MC MS k n pc ls st h Q := by
  intro p l e s m args below meth c D τ A ρ0 ρ Zf C hK hA hG hZ H locs lsA hP hD hS hl
  refine kk p l e s m args below meth c D τ A ρ0 ρ Zf C hK hA hG hZ H locs lsA hP hD hS ⟨hl.1, hl.2.1, fun q hq => ?_⟩
  obtain ⟨r, hr, rfl⟩ := List.mem_map.mp hq
  exact hl.2.2 _ (List.mem_map.mpr ⟨r, lsb_mem hs r hr, rfl⟩)
theorem AW.callSF {z' : ZM} {idx d np : Nat} {as : List AV} {st0 : List AV} {x : Int} {h' : List AC} (hf : ftch z.2.2.2.2 pc = some (.invokestatic idx, 3)) (hn : pc + 3 = pn) (lk : LSt z.1.cls idx z' np) (hM : MF z' d as h x h') (hst : st0 = as.reverse ++ st) (hnp : as.length = np) (hw : (st.map acat).sum ≤ 8) (hR : d + 1 ≤ R.frames ∧ 40 * (d + 1) ≤ R.locals) (hc0 : k ≤ R.cells ∧ n ≤ R.slots)
    (kk : AW z G R MC MS k n pn ls (vi x :: st) h' Q) : AW z G R MC MS k n pc ls st0 h Q :=
  AW.callS hf hn lk hM hst hnp hw hR hc0 (fun v u hq => by obtain ⟨rfl, rfl⟩ := hq; exact kk)
theorem AW.callSV {z' : ZM} {idx d np : Nat} {as : List AV} {st0 : List AV} {h' : List AC} (hf : ftch z.2.2.2.2 pc = some (.invokestatic idx, 3)) (hn : pc + 3 = pn) (lk : LSt z.1.cls idx z' np) (hM : MV z' d as h h') (hst : st0 = as.reverse ++ st) (hnp : as.length = np) (hw : (st.map acat).sum ≤ 8) (hR : d + 1 ≤ R.frames ∧ 40 * (d + 1) ≤ R.locals) (hc0 : k ≤ R.cells ∧ n ≤ R.slots)
    (kk : AW z G R MC MS k n pn ls st h' Q) : AW z G R MC MS k n pc ls st0 h Q :=
  AW.callS hf hn lk hM hst hnp hw hR hc0 (fun v u hq => by obtain ⟨rfl, rfl⟩ := hq; exact kk)
theorem AW.callVF {z' : ZM} {idx d np ci i : Nat} {fs : List AV} {as : List AV} {st0 : List AV} {x : Int} {h' : List AC} (hf : ftch z.2.2.2.2 pc = some (.invokevirtual idx, 3)) (hn : pc + 3 = pn) (lk : LVt z.1.cls idx z' np ci) (hh : h[i]? = some (ao ci fs)) (hM : MF z' d (vr i :: as) h x h') (hst : st0 = as.reverse ++ vr i :: st) (hnp : as.length = np) (hw : (st.map acat).sum ≤ 8) (hR : d + 1 ≤ R.frames ∧ 40 * (d + 1) ≤ R.locals) (hc0 : k ≤ R.cells ∧ n ≤ R.slots)
    (kk : AW z G R MC MS k n pn ls (vi x :: st) h' Q) : AW z G R MC MS k n pc ls st0 h Q :=
  AW.callV hf hn lk hh hM hst hnp hw hR hc0 (fun v u hq => by obtain ⟨rfl, rfl⟩ := hq; exact kk)
theorem AW.callVV {z' : ZM} {idx d np ci i : Nat} {fs : List AV} {as : List AV} {st0 : List AV} {h' : List AC} (hf : ftch z.2.2.2.2 pc = some (.invokevirtual idx, 3)) (hn : pc + 3 = pn) (lk : LVt z.1.cls idx z' np ci) (hh : h[i]? = some (ao ci fs)) (hM : MV z' d (vr i :: as) h h') (hst : st0 = as.reverse ++ vr i :: st) (hnp : as.length = np) (hw : (st.map acat).sum ≤ 8) (hR : d + 1 ≤ R.frames ∧ 40 * (d + 1) ≤ R.locals) (hc0 : k ≤ R.cells ∧ n ≤ R.slots)
    (kk : AW z G R MC MS k n pn ls st h' Q) : AW z G R MC MS k n pc ls st0 h Q :=
  AW.callV hf hn lk hh hM hst hnp hw hR hc0 (fun v u hq => by obtain ⟨rfl, rfl⟩ := hq; exact kk)
/-- a branch on a truth: ifeq goes where it doesn't hold -/
theorem AW.bz {P : Prop} [Decidable P] {off : Int} {tgt : Nat} (hf : ftch z.2.2.2.2 pc = some (.ifCond .eq off, 3)) (ht : (pc : Int) + off = (tgt : Int)) (hn : pc + 3 = pn)
    (kt : ¬ P → AW z G R MC MS k n tgt ls st h Q) (kf : P → AW z G R MC MS k n pn ls st h Q) : AW z G R MC MS k n pc ls (vi (bI P) :: st) h Q := by
  refine AW.br hf ht hn (bI_rng P) (fun q => kt (fun w => ?_)) (fun q => kf (Decidable.byContradiction (fun w => q ?_)))
  · have q : bI P = 0 := q
    rw [bI_t w] at q; cases q
  · show bI P = 0
    exact bI_f w
theorem AW.bnz {P : Prop} [Decidable P] {off : Int} {tgt : Nat} (hf : ftch z.2.2.2.2 pc = some (.ifCond .ne off, 3)) (ht : (pc : Int) + off = (tgt : Int)) (hn : pc + 3 = pn)
    (kt : P → AW z G R MC MS k n tgt ls st h Q) (kf : ¬ P → AW z G R MC MS k n pn ls st h Q) : AW z G R MC MS k n pc ls (vi (bI P) :: st) h Q := by
  refine AW.br hf ht hn (bI_rng P) (fun q => kt (Decidable.byContradiction (fun w => q ?_))) (fun q => kf (fun w => q ?_))
  · exact bI_f w
  · intro (w2 : bI P = 0)
    rw [bI_t w] at w2; cases w2
end Rules
