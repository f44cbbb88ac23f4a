theorem wArr : Cond.arrayClass .int ∈ gtb ∧ Cond.arrayClass .boolean ∈ gtb := ⟨gtb_in 75 (by decide +kernel) (by decide +kernel), gtb_in 453 (by decide +kernel) (by decide +kernel)⟩
theorem obC : Cond.instanceMethod objectInit ∈ gtb ∧ Cond.code objectInit ⟨#[0xb1]⟩ 1 none ∈ gtb := ⟨gtb_in 59 (by decide +kernel) (by decide +kernel), gtb_in 60 (by decide +kernel) (by decide +kernel)⟩
theorem obX0 : Cond.methodLink RX0 3 objectInit ∈ gtb ∧ Cond.instanceMethod objectInit ∈ gtb ∧ Cond.code objectInit ⟨#[0xb1]⟩ 1 none ∈ gtb := ⟨gtb_in 66 (by decide +kernel) (by decide +kernel), obC⟩
theorem obX1 : Cond.methodLink RX1 3 objectInit ∈ gtb ∧ Cond.instanceMethod objectInit ∈ gtb ∧ Cond.code objectInit ⟨#[0xb1]⟩ 1 none ∈ gtb := ⟨gtb_in 103 (by decide +kernel) (by decide +kernel), obC⟩
theorem obX2 : Cond.methodLink RX2 3 objectInit ∈ gtb ∧ Cond.instanceMethod objectInit ∈ gtb ∧ Cond.code objectInit ⟨#[0xb1]⟩ 1 none ∈ gtb := ⟨gtb_in 81 (by decide +kernel) (by decide +kernel), obC⟩
theorem obX3 : Cond.methodLink RX3 1 objectInit ∈ gtb ∧ Cond.instanceMethod objectInit ∈ gtb ∧ Cond.code objectInit ⟨#[0xb1]⟩ 1 none ∈ gtb := ⟨gtb_in 58 (by decide +kernel) (by decide +kernel), obC⟩
theorem obX4 : Cond.methodLink RX4 1 objectInit ∈ gtb ∧ Cond.instanceMethod objectInit ∈ gtb ∧ Cond.code objectInit ⟨#[0xb1]⟩ 1 none ∈ gtb := ⟨gtb_in 409 (by decide +kernel) (by decide +kernel), obC⟩
theorem wMna : Cond.classLink RX2 9 ("[" ++ (FieldType.array .int).toString) ∈ gtb ∧ Cond.arrayClass .int ∈ gtb := ⟨gtb_in 82 (by decide +kernel) (by decide +kernel), wArr.1⟩
theorem wImg : Cond.classLink RX3 16 RX2 ∈ gtb := gtb_in 76 (by decide +kernel) (by decide +kernel)
theorem fkX0_11 : ∀ q : vw_C, classes[0]? = some q → Cond.fieldLink RX0 11 (q.2.1 0).1 (q.2.1 0).2.1 (q.2.1 0).2.2.1 ∈ gtb := fun q hq => by cases hq; exact gtb_in 67 (by decide +kernel) (by decide +kernel)
theorem fkX2_11 : ∀ q : vw_C, classes[2]? = some q → Cond.fieldLink RX2 11 (q.2.1 0).1 (q.2.1 0).2.1 (q.2.1 0).2.2.1 ∈ gtb := fun q hq => by cases hq; exact gtb_in 84 (by decide +kernel) (by decide +kernel)
theorem fkX2_16 : ∀ q : vw_C, classes[2]? = some q → Cond.fieldLink RX2 16 (q.2.1 1).1 (q.2.1 1).2.1 (q.2.1 1).2.2.1 ∈ gtb := fun q hq => by cases hq; exact gtb_in 86 (by decide +kernel) (by decide +kernel)
theorem fkX1_9 : ∀ q : vw_C, classes[1]? = some q → Cond.fieldLink RX1 9 (q.2.1 0).1 (q.2.1 0).2.1 (q.2.1 0).2.2.1 ∈ gtb := fun q hq => by cases hq; exact gtb_in 104 (by decide +kernel) (by decide +kernel)
theorem fkX1_15 : ∀ q : vw_C, classes[1]? = some q → Cond.fieldLink RX1 15 (q.2.1 1).1 (q.2.1 1).2.1 (q.2.1 1).2.2.1 ∈ gtb := fun q hq => by cases hq; exact gtb_in 105 (by decide +kernel) (by decide +kernel)
theorem fkX3_10 : ∀ q : vw_C, classes[3]? = some q → Cond.fieldLink RX3 10 (q.2.1 0).1 (q.2.1 0).2.1 (q.2.1 0).2.2.1 ∈ gtb := fun q hq => by cases hq; exact gtb_in 123 (by decide +kernel) (by decide +kernel)
theorem fkX3_19 : ∀ q : vw_C, classes[3]? = some q → Cond.fieldLink RX3 19 (q.2.1 1).1 (q.2.1 1).2.1 (q.2.1 1).2.2.1 ∈ gtb := fun q hq => by cases hq; exact gtb_in 124 (by decide +kernel) (by decide +kernel)
theorem fkX3_23 : ∀ q : vw_C, classes[3]? = some q → Cond.fieldLink RX3 23 (q.2.1 2).1 (q.2.1 2).2.1 (q.2.1 2).2.2.1 ∈ gtb := fun q hq => by cases hq; exact gtb_in 125 (by decide +kernel) (by decide +kernel)
theorem fkX3_30 : ∀ q : vw_C, classes[3]? = some q → Cond.fieldLink RX3 30 (q.2.1 3).1 (q.2.1 3).2.1 (q.2.1 3).2.2.1 ∈ gtb := fun q hq => by cases hq; exact gtb_in 126 (by decide +kernel) (by decide +kernel)
theorem fkX3_34 : ∀ q : vw_C, classes[3]? = some q → Cond.fieldLink RX3 34 (q.2.1 4).1 (q.2.1 4).2.1 (q.2.1 4).2.2.1 ∈ gtb := fun q hq => by cases hq; exact gtb_in 127 (by decide +kernel) (by decide +kernel)
theorem fkX4_7 : ∀ q : vw_C, classes[4]? = some q → Cond.fieldLink RX4 7 (q.2.1 0).1 (q.2.1 0).2.1 (q.2.1 0).2.2.1 ∈ gtb := fun q hq => by cases hq; exact gtb_in 410 (by decide +kernel) (by decide +kernel)
theorem fkX4_13 : ∀ q : vw_C, classes[4]? = some q → Cond.fieldLink RX4 13 (q.2.1 1).1 (q.2.1 1).2.1 (q.2.1 1).2.2.1 ∈ gtb := fun q hq => by cases hq; exact gtb_in 411 (by decide +kernel) (by decide +kernel)
theorem fkX4_16 : ∀ q : vw_C, classes[4]? = some q → Cond.fieldLink RX4 16 (q.2.1 2).1 (q.2.1 2).2.1 (q.2.1 2).2.2.1 ∈ gtb := fun q hq => by cases hq; exact gtb_in 412 (by decide +kernel) (by decide +kernel)
theorem fkX4_19 : ∀ q : vw_C, classes[4]? = some q → Cond.fieldLink RX4 19 (q.2.1 5).1 (q.2.1 5).2.1 (q.2.1 5).2.2.1 ∈ gtb := fun q hq => by cases hq; exact gtb_in 415 (by decide +kernel) (by decide +kernel)
theorem fkX4_22 : ∀ q : vw_C, classes[4]? = some q → Cond.fieldLink RX4 22 (q.2.1 6).1 (q.2.1 6).2.1 (q.2.1 6).2.2.1 ∈ gtb := fun q hq => by cases hq; exact gtb_in 416 (by decide +kernel) (by decide +kernel)
theorem fkX4_25 : ∀ q : vw_C, classes[4]? = some q → Cond.fieldLink RX4 25 (q.2.1 7).1 (q.2.1 7).2.1 (q.2.1 7).2.2.1 ∈ gtb := fun q hq => by cases hq; exact gtb_in 417 (by decide +kernel) (by decide +kernel)
theorem fkX4_28 : ∀ q : vw_C, classes[4]? = some q → Cond.fieldLink RX4 28 (q.2.1 9).1 (q.2.1 9).2.1 (q.2.1 9).2.2.1 ∈ gtb := fun q hq => by cases hq; exact gtb_in 419 (by decide +kernel) (by decide +kernel)
theorem fkX4_31 : ∀ q : vw_C, classes[4]? = some q → Cond.fieldLink RX4 31 (q.2.1 10).1 (q.2.1 10).2.1 (q.2.1 10).2.2.1 ∈ gtb := fun q hq => by cases hq; exact gtb_in 420 (by decide +kernel) (by decide +kernel)
theorem fkX4_34 : ∀ q : vw_C, classes[4]? = some q → Cond.fieldLink RX4 34 (q.2.1 11).1 (q.2.1 11).2.1 (q.2.1 11).2.2.1 ∈ gtb := fun q hq => by cases hq; exact gtb_in 421 (by decide +kernel) (by decide +kernel)
theorem noPad : NO RX3 7 0 [vn, vi 0] 2 := ⟨RX0, TX0, tyX0, rfl, fc0, tyX0_ok, gtb_in 61 (by decide +kernel) (by decide +kernel), gtb_in 62 (by decide +kernel) (by decide +kernel), gtb_in 46 (by decide +kernel) (by decide +kernel), fun ρ j hj => by match j, hj with | 0, _ => rfl | 1, _ => rfl⟩
theorem noStore : NO RX3 16 2 [vn, vn, vi 0] 3 := ⟨RX2, TX2, tyX2, rfl, fc2, tyX2_ok, gtb_in 76 (by decide +kernel) (by decide +kernel), gtb_in 77 (by decide +kernel) (by decide +kernel), gtb_in 47 (by decide +kernel) (by decide +kernel), fun ρ j hj => by match j, hj with | 0, _ => rfl | 1, _ => rfl | 2, _ => rfl⟩
theorem noSeg : NO RX3 27 1 [vn, vn, vi 0, vi 0, vi 0, vi 0] 6 := ⟨RX1, TX1, tyX1, rfl, fc1, tyX1_ok, gtb_in 98 (by decide +kernel) (by decide +kernel), gtb_in 99 (by decide +kernel) (by decide +kernel), gtb_in 48 (by decide +kernel) (by decide +kernel), fun ρ j hj => by match j, hj with | 0, _ => rfl | 1, _ => rfl | 2, _ => rfl | 3, _ => rfl | 4, _ => rfl | 5, _ => rfl⟩
theorem noForms : NO RL 7 3 [vn, vn, vn, vn, vn] 5 := ⟨RX3, TX3, tyX3, rfl, fc3, tyX3_ok, gtb_in 53 (by decide +kernel) (by decide +kernel), gtb_in 54 (by decide +kernel) (by decide +kernel), gtb_in 45 (by decide +kernel) (by decide +kernel), fun ρ j hj => by match j, hj with | 0, _ => rfl | 1, _ => rfl | 2, _ => rfl | 3, _ => rfl | 4, _ => rfl⟩
theorem noModel : NO RL 10 4 [vn, vn, vn, vi 0, vi 0, vn, vn, vn, vi 0, vn, vn, vn, vi 0, vi 0] 14 := ⟨RX4, TX4, tyX4, rfl, fc4, tyX4_ok, gtb_in 404 (by decide +kernel) (by decide +kernel), gtb_in 405 (by decide +kernel) (by decide +kernel), gtb_in 49 (by decide +kernel) (by decide +kernel), fun ρ j hj => by match j, hj with | 0, _ => rfl | 1, _ => rfl | 2, _ => rfl | 3, _ => rfl | 4, _ => rfl | 5, _ => rfl | 6, _ => rfl | 7, _ => rfl | 8, _ => rfl | 9, _ => rfl | 10, _ => rfl | 11, _ => rfl | 12, _ => rfl | 13, _ => rfl⟩
def lsl (n : Nat) : List (Nat × AV) → Prop
  | [] => True
  | q :: l => lim n q.2 ∧ lsl n l
theorem lsl_ok {n : Nat} : ∀ {l : List (Nat × AV)}, lsl n l → ∀ q ∈ l, lim n q.2
  | [], _, q, h => by cases h
  | r :: l, h, q, hq => by
    rcases List.mem_cons.mp hq with rfl | hq
    · exact h.1
    · exact lsl_ok h.2 q hq
def stl (n : Nat) : List AV → Prop
  | [] => True
  | q :: l => lim n q ∧ stl n l
theorem stl_ok {n : Nat} : ∀ {l : List AV}, stl n l → ∀ q ∈ l, lim n q
  | [], _, q, h => by cases h
  | r :: l, h, q, hq => by
    rcases List.mem_cons.mp hq with rfl | hq
    · exact h.1
    · exact stl_ok h.2 q hq
theorem app_old {h E : List AC} {i : Nat} {c : AC} (hi : h[i]? = some c) : (h ++ E)[i]? = some c := by
  rw [List.getElem?_append_left (List.getElem?_eq_some_iff.mp hi).1]; exact hi
theorem lim_mono {n n' : Nat} (h : n ≤ n') {v : AV} (hv : lim n v) : lim n' v := by
  rcases v with a | a | (_ | i)
  · trivial
  · trivial
  · trivial
  · exact Nat.lt_of_lt_of_le hv h
theorem mem_set_lim {n : Nat} {fs : List AV} {j : Nat} {v : AV} (hf : ∀ x ∈ fs, lim n x) (hv : lim n v) : ∀ x ∈ fs.set j v, lim n x := by
  intro x hx
  rcases List.mem_or_eq_of_mem_set hx with q | q
  · exact hf x q
  · rw [q]; exact hv
theorem obj_lim {h : List AC} (hc : clo h) {i ci : Nat} {fs : List AV} (hi : h[i]? = some (ao ci fs)) : ∀ x ∈ fs, lim h.length x := hc _ (List.mem_of_getElem? hi)
theorem clo_of {u : List AC} (h : ∀ (j : Nat) (e : AC), u[j]? = some e → limC u.length e) : clo u := by
  intro e he
  obtain ⟨j, hj⟩ := List.getElem?_of_mem he
  exact h j e hj
theorem clo_at {u : List AC} (h : clo u) {j : Nat} {e : AC} (hj : u[j]? = some e) : limC u.length e := h e (List.mem_of_getElem? hj)
section Rules
variable {z : ZM} {R : Room} {MC MS k n pc pn p2 n0 : Nat} {ls : List (Nat × AV)} {st : List AV} {h : List AC} {Q : Option Int → List AC → Prop}
theorem AW.putS {G : GG} {idx ci j i : Nat} {ty : FieldType} {fs : List AV} {v v0 : AV} (hf : ftch z.2.2.2.2 pc = some (.putfield idx, 3)) (hn : pc + 3 = pn) (fl : FL z.1.cls idx ci j ty false) (hh : h[i]? = some (ao ci fs)) (hv : fs[j]? = some v0) (hs : fs.set j v = fs) (ok : okv ty v)
    (kk : AW z G R MC MS k n pn ls st h Q) : AW z G R MC MS k n pc ls (v :: vr i :: st) h Q := by
  refine AW.putf hf hn fl hh hv ok ?_
  rw [hs, set_same hh]
  exact kk
/-- a new array, put into a final field -/
theorem AW.arrF {N t idx ci j i : Nat} {aty : ArrayType} {ty : FieldType} {fs : List AV} {v0 : AV} (hf : ftch z.2.2.2.2 pc = some (.newarray aty, 2)) (hn : pc + 2 = p2) (hty : (aty = .int ∧ t = 0) ∨ (aty = .boolean ∧ t = 1)) (hN : N ≤ 1000) (hf2 : ftch z.2.2.2.2 p2 = some (.putfield idx, 3)) (hn2 : p2 + 3 = pn) (fl : FL z.1.cls idx ci j ty true) (hown2 : (classes[ci]?).map (fun q => q.1) = some z.1.cls) (hlk2 : ∀ q : vw_C, classes[ci]? = some q → Cond.fieldLink z.1.cls idx (q.2.1 j).1 (q.2.1 j).2.1 (q.2.1 j).2.2.1 ∈ gtb) (hinit : z.1.name = "<init>") (hh : h[i]? = some (ao ci fs)) (hv : fs[j]? = some v0) (ok : okv ty (vr h.length)) (hcl : clo h) (hls : lsl h.length ls) (hst : stl h.length st) (h0 : n0 ≤ h.length) (hr : k + 1 ≤ R.cells ∧ n + N ≤ R.slots)
    (kk : ∀ u : List AC, u.length = h.length + 1 → (∀ x : Nat, x ≠ i → x < h.length → u[x]? = h[x]?) → u[i]? = some (ao ci (fs.set j (vr h.length))) → u[h.length]? = some (ai t N (fun _ => 0)) → clo u → AW z (agr n0) R MC MS (k + 1) (n + N) pn ls st u Q) : AW z (agr n0) R MC MS k n pc ls (vi (N : Int) :: vr i :: st) h Q := by
  have hil : i < h.length := (List.getElem?_eq_some_iff.mp hh).1
  refine AW.newa (ty := ty) hf hn hty wArr hN hcl (lsl_ok hls) (stl_ok (l := vr i :: st) ⟨hil, hst⟩) h0 hr ?_
  refine AW.putF hf2 hn2 fl hown2 hlk2 hinit (app_old hh) hv ok ?_
  refine kk _ (by rw [List.length_set, List.length_append]; rfl) (fun x hx hl => ?_) (set_self (app_old hh)) ?_ ?_
  · rw [List.getElem?_set_ne (fun q => hx q.symm), List.getElem?_append_left hl]
  · rw [List.getElem?_set_ne (by omega), List.getElem?_append_right (Nat.le_refl _), Nat.sub_self]; rfl
  · refine clo_set (clo_push (e := ai t N (fun _ => 0)) hcl trivial) ?_
    rw [List.length_append]
    exact mem_set_lim (fun x hx => lim_mono (Nat.le_succ _) (obj_lim hcl hh x hx)) (Nat.lt_succ_self _)
/-- a new object that its constructor fills: what stands behind it -/
theorem AW.objN {Q' : Option Int → List AC → Prop} {z' : ZM} {idx idx2 ci N d mc ms : Nat} {fs : List AV} (hf : ftch z.2.2.2.2 pc = some (.new idx, 3)) (hn : pc + 3 = p2) (hd1 : ftch z.2.2.2.2 p2 = some (.dup, 1)) (hf2 : ftch z.2.2.2.2 (p2 + 1) = some (.invokespecial idx2, 3)) (hn2 : p2 + 4 = pn) (hw : NO z.1.cls idx ci fs N) (hfs : ∀ v ∈ fs, lim 0 v) (lk : LKc z.1.cls idx2 z' 0 ∧ Cond.instanceMethod z'.1 ∈ gtb) (hin : z'.1.name = "<init>" ∧ z'.2.2.2.1 = none) (hM : M1 z' d mc ms [vr h.length] (h ++ [ao ci fs]) Q') (hcl : clo h) (hls : lsl h.length ls) (hst : stl h.length st) (h0 : n0 ≤ h.length) (hws : ((vr h.length :: st).map acat).sum ≤ 8) (hR : d + 1 ≤ R.frames ∧ 40 * (d + 1) ≤ R.locals) (hr : k + 1 + mc ≤ R.cells ∧ n + N + ms ≤ R.slots)
    (kk : ∀ u, Q' none u → AW z (agr n0) R MC MS (k + 1 + mc) (n + N + ms) pn ls (vr h.length :: st) u Q) (hq0 : ∀ a u, ¬ Q' (some a) u) : AW z (agr n0) R MC MS k n pc ls st h Q := by
  refine AW.newo hf hn hw hfs hcl (lsl_ok hls) (stl_ok hst) h0 (by omega) ?_
  refine AW.p1 (pc' := p2 + 1) (ls' := ls) (st' := vr h.length :: vr h.length :: st) ?_ ?_
  · unfold pst; rw [hd1]; rfl
  · have hl1 : (h ++ [ao ci fs]).length = h.length + 1 := by rw [List.length_append]; rfl
    refine AW.callI hf2 (by omega) lk hin hM (fun q hq => ?_) (fun q hq => ?_) (by omega) hws hR (by omega) kk hq0
    · rw [hl1]; exact lim_mono (Nat.le_succ _) (lsl_ok hls q hq)
    · rw [hl1]
      rcases List.mem_cons.mp hq with rfl | hq
      · exact Nat.lt_succ_self _
      · exact lim_mono (Nat.le_succ _) (stl_ok hst q hq)
end Rules

theorem c_X0_init (d : Nat) (hd : 1 ≤ d) (h : List AC) (i : Nat) (hi : h[i]? = some (ao 0 [vn, vi 0])) (hc : clo h) : M1 zX0_init d 1 20 [vr i] h (fun v u => v = none ∧ u.length = h.length + 1 ∧ (∀ x : Nat, x ≠ i → x < h.length → u[x]? = h[x]?) ∧ u[i]? = some (ao 0 [vr h.length, vi 0]) ∧ u[h.length]? = some (ai 0 20 (fun _ => 0)) ∧ clo u) := by
  refine M1.of okX0_init (Nat.le_of_ble_eq_true rfl) rfl ?_
  have hil : i < h.length := (List.getElem?_eq_some_iff.mp hi).1
  refine AW.go 1 (pc' := 1) rfl ?_
  refine AW.objI (pn := 4) rfl rfl obX0 ⟨by show 1 ≤ d; omega, by show _ ≤ 40 * d; simp; omega⟩ ?_
  refine AW.go 2 (pc' := 7) rfl ?_
  refine AW.arrF (N := 20) (p2 := 9) (pn := 12) (t := 0) rfl rfl (Or.inl ⟨rfl, rfl⟩) (by decide) rfl rfl flX0_11 rfl fkX0_11 rfl hi rfl trivial hc (And.intro hil trivial) trivial (Nat.le_refl _) ⟨by show 0 + 1 ≤ 1; decide, by show 0 + 20 ≤ 20; decide⟩ ?_
  intro u ul uf ui un uc
  refine AW.go 2 (pc' := 14) rfl ?_
  refine AW.putS (pn := 17) rfl rfl flX0_15 ui rfl rfl trivial ?_
  refine AW.retv rfl rfl (by decide) (by decide) ?_
  exact ⟨rfl, ul, uf, ui, un, uc⟩
theorem c_X1_init (d : Nat) (hd : 1 ≤ d) (h : List AC) (i : Nat) (hi : h[i]? = some (ao 1 [vn, vn, vi 0, vi 0, vi 0, vi 0])) (hc : clo h) : M1 zX1_init d 2 96 [vr i] h (fun v u => v = none ∧ u.length = h.length + 2 ∧ (∀ x : Nat, x ≠ i → x < h.length → u[x]? = h[x]?) ∧ u[i]? = some (ao 1 [vr h.length, vr (h.length + 1), vi 0, vi 0, vi 0, vi 0]) ∧ u[h.length]? = some (ai 0 48 (fun _ => 0)) ∧ u[h.length + 1]? = some (ai 0 48 (fun _ => 0)) ∧ clo u) := by
  refine M1.of okX1_init (Nat.le_of_ble_eq_true rfl) rfl ?_
  have hil : i < h.length := (List.getElem?_eq_some_iff.mp hi).1
  refine AW.go 1 (pc' := 1) rfl ?_
  refine AW.objI (pn := 4) rfl rfl obX1 ⟨by show 1 ≤ d; omega, by show _ ≤ 40 * d; simp; omega⟩ ?_
  refine AW.go 2 (pc' := 7) rfl ?_
  refine AW.arrF (N := 48) (p2 := 9) (pn := 12) (t := 0) rfl rfl (Or.inl ⟨rfl, rfl⟩) (by decide) rfl rfl flX1_9 rfl fkX1_9 rfl hi rfl trivial hc (And.intro hil trivial) trivial (Nat.le_refl _) ⟨by show 0 + 1 ≤ 2; decide, by show 0 + 48 ≤ 96; decide⟩ ?_
  intro u ul uf ui un uc
  refine AW.go 2 (pc' := 15) rfl ?_
  refine AW.arrF (N := 48) (p2 := 17) (pn := 20) (t := 0) rfl rfl (Or.inl ⟨rfl, rfl⟩) (by decide) rfl rfl flX1_15 rfl fkX1_15 rfl ui rfl trivial uc (And.intro (show i < u.length by omega) trivial) trivial (by omega) ⟨by show 0 + 1 + 1 ≤ 2; decide, by show 0 + 48 + 48 ≤ 96; decide⟩ ?_
  intro w wl wf wi wn wc
  rw [ul] at wi wn wl
  refine AW.go 2 (pc' := 22) rfl ?_
  refine AW.putS (pn := 25) rfl rfl flX1_18 wi rfl rfl trivial ?_
  refine AW.go 2 (pc' := 27) rfl ?_
  refine AW.putS (pn := 30) rfl rfl flX1_22 wi rfl rfl trivial ?_
  refine AW.go 2 (pc' := 32) rfl ?_
  refine AW.putS (pn := 35) rfl rfl flX1_25 wi rfl rfl trivial ?_
  refine AW.go 2 (pc' := 37) rfl ?_
  refine AW.putS (pn := 40) rfl rfl flX1_28 wi rfl rfl trivial ?_
  refine AW.retv rfl rfl (by decide) (by decide) ?_
  refine ⟨rfl, wl, fun x hx hl => ?_, wi, ?_, wn, wc⟩
  · rw [wf x hx (by omega)]; exact uf x hx hl
  · rw [wf h.length (by omega) (by omega)]; exact un
