section Rules
variable {z : ZM} {R : Room} {MC MS k n pc pn p2 n0 : Nat} {ls : List (Nat × AV)} {st : List AV} {h : List AC} {Q : Option Int → List AC → Prop}
theorem AW.putFA {G : GG} {idx ci j i : Nat} {ty : FieldType} {fs : List AV} {v v0 : AV} (hf : ftch z.2.2.2.2 pc = some (.putfield idx, 3)) (hn : pc + 3 = pn) (fl : FL z.1.cls idx ci j ty true) (hown2 : (classes[ci]?).map (fun q => q.1) = some z.1.cls) (hlk2 : ∀ q : vw_C, classes[ci]? = some q → Cond.fieldLink z.1.cls idx (q.2.1 j).1 (q.2.1 j).2.1 (q.2.1 j).2.2.1 ∈ gtb) (hinit : z.1.name = "<init>") (hh : h[i]? = some (ao ci fs)) (hv : fs[j]? = some v0) (ok : okv ty v) (hcl : clo h) (hlv : lim h.length v)
    (kk : ∀ w : List AC, w.length = h.length → (∀ x : Nat, x ≠ i → w[x]? = h[x]?) → w[i]? = some (ao ci (fs.set j v)) → clo w → AW z G R MC MS k n pn ls st w Q) : AW z G R MC MS k n pc ls (v :: vr i :: st) h Q := by
  refine AW.putF hf hn fl hown2 hlk2 hinit hh hv ok ?_
  exact kk _ (List.length_set ..) (fun x hx => List.getElem?_set_ne (fun q => hx q.symm)) (set_self hh) (clo_set hcl (mem_set_lim (obj_lim hcl hh) hlv))
theorem AW.newqA {N idx : Nat} (hf : ftch z.2.2.2.2 pc = some (.anewarray idx, 3)) (hn : pc + 3 = pn) (hw : Cond.classLink z.1.cls idx RX2 ∈ gtb) (hN : N ≤ 1000) (hcl : clo h) (hls : lsl h.length ls) (hst : stl h.length st) (h0 : n0 ≤ h.length) (hr : k + 1 ≤ R.cells ∧ n + N ≤ R.slots)
    (kk : ∀ w : List AC, w.length = h.length + 1 → (∀ x : Nat, x < h.length → w[x]? = h[x]?) → w[h.length]? = some (aq 2 N (fun _ => none)) → clo w → AW z (agr n0) R MC MS (k + 1) (n + N) pn ls (vr h.length :: st) w Q) : AW z (agr n0) R MC MS k n pc ls (vi (N : Int) :: st) h Q := by
  refine AW.newq hf hn hw hN hcl (lsl_ok hls) (stl_ok hst) h0 hr ?_
  refine kk _ (by rw [List.length_append]; rfl) (fun x hx => List.getElem?_append_left hx) ?_ (clo_push hcl (fun j q hq => by cases hq))
  rw [List.getElem?_append_right (Nat.le_refl _), Nat.sub_self]; rfl
theorem AW.aastA {G : GG} {i q N : Nat} {f : Nat → Option Nat} {fs : List AV} {a : Int} (hf : ftch z.2.2.2.2 pc = some (.aastore, 1)) (hn : pc + 1 = pn) (hh : h[i]? = some (aq 2 N f)) (hq : h[q]? = some (ao 2 fs)) (hN : N ≤ 2147483648) (h0 : 0 ≤ a) (h1 : a < N) (hcl : clo h)
    (kk : ∀ w : List AC, w.length = h.length → (∀ x : Nat, x ≠ i → w[x]? = h[x]?) → w[i]? = some (aq 2 N (up f a.toNat (some q))) → clo w → AW z G R MC MS k n pn ls st w Q) : AW z G R MC MS k n pc ls (vr q :: vi a :: vr i :: st) h Q := by
  refine AW.aast hf hn hh hq rfl hN h0 h1 ?_
  refine kk _ (List.length_set ..) (fun x hx => List.getElem?_set_ne (fun q => hx q.symm)) (set_self hh) (clo_set hcl (fun j x hx => ?_))
  have hx : up f a.toNat (some q) j = some x := hx
  unfold up at hx
  split at hx
  · cases hx; exact (List.getElem?_eq_some_iff.mp hq).1
  · exact clo_at hcl hh j x hx
end Rules
abbrev rows0 : Nat → Nat → Int := fun _ => mix rise zer 12
abbrev pat0 : Nat → Int := mix hole zer 12
theorem SP.st {h u : List AC} {S : Nat} (a : SP h u S 12 12 0) : St u S 0 rows0 pat0 := ⟨a.2.2.1, a.2.2.2.1, fun i hi => by rw [a.2.2.2.2.1 i hi, if_neg (Nat.not_lt_zero _)], a.2.2.2.2.2.1⟩
def CI (u : List AC) : Prop := u.length = 29 ∧ u[0]? = some (ao 3 [vr 1, vr 3, vr 10, vr 25, vr 28]) ∧ u[1]? = some (ao 0 [vr 2, vi 0]) ∧ u[2]? = some (ai 0 20 zer) ∧ St u 3 0 rows0 pat0 ∧ u[10]? = some (aq 2 2 imS) ∧ St u 11 0 rows0 pat0 ∧ St u 18 0 rows0 pat0 ∧ u[25]? = some (ao 1 [vr 26, vr 27, vi 0, vi 0, vi 0, vi 0]) ∧ u[26]? = some (ai 0 48 zer) ∧ u[27]? = some (ai 0 48 zer) ∧ u[28]? = some (ai 0 12 zer) ∧ clo u
theorem imS_eq : up (up (fun _ => none) (0 : Int).toNat (some 11)) ((0 : Int) + 1).toNat (some 18) = imS := by
  funext i
  unfold up imS
  by_cases h0 : i = 0
  · subst h0; rfl
  · by_cases h1 : i = 1
    · subst h1; rfl
    · rw [if_neg (show ¬ i = ((0 : Int) + 1).toNat from h1), if_neg (show ¬ i = (0 : Int).toNat from h0), if_neg (by omega)]

set_option maxHeartbeats 4000000 in
theorem c_X3_init (d : Nat) (hd : 2 ≤ d) : M1 zX3_init d 28 339 [vr 0] [ao 3 [vn, vn, vn, vn, vn]] (fun v u => v = none ∧ CI u) := by
  refine M1.of okX3_init (Nat.le_of_ble_eq_true rfl) rfl ?_
  have hc0 : clo [ao 3 [vn, vn, vn, vn, vn]] := by
    intro e he
    rw [List.mem_singleton.mp he]
    intro v hv
    simp only [List.mem_cons, List.not_mem_nil, or_false, or_self] at hv
    rw [hv]; trivial
  generalize hh : ([ao 3 [vn, vn, vn, vn, vn]] : List AC) = h at hc0 ⊢
  have hl : h.length = 1 := by rw [← hh]; rfl
  have h0 : h[0]? = some (ao 3 [vn, vn, vn, vn, vn]) := by rw [← hh]; rfl
  refine AW.go 1 (pc' := 1) rfl ?_
  refine AW.objI (pn := 4) rfl rfl obX3 ⟨by show 1 ≤ d; omega, by show _ ≤ 40 * d; simp; omega⟩ ?_
  refine AW.go 1 (pc' := 5) rfl ?_
  -- pad
  refine AW.objN (p2 := 8) (pn := 12) rfl rfl rfl rfl rfl noPad (by intro v hv; simp only [List.mem_cons, List.not_mem_nil, or_false] at hv; rcases hv with rfl | rfl <;> trivial) mlX3_9 ⟨rfl, rfl⟩ (c_X0_init (d - 1) (by omega) _ h.length (by rw [List.getElem?_append_right (Nat.le_refl _), Nat.sub_self]; rfl) (clo_push hc0 (by intro v hv; simp only [List.mem_cons, List.not_mem_nil, or_false] at hv; rcases hv with rfl | rfl <;> trivial))) hc0 (And.intro (show 0 < h.length by omega) trivial) (And.intro (show 0 < h.length by omega) trivial) (Nat.le_refl _) (Nat.le_of_ble_eq_true rfl) ⟨by show d - 1 + 1 ≤ d; omega, by show 40 * (d - 1 + 1) ≤ 40 * d; omega⟩ ⟨by show _ ≤ 28; decide, by show _ ≤ 339; decide⟩ ?_ (fun a u q => by cases q.1)
  rintro u ⟨-, ul, uf, ui, un, uc⟩
  have l1 : (h ++ [ao 0 [vn, vi 0]]).length = 2 := by rw [List.length_append, hl]; rfl
  rw [l1] at ul un ui
  rw [hl] at ui uf
  have u0 : u[0]? = some (ao 3 [vn, vn, vn, vn, vn]) := by rw [uf 0 (by decide) (by rw [l1]; decide)]; exact app_old h0
  rw [show h.length = 1 from hl]
  refine AW.putFA (pn := 15) rfl rfl flX3_10 rfl fkX3_10 rfl u0 rfl trivial uc (show 1 < u.length by omega) ?_
  intro w wl wf w0 wc
  have w1 : w[1]? = some (ao 0 [vr 2, vi 0]) := by rw [wf 1 (by decide)]; exact ui
  have w2 : w[2]? = some (ai 0 20 zer) := by rw [wf 2 (by decide)]; exact un
  clear ui un uf u0
  have wl : w.length = 3 := by omega
  refine AW.go 1 (pc' := 16) rfl ?_
  -- now
  refine AW.objN (p2 := 19) (pn := 23) rfl rfl rfl rfl rfl noStore (by intro v hv; simp only [List.mem_cons, List.not_mem_nil, or_false] at hv; rcases hv with rfl | rfl | rfl <;> trivial) mlX3_18 ⟨rfl, rfl⟩ (c_X2_init (d - 1) (by omega) _ w.length (by rw [List.length_append]; rfl) (by rw [List.getElem?_append_right (Nat.le_refl _), Nat.sub_self]; rfl) (clo_push wc (by intro v hv; simp only [List.mem_cons, List.not_mem_nil, or_false] at hv; rcases hv with rfl | rfl | rfl <;> trivial))) wc (And.intro (show 0 < w.length by omega) trivial) (And.intro (show 0 < w.length by omega) trivial) (by omega) (Nat.le_of_ble_eq_true rfl) ⟨by show d - 1 + 1 ≤ d; omega, by show 40 * (d - 1 + 1) ≤ 40 * d; omega⟩ ⟨by show _ ≤ 28; decide, by show _ ≤ 339; decide⟩ ?_ (fun a u q => by cases q.1)
  rintro a ⟨-, hSP⟩
  rw [wl] at hSP ⊢
  have aS := hSP.st
  have al : a.length = 10 := hSP.1
  have ac : clo a := hSP.2.2.2.2.2.2
  have af : ∀ x, x < 3 → a[x]? = w[x]? := fun x hx => by rw [hSP.2.1 x hx, List.getElem?_append_left (by omega)]
  have a0 : a[0]? = _ := (af 0 (by decide)).trans w0
  have a1 : a[1]? = _ := (af 1 (by decide)).trans w1
  have a2 : a[2]? = _ := (af 2 (by decide)).trans w2
  clear hSP af
  refine AW.putFA (pn := 26) rfl rfl flX3_19 rfl fkX3_19 rfl a0 rfl trivial ac (show 3 < a.length by omega) ?_
  intro b bl bf b0 bc
  have b1 : b[1]? = _ := (bf 1 (by decide)).trans a1
  have b2 : b[2]? = _ := (bf 2 (by decide)).trans a2
  have bS : St b 3 0 rows0 pat0 := aS.kept (fun j h1 h2 => bf j (by omega))
  have bl : b.length = 10 := by omega
  clear a0 a1 a2 aS bf
  -- images
  refine AW.go 2 (pc' := 28) rfl ?_
  refine AW.newqA (N := 2) (pn := 31) rfl rfl wImg (by decide) bc (And.intro (show 0 < b.length by omega) trivial) (And.intro (show 0 < b.length by omega) trivial) (by omega) ⟨by show _ ≤ 28; decide, by show _ ≤ 339; decide⟩ ?_
  intro e el ef en ec
  rw [bl] at en ⊢
  have e0 : e[0]? = _ := (ef 0 (by omega)).trans b0
  have e1 : e[1]? = _ := (ef 1 (by omega)).trans b1
  have e2 : e[2]? = _ := (ef 2 (by omega)).trans b2
  have eS : St e 3 0 rows0 pat0 := bS.kept (fun j h1 h2 => ef j (by omega))
  clear b0 b1 b2 bS ef
  refine AW.putFA (pn := 34) rfl rfl flX3_23 rfl fkX3_23 rfl e0 rfl trivial ec (show 10 < e.length by omega) ?_
  intro f fl ff f0 fc
  have f1 : f[1]? = _ := (ff 1 (by decide)).trans e1
  have f2 : f[2]? = _ := (ff 2 (by decide)).trans e2
  have fS : St f 3 0 rows0 pat0 := eS.kept (fun j h1 h2 => ff j (by omega))
  have f10 : f[10]? = _ := (ff 10 (by decide)).trans en
  have fl : f.length = 11 := by omega
  clear e0 e1 e2 eS ff en
  refine AW.go 4 (pc' := 38) rfl ?_
  refine AW.bi (tgt := 60) (pn := 41) rfl (by decide) rfl ⟨by omega, by omega⟩ ⟨by omega, by omega⟩ (fun c => absurd c (by show ¬ (2 : Int) ≤ 0; decide)) (fun c => ?_)
  refine AW.go 1 (pc' := 42) rfl ?_
  refine AW.getf (pn := 45) rfl rfl flX3_23 f0 rfl ?_
  refine AW.go 1 (pc' := 46) rfl ?_
  refine AW.objN (p2 := 49) (pn := 53) rfl rfl rfl rfl rfl noStore (by intro v hv; simp only [List.mem_cons, List.not_mem_nil, or_false] at hv; rcases hv with rfl | rfl | rfl <;> trivial) mlX3_18 ⟨rfl, rfl⟩ (c_X2_init (d - 1) (by omega) _ f.length (by rw [List.length_append]; rfl) (by rw [List.getElem?_append_right (Nat.le_refl _), Nat.sub_self]; rfl) (clo_push fc (by intro v hv; simp only [List.mem_cons, List.not_mem_nil, or_false] at hv; rcases hv with rfl | rfl | rfl <;> trivial))) fc (And.intro trivial (And.intro (show 0 < f.length by omega) trivial)) (And.intro trivial (And.intro (show 10 < f.length by omega) trivial)) (by omega) (Nat.le_of_ble_eq_true rfl) ⟨by show d - 1 + 1 ≤ d; omega, by show 40 * (d - 1 + 1) ≤ 40 * d; omega⟩ ⟨by show _ ≤ 28; decide, by show _ ≤ 339; decide⟩ ?_ (fun a u q => by cases q.1)
  rintro g ⟨-, hSP⟩
  rw [fl] at hSP ⊢
  have gT := hSP.st
  have gl : g.length = 18 := hSP.1
  have gc : clo g := hSP.2.2.2.2.2.2
  have gf : ∀ x, x < 11 → g[x]? = f[x]? := fun x hx => by rw [hSP.2.1 x hx, List.getElem?_append_left (by omega)]
  have g0 : g[0]? = _ := (gf 0 (by decide)).trans f0
  have g1 : g[1]? = _ := (gf 1 (by decide)).trans f1
  have g2 : g[2]? = _ := (gf 2 (by decide)).trans f2
  have g10 : g[10]? = _ := (gf 10 (by decide)).trans f10
  have gS : St g 3 0 rows0 pat0 := fS.kept (fun j h1 h2 => gf j (by omega))
  clear hSP gf f0 f1 f2 f10 fS
  refine AW.aastA (pn := 54) rfl rfl g10 gT.1 (by decide) (by decide) (by decide) gc ?_
  intro i il iff' i10 ic
  have i0 : i[0]? = _ := (iff' 0 (by decide)).trans g0
  have i1 : i[1]? = _ := (iff' 1 (by decide)).trans g1
  have i2 : i[2]? = _ := (iff' 2 (by decide)).trans g2
  have iS : St i 3 0 rows0 pat0 := gS.kept (fun j h1 h2 => iff' j (by omega))
  have iT : St i 11 0 rows0 pat0 := gT.kept (fun j h1 h2 => iff' j (by omega))
  have il : i.length = 18 := by omega
  clear g0 g1 g2 g10 gS gT iff'
  refine AW.go 4 (pc' := 38) rfl ?_
  refine AW.bi (tgt := 60) (pn := 41) rfl (by decide) rfl ⟨by omega, by omega⟩ ⟨by omega, by omega⟩ (fun c => absurd c (by show ¬ (2 : Int) ≤ 0 + 1; decide)) (fun c => ?_)
  refine AW.go 1 (pc' := 42) rfl ?_
  refine AW.getf (pn := 45) rfl rfl flX3_23 i0 rfl ?_
  refine AW.go 1 (pc' := 46) rfl ?_
  refine AW.objN (p2 := 49) (pn := 53) rfl rfl rfl rfl rfl noStore (by intro v hv; simp only [List.mem_cons, List.not_mem_nil, or_false] at hv; rcases hv with rfl | rfl | rfl <;> trivial) mlX3_18 ⟨rfl, rfl⟩ (c_X2_init (d - 1) (by omega) _ i.length (by rw [List.length_append]; rfl) (by rw [List.getElem?_append_right (Nat.le_refl _), Nat.sub_self]; rfl) (clo_push ic (by intro v hv; simp only [List.mem_cons, List.not_mem_nil, or_false] at hv; rcases hv with rfl | rfl | rfl <;> trivial))) ic (And.intro trivial (And.intro (show 0 < i.length by omega) trivial)) (And.intro trivial (And.intro (show 10 < i.length by omega) trivial)) (by omega) (Nat.le_of_ble_eq_true rfl) ⟨by show d - 1 + 1 ≤ d; omega, by show 40 * (d - 1 + 1) ≤ 40 * d; omega⟩ ⟨by show _ ≤ 28; decide, by show _ ≤ 339; decide⟩ ?_ (fun a u q => by cases q.1)
  rintro j ⟨-, hSP⟩
  rw [il] at hSP ⊢
  have jU := hSP.st
  have jl : j.length = 25 := hSP.1
  have jc : clo j := hSP.2.2.2.2.2.2
  have jf : ∀ x, x < 18 → j[x]? = i[x]? := fun x hx => by rw [hSP.2.1 x hx, List.getElem?_append_left (by omega)]
  have j0 : j[0]? = _ := (jf 0 (by decide)).trans i0
  have j1 : j[1]? = _ := (jf 1 (by decide)).trans i1
  have j2 : j[2]? = _ := (jf 2 (by decide)).trans i2
  have j10 : j[10]? = _ := (jf 10 (by decide)).trans i10
  have jS : St j 3 0 rows0 pat0 := iS.kept (fun x h1 h2 => jf x (by omega))
  have jT : St j 11 0 rows0 pat0 := iT.kept (fun x h1 h2 => jf x (by omega))
  clear hSP jf i0 i1 i2 i10 iS iT
  refine AW.aastA (pn := 54) rfl rfl j10 jU.1 (by decide) (by decide) (by decide) jc ?_
  intro m ml mf m10 mc
  rw [imS_eq] at m10
  have m0 : m[0]? = _ := (mf 0 (by decide)).trans j0
  have m1 : m[1]? = _ := (mf 1 (by decide)).trans j1
  have m2 : m[2]? = _ := (mf 2 (by decide)).trans j2
  have mS : St m 3 0 rows0 pat0 := jS.kept (fun x h1 h2 => mf x (by omega))
  have mT : St m 11 0 rows0 pat0 := jT.kept (fun x h1 h2 => mf x (by omega))
  have mU : St m 18 0 rows0 pat0 := jU.kept (fun x h1 h2 => mf x (by omega))
  have ml : m.length = 25 := by omega
  clear j0 j1 j2 j10 jS jT jU mf
  refine AW.go 4 (pc' := 38) rfl ?_
  refine AW.bi (tgt := 60) (pn := 41) rfl (by decide) rfl ⟨by omega, by omega⟩ ⟨by omega, by omega⟩ (fun c => ?_) (fun c => absurd (show (2 : Int) ≤ 0 + 1 + 1 by decide) c)
  refine AW.go 1 (pc' := 61) rfl ?_
  -- segments
  refine AW.objN (p2 := 64) (pn := 68) rfl rfl rfl rfl rfl noSeg (by intro v hv; simp only [List.mem_cons, List.not_mem_nil, or_false] at hv; rcases hv with rfl | rfl | rfl | rfl | rfl | rfl <;> trivial) mlX3_29 ⟨rfl, rfl⟩ (c_X1_init (d - 1) (by omega) _ m.length (by rw [List.getElem?_append_right (Nat.le_refl _), Nat.sub_self]; rfl) (clo_push mc (by intro v hv; simp only [List.mem_cons, List.not_mem_nil, or_false] at hv; rcases hv with rfl | rfl | rfl | rfl | rfl | rfl <;> trivial))) mc (And.intro trivial (And.intro (show 0 < m.length by omega) trivial)) (And.intro (show 0 < m.length by omega) trivial) (by omega) (Nat.le_of_ble_eq_true rfl) ⟨by show d - 1 + 1 ≤ d; omega, by show 40 * (d - 1 + 1) ≤ 40 * d; omega⟩ ⟨by show _ ≤ 28; decide, by show _ ≤ 339; decide⟩ ?_ (fun a u q => by cases q.1)
  rintro o ⟨-, ol, of', oi, on1, on2, oc⟩
  have l2 : (m ++ [ao 1 [vn, vn, vi 0, vi 0, vi 0, vi 0]]).length = 26 := by rw [List.length_append, ml]; rfl
  rw [l2] at ol on1 on2 oi of'
  rw [ml] at oi of' ⊢
  have oF : ∀ x, x < 25 → o[x]? = m[x]? := fun x hx => by rw [of' x (by omega) (by omega), List.getElem?_append_left (by omega)]
  have o0 : o[0]? = _ := (oF 0 (by decide)).trans m0
  refine AW.putFA (pn := 71) rfl rfl flX3_30 rfl fkX3_30 rfl o0 rfl trivial oc (show 25 < o.length by omega) ?_
  intro q ql qf q0 qc
  have q1 : q[1]? = _ := ((qf 1 (by decide)).trans (oF 1 (by decide))).trans m1
  have q2 : q[2]? = _ := ((qf 2 (by decide)).trans (oF 2 (by decide))).trans m2
  have q10 : q[10]? = _ := ((qf 10 (by decide)).trans (oF 10 (by decide))).trans m10
  have qS : St q 3 0 rows0 pat0 := mS.kept (fun x h1 h2 => (qf x (by omega)).trans (oF x (by omega)))
  have qT : St q 11 0 rows0 pat0 := mT.kept (fun x h1 h2 => (qf x (by omega)).trans (oF x (by omega)))
  have qU : St q 18 0 rows0 pat0 := mU.kept (fun x h1 h2 => (qf x (by omega)).trans (oF x (by omega)))
  have q25 : q[25]? = _ := (qf 25 (by decide)).trans oi
  have q26 : q[26]? = _ := (qf 26 (by decide)).trans on1
  have q27 : q[27]? = _ := (qf 27 (by decide)).trans on2
  have ql : q.length = 28 := by omega
  clear m0 m1 m2 m10 mS mT mU o0 oF oi on1 on2 of' qf
  -- scratch
  refine AW.go 2 (pc' := 74) rfl ?_
  refine AW.arrF (N := 12) (p2 := 76) (pn := 79) (t := 0) rfl rfl (Or.inl ⟨rfl, rfl⟩) (by decide) rfl rfl flX3_34 rfl fkX3_34 rfl q0 rfl trivial qc (And.intro trivial (And.intro (show 0 < q.length by omega) trivial)) trivial (by omega) ⟨by show _ ≤ 28; decide, by show _ ≤ 339; decide⟩ ?_
  intro r rl rf ri rn rc
  rw [ql] at ri rn rf
  refine AW.retv rfl rfl (by decide) (by decide) ?_
  refine ⟨rfl, by omega, ri, (rf 1 (by decide) (by decide)).trans q1, (rf 2 (by decide) (by decide)).trans q2, qS.kept (fun x h1 h2 => rf x (by omega) (by omega)), (rf 10 (by decide) (by decide)).trans q10, qT.kept (fun x h1 h2 => rf x (by omega) (by omega)), qU.kept (fun x h1 h2 => rf x (by omega) (by omega)), (rf 25 (by decide) (by decide)).trans q25, (rf 26 (by decide) (by decide)).trans q26, (rf 27 (by decide) (by decide)).trans q27, rn, rc⟩
