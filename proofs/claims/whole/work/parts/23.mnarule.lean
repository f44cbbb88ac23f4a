def rapp (ρ : Nat → Nat) (n q : Nat) (r : Nat → Nat) : Nat → Nat := fun i => if i < n then ρ i else if i = n then q else r (i - n - 1)
theorem inner_ok (c : ClassId) : Jvm.Free.Multi.innerC c 12 (defaultValue .int) = vp_cell c (12, .inl (fun _ => iI 0)) := by
  rw [vp_cell_i]
  first | exact arrV_new c 12 (Value.int 0) | (unfold Jvm.Free.Multi.innerC; rw [arrV_new]; rfl)
section Rules
variable {z : ZM} {R : Room} {MC MS k n pc pn n0 : Nat} {ls : List (Nat × AV)} {st : List AV} {h : List AC} {Q : Option Int → List AC → Prop}
theorem AW.mna {idx : Nat} (hf : ftch z.2.2.2.2 pc = some (.multianewarray idx 2, 4)) (hn : pc + 4 = pn) (hw : Cond.classLink z.1.cls idx ("[" ++ (FieldType.array .int).toString) ∈ gtb ∧ Cond.arrayClass .int ∈ gtb) (hcl : clo h) (hls : ∀ q ∈ ls, lim h.length q.2) (hst : ∀ v ∈ st, lim h.length v) (h0 : n0 ≤ h.length) (hr : k + 5 ≤ R.cells ∧ n + 52 ≤ R.slots)
    (kk : AW z (agr n0) R MC MS (k + 5) (n + 52) pn ls (vr h.length :: st) (h ++ [aq 3 4 (fun i => if i < 4 then some (h.length + 1 + i) else none), ai 0 12 (fun _ => 0), ai 0 12 (fun _ => 0), ai 0 12 (fun _ => 0), ai 0 12 (fun _ => 0)]) Q) : AW z (agr n0) R MC MS k n pc ls (vi 12 :: vi 4 :: st) h Q := by
  subst hn
  intro p l e s m args below meth c D τ A ρ0 ρ Zf C hK hA hG hZ H locs lsA hP hD hS hl
  obtain ⟨hx, hb', hml, hown, hts, hL, -, -, -⟩ := id C
  have hcy : s.vm.findClass (FieldType.array FieldType.int).toString = some (τ 0) := (hK.1.2 0 (τ 0, .int) rfl).2
  refine va_mna (X := cw ρ τ h) (L := []) (f := fun _ => .inl (τ 0, 12, .inl (fun _ => iI 0))) (ty := .int) (cy := τ 0) (n := iI 4) (k := iI 12) (N' := 4) (K' := 12) (z := (12, .inl (fun _ => iI 0))) hx hb' hown (hts _ hw.1) hK.2.2.2 (hts _ hw.2) hcy hK.1 (by rw [show va_pl ([] : List Nat) (fun _ => (.inl (τ 0, 12, .inl (fun _ => iI 0)) : va_E)) = [] from rfl, List.append_nil]; exact hP) (by rw [show va_pl ([] : List Nat) (fun _ => (.inl (τ 0, 12, .inl (fun _ => iI 0)) : va_E)) = [] from rfl, List.append_nil]; exact hD) hS hA (by decide +kernel) (by decide +kernel) (by decide +kernel) (by decide +kernel) (by decide) (by decide +kernel) (by decide) (by decide +kernel) (by decide +kernel) hr.1 hr.2 inner_ok (okL_at hL hf).1 ?_
  intro q r cA H1 rinj _ hK1 hP1 hD1 hS1
  have e1 := (hK1.2 4 (cA, .array .int) rfl).2
  have e2 := (hK1.2 3 (τ 3, .array .int) rfl).2
  have e3 : cA = τ 3 := Option.some.inj (e1.symm.trans e2)
  subst e3
  have hpl : va_pl ([] ++ (List.range 4).map r) (vr_up (fun _ => (.inl (τ 0, 12, .inl (fun _ => iI 0)) : va_E)) ((List.range 4).map r) (.inl (τ 0, 12, .inl (fun _ => iI 0)))) = [(r 0, .inl (τ 0, 12, .inl (fun _ => iI 0))), (r 1, .inl (τ 0, 12, .inl (fun _ => iI 0))), (r 2, .inl (τ 0, 12, .inl (fun _ => iI 0))), (r 3, .inl (τ 0, 12, .inl (fun _ => iI 0)))] := by
    have hv : vr_up (fun _ => (.inl (τ 0, 12, .inl (fun _ => iI 0)) : va_E)) ((List.range 4).map r) (.inl (τ 0, 12, .inl (fun _ => iI 0))) = fun _ => .inl (τ 0, 12, .inl (fun _ => iI 0)) := by
      funext a
      unfold vr_up
      split <;> rfl
    rw [hv]
    rfl
  rw [hpl] at hP1 hD1
  have he : ∀ i, i < h.length → rapp ρ h.length q r i = ρ i := fun i hi => if_pos hi
  have g0 : rapp ρ h.length q r h.length = q := by unfold rapp; rw [if_neg (by omega), if_pos rfl]
  have gr : ∀ j, rapp ρ h.length q r (h.length + 1 + j) = r j := fun j => by
    unfold rapp; rw [if_neg (by omega), if_neg (by omega), show h.length + 1 + j - h.length - 1 = j by omega]
  have eW : cw (rapp ρ h.length q r) τ (h ++ [aq 3 4 (fun i => if i < 4 then some (h.length + 1 + i) else none), ai 0 12 (fun _ => 0), ai 0 12 (fun _ => 0), ai 0 12 (fun _ => 0), ai 0 12 (fun _ => 0)]) = (cw ρ τ h ++ [(q, .inl (τ 3, 4, .inr (.inr (.inr (.inr (fun i => if i < 4 then some (r i) else none))))))]) ++ [(r 0, .inl (τ 0, 12, .inl (fun _ => iI 0))), (r 1, .inl (τ 0, 12, .inl (fun _ => iI 0))), (r 2, .inl (τ 0, 12, .inl (fun _ => iI 0))), (r 3, .inl (τ 0, 12, .inl (fun _ => iI 0)))] := by
    have e9 : (fun i => (if i < 4 then some (h.length + 1 + i) else none : Option Nat).map (rapp ρ h.length q r)) = (fun i => if i < 4 then some (r i) else none) := by
      funext i
      by_cases hi : i < 4
      · rw [if_pos hi, if_pos hi]
        show some (rapp ρ h.length q r (h.length + 1 + i)) = some (r i)
        rw [gr]
      · rw [if_neg hi, if_neg hi]; rfl
    unfold cw
    rw [List.mapIdx_append, List.append_assoc]
    congr 1
    · exact cw_ext hcl he
    · show [(rapp ρ h.length q r (0 + h.length), (Sum.inl (τ 3, 4, Sum.inr (Sum.inr (Sum.inr (Sum.inr (fun i => (if i < 4 then some (h.length + 1 + i) else none : Option Nat).map (rapp ρ h.length q r)))))) : va_E)), (rapp ρ h.length q r (0 + 1 + h.length), _), (rapp ρ h.length q r (0 + 1 + 1 + h.length), _), (rapp ρ h.length q r (0 + 1 + 1 + 1 + h.length), _), (rapp ρ h.length q r (0 + 1 + 1 + 1 + 1 + h.length), _)] = _
      rw [e9, Nat.zero_add, g0, show 0 + 1 + h.length = h.length + 1 + 0 by omega, show 0 + 1 + 1 + h.length = h.length + 1 + 1 by omega, show 0 + 1 + 1 + 1 + h.length = h.length + 1 + 2 by omega, show 0 + 1 + 1 + 1 + 1 + h.length = h.length + 1 + 3 by omega, gr, gr, gr, gr]
      rfl
  have K := kk p l e s m args below meth c D τ A ρ0 (rapp ρ h.length q r) Zf C hK hA (fun i hi => (he i (Nat.lt_of_lt_of_le hi h0)).trans (hG i hi)) hZ H1 locs lsA (by rw [eW]; exact hP1) (by rw [eW]; exact hD1) hS1 (by rw [cl_ext he hls]; exact hl)
  have eS : (vr h.length :: st).map (cv (rapp ρ h.length q r)) = .ref q :: st.map (cv ρ) := by
    rw [List.map_cons, st_ext he hst]
    show va_rf (some (rapp ρ h.length q r h.length)) :: _ = _
    rw [g0]; rfl
  rw [eS] at K
  exact K
end Rules
