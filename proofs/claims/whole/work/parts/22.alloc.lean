def lim (n : Nat) : AV → Prop
  | .inr (.inr (some i)) => i < n
  | _ => True
def limC (n : Nat) : AC → Prop
  | .inl _ => True
  | .inr (.inl (_, _, f)) => ∀ j q, f j = some q → q < n
  | .inr (.inr (_, fs)) => ∀ v ∈ fs, lim n v
def clo (h : List AC) : Prop := ∀ e ∈ h, limC h.length e
theorem cv_ext {ρ ρ' : Nat → Nat} {n : Nat} (he : ∀ i, i < n → ρ' i = ρ i) {v : AV} (hv : lim n v) : cv ρ' v = cv ρ v := by
  rcases v with a | a | (_ | i)
  · rfl
  · rfl
  · rfl
  · show Value.ref (ρ' i) = Value.ref (ρ i)
    rw [he i hv]
theorem ce_ext {ρ ρ' : Nat → Nat} {τ : Nat → ClassId} {n : Nat} (he : ∀ i, i < n → ρ' i = ρ i) {e : AC} (hv : limC n e) : ce ρ' τ e = ce ρ τ e := by
  rcases e with ⟨t, N, f⟩ | ⟨t, N, f⟩ | ⟨c, fs⟩
  · rfl
  · show (Sum.inl (τ t, N, Sum.inr (Sum.inr (Sum.inr (Sum.inr (fun j => (f j).map ρ'))))) : va_E) = Sum.inl (τ t, N, Sum.inr (Sum.inr (Sum.inr (Sum.inr (fun j => (f j).map ρ)))))
    have : (fun j => (f j).map ρ') = (fun j => (f j).map ρ) := by
      funext j
      cases hj : f j with
      | none => rfl
      | some q => show some (ρ' q) = some (ρ q); rw [he q (hv j q hj)]
    rw [this]
  · show (Sum.inr (c, fs.map (cv ρ')) : va_E) = Sum.inr (c, fs.map (cv ρ))
    rw [List.map_congr_left (fun v h => cv_ext he (hv v h))]
theorem cw_ext {ρ ρ' : Nat → Nat} {τ : Nat → ClassId} {h : List AC} (hc : clo h) (he : ∀ i, i < h.length → ρ' i = ρ i) : cw ρ' τ h = cw ρ τ h := by
  apply List.ext_getElem?
  intro j
  unfold cw
  rw [List.getElem?_mapIdx, List.getElem?_mapIdx]
  cases hj : h[j]? with
  | none => rfl
  | some e =>
    have hl : j < h.length := (List.getElem?_eq_some_iff.mp hj).1
    show some (ρ' j, ce ρ' τ e) = some (ρ j, ce ρ τ e)
    rw [he j hl, ce_ext he (hc e (List.mem_of_getElem? hj))]
theorem cl_ext {ρ ρ' : Nat → Nat} {n : Nat} (he : ∀ i, i < n → ρ' i = ρ i) {ls : List (Nat × AV)} (hl : ∀ q ∈ ls, lim n q.2) : cl ρ' ls = cl ρ ls :=
  List.map_congr_left (fun q hq => by rw [cv_ext he (hl q hq)])
theorem st_ext {ρ ρ' : Nat → Nat} {n : Nat} (he : ∀ i, i < n → ρ' i = ρ i) {st : List AV} (hl : ∀ q ∈ st, lim n q) : st.map (cv ρ') = st.map (cv ρ) :=
  List.map_congr_left (fun q hq => cv_ext he (hl q hq))
theorem limC_mono {n n' : Nat} (h : n ≤ n') {e : AC} (he : limC n e) : limC n' e := by
  rcases e with ⟨t, N, f⟩ | ⟨t, N, f⟩ | ⟨c, fs⟩
  · trivial
  · exact fun j q hq => Nat.lt_of_lt_of_le (he j q hq) h
  · intro v hv
    have := he v hv
    rcases v with a | a | (_ | i)
    · trivial
    · trivial
    · trivial
    · exact Nat.lt_of_lt_of_le this h
theorem clo_push {h : List AC} (hc : clo h) {e : AC} (he : limC (h.length + 1) e) : clo (h ++ [e]) := by
  intro x hx
  rw [List.length_append]
  rcases List.mem_append.mp hx with q | q
  · exact limC_mono (Nat.le_succ _) (hc x q)
  · rw [List.mem_singleton.mp q]; exact he
theorem clo_set {h : List AC} (hc : clo h) {i : Nat} {e : AC} (he : limC h.length e) : clo (h.set i e) := by
  intro x hx
  rw [List.length_set]
  rcases List.mem_or_eq_of_mem_set hx with q | q
  · exact hc x q
  · rw [q]; exact he
def agr (n0 : Nat) : GG := fun ρ0 ρ => ∀ i, i < n0 → ρ i = ρ0 i
abbrev rmc (d mc ms : Nat) : Room := { frames := d, cells := mc, slots := ms, locals := 40 * d }
def QM1 (Q : Option Int → List AC → Prop) (D : va_G) (τ : Nat → ClassId) (ρ : Nat → Nat) (n0 : Nat) (A : Nat → Prop) : Array Value → State → Outcome → State → Prop := fun _ st oc t =>
  (∃ (v : Option Int) (u : List AC) (ρ' : Nat → Nat), (∀ i, i < n0 → ρ' i = ρ i) ∧ oc = .returned (v.map (fun a => Value.int (iI a))) ∧ Q v u ∧ va_P D classes (cw ρ' τ u) t.heap ∧ va_D A (cw ρ' τ u)) ∧ va_F A st t
def M1 (z : ZM) (d mc ms : Nat) (as : List AV) (h : List AC) (Q : Option Int → List AC → Prop) : Prop :=
  ∀ (l : Launch) (D : va_G) (τ : Nat → ClassId) (ρ : Nat → Nat) (sz : Nat), Met l z.1 (zw z) (rmc d mc ms) (PM as h D τ ρ sz) (QM1 Q D τ ρ h.length (va_A (cw ρ τ h) sz)) mc ms (va_A (cw ρ τ h) sz)
theorem M1.of {z : ZM} {d mc ms : Nat} {as : List AV} {h : List AC} {Q : Option Int → List AC → Prop} (hz : zok z) (hl : (as.map acat).sum ≤ z.2.2.1) (hv0 : z.2.2.2.1 = none) (kk : AW z (agr h.length) (rmc d mc ms) mc ms 0 0 0 (aar 0 as) [] h Q) : M1 z d mc ms as h Q := by
  intro l D τ ρ sz
  obtain ⟨hL, hcode, hpl, -⟩ := hz
  refine va_MetF (cc := z.2.1) (maxL := z.2.2.1) (ret := z.2.2.2.1) hpl rfl ?_
  intro p e s m args below meth c s₁ B hml hv
  obtain ⟨rfl, hsz, hP, hK, hD0⟩ := hv
  have hts := atoms_spec (ws := zw z) B.pre
  have hown : s.vm.findClass z.1.cls = some m.cls := findClass_of_methodNamed B.named
  have hnm : meth.name = z.1.name := (name_of_methodNamed B.named B.method).1
  subst hsz
  have hD := hD0.self (sz := s.heap.size)
  have hA : ∀ q : Nat, s.heap.size ≤ q → va_A (cw ρ τ h) s.heap.size q := fun q h => Or.inr h
  have hle := lv_entry (as.map (cv ρ)) (n := z.2.2.1) (by rw [sl_len]; exact hl)
  rw [lg_entry_eq]
  rw [aar_cl] at hle
  have C : Cx z p s m (as.map (cv ρ)).toArray meth c := ⟨B.exec, B.bytes, hml, hown, fun w hw => hts w (List.mem_cons_of_mem _ hw), hL, hnm, B.notSynchronized, B.returns⟩
  refine kk p l e s m (as.map (cv ρ)).toArray below meth c D τ (va_A (cw ρ τ h) s.heap.size) ρ ρ _ C hK hA (fun _ _ => rfl) ?_ s.heap [] _ hP hD va_S.rf hle
  intro v h' ρ' H' locs' ls' pc' hq hret hG hP' hD' hS'
  have hlk := B.notSynchronized
  cases v with
  | none =>
    obtain ⟨hr1, hr2⟩ := hret
    exact W.vret B.exec B.bytes (B.returns.trans hr1) (fun t ht hW => ⟨⟨none, h', ρ', hG, rfl, hq, by rw [ht]; exact hP', hD'⟩, hS'.F ht⟩) hS'.2.2 (okL_at hL hr2).1
  | some a =>
    obtain ⟨hr1, hr2⟩ := hret
    rw [hv0] at hr1
    rcases hr1 with hr1 | ⟨hr1, -⟩ <;> cases hr1
/-- one cell more -/
def rpush (ρ : Nat → Nat) (n q : Nat) : Nat → Nat := fun i => if i = n then q else ρ i
theorem rpush_old {ρ : Nat → Nat} {n q i : Nat} (h : i < n) : rpush ρ n q i = ρ i := if_neg (by omega)
theorem rpush_new {ρ : Nat → Nat} {n q : Nat} : rpush ρ n q n = q := if_pos rfl
theorem cw_pushed {ρ : Nat → Nat} {τ : Nat → ClassId} {h : List AC} (hc : clo h) (e : AC) (q : Nat) : cw (rpush ρ h.length q) τ (h ++ [e]) = cw ρ τ h ++ [(q, ce (rpush ρ h.length q) τ e)] := by
  rw [cw_push, cw_ext hc (fun i hi => rpush_old hi), rpush_new]
section Rules
variable {z : ZM} {R : Room} {MC MS k n pc pn n0 : Nat} {ls : List (Nat × AV)} {st : List AV} {h : List AC} {Q : Option Int → List AC → Prop}
theorem AW.objI {G : GG} {idx i : Nat} (hf : ftch z.2.2.2.2 pc = some (.invokespecial idx, 3)) (hn : pc + 3 = pn) (hw : Cond.methodLink z.1.cls idx objectInit ∈ gtb ∧ Cond.instanceMethod objectInit ∈ gtb ∧ Cond.code objectInit ⟨#[0xb1]⟩ 1 none ∈ gtb) (hR : 1 ≤ R.frames ∧ (st.map acat).sum + 12 ≤ R.locals)
    (kk : AW z G R MC MS k n pn ls st h Q) : AW z G R MC MS k n pc ls (vr i :: st) h Q := by
  subst hn
  intro p l e s m args below meth c D τ A ρ0 ρ Zf C hK hA hG hZ H locs lsA hP hD hS hl
  obtain ⟨hx, hb', hml, hown, hts, hL, -, -, -⟩ := id C
  refine W.objInit hx hb' hown (hts _ hw.1) (hts _ hw.2.1) (hts _ hw.2.2) rfl (by rw [hml]; exact hl.1) rfl (okL_at hL hf).1 hR.1 ?_ ?_
  · show 2 * (F0 m pc lsA _).monitorRoom + ((st.map (cv ρ)).map fun v => v.category).sum + 12 ≤ R.locals
    have e1 : ((st.map (cv ρ)).map fun v => v.category) = st.map acat := by
      rw [List.map_map]
      exact List.map_congr_left (fun v _ => cv_cat ρ v)
    rw [e1]
    have e2 : 2 * (F0 m pc lsA (List.map (cv ρ) (vr i :: st))).monitorRoom = 0 := rfl
    rw [e2]
    have := hR.2
    omega
  · exact kk p l e s m args below meth c D τ A ρ0 ρ Zf C hK hA hG hZ H locs lsA hP hD hS hl
theorem AW.newa {N t : Nat} {aty : ArrayType} {ty : FieldType} (hf : ftch z.2.2.2.2 pc = some (.newarray aty, 2)) (hn : pc + 2 = pn) (hty : (aty = .int ∧ t = 0) ∨ (aty = .boolean ∧ t = 1)) (hw : Cond.arrayClass .int ∈ gtb ∧ Cond.arrayClass .boolean ∈ gtb) (hN : N ≤ 1000) (hcl : clo h) (hls : ∀ q ∈ ls, lim h.length q.2) (hst : ∀ v ∈ st, lim h.length v) (h0 : n0 ≤ h.length) (hr : k + 1 ≤ R.cells ∧ n + N ≤ R.slots)
    (kk : AW z (agr n0) R MC MS (k + 1) (n + N) pn ls (vr h.length :: st) (h ++ [ai t N (fun _ => 0)]) Q) : AW z (agr n0) R MC MS k n pc ls (vi (N : Int) :: st) h Q := by
  subst hn
  intro p l e s m args below meth c D τ A ρ0 ρ Zf C hK hA hG hZ H locs lsA hP hD hS hl
  obtain ⟨hx, hb', hml, hown, hts, hL, -, -, -⟩ := id C
  have hneg : ¬ iI (N : Int) < 0 := fun w => by
    have := (iI_lt (a := (N : Int)) (b := 0) ⟨by omega, by omega⟩ rng0).mp w
    omega
  have hcl9 : (iI (N : Int)).toNatClampNeg = N := by rw [iI_nat (by omega) (by omega), Int.toNat_natCast]
  have go : ∀ (q : Nat) (H1 : Heap), va_P D classes (cw ρ τ h ++ [(q, .inl (τ t, N, .inl (fun _ => iI 0)))]) H1 → va_D A (cw ρ τ h ++ [(q, .inl (τ t, N, .inl (fun _ => iI 0)))]) → va_S A s.heap H1 locs → W p l e R s m args below meth c H1 locs (k + 1) (n + N) Zf (F0 m (pc + 2) lsA (.ref q :: st.map (cv ρ))) := by
    intro q H1 hP1 hD1 hS1
    have eW := cw_pushed (ρ := ρ) (τ := τ) hcl (ai t N (fun _ => 0)) q
    have he : ∀ i, i < h.length → rpush ρ h.length q i = ρ i := fun i hi => rpush_old hi
    have K := kk p l e s m args below meth c D τ A ρ0 (rpush ρ h.length q) Zf C hK hA (fun i hi => (he i (Nat.lt_of_lt_of_le hi h0)).trans (hG i hi)) hZ H1 locs lsA (by rw [eW]; exact hP1) (by rw [eW]; exact hD1) hS1 (by rw [cl_ext he hls]; exact hl)
    have eS : (vr h.length :: st).map (cv (rpush ρ h.length q)) = .ref q :: st.map (cv ρ) := by
      rw [List.map_cons, st_ext he hst]
      show va_rf (some (rpush ρ h.length q h.length)) :: _ = _
      rw [rpush_new]; rfl
    rw [eS] at K
    exact K
  rcases hty with ⟨rfl, rfl⟩ | ⟨rfl, rfl⟩
  · refine va_newa (atype := .int) (ty := .int) hx hb' (hts _ hw.1) rfl hK.1 hP hD hS hA (N' := N) (a0 := (N, .inl (fun _ => iI 0))) (fun _ => rfl) hneg hcl9 (by show N * 4 ≤ _; omega) hr.1 hr.2 (okL_at hL hf).1 ?_
    intro q cA H1 hK1 hP1 hD1 hS1
    have e1 := (hK1.2 4 (cA, .int) rfl).2
    have e2 := (hK1.2 0 (τ 0, .int) rfl).2
    have e3 : cA = τ 0 := Option.some.inj (e1.symm.trans e2)
    subst e3
    exact go q H1 hP1 hD1 hS1
  · refine va_newa (atype := .boolean) (ty := .boolean) hx hb' (hts _ hw.2) rfl hK.1 hP hD hS hA (N' := N) (a0 := (N, .inl (fun _ => iI 0))) (fun _ => rfl) hneg hcl9 (by show N * 1 ≤ _; omega) hr.1 hr.2 (okL_at hL hf).1 ?_
    intro q cA H1 hK1 hP1 hD1 hS1
    have e1 := (hK1.2 4 (cA, .boolean) rfl).2
    have e2 := (hK1.2 1 (τ 1, .boolean) rfl).2
    have e3 : cA = τ 1 := Option.some.inj (e1.symm.trans e2)
    subst e3
    exact go q H1 hP1 hD1 hS1
theorem AW.newq {N idx : Nat} (hf : ftch z.2.2.2.2 pc = some (.anewarray idx, 3)) (hn : pc + 3 = pn) (hw : Cond.classLink z.1.cls idx RX2 ∈ gtb) (hN : N ≤ 1000) (hcl : clo h) (hls : ∀ q ∈ ls, lim h.length q.2) (hst : ∀ v ∈ st, lim h.length v) (h0 : n0 ≤ h.length) (hr : k + 1 ≤ R.cells ∧ n + N ≤ R.slots)
    (kk : AW z (agr n0) R MC MS (k + 1) (n + N) pn ls (vr h.length :: st) (h ++ [aq 2 N (fun _ => none)]) Q) : AW z (agr n0) R MC MS k n pc ls (vi (N : Int) :: st) h Q := by
  subst hn
  intro p l e s m args below meth c D τ A ρ0 ρ Zf C hK hA hG hZ H locs lsA hP hD hS hl
  obtain ⟨hx, hb', hml, hown, hts, hL, -, -, -⟩ := id C
  have hneg : ¬ iI (N : Int) < 0 := fun w => by
    have := (iI_lt (a := (N : Int)) (b := 0) ⟨by omega, by omega⟩ rng0).mp w
    omega
  have hcl9 : (iI (N : Int)).toNatClampNeg = N := by rw [iI_nat (by omega) (by omega), Int.toNat_natCast]
  refine va_newq hx hb' hown (hts _ hw) hK.2.2.1 hK.1 hP hD hS hA hneg hcl9 (by omega) hr.1 hr.2 (okL_at hL hf).1 ?_
  intro q cA H1 hK1 hP1 hD1 hS1
  obtain ⟨_, _, _, _, _, e1⟩ := (hK1.2 4 (cA, .object RX2) rfl).2
  obtain ⟨_, _, _, _, _, e2⟩ := (hK1.2 2 (τ 2, .object RX2) rfl).2
  have e3 : cA = τ 2 := Option.some.inj (e1.symm.trans e2)
  subst e3
  have eW := cw_pushed (ρ := ρ) (τ := τ) hcl (aq 2 N (fun _ => none)) q
  have he : ∀ i, i < h.length → rpush ρ h.length q i = ρ i := fun i hi => rpush_old hi
  have K := kk p l e s m args below meth c D τ A ρ0 (rpush ρ h.length q) Zf C hK hA (fun i hi => (he i (Nat.lt_of_lt_of_le hi h0)).trans (hG i hi)) hZ H1 locs lsA (by rw [eW]; exact hP1) (by rw [eW]; exact hD1) hS1 (by rw [cl_ext he hls]; exact hl)
  have eS : (vr h.length :: st).map (cv (rpush ρ h.length q)) = .ref q :: st.map (cv ρ) := by
    rw [List.map_cons, st_ext he hst]
    show va_rf (some (rpush ρ h.length q h.length)) :: _ = _
    rw [rpush_new]; rfl
  rw [eS] at K
  exact K
def NO (own : String) (idx ci : Nat) (fs : List AV) (N : Nat) : Prop := ∃ (C : String) (T : u_T) (ty : Nat → FieldType), classes[ci]? = some (C, T, N) ∧ (∀ w ∈ u_ws C T N, w ∈ gtb) ∧ (∀ j, j < N → parseFieldDescriptor (T j).2.2.1 = some (ty j)) ∧ Cond.classLink own idx C ∈ gtb ∧ Cond.instantiable C N ∈ gtb ∧ Cond.initialized C ∈ gtb ∧ ∀ (ρ : Nat → Nat) (j : Nat), j < N → defaultValue (ty j) = vp_V (fs.map (cv ρ)) j
theorem AW.newo {N idx ci : Nat} {fs : List AV} (hf : ftch z.2.2.2.2 pc = some (.new idx, 3)) (hn : pc + 3 = pn) (hw : NO z.1.cls idx ci fs N) (hfs : ∀ v ∈ fs, lim 0 v) (hcl : clo h) (hls : ∀ q ∈ ls, lim h.length q.2) (hst : ∀ v ∈ st, lim h.length v) (h0 : n0 ≤ h.length) (hr : k + 1 ≤ R.cells ∧ n + N ≤ R.slots)
    (kk : AW z (agr n0) R MC MS (k + 1) (n + N) pn ls (vr h.length :: st) (h ++ [ao ci fs]) Q) : AW z (agr n0) R MC MS k n pc ls st h Q := by
  subst hn
  intro p l e s m args below meth c D τ A ρ0 ρ Zf C hK hA hG hZ H locs lsA hP hD hS hl
  obtain ⟨hx, hb', hml, hown, hts, hL, -, -, -⟩ := id C
  obtain ⟨Cn, T, ty, hc, hin, hty, w1, w2, w3, hdf⟩ := hw
  refine va_new (fs := fs.map (cv ρ)) hx hb' hts hin ty hty hown (hts _ w1) (hts _ w2) (hts _ w3) hK.1 hP hD hS hA hc (hdf ρ) hr.1 hr.2 (okL_at hL hf).1 ?_
  intro q H1 hP1 hD1 hS1
  have eW := cw_pushed (ρ := ρ) (τ := τ) hcl (ao ci fs) q
  have he : ∀ i, i < h.length → rpush ρ h.length q i = ρ i := fun i hi => rpush_old hi
  have ef : fs.map (cv (rpush ρ h.length q)) = fs.map (cv ρ) := st_ext (n := 0) (fun i hi => absurd hi (Nat.not_lt_zero i)) hfs
  have eC : ce (rpush ρ h.length q) τ (ao ci fs) = .inr (ci, fs.map (cv ρ)) := by
    show (Sum.inr (ci, fs.map (cv (rpush ρ h.length q))) : va_E) = _
    rw [ef]
  rw [eC] at eW
  have K := kk p l e s m args below meth c D τ A ρ0 (rpush ρ h.length q) Zf C hK hA (fun i hi => (he i (Nat.lt_of_lt_of_le hi h0)).trans (hG i hi)) hZ H1 locs lsA (by rw [eW]; exact hP1) (by rw [eW]; exact hD1) hS1 (by rw [cl_ext he hls]; exact hl)
  have eS : (vr h.length :: st).map (cv (rpush ρ h.length q)) = .ref q :: st.map (cv ρ) := by
    rw [List.map_cons, st_ext he hst]
    show va_rf (some (rpush ρ h.length q h.length)) :: _ = _
    rw [rpush_new]; rfl
  rw [eS] at K
  exact K
theorem AW.callI {Q' : Option Int → List AC → Prop} {z' : ZM} {idx d mc ms i : Nat} (hf : ftch z.2.2.2.2 pc = some (.invokespecial idx, 3)) (hn : pc + 3 = pn) (lk : LKc z.1.cls idx z' 0 ∧ Cond.instanceMethod z'.1 ∈ gtb) (hin : z'.1.name = "<init>" ∧ z'.2.2.2.1 = none) (hM : M1 z' d mc ms [vr i] h Q') (hls : ∀ q ∈ ls, lim h.length q.2) (hst : ∀ v ∈ st, lim h.length v) (h0 : n0 ≤ h.length) (hw : (st.map acat).sum ≤ 8) (hR : d + 1 ≤ R.frames ∧ 40 * (d + 1) ≤ R.locals) (hc0 : k + mc ≤ R.cells ∧ n + ms ≤ R.slots)
    (kk : ∀ u, Q' none u → AW z (agr n0) R MC MS (k + mc) (n + ms) pn ls st u Q) (hq0 : ∀ a u, ¬ Q' (some a) u) : AW z (agr n0) R MC MS k n pc ls (vr i :: st) h Q := by
  subst hn
  intro p l e s m args below meth c D τ A ρ0 ρ Zf C hK hA hG hZ H locs lsA hP hD hS hl
  obtain ⟨hx, hb', hml, hown, hts, hL, -, -, -⟩ := id C
  obtain ⟨⟨hz, hini, hd, hlk⟩, hins⟩ := lk
  have hRR : (rmc d mc ms).frames + 1 ≤ R.frames ∧ 8 + (z'.2.2.1 + 11) + (rmc d mc ms).locals ≤ R.locals := ⟨hR.1, by have := hR.2; have := hz.2.2.2; show 8 + (z'.2.2.1 + 11) + 40 * d ≤ R.locals; omega⟩
  have hpre : PreS s H (PM [vr i] h D τ ρ H.size) (.ref (ρ i) :: []) := ⟨PM_blind _ _ _ _ _ _, fun U hU hW => ⟨rfl, by rw [hU], by rw [hU]; exact hP, hK.warm hW, hD.weaken (fun _ _ _ _ => trivial)⟩⟩
  have hWd : 2 * (F0 m pc lsA ((vr i :: st).map (cv ρ))).monitorRoom + ((st.map (cv ρ)).map fun v => v.category).sum ≤ 8 := by
    refine lv_room ?_
    rw [List.map_map, show st.map ((fun v => v.category) ∘ cv ρ) = st.map acat from List.map_congr_left (fun v _ => cv_cat ρ v)]
    exact hw
  have hr : va_Run p l e R s m args below meth c H locs k n mc ms (F0 m pc lsA ((vr i :: st).map (cv ρ))) (st.map (cv ρ)) (QM1 Q' D τ ρ h.length (va_A (cw ρ τ h) H.size) (Value.ref (ρ i) :: []).toArray) (va_A (cw ρ τ h) H.size) := by
    have hw0 : zw z' = Cond.code z'.1 z'.2.1 z'.2.2.1 none :: gtb := by unfold zw; rw [hin.2]
    rcases hlk with hlk | ⟨host, hlk⟩
    · exact va_runI (As := []) (b := ρ i) ⟨hx, hb', hml, hown, hts⟩ (hM l D τ ρ H.size) (cwI 0 hts (zw_good hz) hw0 rfl rfl (hts _ hini) (hts _ hlk) (hts _ hins) hin.1 hd hRR) hpre rfl rfl hl.1 rfl hWd (okL_at hL hf).1 hc0
    · exact va_runIN (As := []) (b := ρ i) ⟨hx, hb', hml, hown, hts⟩ (hM l D τ ρ H.size) ⟨va_cnB 0 hts (zw_good hz) hw0 rfl rfl (hK.2.1 _ hlk) (hts _ hini) hd hRR, hin.1, hts _ hins⟩ hpre rfl rfl hl.1 rfl hWd (okL_at hL hf).1 hc0
  have hF := va_A_in hD hS hA
  intro T hT X
  obtain ⟨v, st₀, t, T', L, e0, X', hLL, e1, e2, ⟨⟨v', u, ρ', hρ, hv, hq, hP1, hD1⟩, hz1, hk1⟩, stp⟩ := hr T hT X
  rw [e0] at hz1 hk1
  have ev : v = v'.map (fun a => Value.int (iI a)) := by cases hv; rfl
  subst ev
  have hS1 : va_S A s.heap T'.heap (locs ++ L) := ⟨Nat.le_trans hS.1 (by rw [e1]; exact hz1), fun q h1 h2 => by rw [e1, hk1 q (Nat.lt_of_lt_of_le h1 hS.1) (fun w => h2 (hF q w))]; exact hS.2.1 q h1 h2, fun q hq => by
      rcases List.mem_append.mp hq with h | h
      · exact hS.2.2 q h
      · exact hF _ (hLL q h)⟩
  cases v' with
  | some a => exact absurd hq (hq0 a u)
  | none =>
    obtain ⟨t2, a1, b1⟩ := kk u hq p l e s m args below meth c D τ A ρ0 ρ' Zf C hK hA (fun i hi => (hρ i (Nat.lt_of_lt_of_le hi h0)).trans (hG i hi)) hZ T'.heap (locs ++ L) lsA (by rw [e1]; exact hP1) (hD1.weaken (fun _ q _ w => hF q.1 w)) hS1 (by rw [cl_ext hρ hls]; exact hl) T' rfl X'
    refine ⟨t2, stp t2 ?_, b1⟩
    rw [st_ext hρ hst] at a1
    exact a1
theorem AW.aast {G : GG} {i q ci N : Nat} {f : Nat → Option Nat} {fs : List AV} {a : Int} (hf : ftch z.2.2.2.2 pc = some (.aastore, 1)) (hn : pc + 1 = pn) (hh : h[i]? = some (aq 2 N f)) (hq : h[q]? = some (ao ci fs)) (hc : ci = 2) (hN : N ≤ 2147483648) (h0 : 0 ≤ a) (h1 : a < N)
    (kk : AW z G R MC MS k n pn ls st (h.set i (aq 2 N (up f a.toNat (some q)))) Q) : AW z G R MC MS k n pc ls (vr q :: vi a :: vr i :: st) h Q := by
  subst hn
  subst hc
  intro p l e s m args below meth c D τ A ρ0 ρ Zf C hK hA hG hZ H locs lsA hP hD hS hl
  obtain ⟨hx, hb', -, hown, hts, hL, -, -, -⟩ := id C
  refine va_astq (r := (RX2, TX2, 3)) hx hb' hK.1 hP hD hS i 2 q 2 (cw_get hh) rfl (cw_get hq) rfl (iI_in h0 h1 hN) (okL_at hL hf).1 ?_
  intro H1 locs1 hP1 hD1 hS1
  have e3 : va_up (fun j => (f j).map ρ) (iI a).toNatClampNeg (some (ρ q)) = fun j => (up f a.toNat (some q) j).map ρ := by
    funext j
    rw [iI_nat h0 (by omega)]
    unfold va_up up
    by_cases hj : j = a.toNat <;> simp [hj]
  rw [e3] at hP1 hD1
  have e2 := cw_set ρ τ h i (aq 2 N (up f a.toNat (some q)))
  exact kk p l e s m args below meth c D τ A ρ0 ρ Zf C hK hA hG hZ H1 locs1 lsA (e2 ▸ hP1) (e2 ▸ hD1) hS1 hl
end Rules
