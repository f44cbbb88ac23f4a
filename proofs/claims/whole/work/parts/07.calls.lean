abbrev rmd (d : Nat) : Room := { frames := d, cells := 0, slots := 0, locals := 40 * d }
def QM (Q : Option Int → List AC → Prop) (D : va_G) (τ : Nat → ClassId) (ρ : Nat → Nat) (A : Nat → Prop) : Array Value → State → Outcome → State → Prop := fun _ st oc t =>
  (∃ (v : Option Int) (u : List AC), oc = .returned (v.map (fun a => Value.int (iI a))) ∧ Q v u ∧ va_P D classes (cw ρ τ u) t.heap ∧ va_D A (cw ρ τ u)) ∧ va_F A st t
abbrev PM (as : List AV) (h : List AC) (D : va_G) (τ : Nat → ClassId) (ρ : Nat → Nat) (sz : Nat) : Array Value → State → Prop :=
  va_Pc (as.map (cv ρ)) (fun U => U.heap.size = sz ∧ va_P D classes (cw ρ τ h) U.heap ∧ KK D τ U ∧ va_D (fun _ => True) (cw ρ τ h))
/-- a method's contract: it makes nothing; from the arguments and cells it comes to an answer and cells of Q -/
def M0 (z : ZM) (d : Nat) (as : List AV) (h : List AC) (Q : Option Int → List AC → Prop) : Prop :=
  ∀ (l : Launch) (D : va_G) (τ : Nat → ClassId) (ρ : Nat → Nat) (sz : Nat), Met l z.1 (zw z) (rmd d) (PM as h D τ ρ sz) (QM Q D τ ρ (va_A (cw ρ τ h) sz)) 0 0 (va_A (cw ρ τ h) sz)
theorem PM_blind (as : List AV) (h : List AC) (D : va_G) (τ : Nat → ClassId) (ρ : Nat → Nat) (sz : Nat) : FrameBlind (PM as h D τ ρ sz) := by
  intro a U g mk q
  obtain ⟨q0, q1, qP, qK, qD⟩ := q
  exact ⟨q0, q1, qP, KK.same (s := U) (U := U.calling g mk a) rfl qK, qD⟩
def aar : Nat → List AV → List (Nat × AV)
  | _, [] => []
  | i, v :: vs => (i, v) :: aar (if acat v = 2 then i + 2 else i + 1) vs
theorem aar_cl (ρ : Nat → Nat) : ∀ (i : Nat) (as : List AV), lv_args i (as.map (cv ρ)) = cl ρ (aar i as)
  | _, [] => rfl
  | i, v :: vs => by
    show (i, cv ρ v) :: lv_args (if (cv ρ v).category = 2 then i + 2 else i + 1) (vs.map (cv ρ)) = (i, cv ρ v) :: cl ρ (aar (if acat v = 2 then i + 2 else i + 1) vs)
    rw [cv_cat, aar_cl ρ _ vs]
theorem sl_len (ρ : Nat → Nat) (as : List AV) : (lg_sl (as.map (cv ρ))).length = (as.map acat).sum := by
  induction as with
  | nil => rfl
  | cons v vs ih =>
    have e : lg_sl ((v :: vs).map (cv ρ)) = lg_sl [cv ρ v] ++ lg_sl (vs.map (cv ρ)) := by
      simp [lg_sl]
    rw [e, List.length_append, ih, List.map_cons, List.sum_cons]
    congr 1
    rcases v with a | a | (_ | a) <;> rfl
theorem M0.of {z : ZM} {d : Nat} {as : List AV} {h : List AC} {Q : Option Int → List AC → Prop} (hz : zok z) (hl : (as.map acat).sum ≤ z.2.2.1) (kk : AW z Eq (rmd d) 0 0 0 0 0 (aar 0 as) [] h Q) : M0 z d as h Q := by
  intro l D τ ρ sz
  obtain ⟨hL, hcode, hpl, -⟩ := hz
  refine va_MetF (cc := z.2.1) (maxL := z.2.2.1) (ret := z.2.2.2.1) hpl rfl ?_
  intro p e s m args below meth c s₁ B hml hv
  obtain ⟨rfl, hsz, hP, hK, hD0⟩ := hv
  have hts := atoms_spec (ws := zw z) B.pre
  have hown : s.vm.findClass z.1.cls = some m.cls := findClass_of_methodNamed B.named
  have hnm : meth.name = z.1.name := (name_of_methodNamed B.named B.method).1
  subst hsz
  have hD := hD0.self (sz := s.heap.size)
  have hA : ∀ q : Nat, s.heap.size ≤ q → va_A (cw ρ τ h) s.heap.size q := fun q h => Or.inr h
  have hle := lv_entry (as.map (cv ρ)) (n := z.2.2.1) (by rw [sl_len]; exact hl)
  rw [lg_entry_eq]
  rw [aar_cl] at hle
  have C : Cx z p s m (as.map (cv ρ)).toArray meth c := ⟨B.exec, B.bytes, hml, hown, fun w hw => hts w (List.mem_cons_of_mem _ hw), hL, hnm, B.notSynchronized, B.returns⟩
  refine kk p l e s m (as.map (cv ρ)).toArray below meth c D τ (va_A (cw ρ τ h) s.heap.size) ρ ρ _ C hK hA rfl ?_ s.heap [] _ hP hD va_S.rf hle
  intro v h' ρ' H' locs' ls' pc' hq hret hG hP' hD' hS'
  subst hG
  have hlk := B.notSynchronized
  cases v with
  | none =>
    obtain ⟨hr1, hr2⟩ := hret
    exact W.vret B.exec B.bytes (B.returns.trans hr1) (fun t ht hW => ⟨⟨none, h', rfl, hq, by rw [ht]; exact hP', hD'⟩, hS'.F ht⟩) hS'.2.2 (okL_at hL hr2).1
  | some a =>
    obtain ⟨hr1, hr2⟩ := hret
    rcases hr1 with hr1 | ⟨hr1, ha⟩
    · exact W.iret B.exec B.bytes (B.returns.trans hr1) (fun t ht hW => ⟨⟨some a, h', rfl, hq, by rw [ht]; exact hP', hD'⟩, hS'.F ht⟩) hS'.2.2 (okL_at hL hr2).1
    · exact W.zret B.exec B.bytes (B.returns.trans hr1) (okv_ok (ty := .boolean) (v := vi a) (ρ := ρ) ha).1 (fun t ht hW => ⟨⟨some a, h', rfl, hq, by rw [ht]; exact hP', hD'⟩, hS'.F ht⟩) hS'.2.2 (okL_at hL hr2).1
theorem M0.post {z : ZM} {d : Nat} {as : List AV} {h : List AC} {Q Q' : Option Int → List AC → Prop} (hM : M0 z d as h Q) (hq : ∀ v u, Q v u → Q' v u) : M0 z d as h Q' := by
  intro l D τ ρ sz p e ha hc hk s m args below hf hfit hp hK
  obtain ⟨t, o, h1, h2, h3, h4, h5⟩ := hM l D τ ρ sz p e ha hc hk s m args below hf hfit hp hK
  obtain ⟨⟨v, u, g1, g2, g3, g4⟩, g5⟩ := h4
  exact ⟨t, o, h1, h2, h3, ⟨⟨v, u, g1, hq v u g2, g3, g4⟩, g5⟩, h5⟩
def LKc (own : String) (idx : Nat) (z' : ZM) (np : Nat) : Prop := zok z' ∧ Cond.initialized z'.1.cls ∈ gtb ∧ (z'.1.cls ≠ "java/lang/invoke/MethodHandle" ∧ z'.1.cls ≠ "java/lang/invoke/VarHandle" ∧ (parseMethodDescriptor z'.1.desc).map (fun d => d.parameters.length) = some np) ∧ (Cond.methodLink own idx z'.1 ∈ gtb ∨ ∃ host, Cond.methodLinkNest own idx z'.1 host ∈ nst)
def LSt (own : String) (idx : Nat) (z' : ZM) (np : Nat) : Prop := LKc own idx z' np ∧ Cond.static z'.1 ∈ gtb
def LVt (own : String) (idx : Nat) (z' : ZM) (np ci : Nat) : Prop := LKc own idx z' np ∧ Cond.instanceMethod z'.1 ∈ gtb ∧ Cond.selects z'.1.cls z'.1 z'.1 ∈ gtb ∧ ∃ (T : u_T) (N : Nat), classes[ci]? = some (z'.1.cls, T, N)
theorem zw_good {z' : ZM} (hz : zok z') : GoodIn gtb (zw z') := by
  intro w hw
  rcases List.mem_cons.mp hw with rfl | hw
  · exact gtb_good gtb (fun _ q => q) _ hz.2.1
  · exact gtb_good gtb (fun _ q => q) _ hw
theorem va_A_in {A : Nat → Prop} {ws : va_W} {H0 H : Heap} {locs : List Loc} (hD : va_D A ws) (hS : va_S A H0 H locs) (hA : ∀ q, H0.size ≤ q → A q) : ∀ q, va_A ws H.size q → A q := by
  intro q h
  rcases h with ⟨j, e, h⟩ | h
  · exact hD.2 j (q, e) h
  · exact hA q (Nat.le_trans hS.1 h)
section Rules
variable {z : ZM} {G : GG} {R : Room} {MC MS k n pc pn : Nat} {ls : List (Nat × AV)} {st : List AV} {h : List AC} {Q : Option Int → List AC → Prop}
/-- behind a call -/
theorem AW.behindRun {Q' : Option Int → List AC → Prop} (hn : pc + 3 = pn) (kk : ∀ v u, Q' v u → AW z G R MC MS k n pn ls (v.toList.map vi ++ st) u Q)
    {p : Program} {l : Launch} {e : Env} {s : State} {m : MethodId} {args : Array Value} {below : List Frame} {meth : Method} {c : Code} {D : va_G} {τ : Nat → ClassId} {A : Nat → Prop} {ρ0 ρ : Nat → Nat} {Zf : State → Prop}
    (C : Cx z p s m args meth c) (hK : KK D τ s) (hA : ∀ q, s.heap.size ≤ q → A q) (hG : G ρ0 ρ)
    (hZ : ∀ (v : Option Int) (h' : List AC) (ρ' : Nat → Nat) (H' : Heap) (locs' : List Loc) (ls' : Array Slot) (pc' : Nat), Q v h' → rets z pc' v → G ρ0 ρ' → va_P D classes (cw ρ' τ h') H' → va_D A (cw ρ' τ h') → va_S A s.heap H' locs' →
      W p l e R s m args below meth c H' locs' MC MS Zf (F0 m pc' ls' (v.toList.map (fun a => Value.int (iI a)))))
    {H : Heap} {locs : List Loc} {lsA : Array Slot} (hD : va_D A (cw ρ τ h)) (hS : va_S A s.heap H locs) (hl : lv_has lsA z.2.2.1 (cl ρ ls)) {st0 : List Value} {a : Array Value}
    (hr : va_Run p l e R s m args below meth c H locs k n 0 0 (F0 m pc lsA st0) (st.map (cv ρ)) (QM Q' D τ ρ (va_A (cw ρ τ h) H.size) a) (va_A (cw ρ τ h) H.size)) :
    W p l e R s m args below meth c H locs k n Zf (F0 m pc lsA st0) := by
  subst hn
  have hF := va_A_in hD hS hA
  intro T hT X
  obtain ⟨v, st₀, t, T', L, h0, X', hL, e1, e2, ⟨⟨v', u, hv, hq, hP1, hD1⟩, hz, hk⟩, stp⟩ := hr T hT X
  rw [h0] at hz hk
  have ev : v = v'.map (fun a => Value.int (iI a)) := by cases hv; rfl
  subst ev
  have hS1 : va_S A s.heap T'.heap (locs ++ L) := ⟨Nat.le_trans hS.1 (by rw [e1]; exact hz), fun q h1 h2 => by rw [e1, hk q (Nat.lt_of_lt_of_le h1 hS.1) (fun w => h2 (hF q w))]; exact hS.2.1 q h1 h2, fun q hq => by
      rcases List.mem_append.mp hq with h | h
      · exact hS.2.2 q h
      · exact hF _ (hL q h)⟩
  obtain ⟨t2, a1, b1⟩ := kk v' u hq p l e s m args below meth c D τ A ρ0 ρ Zf C hK hA hG hZ T'.heap (locs ++ L) lsA (by rw [e1]; exact hP1) (hD1.weaken (fun _ q _ w => hF q.1 w)) hS1 hl T' rfl X'
  refine ⟨t2, stp t2 ?_, b1⟩
  cases v' <;> exact a1
theorem AW.callS {Q' : Option Int → List AC → Prop} {z' : ZM} {idx d np : Nat} {as : List AV} {st0 : List AV} (hf : ftch z.2.2.2.2 pc = some (.invokestatic idx, 3)) (hn : pc + 3 = pn) (lk : LSt z.1.cls idx z' np) (hM : M0 z' d as h Q') (hst : st0 = as.reverse ++ st) (hnp : as.length = np) (hw : (st.map acat).sum ≤ 8) (hR : d + 1 ≤ R.frames ∧ 40 * (d + 1) ≤ R.locals) (hc0 : k ≤ R.cells ∧ n ≤ R.slots)
    (kk : ∀ v u, Q' v u → AW z G R MC MS k n pn ls (v.toList.map vi ++ st) u Q) : AW z G R MC MS k n pc ls st0 h Q := by
  intro p l e s m args below meth c D τ A ρ0 ρ Zf C hK hA hG hZ H locs lsA hP hD hS hl
  obtain ⟨hx, hb', hml, hown, hts, hL, -, -, -⟩ := id C
  obtain ⟨⟨hz, hini, hd, hlk⟩, hstt⟩ := lk
  have hRR : (rmd d).frames + 1 ≤ R.frames ∧ 8 + (z'.2.2.1 + 11) + (rmd d).locals ≤ R.locals := ⟨hR.1, by have := hR.2; have := hz.2.2.2; show 8 + (z'.2.2.1 + 11) + 40 * d ≤ R.locals; omega⟩
  have hpre : PreS s H (PM as h D τ ρ H.size) (as.map (cv ρ)) := ⟨PM_blind _ _ _ _ _ _, fun U hU hW => ⟨rfl, by rw [hU], by rw [hU]; exact hP, hK.warm hW, hD.weaken (fun _ _ _ _ => trivial)⟩⟩
  have hstk : (F0 m pc lsA (st0.map (cv ρ))).stack = (as.map (cv ρ)).reverse ++ st.map (cv ρ) := by
    show st0.map (cv ρ) = _
    rw [hst, List.map_append, List.map_reverse]
  have hWd : 2 * (F0 m pc lsA (st0.map (cv ρ))).monitorRoom + ((st.map (cv ρ)).map fun v => v.category).sum ≤ 8 := by
    refine lv_room ?_
    rw [List.map_map, show st.map ((fun v => v.category) ∘ cv ρ) = st.map acat from List.map_congr_left (fun v _ => cv_cat ρ v)]
    exact hw
  refine AW.behindRun hn kk C hK hA hG hZ hD hS hl (a := (as.map (cv ρ)).toArray) ?_
  rcases hlk with hlk | ⟨host, hlk⟩
  · exact va_runS (As := as.map (cv ρ)) ⟨hx, hb', hml, hown, hts⟩ (hM l D τ ρ H.size) ⟨callB_of np hts (zw_good hz) rfl rfl rfl (hts _ hini) (hts _ hlk) hd hRR, hts _ hstt⟩ hpre rfl (by rw [List.length_map]; exact hnp) hl.1 hstk hWd (okL_at hL hf).1 hc0
  · exact va_runSN (As := as.map (cv ρ)) ⟨hx, hb', hml, hown, hts⟩ (hM l D τ ρ H.size) ⟨va_cnB np hts (zw_good hz) rfl rfl rfl (hK.2.1 _ hlk) (hts _ hini) hd hRR, hts _ hstt, trivial⟩ hpre rfl (by rw [List.length_map]; exact hnp) hl.1 hstk hWd (okL_at hL hf).1 hc0
theorem AW.callV {Q' : Option Int → List AC → Prop} {z' : ZM} {idx d np ci i : Nat} {fs : List AV} {as : List AV} {st0 : List AV} (hf : ftch z.2.2.2.2 pc = some (.invokevirtual idx, 3)) (hn : pc + 3 = pn) (lk : LVt z.1.cls idx z' np ci) (hh : h[i]? = some (ao ci fs)) (hM : M0 z' d (vr i :: as) h Q') (hst : st0 = as.reverse ++ vr i :: st) (hnp : as.length = np) (hw : (st.map acat).sum ≤ 8) (hR : d + 1 ≤ R.frames ∧ 40 * (d + 1) ≤ R.locals) (hc0 : k ≤ R.cells ∧ n ≤ R.slots)
    (kk : ∀ v u, Q' v u → AW z G R MC MS k n pn ls (v.toList.map vi ++ st) u Q) : AW z G R MC MS k n pc ls st0 h Q := by
  intro p l e s m args below meth c D τ A ρ0 ρ Zf C hK hA hG hZ H locs lsA hP hD hS hl
  obtain ⟨hx, hb', hml, hown, hts, hL, -, -, -⟩ := id C
  obtain ⟨⟨hz, hini, hd, hlk⟩, hins, hsel, T, N, hci⟩ := lk
  have hRR : (rmd d).frames + 1 ≤ R.frames ∧ 8 + (z'.2.2.1 + 11) + (rmd d).locals ≤ R.locals := ⟨hR.1, by have := hR.2; have := hz.2.2.2; show 8 + (z'.2.2.1 + 11) + 40 * d ≤ R.locals; omega⟩
  have hpre : PreV s H z'.1.cls (ρ i) (PM (vr i :: as) h D τ ρ H.size) (as.map (cv ρ)) := ⟨PM_blind _ _ _ _ _ _, va_recv hK.1 hP hci (cw_get hh), fun U hU hW => ⟨rfl, by rw [hU], by rw [hU]; exact hP, hK.warm hW, hD.weaken (fun _ _ _ _ => trivial)⟩⟩
  have hstk : (F0 m pc lsA (st0.map (cv ρ))).stack = (as.map (cv ρ)).reverse ++ Value.ref (ρ i) :: st.map (cv ρ) := by
    show st0.map (cv ρ) = _
    rw [hst, List.map_append, List.map_reverse]; rfl
  have hWd : 2 * (F0 m pc lsA (st0.map (cv ρ))).monitorRoom + ((st.map (cv ρ)).map fun v => v.category).sum ≤ 8 := by
    refine lv_room ?_
    rw [List.map_map, show st.map ((fun v => v.category) ∘ cv ρ) = st.map acat from List.map_congr_left (fun v _ => cv_cat ρ v)]
    exact hw
  refine AW.behindRun hn kk C hK hA hG hZ hD hS hl (a := (Value.ref (ρ i) :: as.map (cv ρ)).toArray) ?_
  rcases hlk with hlk | ⟨host, hlk⟩
  · exact va_runV (As := as.map (cv ρ)) ⟨hx, hb', hml, hown, hts⟩ (hM l D τ ρ H.size) ⟨callB_of np hts (zw_good hz) rfl rfl rfl (hts _ hini) (hts _ hlk) hd hRR, hts _ hins, hts _ hsel⟩ hpre rfl (by rw [List.length_map]; exact hnp) hl.1 hstk hWd (okL_at hL hf).1 hc0
  · exact va_runVN (As := as.map (cv ρ)) ⟨hx, hb', hml, hown, hts⟩ (hM l D τ ρ H.size) ⟨va_cnB np hts (zw_good hz) rfl rfl rfl (hK.2.1 _ hlk) (hts _ hini) hd hRR, hts _ hins, hts _ hsel⟩ hpre rfl (by rw [List.length_map]; exact hnp) hl.1 hstk hWd (okL_at hL hf).1 hc0
theorem AW.tin {a lo hi dflt : Int} {offs : Array Int} {len : Nat} {off : Int} {tgt : Nat} (hf : ftch z.2.2.2.2 pc = some (.tableswitch dflt lo hi offs, len)) (ha : rng a) (h1 : lo ≤ a) (h2 : a ≤ hi) (ho : offs[(a - lo).toNat]? = some off) (ht : (pc : Int) + off = (tgt : Int))
    (kk : AW z G R MC MS k n tgt ls st h Q) : AW z G R MC MS k n pc ls (vi a :: st) h Q := by
  refine AW.fr ?_ kk
  intro p l e s m args below meth c ρ H locs lsA Zf C hl K
  obtain ⟨hx, hb', -, -, -, hL, -, -, -⟩ := C
  exact lv_tableIn hx hb' (okL_at hL hf).1 (by rw [iI_toInt ha]; omega) (by rw [iI_toInt ha]; omega) (by rw [iI_toInt ha]; exact ho) ht (K lsA hl)
theorem AW.tout {a lo hi dflt : Int} {offs : Array Int} {len : Nat} {tgt : Nat} (hf : ftch z.2.2.2.2 pc = some (.tableswitch dflt lo hi offs, len)) (ha : rng a) (h1 : a < lo ∨ hi < a) (ht : (pc : Int) + dflt = (tgt : Int))
    (kk : AW z G R MC MS k n tgt ls st h Q) : AW z G R MC MS k n pc ls (vi a :: st) h Q := by
  refine AW.fr ?_ kk
  intro p l e s m args below meth c ρ H locs lsA Zf C hl K
  obtain ⟨hx, hb', -, -, -, hL, -, -, -⟩ := C
  exact lv_tableOut hx hb' (okL_at hL hf).1 (by rw [iI_toInt ha]; exact h1) ht (K lsA hl)
end Rules
