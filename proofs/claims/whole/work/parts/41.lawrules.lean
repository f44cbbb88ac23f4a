/-! the law's own walk: the script lies outside the picture, at b0; its name in the picture is 1000 -/
def GS (b0 L0 : Nat) (xs : Nat → Int32) (s : State) (A : Nat → Prop) (ρ : Nat → Nat) : Prop := va_X b0 L0 xs s s.heap ∧ b0 < s.heap.size ∧ ¬ A b0 ∧ ρ 1000 = b0
/-- a return at pc -/
def retd (z : ZM) (pc : Nat) : Prop := decode z.2.1 pc = .ok (.ireturn, 1)
def LW (b0 L0 : Nat) (xs : Nat → Int32) (z : ZM) (R : Room) (MC MS k n pc : Nat) (ls : List (Nat × AV)) (st : List AV) (h : List AC) (Q : Option Int → List AC → Prop) : Prop :=
  ∀ (p : Program) (l : Launch) (e : Env) (s : State) (m : MethodId) (args : Array Value) (below : List Frame) (meth : Method) (c : Code) (D : va_G) (τ : Nat → ClassId) (A : Nat → Prop) (ρ0 ρ : Nat → Nat) (Zf : State → Prop),
    Cx z p s m args meth c → KK D τ s → (∀ q, s.heap.size ≤ q → A q) → GS b0 L0 xs s A ρ →
    (∀ (v : Option Int) (h' : List AC) (ρ' : Nat → Nat) (H' : Heap) (locs' : List Loc) (ls' : Array Slot) (pc' : Nat), Q v h' → retd z pc' → GS b0 L0 xs s A ρ' → va_P D classes (cw ρ' τ h') H' → va_D A (cw ρ' τ h') → va_S A s.heap H' locs' →
      W p l e R s m args below meth c H' locs' MC MS Zf (F0 m pc' ls' (v.toList.map (fun a => Value.int (iI a))))) →
    ∀ (H : Heap) (locs : List Loc) (lsA : Array Slot), va_P D classes (cw ρ τ h) H → va_D A (cw ρ τ h) → va_S A s.heap H locs → lv_has lsA z.2.2.1 (cl ρ ls) →
      W p l e R s m args below meth c H locs k n Zf (F0 m pc lsA (st.map (cv ρ)))
section Rules
variable {b0 L0 : Nat} {xs : Nat → Int32} {z : ZM} {R : Room} {MC MS k n pc pn p2 : Nat} {ls : List (Nat × AV)} {st : List AV} {h : List AC} {Q : Option Int → List AC → Prop}
theorem LW.retz {a : Int} (hf : ftch z.2.2.2.2 pc = some (.ireturn, 1)) (hk : k ≤ MC) (hn : n ≤ MS) (hq : Q (some a) h) : LW b0 L0 xs z R MC MS k n pc ls [vi a] h Q := by
  intro p l e s m args below meth c D τ A ρ0 ρ Zf C hK hA hG hZ H locs lsA hP hD hS hl
  exact W.widen hk hn (hZ (some a) h ρ H locs lsA pc hq (okL_at C.2.2.2.2.2.1 hf).1 hG hP hD hS)
theorem LW.wide {k' n' : Nat} (hk : k ≤ k') (hn : n ≤ n') (kk : LW b0 L0 xs z R MC MS k' n' pc ls st h Q) : LW b0 L0 xs z R MC MS k n pc ls st h Q := by
  intro p l e s m args below meth c D τ A ρ0 ρ Zf C hK hA hG hZ H locs lsA hP hD hS hl
  exact W.widen hk hn (kk p l e s m args below meth c D τ A ρ0 ρ Zf C hK hA hG hZ H locs lsA hP hD hS hl)
theorem LW.fr {pc' : Nat} {ls' : List (Nat × AV)} {st' : List AV}
    (hw : ∀ (p : Program) (l : Launch) (e : Env) (s : State) (m : MethodId) (args : Array Value) (below : List Frame) (meth : Method) (c : Code) (ρ : Nat → Nat) (H : Heap) (locs : List Loc) (lsA : Array Slot) (Zf : State → Prop), Cx z p s m args meth c → lv_has lsA z.2.2.1 (cl ρ ls) →
      (∀ lsB : Array Slot, lv_has lsB z.2.2.1 (cl ρ ls') → W p l e R s m args below meth c H locs k n Zf (F0 m pc' lsB (st'.map (cv ρ)))) → W p l e R s m args below meth c H locs k n Zf (F0 m pc lsA (st.map (cv ρ))))
    (kk : LW b0 L0 xs z R MC MS k n pc' ls' st' h Q) : LW b0 L0 xs z R MC MS k n pc ls st h Q := by
  intro p l e s m args below meth c D τ A ρ0 ρ Zf C hK hA hG hZ H locs lsA hP hD hS hl
  exact hw p l e s m args below meth c ρ H locs lsA Zf C hl (fun lsB hB => kk p l e s m args below meth c D τ A ρ0 ρ Zf C hK hA hG hZ H locs lsB hP hD hS hB)
set_option maxHeartbeats 4000000 in
theorem LW.p1 {pc' : Nat} {ls' : List (Nat × AV)} {st' : List AV} (hp : pst z.2.2.2.2 z.2.2.1 pc ls st = some (pc', ls', st')) (kk : LW b0 L0 xs z R MC MS k n pc' ls' st' h Q) : LW b0 L0 xs z R MC MS k n pc ls st h Q := by
  refine LW.fr ?_ kk
  intro p l e s m args below meth c ρ H locs lsA Zf C hl K
  obtain ⟨hx, hb, hml, hown, hts, hL, -, -, -⟩ := C
  unfold pst at hp
  split at hp
  next a hf =>
    obtain ⟨hd, ho⟩ := okL_at hL hf
    cases hp
    exact lv_iconst hx hb hd rfl (K lsA hl)
  next a hf =>
    obtain ⟨hd, ho⟩ := okL_at hL hf
    cases hp
    simp only [okI, Bool.and_eq_true, decide_eq_true_eq] at ho
    exact lv_bipush hx hb hd (i8_32 ho.1 ho.2) (K lsA hl)
  next a hf =>
    obtain ⟨hd, ho⟩ := okL_at hL hf
    cases hp
    simp only [okI, Bool.and_eq_true, decide_eq_true_eq] at ho
    exact lv_sipush hx hb hd (i16_32 ho.1 ho.2) (K lsA hl)
  next a hf =>
    obtain ⟨hd, ho⟩ := okL_at hL hf
    cases hp
    exact lv_lconst hx hb hd rfl (K lsA hl)
  next i hf =>
    obtain ⟨hd, ho⟩ := okL_at hL hf
    split at hp
    next a hk => cases hp; exact lv_iload hx hb hd (cl_at hl hk) (K lsA hl)
    next => cases hp
  next i hf =>
    obtain ⟨hd, ho⟩ := okL_at hL hf
    split at hp
    next a hk => cases hp; exact lv_iload_n hx hb hd rfl (cl_at hl hk) (K lsA hl)
    next => cases hp
  next i hf =>
    obtain ⟨hd, ho⟩ := okL_at hL hf
    split at hp
    next a hk => cases hp; exact lv_lload hx hb hd (cl_at hl hk) (K lsA hl)
    next => cases hp
  next i hf =>
    obtain ⟨hd, ho⟩ := okL_at hL hf
    split at hp
    next a hk => cases hp; exact lv_lload_n hx hb hd rfl (cl_at hl hk) (K lsA hl)
    next => cases hp
  next i hf =>
    obtain ⟨hd, ho⟩ := okL_at hL hf
    split at hp
    next a hk => cases hp; exact lv_aload hx hb hd (cl_at hl hk) (K lsA hl)
    next => cases hp
  next i hf =>
    obtain ⟨hd, ho⟩ := okL_at hL hf
    split at hp
    next a hk => cases hp; exact lv_aload_n hx hb hd rfl (cl_at hl hk) (K lsA hl)
    next => cases hp
  next i hf =>
    obtain ⟨hd, ho⟩ := okL_at hL hf
    split at hp
    next a st =>
      cases hi : Nat.blt i z.2.2.1 with
      | false => rw [hi] at hp; cases hp
      | true => rw [hi] at hp; cases hp; exact lv_istore hx hb hd hl (Nat.blt_eq ▸ hi) (cl_sto ρ ls i (vi a)) (fun lsB hB => K lsB hB)
    next => cases hp
  next i hf =>
    obtain ⟨hd, ho⟩ := okL_at hL hf
    split at hp
    next a st =>
      cases hi : Nat.blt i.val z.2.2.1 with
      | false => rw [hi] at hp; cases hp
      | true => rw [hi] at hp; cases hp; exact lv_istore_n hx hb hd rfl hl (Nat.blt_eq ▸ hi) (cl_sto ρ ls i (vi a)) (fun lsB hB => K lsB hB)
    next => cases hp
  next i hf =>
    obtain ⟨hd, ho⟩ := okL_at hL hf
    split at hp
    next a st =>
      cases hi : Nat.blt i z.2.2.1 with
      | false => rw [hi] at hp; cases hp
      | true => rw [hi] at hp; cases hp; exact lv_astore hx hb hd hl (Nat.blt_eq ▸ hi) (cl_sto ρ ls i (vr a)) (fun lsB hB => K lsB hB)
    next => cases hp
  next i hf =>
    obtain ⟨hd, ho⟩ := okL_at hL hf
    split at hp
    next a st =>
      cases hi : Nat.blt i.val z.2.2.1 with
      | false => rw [hi] at hp; cases hp
      | true => rw [hi] at hp; cases hp; exact lv_astore_n hx hb hd rfl hl (Nat.blt_eq ▸ hi) (cl_sto ρ ls i (vr a)) (fun lsB hB => K lsB hB)
    next => cases hp
  next i b hf =>
    obtain ⟨hd, ho⟩ := okL_at hL hf
    split at hp
    next a hk =>
      cases hi : Nat.blt i z.2.2.1 with
      | false => rw [hi] at hp; cases hp
      | true =>
        rw [hi] at hp; cases hp
        have hm : (i, cv ρ (vi a)) ∈ cl ρ ls := List.mem_map.mpr ⟨(i, vi a), lkp_mem hk, rfl⟩
        obtain ⟨kk9, hk9⟩ := List.getElem?_of_mem hm
        exact lv_iinc hx hb hd hl hk9 (iI_add a b) (Nat.blt_eq ▸ hi) (cl_sto ρ ls i (vi (a + b))) (fun lsB hB => K lsB hB)
    next => cases hp
  next hf =>
    obtain ⟨hd, ho⟩ := okL_at hL hf
    split at hp
    next b a st =>
      cases hp
      refine lv_iadd hx hb hd ?_
      rw [iI_add]
      exact K lsA hl
    next => cases hp
  next hf =>
    obtain ⟨hd, ho⟩ := okL_at hL hf
    split at hp
    next b a st =>
      cases hp
      refine lv_isub hx hb hd ?_
      rw [iI_sub]
      exact K lsA hl
    next => cases hp
  next hf =>
    obtain ⟨hd, ho⟩ := okL_at hL hf
    split at hp
    next b a st =>
      cases hp
      refine lv_imul hx hb hd ?_
      rw [iI_mul]
      exact K lsA hl
    next => cases hp
  next hf =>
    obtain ⟨hd, ho⟩ := okL_at hL hf
    split at hp
    next a st =>
      cases hp
      refine lv_ineg hx hb hd ?_
      rw [iI_neg]
      exact K lsA hl
    next => cases hp
  next hf =>
    obtain ⟨hd, ho⟩ := okL_at hL hf
    split at hp
    next a st => cases hp; exact lv_dup hx hb hd rfl (K lsA hl)
    next a st => cases hp; exact lv_dup hx hb hd (by rcases a with _ | a <;> rfl) (K lsA hl)
    next => cases hp
  next hf =>
    obtain ⟨hd, ho⟩ := okL_at hL hf
    split at hp
    next a b st => cases hp; exact lv_dup2_11 hx hb hd rfl (by rcases b with _ | b <;> rfl) (K lsA hl)
    next => cases hp
  next hf =>
    obtain ⟨hd, ho⟩ := okL_at hL hf
    split at hp
    next a st => cases hp; exact lv_pop hx hb hd rfl (K lsA hl)
    next => cases hp
  next o hf =>
    obtain ⟨hd, ho⟩ := okL_at hL hf
    split at hp
    next t ht => cases hp; exact lv_goto hx hb hd ht (K lsA hl)
    next => cases hp
  next => cases hp
theorem LW.go {pc' : Nat} {ls' : List (Nat × AV)} {st' : List AV} : ∀ (j : Nat) {pc : Nat} {ls : List (Nat × AV)} {st : List AV}, psn z.2.2.2.2 z.2.2.1 j pc ls st = some (pc', ls', st') → LW b0 L0 xs z R MC MS k n pc' ls' st' h Q → LW b0 L0 xs z R MC MS k n pc ls st h Q
  | 0, pc, ls, st, hp, kk => by
    cases hp; exact kk
  | j + 1, pc, ls, st, hp, kk => by
    unfold psn at hp
    split at hp
    next a b c he => exact LW.p1 he (LW.go j hp kk)
    next => cases hp
theorem LW.bi {a b : Int} {cnd : ClassFile.Cond} {off : Int} {tgt : Nat} (hf : ftch z.2.2.2.2 pc = some (.if_icmp cnd off, 3)) (ht : (pc : Int) + off = (tgt : Int)) (hn : pc + 3 = pn) (ha : rng a) (hb : rng b)
    (kt : cmpI cnd a b → LW b0 L0 xs z R MC MS k n tgt ls st h Q) (kf : ¬ cmpI cnd a b → LW b0 L0 xs z R MC MS k n pn ls st h Q) : LW b0 L0 xs z R MC MS k n pc ls (vi b :: vi a :: st) h Q := by
  intro p l e s m args below meth c D τ A ρ0 ρ Zf C hK hA hG hZ H locs lsA hP hD hS hl
  obtain ⟨hx, hb', -, -, -, hL, -, -, -⟩ := id C
  subst hn
  obtain ⟨hd, -⟩ := okL_at hL hf
  have KT := fun q => kt q p l e s m args below meth c D τ A ρ0 ρ Zf C hK hA hG hZ H locs lsA hP hD hS hl
  have KF := fun q => kf q p l e s m args below meth c D τ A ρ0 ρ Zf C hK hA hG hZ H locs lsA hP hD hS hl
  cases cnd
  · exact lv_icmp_eq hx hb' hd ht (fun q => KT ((iI_eq ha hb).mp q)) (fun q => KF (fun w => q ((iI_eq ha hb).mpr w)))
  · exact lv_icmp_ne hx hb' hd ht (fun q => KT (fun w => q ((iI_eq ha hb).mpr w))) (fun q => KF (fun w => w ((iI_eq ha hb).mp q)))
  · exact lv_icmp_lt hx hb' hd ht (fun q => KT ((iI_lt ha hb).mp q)) (fun q => KF (fun w => q ((iI_lt ha hb).mpr w)))
  · exact lv_icmp_ge hx hb' hd ht (fun q => KT ((iI_le hb ha).mp q)) (fun q => KF (fun w => q ((iI_le hb ha).mpr w)))
  · exact lv_icmp_gt hx hb' hd ht (fun q => KT ((iI_lt hb ha).mp q)) (fun q => KF (fun w => q ((iI_lt hb ha).mpr w)))
  · exact lv_icmp_le hx hb' hd ht (fun q => KT ((iI_le ha hb).mp q)) (fun q => KF (fun w => q ((iI_le ha hb).mpr w)))
theorem LW.iandG {a b : Int} (hf : ftch z.2.2.2.2 pc = some (.iand, 1)) (hn : pc + 1 = pn)
    (kk : LW b0 L0 xs z R MC MS k n pn ls (vi (iI a &&& iI b).toInt :: st) h Q) : LW b0 L0 xs z R MC MS k n pc ls (vi b :: vi a :: st) h Q := by
  subst hn
  refine LW.fr ?_ kk
  intro p l e s m args below meth c ρ H locs lsA Zf C hl K
  obtain ⟨hx, hb', -, -, -, hL, -, -, -⟩ := C
  refine lv_iand hx hb' (okL_at hL hf).1 ?_
  have K1 := K lsA hl
  show W p l e R s m args below meth c H locs k n Zf (F0 m (pc + 1) lsA (Value.int (iI a &&& iI b) :: st.map (cv ρ)))
  rw [← iI_of (iI a &&& iI b)]
  exact K1
theorem LW.behindRun {Q' : Option Int → List AC → Prop} (hn : pc + 3 = pn) (kk : ∀ v u, Q' v u → LW b0 L0 xs z R MC MS k n pn ls (v.toList.map vi ++ st) u Q)
    {p : Program} {l : Launch} {e : Env} {s : State} {m : MethodId} {args : Array Value} {below : List Frame} {meth : Method} {c : Code} {D : va_G} {τ : Nat → ClassId} {A : Nat → Prop} {ρ0 ρ : Nat → Nat} {Zf : State → Prop}
    (C : Cx z p s m args meth c) (hK : KK D τ s) (hA : ∀ q, s.heap.size ≤ q → A q) (hG : GS b0 L0 xs s A ρ)
    (hZ : ∀ (v : Option Int) (h' : List AC) (ρ' : Nat → Nat) (H' : Heap) (locs' : List Loc) (ls' : Array Slot) (pc' : Nat), Q v h' → retd z pc' → GS b0 L0 xs s A ρ' → va_P D classes (cw ρ' τ h') H' → va_D A (cw ρ' τ h') → va_S A s.heap H' locs' →
      W p l e R s m args below meth c H' locs' MC MS Zf (F0 m pc' ls' (v.toList.map (fun a => Value.int (iI a)))))
    {H : Heap} {locs : List Loc} {lsA : Array Slot} (hD : va_D A (cw ρ τ h)) (hS : va_S A s.heap H locs) (hl : lv_has lsA z.2.2.1 (cl ρ ls)) {st0 : List Value} {a : Array Value}
    (hr : va_Run p l e R s m args below meth c H locs k n 0 0 (F0 m pc lsA st0) (st.map (cv ρ)) (QM Q' D τ ρ (va_A (cw ρ τ h) H.size) a) (va_A (cw ρ τ h) H.size)) :
    W p l e R s m args below meth c H locs k n Zf (F0 m pc lsA st0) := by
  subst hn
  have hF := va_A_in hD hS hA
  intro T hT X
  obtain ⟨v, st₀, t, T', L, h0, X', hL, e1, e2, ⟨⟨v', u, hv, hq, hP1, hD1⟩, hz, hk⟩, stp⟩ := hr T hT X
  rw [h0] at hz hk
  have ev : v = v'.map (fun a => Value.int (iI a)) := by cases hv; rfl
  subst ev
  have hS1 : va_S A s.heap T'.heap (locs ++ L) := ⟨Nat.le_trans hS.1 (by rw [e1]; exact hz), fun q h1 h2 => by rw [e1, hk q (Nat.lt_of_lt_of_le h1 hS.1) (fun w => h2 (hF q w))]; exact hS.2.1 q h1 h2, fun q hq => by
      rcases List.mem_append.mp hq with h | h
      · exact hS.2.2 q h
      · exact hF _ (hL q h)⟩
  obtain ⟨t2, a1, b1⟩ := kk v' u hq p l e s m args below meth c D τ A ρ0 ρ Zf C hK hA hG hZ T'.heap (locs ++ L) lsA (by rw [e1]; exact hP1) (hD1.weaken (fun _ q _ w => hF q.1 w)) hS1 hl T' rfl X'
  refine ⟨t2, stp t2 ?_, b1⟩
  cases v' <;> exact a1
theorem LW.callV {Q' : Option Int → List AC → Prop} {z' : ZM} {idx d np ci i : Nat} {fs : List AV} {as : List AV} {st0 : List AV} (hf : ftch z.2.2.2.2 pc = some (.invokevirtual idx, 3)) (hn : pc + 3 = pn) (lk : LVt z.1.cls idx z' np ci) (hh : h[i]? = some (ao ci fs)) (hM : M0 z' d (vr i :: as) h Q') (hst : st0 = as.reverse ++ vr i :: st) (hnp : as.length = np) (hw : (st.map acat).sum ≤ 8) (hR : d + 1 ≤ R.frames ∧ 40 * (d + 1) ≤ R.locals) (hc0 : k ≤ R.cells ∧ n ≤ R.slots)
    (kk : ∀ v u, Q' v u → LW b0 L0 xs z R MC MS k n pn ls (v.toList.map vi ++ st) u Q) : LW b0 L0 xs z R MC MS k n pc ls st0 h Q := by
  intro p l e s m args below meth c D τ A ρ0 ρ Zf C hK hA hG hZ H locs lsA hP hD hS hl
  obtain ⟨hx, hb', hml, hown, hts, hL, -, -, -⟩ := id C
  obtain ⟨⟨hz, hini, hd, hlk⟩, hins, hsel, T, N, hci⟩ := lk
  have hRR : (rmd d).frames + 1 ≤ R.frames ∧ 8 + (z'.2.2.1 + 11) + (rmd d).locals ≤ R.locals := ⟨hR.1, by have := hR.2; have := hz.2.2.2; show 8 + (z'.2.2.1 + 11) + 40 * d ≤ R.locals; omega⟩
  have hpre : PreV s H z'.1.cls (ρ i) (PM (vr i :: as) h D τ ρ H.size) (as.map (cv ρ)) := ⟨PM_blind _ _ _ _ _ _, va_recv hK.1 hP hci (cw_get hh), fun U hU hW => ⟨rfl, by rw [hU], by rw [hU]; exact hP, hK.warm hW, hD.weaken (fun _ _ _ _ => trivial)⟩⟩
  have hstk : (F0 m pc lsA (st0.map (cv ρ))).stack = (as.map (cv ρ)).reverse ++ Value.ref (ρ i) :: st.map (cv ρ) := by
    show st0.map (cv ρ) = _
    rw [hst, List.map_append, List.map_reverse]; rfl
  have hWd : 2 * (F0 m pc lsA (st0.map (cv ρ))).monitorRoom + ((st.map (cv ρ)).map fun v => v.category).sum ≤ 8 := by
    refine lv_room ?_
    rw [List.map_map, show st.map ((fun v => v.category) ∘ cv ρ) = st.map acat from List.map_congr_left (fun v _ => cv_cat ρ v)]
    exact hw
  refine LW.behindRun (ρ0 := ρ0) hn kk C hK hA hG hZ hD hS hl (a := (Value.ref (ρ i) :: as.map (cv ρ)).toArray) ?_
  rcases hlk with hlk | ⟨host, hlk⟩
  · exact va_runV (As := as.map (cv ρ)) ⟨hx, hb', hml, hown, hts⟩ (hM l D τ ρ H.size) ⟨callB_of np hts (zw_good hz) rfl rfl rfl (hts _ hini) (hts _ hlk) hd hRR, hts _ hins, hts _ hsel⟩ hpre rfl (by rw [List.length_map]; exact hnp) hl.1 hstk hWd (okL_at hL hf).1 hc0
  · exact va_runVN (As := as.map (cv ρ)) ⟨hx, hb', hml, hown, hts⟩ (hM l D τ ρ H.size) ⟨va_cnB np hts (zw_good hz) rfl rfl rfl (hK.2.1 _ hlk) (hts _ hini) hd hRR, hts _ hins, hts _ hsel⟩ hpre rfl (by rw [List.length_map]; exact hnp) hl.1 hstk hWd (okL_at hL hf).1 hc0
theorem LW.tin {a lo hi dflt : Int} {offs : Array Int} {len : Nat} {off : Int} {tgt : Nat} (hf : ftch z.2.2.2.2 pc = some (.tableswitch dflt lo hi offs, len)) (ha : rng a) (h1 : lo ≤ a) (h2 : a ≤ hi) (ho : offs[(a - lo).toNat]? = some off) (ht : (pc : Int) + off = (tgt : Int))
    (kk : LW b0 L0 xs z R MC MS k n tgt ls st h Q) : LW b0 L0 xs z R MC MS k n pc ls (vi a :: st) h Q := by
  refine LW.fr ?_ kk
  intro p l e s m args below meth c ρ H locs lsA Zf C hl K
  obtain ⟨hx, hb', -, -, -, hL, -, -, -⟩ := C
  exact lv_tableIn hx hb' (okL_at hL hf).1 (by rw [iI_toInt ha]; omega) (by rw [iI_toInt ha]; omega) (by rw [iI_toInt ha]; exact ho) ht (K lsA hl)
theorem LW.tout {a lo hi dflt : Int} {offs : Array Int} {len : Nat} {tgt : Nat} (hf : ftch z.2.2.2.2 pc = some (.tableswitch dflt lo hi offs, len)) (ha : rng a) (h1 : a < lo ∨ hi < a) (ht : (pc : Int) + dflt = (tgt : Int))
    (kk : LW b0 L0 xs z R MC MS k n tgt ls st h Q) : LW b0 L0 xs z R MC MS k n pc ls (vi a :: st) h Q := by
  refine LW.fr ?_ kk
  intro p l e s m args below meth c ρ H locs lsA Zf C hl K
  obtain ⟨hx, hb', -, -, -, hL, -, -, -⟩ := C
  exact lv_tableOut hx hb' (okL_at hL hf).1 (by rw [iI_toInt ha]; exact h1) ht (K lsA hl)
theorem LW.lw {ls' : List (Nat × AV)} (hs : lsb ls' ls) (kk : LW b0 L0 xs z R MC MS k n pc ls' st h Q) : LW b0 L0 xs z R MC MS k n pc ls st h Q := by
  intro p l e s m args below meth c D τ A ρ0 ρ Zf C hK hA hG hZ H locs lsA hP hD hS hl
  refine kk p l e s m args below meth c D τ A ρ0 ρ Zf C hK hA hG hZ H locs lsA hP hD hS ⟨hl.1, hl.2.1, fun q hq => ?_⟩
  obtain ⟨r, hr, rfl⟩ := List.mem_map.mp hq
  exact hl.2.2 _ (List.mem_map.mpr ⟨r, lsb_mem hs r hr, rfl⟩)
theorem LW.hp {h' : List AC} (e : h = h') (kk : LW b0 L0 xs z R MC MS k n pc ls st h' Q) : LW b0 L0 xs z R MC MS k n pc ls st h Q := e ▸ kk
/-- the script's length, and one of its ints -/
theorem LW.slen (hf : ftch z.2.2.2.2 pc = some (.arraylength, 1)) (hn : pc + 1 = pn) (hL : L0 ≤ 2560)
    (kk : LW b0 L0 xs z R MC MS k n pn ls (vi (L0 : Int) :: st) h Q) : LW b0 L0 xs z R MC MS k n pc ls (vr 1000 :: st) h Q := by
  subst hn
  intro p l e s m args below meth c D τ A ρ0 ρ Zf C hK hA hG hZ H locs lsA hP hD hS hl
  obtain ⟨hx, hb', -, -, -, hLL, -, -, -⟩ := id C
  obtain ⟨hX, hbl, hbA, hρ⟩ := id hG
  have K := kk p l e s m args below meth c D τ A ρ0 ρ Zf C hK hA hG hZ H locs lsA hP hD hS hl
  have e1 : (vr 1000 :: st).map (cv ρ) = .ref b0 :: st.map (cv ρ) := by
    show va_rf (some (ρ 1000)) :: st.map (cv ρ) = _
    rw [hρ]; rfl
  rw [e1]
  refine va_slen hx hb' hX hbl hbA hS (okL_at hLL hf).1 ?_
  have e2 : Int32.ofNat L0 = iI (L0 : Int) := by
    unfold iI
    first | rfl | exact (Int32.ofInt_natCast L0).symm | simp
  rw [e2]
  exact K
theorem LW.sld {a : Int} (hf : ftch z.2.2.2.2 pc = some (.iaload, 1)) (hn : pc + 1 = pn) (hL : L0 ≤ 2560) (h0 : 0 ≤ a) (h1 : a < (L0 : Int))
    (kk : LW b0 L0 xs z R MC MS k n pn ls (vi (xs a.toNat).toInt :: st) h Q) : LW b0 L0 xs z R MC MS k n pc ls (vi a :: vr 1000 :: st) h Q := by
  subst hn
  intro p l e s m args below meth c D τ A ρ0 ρ Zf C hK hA hG hZ H locs lsA hP hD hS hl
  obtain ⟨hx, hb', -, -, -, hLL, -, -, -⟩ := id C
  obtain ⟨hX, hbl, hbA, hρ⟩ := id hG
  have K := kk p l e s m args below meth c D τ A ρ0 ρ Zf C hK hA hG hZ H locs lsA hP hD hS hl
  have e1 : (vi a :: vr 1000 :: st).map (cv ρ) = .int (iI a) :: .ref b0 :: st.map (cv ρ) := by
    show Value.int (iI a) :: va_rf (some (ρ 1000)) :: st.map (cv ρ) = _
    rw [hρ]; rfl
  rw [e1]
  refine va_sld hx hb' hX hbl hbA hS (iI_in h0 h1 (by omega)) (okL_at hLL hf).1 ?_
  rw [iI_nat h0 (by omega)]
  have e3 : (vi (xs a.toNat).toInt :: st).map (cv ρ) = .int (xs a.toNat) :: st.map (cv ρ) := by
    show Value.int (iI (xs a.toNat).toInt) :: st.map (cv ρ) = _
    rw [iI_of]
  rw [e3] at K
  exact K
/-- a place of the picture, or the script's -/
def lims (n : Nat) (v : AV) : Prop := lim n v ∨ v = vr 1000
theorem cvs {ρ ρ' : Nat → Nat} {n : Nat} (he : ∀ i, i < n → ρ' i = ρ i) (h1 : ρ' 1000 = ρ 1000) {v : AV} (hv : lims n v) : cv ρ' v = cv ρ v := by
  rcases hv with q | rfl
  · exact cv_ext he q
  · show va_rf (some (ρ' 1000)) = va_rf (some (ρ 1000))
    rw [h1]
theorem cls9 {ρ ρ' : Nat → Nat} {n : Nat} (he : ∀ i, i < n → ρ' i = ρ i) (h1 : ρ' 1000 = ρ 1000) {ls : List (Nat × AV)} (hl : ∀ q ∈ ls, lims n q.2) : cl ρ' ls = cl ρ ls :=
  List.map_congr_left (fun q hq => by rw [cvs he h1 (hl q hq)])
theorem sts9 {ρ ρ' : Nat → Nat} {n : Nat} (he : ∀ i, i < n → ρ' i = ρ i) (h1 : ρ' 1000 = ρ 1000) {st : List AV} (hl : ∀ q ∈ st, lims n q) : st.map (cv ρ') = st.map (cv ρ) :=
  List.map_congr_left (fun q hq => cvs he h1 (hl q hq))
theorem LW.newo {N idx ci : Nat} {fs : List AV} (hf : ftch z.2.2.2.2 pc = some (.new idx, 3)) (hn : pc + 3 = pn) (hw : NO z.1.cls idx ci fs N) (hfs : ∀ v ∈ fs, lim 0 v) (hcl : clo h) (hls : ∀ q ∈ ls, lims h.length q.2) (hst : ∀ v ∈ st, lims h.length v) (h0 : h.length < 1000) (hr : k + 1 ≤ R.cells ∧ n + N ≤ R.slots)
    (kk : LW b0 L0 xs z R MC MS (k + 1) (n + N) pn ls (vr h.length :: st) (h ++ [ao ci fs]) Q) : LW b0 L0 xs z R MC MS k n pc ls st h Q := by
  subst hn
  intro p l e s m args below meth c D τ A ρ0 ρ Zf C hK hA hG hZ H locs lsA hP hD hS hl
  obtain ⟨hx, hb', hml, hown, hts, hL, -, -, -⟩ := id C
  obtain ⟨Cn, T, ty, hc, hin, hty, w1, w2, w3, hdf⟩ := hw
  refine va_new (fs := fs.map (cv ρ)) hx hb' hts hin ty hty hown (hts _ w1) (hts _ w2) (hts _ w3) hK.1 hP hD hS hA hc (hdf ρ) hr.1 hr.2 (okL_at hL hf).1 ?_
  intro q H1 hP1 hD1 hS1
  have h1k : rpush ρ h.length q 1000 = ρ 1000 := if_neg (by omega)
  have eW := cw_pushed (ρ := ρ) (τ := τ) hcl (ao ci fs) q
  have he : ∀ i, i < h.length → rpush ρ h.length q i = ρ i := fun i hi => rpush_old hi
  have ef : fs.map (cv (rpush ρ h.length q)) = fs.map (cv ρ) := st_ext (n := 0) (fun i hi => absurd hi (Nat.not_lt_zero i)) hfs
  have eC : ce (rpush ρ h.length q) τ (ao ci fs) = .inr (ci, fs.map (cv ρ)) := by
    show (Sum.inr (ci, fs.map (cv (rpush ρ h.length q))) : va_E) = _
    rw [ef]
  rw [eC] at eW
  have K := kk p l e s m args below meth c D τ A ρ0 (rpush ρ h.length q) Zf C hK hA ⟨hG.1, hG.2.1, hG.2.2.1, h1k.trans hG.2.2.2⟩ hZ H1 locs lsA (by rw [eW]; exact hP1) (by rw [eW]; exact hD1) hS1 (by rw [cls9 he h1k hls]; exact hl)
  have eS : (vr h.length :: st).map (cv (rpush ρ h.length q)) = .ref q :: st.map (cv ρ) := by
    rw [List.map_cons, sts9 he h1k hst]
    show va_rf (some (rpush ρ h.length q h.length)) :: _ = _
    rw [rpush_new]; rfl
  rw [eS] at K
  exact K
theorem LW.callI {Q' : Option Int → List AC → Prop} {z' : ZM} {idx d mc ms i : Nat} (hf : ftch z.2.2.2.2 pc = some (.invokespecial idx, 3)) (hn : pc + 3 = pn) (lk : LKc z.1.cls idx z' 0 ∧ Cond.instanceMethod z'.1 ∈ gtb) (hin : z'.1.name = "<init>" ∧ z'.2.2.2.1 = none) (hM : M1 z' d mc ms [vr i] h Q') (hls : ∀ q ∈ ls, lims h.length q.2) (hst : ∀ v ∈ st, lims h.length v) (hu : ∀ v u, Q' v u → h.length ≤ u.length ∧ u.length ≤ 1000 ∧ clo u) (hw : (st.map acat).sum ≤ 8) (hR : d + 1 ≤ R.frames ∧ 40 * (d + 1) ≤ R.locals) (hc0 : k + mc ≤ R.cells ∧ n + ms ≤ R.slots)
    (kk : ∀ u, Q' none u → LW b0 L0 xs z R MC MS (k + mc) (n + ms) pn ls st u Q) (hq0 : ∀ a u, ¬ Q' (some a) u) : LW b0 L0 xs z R MC MS k n pc ls (vr i :: st) h Q := by
  subst hn
  intro p l e s m args below meth c D τ A ρ0 ρ Zf C hK hA hG hZ H locs lsA hP hD hS hl
  obtain ⟨hx, hb', hml, hown, hts, hL, -, -, -⟩ := id C
  obtain ⟨⟨hz, hini, hd, hlk⟩, hins⟩ := lk
  have hRR : (rmc d mc ms).frames + 1 ≤ R.frames ∧ 8 + (z'.2.2.1 + 11) + (rmc d mc ms).locals ≤ R.locals := ⟨hR.1, by have := hR.2; have := hz.2.2.2; show 8 + (z'.2.2.1 + 11) + 40 * d ≤ R.locals; omega⟩
  have hpre : PreS s H (PM [vr i] h D τ ρ H.size) (.ref (ρ i) :: []) := ⟨PM_blind _ _ _ _ _ _, fun U hU hW => ⟨rfl, by rw [hU], by rw [hU]; exact hP, hK.warm hW, hD.weaken (fun _ _ _ _ => trivial)⟩⟩
  have hWd : 2 * (F0 m pc lsA ((vr i :: st).map (cv ρ))).monitorRoom + ((st.map (cv ρ)).map fun v => v.category).sum ≤ 8 := by
    refine lv_room ?_
    rw [List.map_map, show st.map ((fun v => v.category) ∘ cv ρ) = st.map acat from List.map_congr_left (fun v _ => cv_cat ρ v)]
    exact hw
  have hr : va_Run p l e R s m args below meth c H locs k n mc ms (F0 m pc lsA ((vr i :: st).map (cv ρ))) (st.map (cv ρ)) (QM1 Q' D τ ρ h.length (va_A (cw ρ τ h) H.size) (Value.ref (ρ i) :: []).toArray) (va_A (cw ρ τ h) H.size) := by
    have hw0 : zw z' = Cond.code z'.1 z'.2.1 z'.2.2.1 none :: gtb := by unfold zw; rw [hin.2]
    rcases hlk with hlk | ⟨host, hlk⟩
    · exact va_runI (As := []) (b := ρ i) ⟨hx, hb', hml, hown, hts⟩ (hM l D τ ρ H.size) (cwI 0 hts (zw_good hz) hw0 rfl rfl (hts _ hini) (hts _ hlk) (hts _ hins) hin.1 hd hRR) hpre rfl rfl hl.1 rfl hWd (okL_at hL hf).1 hc0
    · exact va_runIN (As := []) (b := ρ i) ⟨hx, hb', hml, hown, hts⟩ (hM l D τ ρ H.size) ⟨va_cnB 0 hts (zw_good hz) hw0 rfl rfl (hK.2.1 _ hlk) (hts _ hini) hd hRR, hin.1, hts _ hins⟩ hpre rfl rfl hl.1 rfl hWd (okL_at hL hf).1 hc0
  have hF := va_A_in hD hS hA
  intro T hT X
  obtain ⟨v, st₀, t, T', L, e0, X', hLL, e1, e2, ⟨⟨v', u, ρ', hρ, hv, hq, hP1, hD1⟩, hz1, hk1⟩, stp⟩ := hr T hT X
  rw [e0] at hz1 hk1
  have ev : v = v'.map (fun a => Value.int (iI a)) := by cases hv; rfl
  subst ev
  have hS1 : va_S A s.heap T'.heap (locs ++ L) := ⟨Nat.le_trans hS.1 (by rw [e1]; exact hz1), fun q h1 h2 => by rw [e1, hk1 q (Nat.lt_of_lt_of_le h1 hS.1) (fun w => h2 (hF q w))]; exact hS.2.1 q h1 h2, fun q hq => by
      rcases List.mem_append.mp hq with h | h
      · exact hS.2.2 q h
      · exact hF _ (hLL q h)⟩
  cases v' with
  | some a => exact absurd hq (hq0 a u)
  | none =>
    obtain ⟨hu1, hu2, hu3⟩ := hu none u hq
    have hr1 : ∀ i, i < u.length → (fun i => if i < u.length then ρ' i else ρ i) i = ρ' i := fun i hi => if_pos hi
    have hr2 : ∀ i, i < h.length → (fun i => if i < u.length then ρ' i else ρ i) i = ρ i := fun i hi => (if_pos (Nat.lt_of_lt_of_le hi hu1)).trans (hρ i hi)
    have hr3 : (fun i => if i < u.length then ρ' i else ρ i) 1000 = ρ 1000 := if_neg (by omega)
    generalize (fun i => if i < u.length then ρ' i else ρ i) = ρ'' at hr1 hr2 hr3
    have eW : cw ρ'' τ u = cw ρ' τ u := cw_ext hu3 hr1
    obtain ⟨t2, a1, b1⟩ := kk u hq p l e s m args below meth c D τ A ρ0 ρ'' Zf C hK hA ⟨hG.1, hG.2.1, hG.2.2.1, hr3.trans hG.2.2.2⟩ hZ T'.heap (locs ++ L) lsA (by rw [e1, eW]; exact hP1) (by rw [eW]; exact hD1.weaken (fun _ q _ w => hF q.1 w)) hS1 (by rw [cls9 hr2 hr3 hls]; exact hl) T' rfl X'
    refine ⟨t2, stp t2 ?_, b1⟩
    rw [sts9 hr2 hr3 hst] at a1
    exact a1
theorem LW.objN {Q' : Option Int → List AC → Prop} {z' : ZM} {idx idx2 ci N d mc ms : Nat} {fs : List AV} (hf : ftch z.2.2.2.2 pc = some (.new idx, 3)) (hn : pc + 3 = p2) (hd1 : ftch z.2.2.2.2 p2 = some (.dup, 1)) (hf2 : ftch z.2.2.2.2 (p2 + 1) = some (.invokespecial idx2, 3)) (hn2 : p2 + 4 = pn) (hw : NO z.1.cls idx ci fs N) (hfs : ∀ v ∈ fs, lim 0 v) (lk : LKc z.1.cls idx2 z' 0 ∧ Cond.instanceMethod z'.1 ∈ gtb) (hin : z'.1.name = "<init>" ∧ z'.2.2.2.1 = none) (hM : M1 z' d mc ms [vr h.length] (h ++ [ao ci fs]) Q') (hcl : clo h) (hls : ∀ q ∈ ls, lims h.length q.2) (hst : ∀ v ∈ st, lims h.length v) (h0 : h.length < 1000) (hu : ∀ v u, Q' v u → h.length + 1 ≤ u.length ∧ u.length ≤ 1000 ∧ clo u) (hws : ((vr h.length :: st).map acat).sum ≤ 8) (hR : d + 1 ≤ R.frames ∧ 40 * (d + 1) ≤ R.locals) (hr : k + 1 + mc ≤ R.cells ∧ n + N + ms ≤ R.slots)
    (kk : ∀ u, Q' none u → LW b0 L0 xs z R MC MS (k + 1 + mc) (n + N + ms) pn ls (vr h.length :: st) u Q) (hq0 : ∀ a u, ¬ Q' (some a) u) : LW b0 L0 xs z R MC MS k n pc ls st h Q := by
  refine LW.newo hf hn hw hfs hcl hls hst h0 (by omega) ?_
  refine LW.p1 (pc' := p2 + 1) (ls' := ls) (st' := vr h.length :: vr h.length :: st) ?_ ?_
  · unfold pst; rw [hd1]; rfl
  · have hl1 : (h ++ [ao ci fs]).length = h.length + 1 := by rw [List.length_append]; rfl
    refine LW.callI hf2 (by omega) lk hin hM (fun q hq => ?_) (fun q hq => ?_) (fun v u q => by rw [hl1]; exact hu v u q) hws hR (by omega) kk hq0
    · rw [hl1]
      rcases hls q hq with w | w
      · exact Or.inl (lim_mono (Nat.le_succ _) w)
      · exact Or.inr w
    · rw [hl1]
      rcases List.mem_cons.mp hq with rfl | hq
      · exact Or.inl (Nat.lt_succ_self _)
      · rcases hst q hq with w | w
        · exact Or.inl (lim_mono (Nat.le_succ _) w)
        · exact Or.inr w
theorem arrV_cg {c : ClassId} {N : Nat} {f g : Nat → Value} (h : ∀ j, j < N → f j = g j) : arrV c N f = arrV c N g := by
  unfold arrV
  have e : (fun j : Fin N => f j.val) = fun j : Fin N => g j.val := funext (fun j => h j.val j.isLt)
  rw [e]
/-- cells that are alike -/
def ceq (e e' : AC) : Prop := e = e' ∨ ∃ (t n : Nat) (f g : Nat → Int), e = ai t n f ∧ e' = ai t n g ∧ ∀ j, j < n → f j = g j
def sim (h h' : List AC) : Prop := h'.length = h.length ∧ ∀ (i : Nat) (e e' : AC), h[i]? = some e → h'[i]? = some e' → ceq e e'
theorem LW.canon {h' : List AC} (hs : sim h h') (kk : LW b0 L0 xs z R MC MS k n pc ls st h' Q) : LW b0 L0 xs z R MC MS k n pc ls st h Q := by
  intro p l e s m args below meth c D τ A ρ0 ρ Zf C hK hA hG hZ H locs lsA hP hD hS hl
  have key : ∀ (j : Nat) (q : Nat × va_E), (cw ρ τ h')[j]? = some q → ∃ q' : Nat × va_E, (cw ρ τ h)[j]? = some q' ∧ q'.1 = q.1 ∧ (va_at D classes q' H → va_at D classes q H) := by
    intro j q hq
    unfold cw at hq
    rw [List.getElem?_mapIdx] at hq
    obtain ⟨e', he', rfl⟩ := Option.map_eq_some_iff.mp hq
    have hj : j < h.length := by rw [← hs.1]; exact (List.getElem?_eq_some_iff.mp he').1
    have he : h[j]? = some h[j] := List.getElem?_eq_getElem hj
    refine ⟨(ρ j, ce ρ τ h[j]), cw_get he, rfl, fun w => ?_⟩
    rcases hs.2 j _ e' he he' with q | ⟨t, N, f, g, e1, e2, e3⟩
    · rw [← q]; exact w
    · rw [e1] at w
      rw [e2]
      have w : H[ρ j]? = some (vp_cell (τ t) (N, .inl (fun j => iI (f j)))) := w
      show H[ρ j]? = some (vp_cell (τ t) (N, .inl (fun j => iI (g j))))
      rw [w, vp_cell_i, vp_cell_i]
      congr 1
      refine arrV_cg (fun j hj => ?_)
      rw [e3 j hj]
  refine kk p l e s m args below meth c D τ A ρ0 ρ Zf C hK hA hG hZ H locs lsA (fun j q hq => ?_) ⟨fun i j x y hi hj hxy => ?_, fun j q hq => ?_⟩ hS hl
  · obtain ⟨q', h1, -, h3⟩ := key j q hq
    exact h3 (hP j q' h1)
  · obtain ⟨x', h1, h2, -⟩ := key i x hi
    obtain ⟨y', h3, h4, -⟩ := key j y hj
    exact hD.1 i j x' y' h1 h3 (by rw [h2, h4]; exact hxy)
  · obtain ⟨q', h1, h2, -⟩ := key j q hq
    rw [← h2]; exact hD.2 j q' h1
end Rules
