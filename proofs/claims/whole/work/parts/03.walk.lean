/-! what holds of the tables, and the walk's judgement -/
abbrev classes : List vw_C := [(RX0, TX0, 2), (RX1, TX1, 6), (RX2, TX2, 3), (RX3, TX3, 5), (RX4, TX4, 14)]
def isNst : Cond → Bool
  | .methodLinkNest .. => true
  | .fieldLinkNest .. => true
  | _ => false
def gtb : List Cond := lw_tbl.filter goodWord
def nst : List Cond := lw_tbl.filter isNst
theorem gtb_in {w : Cond} (i : Nat) (h : lw_tbl[i]? = some w) (hg : goodWord w = true) : w ∈ gtb := List.mem_filter.mpr ⟨List.mem_of_getElem? h, hg⟩
theorem nst_in {w : Cond} (i : Nat) (h : lw_tbl[i]? = some w) (hg : isNst w = true) : w ∈ nst := List.mem_filter.mpr ⟨List.mem_of_getElem? h, hg⟩
theorem gtb_good (big : List Cond) (hb : ∀ w ∈ gtb, w ∈ big) : GoodIn big gtb := fun w hw => ⟨hb w hw, good_of_word (List.mem_filter.mp hw).2⟩
def NW (U : State) : Prop := ∀ w ∈ nst, va_Nw w U
theorem NW.warm {s U : State} (hW : s.WarmedH U.vm) (h : NW s) : NW U := by
  intro w hw
  have h1 := h w hw
  have h2 := (List.mem_filter.mp hw).2
  cases w <;> first | (simp [isNst] at h2; done) | exact va_Nw.warmF hW h1 | exact va_Nw.warmM hW h1
theorem NW.same {s U : State} (hW : s.vm = U.vm) (h : NW s) : NW U := by
  intro w hw
  have h1 := h w hw
  have h2 := (List.mem_filter.mp hw).2
  cases w <;> first | (simp [isNst] at h2; done) | exact va_Nw.same rfl hW h1
def va_AOA (ty : FieldType) (U : State) : Prop := (Cond.arrayOver (.array ty)).before #[] U = true
theorem va_AOA.use {ty : FieldType} {A : Array Value} {U : State} (h : va_AOA ty U) : (Cond.arrayOver (.array ty)).before A U = true := h
theorem va_AOA.of {ty : FieldType} {A : Array Value} {U : State} (h : (Cond.arrayOver (.array ty)).before A U = true) : va_AOA ty U := h
abbrev tyl (τ : Nat → ClassId) : List (ClassId × FieldType) := [(τ 0, .int), (τ 1, .boolean), (τ 2, .object RX2), (τ 3, .array .int)]
theorem va_AOA.moved {ty : FieldType} {u U : State} (hvm : u.vm.Alike U.vm) (h : va_AOA ty u) : va_AOA ty U := by
  unfold va_AOA Cond.before Cond.holds at h ⊢
  simp only [Cond.value, beq_iff_eq] at h ⊢
  cases hc : u.vm.findClass (FieldType.array ty).toString with
  | none => simp [hc] at h
  | some comp =>
    simp only [hc, Option.bind_some, Option.bind_eq_some_iff, Option.map_eq_some_iff] at h
    obtain ⟨c, hi, k, hk, hb⟩ := h
    have hc2 : U.vm.findClass (FieldType.array ty).toString = some comp := by rw [hvm.findClass]; exact hc
    simp only [hc2, Option.bind_some, Option.bind_eq_some_iff, Option.map_eq_some_iff]
    obtain ⟨k', hk', he⟩ := hvm.2.2 _ _ hk
    have e1 : k'.kind = k.kind := by rw [he]
    refine ⟨c, ?_, k', hk', ?_⟩
    · have e2 := va_idx_bare U.vm comp
      have e3 := va_idx_bare u.vm comp
      have e4 : u.vm.bare = U.vm.bare := by first | exact hvm.bare_eq | exact hvm.bare_eq.symm
      rw [← e4] at e2
      exact e2.symm.trans (e3.trans hi)
    · rw [e1, hvm.findClass]
      exact hb
def KK (D : va_G) (τ : Nat → ClassId) (U : State) : Prop := va_K D classes (tyl τ) U ∧ NW U ∧ va_AO RX2 U ∧ va_AOA .int U
theorem KK.warm {D : va_G} {τ : Nat → ClassId} {s U : State} (hW : s.WarmedH U.vm) (h : KK D τ s) : KK D τ U := ⟨va_K.moved hW.alike h.1, h.2.1.warm hW, va_AO.moved hW.alike h.2.2.1, va_AOA.moved hW.alike h.2.2.2⟩
theorem KK.same {D : va_G} {τ : Nat → ClassId} {s U : State} (hW : s.vm = U.vm) (h : KK D τ s) : KK D τ U := by
  have ha : s.vm.Alike U.vm := by rw [hW]; exact Vm.Alike.refl U.vm
  exact ⟨va_K.moved ha h.1, h.2.1.same hW, va_AO.moved ha h.2.2.1, va_AOA.moved ha h.2.2.2⟩
abbrev ZM : Type := MethodName × ByteArray × Nat × Option FieldType × Lst
/-- a method's own words -/
def zw (z : ZM) : List Cond := .code z.1 z.2.1 z.2.2.1 z.2.2.2.1 :: gtb
def zok (z : ZM) : Prop := okL z.2.1 z.2.2.2.2 ∧ Cond.code z.1 z.2.1 z.2.2.1 z.2.2.2.1 ∈ gtb ∧ plainFor z.1 = true ∧ z.2.2.1 ≤ 12
/-- the machine stands in method z -/
def Cx (z : ZM) (p : Program) (s : State) (m : MethodId) (args : Array Value) (meth : Method) (c : Code) : Prop :=
  p.tables.exec = Jvm.exec ∧ c.code = z.2.1 ∧ c.maxLocals = z.2.2.1 ∧ s.vm.findClass z.1.cls = some m.cls ∧ (∀ w ∈ gtb, w.before args s = true) ∧ okL z.2.1 z.2.2.2.2 ∧ meth.name = z.1.name ∧ meth.locks = false ∧ meth.sig.returnType = z.2.2.2.1
/-- a return at pc of v -/
def rets (z : ZM) (pc : Nat) : Option Int → Prop
  | none => z.2.2.2.1 = none ∧ ftch z.2.2.2.2 pc = some (.return_, 1)
  | some a => (z.2.2.2.1 = some .int ∨ z.2.2.2.1 = some .boolean ∧ (a = 0 ∨ a = 1)) ∧ ftch z.2.2.2.2 pc = some (.ireturn, 1)
abbrev GG : Type := (Nat → Nat) → (Nat → Nat) → Prop
def AW (z : ZM) (G : GG) (R : Room) (MC MS k n pc : Nat) (ls : List (Nat × AV)) (st : List AV) (h : List AC) (Q : Option Int → List AC → Prop) : Prop :=
  ∀ (p : Program) (l : Launch) (e : Env) (s : State) (m : MethodId) (args : Array Value) (below : List Frame) (meth : Method) (c : Code) (D : va_G) (τ : Nat → ClassId) (A : Nat → Prop) (ρ0 ρ : Nat → Nat) (Zf : State → Prop),
    Cx z p s m args meth c → KK D τ s → (∀ q, s.heap.size ≤ q → A q) → G ρ0 ρ →
    (∀ (v : Option Int) (h' : List AC) (ρ' : Nat → Nat) (H' : Heap) (locs' : List Loc) (ls' : Array Slot) (pc' : Nat), Q v h' → rets z pc' v → G ρ0 ρ' → va_P D classes (cw ρ' τ h') H' → va_D A (cw ρ' τ h') → va_S A s.heap H' locs' →
      W p l e R s m args below meth c H' locs' MC MS Zf (F0 m pc' ls' (v.toList.map (fun a => Value.int (iI a))))) →
    ∀ (H : Heap) (locs : List Loc) (lsA : Array Slot), va_P D classes (cw ρ τ h) H → va_D A (cw ρ τ h) → va_S A s.heap H locs → lv_has lsA z.2.2.1 (cl ρ ls) →
      W p l e R s m args below meth c H locs k n Zf (F0 m pc lsA (st.map (cv ρ)))
section Rules
variable {z : ZM} {G : GG} {R : Room} {MC MS k n pc : Nat} {ls : List (Nat × AV)} {st : List AV} {h : List AC} {Q : Option Int → List AC → Prop}
theorem AW.ret {a : Int} (hf : ftch z.2.2.2.2 pc = some (.ireturn, 1)) (hr : z.2.2.2.1 = some .int) (hk : k ≤ MC) (hn : n ≤ MS) (hq : Q (some a) h) : AW z G R MC MS k n pc ls [vi a] h Q := by
  intro p l e s m args below meth c D τ A ρ0 ρ Zf C hK hA hG hZ H locs lsA hP hD hS hl
  exact W.widen hk hn (hZ (some a) h ρ H locs lsA pc hq ⟨Or.inl hr, hf⟩ hG hP hD hS)
theorem AW.retz {a : Int} (hf : ftch z.2.2.2.2 pc = some (.ireturn, 1)) (hr : z.2.2.2.1 = some .boolean) (ha : a = 0 ∨ a = 1) (hk : k ≤ MC) (hn : n ≤ MS) (hq : Q (some a) h) : AW z G R MC MS k n pc ls [vi a] h Q := by
  intro p l e s m args below meth c D τ A ρ0 ρ Zf C hK hA hG hZ H locs lsA hP hD hS hl
  exact W.widen hk hn (hZ (some a) h ρ H locs lsA pc hq ⟨Or.inr ⟨hr, ha⟩, hf⟩ hG hP hD hS)
theorem AW.retv (hf : ftch z.2.2.2.2 pc = some (.return_, 1)) (hr : z.2.2.2.1 = none) (hk : k ≤ MC) (hn : n ≤ MS) (hq : Q none h) : AW z G R MC MS k n pc ls [] h Q := by
  intro p l e s m args below meth c D τ A ρ0 ρ Zf C hK hA hG hZ H locs lsA hP hD hS hl
  exact W.widen hk hn (hZ none h ρ H locs lsA pc hq ⟨hr, hf⟩ hG hP hD hS)
theorem AW.wide {k' n' : Nat} (hk : k ≤ k') (hn : n ≤ n') (kk : AW z G R MC MS k' n' pc ls st h Q) : AW z G R MC MS k n pc ls st h Q := by
  intro p l e s m args below meth c D τ A ρ0 ρ Zf C hK hA hG hZ H locs lsA hP hD hS hl
  exact W.widen hk hn (kk p l e s m args below meth c D τ A ρ0 ρ Zf C hK hA hG hZ H locs lsA hP hD hS hl)
/-- the walk's rows that need nothing but the frame: one instruction -/
theorem AW.fr {pc' : Nat} {ls' : List (Nat × AV)} {st' : List AV}
    (hw : ∀ (p : Program) (l : Launch) (e : Env) (s : State) (m : MethodId) (args : Array Value) (below : List Frame) (meth : Method) (c : Code) (ρ : Nat → Nat) (H : Heap) (locs : List Loc) (lsA : Array Slot) (Zf : State → Prop), Cx z p s m args meth c → lv_has lsA z.2.2.1 (cl ρ ls) →
      (∀ lsB : Array Slot, lv_has lsB z.2.2.1 (cl ρ ls') → W p l e R s m args below meth c H locs k n Zf (F0 m pc' lsB (st'.map (cv ρ)))) → W p l e R s m args below meth c H locs k n Zf (F0 m pc lsA (st.map (cv ρ))))
    (kk : AW z G R MC MS k n pc' ls' st' h Q) : AW z G R MC MS k n pc ls st h Q := by
  intro p l e s m args below meth c D τ A ρ0 ρ Zf C hK hA hG hZ H locs lsA hP hD hS hl
  exact hw p l e s m args below meth c ρ H locs lsA Zf C hl (fun lsB hB => kk p l e s m args below meth c D τ A ρ0 ρ Zf C hK hA hG hZ H locs lsB hP hD hS hB)
end Rules
/-- one step of what needs nothing but the frame -/
def pst (L : Lst) (nL pc : Nat) (ls : List (Nat × AV)) (st : List AV) : Option (Nat × List (Nat × AV) × List AV) :=
  match ftch L pc with
  | some (.iconst a, 1) => some (pc + 1, ls, vi a :: st)
  | some (.bipush a, 2) => some (pc + 2, ls, vi a :: st)
  | some (.sipush a, 3) => some (pc + 3, ls, vi a :: st)
  | some (.lconst i, 1) => some (pc + 1, ls, vl (i.val : Int) :: st)
  | some (.iload i, 2) => match lkp ls i with
    | some (.inl a) => some (pc + 2, ls, vi a :: st)
    | _ => none
  | some (.iload_n i, 1) => match lkp ls i.val with
    | some (.inl a) => some (pc + 1, ls, vi a :: st)
    | _ => none
  | some (.lload i, 2) => match lkp ls i with
    | some (.inr (.inl a)) => some (pc + 2, ls, vl a :: st)
    | _ => none
  | some (.lload_n i, 1) => match lkp ls i.val with
    | some (.inr (.inl a)) => some (pc + 1, ls, vl a :: st)
    | _ => none
  | some (.aload i, 2) => match lkp ls i with
    | some (.inr (.inr (some a))) => some (pc + 2, ls, vr a :: st)
    | _ => none
  | some (.aload_n i, 1) => match lkp ls i.val with
    | some (.inr (.inr (some a))) => some (pc + 1, ls, vr a :: st)
    | _ => none
  | some (.istore i, 2) => match st with
    | .inl a :: st => cond (Nat.blt i nL) (some (pc + 2, sto ls i (vi a), st)) none
    | _ => none
  | some (.istore_n i, 1) => match st with
    | .inl a :: st => cond (Nat.blt i.val nL) (some (pc + 1, sto ls i.val (vi a), st)) none
    | _ => none
  | some (.astore i, 2) => match st with
    | .inr (.inr (some a)) :: st => cond (Nat.blt i nL) (some (pc + 2, sto ls i (vr a), st)) none
    | _ => none
  | some (.astore_n i, 1) => match st with
    | .inr (.inr (some a)) :: st => cond (Nat.blt i.val nL) (some (pc + 1, sto ls i.val (vr a), st)) none
    | _ => none
  | some (.iinc i b, 3) => match lkp ls i with
    | some (.inl a) => cond (Nat.blt i nL) (some (pc + 3, sto ls i (vi (a + b)), st)) none
    | _ => none
  | some (.iadd, 1) => match st with
    | .inl b :: .inl a :: st => some (pc + 1, ls, vi (a + b) :: st)
    | _ => none
  | some (.isub, 1) => match st with
    | .inl b :: .inl a :: st => some (pc + 1, ls, vi (a - b) :: st)
    | _ => none
  | some (.imul, 1) => match st with
    | .inl b :: .inl a :: st => some (pc + 1, ls, vi (a * b) :: st)
    | _ => none
  | some (.ineg, 1) => match st with
    | .inl a :: st => some (pc + 1, ls, vi (-a) :: st)
    | _ => none
  | some (.dup, 1) => match st with
    | .inl a :: st => some (pc + 1, ls, vi a :: vi a :: st)
    | .inr (.inr a) :: st => some (pc + 1, ls, .inr (.inr a) :: .inr (.inr a) :: st)
    | _ => none
  | some (.dup2, 1) => match st with
    | .inl a :: .inr (.inr b) :: st => some (pc + 1, ls, vi a :: .inr (.inr b) :: vi a :: .inr (.inr b) :: st)
    | _ => none
  | some (.pop, 1) => match st with
    | .inl _ :: st => some (pc + 1, ls, st)
    | _ => none
  | some (.goto o, 3) => match (pc : Int) + o with
    | .ofNat t => some (t, ls, st)
    | _ => none
  | _ => none
