def FL (own : String) (idx ci j : Nat) (ty : FieldType) (fin : Bool) : Prop := ∃ (C : String) (T : u_T) (N : Nat) (ty0 : Nat → FieldType), classes[ci]? = some (C, T, N) ∧ j < N ∧ (∀ w ∈ u_ws C T N, w ∈ gtb) ∧ (∀ i, i < N → parseFieldDescriptor (T i).2.2.1 = some (ty0 i)) ∧ (∀ a, a < N → ∀ b, b < N → a ≠ b → (T a).2.1 ≠ (T b).2.1) ∧ parseFieldDescriptor (T j).2.2.1 = some ty ∧ (T j).2.2.2 = fin ∧ (T j).1 = C ∧
  (Cond.fieldLink own idx (T j).1 (T j).2.1 (T j).2.2.1 ∈ gtb ∨ ∃ host, Cond.fieldLinkNest own idx (T j).1 (T j).2.1 (T j).2.2.1 host ∈ nst)
def okv : FieldType → AV → Prop
  | .int, .inl _ => True
  | .boolean, .inl a => a = 0 ∨ a = 1
  | .object _, .inr (.inr _) => True
  | .array _, .inr (.inr _) => True
  | _, _ => False
theorem okv_ok {ty : FieldType} {v : AV} {ρ : Nat → Nat} (h : okv ty v) : narrow ty (cv ρ v) = cv ρ v ∧ fits ty (cv ρ v) = true := by
  cases ty <;> rcases v with a | a | (_ | a) <;> first | exact h.elim | exact ⟨rfl, rfl⟩ | (rcases h with rfl | rfl <;> first | exact ⟨(by decide +kernel : narrow FieldType.boolean (Value.int (iI 0)) = Value.int (iI 0)), (by decide +kernel : fits FieldType.boolean (Value.int (iI 0)) = true)⟩ | exact ⟨(by decide +kernel : narrow FieldType.boolean (Value.int (iI 1)) = Value.int (iI 1)), (by decide +kernel : fits FieldType.boolean (Value.int (iI 1)) = true)⟩)
theorem cv_get {ρ : Nat → Nat} {fs : List AV} {j : Nat} {v : AV} (h : fs[j]? = some v) : (fs.map (cv ρ))[j]? = some (cv ρ v) := by
  rw [List.getElem?_map, h]; rfl
theorem upd_up (f : Nat → Int) (i : Nat) (a : Int) : upd (fun j => iI (f j)) i (iI a) = fun j => iI (up f i a j) := by
  funext j
  unfold upd up
  by_cases hj : j = i <;> simp [hj]
theorem cpy_iI (f g : Nat → Int) (a b n : Nat) : va_cpy (fun j => iI (f j)) (fun j => iI (g j)) a b n = fun j => iI (va_cpy f g a b n j) := by
  funext j
  unfold va_cpy
  split <;> rfl
def lcmpI (a b : Int) : Int := if b < a then 1 else if a = b then 0 else -1
def rngL (a : Int) : Prop := -9223372036854775808 ≤ a ∧ a < 9223372036854775808
theorem iL_toInt {a : Int} (h : rngL a) : (iL a).toInt = a := Int64.toInt_ofInt_of_le h.1 (by have := h.2; omega)
theorem iL_cmp {a b : Int} (ha : rngL a) (hb : rngL b) : lg_cmp (iL a) (iL b) = iI (lcmpI a b) := by
  have e1 : iL a > iL b ↔ b < a := by
    rw [gt_iff_lt, Int64.lt_iff_toInt_lt, iL_toInt ha, iL_toInt hb]
  have e2 : iL a = iL b ↔ a = b := by
    rw [← Int64.toInt_inj, iL_toInt ha, iL_toInt hb]
  unfold lg_cmp lcmpI
  by_cases h1 : b < a
  · rw [if_pos (e1.mpr h1), if_pos h1]; rfl
  · rw [if_neg (fun q => h1 (e1.mp q)), if_neg h1]
    by_cases h2 : a = b
    · rw [if_pos (e2.mpr h2), if_pos h2]; rfl
    · rw [if_neg (fun q => h2 (e2.mp q)), if_neg h2]; rfl
theorem iI_long {a : Int} (h : rng a) : (iI a).toInt64 = iL a := by
  apply Int64.toInt_inj.mp
  rw [Int32.toInt_toInt64, iI_toInt h, iL_toInt ⟨by have := h.1; omega, by have := h.2; omega⟩]
section Rules
variable {z : ZM} {G : GG} {R : Room} {MC MS k n pc pn : Nat} {ls : List (Nat × AV)} {st : List AV} {h : List AC} {Q : Option Int → List AC → Prop}
theorem AW.go {pc' : Nat} {ls' : List (Nat × AV)} {st' : List AV} : ∀ (j : Nat) {pc : Nat} {ls : List (Nat × AV)} {st : List AV}, psn z.2.2.2.2 z.2.2.1 j pc ls st = some (pc', ls', st') → AW z G R MC MS k n pc' ls' st' h Q → AW z G R MC MS k n pc ls st h Q
  | 0, pc, ls, st, hp, kk => by
    cases hp; exact kk
  | j + 1, pc, ls, st, hp, kk => by
    unfold psn at hp
    split at hp
    next a b c he => exact AW.p1 he (AW.go j hp kk)
    next => cases hp
theorem AW.br {a : Int} {cnd : ClassFile.Cond} {off : Int} {tgt : Nat} (hf : ftch z.2.2.2.2 pc = some (.ifCond cnd off, 3)) (ht : (pc : Int) + off = (tgt : Int)) (hn : pc + 3 = pn) (ha : rng a)
    (kt : cmpI cnd a 0 → AW z G R MC MS k n tgt ls st h Q) (kf : ¬ cmpI cnd a 0 → AW z G R MC MS k n pn ls st h Q) : AW z G R MC MS k n pc ls (vi a :: st) h Q := by
  intro p l e s m args below meth c D τ A ρ0 ρ Zf C hK hA hG hZ H locs lsA hP hD hS hl
  have e0 : (0 : Int32) = iI 0 := rfl
  obtain ⟨hx, hb, -, -, -, hL, -, -, -⟩ := id C
  subst hn
  obtain ⟨hd, -⟩ := okL_at hL hf
  have KT := fun q => kt q p l e s m args below meth c D τ A ρ0 ρ Zf C hK hA hG hZ H locs lsA hP hD hS hl
  have KF := fun q => kf q p l e s m args below meth c D τ A ρ0 ρ Zf C hK hA hG hZ H locs lsA hP hD hS hl
  cases cnd
  · exact lv_if_eq hx hb hd ht (fun q => KT ((iI_eq ha rng0).mp q)) (fun q => KF (fun w => q ((iI_eq ha rng0).mpr w)))
  · exact lv_if_ne hx hb hd ht (fun q => KT (fun w => q ((iI_eq ha rng0).mpr w))) (fun q => KF (fun w => w ((iI_eq ha rng0).mp q)))
  · exact lv_if_lt hx hb hd ht (fun q => KT ((iI_lt ha rng0).mp q)) (fun q => KF (fun w => q ((iI_lt ha rng0).mpr w)))
  · exact lv_if_ge hx hb hd ht (fun q => KT ((iI_le rng0 ha).mp q)) (fun q => KF (fun w => q ((iI_le rng0 ha).mpr w)))
  · exact lv_if_gt hx hb hd ht (fun q => KT ((iI_lt rng0 ha).mp q)) (fun q => KF (fun w => q ((iI_lt rng0 ha).mpr w)))
  · exact lv_if_le hx hb hd ht (fun q => KT ((iI_le ha rng0).mp q)) (fun q => KF (fun w => q ((iI_le ha rng0).mpr w)))
theorem AW.bi {a b : Int} {cnd : ClassFile.Cond} {off : Int} {tgt : Nat} (hf : ftch z.2.2.2.2 pc = some (.if_icmp cnd off, 3)) (ht : (pc : Int) + off = (tgt : Int)) (hn : pc + 3 = pn) (ha : rng a) (hb : rng b)
    (kt : cmpI cnd a b → AW z G R MC MS k n tgt ls st h Q) (kf : ¬ cmpI cnd a b → AW z G R MC MS k n pn ls st h Q) : AW z G R MC MS k n pc ls (vi b :: vi a :: st) h Q := by
  intro p l e s m args below meth c D τ A ρ0 ρ Zf C hK hA hG hZ H locs lsA hP hD hS hl
  obtain ⟨hx, hb', -, -, -, hL, -, -, -⟩ := id C
  subst hn
  obtain ⟨hd, -⟩ := okL_at hL hf
  have KT := fun q => kt q p l e s m args below meth c D τ A ρ0 ρ Zf C hK hA hG hZ H locs lsA hP hD hS hl
  have KF := fun q => kf q p l e s m args below meth c D τ A ρ0 ρ Zf C hK hA hG hZ H locs lsA hP hD hS hl
  cases cnd
  · exact lv_icmp_eq hx hb' hd ht (fun q => KT ((iI_eq ha hb).mp q)) (fun q => KF (fun w => q ((iI_eq ha hb).mpr w)))
  · exact lv_icmp_ne hx hb' hd ht (fun q => KT (fun w => q ((iI_eq ha hb).mpr w))) (fun q => KF (fun w => w ((iI_eq ha hb).mp q)))
  · exact lv_icmp_lt hx hb' hd ht (fun q => KT ((iI_lt ha hb).mp q)) (fun q => KF (fun w => q ((iI_lt ha hb).mpr w)))
  · exact lv_icmp_ge hx hb' hd ht (fun q => KT ((iI_le hb ha).mp q)) (fun q => KF (fun w => q ((iI_le hb ha).mpr w)))
  · exact lv_icmp_gt hx hb' hd ht (fun q => KT ((iI_lt hb ha).mp q)) (fun q => KF (fun w => q ((iI_lt hb ha).mpr w)))
  · exact lv_icmp_le hx hb' hd ht (fun q => KT ((iI_le ha hb).mp q)) (fun q => KF (fun w => q ((iI_le ha hb).mpr w)))
theorem AW.idiv {a b : Int} (hf : ftch z.2.2.2.2 pc = some (.idiv, 1)) (hn : pc + 1 = pn) (h0 : 0 ≤ a) (h1 : a < 2147483648) (h2 : 0 < b) (h3 : b < 2147483648)
    (kk : AW z G R MC MS k n pn ls (vi (a / b) :: st) h Q) : AW z G R MC MS k n pc ls (vi b :: vi a :: st) h Q := by
  subst hn
  refine AW.fr ?_ kk
  intro p l e s m args below meth c ρ H locs lsA Zf C hl K
  obtain ⟨hx, hb', -, -, -, hL, -, -, -⟩ := C
  refine lv_idiv hx hb' (okL_at hL hf).1 (fun q => ?_) ?_
  · exact absurd ((iI_eq ⟨by omega, by omega⟩ rng0).mp q) (by omega)
  · rw [iI_div h0 h1 h2 h3]; exact K lsA hl
theorem AW.irem {a b : Int} (hf : ftch z.2.2.2.2 pc = some (.irem, 1)) (hn : pc + 1 = pn) (h0 : 0 ≤ a) (h1 : a < 2147483648) (h2 : 0 < b) (h3 : b < 2147483648)
    (kk : AW z G R MC MS k n pn ls (vi (a % b) :: st) h Q) : AW z G R MC MS k n pc ls (vi b :: vi a :: st) h Q := by
  subst hn
  refine AW.fr ?_ kk
  intro p l e s m args below meth c ρ H locs lsA Zf C hl K
  obtain ⟨hx, hb', -, -, -, hL, -, -, -⟩ := C
  refine lv_irem hx hb' (okL_at hL hf).1 (fun q => ?_) ?_
  · exact absurd ((iI_eq ⟨by omega, by omega⟩ rng0).mp q) (by omega)
  · rw [iI_rem h0 h1 h2 h3]; exact K lsA hl
theorem AW.iand {a b : Int} (hf : ftch z.2.2.2.2 pc = some (.iand, 1)) (hn : pc + 1 = pn) (h0 : 0 ≤ a) (h1 : 0 ≤ b)
    (kk : AW z G R MC MS k n pn ls (vi ((a.toNat &&& b.toNat : Nat) : Int) :: st) h Q) : AW z G R MC MS k n pc ls (vi b :: vi a :: st) h Q := by
  subst hn
  refine AW.fr ?_ kk
  intro p l e s m args below meth c ρ H locs lsA Zf C hl K
  obtain ⟨hx, hb', -, -, -, hL, -, -, -⟩ := C
  refine lv_iand hx hb' (okL_at hL hf).1 ?_
  rw [iI_and h0 h1]; exact K lsA hl
theorem AW.ior {a b : Int} (hf : ftch z.2.2.2.2 pc = some (.ior, 1)) (hn : pc + 1 = pn) (h0 : 0 ≤ a) (h1 : 0 ≤ b)
    (kk : AW z G R MC MS k n pn ls (vi ((a.toNat ||| b.toNat : Nat) : Int) :: st) h Q) : AW z G R MC MS k n pc ls (vi b :: vi a :: st) h Q := by
  subst hn
  refine AW.fr ?_ kk
  intro p l e s m args below meth c ρ H locs lsA Zf C hl K
  obtain ⟨hx, hb', -, -, -, hL, -, -, -⟩ := C
  refine lv_ior hx hb' (okL_at hL hf).1 ?_
  rw [iI_or h0 h1]; exact K lsA hl
theorem AW.ixor {a b : Int} (hf : ftch z.2.2.2.2 pc = some (.ixor, 1)) (hn : pc + 1 = pn) (h0 : 0 ≤ a) (h1 : 0 ≤ b)
    (kk : AW z G R MC MS k n pn ls (vi ((a.toNat ^^^ b.toNat : Nat) : Int) :: st) h Q) : AW z G R MC MS k n pc ls (vi b :: vi a :: st) h Q := by
  subst hn
  refine AW.fr ?_ kk
  intro p l e s m args below meth c ρ H locs lsA Zf C hl K
  obtain ⟨hx, hb', -, -, -, hL, -, -, -⟩ := C
  refine lv_ixor hx hb' (okL_at hL hf).1 ?_
  rw [iI_xor h0 h1]; exact K lsA hl
theorem AW.inot {a : Int} (hf : ftch z.2.2.2.2 pc = some (.ixor, 1)) (hn : pc + 1 = pn)
    (kk : AW z G R MC MS k n pn ls (vi (-a - 1) :: st) h Q) : AW z G R MC MS k n pc ls (vi (-1) :: vi a :: st) h Q := by
  subst hn
  refine AW.fr ?_ kk
  intro p l e s m args below meth c ρ H locs lsA Zf C hl K
  obtain ⟨hx, hb', -, -, -, hL, -, -, -⟩ := C
  refine lv_ixor hx hb' (okL_at hL hf).1 ?_
  have e1 : iI a ^^^ iI (-1) = iI (-a - 1) := by
    have : ∀ x : Int32, x ^^^ iI (-1) = -x - iI 1 := by
      intro x
      apply Int32.toBitVec_inj.mp
      rw [Int32.toBitVec_xor, Int32.toBitVec_sub, Int32.toBitVec_neg]
      rw [show (iI (-1)).toBitVec = BitVec.allOnes 32 by decide +kernel, show (iI 1).toBitVec = 1#32 by decide +kernel]
      rw [BitVec.xor_allOnes, BitVec.neg_eq_not_add, BitVec.add_sub_cancel]
    rw [this (iI a), iI_neg, iI_sub]
  rw [e1]; exact K lsA hl
theorem AW.ishl {a b : Int} (hf : ftch z.2.2.2.2 pc = some (.ishl, 1)) (hn : pc + 1 = pn) (h0 : 0 ≤ a) (h1 : 0 ≤ b) (h2 : b < 32)
    (kk : AW z G R MC MS k n pn ls (vi (a * 2 ^ b.toNat) :: st) h Q) : AW z G R MC MS k n pc ls (vi b :: vi a :: st) h Q := by
  subst hn
  refine AW.fr ?_ kk
  intro p l e s m args below meth c ρ H locs lsA Zf C hl K
  obtain ⟨hx, hb', -, -, -, hL, -, -, -⟩ := C
  refine lv_ishl hx hb' (okL_at hL hf).1 ?_
  rw [iI_shl h0 h1 h2]; exact K lsA hl
theorem AW.ishr {a b : Int} (hf : ftch z.2.2.2.2 pc = some (.ishr, 1)) (hn : pc + 1 = pn) (h0 : rng a) (h1 : 0 ≤ b) (h2 : b < 32)
    (kk : AW z G R MC MS k n pn ls (vi (a / 2 ^ b.toNat) :: st) h Q) : AW z G R MC MS k n pc ls (vi b :: vi a :: st) h Q := by
  subst hn
  refine AW.fr ?_ kk
  intro p l e s m args below meth c ρ H locs lsA Zf C hl K
  obtain ⟨hx, hb', -, -, -, hL, -, -, -⟩ := C
  refine lv_ishr hx hb' (okL_at hL hf).1 ?_
  rw [iI_shr h0 h1 h2]; exact K lsA hl
theorem AW.i2l {a : Int} (hf : ftch z.2.2.2.2 pc = some (.i2l, 1)) (hn : pc + 1 = pn) (h0 : rng a)
    (kk : AW z G R MC MS k n pn ls (vl a :: st) h Q) : AW z G R MC MS k n pc ls (vi a :: st) h Q := by
  subst hn
  refine AW.fr ?_ kk
  intro p l e s m args below meth c ρ H locs lsA Zf C hl K
  obtain ⟨hx, hb', -, -, -, hL, -, -, -⟩ := C
  exact lv_i2l hx hb' (okL_at hL hf).1 (iI_long h0) (K lsA hl)
theorem AW.lcmp {a b : Int} (hf : ftch z.2.2.2.2 pc = some (.lcmp, 1)) (hn : pc + 1 = pn) (h0 : rngL a) (h1 : rngL b)
    (kk : AW z G R MC MS k n pn ls (vi (lcmpI a b) :: st) h Q) : AW z G R MC MS k n pc ls (vl b :: vl a :: st) h Q := by
  subst hn
  refine AW.fr ?_ kk
  intro p l e s m args below meth c ρ H locs lsA Zf C hl K
  obtain ⟨hx, hb', -, -, -, hL, -, -, -⟩ := C
  refine W.lcmp hx hb' (okL_at hL hf).1 ?_
  rw [iL_cmp h0 h1]; exact K lsA hl
theorem AW.ldc2 {a : Int} {idx : Nat} (hf : ftch z.2.2.2.2 pc = some (.ldc2_w idx, 3)) (hn : pc + 3 = pn) (hw : Cond.constantLong z.1.cls idx (iL a) ∈ gtb)
    (kk : AW z G R MC MS k n pn ls (vl a :: st) h Q) : AW z G R MC MS k n pc ls st h Q := by
  subst hn
  refine AW.fr ?_ kk
  intro p l e s m args below meth c ρ H locs lsA Zf C hl K
  obtain ⟨hx, hb', -, hown, hts, hL, -, -, -⟩ := C
  exact lv_ldc2 hx hb' hown (hts _ hw) (okL_at hL hf).1 (K lsA hl)
theorem AW.getf {idx ci j i : Nat} {ty : FieldType} {fin : Bool} {fs : List AV} {v : AV} (hf : ftch z.2.2.2.2 pc = some (.getfield idx, 3)) (hn : pc + 3 = pn) (fl : FL z.1.cls idx ci j ty fin) (hh : h[i]? = some (ao ci fs)) (hv : fs[j]? = some v)
    (kk : AW z G R MC MS k n pn ls (v :: st) h Q) : AW z G R MC MS k n pc ls (vr i :: st) h Q := by
  subst hn
  intro p l e s m args below meth c D τ A ρ0 ρ Zf C hK hA hG hZ H locs lsA hP hD hS hl
  obtain ⟨hx, hb', -, hown, hts, hL, -, -, -⟩ := id C
  obtain ⟨Cn, T, N, ty0, hc, hj, hin, -, -, -, -, -, hlk⟩ := fl
  have K := kk p l e s m args below meth c D τ A ρ0 ρ Zf C hK hA hG hZ H locs lsA hP hD hS hl
  rcases hlk with hlk | ⟨host, hlk⟩
  · exact va_get hx hb' hts hin hown hK.1 hP i (cw_get hh) hc j hj (hts _ hlk) (fun _ q => q) (cv_get hv) (okL_at hL hf).1 K
  · exact va_getN hx hb' hts hin hown hK.1 hP i (cw_get hh) hc j hj (va_Nw.use rfl (hK.2.1 _ hlk)) (fun _ q => q) (cv_get hv) (okL_at hL hf).1 K
theorem AW.putf {idx ci j i : Nat} {ty : FieldType} {fs : List AV} {v v0 : AV} (hf : ftch z.2.2.2.2 pc = some (.putfield idx, 3)) (hn : pc + 3 = pn) (fl : FL z.1.cls idx ci j ty false) (hh : h[i]? = some (ao ci fs)) (hv : fs[j]? = some v0) (ok : okv ty v)
    (kk : AW z G R MC MS k n pn ls st (h.set i (ao ci (fs.set j v))) Q) : AW z G R MC MS k n pc ls (v :: vr i :: st) h Q := by
  subst hn
  intro p l e s m args below meth c D τ A ρ0 ρ Zf C hK hA hG hZ H locs lsA hP hD hS hl
  obtain ⟨hx, hb', -, hown, hts, hL, -, -, -⟩ := id C
  obtain ⟨Cn, T, N, ty0, hc, hj, hin, hty, hnm, hpd, hfin, -, hlk⟩ := fl
  have hlen : j < (fs.map (cv ρ)).length := by
    rw [List.length_map]; exact (List.getElem?_eq_some_iff.mp hv).1
  have e1 : (fs.map (cv ρ)).set j (cv ρ v) = (fs.set j v).map (cv ρ) := by rw [List.map_set]
  have K : ∀ (H1 : Heap) (locs1 : List Loc), va_P D classes ((cw ρ τ h).set i (ρ i, .inr (ci, (fs.map (cv ρ)).set j (cv ρ v)))) H1 → va_D A ((cw ρ τ h).set i (ρ i, .inr (ci, (fs.map (cv ρ)).set j (cv ρ v)))) → va_S A s.heap H1 locs1 → W p l e R s m args below meth c H1 locs1 k n Zf (F0 m (pc + 3) lsA (st.map (cv ρ))) := by
    intro H1 locs1 hP1 hD1 hS1
    rw [e1] at hP1 hD1
    have e2 := cw_set ρ τ h i (ao ci (fs.set j v))
    exact kk p l e s m args below meth c D τ A ρ0 ρ Zf C hK hA hG hZ H1 locs1 lsA (e2 ▸ hP1) (e2 ▸ hD1) hS1 hl
  rcases hlk with hlk | ⟨host, hlk⟩
  · exact va_put hx hb' hts hin ty0 hty hnm hown hK.1 hP hD hS i (cw_get hh) hc j hj (hts _ hlk) (fun _ q => q) hfin hpd (okv_ok ok).1 (okv_ok ok).2 hlen (okL_at hL hf).1 K
  · exact va_putN hx hb' hts hin ty0 hty hnm hown hK.1 hP hD hS i (cw_get hh) hc j hj (va_Nw.use rfl (hK.2.1 _ hlk)) (fun _ q => q) hfin hpd (okv_ok ok).1 (okv_ok ok).2 hlen (okL_at hL hf).1 K
theorem AW.putF {idx ci j i : Nat} {ty : FieldType} {fs : List AV} {v v0 : AV} (hf : ftch z.2.2.2.2 pc = some (.putfield idx, 3)) (hn : pc + 3 = pn) (fl : FL z.1.cls idx ci j ty true) (hown2 : (classes[ci]?).map (fun q => q.1) = some z.1.cls) (hlk2 : ∀ q : vw_C, classes[ci]? = some q → Cond.fieldLink z.1.cls idx (q.2.1 j).1 (q.2.1 j).2.1 (q.2.1 j).2.2.1 ∈ gtb) (hinit : z.1.name = "<init>") (hh : h[i]? = some (ao ci fs)) (hv : fs[j]? = some v0) (ok : okv ty v)
    (kk : AW z G R MC MS k n pn ls st (h.set i (ao ci (fs.set j v))) Q) : AW z G R MC MS k n pc ls (v :: vr i :: st) h Q := by
  subst hn
  intro p l e s m args below meth c D τ A ρ0 ρ Zf C hK hA hG hZ H locs lsA hP hD hS hl
  obtain ⟨hx, hb', -, hown, hts, hL, hnme, -, -⟩ := id C
  obtain ⟨Cn, T, N, ty0, hc, hj, hin, hty, hnm, hpd, hfin, hTC, -⟩ := fl
  rw [hc] at hown2
  have hCo : Cn = z.1.cls := Option.some.inj hown2
  have hlen : j < (fs.map (cv ρ)).length := by
    rw [List.length_map]; exact (List.getElem?_eq_some_iff.mp hv).1
  have e1 : (fs.map (cv ρ)).set j (cv ρ v) = (fs.set j v).map (cv ρ) := by rw [List.map_set]
  refine va_putF hx hb' hts hin ty0 hty hnm hown hK.1 hP hD hS i (cw_get hh) hc j hj (hts _ (hlk2 _ hc)) (fun _ q => q) hfin (by rw [hnme]; exact hinit) (by rw [hTC, hCo]) hpd (okv_ok ok).1 (okv_ok ok).2 hlen (okL_at hL hf).1 ?_
  intro H1 locs1 hP1 hD1 hS1
  rw [e1] at hP1 hD1
  have e2 := cw_set ρ τ h i (ao ci (fs.set j v))
  exact kk p l e s m args below meth c D τ A ρ0 ρ Zf C hK hA hG hZ H1 locs1 lsA (e2 ▸ hP1) (e2 ▸ hD1) hS1 hl
theorem AW.iald {i N : Nat} {f : Nat → Int} {a : Int} (hf : ftch z.2.2.2.2 pc = some (.iaload, 1)) (hn : pc + 1 = pn) (hh : h[i]? = some (ai 0 N f)) (hN : N ≤ 2147483648) (h0 : 0 ≤ a) (h1 : a < N)
    (kk : AW z G R MC MS k n pn ls (vi (f a.toNat) :: st) h Q) : AW z G R MC MS k n pc ls (vi a :: vr i :: st) h Q := by
  subst hn
  intro p l e s m args below meth c D τ A ρ0 ρ Zf C hK hA hG hZ H locs lsA hP hD hS hl
  obtain ⟨hx, hb', -, hown, hts, hL, -, -, -⟩ := id C
  refine va_iald hx hb' hK.1 hP i 0 (cw_get hh) rfl (iI_in h0 h1 hN) (okL_at hL hf).1 ?_
  rw [iI_nat h0 (by omega)]
  exact kk p l e s m args below meth c D τ A ρ0 ρ Zf C hK hA hG hZ H locs lsA hP hD hS hl
theorem AW.bald {i N : Nat} {f : Nat → Int} {a : Int} (hf : ftch z.2.2.2.2 pc = some (.baload, 1)) (hn : pc + 1 = pn) (hh : h[i]? = some (ai 1 N f)) (hN : N ≤ 2147483648) (h0 : 0 ≤ a) (h1 : a < N)
    (kk : AW z G R MC MS k n pn ls (vi (f a.toNat) :: st) h Q) : AW z G R MC MS k n pc ls (vi a :: vr i :: st) h Q := by
  subst hn
  intro p l e s m args below meth c D τ A ρ0 ρ Zf C hK hA hG hZ H locs lsA hP hD hS hl
  obtain ⟨hx, hb', -, hown, hts, hL, -, -, -⟩ := id C
  refine va_zald hx hb' hK.1 hP i 1 (cw_get hh) rfl (iI_in h0 h1 hN) (okL_at hL hf).1 ?_
  rw [iI_nat h0 (by omega)]
  exact kk p l e s m args below meth c D τ A ρ0 ρ Zf C hK hA hG hZ H locs lsA hP hD hS hl
theorem AW.iast {i N : Nat} {f : Nat → Int} {a b : Int} (hf : ftch z.2.2.2.2 pc = some (.iastore, 1)) (hn : pc + 1 = pn) (hh : h[i]? = some (ai 0 N f)) (hN : N ≤ 2147483648) (h0 : 0 ≤ a) (h1 : a < N)
    (kk : AW z G R MC MS k n pn ls st (h.set i (ai 0 N (up f a.toNat b))) Q) : AW z G R MC MS k n pc ls (vi b :: vi a :: vr i :: st) h Q := by
  subst hn
  intro p l e s m args below meth c D τ A ρ0 ρ Zf C hK hA hG hZ H locs lsA hP hD hS hl
  obtain ⟨hx, hb', -, hown, hts, hL, -, -, -⟩ := id C
  refine va_iast hx hb' hK.1 hP hD hS i 0 (cw_get hh) rfl (iI_in h0 h1 hN) (okL_at hL hf).1 ?_
  intro H1 locs1 hP1 hD1 hS1
  rw [iI_nat h0 (by omega), upd_up] at hP1 hD1
  have e2 := cw_set ρ τ h i (ai 0 N (up f a.toNat b))
  exact kk p l e s m args below meth c D τ A ρ0 ρ Zf C hK hA hG hZ H1 locs1 lsA (e2 ▸ hP1) (e2 ▸ hD1) hS1 hl
theorem AW.bast {i N : Nat} {f : Nat → Int} {a b : Int} (hf : ftch z.2.2.2.2 pc = some (.bastore, 1)) (hn : pc + 1 = pn) (hh : h[i]? = some (ai 1 N f)) (hN : N ≤ 2147483648) (h0 : 0 ≤ a) (h1 : a < N) (hb : b = 0 ∨ b = 1)
    (kk : AW z G R MC MS k n pn ls st (h.set i (ai 1 N (up f a.toNat b))) Q) : AW z G R MC MS k n pc ls (vi b :: vi a :: vr i :: st) h Q := by
  subst hn
  intro p l e s m args below meth c D τ A ρ0 ρ Zf C hK hA hG hZ H locs lsA hP hD hS hl
  obtain ⟨hx, hb', -, hown, hts, hL, -, -, -⟩ := id C
  refine va_zast hx hb' hK.1 hP hD hS i 1 (cw_get hh) rfl (iI_in h0 h1 hN) (okL_at hL hf).1 ?_
  intro H1 locs1 hP1 hD1 hS1
  have e3 : vp_nar .boolean (iI b) = iI b := by rcases hb with rfl | rfl <;> decide +kernel
  rw [iI_nat h0 (by omega), e3, upd_up] at hP1 hD1
  have e2 := cw_set ρ τ h i (ai 1 N (up f a.toNat b))
  exact kk p l e s m args below meth c D τ A ρ0 ρ Zf C hK hA hG hZ H1 locs1 lsA (e2 ▸ hP1) (e2 ▸ hD1) hS1 hl
theorem AW.aald {i N t q : Nat} {f : Nat → Option Nat} {a : Int} (hf : ftch z.2.2.2.2 pc = some (.aaload, 1)) (hn : pc + 1 = pn) (hh : h[i]? = some (aq t N f)) (ht : t = 2 ∨ t = 3) (hN : N ≤ 2147483648) (h0 : 0 ≤ a) (h1 : a < N) (hq : f a.toNat = some q)
    (kk : AW z G R MC MS k n pn ls (vr q :: st) h Q) : AW z G R MC MS k n pc ls (vi a :: vr i :: st) h Q := by
  subst hn
  intro p l e s m args below meth c D τ A ρ0 ρ Zf C hK hA hG hZ H locs lsA hP hD hS hl
  obtain ⟨hx, hb', -, hown, hts, hL, -, -, -⟩ := id C
  have K := kk p l e s m args below meth c D τ A ρ0 ρ Zf C hK hA hG hZ H locs lsA hP hD hS hl
  have hin := iI_in h0 h1 hN
  have hlt : (iI a).toNatClampNeg < N := by rw [iI_nat h0 (by omega)]; omega
  have hA : ∀ j : Nat, ((tyl τ)[j]?).map (fun q => q.1) = some (τ t) → ∀ ty, ((tyl τ)[j]?).map (fun q => q.2) = some ty → ty.isReference = true → W p l e R s m args below meth c H locs k n Zf (F0 m pc lsA ((vi a :: vr i :: st).map (cv ρ))) := by
    intro j hj ty hty hr
    have hjj : (tyl τ)[j]? = some (τ t, ty) := by
      cases e : (tyl τ)[j]? with
      | none => rw [e] at hj; cases hj
      | some x =>
        rw [e] at hj hty
        have g1 : x.1 = τ t := Option.some.inj hj
        have g2 : x.2 = ty := Option.some.inj hty
        rw [← g1, ← g2]
    refine W.aald (v := va_rf (((f (iI a).toNatClampNeg)).map ρ)) (ty := ty) hx hb' (hP i _ (cw_get hh)) ((hK.1.2 j _ hjj).1 N (fun j => va_rf ((f j).map ρ))) hr (fun q => by cases q) (by show ¬ ((iI a) < 0 ∨ (arrV _ _ _).slots.size ≤ _); rw [arrV_size]; exact hin) (by show (arrV _ _ _).slots[_]? = _; rw [arrV_read _ _ hlt]) rfl rfl (okL_at hL hf).1 ?_
    rw [iI_nat h0 (by omega), hq]
    exact K
  rcases ht with rfl | rfl
  · exact hA 2 rfl _ rfl rfl
  · exact hA 3 rfl _ rfl rfl
theorem AW.copy {i j N0 N1 idx : Nat} {f g : Nat → Int} {a b d : Int} (hf : ftch z.2.2.2.2 pc = some (.invokestatic idx, 3)) (hn : pc + 3 = pn) (hw : Cond.methodLink z.1.cls idx arraycopyName ∈ gtb ∧ Cond.native arraycopyName ∈ gtb ∧ Cond.static arraycopyName ∈ gtb ∧ Cond.initialized "java/lang/System" ∈ gtb) (hi : h[i]? = some (ai 0 N0 f)) (hj : h[j]? = some (ai 0 N1 g)) (h0 : 0 ≤ a) (h1 : 0 ≤ b) (h2 : 0 ≤ d) (ha : a < 2147483648) (hb : b < 2147483648) (hd : d < 2147483648) (h3 : a.toNat + d.toNat ≤ N0) (h4 : b.toNat + d.toNat ≤ N1) (hR : 1 ≤ R.frames ∧ (st.map acat).sum + 18 ≤ R.locals)
    (kk : AW z G R MC MS k n pn ls st (h.set j (ai 0 N1 (va_cpy f g a.toNat b.toNat d.toNat))) Q) : AW z G R MC MS k n pc ls (vi d :: vi b :: vr j :: vi a :: vr i :: st) h Q := by
  subst hn
  intro p l e s m args below meth c D τ A ρ0 ρ Zf C hK hA hG hZ H locs lsA hP hD hS hl
  obtain ⟨hx, hb', hml, hown, hts, hL, -, -, -⟩ := id C
  have hnn : ∀ {x : Int}, 0 ≤ x → x < 2147483648 → ¬ iI x < 0 := fun {x} q1 q2 w => by
    have := (iI_lt (a := x) (b := 0) ⟨by omega, by omega⟩ rng0).mp w
    omega
  refine va_copyi hx hb' (hml.trans hl.1.symm) hown (hts _ hw.1) (hts _ hw.2.1) (hts _ hw.2.2.1) (hts _ hw.2.2.2) hK.1 hP hD hS i j 0 0 (ty := .int) (cw_get hi) (cw_get hj) rfl rfl rfl (hnn h0 ha) (hnn h1 hb) (hnn h2 hd) (by rw [iI_nat h0 ha, iI_nat h2 hd]; exact h3) (by rw [iI_nat h1 hb, iI_nat h2 hd]; exact h4) (fun _ _ => rfl) hR.1 ?_ (okL_at hL hf).1 ?_
  · have e1 : ((st.map (cv ρ)).map fun v => v.category) = st.map acat := by
      rw [List.map_map]
      exact List.map_congr_left (fun v _ => cv_cat ρ v)
    rw [e1]
    have e2 : nativeFrameWords "java/lang/System" "arraycopy" 5 = 7 := by decide +kernel
    rw [e2]
    exact hR.2
  · intro H1 locs1 hP1 hD1 hS1
    rw [iI_nat h0 ha, iI_nat h1 hb, iI_nat h2 hd, cpy_iI] at hP1 hD1
    have e2 := cw_set ρ τ h j (ai 0 N1 (va_cpy f g a.toNat b.toNat d.toNat))
    exact kk p l e s m args below meth c D τ A ρ0 ρ Zf C hK hA hG hZ H1 locs1 lsA (e2 ▸ hP1) (e2 ▸ hD1) hS1 hl
end Rules
