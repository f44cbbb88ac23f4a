/-! The picture machine: numbers as Int, references as places of a list of cells. -/
abbrev AV : Type := Int ⊕ (Int ⊕ Option Nat)
abbrev AC : Type := (Nat × Nat × (Nat → Int)) ⊕ ((Nat × Nat × (Nat → Option Nat)) ⊕ (Nat × List AV))
abbrev vi (a : Int) : AV := .inl a
abbrev vl (a : Int) : AV := .inr (.inl a)
abbrev vr (i : Nat) : AV := .inr (.inr (some i))
abbrev vn : AV := .inr (.inr none)
abbrev ai (t n : Nat) (f : Nat → Int) : AC := .inl (t, n, f)
abbrev aq (t n : Nat) (f : Nat → Option Nat) : AC := .inr (.inl (t, n, f))
abbrev ao (c : Nat) (fs : List AV) : AC := .inr (.inr (c, fs))
def iI (a : Int) : Int32 := Int32.ofInt a
def iL (a : Int) : Int64 := Int64.ofInt a
def cv (ρ : Nat → Nat) : AV → Value
  | .inl a => .int (iI a)
  | .inr (.inl a) => .long (iL a)
  | .inr (.inr r) => va_rf (r.map ρ)
def ce (ρ : Nat → Nat) (τ : Nat → ClassId) : AC → va_E
  | .inl (t, n, f) => .inl (τ t, n, .inl (fun j => iI (f j)))
  | .inr (.inl (t, n, f)) => .inl (τ t, n, .inr (.inr (.inr (.inr (fun j => (f j).map ρ)))))
  | .inr (.inr (c, fs)) => .inr (c, fs.map (cv ρ))
def cw (ρ : Nat → Nat) (τ : Nat → ClassId) (h : List AC) : va_W := h.mapIdx (fun i e => (ρ i, ce ρ τ e))
theorem cw_get {ρ : Nat → Nat} {τ : Nat → ClassId} {h : List AC} {i : Nat} {e : AC} (hi : h[i]? = some e) : (cw ρ τ h)[i]? = some (ρ i, ce ρ τ e) := by
  unfold cw
  rw [List.getElem?_mapIdx, hi]; rfl
theorem cw_set (ρ : Nat → Nat) (τ : Nat → ClassId) (h : List AC) (i : Nat) (e : AC) : (cw ρ τ h).set i (ρ i, ce ρ τ e) = cw ρ τ (h.set i e) := by
  apply List.ext_getElem?
  intro j
  unfold cw
  simp only [List.getElem?_set, List.getElem?_mapIdx, List.length_mapIdx]
  by_cases hij : i = j
  · subst hij
    by_cases hl : i < h.length <;> simp [hl]
  · simp [hij]
theorem cw_push (ρ : Nat → Nat) (τ : Nat → ClassId) (h : List AC) (e : AC) : cw ρ τ (h ++ [e]) = cw ρ τ h ++ [(ρ h.length, ce ρ τ e)] := by
  unfold cw
  simp [List.mapIdx_append]
/-! numbers -/
def rng (a : Int) : Prop := -2147483648 ≤ a ∧ a < 2147483648
theorem iI_toInt {a : Int} (h : rng a) : (iI a).toInt = a := Int32.toInt_ofInt_of_le h.1 (by have := h.2; omega)
theorem iI_of (x : Int32) : iI x.toInt = x := Int32.ofInt_toInt x
theorem rng_of (x : Int32) : rng x.toInt := ⟨Int32.le_toInt x, by have := Int32.toInt_lt x; omega⟩
theorem iI_lt {a b : Int} (ha : rng a) (hb : rng b) : iI a < iI b ↔ a < b := by
  rw [Int32.lt_iff_toInt_lt, iI_toInt ha, iI_toInt hb]
theorem iI_le {a b : Int} (ha : rng a) (hb : rng b) : iI a ≤ iI b ↔ a ≤ b := by
  rw [Int32.le_iff_toInt_le, iI_toInt ha, iI_toInt hb]
theorem iI_eq {a b : Int} (ha : rng a) (hb : rng b) : iI a = iI b ↔ a = b := by
  constructor
  · intro h
    have := congrArg Int32.toInt h
    rwa [iI_toInt ha, iI_toInt hb] at this
  · intro h; rw [h]
theorem iI_add (a b : Int) : iI a + iI b = iI (a + b) := by
  unfold iI; rw [Int32.ofInt_add]
theorem iI_sub (a b : Int) : iI a - iI b = iI (a - b) := by
  unfold iI; rw [Int32.ofInt_sub]
theorem iI_mul (a b : Int) : iI a * iI b = iI (a * b) := by
  unfold iI; rw [Int32.ofInt_mul]
theorem iI_neg (a : Int) : -iI a = iI (-a) := by
  unfold iI; rw [Int32.ofInt_neg]
theorem iI_nat {a : Int} (h0 : 0 ≤ a) (h : a < 2147483648) : (iI a).toNatClampNeg = a.toNat := by
  unfold Int32.toNatClampNeg
  rw [iI_toInt ⟨by omega, h⟩]
theorem iI_in {a : Int} {n : Nat} (h0 : 0 ≤ a) (h : a < n) (hn : n ≤ 2147483648) : vp_in (iI a) n := by
  unfold vp_in
  rw [iI_nat h0 (by omega), show (0 : Int32) = iI 0 from rfl, iI_lt ⟨by omega, by omega⟩ ⟨by decide, by decide⟩]
  omega
/-! listings -/
abbrev Lst : Type := List (Nat × Instr × Nat)
def ftch : Lst → Nat → Option (Instr × Nat)
  | [], _ => none
  | r :: L, pc => cond (Nat.beq r.1 pc) (some r.2) (ftch L pc)
def okI : Instr → Bool
  | .bipush n => decide (-128 ≤ n) && decide (n < 128)
  | .sipush n => decide (-32768 ≤ n) && decide (n < 32768)
  | .iconst n => decide (-128 ≤ n) && decide (n < 128)
  | _ => true
def okL (cc : ByteArray) (L : Lst) : Prop := ∀ r ∈ L, decode cc r.1 = .ok r.2 ∧ okI r.2.1 = true
theorem okL_at {cc : ByteArray} {pc : Nat} {x : Instr × Nat} : ∀ {L : Lst}, okL cc L → ftch L pc = some x → decode cc pc = .ok x ∧ okI x.1 = true
  | [], _, h => by cases h
  | r :: L, hL, h => by
    unfold ftch at h
    cases hb : Nat.beq r.1 pc with
    | true =>
      rw [hb] at h
      have e : r.1 = pc := Nat.eq_of_beq_eq_true hb
      have h2 := hL r List.mem_cons_self
      cases h
      exact ⟨e ▸ h2.1, h2.2⟩
    | false =>
      rw [hb] at h
      exact okL_at (fun q hq => hL q (List.mem_cons_of_mem _ hq)) h
theorem okL_dec {cc : ByteArray} {L : Lst} (h : L.all (fun r => decide (decode cc r.1 = .ok r.2) && okI r.2.1) = true) : okL cc L := by
  intro r hr
  have := List.all_eq_true.mp h r hr
  simp only [Bool.and_eq_true, decide_eq_true_eq] at this
  exact this
def lkp : List (Nat × AV) → Nat → Option AV
  | [], _ => none
  | r :: L, i => cond (Nat.beq r.1 i) (some r.2) (lkp L i)
theorem lkp_mem {i : Nat} {v : AV} : ∀ {L : List (Nat × AV)}, lkp L i = some v → (i, v) ∈ L
  | [], h => by cases h
  | r :: L, h => by
    unfold lkp at h
    cases hb : Nat.beq r.1 i with
    | true =>
      rw [hb] at h
      have e : r.1 = i := Nat.eq_of_beq_eq_true hb
      cases h
      rw [← e]
      exact List.mem_cons_self
    | false =>
      rw [hb] at h
      exact List.mem_cons_of_mem _ (lkp_mem h)
def acat : AV → Nat
  | .inr (.inl _) => 2
  | _ => 1
theorem cv_cat (ρ : Nat → Nat) (v : AV) : (cv ρ v).category = acat v := by
  rcases v with a | a | (_ | a) <;> rfl
def sto (ls : List (Nat × AV)) (i : Nat) (v : AV) : List (Nat × AV) := (i, v) :: ls.filter (fun q => !(q.1 == i) && !(q.1 + 1 == i && acat q.2 == 2))
abbrev cl (ρ : Nat → Nat) (ls : List (Nat × AV)) : List (Nat × Value) := ls.map (fun q => (q.1, cv ρ q.2))
theorem cl_sto (ρ : Nat → Nat) (ls : List (Nat × AV)) (i : Nat) (v : AV) : (i, cv ρ v) :: (cl ρ ls).filter (fun q => !(q.1 == i) && !(q.1 + 1 == i && q.2.category == 2)) = cl ρ (sto ls i v) := by
  unfold sto cl
  simp only [List.map_cons, List.filter_map]
  congr 2
  apply List.filter_congr
  intro q _
  simp [cv_cat]
theorem cl_at {ρ : Nat → Nat} {ls : List (Nat × AV)} {lsA : Array Slot} {n i : Nat} {v : AV} (h : lv_has lsA n (cl ρ ls)) (hk : lkp ls i = some v) : lsA[i]? = some (.val (cv ρ v)) :=
  h.2.2 (i, cv ρ v) (List.mem_map.mpr ⟨(i, v), lkp_mem hk, rfl⟩)
