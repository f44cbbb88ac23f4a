theorem iI_nI (a : Nat) : iI (a : Int) = nI a := by
  apply Int32.toBitVec_inj.mp
  rw [iI_bv]; rfl
def tmd (a b : Int) : Int := if 0 ≤ a then a % b else -((-a) % b)
theorem iI_remT {a b : Int} (h0 : rng a) (h2 : 0 < b) (h3 : b < 2147483648) : iI a - iI a / iI b * iI b = iI (tmd a b) := by
  unfold tmd
  split
  next h => exact iI_rem h h0.2 h2 h3
  next h =>
    have e1 : iI a / iI b = iI (a.tdiv b) := by
      apply Int32.toInt_inj.mp
      rw [Int32.toInt_div, iI_toInt h0, iI_toInt ⟨by omega, h3⟩]
      have e2 : a.tdiv b = -((-a) / b) := by
        rw [show a = -(-a) by omega, Int.neg_tdiv, Int.tdiv_eq_ediv_of_nonneg (by omega), Int.neg_neg]
      have g1 := Int.ediv_nonneg (show 0 ≤ -a by omega) (Int.le_of_lt h2)
      have g2 := Int.ediv_le_self b (show 0 ≤ -a by omega)
      have hr : rng (a.tdiv b) := by rw [e2]; exact ⟨by have := h0.1; omega, by omega⟩
      rw [iI_toInt hr]
      exact Int.bmod_eq_of_le (by have := hr.1; omega) (by have := hr.2; omega)
    rw [e1, iI_mul, iI_sub]
    congr 1
    rw [show a.tdiv b = -((-a) / b) by rw [show a = -(-a) by omega, Int.neg_tdiv, Int.tdiv_eq_ediv_of_nonneg (by omega), Int.neg_neg]]
    have := Int.mul_ediv_add_emod (-a) b
    rw [Int.mul_comm] at this
    rw [Int.neg_mul]
    omega
theorem xor_sign {a b : Int} (ha : rng a) (hb : rng b) (h0 : 0 ≤ b) : 0 ≤ (iI a ^^^ iI b).toInt ↔ 0 ≤ a := by
  have m : ∀ x : Int32, (0 ≤ x.toInt) ↔ x.toBitVec.msb = false := by
    intro x
    rw [show x.toInt = x.toBitVec.toInt from rfl]
    have := BitVec.msb_eq_toInt (x := x.toBitVec)
    rw [this]
    simp
  rw [m, Int32.toBitVec_xor, BitVec.msb_xor]
  have hb' := (m (iI b)).mp (by rw [iI_toInt hb]; exact h0)
  rw [hb', Bool.xor_false, ← m, iI_toInt ha]
section Rules
variable {z : ZM} {G : GG} {R : Room} {MC MS k n pc pn : Nat} {ls : List (Nat × AV)} {st : List AV} {h : List AC} {Q : Option Int → List AC → Prop}
theorem AW.iremT {a b : Int} (hf : ftch z.2.2.2.2 pc = some (.irem, 1)) (hn : pc + 1 = pn) (h0 : rng a) (h2 : 0 < b) (h3 : b < 2147483648)
    (kk : AW z G R MC MS k n pn ls (vi (tmd a b) :: st) h Q) : AW z G R MC MS k n pc ls (vi b :: vi a :: st) h Q := by
  subst hn
  refine AW.fr ?_ kk
  intro p l e s m args below meth c ρ H locs lsA Zf C hl K
  obtain ⟨hx, hb', -, -, -, hL, -, -, -⟩ := C
  refine lv_irem hx hb' (okL_at hL hf).1 (fun q => ?_) ?_
  · exact absurd ((iI_eq ⟨by omega, by omega⟩ rng0).mp q) (by omega)
  · rw [iI_remT h0 h2 h3]; exact K lsA hl
theorem AW.ixorS {a b : Int} (hf : ftch z.2.2.2.2 pc = some (.ixor, 1)) (hn : pc + 1 = pn) (h0 : rng a) (h1 : rng b) (h2 : 0 ≤ b)
    (kk : ∀ r : Int, rng r → (0 ≤ r ↔ 0 ≤ a) → AW z G R MC MS k n pn ls (vi r :: st) h Q) : AW z G R MC MS k n pc ls (vi b :: vi a :: st) h Q := by
  subst hn
  refine AW.fr ?_ (kk (iI a ^^^ iI b).toInt (rng_of _) (xor_sign h0 h1 h2))
  intro p l e s m args below meth c ρ H locs lsA Zf C hl K
  obtain ⟨hx, hb', -, -, -, hL, -, -, -⟩ := C
  refine lv_ixor hx hb' (okL_at hL hf).1 ?_
  have K1 := K lsA hl
  show W p l e R s m args below meth c H locs k n Zf (F0 m (pc + 1) lsA (Value.int (iI a ^^^ iI b) :: st.map (cv ρ)))
  rw [← iI_of (iI a ^^^ iI b)]
  exact K1
theorem AW.iandG {a b : Int} (hf : ftch z.2.2.2.2 pc = some (.iand, 1)) (hn : pc + 1 = pn)
    (kk : AW z G R MC MS k n pn ls (vi (iI a &&& iI b).toInt :: st) h Q) : AW z G R MC MS k n pc ls (vi b :: vi a :: st) h Q := by
  subst hn
  refine AW.fr ?_ kk
  intro p l e s m args below meth c ρ H locs lsA Zf C hl K
  obtain ⟨hx, hb', -, -, -, hL, -, -, -⟩ := C
  refine lv_iand hx hb' (okL_at hL hf).1 ?_
  have K1 := K lsA hl
  show W p l e R s m args below meth c H locs k n Zf (F0 m (pc + 1) lsA (Value.int (iI a &&& iI b) :: st.map (cv ρ)))
  rw [← iI_of (iI a &&& iI b)]
  exact K1
theorem AW.iushr {a b : Int} (hf : ftch z.2.2.2.2 pc = some (.iushr, 1)) (hn : pc + 1 = pn) (h0 : 0 ≤ a) (h00 : a < 2147483648) (h1 : 0 ≤ b) (h2 : b < 32)
    (kk : AW z G R MC MS k n pn ls (vi (a / 2 ^ b.toNat) :: st) h Q) : AW z G R MC MS k n pc ls (vi b :: vi a :: st) h Q := by
  subst hn
  refine AW.fr ?_ kk
  intro p l e s m args below meth c ρ H locs lsA Zf C hl K
  obtain ⟨hx, hb', -, -, -, hL, -, -, -⟩ := C
  obtain ⟨x, rfl⟩ := Int.eq_ofNat_of_zero_le h0
  obtain ⟨y, rfl⟩ := Int.eq_ofNat_of_zero_le h1
  have key : ∀ y : Nat, y < 32 → (((iI ((y : Nat) : Int)).toUInt32 &&& Int32.toUInt32 31).toBitVec % 32).toNat = y := by decide +kernel
  refine lv_iushr hx hb' (okL_at hL hf).1 (v := iI ((x : Int) / 2 ^ ((y : Int)).toNat)) ?_ (K lsA hl)
  rw [iI_nI x, pk_ushrN (by omega) _ y (key y (by omega)), ← iI_nI, Int.toNat_natCast]
  congr 1
theorem AW.ldcw {a : Int} {idx : Nat} (hf : ftch z.2.2.2.2 pc = some (.ldc_w idx, 3)) (hn : pc + 3 = pn) (hw : Cond.constant z.1.cls idx (iI a) ∈ gtb)
    (kk : AW z G R MC MS k n pn ls (vi a :: st) h Q) : AW z G R MC MS k n pc ls st h Q := by
  subst hn
  refine AW.fr ?_ kk
  intro p l e s m args below meth c ρ H locs lsA Zf C hl K
  obtain ⟨hx, hb', -, hown, hts, hL, -, -, -⟩ := C
  exact lv_ldcw hx hb' hown (hts _ hw) (okL_at hL hf).1 (K lsA hl)
end Rules
def allN (p : Nat → Bool) : Nat → Bool
  | 0 => true
  | n + 1 => allN p n && p n
def anyN (p : Nat → Bool) : Nat → Bool
  | 0 => false
  | n + 1 => anyN p n || p n
def cntN (p : Nat → Bool) : Nat → Nat
  | 0 => 0
  | n + 1 => cntN p n + (if p n then 1 else 0)
theorem allN_iff (p : Nat → Bool) : ∀ n, allN p n = true ↔ ∀ j, j < n → p j = true
  | 0 => ⟨fun _ j hj => absurd hj (Nat.not_lt_zero j), fun _ => rfl⟩
  | n + 1 => by
    unfold allN
    rw [Bool.and_eq_true, allN_iff p n]
    constructor
    · intro ⟨h1, h2⟩ j hj
      rcases Nat.lt_succ_iff_lt_or_eq.mp hj with h | rfl
      · exact h1 j h
      · exact h2
    · intro h1
      exact ⟨fun j hj => h1 j (by omega), h1 n (by omega)⟩
theorem anyN_iff (p : Nat → Bool) : ∀ n, anyN p n = true ↔ ∃ j, j < n ∧ p j = true
  | 0 => ⟨fun h => (by cases h), fun ⟨j, hj, _⟩ => absurd hj (Nat.not_lt_zero j)⟩
  | n + 1 => by
    unfold anyN
    rw [Bool.or_eq_true, anyN_iff p n]
    constructor
    · rintro (⟨j, h1, h2⟩ | h)
      · exact ⟨j, by omega, h2⟩
      · exact ⟨n, by omega, h⟩
    · rintro ⟨j, h1, h2⟩
      rcases Nat.lt_succ_iff_lt_or_eq.mp h1 with h | rfl
      · exact Or.inl ⟨j, h, h2⟩
      · exact Or.inr h2
theorem cntN_le (p : Nat → Bool) : ∀ n, cntN p n ≤ n
  | 0 => Nat.le_refl 0
  | n + 1 => by
    have := cntN_le p n
    unfold cntN
    split <;> omega
theorem cntN_congr {p q : Nat → Bool} : ∀ {n : Nat}, (∀ j, j < n → p j = q j) → cntN p n = cntN q n
  | 0, _ => rfl
  | n + 1, h => by
    unfold cntN
    rw [cntN_congr (fun j hj => h j (by omega)), h n (by omega)]
theorem allN_congr {p q : Nat → Bool} : ∀ {n : Nat}, (∀ j, j < n → p j = q j) → allN p n = allN q n
  | 0, _ => rfl
  | n + 1, h => by
    unfold allN
    rw [allN_congr (fun j hj => h j (by omega)), h n (by omega)]
theorem anyN_congr {p q : Nat → Bool} : ∀ {n : Nat}, (∀ j, j < n → p j = q j) → anyN p n = anyN q n
  | 0, _ => rfl
  | n + 1, h => by
    unfold anyN
    rw [anyN_congr (fun j hj => h j (by omega)), h n (by omega)]
set_option maxHeartbeats 2000000 in
theorem c_floorMod (d : Nat) (h : List AC) (a : Int) (ra : -2147483648 ≤ a ∧ a < 2147483648) : MF zJ9_floorMod_7cf53 d [vi a, vi 12] h (a % 12) h := by
  refine M0.of okJ9_floorMod_7cf53 (Nat.le_of_ble_eq_true rfl) ?_
  have hm : (tmd a 12 = a % 12 ∧ (0 ≤ a ∨ tmd a 12 = 0)) ∨ (a < 0 ∧ tmd a 12 < 0 ∧ tmd a 12 + 12 = a % 12) := by
    unfold tmd; split <;> omega
  have hm0 : 0 ≤ a → tmd a 12 = a % 12 := fun w => by unfold tmd; rw [if_pos w]
  have hr : -12 < tmd a 12 ∧ tmd a 12 < 12 := by unfold tmd; split <;> omega
  refine AW.go 2 (pc' := 2) rfl ?_
  refine AW.iremT (pn := 3) rfl rfl ra (by decide) (by decide) ?_
  refine AW.go 3 (pc' := 6) rfl ?_
  refine AW.ixorS (pn := 7) rfl rfl ra ⟨by decide, by decide⟩ (by decide) ?_
  intro w rw hw
  generalize hrr : tmd a 12 = r at hm hm0 hr ⊢
  refine AW.br (tgt := 18) (pn := 10) rfl (by decide) rfl rw (fun c7 => ?_) (fun c7 => ?_)
  · dsimp only [cmpI] at c7
    refine AW.go 1 (pc' := 19) rfl ?_
    refine AW.ret rfl rfl (Nat.le_refl _) (Nat.le_refl _) ?_
    exact ⟨congrArg some (hm0 (hw.mp c7)), rfl⟩
  · dsimp only [cmpI] at c7
    refine AW.go 1 (pc' := 11) rfl ?_
    refine AW.br (tgt := 18) (pn := 14) rfl (by decide) rfl ⟨by omega, by omega⟩ (fun c11 => ?_) (fun c11 => ?_)
    · dsimp only [cmpI] at c11
      refine AW.go 1 (pc' := 19) rfl ?_
      refine AW.ret rfl rfl (Nat.le_refl _) (Nat.le_refl _) ?_
      exact ⟨congrArg some (by omega), rfl⟩
    · dsimp only [cmpI] at c11
      refine AW.go 3 (pc' := 17) rfl ?_
      refine AW.ret rfl rfl (Nat.le_refl _) (Nat.le_refl _) ?_
      exact ⟨congrArg some (by have : ¬ 0 ≤ a := fun q => c7 (hw.mpr q); omega), rfl⟩
