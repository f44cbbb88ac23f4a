def psn (L : Lst) (nL : Nat) : Nat → Nat → List (Nat × AV) → List AV → Option (Nat × List (Nat × AV) × List AV)
  | 0, pc, ls, st => some (pc, ls, st)
  | j + 1, pc, ls, st => match pst L nL pc ls st with
    | some (pc', ls', st') => psn L nL j pc' ls' st'
    | none => none
def cmpI : ClassFile.Cond → Int → Int → Prop
  | .eq, a, b => a = b
  | .ne, a, b => ¬ a = b
  | .lt, a, b => a < b
  | .ge, a, b => b ≤ a
  | .gt, a, b => b < a
  | .le, a, b => a ≤ b
theorem rng0 : rng 0 := ⟨by decide, by decide⟩
def up {α : Type} (f : Nat → α) (k : Nat) (x : α) : Nat → α := fun j => if j = k then x else f j
theorem iI_div {a b : Int} (h0 : 0 ≤ a) (h1 : a < 2147483648) (h2 : 0 < b) (h3 : b < 2147483648) : iI a / iI b = iI (a / b) := by
  have hr : rng (a / b) := ⟨by have := Int.ediv_nonneg h0 (Int.le_of_lt h2); omega, by have := Int.ediv_le_self b h0; omega⟩
  apply Int32.toInt_inj.mp
  rw [iI_toInt hr, Int32.toInt_div, iI_toInt ⟨by omega, h1⟩, iI_toInt ⟨by omega, h3⟩, Int.tdiv_eq_ediv_of_nonneg h0]
  exact Int.bmod_eq_of_le (by have := hr.1; omega) (by have := hr.2; omega)
theorem iI_rem {a b : Int} (h0 : 0 ≤ a) (h1 : a < 2147483648) (h2 : 0 < b) (h3 : b < 2147483648) : iI a - iI a / iI b * iI b = iI (a % b) := by
  rw [iI_div h0 h1 h2 h3, iI_mul, iI_sub]
  congr 1
  have := Int.mul_ediv_add_emod a b
  rw [Int.mul_comm] at this
  omega
theorem iI_bv (a : Nat) : (iI (a : Int)).toBitVec = BitVec.ofNat 32 a := by
  unfold iI
  rw [Int32.toBitVec_ofInt]
  exact BitVec.ofInt_natCast 32 a
theorem iI_and {a b : Int} (h0 : 0 ≤ a) (h1 : 0 ≤ b) : iI a &&& iI b = iI ((a.toNat &&& b.toNat : Nat) : Int) := by
  obtain ⟨x, rfl⟩ := Int.eq_ofNat_of_zero_le h0
  obtain ⟨y, rfl⟩ := Int.eq_ofNat_of_zero_le h1
  apply Int32.toBitVec_inj.mp
  rw [Int32.toBitVec_and, iI_bv, iI_bv, iI_bv]
  simp [BitVec.ofNat_and]
theorem iI_or {a b : Int} (h0 : 0 ≤ a) (h1 : 0 ≤ b) : iI a ||| iI b = iI ((a.toNat ||| b.toNat : Nat) : Int) := by
  obtain ⟨x, rfl⟩ := Int.eq_ofNat_of_zero_le h0
  obtain ⟨y, rfl⟩ := Int.eq_ofNat_of_zero_le h1
  apply Int32.toBitVec_inj.mp
  rw [Int32.toBitVec_or, iI_bv, iI_bv, iI_bv]
  simp [BitVec.ofNat_or]
theorem iI_xor {a b : Int} (h0 : 0 ≤ a) (h1 : 0 ≤ b) : iI a ^^^ iI b = iI ((a.toNat ^^^ b.toNat : Nat) : Int) := by
  obtain ⟨x, rfl⟩ := Int.eq_ofNat_of_zero_le h0
  obtain ⟨y, rfl⟩ := Int.eq_ofNat_of_zero_le h1
  apply Int32.toBitVec_inj.mp
  rw [Int32.toBitVec_xor, iI_bv, iI_bv, iI_bv]
  simp [BitVec.ofNat_xor]
theorem iI_31 {b : Int} (h0 : 0 ≤ b) (h1 : b < 32) : ((iI b &&& 31).toBitVec.smod 32).toNat = b.toNat := by
  obtain ⟨y, rfl⟩ := Int.eq_ofNat_of_zero_le h0
  have key : ∀ y : Nat, y < 32 → ((iI ((y : Nat) : Int) &&& 31).toBitVec.smod 32).toNat = ((y : Nat) : Int).toNat := by decide +kernel
  exact key y (by omega)
theorem iI_shl {a b : Int} (h0 : 0 ≤ a) (h1 : 0 ≤ b) (h2 : b < 32) : iI a <<< (iI b &&& 31) = iI (a * 2 ^ b.toNat) := by
  obtain ⟨x, rfl⟩ := Int.eq_ofNat_of_zero_le h0
  apply Int32.toBitVec_inj.mp
  apply BitVec.eq_of_toNat_eq
  rw [pk_shl _ _ b.toNat (iI_31 h1 h2), iI_bv, show (x : Int) * 2 ^ b.toNat = ((x * 2 ^ b.toNat : Nat) : Int) by push_cast; rfl, iI_bv]
  simp [Nat.mul_mod]
theorem iI_shr {a b : Int} (h0 : rng a) (h1 : 0 ≤ b) (h2 : b < 32) : iI a >>> (iI b &&& 31) = iI (a / 2 ^ b.toNat) := by
  apply Int32.toInt_inj.mp
  rw [pk_shr _ _ b.toNat (iI_31 h1 h2), iI_toInt h0, Int.shiftRight_eq_div_pow]
  have hp : (0 : Int) < 2 ^ b.toNat := Int.pow_pos (by decide)
  have h3 : rng (a / 2 ^ b.toNat) := by
    obtain ⟨g1, g2⟩ := h0
    have hp1 : (1 : Int) ≤ 2 ^ b.toNat := hp
    refine ⟨?_, ?_⟩
    · apply Int.le_ediv_of_mul_le hp
      have : -2147483648 * 2 ^ b.toNat ≤ -2147483648 * (1 : Int) := Int.mul_le_mul_of_nonpos_left (by decide) hp1
      omega
    · apply Int.ediv_lt_of_lt_mul hp
      have : (2147483648 : Int) * 1 ≤ 2147483648 * 2 ^ b.toNat := Int.mul_le_mul_of_nonneg_left hp1 (by decide)
      omega
  rw [iI_toInt h3]
  push_cast
  rfl
