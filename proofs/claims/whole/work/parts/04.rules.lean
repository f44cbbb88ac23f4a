theorem i8_32 {n : Int} (h1 : -128 ≤ n) (h2 : n < 128) : (Int8.ofInt n).toInt32 = iI n := by
  apply Int32.toInt_inj.mp
  rw [Int8.toInt_toInt32, iI_toInt ⟨by omega, by omega⟩, Int8.toInt_ofInt_of_le (by omega) (by omega)]
theorem i16_32 {n : Int} (h1 : -32768 ≤ n) (h2 : n < 32768) : (Int16.ofInt n).toInt32 = iI n := by
  apply Int32.toInt_inj.mp
  rw [Int16.toInt_toInt32, iI_toInt ⟨by omega, by omega⟩, Int16.toInt_ofInt_of_le (by omega) (by omega)]
section Rules
variable {z : ZM} {G : GG} {R : Room} {MC MS k n pc : Nat} {ls : List (Nat × AV)} {st : List AV} {h : List AC} {Q : Option Int → List AC → Prop}
set_option maxHeartbeats 4000000 in
theorem AW.p1 {pc' : Nat} {ls' : List (Nat × AV)} {st' : List AV} (hp : pst z.2.2.2.2 z.2.2.1 pc ls st = some (pc', ls', st')) (kk : AW z G R MC MS k n pc' ls' st' h Q) : AW z G R MC MS k n pc ls st h Q := by
  refine AW.fr ?_ kk
  intro p l e s m args below meth c ρ H locs lsA Zf C hl K
  obtain ⟨hx, hb, hml, hown, hts, hL, -, -, -⟩ := C
  unfold pst at hp
  split at hp
  next a hf =>
    obtain ⟨hd, ho⟩ := okL_at hL hf
    cases hp
    exact lv_iconst hx hb hd rfl (K lsA hl)
  next a hf =>
    obtain ⟨hd, ho⟩ := okL_at hL hf
    cases hp
    simp only [okI, Bool.and_eq_true, decide_eq_true_eq] at ho
    exact lv_bipush hx hb hd (i8_32 ho.1 ho.2) (K lsA hl)
  next a hf =>
    obtain ⟨hd, ho⟩ := okL_at hL hf
    cases hp
    simp only [okI, Bool.and_eq_true, decide_eq_true_eq] at ho
    exact lv_sipush hx hb hd (i16_32 ho.1 ho.2) (K lsA hl)
  next a hf =>
    obtain ⟨hd, ho⟩ := okL_at hL hf
    cases hp
    exact lv_lconst hx hb hd rfl (K lsA hl)
  next i hf =>
    obtain ⟨hd, ho⟩ := okL_at hL hf
    split at hp
    next a hk => cases hp; exact lv_iload hx hb hd (cl_at hl hk) (K lsA hl)
    next => cases hp
  next i hf =>
    obtain ⟨hd, ho⟩ := okL_at hL hf
    split at hp
    next a hk => cases hp; exact lv_iload_n hx hb hd rfl (cl_at hl hk) (K lsA hl)
    next => cases hp
  next i hf =>
    obtain ⟨hd, ho⟩ := okL_at hL hf
    split at hp
    next a hk => cases hp; exact lv_lload hx hb hd (cl_at hl hk) (K lsA hl)
    next => cases hp
  next i hf =>
    obtain ⟨hd, ho⟩ := okL_at hL hf
    split at hp
    next a hk => cases hp; exact lv_lload_n hx hb hd rfl (cl_at hl hk) (K lsA hl)
    next => cases hp
  next i hf =>
    obtain ⟨hd, ho⟩ := okL_at hL hf
    split at hp
    next a hk => cases hp; exact lv_aload hx hb hd (cl_at hl hk) (K lsA hl)
    next => cases hp
  next i hf =>
    obtain ⟨hd, ho⟩ := okL_at hL hf
    split at hp
    next a hk => cases hp; exact lv_aload_n hx hb hd rfl (cl_at hl hk) (K lsA hl)
    next => cases hp
  next i hf =>
    obtain ⟨hd, ho⟩ := okL_at hL hf
    split at hp
    next a st =>
      cases hi : Nat.blt i z.2.2.1 with
      | false => rw [hi] at hp; cases hp
      | true => rw [hi] at hp; cases hp; exact lv_istore hx hb hd hl (Nat.blt_eq ▸ hi) (cl_sto ρ ls i (vi a)) (fun lsB hB => K lsB hB)
    next => cases hp
  next i hf =>
    obtain ⟨hd, ho⟩ := okL_at hL hf
    split at hp
    next a st =>
      cases hi : Nat.blt i.val z.2.2.1 with
      | false => rw [hi] at hp; cases hp
      | true => rw [hi] at hp; cases hp; exact lv_istore_n hx hb hd rfl hl (Nat.blt_eq ▸ hi) (cl_sto ρ ls i (vi a)) (fun lsB hB => K lsB hB)
    next => cases hp
  next i hf =>
    obtain ⟨hd, ho⟩ := okL_at hL hf
    split at hp
    next a st =>
      cases hi : Nat.blt i z.2.2.1 with
      | false => rw [hi] at hp; cases hp
      | true => rw [hi] at hp; cases hp; exact lv_astore hx hb hd hl (Nat.blt_eq ▸ hi) (cl_sto ρ ls i (vr a)) (fun lsB hB => K lsB hB)
    next => cases hp
  next i hf =>
    obtain ⟨hd, ho⟩ := okL_at hL hf
    split at hp
    next a st =>
      cases hi : Nat.blt i.val z.2.2.1 with
      | false => rw [hi] at hp; cases hp
      | true => rw [hi] at hp; cases hp; exact lv_astore_n hx hb hd rfl hl (Nat.blt_eq ▸ hi) (cl_sto ρ ls i (vr a)) (fun lsB hB => K lsB hB)
    next => cases hp
  next i b hf =>
    obtain ⟨hd, ho⟩ := okL_at hL hf
    split at hp
    next a hk =>
      cases hi : Nat.blt i z.2.2.1 with
      | false => rw [hi] at hp; cases hp
      | true =>
        rw [hi] at hp; cases hp
        have hm : (i, cv ρ (vi a)) ∈ cl ρ ls := List.mem_map.mpr ⟨(i, vi a), lkp_mem hk, rfl⟩
        obtain ⟨kk9, hk9⟩ := List.getElem?_of_mem hm
        exact lv_iinc hx hb hd hl hk9 (iI_add a b) (Nat.blt_eq ▸ hi) (cl_sto ρ ls i (vi (a + b))) (fun lsB hB => K lsB hB)
    next => cases hp
  next hf =>
    obtain ⟨hd, ho⟩ := okL_at hL hf
    split at hp
    next b a st =>
      cases hp
      refine lv_iadd hx hb hd ?_
      rw [iI_add]
      exact K lsA hl
    next => cases hp
  next hf =>
    obtain ⟨hd, ho⟩ := okL_at hL hf
    split at hp
    next b a st =>
      cases hp
      refine lv_isub hx hb hd ?_
      rw [iI_sub]
      exact K lsA hl
    next => cases hp
  next hf =>
    obtain ⟨hd, ho⟩ := okL_at hL hf
    split at hp
    next b a st =>
      cases hp
      refine lv_imul hx hb hd ?_
      rw [iI_mul]
      exact K lsA hl
    next => cases hp
  next hf =>
    obtain ⟨hd, ho⟩ := okL_at hL hf
    split at hp
    next a st =>
      cases hp
      refine lv_ineg hx hb hd ?_
      rw [iI_neg]
      exact K lsA hl
    next => cases hp
  next hf =>
    obtain ⟨hd, ho⟩ := okL_at hL hf
    split at hp
    next a st => cases hp; exact lv_dup hx hb hd rfl (K lsA hl)
    next a st => cases hp; exact lv_dup hx hb hd (by rcases a with _ | a <;> rfl) (K lsA hl)
    next => cases hp
  next hf =>
    obtain ⟨hd, ho⟩ := okL_at hL hf
    split at hp
    next a b st => cases hp; exact lv_dup2_11 hx hb hd rfl (by rcases b with _ | b <;> rfl) (K lsA hl)
    next => cases hp
  next hf =>
    obtain ⟨hd, ho⟩ := okL_at hL hf
    split at hp
    next a st => cases hp; exact lv_pop hx hb hd rfl (K lsA hl)
    next => cases hp
  next o hf =>
    obtain ⟨hd, ho⟩ := okL_at hL hf
    split at hp
    next t ht => cases hp; exact lv_goto hx hb hd ht (K lsA hl)
    next => cases hp
  next => cases hp
end Rules
