section Rules
variable {z : ZM} {G : GG} {R : Room} {MC MS k n pc pn : Nat} {ls : List (Nat × AV)} {st : List AV} {h : List AC} {Q : Option Int → List AC → Prop}
theorem AW.shl1 {t : Int} (hf : ftch z.2.2.2.2 pc = some (.ishl, 1)) (hn : pc + 1 = pn) (h1 : 0 ≤ t) (h2 : t < 31)
    (kk : AW z G R MC MS k n pn ls (vi ((2 ^ t.toNat : Nat) : Int) :: st) h Q) : AW z G R MC MS k n pc ls (vi t :: vi 1 :: st) h Q := by
  refine AW.ishl hf hn (by decide) h1 (by omega) ?_
  have e : (1 : Int) * 2 ^ t.toNat = ((2 ^ t.toNat : Nat) : Int) := by rw [Int.one_mul]; push_cast; rfl
  rw [e]; exact kk
theorem AW.orN {x y : Nat} (hf : ftch z.2.2.2.2 pc = some (.ior, 1)) (hn : pc + 1 = pn)
    (kk : AW z G R MC MS k n pn ls (vi ((x ||| y : Nat) : Int) :: st) h Q) : AW z G R MC MS k n pc ls (vi (y : Int) :: vi (x : Int) :: st) h Q := by
  refine AW.ior hf hn (by omega) (by omega) ?_
  rw [Int.toNat_natCast, Int.toNat_natCast]; exact kk
theorem AW.andN {x y : Nat} (hf : ftch z.2.2.2.2 pc = some (.iand, 1)) (hn : pc + 1 = pn)
    (kk : AW z G R MC MS k n pn ls (vi ((x &&& y : Nat) : Int) :: st) h Q) : AW z G R MC MS k n pc ls (vi (y : Int) :: vi (x : Int) :: st) h Q := by
  refine AW.iand hf hn (by omega) (by omega) ?_
  rw [Int.toNat_natCast, Int.toNat_natCast]; exact kk
end Rules
def mv (F t : Int) : Int := if F / 12 % 2 = 1 then (F - t) % 12 else (F + t) % 12
def px (F n p : Int) : Int := if 24 ≤ F then n - 1 - p else p
def ft (f : Nat → Int) (n F p : Int) : Int := mv F (f (px F n p).toNat)
theorem mv_b (F t : Int) : 0 ≤ mv F t ∧ mv F t < 12 := by
  unfold mv; split <;> omega
theorem ft_b (f : Nat → Int) (n F p : Int) : 0 ≤ ft f n F p ∧ ft f n F p < 12 := mv_b _ _
theorem and1 {a : Int} (h : 0 ≤ a) : ((a.toNat &&& (1 : Int).toNat : Nat) : Int) = a % 2 := by
  rw [show (1 : Int).toNat = 1 from rfl, Nat.and_one_is_mod]
  omega
theorem and2 {a : Int} (h : 0 ≤ a) (h2 : a < 4) : ((a.toNat &&& (2 : Int).toNat : Nat) : Int) = if 2 ≤ a then 2 else 0 := by
  have key : ∀ x : Nat, x < 4 → ((((x : Int)).toNat &&& (2 : Int).toNat : Nat) : Int) = if 2 ≤ (x : Int) then 2 else 0 := by decide
  have := key a.toNat (by omega)
  rwa [Int.toNat_of_nonneg h] at this
abbrev RQ (x : Int) (h : List AC) : Option Int → List AC → Prop := fun v u => v = some x ∧ u = h
def tn (f : Nat → Int) : Prop := ∀ j : Nat, j < 12 → 0 ≤ f j ∧ f j < 12

set_option maxHeartbeats 2000000 in
theorem c_X3_isRow (d : Nat) (hd : 0 ≤ d) (h : List AC) (a : Int) (ra : -2147483648 ≤ a ∧ a < 2147483648) : MF zX3_isRow d [vi a] h (bI (0 ≤ a ∧ a < 4)) h := by
  refine M0.of okX3_isRow (Nat.le_of_ble_eq_true rfl) ?_
  refine AW.go 1 (pc' := 1) rfl ?_
  refine AW.br (tgt := 13) (pn := 4) rfl (by decide) rfl (by first | exact bI_rng _ | exact ⟨by omega, by omega⟩) (fun c1 => ?_) (fun c1 => ?_)
  · dsimp only [cmpI] at c1
    refine AW.go 1 (pc' := 14) rfl ?_
    refine AW.retz rfl rfl (by first | exact bI_01 _ | decide) (Nat.le_refl _) (Nat.le_refl _) ?_
    refine ⟨congrArg some ?_, rfl⟩
    first | rfl | (symm; first | exact bI_t (by omega) | exact bI_f (by omega)) | omega
  · dsimp only [cmpI] at c1
    refine AW.go 2 (pc' := 6) rfl ?_
    refine AW.bi (tgt := 13) (pn := 9) rfl (by decide) rfl (by first | exact bI_rng _ | exact ⟨by omega, by omega⟩) (by first | exact bI_rng _ | exact ⟨by omega, by omega⟩) (fun c6 => ?_) (fun c6 => ?_)
    · dsimp only [cmpI] at c6
      refine AW.go 1 (pc' := 14) rfl ?_
      refine AW.retz rfl rfl (by first | exact bI_01 _ | decide) (Nat.le_refl _) (Nat.le_refl _) ?_
      refine ⟨congrArg some ?_, rfl⟩
      first | rfl | (symm; first | exact bI_t (by omega) | exact bI_f (by omega)) | omega
    · dsimp only [cmpI] at c6
      refine AW.go 2 (pc' := 14) rfl ?_
      refine AW.retz rfl rfl (by first | exact bI_01 _ | decide) (Nat.le_refl _) (Nat.le_refl _) ?_
      refine ⟨congrArg some ?_, rfl⟩
      first | rfl | (symm; first | exact bI_t (by omega) | exact bI_f (by omega)) | omega
set_option maxHeartbeats 2000000 in
theorem c_X3_isForm (d : Nat) (hd : 0 ≤ d) (h : List AC) (a : Int) (ra : -2147483648 ≤ a ∧ a < 2147483648) : MF zX3_isForm d [vi a] h (bI (0 ≤ a ∧ a < 48)) h := by
  refine M0.of okX3_isForm (Nat.le_of_ble_eq_true rfl) ?_
  refine AW.go 1 (pc' := 1) rfl ?_
  refine AW.br (tgt := 14) (pn := 4) rfl (by decide) rfl (by first | exact bI_rng _ | exact ⟨by omega, by omega⟩) (fun c1 => ?_) (fun c1 => ?_)
  · dsimp only [cmpI] at c1
    refine AW.go 1 (pc' := 15) rfl ?_
    refine AW.retz rfl rfl (by first | exact bI_01 _ | decide) (Nat.le_refl _) (Nat.le_refl _) ?_
    refine ⟨congrArg some ?_, rfl⟩
    first | rfl | (symm; first | exact bI_t (by omega) | exact bI_f (by omega)) | omega
  · dsimp only [cmpI] at c1
    refine AW.go 2 (pc' := 7) rfl ?_
    refine AW.bi (tgt := 14) (pn := 10) rfl (by decide) rfl (by first | exact bI_rng _ | exact ⟨by omega, by omega⟩) (by first | exact bI_rng _ | exact ⟨by omega, by omega⟩) (fun c7 => ?_) (fun c7 => ?_)
    · dsimp only [cmpI] at c7
      refine AW.go 1 (pc' := 15) rfl ?_
      refine AW.retz rfl rfl (by first | exact bI_01 _ | decide) (Nat.le_refl _) (Nat.le_refl _) ?_
      refine ⟨congrArg some ?_, rfl⟩
      first | rfl | (symm; first | exact bI_t (by omega) | exact bI_f (by omega)) | omega
    · dsimp only [cmpI] at c7
      refine AW.go 2 (pc' := 15) rfl ?_
      refine AW.retz rfl rfl (by first | exact bI_01 _ | decide) (Nat.le_refl _) (Nat.le_refl _) ?_
      refine ⟨congrArg some ?_, rfl⟩
      first | rfl | (symm; first | exact bI_t (by omega) | exact bI_f (by omega)) | omega
set_option maxHeartbeats 2000000 in
theorem c_X3_isPlace (d : Nat) (hd : 0 ≤ d) (h : List AC) (a : Int) (ra : -2147483648 ≤ a ∧ a < 2147483648) : MF zX3_isPlace d [vi a] h (bI (0 ≤ a ∧ a < 12)) h := by
  refine M0.of okX3_isPlace (Nat.le_of_ble_eq_true rfl) ?_
  refine AW.go 1 (pc' := 1) rfl ?_
  refine AW.br (tgt := 14) (pn := 4) rfl (by decide) rfl (by first | exact bI_rng _ | exact ⟨by omega, by omega⟩) (fun c1 => ?_) (fun c1 => ?_)
  · dsimp only [cmpI] at c1
    refine AW.go 1 (pc' := 15) rfl ?_
    refine AW.retz rfl rfl (by first | exact bI_01 _ | decide) (Nat.le_refl _) (Nat.le_refl _) ?_
    refine ⟨congrArg some ?_, rfl⟩
    first | rfl | (symm; first | exact bI_t (by omega) | exact bI_f (by omega)) | omega
  · dsimp only [cmpI] at c1
    refine AW.go 2 (pc' := 7) rfl ?_
    refine AW.bi (tgt := 14) (pn := 10) rfl (by decide) rfl (by first | exact bI_rng _ | exact ⟨by omega, by omega⟩) (by first | exact bI_rng _ | exact ⟨by omega, by omega⟩) (fun c7 => ?_) (fun c7 => ?_)
    · dsimp only [cmpI] at c7
      refine AW.go 1 (pc' := 15) rfl ?_
      refine AW.retz rfl rfl (by first | exact bI_01 _ | decide) (Nat.le_refl _) (Nat.le_refl _) ?_
      refine ⟨congrArg some ?_, rfl⟩
      first | rfl | (symm; first | exact bI_t (by omega) | exact bI_f (by omega)) | omega
    · dsimp only [cmpI] at c7
      refine AW.go 2 (pc' := 15) rfl ?_
      refine AW.retz rfl rfl (by first | exact bI_01 _ | decide) (Nat.le_refl _) (Nat.le_refl _) ?_
      refine ⟨congrArg some ?_, rfl⟩
      first | rfl | (symm; first | exact bI_t (by omega) | exact bI_f (by omega)) | omega
set_option maxHeartbeats 2000000 in
theorem c_X3_isImage (d : Nat) (hd : 0 ≤ d) (h : List AC) (a : Int) (ra : -2147483648 ≤ a ∧ a < 2147483648) : MF zX3_isImage d [vi a] h (bI (0 ≤ a ∧ a < 2)) h := by
  refine M0.of okX3_isImage (Nat.le_of_ble_eq_true rfl) ?_
  refine AW.go 1 (pc' := 1) rfl ?_
  refine AW.br (tgt := 13) (pn := 4) rfl (by decide) rfl (by first | exact bI_rng _ | exact ⟨by omega, by omega⟩) (fun c1 => ?_) (fun c1 => ?_)
  · dsimp only [cmpI] at c1
    refine AW.go 1 (pc' := 14) rfl ?_
    refine AW.retz rfl rfl (by first | exact bI_01 _ | decide) (Nat.le_refl _) (Nat.le_refl _) ?_
    refine ⟨congrArg some ?_, rfl⟩
    first | rfl | (symm; first | exact bI_t (by omega) | exact bI_f (by omega)) | omega
  · dsimp only [cmpI] at c1
    refine AW.go 2 (pc' := 6) rfl ?_
    refine AW.bi (tgt := 13) (pn := 9) rfl (by decide) rfl (by first | exact bI_rng _ | exact ⟨by omega, by omega⟩) (by first | exact bI_rng _ | exact ⟨by omega, by omega⟩) (fun c6 => ?_) (fun c6 => ?_)
    · dsimp only [cmpI] at c6
      refine AW.go 1 (pc' := 14) rfl ?_
      refine AW.retz rfl rfl (by first | exact bI_01 _ | decide) (Nat.le_refl _) (Nat.le_refl _) ?_
      refine ⟨congrArg some ?_, rfl⟩
      first | rfl | (symm; first | exact bI_t (by omega) | exact bI_f (by omega)) | omega
    · dsimp only [cmpI] at c6
      refine AW.go 2 (pc' := 14) rfl ?_
      refine AW.retz rfl rfl (by first | exact bI_01 _ | decide) (Nat.le_refl _) (Nat.le_refl _) ?_
      refine ⟨congrArg some ?_, rfl⟩
      first | rfl | (symm; first | exact bI_t (by omega) | exact bI_f (by omega)) | omega
set_option maxHeartbeats 2000000 in
theorem c_X3_isMirrored (d : Nat) (hd : 0 ≤ d) (h : List AC) (F : Int) (rF : 0 ≤ F ∧ F < 48) : MF zX3_isMirrored d [vi F] h (bI (F / 12 % 2 = 1)) h := by
  refine M0.of okX3_isMirrored (Nat.le_of_ble_eq_true rfl) ?_
  refine AW.go 2 (pc' := 3) rfl ?_
  refine AW.idiv (pn := 4) rfl rfl (by omega) (by omega) (by omega) (by omega) ?_
  refine AW.go 1 (pc' := 5) rfl ?_
  refine AW.iand (pn := 6) rfl rfl (by omega) (by omega) ?_
  rw [and1 (by omega)]
  refine AW.br (tgt := 13) (pn := 9) rfl (by decide) rfl (by first | exact bI_rng _ | exact ⟨by omega, by omega⟩) (fun c6 => ?_) (fun c6 => ?_)
  · dsimp only [cmpI] at c6
    refine AW.go 1 (pc' := 14) rfl ?_
    refine AW.retz rfl rfl (by first | exact bI_01 _ | decide) (Nat.le_refl _) (Nat.le_refl _) ?_
    refine ⟨congrArg some ?_, rfl⟩
    first | rfl | (symm; first | exact bI_t (by omega) | exact bI_f (by omega)) | omega
  · dsimp only [cmpI] at c6
    refine AW.go 2 (pc' := 14) rfl ?_
    refine AW.retz rfl rfl (by first | exact bI_01 _ | decide) (Nat.le_refl _) (Nat.le_refl _) ?_
    refine ⟨congrArg some ?_, rfl⟩
    first | rfl | (symm; first | exact bI_t (by omega) | exact bI_f (by omega)) | omega
set_option maxHeartbeats 2000000 in
theorem c_X3_isBackwards (d : Nat) (hd : 0 ≤ d) (h : List AC) (F : Int) (rF : 0 ≤ F ∧ F < 48) : MF zX3_isBackwards d [vi F] h (bI (24 ≤ F)) h := by
  refine M0.of okX3_isBackwards (Nat.le_of_ble_eq_true rfl) ?_
  refine AW.go 2 (pc' := 3) rfl ?_
  refine AW.idiv (pn := 4) rfl rfl (by omega) (by omega) (by omega) (by omega) ?_
  refine AW.go 1 (pc' := 5) rfl ?_
  refine AW.iand (pn := 6) rfl rfl (by omega) (by omega) ?_
  rw [and2 (by omega) (by omega)]
  have hgg : -5 < (if 2 ≤ F / 12 then (2 : Int) else 0) ∧ (if 2 ≤ F / 12 then (2 : Int) else 0) < 5 := by split <;> omega
  refine AW.br (tgt := 13) (pn := 9) rfl (by decide) rfl (by first | exact bI_rng _ | exact ⟨by omega, by omega⟩) (fun c6 => ?_) (fun c6 => ?_)
  · dsimp only [cmpI] at c6
    refine AW.go 1 (pc' := 14) rfl ?_
    refine AW.retz rfl rfl (by first | exact bI_01 _ | decide) (Nat.le_refl _) (Nat.le_refl _) ?_
    split at c6 <;> (refine ⟨congrArg some ?_, rfl⟩; first | omega | (symm; first | exact bI_t (by omega) | exact bI_f (by omega)))
  · dsimp only [cmpI] at c6
    refine AW.go 2 (pc' := 14) rfl ?_
    refine AW.retz rfl rfl (by first | exact bI_01 _ | decide) (Nat.le_refl _) (Nat.le_refl _) ?_
    split at c6 <;> (refine ⟨congrArg some ?_, rfl⟩; first | omega | (symm; first | exact bI_t (by omega) | exact bI_f (by omega)))
set_option maxHeartbeats 2000000 in
theorem c_X3_wrapped (d : Nat) (hd : 1 ≤ d) (h : List AC) (a : Int) (ra : -2147483648 ≤ a ∧ a < 2147483648) : MF zX3_wrapped d [vi a] h (a % 12) h := by
  refine M0.of okX3_wrapped (Nat.le_of_ble_eq_true rfl) ?_
  refine AW.go 2 (pc' := 3) rfl ?_
  refine AW.callSF (pn := 6) rfl rfl mlX3_186 (c_floorMod (d - 1) _ _ (by omega)) rfl rfl (Nat.le_of_ble_eq_true rfl) ⟨by show d - 1 + 1 ≤ d; omega, by show 40 * (d - 1 + 1) ≤ 40 * d; omega⟩ ⟨Nat.zero_le _, Nat.zero_le _⟩ ?_
  refine AW.ret rfl rfl (Nat.le_refl _) (Nat.le_refl _) ?_
  exact ⟨rfl, rfl⟩
set_option maxHeartbeats 2000000 in
theorem c_X3_turnedTone (d : Nat) (hd : 2 ≤ d) (h : List AC) (t F : Int) (rt : 0 ≤ t ∧ t < 12) (rF : 0 ≤ F ∧ F < 48) : MF zX3_turnedTone d [vi t, vi F] h (mv F t) h := by
  refine M0.of okX3_turnedTone (Nat.le_of_ble_eq_true rfl) ?_
  refine AW.go 1 (pc' := 1) rfl ?_
  refine AW.callSF (pn := 4) rfl rfl mlX3_99 (c_X3_isMirrored (d - 1) (by omega) _ _ (by omega)) rfl rfl (Nat.le_of_ble_eq_true rfl) ⟨by show d - 1 + 1 ≤ d; omega, by show 40 * (d - 1 + 1) ≤ 40 * d; omega⟩ ⟨Nat.zero_le _, Nat.zero_le _⟩ ?_
  refine AW.bz (tgt := 13) (pn := 7) rfl (by decide) rfl (fun c4 => ?_) (fun c4 => ?_)
  · refine AW.go 3 (pc' := 16) rfl ?_
    refine AW.callSF (pn := 19) rfl rfl mlX3_102 (c_X3_wrapped (d - 1) (by omega) _ _ (by omega)) rfl rfl (Nat.le_of_ble_eq_true rfl) ⟨by show d - 1 + 1 ≤ d; omega, by show 40 * (d - 1 + 1) ≤ 40 * d; omega⟩ ⟨Nat.zero_le _, Nat.zero_le _⟩ ?_
    refine AW.ret rfl rfl (Nat.le_refl _) (Nat.le_refl _) ?_
    refine ⟨congrArg some ?_, rfl⟩
    unfold mv
    first | rw [if_pos (by assumption)] | rw [if_neg (by assumption)]
  · refine AW.go 4 (pc' := 16) rfl ?_
    refine AW.callSF (pn := 19) rfl rfl mlX3_102 (c_X3_wrapped (d - 1) (by omega) _ _ (by omega)) rfl rfl (Nat.le_of_ble_eq_true rfl) ⟨by show d - 1 + 1 ≤ d; omega, by show 40 * (d - 1 + 1) ≤ 40 * d; omega⟩ ⟨Nat.zero_le _, Nat.zero_le _⟩ ?_
    refine AW.ret rfl rfl (Nat.le_refl _) (Nat.le_refl _) ?_
    refine ⟨congrArg some ?_, rfl⟩
    unfold mv
    first | rw [if_pos (by assumption)] | rw [if_neg (by assumption)]
set_option maxHeartbeats 2000000 in
theorem c_X3_formTone (d : Nat) (hd : 3 ≤ d) (h : List AC) (A : Nat) (f : Nat → Int) (hA : h[A]? = some (ai 0 12 f)) (hf : tn f) (N F p : Int) (rN : N ≤ 12) (rF : 0 ≤ F ∧ F < 48) (rp : 0 ≤ p ∧ p < N) : MF zX3_formTone d [vr A, vi N, vi F, vi p] h (ft f N F p) h := by
  refine M0.of okX3_formTone (Nat.le_of_ble_eq_true rfl) ?_
  refine AW.go 2 (pc' := 2) rfl ?_
  refine AW.callSF (pn := 5) rfl rfl mlX3_150 (c_X3_isBackwards (d - 1) (by omega) _ _ (by omega)) rfl rfl (Nat.le_of_ble_eq_true rfl) ⟨by show d - 1 + 1 ≤ d; omega, by show 40 * (d - 1 + 1) ≤ 40 * d; omega⟩ ⟨Nat.zero_le _, Nat.zero_le _⟩ ?_
  refine AW.bz (tgt := 16) (pn := 8) rfl (by decide) rfl (fun c5 => ?_) (fun c5 => ?_)
  · refine AW.go 1 (pc' := 17) rfl ?_
    refine AW.iald (pn := 18) rfl rfl (by first | assumption | exact set_self (by assumption) | exact set_ne (by first | assumption | omega | decide) (by first | assumption | exact set_self (by assumption) | exact set_ne (by first | assumption | omega | decide) (by assumption))) (by decide) (by omega) (by omega) ?_
    refine AW.go 1 (pc' := 19) rfl ?_
    have g1 := hf (N - 1 - p).toNat (by omega)
    have g2 := hf p.toNat (by omega)
    refine AW.callSF (pn := 22) rfl rfl mlX3_95 (c_X3_turnedTone (d - 1) (by omega) _ _ _ (by omega) (by omega)) rfl rfl (Nat.le_of_ble_eq_true rfl) ⟨by show d - 1 + 1 ≤ d; omega, by show 40 * (d - 1 + 1) ≤ 40 * d; omega⟩ ⟨Nat.zero_le _, Nat.zero_le _⟩ ?_
    refine AW.ret rfl rfl (Nat.le_refl _) (Nat.le_refl _) ?_
    refine ⟨congrArg some ?_, rfl⟩
    unfold ft px
    first | rw [if_pos (by assumption)] | rw [if_neg (by assumption)]
  · refine AW.go 6 (pc' := 17) rfl ?_
    refine AW.iald (pn := 18) rfl rfl (by first | assumption | exact set_self (by assumption) | exact set_ne (by first | assumption | omega | decide) (by first | assumption | exact set_self (by assumption) | exact set_ne (by first | assumption | omega | decide) (by assumption))) (by decide) (by omega) (by omega) ?_
    refine AW.go 1 (pc' := 19) rfl ?_
    have g1 := hf (N - 1 - p).toNat (by omega)
    have g2 := hf p.toNat (by omega)
    refine AW.callSF (pn := 22) rfl rfl mlX3_95 (c_X3_turnedTone (d - 1) (by omega) _ _ _ (by omega) (by omega)) rfl rfl (Nat.le_of_ble_eq_true rfl) ⟨by show d - 1 + 1 ≤ d; omega, by show 40 * (d - 1 + 1) ≤ 40 * d; omega⟩ ⟨Nat.zero_le _, Nat.zero_le _⟩ ?_
    refine AW.ret rfl rfl (Nat.le_refl _) (Nat.le_refl _) ?_
    refine ⟨congrArg some ?_, rfl⟩
    unfold ft px
    first | rw [if_pos (by assumption)] | rw [if_neg (by assumption)]
