abbrev mo (pm rf gm ka wr : Int) : List AV := [vr 30, vr 31, vr 32, vi pm, vi rf, vr 33, vr 34, vr 35, vi gm, vr 36, vr 37, vr 38, vi ka, vi wr]
def mt (m : Nat → Int) : Prop := ∀ j : Nat, j < 48 → 0 ≤ m j ∧ m j < 12
def rwm (m : Nat → Int) (r : Int) : Nat → Int := fun j => m (12 * r.toNat + j)
theorem rwm_tn {m : Nat → Int} (h : mt m) {r : Int} (hr : 0 ≤ r ∧ r < 4) : tn (rwm m r) := fun j hj => h _ (by omega)
theorem lcmpI_s (a b : Int) : (lcmpI a b < 0 ↔ a < b) ∧ (0 < lcmpI a b ↔ b < a) ∧ -1 ≤ lcmpI a b ∧ lcmpI a b ≤ 1 := by
  unfold lcmpI
  split
  · omega
  · split <;> omega
def frs (f : Nat → Int) (n : Nat) : Nat := cntN (fun F => allN (fun G => decide (¬ cpF f (F : Int) (G : Int) = 0)) F) n
def ust (f : Nat → Int) : Nat → Nat
  | 0 => 0
  | n + 1 => ust f n + if (sbt f n).testBit (stp f (n : Int)).toNat then 0 else 1
def cpG (f : Nat → Int) (N F G : Int) : Int := cpd (fun j => ft f N F (j : Int)) (fun j => ft f N G (j : Int)) N.toNat 0
def fs0 (f : Nat → Int) : Nat → Nat
  | 0 => 0
  | n + 1 => fs0 f n ||| 2 ^ (f n).toNat
theorem allN_s {p : Nat → Bool} {k : Int} (h : 0 ≤ k) : allN p (k + 1).toNat = (allN p k.toNat && p k.toNat) := by
  rw [k1 h]; rfl
theorem anyN_s {p : Nat → Bool} {k : Int} (h : 0 ≤ k) : anyN p (k + 1).toNat = (anyN p k.toNat || p k.toNat) := by
  rw [k1 h]; rfl
theorem cntN_s {p : Nat → Bool} {k : Int} (h : 0 ≤ k) : cntN p (k + 1).toNat = cntN p k.toNat + (if p k.toNat then 1 else 0) := by
  rw [k1 h]; rfl
theorem shr_bit {x : Nat} {t : Int} (h : 0 ≤ t) : (((((x : Int) / 2 ^ t.toNat).toNat &&& (1 : Int).toNat : Nat)) : Int) = if x.testBit t.toNat then 1 else 0 := by
  have e : ((x : Int) / 2 ^ t.toNat).toNat = x / 2 ^ t.toNat := by
    rw [show ((x : Int) / 2 ^ t.toNat) = ((x / 2 ^ t.toNat : Nat) : Int) by push_cast; rfl, Int.toNat_natCast]
  rw [e, show (1 : Int).toNat = 1 from rfl, Nat.and_one_is_mod, Nat.testBit_eq_decide_div_mod_eq]
  have : x / 2 ^ t.toNat % 2 < 2 := Nat.mod_lt _ (by decide)
  by_cases q : x / 2 ^ t.toNat % 2 = 1
  · rw [q]; rfl
  · rw [show x / 2 ^ t.toNat % 2 = 0 by omega]; rfl
theorem shr_nn {x : Nat} {t : Int} : 0 ≤ (x : Int) / 2 ^ t.toNat := Int.ediv_nonneg (by omega) (Int.le_of_lt (Int.pow_pos (by decide)))

set_option maxHeartbeats 2000000 in
theorem c_X4_in (d : Nat) (hd : 0 ≤ d) (h : List AC) (v a b : Int) (rv : -9223372036854775808 ≤ v ∧ v < 9223372036854775808) (ra : -9223372036854775808 ≤ a ∧ a < 9223372036854775808) (rb : -9223372036854775808 ≤ b ∧ b < 9223372036854775808) : MF zX4_in d [vl v, vl a, vl b] h (bI (a ≤ v ∧ v ≤ b)) h := by
  refine M0.of okX4_in (Nat.le_of_ble_eq_true rfl) ?_
  refine AW.go 2 (pc' := 2) rfl ?_
  refine AW.lcmp (pn := 3) rfl rfl ⟨by omega, by omega⟩ ⟨by omega, by omega⟩ ?_
  have e1 := lcmpI_s v a
  refine AW.br (tgt := 17) (pn := 6) rfl (by decide) rfl (by first | exact bI_rng _ | exact ⟨by omega, by omega⟩) (fun c3 => ?_) (fun c3 => ?_)
  · dsimp only [cmpI] at c3
    refine AW.go 1 (pc' := 18) rfl ?_
    refine AW.retz rfl rfl (by first | exact bI_01 _ | decide) (Nat.le_refl _) (Nat.le_refl _) ?_
    refine ⟨congrArg some ?_, rfl⟩
    first | rfl | (symm; first | exact bI_t (by omega) | exact bI_f (by omega)) | omega
  · dsimp only [cmpI] at c3
    refine AW.go 2 (pc' := 9) rfl ?_
    refine AW.lcmp (pn := 10) rfl rfl ⟨by omega, by omega⟩ ⟨by omega, by omega⟩ ?_
    have e2 := lcmpI_s v b
    refine AW.br (tgt := 17) (pn := 13) rfl (by decide) rfl (by first | exact bI_rng _ | exact ⟨by omega, by omega⟩) (fun c10 => ?_) (fun c10 => ?_)
    · dsimp only [cmpI] at c10
      refine AW.go 1 (pc' := 18) rfl ?_
      refine AW.retz rfl rfl (by first | exact bI_01 _ | decide) (Nat.le_refl _) (Nat.le_refl _) ?_
      refine ⟨congrArg some ?_, rfl⟩
      first | rfl | (symm; first | exact bI_t (by omega) | exact bI_f (by omega)) | omega
    · dsimp only [cmpI] at c10
      refine AW.go 2 (pc' := 18) rfl ?_
      refine AW.retz rfl rfl (by first | exact bI_01 _ | decide) (Nat.le_refl _) (Nat.le_refl _) ?_
      refine ⟨congrArg some ?_, rfl⟩
      first | rfl | (symm; first | exact bI_t (by omega) | exact bI_f (by omega)) | omega
set_option maxHeartbeats 2000000 in
theorem c_X4_isRow (d : Nat) (hd : 1 ≤ d) (h : List AC) (a : Int) (ra : -2147483648 ≤ a ∧ a < 2147483648) : MF zX4_isRow d [vi a] h (bI (0 ≤ a ∧ a < 4)) h := by
  refine M0.of okX4_isRow (Nat.le_of_ble_eq_true rfl) ?_
  refine AW.go 1 (pc' := 1) rfl ?_
  refine AW.i2l (pn := 2) rfl rfl (by first | exact bI_rng _ | exact ⟨by omega, by omega⟩) ?_
  refine AW.go 1 (pc' := 3) rfl ?_
  refine AW.ldc2 (pn := 6) rfl rfl clX4_38 ?_
  refine AW.callSF (pn := 9) rfl rfl mlX4_40 (c_X4_in (d - 1) (by omega) _ _ _ _ (by omega) (by omega) (by omega)) rfl rfl (Nat.le_of_ble_eq_true rfl) ⟨by show d - 1 + 1 ≤ d; omega, by show 40 * (d - 1 + 1) ≤ 40 * d; omega⟩ ⟨Nat.zero_le _, Nat.zero_le _⟩ ?_
  refine AW.retz rfl rfl (by first | exact bI_01 _ | decide) (Nat.le_refl _) (Nat.le_refl _) ?_
  exact ⟨congrArg some (bI_c (by omega)), rfl⟩
set_option maxHeartbeats 2000000 in
theorem c_X4_isForm (d : Nat) (hd : 1 ≤ d) (h : List AC) (a : Int) (ra : -2147483648 ≤ a ∧ a < 2147483648) : MF zX4_isForm d [vi a] h (bI (0 ≤ a ∧ a < 48)) h := by
  refine M0.of okX4_isForm (Nat.le_of_ble_eq_true rfl) ?_
  refine AW.go 1 (pc' := 1) rfl ?_
  refine AW.i2l (pn := 2) rfl rfl (by first | exact bI_rng _ | exact ⟨by omega, by omega⟩) ?_
  refine AW.go 1 (pc' := 3) rfl ?_
  refine AW.ldc2 (pn := 6) rfl rfl clX4_44 ?_
  refine AW.callSF (pn := 9) rfl rfl mlX4_40 (c_X4_in (d - 1) (by omega) _ _ _ _ (by omega) (by omega) (by omega)) rfl rfl (Nat.le_of_ble_eq_true rfl) ⟨by show d - 1 + 1 ≤ d; omega, by show 40 * (d - 1 + 1) ≤ 40 * d; omega⟩ ⟨Nat.zero_le _, Nat.zero_le _⟩ ?_
  refine AW.retz rfl rfl (by first | exact bI_01 _ | decide) (Nat.le_refl _) (Nat.le_refl _) ?_
  exact ⟨congrArg some (bI_c (by omega)), rfl⟩
set_option maxHeartbeats 2000000 in
theorem c_X4_isPlace (d : Nat) (hd : 1 ≤ d) (h : List AC) (a : Int) (ra : -2147483648 ≤ a ∧ a < 2147483648) : MF zX4_isPlace d [vi a] h (bI (0 ≤ a ∧ a < 12)) h := by
  refine M0.of okX4_isPlace (Nat.le_of_ble_eq_true rfl) ?_
  refine AW.go 1 (pc' := 1) rfl ?_
  refine AW.i2l (pn := 2) rfl rfl (by first | exact bI_rng _ | exact ⟨by omega, by omega⟩) ?_
  refine AW.go 1 (pc' := 3) rfl ?_
  refine AW.ldc2 (pn := 6) rfl rfl clX4_46 ?_
  refine AW.callSF (pn := 9) rfl rfl mlX4_40 (c_X4_in (d - 1) (by omega) _ _ _ _ (by omega) (by omega) (by omega)) rfl rfl (Nat.le_of_ble_eq_true rfl) ⟨by show d - 1 + 1 ≤ d; omega, by show 40 * (d - 1 + 1) ≤ 40 * d; omega⟩ ⟨Nat.zero_le _, Nat.zero_le _⟩ ?_
  refine AW.retz rfl rfl (by first | exact bI_01 _ | decide) (Nat.le_refl _) (Nat.le_refl _) ?_
  exact ⟨congrArg some (bI_c (by omega)), rfl⟩
def tof (a : Int) : Int := if 48 ≤ a ∧ a ≤ 57 then a - 48 else if a = 116 then 10 else if a = 101 then 11 else -6
def sof (a : Int) : Int := if a = 10 then 116 else if a = 11 then 101 else 48 + a
set_option maxHeartbeats 2000000 in
theorem c_X4_toneOf (d : Nat) (hd : 1 ≤ d) (h : List AC) (a : Int) (ra : -2147483648 ≤ a ∧ a < 2147483648) : MF zX4_toneOf d [vi a] h (tof a) h := by
  refine M0.of okX4_toneOf (Nat.le_of_ble_eq_true rfl) ?_
  refine AW.go 1 (pc' := 1) rfl ?_
  refine AW.i2l (pn := 2) rfl rfl (by first | exact bI_rng _ | exact ⟨by omega, by omega⟩) ?_
  refine AW.ldc2 (pn := 5) rfl rfl clX4_56 ?_
  refine AW.ldc2 (pn := 8) rfl rfl clX4_58 ?_
  refine AW.callSF (pn := 11) rfl rfl mlX4_40 (c_X4_in (d - 1) (by omega) _ _ _ _ (by omega) (by omega) (by omega)) rfl rfl (Nat.le_of_ble_eq_true rfl) ⟨by show d - 1 + 1 ≤ d; omega, by show 40 * (d - 1 + 1) ≤ 40 * d; omega⟩ ⟨Nat.zero_le _, Nat.zero_le _⟩ ?_
  refine AW.bz (tgt := 21) (pn := 14) rfl (by decide) rfl (fun c11 => ?_) (fun c11 => ?_)
  · refine AW.go 2 (pc' := 24) rfl ?_
    refine AW.bi (tgt := 32) (pn := 27) rfl (by decide) rfl (by first | exact bI_rng _ | exact ⟨by omega, by omega⟩) (by first | exact bI_rng _ | exact ⟨by omega, by omega⟩) (fun c24 => ?_) (fun c24 => ?_)
    · dsimp only [cmpI] at c24
      refine AW.go 2 (pc' := 35) rfl ?_
      refine AW.bi (tgt := 43) (pn := 38) rfl (by decide) rfl (by first | exact bI_rng _ | exact ⟨by omega, by omega⟩) (by first | exact bI_rng _ | exact ⟨by omega, by omega⟩) (fun c35 => ?_) (fun c35 => ?_)
      · dsimp only [cmpI] at c35
        refine AW.go 1 (pc' := 45) rfl ?_
        refine AW.ret rfl rfl (Nat.le_refl _) (Nat.le_refl _) ?_
        refine ⟨congrArg some ?_, rfl⟩
        unfold tof
        (repeat' split) <;> omega
      · dsimp only [cmpI] at c35
        refine AW.go 2 (pc' := 45) rfl ?_
        refine AW.ret rfl rfl (Nat.le_refl _) (Nat.le_refl _) ?_
        refine ⟨congrArg some ?_, rfl⟩
        unfold tof
        (repeat' split) <;> omega
    · dsimp only [cmpI] at c24
      refine AW.go 2 (pc' := 45) rfl ?_
      refine AW.ret rfl rfl (Nat.le_refl _) (Nat.le_refl _) ?_
      refine ⟨congrArg some ?_, rfl⟩
      unfold tof
      (repeat' split) <;> omega
  · refine AW.go 4 (pc' := 45) rfl ?_
    refine AW.ret rfl rfl (Nat.le_refl _) (Nat.le_refl _) ?_
    refine ⟨congrArg some ?_, rfl⟩
    unfold tof
    (repeat' split) <;> omega
set_option maxHeartbeats 2000000 in
theorem c_X4_signOf (d : Nat) (hd : 0 ≤ d) (h : List AC) (a : Int) (ra : -2147483648 ≤ a ∧ a < 2147483648) : MF zX4_signOf d [vi a] h (sof a) h := by
  refine M0.of okX4_signOf (Nat.le_of_ble_eq_true rfl) ?_
  refine AW.go 2 (pc' := 3) rfl ?_
  refine AW.bi (tgt := 11) (pn := 6) rfl (by decide) rfl (by first | exact bI_rng _ | exact ⟨by omega, by omega⟩) (by first | exact bI_rng _ | exact ⟨by omega, by omega⟩) (fun c3 => ?_) (fun c3 => ?_)
  · dsimp only [cmpI] at c3
    refine AW.go 2 (pc' := 14) rfl ?_
    refine AW.bi (tgt := 22) (pn := 17) rfl (by decide) rfl (by first | exact bI_rng _ | exact ⟨by omega, by omega⟩) (by first | exact bI_rng _ | exact ⟨by omega, by omega⟩) (fun c14 => ?_) (fun c14 => ?_)
    · dsimp only [cmpI] at c14
      refine AW.go 3 (pc' := 26) rfl ?_
      refine AW.ret rfl rfl (Nat.le_refl _) (Nat.le_refl _) ?_
      refine ⟨congrArg some ?_, rfl⟩
      unfold sof
      (repeat' split) <;> omega
    · dsimp only [cmpI] at c14
      refine AW.go 2 (pc' := 26) rfl ?_
      refine AW.ret rfl rfl (Nat.le_refl _) (Nat.le_refl _) ?_
      refine ⟨congrArg some ?_, rfl⟩
      unfold sof
      (repeat' split) <;> omega
  · dsimp only [cmpI] at c3
    refine AW.go 2 (pc' := 26) rfl ?_
    refine AW.ret rfl rfl (Nat.le_refl _) (Nat.le_refl _) ?_
    refine ⟨congrArg some ?_, rfl⟩
    unfold sof
    (repeat' split) <;> omega
set_option maxHeartbeats 2000000 in
theorem c_X4_toneAt (d : Nat) (hd : 0 ≤ d) (h : List AC) (pm rf gm ka wr : Int) (hO : h[29]? = some (ao 4 (mo pm rf gm ka wr))) (m : Nat → Int) (hM : h[30]? = some (ai 0 48 m)) (hm : mt m) (r p : Int) (rr : 0 ≤ r ∧ r < 4) (rp : 0 ≤ p ∧ p < 12) : MF zX4_toneAt d [vr 29, vi r, vi p] h (rwm m r p.toNat) h := by
  refine M0.of okX4_toneAt (Nat.le_of_ble_eq_true rfl) ?_
  refine AW.go 1 (pc' := 1) rfl ?_
  refine AW.getf (pn := 4) rfl rfl flX4_7 (by first | assumption | exact set_self (by assumption) | exact set_ne (by first | assumption | omega | decide) (by first | assumption | exact set_self (by assumption) | exact set_ne (by first | assumption | omega | decide) (by assumption))) rfl ?_
  refine AW.go 5 (pc' := 10) rfl ?_
  refine AW.iald (pn := 11) rfl rfl (by first | assumption | exact set_self (by assumption) | exact set_ne (by first | assumption | omega | decide) (by first | assumption | exact set_self (by assumption) | exact set_ne (by first | assumption | omega | decide) (by assumption))) (by decide) (by omega) (by omega) ?_
  refine AW.ret rfl rfl (Nat.le_refl _) (Nat.le_refl _) ?_
  refine ⟨congrArg some (congrArg m ?_), rfl⟩
  omega
set_option maxHeartbeats 2000000 in
theorem c_X4_isMirror (d : Nat) (hd : 0 ≤ d) (h : List AC) (F : Int) (rF : 0 ≤ F ∧ F < 48) : MF zX4_isMirror d [vi F] h (bI (F / 12 % 2 = 1)) h := by
  refine M0.of okX4_isMirror (Nat.le_of_ble_eq_true rfl) ?_
  refine AW.go 2 (pc' := 3) rfl ?_
  refine AW.idiv (pn := 4) rfl rfl (by omega) (by omega) (by omega) (by omega) ?_
  refine AW.go 1 (pc' := 5) rfl ?_
  refine AW.irem (pn := 6) rfl rfl (by omega) (by omega) (by omega) (by omega) ?_
  refine AW.go 1 (pc' := 7) rfl ?_
  refine AW.bi (tgt := 14) (pn := 10) rfl (by decide) rfl (by first | exact bI_rng _ | exact ⟨by omega, by omega⟩) (by first | exact bI_rng _ | exact ⟨by omega, by omega⟩) (fun c7 => ?_) (fun c7 => ?_)
  · dsimp only [cmpI] at c7
    refine AW.go 1 (pc' := 15) rfl ?_
    refine AW.retz rfl rfl (by first | exact bI_01 _ | decide) (Nat.le_refl _) (Nat.le_refl _) ?_
    refine ⟨congrArg some ?_, rfl⟩
    first | rfl | (symm; first | exact bI_t (by omega) | exact bI_f (by omega)) | omega
  · dsimp only [cmpI] at c7
    refine AW.go 2 (pc' := 15) rfl ?_
    refine AW.retz rfl rfl (by first | exact bI_01 _ | decide) (Nat.le_refl _) (Nat.le_refl _) ?_
    refine ⟨congrArg some ?_, rfl⟩
    first | rfl | (symm; first | exact bI_t (by omega) | exact bI_f (by omega)) | omega
set_option maxHeartbeats 2000000 in
theorem c_X4_isBack (d : Nat) (hd : 0 ≤ d) (h : List AC) (F : Int) (rF : 0 ≤ F ∧ F < 48) : MF zX4_isBack d [vi F] h (bI (24 ≤ F)) h := by
  refine M0.of okX4_isBack (Nat.le_of_ble_eq_true rfl) ?_
  refine AW.go 2 (pc' := 3) rfl ?_
  refine AW.idiv (pn := 4) rfl rfl (by omega) (by omega) (by omega) (by omega) ?_
  refine AW.go 1 (pc' := 5) rfl ?_
  refine AW.bi (tgt := 12) (pn := 8) rfl (by decide) rfl (by first | exact bI_rng _ | exact ⟨by omega, by omega⟩) (by first | exact bI_rng _ | exact ⟨by omega, by omega⟩) (fun c5 => ?_) (fun c5 => ?_)
  · dsimp only [cmpI] at c5
    refine AW.go 1 (pc' := 13) rfl ?_
    refine AW.retz rfl rfl (by first | exact bI_01 _ | decide) (Nat.le_refl _) (Nat.le_refl _) ?_
    refine ⟨congrArg some ?_, rfl⟩
    first | rfl | (symm; first | exact bI_t (by omega) | exact bI_f (by omega)) | omega
  · dsimp only [cmpI] at c5
    refine AW.go 2 (pc' := 13) rfl ?_
    refine AW.retz rfl rfl (by first | exact bI_01 _ | decide) (Nat.le_refl _) (Nat.le_refl _) ?_
    refine ⟨congrArg some ?_, rfl⟩
    first | rfl | (symm; first | exact bI_t (by omega) | exact bI_f (by omega)) | omega
set_option maxHeartbeats 2000000 in
theorem c_X4_isKeeping (d : Nat) (hd : 0 ≤ d) (h : List AC) (F : Int) (rF : 0 ≤ F ∧ F < 48) : MF zX4_isKeeping d [vi F] h (bI (F = 0 ∨ F = 30 ∨ 36 < F ∧ F % 2 = 1)) h := by
  refine M0.of okX4_isKeeping (Nat.le_of_ble_eq_true rfl) ?_
  refine AW.go 1 (pc' := 1) rfl ?_
  refine AW.br (tgt := 23) (pn := 4) rfl (by decide) rfl (by first | exact bI_rng _ | exact ⟨by omega, by omega⟩) (fun c1 => ?_) (fun c1 => ?_)
  · dsimp only [cmpI] at c1
    refine AW.go 2 (pc' := 28) rfl ?_
    refine AW.retz rfl rfl (by first | exact bI_01 _ | decide) (Nat.le_refl _) (Nat.le_refl _) ?_
    refine ⟨congrArg some ?_, rfl⟩
    first | rfl | (symm; first | exact bI_t (by omega) | exact bI_f (by omega)) | omega
  · dsimp only [cmpI] at c1
    refine AW.go 2 (pc' := 7) rfl ?_
    refine AW.bi (tgt := 23) (pn := 10) rfl (by decide) rfl (by first | exact bI_rng _ | exact ⟨by omega, by omega⟩) (by first | exact bI_rng _ | exact ⟨by omega, by omega⟩) (fun c7 => ?_) (fun c7 => ?_)
    · dsimp only [cmpI] at c7
      refine AW.go 2 (pc' := 28) rfl ?_
      refine AW.retz rfl rfl (by first | exact bI_01 _ | decide) (Nat.le_refl _) (Nat.le_refl _) ?_
      refine ⟨congrArg some ?_, rfl⟩
      first | rfl | (symm; first | exact bI_t (by omega) | exact bI_f (by omega)) | omega
    · dsimp only [cmpI] at c7
      refine AW.go 2 (pc' := 13) rfl ?_
      refine AW.bi (tgt := 27) (pn := 16) rfl (by decide) rfl (by first | exact bI_rng _ | exact ⟨by omega, by omega⟩) (by first | exact bI_rng _ | exact ⟨by omega, by omega⟩) (fun c13 => ?_) (fun c13 => ?_)
      · dsimp only [cmpI] at c13
        refine AW.go 1 (pc' := 28) rfl ?_
        refine AW.retz rfl rfl (by first | exact bI_01 _ | decide) (Nat.le_refl _) (Nat.le_refl _) ?_
        refine ⟨congrArg some ?_, rfl⟩
        first | rfl | (symm; first | exact bI_t (by omega) | exact bI_f (by omega)) | omega
      · dsimp only [cmpI] at c13
        refine AW.go 2 (pc' := 18) rfl ?_
        refine AW.irem (pn := 19) rfl rfl (by omega) (by omega) (by omega) (by omega) ?_
        refine AW.go 1 (pc' := 20) rfl ?_
        refine AW.bi (tgt := 27) (pn := 23) rfl (by decide) rfl (by first | exact bI_rng _ | exact ⟨by omega, by omega⟩) (by first | exact bI_rng _ | exact ⟨by omega, by omega⟩) (fun c20 => ?_) (fun c20 => ?_)
        · dsimp only [cmpI] at c20
          refine AW.go 1 (pc' := 28) rfl ?_
          refine AW.retz rfl rfl (by first | exact bI_01 _ | decide) (Nat.le_refl _) (Nat.le_refl _) ?_
          refine ⟨congrArg some ?_, rfl⟩
          first | rfl | (symm; first | exact bI_t (by omega) | exact bI_f (by omega)) | omega
        · dsimp only [cmpI] at c20
          refine AW.go 2 (pc' := 28) rfl ?_
          refine AW.retz rfl rfl (by first | exact bI_01 _ | decide) (Nat.le_refl _) (Nat.le_refl _) ?_
          refine ⟨congrArg some ?_, rfl⟩
          first | rfl | (symm; first | exact bI_t (by omega) | exact bI_f (by omega)) | omega
set_option maxHeartbeats 2000000 in
theorem c_X4_moved (d : Nat) (hd : 1 ≤ d) (h : List AC) (F t : Int) (rF : 0 ≤ F ∧ F < 48) (rt : 0 ≤ t ∧ t < 12) : MF zX4_moved d [vi F, vi t] h (mv F t) h := by
  refine M0.of okX4_moved (Nat.le_of_ble_eq_true rfl) ?_
  refine AW.go 2 (pc' := 3) rfl ?_
  refine AW.irem (pn := 4) rfl rfl (by omega) (by omega) (by omega) (by omega) ?_
  refine AW.go 2 (pc' := 6) rfl ?_
  refine AW.callSF (pn := 9) rfl rfl mlX4_93 (c_X4_isMirror (d - 1) (by omega) _ _ (by omega)) rfl rfl (Nat.le_of_ble_eq_true rfl) ⟨by show d - 1 + 1 ≤ d; omega, by show 40 * (d - 1 + 1) ≤ 40 * d; omega⟩ ⟨Nat.zero_le _, Nat.zero_le _⟩ ?_
  refine AW.bz (tgt := 24) (pn := 12) rfl (by decide) rfl (fun c9 => ?_) (fun c9 => ?_)
  · refine AW.go 4 (pc' := 29) rfl ?_
    refine AW.irem (pn := 30) rfl rfl (by omega) (by omega) (by omega) (by omega) ?_
    refine AW.ret rfl rfl (Nat.le_refl _) (Nat.le_refl _) ?_
    refine ⟨congrArg some ?_, rfl⟩
    unfold mv
    first | (rw [if_pos (by assumption)]; omega) | (rw [if_neg (by assumption)]; omega)
  · refine AW.go 6 (pc' := 20) rfl ?_
    refine AW.irem (pn := 21) rfl rfl (by omega) (by omega) (by omega) (by omega) ?_
    refine AW.go 1 (pc' := 30) rfl ?_
    refine AW.ret rfl rfl (Nat.le_refl _) (Nat.le_refl _) ?_
    refine ⟨congrArg some ?_, rfl⟩
    unfold mv
    first | (rw [if_pos (by assumption)]; omega) | (rw [if_neg (by assumption)]; omega)
set_option maxHeartbeats 2000000 in
theorem c_X4_across (d : Nat) (hd : 2 ≤ d) (h : List AC) (F t : Int) (rF : 0 ≤ F ∧ F < 48) (rt : 0 ≤ t ∧ t < 12) : MF zX4_across d [vi F, vi t] h (mv F t) h := by
  refine M0.of okX4_across (Nat.le_of_ble_eq_true rfl) ?_
  refine AW.go 2 (pc' := 2) rfl ?_
  refine AW.callSF (pn := 5) rfl rfl mlX4_99 (c_X4_moved (d - 1) (by omega) _ _ _ (by omega) (by omega)) rfl rfl (Nat.le_of_ble_eq_true rfl) ⟨by show d - 1 + 1 ≤ d; omega, by show 40 * (d - 1 + 1) ≤ 40 * d; omega⟩ ⟨Nat.zero_le _, Nat.zero_le _⟩ ?_
  refine AW.ret rfl rfl (Nat.le_refl _) (Nat.le_refl _) ?_
  exact ⟨rfl, rfl⟩
set_option maxHeartbeats 2000000 in
theorem c_X4_formAt (d : Nat) (hd : 2 ≤ d) (h : List AC) (pm rf gm ka wr : Int) (hO : h[29]? = some (ao 4 (mo pm rf gm ka wr))) (m : Nat → Int) (hM : h[30]? = some (ai 0 48 m)) (hm : mt m) (r F p : Int) (rr : 0 ≤ r ∧ r < 4) (rF : 0 ≤ F ∧ F < 48) (rp : 0 ≤ p ∧ p < 12) : MF zX4_formAt d [vr 29, vi r, vi F, vi p] h (ft (rwm m r) 12 F p) h := by
  refine M0.of okX4_formAt (Nat.le_of_ble_eq_true rfl) ?_
  refine AW.go 4 (pc' := 4) rfl ?_
  refine AW.callSF (pn := 7) rfl rfl mlX4_96 (c_X4_isBack (d - 1) (by omega) _ _ (by omega)) rfl rfl (Nat.le_of_ble_eq_true rfl) ⟨by show d - 1 + 1 ≤ d; omega, by show 40 * (d - 1 + 1) ≤ 40 * d; omega⟩ ⟨Nat.zero_le _, Nat.zero_le _⟩ ?_
  refine AW.bz (tgt := 17) (pn := 10) rfl (by decide) rfl (fun c7 => ?_) (fun c7 => ?_)
  · refine AW.go 1 (pc' := 18) rfl ?_
    refine AW.callVF (pn := 21) rfl rfl mlX4_89 (by first | assumption | exact set_self (by assumption) | exact set_ne (by first | assumption | omega | decide) (by first | assumption | exact set_self (by assumption) | exact set_ne (by first | assumption | omega | decide) (by assumption))) (c_X4_toneAt (d - 1) (by omega) _ _ _ _ _ _ (by assumption) _ (by assumption) (by assumption) _ _ (by omega) (by omega)) rfl rfl (Nat.le_of_ble_eq_true rfl) ⟨by show d - 1 + 1 ≤ d; omega, by show 40 * (d - 1 + 1) ≤ 40 * d; omega⟩ ⟨Nat.zero_le _, Nat.zero_le _⟩ ?_
    have g1 := rwm_tn hm rr (11 - p).toNat (by omega)
    have g2 := rwm_tn hm rr p.toNat (by omega)
    refine AW.callSF (pn := 24) rfl rfl mlX4_99 (c_X4_moved (d - 1) (by omega) _ _ _ (by omega) (by omega)) rfl rfl (Nat.le_of_ble_eq_true rfl) ⟨by show d - 1 + 1 ≤ d; omega, by show 40 * (d - 1 + 1) ≤ 40 * d; omega⟩ ⟨Nat.zero_le _, Nat.zero_le _⟩ ?_
    refine AW.ret rfl rfl (Nat.le_refl _) (Nat.le_refl _) ?_
    refine ⟨congrArg some ?_, rfl⟩
    unfold ft px
    first | (rw [if_pos (by assumption)]; rfl) | rw [if_neg (by assumption)]
  · refine AW.go 4 (pc' := 18) rfl ?_
    refine AW.callVF (pn := 21) rfl rfl mlX4_89 (by first | assumption | exact set_self (by assumption) | exact set_ne (by first | assumption | omega | decide) (by first | assumption | exact set_self (by assumption) | exact set_ne (by first | assumption | omega | decide) (by assumption))) (c_X4_toneAt (d - 1) (by omega) _ _ _ _ _ _ (by assumption) _ (by assumption) (by assumption) _ _ (by omega) (by omega)) rfl rfl (Nat.le_of_ble_eq_true rfl) ⟨by show d - 1 + 1 ≤ d; omega, by show 40 * (d - 1 + 1) ≤ 40 * d; omega⟩ ⟨Nat.zero_le _, Nat.zero_le _⟩ ?_
    have g1 := rwm_tn hm rr (11 - p).toNat (by omega)
    have g2 := rwm_tn hm rr p.toNat (by omega)
    refine AW.callSF (pn := 24) rfl rfl mlX4_99 (c_X4_moved (d - 1) (by omega) _ _ _ (by omega) (by omega)) rfl rfl (Nat.le_of_ble_eq_true rfl) ⟨by show d - 1 + 1 ≤ d; omega, by show 40 * (d - 1 + 1) ≤ 40 * d; omega⟩ ⟨Nat.zero_le _, Nat.zero_le _⟩ ?_
    refine AW.ret rfl rfl (Nat.le_refl _) (Nat.le_refl _) ?_
    refine ⟨congrArg some ?_, rfl⟩
    unfold ft px
    first | (rw [if_pos (by assumption)]; rfl) | rw [if_neg (by assumption)]
set_option maxHeartbeats 2000000 in
theorem c_X4_groupAt (d : Nat) (hd : 2 ≤ d) (h : List AC) (pm rf gm ka wr : Int) (hO : h[29]? = some (ao 4 (mo pm rf gm ka wr))) (m : Nat → Int) (hM : h[30]? = some (ai 0 48 m)) (hm : mt m) (r N F p : Int) (rr : 0 ≤ r ∧ r < 4) (rN : N ≤ 12) (rF : 0 ≤ F ∧ F < 48) (rp : 0 ≤ p ∧ p < N) : MF zX4_groupAt d [vr 29, vi r, vi N, vi F, vi p] h (ft (rwm m r) N F p) h := by
  refine M0.of okX4_groupAt (Nat.le_of_ble_eq_true rfl) ?_
  refine AW.go 4 (pc' := 4) rfl ?_
  refine AW.callSF (pn := 7) rfl rfl mlX4_96 (c_X4_isBack (d - 1) (by omega) _ _ (by omega)) rfl rfl (Nat.le_of_ble_eq_true rfl) ⟨by show d - 1 + 1 ≤ d; omega, by show 40 * (d - 1 + 1) ≤ 40 * d; omega⟩ ⟨Nat.zero_le _, Nat.zero_le _⟩ ?_
  refine AW.bz (tgt := 19) (pn := 10) rfl (by decide) rfl (fun c7 => ?_) (fun c7 => ?_)
  · refine AW.go 1 (pc' := 21) rfl ?_
    refine AW.callVF (pn := 24) rfl rfl mlX4_89 (by first | assumption | exact set_self (by assumption) | exact set_ne (by first | assumption | omega | decide) (by first | assumption | exact set_self (by assumption) | exact set_ne (by first | assumption | omega | decide) (by assumption))) (c_X4_toneAt (d - 1) (by omega) _ _ _ _ _ _ (by assumption) _ (by assumption) (by assumption) _ _ (by omega) (by omega)) rfl rfl (Nat.le_of_ble_eq_true rfl) ⟨by show d - 1 + 1 ≤ d; omega, by show 40 * (d - 1 + 1) ≤ 40 * d; omega⟩ ⟨Nat.zero_le _, Nat.zero_le _⟩ ?_
    have g1 := rwm_tn hm rr (N - 1 - p).toNat (by omega)
    have g2 := rwm_tn hm rr p.toNat (by omega)
    refine AW.callSF (pn := 27) rfl rfl mlX4_99 (c_X4_moved (d - 1) (by omega) _ _ _ (by omega) (by omega)) rfl rfl (Nat.le_of_ble_eq_true rfl) ⟨by show d - 1 + 1 ≤ d; omega, by show 40 * (d - 1 + 1) ≤ 40 * d; omega⟩ ⟨Nat.zero_le _, Nat.zero_le _⟩ ?_
    refine AW.ret rfl rfl (Nat.le_refl _) (Nat.le_refl _) ?_
    refine ⟨congrArg some ?_, rfl⟩
    unfold ft px
    first | rw [if_pos (by assumption)] | rw [if_neg (by assumption)]
  · refine AW.go 6 (pc' := 21) rfl ?_
    refine AW.callVF (pn := 24) rfl rfl mlX4_89 (by first | assumption | exact set_self (by assumption) | exact set_ne (by first | assumption | omega | decide) (by first | assumption | exact set_self (by assumption) | exact set_ne (by first | assumption | omega | decide) (by assumption))) (c_X4_toneAt (d - 1) (by omega) _ _ _ _ _ _ (by assumption) _ (by assumption) (by assumption) _ _ (by omega) (by omega)) rfl rfl (Nat.le_of_ble_eq_true rfl) ⟨by show d - 1 + 1 ≤ d; omega, by show 40 * (d - 1 + 1) ≤ 40 * d; omega⟩ ⟨Nat.zero_le _, Nat.zero_le _⟩ ?_
    have g1 := rwm_tn hm rr (N - 1 - p).toNat (by omega)
    have g2 := rwm_tn hm rr p.toNat (by omega)
    refine AW.callSF (pn := 27) rfl rfl mlX4_99 (c_X4_moved (d - 1) (by omega) _ _ _ (by omega) (by omega)) rfl rfl (Nat.le_of_ble_eq_true rfl) ⟨by show d - 1 + 1 ≤ d; omega, by show 40 * (d - 1 + 1) ≤ 40 * d; omega⟩ ⟨Nat.zero_le _, Nat.zero_le _⟩ ?_
    refine AW.ret rfl rfl (Nat.le_refl _) (Nat.le_refl _) ?_
    refine ⟨congrArg some ?_, rfl⟩
    unfold ft px
    first | rw [if_pos (by assumption)] | rw [if_neg (by assumption)]
set_option maxHeartbeats 4000000 in
theorem l_X4_compared (d : Nat) (hd : 3 ≤ d) (h : List AC) (pm rf gm ka wr : Int) (hO : h[29]? = some (ao 4 (mo pm rf gm ka wr))) (m : Nat → Int) (hM : h[30]? = some (ai 0 48 m)) (hm : mt m) (r F G : Int) (rr : 0 ≤ r ∧ r < 4) (rF : 0 ≤ F ∧ F < 48) (rG : 0 ≤ G ∧ G < 48) : ∀ (n : Nat) (k : Int), (0 ≤ k) → (k ≤ 12) → ((cpF (rwm m r) F G) = cpd (fun j => ft (rwm m r) 12 F (j : Int)) (fun j => ft (rwm m r) 12 G (j : Int)) (12 - k).toNat k.toNat) → ((12 - k).toNat) < n → AW zX4_compared Eq (rmd d) 0 0 0 0 3 [(4, vi k), (0, vr 29), (1, vi r), (2, vi F), (3, vi G)] [] h (RQ (cpF (rwm m r) F G) h) := by
  intro n
  induction n with
  | zero =>
    intro k h0 h1 hi hn
    exact absurd hn (Nat.not_lt_zero _)
  | succ n ih =>
    intro k h0 h1 hi hn
    refine AW.go 2 (pc' := 7) rfl ?_
    refine AW.bi (tgt := 43) (pn := 10) rfl (by decide) rfl (by first | exact bI_rng _ | exact ⟨by omega, by omega⟩) (by first | exact bI_rng _ | exact ⟨by omega, by omega⟩) (fun c7 => ?_) (fun c7 => ?_)
    · dsimp only [cmpI] at c7
      refine AW.go 1 (pc' := 44) rfl ?_
      refine AW.ret rfl rfl (Nat.le_refl _) (Nat.le_refl _) ?_
      refine ⟨congrArg some ?_, rfl⟩
      rw [hi, show (12 - k).toNat = 0 by omega]
      rfl
    · dsimp only [cmpI] at c7
      refine AW.go 4 (pc' := 15) rfl ?_
      refine AW.callVF (pn := 18) rfl rfl mlX4_105 (by first | assumption | exact set_self (by assumption) | exact set_ne (by first | assumption | omega | decide) (by first | assumption | exact set_self (by assumption) | exact set_ne (by first | assumption | omega | decide) (by assumption))) (c_X4_formAt (d - 1) (by omega) _ _ _ _ _ _ (by assumption) _ (by assumption) (by assumption) _ _ _ (by omega) (by omega) (by omega)) rfl rfl (Nat.le_of_ble_eq_true rfl) ⟨by show d - 1 + 1 ≤ d; omega, by show 40 * (d - 1 + 1) ≤ 40 * d; omega⟩ ⟨Nat.zero_le _, Nat.zero_le _⟩ ?_
      refine AW.go 4 (pc' := 23) rfl ?_
      refine AW.callVF (pn := 26) rfl rfl mlX4_105 (by first | assumption | exact set_self (by assumption) | exact set_ne (by first | assumption | omega | decide) (by first | assumption | exact set_self (by assumption) | exact set_ne (by first | assumption | omega | decide) (by assumption))) (c_X4_formAt (d - 1) (by omega) _ _ _ _ _ _ (by assumption) _ (by assumption) (by assumption) _ _ _ (by omega) (by omega) (by omega)) rfl rfl (Nat.le_of_ble_eq_true rfl) ⟨by show d - 1 + 1 ≤ d; omega, by show 40 * (d - 1 + 1) ≤ 40 * d; omega⟩ ⟨Nat.zero_le _, Nat.zero_le _⟩ ?_
      refine AW.go 3 (pc' := 31) rfl ?_
      have g1 := ft_b (rwm m r) 12 F k
      have g2 := ft_b (rwm m r) 12 G k
      have hs : cpd (fun j => ft (rwm m r) 12 F (j : Int)) (fun j => ft (rwm m r) 12 G (j : Int)) (12 - k).toNat k.toNat = if ft (rwm m r) 12 F k - ft (rwm m r) 12 G k = 0 then cpd (fun j => ft (rwm m r) 12 F (j : Int)) (fun j => ft (rwm m r) 12 G (j : Int)) ((12 - k).toNat - 1) (k.toNat + 1) else ft (rwm m r) 12 F k - ft (rwm m r) 12 G k := by
        obtain ⟨q, hq⟩ : ∃ q, (12 - k).toNat = q + 1 := ⟨(12 - k).toNat - 1, by omega⟩
        rw [hq]
        show (if ft (rwm m r) 12 F (k.toNat : Int) - ft (rwm m r) 12 G (k.toNat : Int) = 0 then _ else ft (rwm m r) 12 F (k.toNat : Int) - ft (rwm m r) 12 G (k.toNat : Int)) = _
        rw [kk h0]
        rfl
      refine AW.br (tgt := 37) (pn := 34) rfl (by decide) rfl (by first | exact bI_rng _ | exact ⟨by omega, by omega⟩) (fun c31 => ?_) (fun c31 => ?_)
      · dsimp only [cmpI] at c31
        refine AW.go 2 (pc' := 3) rfl ?_
        refine AW.lw ?_ (ih (k + 1) (by omega) (by omega) (by rw [k1 h0, show (12 - (k + 1)).toNat = (12 - k).toNat - 1 by omega]; rw [hs, if_pos c31] at hi; exact hi) (by omega))
        exact (And.intro rfl (And.intro rfl (And.intro rfl (And.intro rfl (And.intro rfl trivial)))))
      · dsimp only [cmpI] at c31
        refine AW.go 1 (pc' := 36) rfl ?_
        refine AW.ret rfl rfl (Nat.le_refl _) (Nat.le_refl _) ?_
        refine ⟨congrArg some ?_, rfl⟩
        rw [hi, hs, if_neg c31]
set_option maxHeartbeats 2000000 in
theorem c_X4_compared (d : Nat) (hd : 3 ≤ d) (h : List AC) (pm rf gm ka wr : Int) (hO : h[29]? = some (ao 4 (mo pm rf gm ka wr))) (m : Nat → Int) (hM : h[30]? = some (ai 0 48 m)) (hm : mt m) (r F G : Int) (rr : 0 ≤ r ∧ r < 4) (rF : 0 ≤ F ∧ F < 48) (rG : 0 ≤ G ∧ G < 48) : MF zX4_compared d [vr 29, vi r, vi F, vi G] h (cpF (rwm m r) F G) h := by
  refine M0.of okX4_compared (Nat.le_of_ble_eq_true rfl) ?_
  refine AW.go 2 (pc' := 3) rfl ?_
  refine AW.lw ?_ (l_X4_compared d hd h pm rf gm ka wr hO m hM hm r F G rr rF rG _ 0 (by omega) (by omega) (by first | rfl | (rw [Int.sub_zero]; rfl)) (Nat.lt_succ_self _))
  exact (And.intro rfl (And.intro rfl (And.intro rfl (And.intro rfl (And.intro rfl trivial)))))
set_option maxHeartbeats 4000000 in
theorem l_X4_comparedGroups (d : Nat) (hd : 3 ≤ d) (h : List AC) (pm rf gm ka wr : Int) (hO : h[29]? = some (ao 4 (mo pm rf gm ka wr))) (m : Nat → Int) (hM : h[30]? = some (ai 0 48 m)) (hm : mt m) (r N F G : Int) (rr : 0 ≤ r ∧ r < 4) (rN : 0 ≤ N ∧ N ≤ 12) (rF : 0 ≤ F ∧ F < 48) (rG : 0 ≤ G ∧ G < 48) : ∀ (n : Nat) (k : Int), (0 ≤ k) → (k ≤ N) → ((cpG (rwm m r) N F G) = cpd (fun j => ft (rwm m r) N F (j : Int)) (fun j => ft (rwm m r) N G (j : Int)) (N - k).toNat k.toNat) → ((N - k).toNat) < n → AW zX4_comparedGroups Eq (rmd d) 0 0 0 0 3 [(5, vi k), (0, vr 29), (1, vi r), (2, vi N), (3, vi F), (4, vi G)] [] h (RQ (cpG (rwm m r) N F G) h) := by
  intro n
  induction n with
  | zero =>
    intro k h0 h1 hi hn
    exact absurd hn (Nat.not_lt_zero _)
  | succ n ih =>
    intro k h0 h1 hi hn
    refine AW.go 2 (pc' := 6) rfl ?_
    refine AW.bi (tgt := 45) (pn := 9) rfl (by decide) rfl (by first | exact bI_rng _ | exact ⟨by omega, by omega⟩) (by first | exact bI_rng _ | exact ⟨by omega, by omega⟩) (fun c6 => ?_) (fun c6 => ?_)
    · dsimp only [cmpI] at c6
      refine AW.go 1 (pc' := 46) rfl ?_
      refine AW.ret rfl rfl (Nat.le_refl _) (Nat.le_refl _) ?_
      refine ⟨congrArg some ?_, rfl⟩
      rw [hi, show (N - k).toNat = 0 by omega]
      rfl
    · dsimp only [cmpI] at c6
      refine AW.go 5 (pc' := 15) rfl ?_
      refine AW.callVF (pn := 18) rfl rfl mlX4_138 (by first | assumption | exact set_self (by assumption) | exact set_ne (by first | assumption | omega | decide) (by first | assumption | exact set_self (by assumption) | exact set_ne (by first | assumption | omega | decide) (by assumption))) (c_X4_groupAt (d - 1) (by omega) _ _ _ _ _ _ (by assumption) _ (by assumption) (by assumption) _ _ _ _ (by omega) (by omega) (by omega) (by omega)) rfl rfl (Nat.le_of_ble_eq_true rfl) ⟨by show d - 1 + 1 ≤ d; omega, by show 40 * (d - 1 + 1) ≤ 40 * d; omega⟩ ⟨Nat.zero_le _, Nat.zero_le _⟩ ?_
      refine AW.go 5 (pc' := 25) rfl ?_
      refine AW.callVF (pn := 28) rfl rfl mlX4_138 (by first | assumption | exact set_self (by assumption) | exact set_ne (by first | assumption | omega | decide) (by first | assumption | exact set_self (by assumption) | exact set_ne (by first | assumption | omega | decide) (by assumption))) (c_X4_groupAt (d - 1) (by omega) _ _ _ _ _ _ (by assumption) _ (by assumption) (by assumption) _ _ _ _ (by omega) (by omega) (by omega) (by omega)) rfl rfl (Nat.le_of_ble_eq_true rfl) ⟨by show d - 1 + 1 ≤ d; omega, by show 40 * (d - 1 + 1) ≤ 40 * d; omega⟩ ⟨Nat.zero_le _, Nat.zero_le _⟩ ?_
      refine AW.go 3 (pc' := 33) rfl ?_
      have g1 := ft_b (rwm m r) N F k
      have g2 := ft_b (rwm m r) N G k
      have hs : cpd (fun j => ft (rwm m r) N F (j : Int)) (fun j => ft (rwm m r) N G (j : Int)) (N - k).toNat k.toNat = if ft (rwm m r) N F k - ft (rwm m r) N G k = 0 then cpd (fun j => ft (rwm m r) N F (j : Int)) (fun j => ft (rwm m r) N G (j : Int)) ((N - k).toNat - 1) (k.toNat + 1) else ft (rwm m r) N F k - ft (rwm m r) N G k := by
        obtain ⟨q, hq⟩ : ∃ q, (N - k).toNat = q + 1 := ⟨(N - k).toNat - 1, by omega⟩
        rw [hq]
        show (if ft (rwm m r) N F (k.toNat : Int) - ft (rwm m r) N G (k.toNat : Int) = 0 then _ else ft (rwm m r) N F (k.toNat : Int) - ft (rwm m r) N G (k.toNat : Int)) = _
        rw [kk h0]
        rfl
      refine AW.br (tgt := 39) (pn := 36) rfl (by decide) rfl (by first | exact bI_rng _ | exact ⟨by omega, by omega⟩) (fun c33 => ?_) (fun c33 => ?_)
      · dsimp only [cmpI] at c33
        refine AW.go 2 (pc' := 3) rfl ?_
        refine AW.lw ?_ (ih (k + 1) (by omega) (by omega) (by rw [k1 h0, show (N - (k + 1)).toNat = (N - k).toNat - 1 by omega]; rw [hs, if_pos c33] at hi; exact hi) (by omega))
        exact (And.intro rfl (And.intro rfl (And.intro rfl (And.intro rfl (And.intro rfl (And.intro rfl trivial))))))
      · dsimp only [cmpI] at c33
        refine AW.go 1 (pc' := 38) rfl ?_
        refine AW.ret rfl rfl (Nat.le_refl _) (Nat.le_refl _) ?_
        refine ⟨congrArg some ?_, rfl⟩
        rw [hi, hs, if_neg c33]
set_option maxHeartbeats 2000000 in
theorem c_X4_comparedGroups (d : Nat) (hd : 3 ≤ d) (h : List AC) (pm rf gm ka wr : Int) (hO : h[29]? = some (ao 4 (mo pm rf gm ka wr))) (m : Nat → Int) (hM : h[30]? = some (ai 0 48 m)) (hm : mt m) (r N F G : Int) (rr : 0 ≤ r ∧ r < 4) (rN : 0 ≤ N ∧ N ≤ 12) (rF : 0 ≤ F ∧ F < 48) (rG : 0 ≤ G ∧ G < 48) : MF zX4_comparedGroups d [vr 29, vi r, vi N, vi F, vi G] h (cpG (rwm m r) N F G) h := by
  refine M0.of okX4_comparedGroups (Nat.le_of_ble_eq_true rfl) ?_
  refine AW.go 2 (pc' := 3) rfl ?_
  refine AW.lw ?_ (l_X4_comparedGroups d hd h pm rf gm ka wr hO m hM hm r N F G rr rN rF rG _ 0 (by omega) (by omega) (by first | rfl | (rw [Int.sub_zero]; rfl)) (Nat.lt_succ_self _))
  exact (And.intro rfl (And.intro rfl (And.intro rfl (And.intro rfl (And.intro rfl (And.intro rfl trivial))))))
theorem cpd_b (a b : Nat → Int) (ha : ∀ j, 0 ≤ a j ∧ a j < 12) (hb : ∀ j, 0 ≤ b j ∧ b j < 12) : ∀ n k, -12 < cpd a b n k ∧ cpd a b n k < 12
  | 0, k => ⟨by show (-12 : Int) < 0; decide, by show (0 : Int) < 12; decide⟩
  | n + 1, k => by
    have h1 := ha k
    have h2 := hb k
    have h3 := cpd_b a b ha hb n (k + 1)
    unfold cpd
    split <;> omega
theorem cpF_b (f : Nat → Int) (F G : Int) : -12 < cpF f F G ∧ cpF f F G < 12 := cpd_b _ _ (fun _ => ft_b _ _ _ _) (fun _ => ft_b _ _ _ _) _ _
theorem cpG_b (f : Nat → Int) (N F G : Int) : -12 < cpG f N F G ∧ cpG f N F G < 12 := cpd_b _ _ (fun _ => ft_b _ _ _ _) (fun _ => ft_b _ _ _ _) _ _
set_option maxHeartbeats 4000000 in
theorem l_X4_canonForm (d : Nat) (hd : 4 ≤ d) (h : List AC) (pm rf gm ka wr : Int) (hO : h[29]? = some (ao 4 (mo pm rf gm ka wr))) (m : Nat → Int) (hM : h[30]? = some (ai 0 48 m)) (hm : mt m) (r : Int) (rr : 0 ≤ r ∧ r < 4) : ∀ (n : Nat) (k : Int) (c : Int), (1 ≤ k) → (k ≤ 48) → (c = lfm (rwm m r) (k - 1).toNat) → ((48 - k).toNat) < n → AW zX4_canonForm Eq (rmd d) 0 0 0 0 4 [(3, vi k), (2, vi c), (0, vr 29), (1, vi r)] [] h (RQ (lfm (rwm m r) 47) h) := by
  intro n
  induction n with
  | zero =>
    intro k c h0 h1 hc hn
    exact absurd hn (Nat.not_lt_zero _)
  | succ n ih =>
    intro k c h0 h1 hc hn
    have hb := lfm_b (rwm m r) (k - 1).toNat
    rw [← hc] at hb
    have hk1 : (((k - 1).toNat : Int) + 1) = k := by omega
    refine AW.go 2 (pc' := 7) rfl ?_
    refine AW.bi (tgt := 32) (pn := 10) rfl (by decide) rfl (by first | exact bI_rng _ | exact ⟨by omega, by omega⟩) (by first | exact bI_rng _ | exact ⟨by omega, by omega⟩) (fun c7 => ?_) (fun c7 => ?_)
    · dsimp only [cmpI] at c7
      refine AW.go 1 (pc' := 33) rfl ?_
      refine AW.ret rfl rfl (Nat.le_refl _) (Nat.le_refl _) ?_
      refine ⟨congrArg some ?_, rfl⟩
      rw [hc, show (k - 1).toNat = 47 by omega]
    · dsimp only [cmpI] at c7
      refine AW.go 4 (pc' := 14) rfl ?_
      refine AW.callVF (pn := 17) rfl rfl mlX4_109 (by first | assumption | exact set_self (by assumption) | exact set_ne (by first | assumption | omega | decide) (by first | assumption | exact set_self (by assumption) | exact set_ne (by first | assumption | omega | decide) (by assumption))) (c_X4_compared (d - 1) (by omega) _ _ _ _ _ _ (by assumption) _ (by assumption) (by assumption) _ _ _ (by omega) (by omega) (by omega)) rfl rfl (Nat.le_of_ble_eq_true rfl) ⟨by show d - 1 + 1 ≤ d; omega, by show 40 * (d - 1 + 1) ≤ 40 * d; omega⟩ ⟨Nat.zero_le _, Nat.zero_le _⟩ ?_
      have g1 := cpF_b (rwm m r) k c
      refine AW.br (tgt := 24) (pn := 20) rfl (by decide) rfl (by first | exact bI_rng _ | exact ⟨by omega, by omega⟩) (fun c17 => ?_) (fun c17 => ?_)
      · dsimp only [cmpI] at c17
        refine AW.go 4 (pc' := 4) rfl ?_
        first | (refine AW.lw ?_ (ih (k + 1) (k) (by omega) (by omega) ?_ (by omega)); exact (And.intro rfl (And.intro rfl (And.intro rfl (And.intro rfl trivial)))); rw [show (k + 1 - 1).toNat = (k - 1).toNat + 1 by omega]; unfold lfm; rw [← hc, hk1]; (first | rw [if_pos (by omega)] | rw [if_neg (by omega)])) | (refine AW.lw ?_ (ih (k + 1) (c) (by omega) (by omega) ?_ (by omega)); exact (And.intro rfl (And.intro rfl (And.intro rfl (And.intro rfl trivial)))); rw [show (k + 1 - 1).toNat = (k - 1).toNat + 1 by omega]; unfold lfm; rw [← hc, hk1]; (first | rw [if_pos (by omega)] | rw [if_neg (by omega)]))
      · dsimp only [cmpI] at c17
        refine AW.go 5 (pc' := 4) rfl ?_
        first | (refine AW.lw ?_ (ih (k + 1) (k) (by omega) (by omega) ?_ (by omega)); exact (And.intro rfl (And.intro rfl (And.intro rfl (And.intro rfl trivial)))); rw [show (k + 1 - 1).toNat = (k - 1).toNat + 1 by omega]; unfold lfm; rw [← hc, hk1]; (first | rw [if_pos (by omega)] | rw [if_neg (by omega)])) | (refine AW.lw ?_ (ih (k + 1) (c) (by omega) (by omega) ?_ (by omega)); exact (And.intro rfl (And.intro rfl (And.intro rfl (And.intro rfl trivial)))); rw [show (k + 1 - 1).toNat = (k - 1).toNat + 1 by omega]; unfold lfm; rw [← hc, hk1]; (first | rw [if_pos (by omega)] | rw [if_neg (by omega)]))
set_option maxHeartbeats 2000000 in
theorem c_X4_canonForm (d : Nat) (hd : 4 ≤ d) (h : List AC) (pm rf gm ka wr : Int) (hO : h[29]? = some (ao 4 (mo pm rf gm ka wr))) (m : Nat → Int) (hM : h[30]? = some (ai 0 48 m)) (hm : mt m) (r : Int) (rr : 0 ≤ r ∧ r < 4) : MF zX4_canonForm d [vr 29, vi r] h (lfm (rwm m r) 47) h := by
  refine M0.of okX4_canonForm (Nat.le_of_ble_eq_true rfl) ?_
  refine AW.go 4 (pc' := 4) rfl ?_
  refine AW.lw ?_ (l_X4_canonForm d hd h pm rf gm ka wr hO m hM hm r rr _ 1 0 (by omega) (by omega) rfl (Nat.lt_succ_self _))
  exact (And.intro rfl (And.intro rfl (And.intro rfl (And.intro rfl trivial))))
set_option maxHeartbeats 4000000 in
theorem li_X4_sizeOf (d : Nat) (hd : 4 ≤ d) (h : List AC) (pm rf gm ka wr : Int) (hO : h[29]? = some (ao 4 (mo pm rf gm ka wr))) (m : Nat → Int) (hM : h[30]? = some (ai 0 48 m)) (hm : mt m) (r : Int) (rr : 0 ≤ r ∧ r < 4) (k c : Int) (hk : 0 ≤ k ∧ k < 48) (Q : Option Int → List AC → Prop) (K : AW zX4_sizeOf Eq (rmd d) 0 0 0 0 51 [(4, vi (bI (allN (fun G => decide (¬ cpF (rwm m r) k (G : Int) = 0)) k.toNat = true))), (3, vi k), (2, vi c), (0, vr 29), (1, vi r)] [] h Q) : ∀ (n : Nat) (g : Int) (b : Bool), (0 ≤ g) → (g ≤ k) → (b = allN (fun G => decide (¬ cpF (rwm m r) k (G : Int) = 0)) g.toNat) → ((k - g).toNat) < n → AW zX4_sizeOf Eq (rmd d) 0 0 0 0 16 [(5, vi g), (4, vi (bI (b = true))), (3, vi k), (2, vi c), (0, vr 29), (1, vi r)] [] h Q := by
  intro n
  induction n with
  | zero =>
    intro g b h0 h1 hb hn
    exact absurd hn (Nat.not_lt_zero _)
  | succ n ih =>
    intro g b h0 h1 hb hn
    refine AW.go 2 (pc' := 19) rfl ?_
    refine AW.bi (tgt := 51) (pn := 22) rfl (by decide) rfl (by first | exact bI_rng _ | exact ⟨by omega, by omega⟩) (by first | exact bI_rng _ | exact ⟨by omega, by omega⟩) (fun c19 => ?_) (fun c19 => ?_)
    · dsimp only [cmpI] at c19
      have e : g = k := by omega
      subst e
      rw [hb]
      refine AW.lw ?_ K
      exact (And.intro rfl (And.intro rfl (And.intro rfl (And.intro rfl (And.intro rfl trivial)))))
    · dsimp only [cmpI] at c19
      refine AW.go 1 (pc' := 24) rfl ?_
      refine AW.bz (tgt := 42) (pn := 27) rfl (by decide) rfl (fun c24 => ?_) (fun c24 => ?_)
      · refine AW.go 4 (pc' := 16) rfl ?_
        first | (refine AW.lw ?_ (ih (g + 1) (true) (by omega) (by omega) ?_ (by omega)); exact (And.intro rfl (And.intro rfl (And.intro rfl (And.intro rfl (And.intro rfl (And.intro rfl trivial)))))); rw [allN_s h0, ← hb, kk h0]; (first | (rw [eq_false_of_ne_true c24]; rfl) | (rw [c24, decide_eq_false (Decidable.not_not.mpr c35)]; rfl) | (rw [c24, decide_eq_true c35]; rfl))) | (refine AW.lw ?_ (ih (g + 1) (false) (by omega) (by omega) ?_ (by omega)); exact (And.intro rfl (And.intro rfl (And.intro rfl (And.intro rfl (And.intro rfl (And.intro rfl trivial)))))); rw [allN_s h0, ← hb, kk h0]; (first | (rw [eq_false_of_ne_true c24]; rfl) | (rw [c24, decide_eq_false (Decidable.not_not.mpr c35)]; rfl) | (rw [c24, decide_eq_true c35]; rfl)))
      · refine AW.go 4 (pc' := 32) rfl ?_
        refine AW.callVF (pn := 35) rfl rfl mlX4_109 (by first | assumption | exact set_self (by assumption) | exact set_ne (by first | assumption | omega | decide) (by first | assumption | exact set_self (by assumption) | exact set_ne (by first | assumption | omega | decide) (by assumption))) (c_X4_compared (d - 1) (by omega) _ _ _ _ _ _ (by assumption) _ (by assumption) (by assumption) _ _ _ (by omega) (by omega) (by omega)) rfl rfl (Nat.le_of_ble_eq_true rfl) ⟨by show d - 1 + 1 ≤ d; omega, by show 40 * (d - 1 + 1) ≤ 40 * d; omega⟩ ⟨Nat.zero_le _, Nat.zero_le _⟩ ?_
        have g1 := cpF_b (rwm m r) k g
        refine AW.br (tgt := 42) (pn := 38) rfl (by decide) rfl (by first | exact bI_rng _ | exact ⟨by omega, by omega⟩) (fun c35 => ?_) (fun c35 => ?_)
        · dsimp only [cmpI] at c35
          refine AW.go 4 (pc' := 16) rfl ?_
          first | (refine AW.lw ?_ (ih (g + 1) (true) (by omega) (by omega) ?_ (by omega)); exact (And.intro rfl (And.intro rfl (And.intro rfl (And.intro rfl (And.intro rfl (And.intro rfl trivial)))))); rw [allN_s h0, ← hb, kk h0]; (first | (rw [eq_false_of_ne_true c24]; rfl) | (rw [c24, decide_eq_false (Decidable.not_not.mpr c35)]; rfl) | (rw [c24, decide_eq_true c35]; rfl))) | (refine AW.lw ?_ (ih (g + 1) (false) (by omega) (by omega) ?_ (by omega)); exact (And.intro rfl (And.intro rfl (And.intro rfl (And.intro rfl (And.intro rfl (And.intro rfl trivial)))))); rw [allN_s h0, ← hb, kk h0]; (first | (rw [eq_false_of_ne_true c24]; rfl) | (rw [c24, decide_eq_false (Decidable.not_not.mpr c35)]; rfl) | (rw [c24, decide_eq_true c35]; rfl)))
        · dsimp only [cmpI] at c35
          refine AW.go 5 (pc' := 16) rfl ?_
          first | (refine AW.lw ?_ (ih (g + 1) (true) (by omega) (by omega) ?_ (by omega)); exact (And.intro rfl (And.intro rfl (And.intro rfl (And.intro rfl (And.intro rfl (And.intro rfl trivial)))))); rw [allN_s h0, ← hb, kk h0]; (first | (rw [eq_false_of_ne_true c24]; rfl) | (rw [c24, decide_eq_false (Decidable.not_not.mpr c35)]; rfl) | (rw [c24, decide_eq_true c35]; rfl))) | (refine AW.lw ?_ (ih (g + 1) (false) (by omega) (by omega) ?_ (by omega)); exact (And.intro rfl (And.intro rfl (And.intro rfl (And.intro rfl (And.intro rfl (And.intro rfl trivial)))))); rw [allN_s h0, ← hb, kk h0]; (first | (rw [eq_false_of_ne_true c24]; rfl) | (rw [c24, decide_eq_false (Decidable.not_not.mpr c35)]; rfl) | (rw [c24, decide_eq_true c35]; rfl)))
set_option maxHeartbeats 4000000 in
theorem l_X4_sizeOf (d : Nat) (hd : 4 ≤ d) (h : List AC) (pm rf gm ka wr : Int) (hO : h[29]? = some (ao 4 (mo pm rf gm ka wr))) (m : Nat → Int) (hM : h[30]? = some (ai 0 48 m)) (hm : mt m) (r : Int) (rr : 0 ≤ r ∧ r < 4) : ∀ (n : Nat) (k : Int) (c : Int), (0 ≤ k) → (k ≤ 48) → (c = (frs (rwm m r) k.toNat : Int)) → ((48 - k).toNat) < n → AW zX4_sizeOf Eq (rmd d) 0 0 0 0 4 [(3, vi k), (2, vi c), (0, vr 29), (1, vi r)] [] h (RQ (frs (rwm m r) 48 : Int) h) := by
  intro n
  induction n with
  | zero =>
    intro k c h0 h1 hc hn
    exact absurd hn (Nat.not_lt_zero _)
  | succ n ih =>
    intro k c h0 h1 hc hn
    refine AW.go 2 (pc' := 7) rfl ?_
    refine AW.bi (tgt := 70) (pn := 10) rfl (by decide) rfl (by first | exact bI_rng _ | exact ⟨by omega, by omega⟩) (by first | exact bI_rng _ | exact ⟨by omega, by omega⟩) (fun c7 => ?_) (fun c7 => ?_)
    · dsimp only [cmpI] at c7
      refine AW.go 1 (pc' := 71) rfl ?_
      refine AW.ret rfl rfl (Nat.le_refl _) (Nat.le_refl _) ?_
      refine ⟨congrArg some ?_, rfl⟩
      rw [hc, show k.toNat = 48 by omega]
    · dsimp only [cmpI] at c7
      refine AW.go 4 (pc' := 16) rfl ?_
      refine AW.lw ?_ (li_X4_sizeOf d hd h pm rf gm ka wr hO m hM hm r rr k c ⟨h0, by omega⟩ _ ?_ _ 0 true (by omega) (by omega) rfl (Nat.lt_succ_self _))
      · exact (And.intro rfl (And.intro rfl (And.intro rfl (And.intro rfl (And.intro rfl (And.intro rfl trivial))))))
      · refine AW.go 2 (pc' := 54) rfl ?_
        refine AW.bz (tgt := 61) (pn := 57) rfl (by decide) rfl (fun c54 => ?_) (fun c54 => ?_)
        · refine AW.go 5 (pc' := 4) rfl ?_
          first | (refine AW.lw ?_ (ih (k + 1) (c + 1) (by omega) (by omega) ?_ (by omega)); exact (And.intro rfl (And.intro rfl (And.intro rfl (And.intro rfl trivial)))); unfold frs; rw [cntN_s h0, kk h0]; (first | rw [if_pos c54] | rw [if_neg c54]); rw [hc]; rfl) | (refine AW.lw ?_ (ih (k + 1) (c + 0) (by omega) (by omega) ?_ (by omega)); exact (And.intro rfl (And.intro rfl (And.intro rfl (And.intro rfl trivial)))); unfold frs; rw [cntN_s h0, kk h0]; (first | rw [if_pos c54] | rw [if_neg c54]); rw [hc]; rfl)
        · refine AW.go 6 (pc' := 4) rfl ?_
          first | (refine AW.lw ?_ (ih (k + 1) (c + 1) (by omega) (by omega) ?_ (by omega)); exact (And.intro rfl (And.intro rfl (And.intro rfl (And.intro rfl trivial)))); unfold frs; rw [cntN_s h0, kk h0]; (first | rw [if_pos c54] | rw [if_neg c54]); rw [hc]; rfl) | (refine AW.lw ?_ (ih (k + 1) (c + 0) (by omega) (by omega) ?_ (by omega)); exact (And.intro rfl (And.intro rfl (And.intro rfl (And.intro rfl trivial)))); unfold frs; rw [cntN_s h0, kk h0]; (first | rw [if_pos c54] | rw [if_neg c54]); rw [hc]; rfl)
set_option maxHeartbeats 2000000 in
theorem c_X4_sizeOf (d : Nat) (hd : 4 ≤ d) (h : List AC) (pm rf gm ka wr : Int) (hO : h[29]? = some (ao 4 (mo pm rf gm ka wr))) (m : Nat → Int) (hM : h[30]? = some (ai 0 48 m)) (hm : mt m) (r : Int) (rr : 0 ≤ r ∧ r < 4) : MF zX4_sizeOf d [vr 29, vi r] h (frs (rwm m r) 48 : Int) h := by
  refine M0.of okX4_sizeOf (Nat.le_of_ble_eq_true rfl) ?_
  refine AW.go 4 (pc' := 4) rfl ?_
  refine AW.lw ?_ (l_X4_sizeOf d hd h pm rf gm ka wr hO m hM hm r rr _ 0 0 (by omega) (by omega) rfl (Nat.lt_succ_self _))
  exact (And.intro rfl (And.intro rfl (And.intro rfl (And.intro rfl trivial))))
set_option maxHeartbeats 4000000 in
theorem l_X4_isLeading (d : Nat) (hd : 3 ≤ d) (h : List AC) (pm rf gm ka wr : Int) (hO : h[29]? = some (ao 4 (mo pm rf gm ka wr))) (m : Nat → Int) (hM : h[30]? = some (ai 0 48 m)) (hm : mt m) (r F o : Int) (rr : 0 ≤ r ∧ r < 4) (rF : 0 ≤ F ∧ F < 48) (ro : 0 ≤ o ∧ o < 4) : ∀ (n : Nat) (k : Int) (b : Bool), (0 ≤ k) → (k ≤ 12) → (b = allN (fun j => decide (ft (rwm m r) 12 F (j : Int) = rwm m o (0 + (j : Int)).toNat)) k.toNat) → ((12 - k).toNat) < n → AW zX4_isLeading Eq (rmd d) 0 0 0 0 6 [(5, vi k), (4, vi (bI (b = true))), (0, vr 29), (1, vi r), (2, vi F), (3, vi o)] [] h (RQ (bI (isf (rwm m r) 12 F (rwm m o) 0 = true)) h) := by
  intro n
  induction n with
  | zero =>
    intro k b h0 h1 hb hn
    exact absurd hn (Nat.not_lt_zero _)
  | succ n ih =>
    intro k b h0 h1 hb hn
    refine AW.go 2 (pc' := 10) rfl ?_
    refine AW.bi (tgt := 49) (pn := 13) rfl (by decide) rfl (by first | exact bI_rng _ | exact ⟨by omega, by omega⟩) (by first | exact bI_rng _ | exact ⟨by omega, by omega⟩) (fun c10 => ?_) (fun c10 => ?_)
    · dsimp only [cmpI] at c10
      refine AW.go 1 (pc' := 51) rfl ?_
      refine AW.retz rfl rfl (by first | exact bI_01 _ | decide) (Nat.le_refl _) (Nat.le_refl _) ?_
      refine ⟨congrArg some ?_, rfl⟩
      rw [hb, show k.toNat = 12 by omega]
      rfl
    · dsimp only [cmpI] at c10
      refine AW.go 1 (pc' := 15) rfl ?_
      refine AW.bz (tgt := 40) (pn := 18) rfl (by decide) rfl (fun c15 => ?_) (fun c15 => ?_)
      · refine AW.go 4 (pc' := 6) rfl ?_
        first | (refine AW.lw ?_ (ih (k + 1) (true) (by omega) (by omega) ?_ (by omega)); exact (And.intro rfl (And.intro rfl (And.intro rfl (And.intro rfl (And.intro rfl (And.intro rfl trivial)))))); rw [allN_s h0, ← hb, kk h0, Int.zero_add]; (first | (rw [eq_false_of_ne_true c15]; rfl) | (rw [c15, decide_eq_false c33]; rfl) | (rw [c15, decide_eq_true (Decidable.not_not.mp c33)]; rfl))) | (refine AW.lw ?_ (ih (k + 1) (false) (by omega) (by omega) ?_ (by omega)); exact (And.intro rfl (And.intro rfl (And.intro rfl (And.intro rfl (And.intro rfl (And.intro rfl trivial)))))); rw [allN_s h0, ← hb, kk h0, Int.zero_add]; (first | (rw [eq_false_of_ne_true c15]; rfl) | (rw [c15, decide_eq_false c33]; rfl) | (rw [c15, decide_eq_true (Decidable.not_not.mp c33)]; rfl)))
      · refine AW.go 4 (pc' := 23) rfl ?_
        refine AW.callVF (pn := 26) rfl rfl mlX4_105 (by first | assumption | exact set_self (by assumption) | exact set_ne (by first | assumption | omega | decide) (by first | assumption | exact set_self (by assumption) | exact set_ne (by first | assumption | omega | decide) (by assumption))) (c_X4_formAt (d - 1) (by omega) _ _ _ _ _ _ (by assumption) _ (by assumption) (by assumption) _ _ _ (by omega) (by omega) (by omega)) rfl rfl (Nat.le_of_ble_eq_true rfl) ⟨by show d - 1 + 1 ≤ d; omega, by show 40 * (d - 1 + 1) ≤ 40 * d; omega⟩ ⟨Nat.zero_le _, Nat.zero_le _⟩ ?_
        refine AW.go 3 (pc' := 30) rfl ?_
        refine AW.callVF (pn := 33) rfl rfl mlX4_89 (by first | assumption | exact set_self (by assumption) | exact set_ne (by first | assumption | omega | decide) (by first | assumption | exact set_self (by assumption) | exact set_ne (by first | assumption | omega | decide) (by assumption))) (c_X4_toneAt (d - 1) (by omega) _ _ _ _ _ _ (by assumption) _ (by assumption) (by assumption) _ _ (by omega) (by omega)) rfl rfl (Nat.le_of_ble_eq_true rfl) ⟨by show d - 1 + 1 ≤ d; omega, by show 40 * (d - 1 + 1) ≤ 40 * d; omega⟩ ⟨Nat.zero_le _, Nat.zero_le _⟩ ?_
        have g1 := ft_b (rwm m r) 12 F k
        have g2 := rwm_tn hm ro k.toNat (by omega)
        refine AW.bi (tgt := 40) (pn := 36) rfl (by decide) rfl (by first | exact bI_rng _ | exact ⟨by omega, by omega⟩) (by first | exact bI_rng _ | exact ⟨by omega, by omega⟩) (fun c33 => ?_) (fun c33 => ?_)
        · dsimp only [cmpI] at c33
          refine AW.go 4 (pc' := 6) rfl ?_
          first | (refine AW.lw ?_ (ih (k + 1) (true) (by omega) (by omega) ?_ (by omega)); exact (And.intro rfl (And.intro rfl (And.intro rfl (And.intro rfl (And.intro rfl (And.intro rfl trivial)))))); rw [allN_s h0, ← hb, kk h0, Int.zero_add]; (first | (rw [eq_false_of_ne_true c15]; rfl) | (rw [c15, decide_eq_false c33]; rfl) | (rw [c15, decide_eq_true (Decidable.not_not.mp c33)]; rfl))) | (refine AW.lw ?_ (ih (k + 1) (false) (by omega) (by omega) ?_ (by omega)); exact (And.intro rfl (And.intro rfl (And.intro rfl (And.intro rfl (And.intro rfl (And.intro rfl trivial)))))); rw [allN_s h0, ← hb, kk h0, Int.zero_add]; (first | (rw [eq_false_of_ne_true c15]; rfl) | (rw [c15, decide_eq_false c33]; rfl) | (rw [c15, decide_eq_true (Decidable.not_not.mp c33)]; rfl)))
        · dsimp only [cmpI] at c33
          refine AW.go 5 (pc' := 6) rfl ?_
          first | (refine AW.lw ?_ (ih (k + 1) (true) (by omega) (by omega) ?_ (by omega)); exact (And.intro rfl (And.intro rfl (And.intro rfl (And.intro rfl (And.intro rfl (And.intro rfl trivial)))))); rw [allN_s h0, ← hb, kk h0, Int.zero_add]; (first | (rw [eq_false_of_ne_true c15]; rfl) | (rw [c15, decide_eq_false c33]; rfl) | (rw [c15, decide_eq_true (Decidable.not_not.mp c33)]; rfl))) | (refine AW.lw ?_ (ih (k + 1) (false) (by omega) (by omega) ?_ (by omega)); exact (And.intro rfl (And.intro rfl (And.intro rfl (And.intro rfl (And.intro rfl (And.intro rfl trivial)))))); rw [allN_s h0, ← hb, kk h0, Int.zero_add]; (first | (rw [eq_false_of_ne_true c15]; rfl) | (rw [c15, decide_eq_false c33]; rfl) | (rw [c15, decide_eq_true (Decidable.not_not.mp c33)]; rfl)))
set_option maxHeartbeats 2000000 in
theorem c_X4_isLeading (d : Nat) (hd : 3 ≤ d) (h : List AC) (pm rf gm ka wr : Int) (hO : h[29]? = some (ao 4 (mo pm rf gm ka wr))) (m : Nat → Int) (hM : h[30]? = some (ai 0 48 m)) (hm : mt m) (r F o : Int) (rr : 0 ≤ r ∧ r < 4) (rF : 0 ≤ F ∧ F < 48) (ro : 0 ≤ o ∧ o < 4) : MF zX4_isLeading d [vr 29, vi r, vi F, vi o] h (bI (isf (rwm m r) 12 F (rwm m o) 0 = true)) h := by
  refine M0.of okX4_isLeading (Nat.le_of_ble_eq_true rfl) ?_
  refine AW.go 4 (pc' := 6) rfl ?_
  refine AW.lw ?_ (l_X4_isLeading d hd h pm rf gm ka wr hO m hM hm r F o rr rF ro _ 0 true (by omega) (by omega) rfl (Nat.lt_succ_self _))
  exact (And.intro rfl (And.intro rfl (And.intro rfl (And.intro rfl (And.intro rfl (And.intro rfl trivial))))))
set_option maxHeartbeats 2000000 in
theorem c_X4_stepAt (d : Nat) (hd : 1 ≤ d) (h : List AC) (pm rf gm ka wr : Int) (hO : h[29]? = some (ao 4 (mo pm rf gm ka wr))) (m : Nat → Int) (hM : h[30]? = some (ai 0 48 m)) (hm : mt m) (r i : Int) (rr : 0 ≤ r ∧ r < 4) (ri : 0 ≤ i ∧ i < 11) : MF zX4_stepAt d [vr 29, vi r, vi i] h (stp (rwm m r) i) h := by
  refine M0.of okX4_stepAt (Nat.le_of_ble_eq_true rfl) ?_
  refine AW.go 5 (pc' := 5) rfl ?_
  refine AW.callVF (pn := 8) rfl rfl mlX4_89 (by first | assumption | exact set_self (by assumption) | exact set_ne (by first | assumption | omega | decide) (by first | assumption | exact set_self (by assumption) | exact set_ne (by first | assumption | omega | decide) (by assumption))) (c_X4_toneAt (d - 1) (by omega) _ _ _ _ _ _ (by assumption) _ (by assumption) (by assumption) _ _ (by omega) (by omega)) rfl rfl (Nat.le_of_ble_eq_true rfl) ⟨by show d - 1 + 1 ≤ d; omega, by show 40 * (d - 1 + 1) ≤ 40 * d; omega⟩ ⟨Nat.zero_le _, Nat.zero_le _⟩ ?_
  refine AW.go 3 (pc' := 11) rfl ?_
  refine AW.callVF (pn := 14) rfl rfl mlX4_89 (by first | assumption | exact set_self (by assumption) | exact set_ne (by first | assumption | omega | decide) (by first | assumption | exact set_self (by assumption) | exact set_ne (by first | assumption | omega | decide) (by assumption))) (c_X4_toneAt (d - 1) (by omega) _ _ _ _ _ _ (by assumption) _ (by assumption) (by assumption) _ _ (by omega) (by omega)) rfl rfl (Nat.le_of_ble_eq_true rfl) ⟨by show d - 1 + 1 ≤ d; omega, by show 40 * (d - 1 + 1) ≤ 40 * d; omega⟩ ⟨Nat.zero_le _, Nat.zero_le _⟩ ?_
  refine AW.go 4 (pc' := 20) rfl ?_
  have g1 := rwm_tn hm rr (i + 1).toNat (by omega)
  have g2 := rwm_tn hm rr i.toNat (by omega)
  refine AW.irem (pn := 21) rfl rfl (by omega) (by omega) (by omega) (by omega) ?_
  refine AW.ret rfl rfl (Nat.le_refl _) (Nat.le_refl _) ?_
  refine ⟨congrArg some ?_, rfl⟩
  unfold stp
  omega
set_option maxHeartbeats 4000000 in
theorem l_X4_unlikeSteps (d : Nat) (hd : 2 ≤ d) (h : List AC) (pm rf gm ka wr : Int) (hO : h[29]? = some (ao 4 (mo pm rf gm ka wr))) (m : Nat → Int) (hM : h[30]? = some (ai 0 48 m)) (hm : mt m) (r : Int) (rr : 0 ≤ r ∧ r < 4) : ∀ (n : Nat) (k : Int) (c : Int) (x : Nat), (0 ≤ k) → (k ≤ 11) → (c = (ust (rwm m r) k.toNat : Int)) → (x = sbt (rwm m r) k.toNat) → ((11 - k).toNat) < n → AW zX4_unlikeSteps Eq (rmd d) 0 0 0 0 7 [(4, vi k), (3, vi c), (2, vi (x : Int)), (0, vr 29), (1, vi r)] [] h (RQ (ust (rwm m r) 11 : Int) h) := by
  intro n
  induction n with
  | zero =>
    intro k c x h0 h1 hc hx hn
    exact absurd hn (Nat.not_lt_zero _)
  | succ n ih =>
    intro k c x h0 h1 hc hx hn
    refine AW.go 2 (pc' := 11) rfl ?_
    refine AW.bi (tgt := 53) (pn := 14) rfl (by decide) rfl (by first | exact bI_rng _ | exact ⟨by omega, by omega⟩) (by first | exact bI_rng _ | exact ⟨by omega, by omega⟩) (fun c11 => ?_) (fun c11 => ?_)
    · dsimp only [cmpI] at c11
      refine AW.go 1 (pc' := 54) rfl ?_
      refine AW.ret rfl rfl (Nat.le_refl _) (Nat.le_refl _) ?_
      refine ⟨congrArg some ?_, rfl⟩
      rw [hc, show k.toNat = 11 by omega]
    · dsimp only [cmpI] at c11
      refine AW.go 3 (pc' := 18) rfl ?_
      refine AW.callVF (pn := 21) rfl rfl mlX4_124 (by first | assumption | exact set_self (by assumption) | exact set_ne (by first | assumption | omega | decide) (by first | assumption | exact set_self (by assumption) | exact set_ne (by first | assumption | omega | decide) (by assumption))) (c_X4_stepAt (d - 1) (by omega) _ _ _ _ _ _ (by assumption) _ (by assumption) (by assumption) _ _ (by omega) (by omega)) rfl rfl (Nat.le_of_ble_eq_true rfl) ⟨by show d - 1 + 1 ≤ d; omega, by show 40 * (d - 1 + 1) ≤ 40 * d; omega⟩ ⟨Nat.zero_le _, Nat.zero_le _⟩ ?_
      refine AW.go 4 (pc' := 27) rfl ?_
      have g1 : 0 ≤ stp (rwm m r) k ∧ stp (rwm m r) k < 12 := by unfold stp; omega
      have g2 := sbt_lt (rwm m r) k.toNat
      rw [← hx] at g2
      have g3 := @shr_nn x (stp (rwm m r) k)
      refine AW.ishr (pn := 28) rfl rfl (by first | exact bI_rng _ | exact ⟨by omega, by omega⟩) (by omega) (by omega) ?_
      refine AW.go 1 (pc' := 29) rfl ?_
      refine AW.iand (pn := 30) rfl rfl (by omega) (by omega) ?_
      rw [shr_bit g1.1]
      have hbb : (if x.testBit (stp (rwm m r) k).toNat = true then (1 : Int) else 0) = bI (x.testBit (stp (rwm m r) k).toNat = true) := rfl
      rw [hbb]
      refine AW.bnz (tgt := 37) (pn := 33) rfl (by decide) rfl (fun c30 => ?_) (fun c30 => ?_)
      · refine AW.go 6 (pc' := 44) rfl ?_
        refine AW.shl1 (pn := 45) rfl rfl (by omega) (by omega) ?_
        refine AW.orN (pn := 46) rfl rfl ?_
        refine AW.go 3 (pc' := 7) rfl ?_
        first | (refine AW.lw ?_ (ih (k + 1) (c + 1) (x ||| 2 ^ (stp (rwm m r) k).toNat) (by omega) (by omega) ?_ ?_ (by omega)); exact (And.intro rfl (And.intro rfl (And.intro rfl (And.intro rfl (And.intro rfl trivial))))); (rw [k1 h0]; unfold ust; rw [kk h0, ← hx, hc]; (first | (rw [if_pos c30]; rfl) | (rw [if_neg c30]; rfl))); (rw [k1 h0]; unfold sbt; rw [kk h0, ← hx])) | (refine AW.lw ?_ (ih (k + 1) (c + 0) (x ||| 2 ^ (stp (rwm m r) k).toNat) (by omega) (by omega) ?_ ?_ (by omega)); exact (And.intro rfl (And.intro rfl (And.intro rfl (And.intro rfl (And.intro rfl trivial))))); (rw [k1 h0]; unfold ust; rw [kk h0, ← hx, hc]; (first | (rw [if_pos c30]; rfl) | (rw [if_neg c30]; rfl))); (rw [k1 h0]; unfold sbt; rw [kk h0, ← hx]))
      · refine AW.go 7 (pc' := 44) rfl ?_
        refine AW.shl1 (pn := 45) rfl rfl (by omega) (by omega) ?_
        refine AW.orN (pn := 46) rfl rfl ?_
        refine AW.go 3 (pc' := 7) rfl ?_
        first | (refine AW.lw ?_ (ih (k + 1) (c + 1) (x ||| 2 ^ (stp (rwm m r) k).toNat) (by omega) (by omega) ?_ ?_ (by omega)); exact (And.intro rfl (And.intro rfl (And.intro rfl (And.intro rfl (And.intro rfl trivial))))); (rw [k1 h0]; unfold ust; rw [kk h0, ← hx, hc]; (first | (rw [if_pos c30]; rfl) | (rw [if_neg c30]; rfl))); (rw [k1 h0]; unfold sbt; rw [kk h0, ← hx])) | (refine AW.lw ?_ (ih (k + 1) (c + 0) (x ||| 2 ^ (stp (rwm m r) k).toNat) (by omega) (by omega) ?_ ?_ (by omega)); exact (And.intro rfl (And.intro rfl (And.intro rfl (And.intro rfl (And.intro rfl trivial))))); (rw [k1 h0]; unfold ust; rw [kk h0, ← hx, hc]; (first | (rw [if_pos c30]; rfl) | (rw [if_neg c30]; rfl))); (rw [k1 h0]; unfold sbt; rw [kk h0, ← hx]))
set_option maxHeartbeats 2000000 in
theorem c_X4_unlikeSteps (d : Nat) (hd : 2 ≤ d) (h : List AC) (pm rf gm ka wr : Int) (hO : h[29]? = some (ao 4 (mo pm rf gm ka wr))) (m : Nat → Int) (hM : h[30]? = some (ai 0 48 m)) (hm : mt m) (r : Int) (rr : 0 ≤ r ∧ r < 4) : MF zX4_unlikeSteps d [vr 29, vi r] h (ust (rwm m r) 11 : Int) h := by
  refine M0.of okX4_unlikeSteps (Nat.le_of_ble_eq_true rfl) ?_
  refine AW.go 6 (pc' := 7) rfl ?_
  refine AW.lw ?_ (l_X4_unlikeSteps d hd h pm rf gm ka wr hO m hM hm r rr _ 0 0 0 (by omega) (by omega) rfl rfl (Nat.lt_succ_self _))
  exact (And.intro rfl (And.intro rfl (And.intro rfl (And.intro rfl (And.intro rfl trivial)))))
set_option maxHeartbeats 4000000 in
theorem l_X4_setAt (d : Nat) (hd : 3 ≤ d) (h : List AC) (pm rf gm ka wr : Int) (hO : h[29]? = some (ao 4 (mo pm rf gm ka wr))) (m : Nat → Int) (hM : h[30]? = some (ai 0 48 m)) (hm : mt m) (r F S N : Int) (rr : 0 ≤ r ∧ r < 4) (rF : 0 ≤ F ∧ F < 48) (rS : 0 ≤ S ∧ 0 ≤ N ∧ S + N ≤ 12) : ∀ (n : Nat) (k : Int) (x : Nat), (S ≤ k) → (k ≤ S + N) → (x = fst12 (rwm m r) F S (k - S).toNat) → ((S + N - k).toNat) < n → AW zX4_setAt Eq (rmd d) 0 0 0 0 6 [(6, vi k), (5, vi (x : Int)), (0, vr 29), (1, vi r), (2, vi F), (3, vi S), (4, vi N)] [] h (RQ (fst12 (rwm m r) F S N.toNat : Int) h) := by
  intro n
  induction n with
  | zero =>
    intro k x h0 h1 hc hn
    exact absurd hn (Nat.not_lt_zero _)
  | succ n ih =>
    intro k x h0 h1 hc hn
    refine AW.go 4 (pc' := 12) rfl ?_
    refine AW.bi (tgt := 36) (pn := 15) rfl (by decide) rfl (by first | exact bI_rng _ | exact ⟨by omega, by omega⟩) (by first | exact bI_rng _ | exact ⟨by omega, by omega⟩) (fun c12 => ?_) (fun c12 => ?_)
    · dsimp only [cmpI] at c12
      refine AW.go 1 (pc' := 38) rfl ?_
      refine AW.ret rfl rfl (Nat.le_refl _) (Nat.le_refl _) ?_
      have e : (k - S).toNat = N.toNat := by omega
      rw [e] at hc
      subst hc
      exact ⟨rfl, rfl⟩
    · dsimp only [cmpI] at c12
      refine AW.go 6 (pc' := 23) rfl ?_
      refine AW.callVF (pn := 26) rfl rfl mlX4_105 (by first | assumption | exact set_self (by assumption) | exact set_ne (by first | assumption | omega | decide) (by first | assumption | exact set_self (by assumption) | exact set_ne (by first | assumption | omega | decide) (by assumption))) (c_X4_formAt (d - 1) (by omega) _ _ _ _ _ _ (by assumption) _ (by assumption) (by assumption) _ _ _ (by omega) (by omega) (by omega)) rfl rfl (Nat.le_of_ble_eq_true rfl) ⟨by show d - 1 + 1 ≤ d; omega, by show 40 * (d - 1 + 1) ≤ 40 * d; omega⟩ ⟨Nat.zero_le _, Nat.zero_le _⟩ ?_
      have g1 := ft_b (rwm m r) 12 F k
      refine AW.shl1 (pn := 27) rfl rfl (by omega) (by omega) ?_
      refine AW.orN (pn := 28) rfl rfl ?_
      refine AW.go 3 (pc' := 6) rfl ?_
      first | (refine AW.lw ?_ (ih (k + 1) (x ||| 2 ^ (ft (rwm m r) 12 F k).toNat) (by omega) (by omega) ?_ (by omega)); exact (And.intro rfl (And.intro rfl (And.intro rfl (And.intro rfl (And.intro rfl (And.intro rfl (And.intro rfl trivial))))))); rw [show (k + 1 - S).toNat = (k - S).toNat + 1 by omega]; unfold fst12; rw [← hc, show S + ((k - S).toNat : Int) = k by omega])
set_option maxHeartbeats 2000000 in
theorem c_X4_setAt (d : Nat) (hd : 3 ≤ d) (h : List AC) (pm rf gm ka wr : Int) (hO : h[29]? = some (ao 4 (mo pm rf gm ka wr))) (m : Nat → Int) (hM : h[30]? = some (ai 0 48 m)) (hm : mt m) (r F S N : Int) (rr : 0 ≤ r ∧ r < 4) (rF : 0 ≤ F ∧ F < 48) (rS : 0 ≤ S ∧ 0 ≤ N ∧ S + N ≤ 12) : MF zX4_setAt d [vr 29, vi r, vi F, vi S, vi N] h (fst12 (rwm m r) F S N.toNat : Int) h := by
  refine M0.of okX4_setAt (Nat.le_of_ble_eq_true rfl) ?_
  refine AW.go 4 (pc' := 6) rfl ?_
  refine AW.lw ?_ (l_X4_setAt d hd h pm rf gm ka wr hO m hM hm r F S N rr rF rS _ S 0 (by omega) (by omega) (by rw [Int.sub_self]; rfl) (Nat.lt_succ_self _))
  exact (And.intro rfl (And.intro rfl (And.intro rfl (And.intro rfl (And.intro rfl (And.intro rfl (And.intro rfl trivial)))))))
set_option maxHeartbeats 4000000 in
theorem li_X4_isGroup (d : Nat) (hd : 3 ≤ d) (h : List AC) (pm rf gm ka wr : Int) (hO : h[29]? = some (ao 4 (mo pm rf gm ka wr))) (m : Nat → Int) (hM : h[30]? = some (ai 0 48 m)) (hm : mt m) (r N S : Int) (rr : 0 ≤ r ∧ r < 4) (rN : 0 ≤ N ∧ N ≤ 12) (rS : 0 ≤ S ∧ S + N ≤ 12) (k : Int) (a : Bool) (hk : 0 ≤ k ∧ k < 48) (Q : Option Int → List AC → Prop) (K : AW zX4_isGroup Eq (rmd d) 0 0 0 0 65 [(6, vi (bI (isf (rwm m r) N k (rwm m r) S = true))), (5, vi k), (4, vi (bI (a = true))), (0, vr 29), (1, vi r), (2, vi N), (3, vi S)] [] h Q) : ∀ (n : Nat) (g : Int) (b : Bool), (0 ≤ g) → (g ≤ N) → (b = allN (fun j => decide (ft (rwm m r) N k (j : Int) = rwm m r (S + (j : Int)).toNat)) g.toNat) → ((N - g).toNat) < n → AW zX4_isGroup Eq (rmd d) 0 0 0 0 19 [(7, vi g), (6, vi (bI (b = true))), (5, vi k), (4, vi (bI (a = true))), (0, vr 29), (1, vi r), (2, vi N), (3, vi S)] [] h Q := by
  intro n
  induction n with
  | zero =>
    intro g b h0 h1 hb hn
    exact absurd hn (Nat.not_lt_zero _)
  | succ n ih =>
    intro g b h0 h1 hb hn
    refine AW.go 2 (pc' := 22) rfl ?_
    refine AW.bi (tgt := 65) (pn := 25) rfl (by decide) rfl (by first | exact bI_rng _ | exact ⟨by omega, by omega⟩) (by first | exact bI_rng _ | exact ⟨by omega, by omega⟩) (fun c22 => ?_) (fun c22 => ?_)
    · dsimp only [cmpI] at c22
      have e : g = N := by omega
      subst e
      rw [hb]
      refine AW.lw ?_ K
      exact (And.intro rfl (And.intro rfl (And.intro rfl (And.intro rfl (And.intro rfl (And.intro rfl (And.intro rfl trivial)))))))
    · dsimp only [cmpI] at c22
      refine AW.go 1 (pc' := 27) rfl ?_
      refine AW.bz (tgt := 56) (pn := 30) rfl (by decide) rfl (fun c27 => ?_) (fun c27 => ?_)
      · refine AW.go 4 (pc' := 19) rfl ?_
        first | (refine AW.lw ?_ (ih (g + 1) (true) (by omega) (by omega) ?_ (by omega)); exact (And.intro rfl (And.intro rfl (And.intro rfl (And.intro rfl (And.intro rfl (And.intro rfl (And.intro rfl (And.intro rfl trivial)))))))); rw [allN_s h0, ← hb, kk h0]; (first | (rw [eq_false_of_ne_true c27]; rfl) | (rw [c27, decide_eq_false c49]; rfl) | (rw [c27, decide_eq_true (Decidable.not_not.mp c49)]; rfl))) | (refine AW.lw ?_ (ih (g + 1) (false) (by omega) (by omega) ?_ (by omega)); exact (And.intro rfl (And.intro rfl (And.intro rfl (And.intro rfl (And.intro rfl (And.intro rfl (And.intro rfl (And.intro rfl trivial)))))))); rw [allN_s h0, ← hb, kk h0]; (first | (rw [eq_false_of_ne_true c27]; rfl) | (rw [c27, decide_eq_false c49]; rfl) | (rw [c27, decide_eq_true (Decidable.not_not.mp c49)]; rfl)))
      · refine AW.go 5 (pc' := 37) rfl ?_
        refine AW.callVF (pn := 40) rfl rfl mlX4_138 (by first | assumption | exact set_self (by assumption) | exact set_ne (by first | assumption | omega | decide) (by first | assumption | exact set_self (by assumption) | exact set_ne (by first | assumption | omega | decide) (by assumption))) (c_X4_groupAt (d - 1) (by omega) _ _ _ _ _ _ (by assumption) _ (by assumption) (by assumption) _ _ _ _ (by omega) (by omega) (by omega) (by omega)) rfl rfl (Nat.le_of_ble_eq_true rfl) ⟨by show d - 1 + 1 ≤ d; omega, by show 40 * (d - 1 + 1) ≤ 40 * d; omega⟩ ⟨Nat.zero_le _, Nat.zero_le _⟩ ?_
        refine AW.go 5 (pc' := 46) rfl ?_
        refine AW.callVF (pn := 49) rfl rfl mlX4_89 (by first | assumption | exact set_self (by assumption) | exact set_ne (by first | assumption | omega | decide) (by first | assumption | exact set_self (by assumption) | exact set_ne (by first | assumption | omega | decide) (by assumption))) (c_X4_toneAt (d - 1) (by omega) _ _ _ _ _ _ (by assumption) _ (by assumption) (by assumption) _ _ (by omega) (by omega)) rfl rfl (Nat.le_of_ble_eq_true rfl) ⟨by show d - 1 + 1 ≤ d; omega, by show 40 * (d - 1 + 1) ≤ 40 * d; omega⟩ ⟨Nat.zero_le _, Nat.zero_le _⟩ ?_
        have g1 := ft_b (rwm m r) N k g
        have g2 := rwm_tn hm rr (S + g).toNat (by omega)
        refine AW.bi (tgt := 56) (pn := 52) rfl (by decide) rfl (by first | exact bI_rng _ | exact ⟨by omega, by omega⟩) (by first | exact bI_rng _ | exact ⟨by omega, by omega⟩) (fun c49 => ?_) (fun c49 => ?_)
        · dsimp only [cmpI] at c49
          refine AW.go 4 (pc' := 19) rfl ?_
          first | (refine AW.lw ?_ (ih (g + 1) (true) (by omega) (by omega) ?_ (by omega)); exact (And.intro rfl (And.intro rfl (And.intro rfl (And.intro rfl (And.intro rfl (And.intro rfl (And.intro rfl (And.intro rfl trivial)))))))); rw [allN_s h0, ← hb, kk h0]; (first | (rw [eq_false_of_ne_true c27]; rfl) | (rw [c27, decide_eq_false c49]; rfl) | (rw [c27, decide_eq_true (Decidable.not_not.mp c49)]; rfl))) | (refine AW.lw ?_ (ih (g + 1) (false) (by omega) (by omega) ?_ (by omega)); exact (And.intro rfl (And.intro rfl (And.intro rfl (And.intro rfl (And.intro rfl (And.intro rfl (And.intro rfl (And.intro rfl trivial)))))))); rw [allN_s h0, ← hb, kk h0]; (first | (rw [eq_false_of_ne_true c27]; rfl) | (rw [c27, decide_eq_false c49]; rfl) | (rw [c27, decide_eq_true (Decidable.not_not.mp c49)]; rfl)))
        · dsimp only [cmpI] at c49
          refine AW.go 5 (pc' := 19) rfl ?_
          first | (refine AW.lw ?_ (ih (g + 1) (true) (by omega) (by omega) ?_ (by omega)); exact (And.intro rfl (And.intro rfl (And.intro rfl (And.intro rfl (And.intro rfl (And.intro rfl (And.intro rfl (And.intro rfl trivial)))))))); rw [allN_s h0, ← hb, kk h0]; (first | (rw [eq_false_of_ne_true c27]; rfl) | (rw [c27, decide_eq_false c49]; rfl) | (rw [c27, decide_eq_true (Decidable.not_not.mp c49)]; rfl))) | (refine AW.lw ?_ (ih (g + 1) (false) (by omega) (by omega) ?_ (by omega)); exact (And.intro rfl (And.intro rfl (And.intro rfl (And.intro rfl (And.intro rfl (And.intro rfl (And.intro rfl (And.intro rfl trivial)))))))); rw [allN_s h0, ← hb, kk h0]; (first | (rw [eq_false_of_ne_true c27]; rfl) | (rw [c27, decide_eq_false c49]; rfl) | (rw [c27, decide_eq_true (Decidable.not_not.mp c49)]; rfl)))
set_option maxHeartbeats 4000000 in
theorem l_X4_isGroup (d : Nat) (hd : 3 ≤ d) (h : List AC) (pm rf gm ka wr : Int) (hO : h[29]? = some (ao 4 (mo pm rf gm ka wr))) (m : Nat → Int) (hM : h[30]? = some (ai 0 48 m)) (hm : mt m) (r N S : Int) (rr : 0 ≤ r ∧ r < 4) (rN : 0 ≤ N ∧ N ≤ 12) (rS : 0 ≤ S ∧ S + N ≤ 12) : ∀ (n : Nat) (k : Int) (a : Bool), (0 ≤ k) → (k ≤ 48) → (a = anyN (fun F => isf (rwm m r) N (F : Int) (rwm m r) S) k.toNat) → ((48 - k).toNat) < n → AW zX4_isGroup Eq (rmd d) 0 0 0 0 6 [(5, vi k), (4, vi (bI (a = true))), (0, vr 29), (1, vi r), (2, vi N), (3, vi S)] [] h (RQ (bI (anyN (fun F => isf (rwm m r) N (F : Int) (rwm m r) S) 48 = true)) h) := by
  intro n
  induction n with
  | zero =>
    intro k a h0 h1 ha hn
    exact absurd hn (Nat.not_lt_zero _)
  | succ n ih =>
    intro k a h0 h1 ha hn
    refine AW.go 2 (pc' := 10) rfl ?_
    refine AW.bi (tgt := 88) (pn := 13) rfl (by decide) rfl (by first | exact bI_rng _ | exact ⟨by omega, by omega⟩) (by first | exact bI_rng _ | exact ⟨by omega, by omega⟩) (fun c10 => ?_) (fun c10 => ?_)
    · dsimp only [cmpI] at c10
      refine AW.go 1 (pc' := 90) rfl ?_
      refine AW.retz rfl rfl (by first | exact bI_01 _ | decide) (Nat.le_refl _) (Nat.le_refl _) ?_
      refine ⟨congrArg some ?_, rfl⟩
      rw [ha, show k.toNat = 48 by omega]
    · dsimp only [cmpI] at c10
      refine AW.go 4 (pc' := 19) rfl ?_
      refine AW.lw ?_ (li_X4_isGroup d hd h pm rf gm ka wr hO m hM hm r N S rr rN rS k a ⟨h0, by omega⟩ _ ?_ _ 0 true (by omega) (by omega) rfl (Nat.lt_succ_self _))
      · exact (And.intro rfl (And.intro rfl (And.intro rfl (And.intro rfl (And.intro rfl (And.intro rfl (And.intro rfl (And.intro rfl trivial))))))))
      · refine AW.go 1 (pc' := 67) rfl ?_
        refine AW.bnz (tgt := 75) (pn := 70) rfl (by decide) rfl (fun c67 => ?_) (fun c67 => ?_)
        · refine AW.go 5 (pc' := 6) rfl ?_
          first | (refine AW.lw ?_ (ih (k + 1) (true) (by omega) (by omega) ?_ (by omega)); exact (And.intro rfl (And.intro rfl (And.intro rfl (And.intro rfl (And.intro rfl (And.intro rfl trivial)))))); rw [anyN_s h0, ← ha, kk h0]; (first | (rw [c67]; rfl) | (rw [eq_false_of_ne_true c67, c72]; rfl) | (rw [eq_false_of_ne_true c67, eq_false_of_ne_true c72]; rfl))) | (refine AW.lw ?_ (ih (k + 1) (false) (by omega) (by omega) ?_ (by omega)); exact (And.intro rfl (And.intro rfl (And.intro rfl (And.intro rfl (And.intro rfl (And.intro rfl trivial)))))); rw [anyN_s h0, ← ha, kk h0]; (first | (rw [c67]; rfl) | (rw [eq_false_of_ne_true c67, c72]; rfl) | (rw [eq_false_of_ne_true c67, eq_false_of_ne_true c72]; rfl)))
        · refine AW.go 1 (pc' := 72) rfl ?_
          refine AW.bz (tgt := 79) (pn := 75) rfl (by decide) rfl (fun c72 => ?_) (fun c72 => ?_)
          · refine AW.go 4 (pc' := 6) rfl ?_
            first | (refine AW.lw ?_ (ih (k + 1) (true) (by omega) (by omega) ?_ (by omega)); exact (And.intro rfl (And.intro rfl (And.intro rfl (And.intro rfl (And.intro rfl (And.intro rfl trivial)))))); rw [anyN_s h0, ← ha, kk h0]; (first | (rw [c67]; rfl) | (rw [eq_false_of_ne_true c67, c72]; rfl) | (rw [eq_false_of_ne_true c67, eq_false_of_ne_true c72]; rfl))) | (refine AW.lw ?_ (ih (k + 1) (false) (by omega) (by omega) ?_ (by omega)); exact (And.intro rfl (And.intro rfl (And.intro rfl (And.intro rfl (And.intro rfl (And.intro rfl trivial)))))); rw [anyN_s h0, ← ha, kk h0]; (first | (rw [c67]; rfl) | (rw [eq_false_of_ne_true c67, c72]; rfl) | (rw [eq_false_of_ne_true c67, eq_false_of_ne_true c72]; rfl)))
          · refine AW.go 5 (pc' := 6) rfl ?_
            first | (refine AW.lw ?_ (ih (k + 1) (true) (by omega) (by omega) ?_ (by omega)); exact (And.intro rfl (And.intro rfl (And.intro rfl (And.intro rfl (And.intro rfl (And.intro rfl trivial)))))); rw [anyN_s h0, ← ha, kk h0]; (first | (rw [c67]; rfl) | (rw [eq_false_of_ne_true c67, c72]; rfl) | (rw [eq_false_of_ne_true c67, eq_false_of_ne_true c72]; rfl))) | (refine AW.lw ?_ (ih (k + 1) (false) (by omega) (by omega) ?_ (by omega)); exact (And.intro rfl (And.intro rfl (And.intro rfl (And.intro rfl (And.intro rfl (And.intro rfl trivial)))))); rw [anyN_s h0, ← ha, kk h0]; (first | (rw [c67]; rfl) | (rw [eq_false_of_ne_true c67, c72]; rfl) | (rw [eq_false_of_ne_true c67, eq_false_of_ne_true c72]; rfl)))
set_option maxHeartbeats 2000000 in
theorem c_X4_isGroup (d : Nat) (hd : 3 ≤ d) (h : List AC) (pm rf gm ka wr : Int) (hO : h[29]? = some (ao 4 (mo pm rf gm ka wr))) (m : Nat → Int) (hM : h[30]? = some (ai 0 48 m)) (hm : mt m) (r N S : Int) (rr : 0 ≤ r ∧ r < 4) (rN : 0 ≤ N ∧ N ≤ 12) (rS : 0 ≤ S ∧ S + N ≤ 12) : MF zX4_isGroup d [vr 29, vi r, vi N, vi S] h (bI (anyN (fun F => isf (rwm m r) N (F : Int) (rwm m r) S) 48 = true)) h := by
  refine M0.of okX4_isGroup (Nat.le_of_ble_eq_true rfl) ?_
  refine AW.go 4 (pc' := 6) rfl ?_
  refine AW.lw ?_ (l_X4_isGroup d hd h pm rf gm ka wr hO m hM hm r N S rr rN rS _ 0 false (by omega) (by omega) rfl (Nat.lt_succ_self _))
  exact (And.intro rfl (And.intro rfl (And.intro rfl (And.intro rfl (And.intro rfl (And.intro rfl trivial))))))
set_option maxHeartbeats 4000000 in
theorem l_X4_firstSet (d : Nat) (hd : 1 ≤ d) (h : List AC) (pm rf gm ka wr : Int) (hO : h[29]? = some (ao 4 (mo pm rf gm ka wr))) (m : Nat → Int) (hM : h[30]? = some (ai 0 48 m)) (hm : mt m) (r N : Int) (rr : 0 ≤ r ∧ r < 4) (rN : 0 ≤ N ∧ N ≤ 12) : ∀ (n : Nat) (k : Int) (x : Nat), (0 ≤ k) → (k ≤ N) → (x = fs0 (rwm m r) k.toNat) → ((N - k).toNat) < n → AW zX4_firstSet Eq (rmd d) 0 0 0 0 5 [(4, vi k), (3, vi (x : Int)), (0, vr 29), (1, vi r), (2, vi N)] [] h (RQ (fs0 (rwm m r) N.toNat : Int) h) := by
  intro n
  induction n with
  | zero =>
    intro k x h0 h1 hc hn
    exact absurd hn (Nat.not_lt_zero _)
  | succ n ih =>
    intro k x h0 h1 hc hn
    refine AW.go 2 (pc' := 8) rfl ?_
    refine AW.bi (tgt := 29) (pn := 11) rfl (by decide) rfl (by first | exact bI_rng _ | exact ⟨by omega, by omega⟩) (by first | exact bI_rng _ | exact ⟨by omega, by omega⟩) (fun c8 => ?_) (fun c8 => ?_)
    · dsimp only [cmpI] at c8
      refine AW.go 1 (pc' := 30) rfl ?_
      refine AW.ret rfl rfl (Nat.le_refl _) (Nat.le_refl _) ?_
      have e : k = N := by omega
      subst e
      subst hc
      exact ⟨rfl, rfl⟩
    · dsimp only [cmpI] at c8
      refine AW.go 5 (pc' := 17) rfl ?_
      refine AW.callVF (pn := 20) rfl rfl mlX4_89 (by first | assumption | exact set_self (by assumption) | exact set_ne (by first | assumption | omega | decide) (by first | assumption | exact set_self (by assumption) | exact set_ne (by first | assumption | omega | decide) (by assumption))) (c_X4_toneAt (d - 1) (by omega) _ _ _ _ _ _ (by assumption) _ (by assumption) (by assumption) _ _ (by omega) (by omega)) rfl rfl (Nat.le_of_ble_eq_true rfl) ⟨by show d - 1 + 1 ≤ d; omega, by show 40 * (d - 1 + 1) ≤ 40 * d; omega⟩ ⟨Nat.zero_le _, Nat.zero_le _⟩ ?_
      have g1 := rwm_tn hm rr k.toNat (by omega)
      refine AW.shl1 (pn := 21) rfl rfl (by omega) (by omega) ?_
      refine AW.orN (pn := 22) rfl rfl ?_
      refine AW.go 3 (pc' := 5) rfl ?_
      first | (refine AW.lw ?_ (ih (k + 1) (x ||| 2 ^ (rwm m r k.toNat).toNat) (by omega) (by omega) ?_ (by omega)); exact (And.intro rfl (And.intro rfl (And.intro rfl (And.intro rfl (And.intro rfl trivial))))); rw [k1 h0]; unfold fs0; rw [← hc])
set_option maxHeartbeats 2000000 in
theorem c_X4_firstSet (d : Nat) (hd : 1 ≤ d) (h : List AC) (pm rf gm ka wr : Int) (hO : h[29]? = some (ao 4 (mo pm rf gm ka wr))) (m : Nat → Int) (hM : h[30]? = some (ai 0 48 m)) (hm : mt m) (r N : Int) (rr : 0 ≤ r ∧ r < 4) (rN : 0 ≤ N ∧ N ≤ 12) : MF zX4_firstSet d [vr 29, vi r, vi N] h (fs0 (rwm m r) N.toNat : Int) h := by
  refine M0.of okX4_firstSet (Nat.le_of_ble_eq_true rfl) ?_
  refine AW.go 4 (pc' := 5) rfl ?_
  refine AW.lw ?_ (l_X4_firstSet d hd h pm rf gm ka wr hO m hM hm r N rr rN _ 0 0 (by omega) (by omega) rfl (Nat.lt_succ_self _))
  exact (And.intro rfl (And.intro rfl (And.intro rfl (And.intro rfl (And.intro rfl trivial)))))
