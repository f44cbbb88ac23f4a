def rw4 : Nat → Option Nat := fun i => if i < 4 then some (5 + i) else none
theorem rw4_at {a : Int} (h : 0 ≤ a ∧ a < 4) : rw4 a.toNat = some (5 + a.toNat) := if_pos (by omega)
def okR (r : Int) : Prop := 0 ≤ r ∧ r < 4
def okF (F : Int) : Prop := 0 ≤ F ∧ F < 48
def V_tone (m : Nat → Int) (r p : Int) : Int := if 0 ≤ r ∧ r < 4 then (if 0 ≤ p ∧ p < 12 then rwm m r p.toNat else -2) else -1
def xk (F G : Int) : Int := 12 * ((if bI (24 ≤ F) = bI (24 ≤ G) then 0 else 2) + (if bI (F / 12 % 2 = 1) = bI (G / 12 % 2 = 1) then 0 else 1))
theorem xk_xor {F G : Int} (hF : 0 ≤ F ∧ F < 48) (hG : 0 ≤ G ∧ G < 48) : (((F / 12).toNat ^^^ (G / 12).toNat : Nat) : Int) * 12 = xk F G := by
  have key : ∀ a : Nat, a < 4 → ∀ b : Nat, b < 4 → (((a : Int).toNat ^^^ (b : Int).toNat : Nat) : Int) * 12 = 12 * ((if bI (2 ≤ (a : Int)) = bI (2 ≤ (b : Int)) then 0 else 2) + (if bI ((a : Int) % 2 = 1) = bI ((b : Int) % 2 = 1) then 0 else 1)) := by decide
  have := key (F / 12).toNat (by omega) (G / 12).toNat (by omega)
  rw [kk (k := F / 12) (by omega), kk (k := G / 12) (by omega)] at this
  rw [this]
  unfold xk
  rw [bI_c (show 2 ≤ F / 12 ↔ 24 ≤ F by omega), bI_c (show 2 ≤ G / 12 ↔ 24 ≤ G by omega)]
def V_behind (F G : Int) : Int := if (0 ≤ F ∧ F < 48) ∧ (0 ≤ G ∧ G < 48) then xk F G + mv F (G % 12) else -1
def V_back (F : Int) : Int := if 0 ≤ F ∧ F < 48 then (if F / 12 % 2 = 1 then F else F - F % 12 + (-F) % 12) else -1
def V_canon (sz : (Nat → Int) → Int) (m : Nat → Int) (r w : Int) : Int := if 0 ≤ r ∧ r < 4 then (if 0 ≤ w ∧ w ≤ 13 then (if w = 13 then sz (rwm m r) else if w = 12 then lfm (rwm m r) 47 else ft (rwm m r) 12 (lfm (rwm m r) 47) w) else -2) else -1
def szC (f : Nat → Int) : Int := if (kps f 48 : Int) = 0 then 48 else 48 / (kps f 48 : Int)
def szM (f : Nat → Int) : Int := (frs f 48 : Int)
def sel (p : Nat → Bool) (i : Int) : Nat → Nat → Int → Int
  | 0, _, c => if i = -1 then c else -6
  | n + 1, k, c => if p k then (if c = i then (k : Int) else sel p i n (k + 1) (c + 1)) else sel p i n (k + 1) c
def V_leads (m : Nat → Int) (r o i : Int) : Int := if (0 ≤ r ∧ r < 4) ∧ (0 ≤ o ∧ o < 4) then sel (fun F => isf (rwm m r) 12 (F : Int) (rwm m o) 0) i 48 0 0 else -1
def V_step (us : (Nat → Int) → Int) (m : Nat → Int) (r w : Int) : Int := if 0 ≤ r ∧ r < 4 then (if 0 ≤ w ∧ w ≤ 11 then (if w = 11 then us (rwm m r) else stp (rwm m r) w) else -2) else -1
def usC (f : Nat → Int) : Int := ((cntN (fun i => (sbt f 11).testBit i) 12 : Nat) : Int)
def usM (f : Nat → Int) : Int := (ust f 11 : Int)
def V_shared (m : Nat → Int) (r F N : Int) : Int := if (0 ≤ r ∧ r < 4) ∧ (0 ≤ F ∧ F < 48) then (if 2 ≤ N ∧ N ≤ 6 then ((cntN (fun s => hsg (rwm m r) F N (fst12 (rwm m r) 0 (s : Int) N.toNat : Int)) (13 - N).toNat : Nat) : Int) else -2) else -1
def prt (f : Nat → Int) (F : Nat) : Bool := decide (fst12 f (F : Int) 0 6 &&& fst12 f 0 0 6 = 0)
def V_partner (m : Nat → Int) (r i : Int) : Int := if 0 ≤ r ∧ r < 4 then sel (prt (rwm m r)) i 48 0 0 else -1
def drv (f : Nat → Int) (N : Int) (n : Nat) : Bool := allN (fun q => anyN (fun F => isf f N (F : Int) f (N * ((q : Int) + 1))) 48) n
def V_derived (m : Nat → Int) (r N : Int) : Int := if 0 ≤ r ∧ r < 4 then (if N = 2 ∨ N = 3 ∨ N = 4 ∨ N = 6 then bI (drv (rwm m r) N ((12 / N).toNat - 1) = true) else -2) else -1
def kl (F : Int) : Int := if 36 ≤ F then 2 else 1
def nl (F : Int) : Int := kl F + (if F % 12 < 10 then 1 else 2)
def nsg (F j : Int) : Int := if j < kl F then (if F < 12 then 80 else if F < 24 ∨ j = 1 then 73 else 82) else 48 + (if 9 < F % 12 ∧ j = kl F then 1 else F % 12 % 10)
def V_sign (m : Nat → Int) (r F j : Int) : Int := if (0 ≤ r ∧ r < 4) ∧ (0 ≤ F ∧ F < 48) then (if j = -1 then nl F + 13 else if 0 ≤ j ∧ j ≤ nl F + 12 then (if j < nl F then nsg F j else if j = nl F then 58 else sof (ft (rwm m r) 12 F (j - nl F - 1))) else -6) else -1
def lik (m : Nat → Int) (r : Int) : Nat → Int → Int
  | 0, o => o
  | n + 1, o => if isf (rwm m r) 12 0 (rwm m o) 0 = true then o else lik m r n (o + 1)
def V_told (cnt : Int) (pat m : Nat → Int) (w : Int) : Int := if w = 0 then cnt else if w = 1 then (hol pat 12 : Int) else if 100 ≤ w ∧ w < 112 then pat (w - 100).toNat else if 200 ≤ w ∧ w < 204 then lik m (w - 200) (w - 200).toNat 0 else -2
theorem kl_b (F : Int) : 1 ≤ kl F ∧ kl F ≤ 2 := by unfold kl; split <;> omega
theorem kl_c (F : Int) : (36 ≤ F ∧ kl F = 2) ∨ (F < 36 ∧ kl F = 1) := by unfold kl; split <;> omega
theorem nl_c (F : Int) : (F % 12 < 10 ∧ nl F = kl F + 1) ∨ (10 ≤ F % 12 ∧ nl F = kl F + 2) := by unfold nl; split <;> omega
theorem nl_b (F : Int) : kl F + 1 ≤ nl F ∧ nl F ≤ kl F + 2 := by unfold nl; split <;> omega

set_option maxHeartbeats 2000000 in
theorem c_X3_toneSign (d : Nat) (hd : 0 ≤ d) (h : List AC) (a : Int) (ra : 0 ≤ a ∧ a < 12) : MF zX3_toneSign d [vi a] h (sof a) h := by
  refine M0.of okX3_toneSign (Nat.le_of_ble_eq_true rfl) ?_
  refine AW.go 2 (pc' := 3) rfl ?_
  refine AW.bi (tgt := 11) (pn := 6) rfl (by decide) rfl (by first | exact bI_rng _ | exact ⟨by omega, by omega⟩) (by first | exact bI_rng _ | exact ⟨by omega, by omega⟩) (fun c3 => ?_) (fun c3 => ?_)
  · dsimp only [cmpI] at c3
    refine AW.go 2 (pc' := 14) rfl ?_
    refine AW.bi (tgt := 22) (pn := 17) rfl (by decide) rfl (by first | exact bI_rng _ | exact ⟨by omega, by omega⟩) (by first | exact bI_rng _ | exact ⟨by omega, by omega⟩) (fun c14 => ?_) (fun c14 => ?_)
    · dsimp only [cmpI] at c14
      refine AW.go 1 (pc' := 24) rfl ?_
      refine AW.ret rfl rfl (Nat.le_refl _) (Nat.le_refl _) ?_
      refine ⟨congrArg some ?_, rfl⟩
      unfold sof
      (repeat' split) <;> omega
    · dsimp only [cmpI] at c14
      refine AW.go 2 (pc' := 24) rfl ?_
      refine AW.ret rfl rfl (Nat.le_refl _) (Nat.le_refl _) ?_
      refine ⟨congrArg some ?_, rfl⟩
      unfold sof
      (repeat' split) <;> omega
  · dsimp only [cmpI] at c3
    refine AW.go 3 (pc' := 10) rfl ?_
    refine AW.ret rfl rfl (Nat.le_refl _) (Nat.le_refl _) ?_
    refine ⟨congrArg some ?_, rfl⟩
    unfold sof
    (repeat' split) <;> omega
set_option maxHeartbeats 2000000 in
theorem c_X3_signTone (d : Nat) (hd : 0 ≤ d) (h : List AC) (a : Int) (ra : -2147483648 ≤ a ∧ a < 2147483648) : MF zX3_signTone d [vi a] h (tof a) h := by
  refine M0.of okX3_signTone (Nat.le_of_ble_eq_true rfl) ?_
  refine AW.go 2 (pc' := 3) rfl ?_
  refine AW.bi (tgt := 17) (pn := 6) rfl (by decide) rfl (by first | exact bI_rng _ | exact ⟨by omega, by omega⟩) (by first | exact bI_rng _ | exact ⟨by omega, by omega⟩) (fun c3 => ?_) (fun c3 => ?_)
  · dsimp only [cmpI] at c3
    refine AW.go 2 (pc' := 20) rfl ?_
    refine AW.bi (tgt := 26) (pn := 23) rfl (by decide) rfl (by first | exact bI_rng _ | exact ⟨by omega, by omega⟩) (by first | exact bI_rng _ | exact ⟨by omega, by omega⟩) (fun c20 => ?_) (fun c20 => ?_)
    · dsimp only [cmpI] at c20
      refine AW.go 2 (pc' := 29) rfl ?_
      refine AW.bi (tgt := 37) (pn := 32) rfl (by decide) rfl (by first | exact bI_rng _ | exact ⟨by omega, by omega⟩) (by first | exact bI_rng _ | exact ⟨by omega, by omega⟩) (fun c29 => ?_) (fun c29 => ?_)
      · dsimp only [cmpI] at c29
        refine AW.go 1 (pc' := 39) rfl ?_
        refine AW.ret rfl rfl (Nat.le_refl _) (Nat.le_refl _) ?_
        refine ⟨congrArg some ?_, rfl⟩
        unfold tof
        (repeat' split) <;> omega
      · dsimp only [cmpI] at c29
        refine AW.go 2 (pc' := 39) rfl ?_
        refine AW.ret rfl rfl (Nat.le_refl _) (Nat.le_refl _) ?_
        refine ⟨congrArg some ?_, rfl⟩
        unfold tof
        (repeat' split) <;> omega
    · dsimp only [cmpI] at c20
      refine AW.go 1 (pc' := 25) rfl ?_
      refine AW.ret rfl rfl (Nat.le_refl _) (Nat.le_refl _) ?_
      refine ⟨congrArg some ?_, rfl⟩
      unfold tof
      (repeat' split) <;> omega
  · dsimp only [cmpI] at c3
    refine AW.go 2 (pc' := 9) rfl ?_
    refine AW.bi (tgt := 17) (pn := 12) rfl (by decide) rfl (by first | exact bI_rng _ | exact ⟨by omega, by omega⟩) (by first | exact bI_rng _ | exact ⟨by omega, by omega⟩) (fun c9 => ?_) (fun c9 => ?_)
    · dsimp only [cmpI] at c9
      refine AW.go 2 (pc' := 20) rfl ?_
      refine AW.bi (tgt := 26) (pn := 23) rfl (by decide) rfl (by first | exact bI_rng _ | exact ⟨by omega, by omega⟩) (by first | exact bI_rng _ | exact ⟨by omega, by omega⟩) (fun c20 => ?_) (fun c20 => ?_)
      · dsimp only [cmpI] at c20
        refine AW.go 2 (pc' := 29) rfl ?_
        refine AW.bi (tgt := 37) (pn := 32) rfl (by decide) rfl (by first | exact bI_rng _ | exact ⟨by omega, by omega⟩) (by first | exact bI_rng _ | exact ⟨by omega, by omega⟩) (fun c29 => ?_) (fun c29 => ?_)
        · dsimp only [cmpI] at c29
          refine AW.go 1 (pc' := 39) rfl ?_
          refine AW.ret rfl rfl (Nat.le_refl _) (Nat.le_refl _) ?_
          refine ⟨congrArg some ?_, rfl⟩
          unfold tof
          (repeat' split) <;> omega
        · dsimp only [cmpI] at c29
          refine AW.go 2 (pc' := 39) rfl ?_
          refine AW.ret rfl rfl (Nat.le_refl _) (Nat.le_refl _) ?_
          refine ⟨congrArg some ?_, rfl⟩
          unfold tof
          (repeat' split) <;> omega
      · dsimp only [cmpI] at c20
        refine AW.go 1 (pc' := 25) rfl ?_
        refine AW.ret rfl rfl (Nat.le_refl _) (Nat.le_refl _) ?_
        refine ⟨congrArg some ?_, rfl⟩
        unfold tof
        (repeat' split) <;> omega
    · dsimp only [cmpI] at c9
      refine AW.go 3 (pc' := 16) rfl ?_
      refine AW.ret rfl rfl (Nat.le_refl _) (Nat.le_refl _) ?_
      refine ⟨congrArg some ?_, rfl⟩
      unfold tof
      (repeat' split) <;> omega
set_option maxHeartbeats 2000000 in
theorem c_X3_kindLength (d : Nat) (hd : 1 ≤ d) (h : List AC) (F : Int) (rF : 0 ≤ F ∧ F < 48) : MF zX3_kindLength d [vi F] h (kl F) h := by
  refine M0.of okX3_kindLength (Nat.le_of_ble_eq_true rfl) ?_
  refine AW.go 1 (pc' := 1) rfl ?_
  refine AW.callSF (pn := 4) rfl rfl mlX3_150 (c_X3_isBackwards (d - 1) (by omega) _ _ (by omega)) rfl rfl (Nat.le_of_ble_eq_true rfl) ⟨by show d - 1 + 1 ≤ d; omega, by show 40 * (d - 1 + 1) ≤ 40 * d; omega⟩ ⟨Nat.zero_le _, Nat.zero_le _⟩ ?_
  refine AW.bz (tgt := 18) (pn := 7) rfl (by decide) rfl (fun c4 => ?_) (fun c4 => ?_)
  · refine AW.go 1 (pc' := 19) rfl ?_
    refine AW.ret rfl rfl (Nat.le_refl _) (Nat.le_refl _) ?_
    refine ⟨congrArg some ?_, rfl⟩
    unfold kl
    (repeat' split) <;> omega
  · refine AW.go 1 (pc' := 8) rfl ?_
    refine AW.callSF (pn := 11) rfl rfl mlX3_99 (c_X3_isMirrored (d - 1) (by omega) _ _ (by omega)) rfl rfl (Nat.le_of_ble_eq_true rfl) ⟨by show d - 1 + 1 ≤ d; omega, by show 40 * (d - 1 + 1) ≤ 40 * d; omega⟩ ⟨Nat.zero_le _, Nat.zero_le _⟩ ?_
    refine AW.bz (tgt := 18) (pn := 14) rfl (by decide) rfl (fun c11 => ?_) (fun c11 => ?_)
    · refine AW.go 1 (pc' := 19) rfl ?_
      refine AW.ret rfl rfl (Nat.le_refl _) (Nat.le_refl _) ?_
      refine ⟨congrArg some ?_, rfl⟩
      unfold kl
      (repeat' split) <;> omega
    · refine AW.go 2 (pc' := 19) rfl ?_
      refine AW.ret rfl rfl (Nat.le_refl _) (Nat.le_refl _) ?_
      refine ⟨congrArg some ?_, rfl⟩
      unfold kl
      (repeat' split) <;> omega
set_option maxHeartbeats 2000000 in
theorem c_X3_nameLength (d : Nat) (hd : 2 ≤ d) (h : List AC) (F : Int) (rF : 0 ≤ F ∧ F < 48) : MF zX3_nameLength d [vi F] h (nl F) h := by
  refine M0.of okX3_nameLength (Nat.le_of_ble_eq_true rfl) ?_
  refine AW.go 1 (pc' := 1) rfl ?_
  refine AW.callSF (pn := 4) rfl rfl mlX3_208 (c_X3_kindLength (d - 1) (by omega) _ _ (by omega)) rfl rfl (Nat.le_of_ble_eq_true rfl) ⟨by show d - 1 + 1 ≤ d; omega, by show 40 * (d - 1 + 1) ≤ 40 * d; omega⟩ ⟨Nat.zero_le _, Nat.zero_le _⟩ ?_
  refine AW.go 2 (pc' := 7) rfl ?_
  refine AW.irem (pn := 8) rfl rfl (by omega) (by omega) (by omega) (by omega) ?_
  refine AW.go 1 (pc' := 10) rfl ?_
  refine AW.bi (tgt := 17) (pn := 13) rfl (by decide) rfl (by first | exact bI_rng _ | exact ⟨by omega, by omega⟩) (by first | exact bI_rng _ | exact ⟨by omega, by omega⟩) (fun c10 => ?_) (fun c10 => ?_)
  · dsimp only [cmpI] at c10
    refine AW.go 2 (pc' := 19) rfl ?_
    refine AW.ret rfl rfl (Nat.le_refl _) (Nat.le_refl _) ?_
    refine ⟨congrArg some ?_, rfl⟩
    unfold nl
    (repeat' split) <;> omega
  · dsimp only [cmpI] at c10
    refine AW.go 3 (pc' := 19) rfl ?_
    refine AW.ret rfl rfl (Nat.le_refl _) (Nat.le_refl _) ?_
    refine ⟨congrArg some ?_, rfl⟩
    unfold nl
    (repeat' split) <;> omega
set_option maxHeartbeats 2000000 in
theorem c_X3_nameSign (d : Nat) (hd : 3 ≤ d) (h : List AC) (F j : Int) (rF : 0 ≤ F ∧ F < 48) (rj : 0 ≤ j ∧ j < nl F) : MF zX3_nameSign d [vi F, vi j] h (nsg F j) h := by
  refine M0.of okX3_nameSign (Nat.le_of_ble_eq_true rfl) ?_
  refine AW.go 1 (pc' := 1) rfl ?_
  refine AW.callSF (pn := 4) rfl rfl mlX3_208 (c_X3_kindLength (d - 1) (by omega) _ _ (by omega)) rfl rfl (Nat.le_of_ble_eq_true rfl) ⟨by show d - 1 + 1 ≤ d; omega, by show 40 * (d - 1 + 1) ≤ 40 * d; omega⟩ ⟨Nat.zero_le _, Nat.zero_le _⟩ ?_
  refine AW.go 3 (pc' := 7) rfl ?_
  have b1 := kl_b F
  have b2 := nl_b F
  refine AW.bi (tgt := 40) (pn := 10) rfl (by decide) rfl (by first | exact bI_rng _ | exact ⟨by omega, by omega⟩) (by first | exact bI_rng _ | exact ⟨by omega, by omega⟩) (fun c7 => ?_) (fun c7 => ?_)
  · dsimp only [cmpI] at c7
    refine AW.go 1 (pc' := 41) rfl ?_
    refine AW.br (tgt := 54) (pn := 44) rfl (by decide) rfl (by first | exact bI_rng _ | exact ⟨by omega, by omega⟩) (fun c41 => ?_) (fun c41 => ?_)
    · dsimp only [cmpI] at c41
      refine AW.go 1 (pc' := 55) rfl ?_
      refine AW.callSF (pn := 58) rfl rfl mlX3_99 (c_X3_isMirrored (d - 1) (by omega) _ _ (by omega)) rfl rfl (Nat.le_of_ble_eq_true rfl) ⟨by show d - 1 + 1 ≤ d; omega, by show 40 * (d - 1 + 1) ≤ 40 * d; omega⟩ ⟨Nat.zero_le _, Nat.zero_le _⟩ ?_
      refine AW.bz (tgt := 66) (pn := 61) rfl (by decide) rfl (fun c58 => ?_) (fun c58 => ?_)
      · refine AW.go 1 (pc' := 68) rfl ?_
        refine AW.ret rfl rfl (Nat.le_refl _) (Nat.le_refl _) ?_
        refine ⟨congrArg some ?_, rfl⟩
        have e1 := kl_c F
        have e2 := nl_c F
        unfold nsg
        (repeat' split) <;> omega
      · refine AW.go 2 (pc' := 68) rfl ?_
        refine AW.ret rfl rfl (Nat.le_refl _) (Nat.le_refl _) ?_
        refine ⟨congrArg some ?_, rfl⟩
        have e1 := kl_c F
        have e2 := nl_c F
        unfold nsg
        (repeat' split) <;> omega
    · dsimp only [cmpI] at c41
      refine AW.go 1 (pc' := 45) rfl ?_
      refine AW.callSF (pn := 48) rfl rfl mlX3_150 (c_X3_isBackwards (d - 1) (by omega) _ _ (by omega)) rfl rfl (Nat.le_of_ble_eq_true rfl) ⟨by show d - 1 + 1 ≤ d; omega, by show 40 * (d - 1 + 1) ≤ 40 * d; omega⟩ ⟨Nat.zero_le _, Nat.zero_le _⟩ ?_
      refine AW.bz (tgt := 54) (pn := 51) rfl (by decide) rfl (fun c48 => ?_) (fun c48 => ?_)
      · refine AW.go 1 (pc' := 55) rfl ?_
        refine AW.callSF (pn := 58) rfl rfl mlX3_99 (c_X3_isMirrored (d - 1) (by omega) _ _ (by omega)) rfl rfl (Nat.le_of_ble_eq_true rfl) ⟨by show d - 1 + 1 ≤ d; omega, by show 40 * (d - 1 + 1) ≤ 40 * d; omega⟩ ⟨Nat.zero_le _, Nat.zero_le _⟩ ?_
        refine AW.bz (tgt := 66) (pn := 61) rfl (by decide) rfl (fun c58 => ?_) (fun c58 => ?_)
        · refine AW.go 1 (pc' := 68) rfl ?_
          refine AW.ret rfl rfl (Nat.le_refl _) (Nat.le_refl _) ?_
          refine ⟨congrArg some ?_, rfl⟩
          have e1 := kl_c F
          have e2 := nl_c F
          unfold nsg
          (repeat' split) <;> omega
        · refine AW.go 2 (pc' := 68) rfl ?_
          refine AW.ret rfl rfl (Nat.le_refl _) (Nat.le_refl _) ?_
          refine ⟨congrArg some ?_, rfl⟩
          have e1 := kl_c F
          have e2 := nl_c F
          unfold nsg
          (repeat' split) <;> omega
      · refine AW.go 1 (pc' := 53) rfl ?_
        refine AW.ret rfl rfl (Nat.le_refl _) (Nat.le_refl _) ?_
        refine ⟨congrArg some ?_, rfl⟩
        have e1 := kl_c F
        have e2 := nl_c F
        unfold nsg
        (repeat' split) <;> omega
  · dsimp only [cmpI] at c7
    refine AW.go 2 (pc' := 13) rfl ?_
    refine AW.irem (pn := 14) rfl rfl (by omega) (by omega) (by omega) (by omega) ?_
    refine AW.go 6 (pc' := 21) rfl ?_
    refine AW.callSF (pn := 24) rfl rfl mlX3_159 (c_X3_nameLength (d - 1) (by omega) _ _ (by omega)) rfl rfl (Nat.le_of_ble_eq_true rfl) ⟨by show d - 1 + 1 ≤ d; omega, by show 40 * (d - 1 + 1) ≤ 40 * d; omega⟩ ⟨Nat.zero_le _, Nat.zero_le _⟩ ?_
    refine AW.bi (tgt := 34) (pn := 27) rfl (by decide) rfl (by first | exact bI_rng _ | exact ⟨by omega, by omega⟩) (by first | exact bI_rng _ | exact ⟨by omega, by omega⟩) (fun c24 => ?_) (fun c24 => ?_)
    · dsimp only [cmpI] at c24
      refine AW.go 2 (pc' := 37) rfl ?_
      refine AW.idiv (pn := 38) rfl rfl (by omega) (by omega) (by omega) (by omega) ?_
      refine AW.go 1 (pc' := 39) rfl ?_
      refine AW.ret rfl rfl (Nat.le_refl _) (Nat.le_refl _) ?_
      refine ⟨congrArg some ?_, rfl⟩
      have e1 := kl_c F
      have e2 := nl_c F
      unfold nsg
      (repeat' split) <;> omega
    · dsimp only [cmpI] at c24
      refine AW.go 2 (pc' := 30) rfl ?_
      refine AW.irem (pn := 31) rfl rfl (by omega) (by omega) (by omega) (by omega) ?_
      refine AW.go 2 (pc' := 39) rfl ?_
      refine AW.ret rfl rfl (Nat.le_refl _) (Nat.le_refl _) ?_
      refine ⟨congrArg some ?_, rfl⟩
      have e1 := kl_c F
      have e2 := nl_c F
      unfold nsg
      (repeat' split) <;> omega
set_option maxHeartbeats 2000000 in
theorem c_X3_tone (d : Nat) (hd : 1 ≤ d) (h : List AC) (g0 : h[0]? = some (ao 3 [vr 1, vr 3, vr 10, vr 25, vr 28])) (kp : Int) (g3 : h[3]? = some (ao 2 [vr 4, vr 9, vi kp])) (g4 : h[4]? = some (aq 3 4 rw4)) (m : Nat → Int) (hm : mt m) (hR : ∀ r : Int, 0 ≤ r → r < 4 → h[5 + r.toNat]? = some (ai 0 12 (rwm m r))) (r p : Int) (rr : -2147483648 ≤ r ∧ r < 2147483648) (rp : -2147483648 ≤ p ∧ p < 2147483648) : MF zX3_tone d [vr 0, vi r, vi p] h (V_tone m r p) h := by
  refine M0.of okX3_tone (Nat.le_of_ble_eq_true rfl) ?_
  refine AW.go 1 (pc' := 1) rfl ?_
  refine AW.callSF (pn := 4) rfl rfl mlX3_57 (c_X3_isRow (d - 1) (by omega) _ _ (by omega)) rfl rfl (Nat.le_of_ble_eq_true rfl) ⟨by show d - 1 + 1 ≤ d; omega, by show 40 * (d - 1 + 1) ≤ 40 * d; omega⟩ ⟨Nat.zero_le _, Nat.zero_le _⟩ ?_
  refine AW.bnz (tgt := 9) (pn := 7) rfl (by decide) rfl (fun c4 => ?_) (fun c4 => ?_)
  · refine AW.go 1 (pc' := 10) rfl ?_
    refine AW.callSF (pn := 13) rfl rfl mlX3_79 (c_X3_isPlace (d - 1) (by omega) _ _ (by omega)) rfl rfl (Nat.le_of_ble_eq_true rfl) ⟨by show d - 1 + 1 ≤ d; omega, by show 40 * (d - 1 + 1) ≤ 40 * d; omega⟩ ⟨Nat.zero_le _, Nat.zero_le _⟩ ?_
    refine AW.bz (tgt := 30) (pn := 16) rfl (by decide) rfl (fun c13 => ?_) (fun c13 => ?_)
    · refine AW.go 1 (pc' := 32) rfl ?_
      refine AW.ret rfl rfl (Nat.le_refl _) (Nat.le_refl _) ?_
      refine ⟨congrArg some ?_, rfl⟩
      unfold V_tone
      (repeat' split) <;> first | rfl | omega
    · have hwr := hR r (by omega) (by omega)
      have htr := rwm_tn hm (r := r) (by omega)
      refine AW.go 1 (pc' := 17) rfl ?_
      refine AW.getf (pn := 20) rfl rfl flX3_19 (by first | assumption | exact set_self (by assumption) | exact set_ne (by first | assumption | omega | decide) (by first | assumption | exact set_self (by assumption) | exact set_ne (by first | assumption | omega | decide) (by assumption))) rfl ?_
      refine AW.getf (pn := 23) rfl rfl flX3_61 (by first | assumption | exact set_self (by assumption) | exact set_ne (by first | assumption | omega | decide) (by first | assumption | exact set_self (by assumption) | exact set_ne (by first | assumption | omega | decide) (by assumption))) rfl ?_
      refine AW.go 1 (pc' := 24) rfl ?_
      refine AW.aald (pn := 25) rfl rfl (by first | assumption | exact set_self (by assumption) | exact set_ne (by first | assumption | omega | decide) (by first | assumption | exact set_self (by assumption) | exact set_ne (by first | assumption | omega | decide) (by assumption))) (by decide) (by decide) (by omega) (by omega) (rw4_at (by omega)) ?_
      refine AW.go 1 (pc' := 26) rfl ?_
      refine AW.iald (pn := 27) rfl rfl (by first | assumption | exact set_self (by assumption) | exact set_ne (by first | assumption | omega | decide) (by first | assumption | exact set_self (by assumption) | exact set_ne (by first | assumption | omega | decide) (by assumption))) (by decide) (by omega) (by omega) ?_
      refine AW.go 1 (pc' := 32) rfl ?_
      refine AW.ret rfl rfl (Nat.le_refl _) (Nat.le_refl _) ?_
      refine ⟨congrArg some ?_, rfl⟩
      unfold V_tone
      (repeat' split) <;> first | rfl | omega
  · refine AW.go 1 (pc' := 8) rfl ?_
    refine AW.ret rfl rfl (Nat.le_refl _) (Nat.le_refl _) ?_
    refine ⟨congrArg some ?_, rfl⟩
    unfold V_tone
    (repeat' split) <;> first | rfl | omega
set_option maxHeartbeats 2000000 in
theorem c_X3_behind (d : Nat) (hd : 3 ≤ d) (h : List AC) (F G : Int) (rF : -2147483648 ≤ F ∧ F < 2147483648) (rG : -2147483648 ≤ G ∧ G < 2147483648) : MF zX3_behind d [vr 0, vi F, vi G] h (V_behind F G) h := by
  refine M0.of okX3_behind (Nat.le_of_ble_eq_true rfl) ?_
  refine AW.go 1 (pc' := 1) rfl ?_
  refine AW.callSF (pn := 4) rfl rfl mlX3_82 (c_X3_isForm (d - 1) (by omega) _ _ (by omega)) rfl rfl (Nat.le_of_ble_eq_true rfl) ⟨by show d - 1 + 1 ≤ d; omega, by show 40 * (d - 1 + 1) ≤ 40 * d; omega⟩ ⟨Nat.zero_le _, Nat.zero_le _⟩ ?_
  refine AW.bz (tgt := 14) (pn := 7) rfl (by decide) rfl (fun c4 => ?_) (fun c4 => ?_)
  · refine AW.go 1 (pc' := 15) rfl ?_
    refine AW.ret rfl rfl (Nat.le_refl _) (Nat.le_refl _) ?_
    refine ⟨congrArg some ?_, rfl⟩
    unfold V_behind
    (repeat' split) <;> first | rfl | omega
  · refine AW.go 1 (pc' := 8) rfl ?_
    refine AW.callSF (pn := 11) rfl rfl mlX3_82 (c_X3_isForm (d - 1) (by omega) _ _ (by omega)) rfl rfl (Nat.le_of_ble_eq_true rfl) ⟨by show d - 1 + 1 ≤ d; omega, by show 40 * (d - 1 + 1) ≤ 40 * d; omega⟩ ⟨Nat.zero_le _, Nat.zero_le _⟩ ?_
    refine AW.bnz (tgt := 16) (pn := 14) rfl (by decide) rfl (fun c11 => ?_) (fun c11 => ?_)
    · refine AW.go 2 (pc' := 19) rfl ?_
      refine AW.idiv (pn := 20) rfl rfl (by omega) (by omega) (by omega) (by omega) ?_
      refine AW.go 2 (pc' := 23) rfl ?_
      refine AW.idiv (pn := 24) rfl rfl (by omega) (by omega) (by omega) (by omega) ?_
      refine AW.ixor (pn := 25) rfl rfl (by omega) (by omega) ?_
      refine AW.go 4 (pc' := 31) rfl ?_
      refine AW.irem (pn := 32) rfl rfl (by omega) (by omega) (by omega) (by omega) ?_
      refine AW.go 1 (pc' := 33) rfl ?_
      refine AW.callSF (pn := 36) rfl rfl mlX3_95 (c_X3_turnedTone (d - 1) (by omega) _ _ _ (by omega) (by omega)) rfl rfl (Nat.le_of_ble_eq_true rfl) ⟨by show d - 1 + 1 ≤ d; omega, by show 40 * (d - 1 + 1) ≤ 40 * d; omega⟩ ⟨Nat.zero_le _, Nat.zero_le _⟩ ?_
      refine AW.go 1 (pc' := 37) rfl ?_
      refine AW.ret rfl rfl (Nat.le_refl _) (Nat.le_refl _) ?_
      refine ⟨congrArg some ?_, rfl⟩
      unfold V_behind
      rw [if_pos ⟨c4, c11⟩, ← xk_xor c4 c11]
    · refine AW.go 1 (pc' := 15) rfl ?_
      refine AW.ret rfl rfl (Nat.le_refl _) (Nat.le_refl _) ?_
      refine ⟨congrArg some ?_, rfl⟩
      unfold V_behind
      (repeat' split) <;> first | rfl | omega
set_option maxHeartbeats 2000000 in
theorem c_X3_back (d : Nat) (hd : 2 ≤ d) (h : List AC) (F : Int) (rF : -2147483648 ≤ F ∧ F < 2147483648) : MF zX3_back d [vr 0, vi F] h (V_back F) h := by
  refine M0.of okX3_back (Nat.le_of_ble_eq_true rfl) ?_
  refine AW.go 1 (pc' := 1) rfl ?_
  refine AW.callSF (pn := 4) rfl rfl mlX3_82 (c_X3_isForm (d - 1) (by omega) _ _ (by omega)) rfl rfl (Nat.le_of_ble_eq_true rfl) ⟨by show d - 1 + 1 ≤ d; omega, by show 40 * (d - 1 + 1) ≤ 40 * d; omega⟩ ⟨Nat.zero_le _, Nat.zero_le _⟩ ?_
  refine AW.bnz (tgt := 9) (pn := 7) rfl (by decide) rfl (fun c4 => ?_) (fun c4 => ?_)
  · refine AW.go 1 (pc' := 10) rfl ?_
    refine AW.callSF (pn := 13) rfl rfl mlX3_99 (c_X3_isMirrored (d - 1) (by omega) _ _ (by omega)) rfl rfl (Nat.le_of_ble_eq_true rfl) ⟨by show d - 1 + 1 ≤ d; omega, by show 40 * (d - 1 + 1) ≤ 40 * d; omega⟩ ⟨Nat.zero_le _, Nat.zero_le _⟩ ?_
    refine AW.bz (tgt := 18) (pn := 16) rfl (by decide) rfl (fun c13 => ?_) (fun c13 => ?_)
    · refine AW.go 3 (pc' := 22) rfl ?_
      refine AW.irem (pn := 23) rfl rfl (by omega) (by omega) (by omega) (by omega) ?_
      refine AW.go 3 (pc' := 26) rfl ?_
      refine AW.callSF (pn := 29) rfl rfl mlX3_102 (c_X3_wrapped (d - 1) (by omega) _ _ (by omega)) rfl rfl (Nat.le_of_ble_eq_true rfl) ⟨by show d - 1 + 1 ≤ d; omega, by show 40 * (d - 1 + 1) ≤ 40 * d; omega⟩ ⟨Nat.zero_le _, Nat.zero_le _⟩ ?_
      refine AW.go 1 (pc' := 30) rfl ?_
      refine AW.ret rfl rfl (Nat.le_refl _) (Nat.le_refl _) ?_
      refine ⟨congrArg some ?_, rfl⟩
      unfold V_back
      (repeat' split) <;> first | rfl | omega
    · refine AW.go 1 (pc' := 17) rfl ?_
      refine AW.ret rfl rfl (Nat.le_refl _) (Nat.le_refl _) ?_
      refine ⟨congrArg some ?_, rfl⟩
      unfold V_back
      (repeat' split) <;> first | rfl | omega
  · refine AW.go 1 (pc' := 8) rfl ?_
    refine AW.ret rfl rfl (Nat.le_refl _) (Nat.le_refl _) ?_
    refine ⟨congrArg some ?_, rfl⟩
    unfold V_back
    (repeat' split) <;> first | rfl | omega
set_option maxHeartbeats 2000000 in
theorem c_X3_canon (d : Nat) (hd : 6 ≤ d) (h : List AC) (g0 : h[0]? = some (ao 3 [vr 1, vr 3, vr 10, vr 25, vr 28])) (kp : Int) (g3 : h[3]? = some (ao 2 [vr 4, vr 9, vi kp])) (g4 : h[4]? = some (aq 3 4 rw4)) (m : Nat → Int) (hm : mt m) (hR : ∀ r : Int, 0 ≤ r → r < 4 → h[5 + r.toNat]? = some (ai 0 12 (rwm m r))) (r w : Int) (rr : -2147483648 ≤ r ∧ r < 2147483648) (rw : -2147483648 ≤ w ∧ w < 2147483648) : MF zX3_canon d [vr 0, vi r, vi w] h (V_canon szC m r w) h := by
  refine M0.of okX3_canon (Nat.le_of_ble_eq_true rfl) ?_
  refine AW.go 1 (pc' := 1) rfl ?_
  refine AW.callSF (pn := 4) rfl rfl mlX3_57 (c_X3_isRow (d - 1) (by omega) _ _ (by omega)) rfl rfl (Nat.le_of_ble_eq_true rfl) ⟨by show d - 1 + 1 ≤ d; omega, by show 40 * (d - 1 + 1) ≤ 40 * d; omega⟩ ⟨Nat.zero_le _, Nat.zero_le _⟩ ?_
  refine AW.bnz (tgt := 9) (pn := 7) rfl (by decide) rfl (fun c4 => ?_) (fun c4 => ?_)
  · refine AW.go 1 (pc' := 10) rfl ?_
    refine AW.br (tgt := 19) (pn := 13) rfl (by decide) rfl (by first | exact bI_rng _ | exact ⟨by omega, by omega⟩) (fun c10 => ?_) (fun c10 => ?_)
    · dsimp only [cmpI] at c10
      refine AW.go 1 (pc' := 21) rfl ?_
      refine AW.ret rfl rfl (Nat.le_refl _) (Nat.le_refl _) ?_
      refine ⟨congrArg some ?_, rfl⟩
      unfold V_canon szC
      (repeat' split) <;> first | rfl | omega
    · dsimp only [cmpI] at c10
      refine AW.go 2 (pc' := 16) rfl ?_
      refine AW.bi (tgt := 22) (pn := 19) rfl (by decide) rfl (by first | exact bI_rng _ | exact ⟨by omega, by omega⟩) (by first | exact bI_rng _ | exact ⟨by omega, by omega⟩) (fun c16 => ?_) (fun c16 => ?_)
      · dsimp only [cmpI] at c16
        have hwr := hR r (by omega) (by omega)
        have htr := rwm_tn hm (r := r) (by omega)
        refine AW.go 1 (pc' := 23) rfl ?_
        refine AW.getf (pn := 26) rfl rfl flX3_19 (by first | assumption | exact set_self (by assumption) | exact set_ne (by first | assumption | omega | decide) (by first | assumption | exact set_self (by assumption) | exact set_ne (by first | assumption | omega | decide) (by assumption))) rfl ?_
        refine AW.getf (pn := 29) rfl rfl flX3_61 (by first | assumption | exact set_self (by assumption) | exact set_ne (by first | assumption | omega | decide) (by first | assumption | exact set_self (by assumption) | exact set_ne (by first | assumption | omega | decide) (by assumption))) rfl ?_
        refine AW.go 1 (pc' := 30) rfl ?_
        refine AW.aald (pn := 31) rfl rfl (by first | assumption | exact set_self (by assumption) | exact set_ne (by first | assumption | omega | decide) (by first | assumption | exact set_self (by assumption) | exact set_ne (by first | assumption | omega | decide) (by assumption))) (by decide) (by decide) (by omega) (by omega) (rw4_at (by omega)) ?_
        refine AW.go 3 (pc' := 35) rfl ?_
        refine AW.bi (tgt := 43) (pn := 38) rfl (by decide) rfl (by first | exact bI_rng _ | exact ⟨by omega, by omega⟩) (by first | exact bI_rng _ | exact ⟨by omega, by omega⟩) (fun c35 => ?_) (fun c35 => ?_)
        · dsimp only [cmpI] at c35
          refine AW.go 1 (pc' := 44) rfl ?_
          refine AW.callSF (pn := 47) rfl rfl mlX3_108 (c_X3_leastForm (d - 1) (by omega) _ _ _ (by assumption) (by assumption)) rfl rfl (Nat.le_of_ble_eq_true rfl) ⟨by show d - 1 + 1 ≤ d; omega, by show 40 * (d - 1 + 1) ≤ 40 * d; omega⟩ ⟨Nat.zero_le _, Nat.zero_le _⟩ ?_
          refine AW.go 3 (pc' := 52) rfl ?_
          refine AW.bi (tgt := 60) (pn := 55) rfl (by decide) rfl (by first | exact bI_rng _ | exact ⟨by omega, by omega⟩) (by first | exact bI_rng _ | exact ⟨by omega, by omega⟩) (fun c52 => ?_) (fun c52 => ?_)
          · dsimp only [cmpI] at c52
            have hb := lfm_b (rwm m r) 47
            refine AW.go 4 (pc' := 66) rfl ?_
            refine AW.callSF (pn := 69) rfl rfl mlX3_85 (c_X3_formTone (d - 1) (by omega) _ _ _ (by assumption) (by assumption) _ _ _ (by omega) (by omega) (by omega)) rfl rfl (Nat.le_of_ble_eq_true rfl) ⟨by show d - 1 + 1 ≤ d; omega, by show 40 * (d - 1 + 1) ≤ 40 * d; omega⟩ ⟨Nat.zero_le _, Nat.zero_le _⟩ ?_
            refine AW.ret rfl rfl (Nat.le_refl _) (Nat.le_refl _) ?_
            refine ⟨congrArg some ?_, rfl⟩
            unfold V_canon szC
            (repeat' split) <;> first | rfl | omega
          · dsimp only [cmpI] at c52
            refine AW.go 2 (pc' := 69) rfl ?_
            refine AW.ret rfl rfl (Nat.le_refl _) (Nat.le_refl _) ?_
            refine ⟨congrArg some ?_, rfl⟩
            unfold V_canon szC
            (repeat' split) <;> first | rfl | omega
        · dsimp only [cmpI] at c35
          refine AW.go 1 (pc' := 39) rfl ?_
          refine AW.callSF (pn := 42) rfl rfl mlX3_105 (c_X3_sizeOf (d - 1) (by omega) _ _ _ (by assumption) (by assumption)) rfl rfl (Nat.le_of_ble_eq_true rfl) ⟨by show d - 1 + 1 ≤ d; omega, by show 40 * (d - 1 + 1) ≤ 40 * d; omega⟩ ⟨Nat.zero_le _, Nat.zero_le _⟩ ?_
          refine AW.ret rfl rfl (Nat.le_refl _) (Nat.le_refl _) ?_
          refine ⟨congrArg some ?_, rfl⟩
          unfold V_canon szC
          (repeat' split) <;> first | rfl | omega
      · dsimp only [cmpI] at c16
        refine AW.go 1 (pc' := 21) rfl ?_
        refine AW.ret rfl rfl (Nat.le_refl _) (Nat.le_refl _) ?_
        refine ⟨congrArg some ?_, rfl⟩
        unfold V_canon szC
        (repeat' split) <;> first | rfl | omega
  · refine AW.go 1 (pc' := 8) rfl ?_
    refine AW.ret rfl rfl (Nat.le_refl _) (Nat.le_refl _) ?_
    refine ⟨congrArg some ?_, rfl⟩
    unfold V_canon szC
    (repeat' split) <;> first | rfl | omega
set_option maxHeartbeats 2000000 in
theorem c_X3_step (d : Nat) (hd : 4 ≤ d) (h : List AC) (g0 : h[0]? = some (ao 3 [vr 1, vr 3, vr 10, vr 25, vr 28])) (kp : Int) (g3 : h[3]? = some (ao 2 [vr 4, vr 9, vi kp])) (g4 : h[4]? = some (aq 3 4 rw4)) (m : Nat → Int) (hm : mt m) (hR : ∀ r : Int, 0 ≤ r → r < 4 → h[5 + r.toNat]? = some (ai 0 12 (rwm m r))) (r w : Int) (rr : -2147483648 ≤ r ∧ r < 2147483648) (rw : -2147483648 ≤ w ∧ w < 2147483648) : MF zX3_step d [vr 0, vi r, vi w] h (V_step usC m r w) h := by
  refine M0.of okX3_step (Nat.le_of_ble_eq_true rfl) ?_
  refine AW.go 1 (pc' := 1) rfl ?_
  refine AW.callSF (pn := 4) rfl rfl mlX3_57 (c_X3_isRow (d - 1) (by omega) _ _ (by omega)) rfl rfl (Nat.le_of_ble_eq_true rfl) ⟨by show d - 1 + 1 ≤ d; omega, by show 40 * (d - 1 + 1) ≤ 40 * d; omega⟩ ⟨Nat.zero_le _, Nat.zero_le _⟩ ?_
  refine AW.bnz (tgt := 9) (pn := 7) rfl (by decide) rfl (fun c4 => ?_) (fun c4 => ?_)
  · refine AW.go 1 (pc' := 10) rfl ?_
    refine AW.br (tgt := 19) (pn := 13) rfl (by decide) rfl (by first | exact bI_rng _ | exact ⟨by omega, by omega⟩) (fun c10 => ?_) (fun c10 => ?_)
    · dsimp only [cmpI] at c10
      refine AW.go 1 (pc' := 21) rfl ?_
      refine AW.ret rfl rfl (Nat.le_refl _) (Nat.le_refl _) ?_
      refine ⟨congrArg some ?_, rfl⟩
      unfold V_step
      (repeat' split) <;> first | rfl | omega
    · dsimp only [cmpI] at c10
      refine AW.go 2 (pc' := 16) rfl ?_
      refine AW.bi (tgt := 22) (pn := 19) rfl (by decide) rfl (by first | exact bI_rng _ | exact ⟨by omega, by omega⟩) (by first | exact bI_rng _ | exact ⟨by omega, by omega⟩) (fun c16 => ?_) (fun c16 => ?_)
      · dsimp only [cmpI] at c16
        have hwr := hR r (by omega) (by omega)
        have htr := rwm_tn hm (r := r) (by omega)
        refine AW.go 1 (pc' := 23) rfl ?_
        refine AW.getf (pn := 26) rfl rfl flX3_19 (by first | assumption | exact set_self (by assumption) | exact set_ne (by first | assumption | omega | decide) (by first | assumption | exact set_self (by assumption) | exact set_ne (by first | assumption | omega | decide) (by assumption))) rfl ?_
        refine AW.getf (pn := 29) rfl rfl flX3_61 (by first | assumption | exact set_self (by assumption) | exact set_ne (by first | assumption | omega | decide) (by first | assumption | exact set_self (by assumption) | exact set_ne (by first | assumption | omega | decide) (by assumption))) rfl ?_
        refine AW.go 1 (pc' := 30) rfl ?_
        refine AW.aald (pn := 31) rfl rfl (by first | assumption | exact set_self (by assumption) | exact set_ne (by first | assumption | omega | decide) (by first | assumption | exact set_self (by assumption) | exact set_ne (by first | assumption | omega | decide) (by assumption))) (by decide) (by decide) (by omega) (by omega) (rw4_at (by omega)) ?_
        refine AW.go 3 (pc' := 35) rfl ?_
        refine AW.bi (tgt := 45) (pn := 38) rfl (by decide) rfl (by first | exact bI_rng _ | exact ⟨by omega, by omega⟩) (by first | exact bI_rng _ | exact ⟨by omega, by omega⟩) (fun c35 => ?_) (fun c35 => ?_)
        · dsimp only [cmpI] at c35
          refine AW.go 2 (pc' := 47) rfl ?_
          refine AW.callSF (pn := 50) rfl rfl mlX3_118 (c_X3_stepAt (d - 1) (by omega) _ _ _ (by assumption) (by assumption) _ (by omega)) rfl rfl (Nat.le_of_ble_eq_true rfl) ⟨by show d - 1 + 1 ≤ d; omega, by show 40 * (d - 1 + 1) ≤ 40 * d; omega⟩ ⟨Nat.zero_le _, Nat.zero_le _⟩ ?_
          refine AW.ret rfl rfl (Nat.le_refl _) (Nat.le_refl _) ?_
          refine ⟨congrArg some ?_, rfl⟩
          unfold V_step
          (repeat' split) <;> first | rfl | omega
        · dsimp only [cmpI] at c35
          refine AW.go 1 (pc' := 39) rfl ?_
          refine AW.callSF (pn := 42) rfl rfl mlX3_115 (c_X3_unlikeSteps (d - 1) (by omega) _ _ _ (by assumption) (by assumption)) rfl rfl (Nat.le_of_ble_eq_true rfl) ⟨by show d - 1 + 1 ≤ d; omega, by show 40 * (d - 1 + 1) ≤ 40 * d; omega⟩ ⟨Nat.zero_le _, Nat.zero_le _⟩ ?_
          refine AW.go 1 (pc' := 50) rfl ?_
          refine AW.ret rfl rfl (Nat.le_refl _) (Nat.le_refl _) ?_
          refine ⟨congrArg some ?_, rfl⟩
          unfold V_step
          (repeat' split) <;> first | rfl | omega
      · dsimp only [cmpI] at c16
        refine AW.go 1 (pc' := 21) rfl ?_
        refine AW.ret rfl rfl (Nat.le_refl _) (Nat.le_refl _) ?_
        refine ⟨congrArg some ?_, rfl⟩
        unfold V_step
        (repeat' split) <;> first | rfl | omega
  · refine AW.go 1 (pc' := 8) rfl ?_
    refine AW.ret rfl rfl (Nat.le_refl _) (Nat.le_refl _) ?_
    refine ⟨congrArg some ?_, rfl⟩
    unfold V_step
    (repeat' split) <;> first | rfl | omega
set_option maxHeartbeats 4000000 in
theorem l_X3_leads (d : Nat) (hd : 5 ≤ d) (h : List AC) (g0 : h[0]? = some (ao 3 [vr 1, vr 3, vr 10, vr 25, vr 28])) (kp : Int) (g3 : h[3]? = some (ao 2 [vr 4, vr 9, vi kp])) (g4 : h[4]? = some (aq 3 4 rw4)) (m : Nat → Int) (hm : mt m) (hR : ∀ r : Int, 0 ≤ r → r < 4 → h[5 + r.toNat]? = some (ai 0 12 (rwm m r))) (r o i : Int) (rr : 0 ≤ r ∧ r < 4) (ro : 0 ≤ o ∧ o < 4) (ri : -2147483648 ≤ i ∧ i < 2147483648) : ∀ (n : Nat) (k : Int) (c : Int), (0 ≤ k) → (k ≤ 48) → (0 ≤ c ∧ c ≤ k) → ((sel (fun F => isf (rwm m r) 12 (F : Int) (rwm m o) 0) i 48 0 0) = sel (fun F => isf (rwm m r) 12 (F : Int) (rwm m o) 0) i (48 - k).toNat k.toNat c) → ((48 - k).toNat) < n → AW zX3_leads Eq (rmd d) 0 0 0 0 22 [(5, vi k), (4, vi c), (0, vr 0), (1, vi r), (2, vi o), (3, vi i)] [] h (RQ (sel (fun F => isf (rwm m r) 12 (F : Int) (rwm m o) 0) i 48 0 0) h) := by
  intro n
  induction n with
  | zero =>
    intro k c h0 h1 hc hi hn
    exact absurd hn (Nat.not_lt_zero _)
  | succ n ih =>
    intro k c h0 h1 hc hi hn
    refine AW.go 2 (pc' := 26) rfl ?_
    refine AW.bi (tgt := 76) (pn := 29) rfl (by decide) rfl (by first | exact bI_rng _ | exact ⟨by omega, by omega⟩) (by first | exact bI_rng _ | exact ⟨by omega, by omega⟩) (fun c26 => ?_) (fun c26 => ?_)
    · dsimp only [cmpI] at c26
      refine AW.go 2 (pc' := 78) rfl ?_
      refine AW.bi (tgt := 86) (pn := 81) rfl (by decide) rfl (by first | exact bI_rng _ | exact ⟨by omega, by omega⟩) (by first | exact bI_rng _ | exact ⟨by omega, by omega⟩) (fun c78 => ?_) (fun c78 => ?_)
      · dsimp only [cmpI] at c78
        refine AW.go 1 (pc' := 88) rfl ?_
        refine AW.ret rfl rfl (Nat.le_refl _) (Nat.le_refl _) ?_
        refine ⟨congrArg some ?_, rfl⟩
        rw [hi, show (48 - k).toNat = 0 by omega]
        unfold sel
        first | rw [if_pos (by omega)] | rw [if_neg (by omega)]
      · dsimp only [cmpI] at c78
        refine AW.go 2 (pc' := 88) rfl ?_
        refine AW.ret rfl rfl (Nat.le_refl _) (Nat.le_refl _) ?_
        refine ⟨congrArg some ?_, rfl⟩
        rw [hi, show (48 - k).toNat = 0 by omega]
        unfold sel
        first | rw [if_pos (by omega)] | rw [if_neg (by omega)]
    · dsimp only [cmpI] at c26
      have hwr := hR r (by omega) (by omega)
      have htr := rwm_tn hm (r := r) (by omega)
      have hwo := hR o (by omega) (by omega)
      have hto := rwm_tn hm (r := o) (by omega)
      have hs : sel (fun F => isf (rwm m r) 12 (F : Int) (rwm m o) 0) i (48 - k).toNat k.toNat c = if isf (rwm m r) 12 k (rwm m o) 0 = true then (if c = i then k else sel (fun F => isf (rwm m r) 12 (F : Int) (rwm m o) 0) i ((48 - k).toNat - 1) (k.toNat + 1) (c + 1)) else sel (fun F => isf (rwm m r) 12 (F : Int) (rwm m o) 0) i ((48 - k).toNat - 1) (k.toNat + 1) c := by
        obtain ⟨q, hq⟩ : ∃ q, (48 - k).toNat = q + 1 := ⟨(48 - k).toNat - 1, by omega⟩
        rw [hq]
        show (if (fun F => isf (rwm m r) 12 (F : Int) (rwm m o) 0) (k.toNat) = true then (if c = i then (k.toNat : Int) else _) else _) = _
        simp only [kk h0]
        rfl
      refine AW.go 1 (pc' := 30) rfl ?_
      refine AW.getf (pn := 33) rfl rfl flX3_19 (by first | assumption | exact set_self (by assumption) | exact set_ne (by first | assumption | omega | decide) (by first | assumption | exact set_self (by assumption) | exact set_ne (by first | assumption | omega | decide) (by assumption))) rfl ?_
      refine AW.getf (pn := 36) rfl rfl flX3_61 (by first | assumption | exact set_self (by assumption) | exact set_ne (by first | assumption | omega | decide) (by first | assumption | exact set_self (by assumption) | exact set_ne (by first | assumption | omega | decide) (by assumption))) rfl ?_
      refine AW.go 1 (pc' := 37) rfl ?_
      refine AW.aald (pn := 38) rfl rfl (by first | assumption | exact set_self (by assumption) | exact set_ne (by first | assumption | omega | decide) (by first | assumption | exact set_self (by assumption) | exact set_ne (by first | assumption | omega | decide) (by assumption))) (by decide) (by decide) (by omega) (by omega) (rw4_at (by omega)) ?_
      refine AW.go 3 (pc' := 43) rfl ?_
      refine AW.getf (pn := 46) rfl rfl flX3_19 (by first | assumption | exact set_self (by assumption) | exact set_ne (by first | assumption | omega | decide) (by first | assumption | exact set_self (by assumption) | exact set_ne (by first | assumption | omega | decide) (by assumption))) rfl ?_
      refine AW.getf (pn := 49) rfl rfl flX3_61 (by first | assumption | exact set_self (by assumption) | exact set_ne (by first | assumption | omega | decide) (by first | assumption | exact set_self (by assumption) | exact set_ne (by first | assumption | omega | decide) (by assumption))) rfl ?_
      refine AW.go 1 (pc' := 50) rfl ?_
      refine AW.aald (pn := 51) rfl rfl (by first | assumption | exact set_self (by assumption) | exact set_ne (by first | assumption | omega | decide) (by first | assumption | exact set_self (by assumption) | exact set_ne (by first | assumption | omega | decide) (by assumption))) (by decide) (by decide) (by omega) (by omega) (rw4_at (by omega)) ?_
      refine AW.go 1 (pc' := 52) rfl ?_
      refine AW.callSF (pn := 55) rfl rfl mlX3_111 (c_X3_isFormOf (d - 1) (by omega) _ _ _ (by assumption) (by assumption) _ _ (by assumption) (by assumption) _ _ _ (by omega) (by omega) (by omega)) rfl rfl (Nat.le_of_ble_eq_true rfl) ⟨by show d - 1 + 1 ≤ d; omega, by show 40 * (d - 1 + 1) ≤ 40 * d; omega⟩ ⟨Nat.zero_le _, Nat.zero_le _⟩ ?_
      refine AW.bz (tgt := 70) (pn := 58) rfl (by decide) rfl (fun c55 => ?_) (fun c55 => ?_)
      · refine AW.go 2 (pc' := 22) rfl ?_
        first | (refine AW.lw ?_ (ih (k + 1) (c + 1) (by omega) (by omega) (by omega) ?_ (by omega)); exact (And.intro rfl (And.intro rfl (And.intro rfl (And.intro rfl (And.intro rfl (And.intro rfl trivial)))))); rw [k1 h0, show (48 - (k + 1)).toNat = (48 - k).toNat - 1 by omega, hi, hs]; (first | rw [if_pos c55, if_neg c61] | rw [if_neg c55])) | (refine AW.lw ?_ (ih (k + 1) (c) (by omega) (by omega) (by omega) ?_ (by omega)); exact (And.intro rfl (And.intro rfl (And.intro rfl (And.intro rfl (And.intro rfl (And.intro rfl trivial)))))); rw [k1 h0, show (48 - (k + 1)).toNat = (48 - k).toNat - 1 by omega, hi, hs]; (first | rw [if_pos c55, if_neg c61] | rw [if_neg c55]))
      · refine AW.go 2 (pc' := 61) rfl ?_
        refine AW.bi (tgt := 67) (pn := 64) rfl (by decide) rfl (by first | exact bI_rng _ | exact ⟨by omega, by omega⟩) (by first | exact bI_rng _ | exact ⟨by omega, by omega⟩) (fun c61 => ?_) (fun c61 => ?_)
        · dsimp only [cmpI] at c61
          refine AW.go 3 (pc' := 22) rfl ?_
          first | (refine AW.lw ?_ (ih (k + 1) (c + 1) (by omega) (by omega) (by omega) ?_ (by omega)); exact (And.intro rfl (And.intro rfl (And.intro rfl (And.intro rfl (And.intro rfl (And.intro rfl trivial)))))); rw [k1 h0, show (48 - (k + 1)).toNat = (48 - k).toNat - 1 by omega, hi, hs]; (first | rw [if_pos c55, if_neg c61] | rw [if_neg c55])) | (refine AW.lw ?_ (ih (k + 1) (c) (by omega) (by omega) (by omega) ?_ (by omega)); exact (And.intro rfl (And.intro rfl (And.intro rfl (And.intro rfl (And.intro rfl (And.intro rfl trivial)))))); rw [k1 h0, show (48 - (k + 1)).toNat = (48 - k).toNat - 1 by omega, hi, hs]; (first | rw [if_pos c55, if_neg c61] | rw [if_neg c55]))
        · dsimp only [cmpI] at c61
          refine AW.go 1 (pc' := 66) rfl ?_
          refine AW.ret rfl rfl (Nat.le_refl _) (Nat.le_refl _) ?_
          refine ⟨congrArg some ?_, rfl⟩
          rw [hi, hs, if_pos c55, if_pos (Decidable.not_not.mp c61)]
set_option maxHeartbeats 2000000 in
theorem c_X3_leads (d : Nat) (hd : 5 ≤ d) (h : List AC) (g0 : h[0]? = some (ao 3 [vr 1, vr 3, vr 10, vr 25, vr 28])) (kp : Int) (g3 : h[3]? = some (ao 2 [vr 4, vr 9, vi kp])) (g4 : h[4]? = some (aq 3 4 rw4)) (m : Nat → Int) (hm : mt m) (hR : ∀ r : Int, 0 ≤ r → r < 4 → h[5 + r.toNat]? = some (ai 0 12 (rwm m r))) (r o i : Int) (rr : -2147483648 ≤ r ∧ r < 2147483648) (ro : -2147483648 ≤ o ∧ o < 2147483648) (ri : -2147483648 ≤ i ∧ i < 2147483648) : MF zX3_leads d [vr 0, vi r, vi o, vi i] h (V_leads m r o i) h := by
  refine M0.of okX3_leads (Nat.le_of_ble_eq_true rfl) ?_
  refine AW.go 1 (pc' := 1) rfl ?_
  refine AW.callSF (pn := 4) rfl rfl mlX3_57 (c_X3_isRow (d - 1) (by omega) _ _ (by omega)) rfl rfl (Nat.le_of_ble_eq_true rfl) ⟨by show d - 1 + 1 ≤ d; omega, by show 40 * (d - 1 + 1) ≤ 40 * d; omega⟩ ⟨Nat.zero_le _, Nat.zero_le _⟩ ?_
  refine AW.bz (tgt := 14) (pn := 7) rfl (by decide) rfl (fun c4 => ?_) (fun c4 => ?_)
  · refine AW.go 1 (pc' := 15) rfl ?_
    refine AW.ret rfl rfl (Nat.le_refl _) (Nat.le_refl _) ?_
    refine ⟨congrArg some ?_, rfl⟩
    unfold V_leads
    (repeat' split) <;> first | rfl | omega
  · refine AW.go 1 (pc' := 8) rfl ?_
    refine AW.callSF (pn := 11) rfl rfl mlX3_57 (c_X3_isRow (d - 1) (by omega) _ _ (by omega)) rfl rfl (Nat.le_of_ble_eq_true rfl) ⟨by show d - 1 + 1 ≤ d; omega, by show 40 * (d - 1 + 1) ≤ 40 * d; omega⟩ ⟨Nat.zero_le _, Nat.zero_le _⟩ ?_
    refine AW.bnz (tgt := 16) (pn := 14) rfl (by decide) rfl (fun c11 => ?_) (fun c11 => ?_)
    · refine AW.go 4 (pc' := 22) rfl ?_
      unfold V_leads
      rw [if_pos ⟨c4, c11⟩]
      refine AW.lw ?_ (l_X3_leads d hd h g0 kp g3 g4 m hm hR r o i c4 c11 ri _ 0 0 (by omega) (by omega) (by omega) rfl (Nat.lt_succ_self _))
      exact (And.intro rfl (And.intro rfl (And.intro rfl (And.intro rfl (And.intro rfl (And.intro rfl trivial))))))
    · refine AW.go 1 (pc' := 15) rfl ?_
      refine AW.ret rfl rfl (Nat.le_refl _) (Nat.le_refl _) ?_
      refine ⟨congrArg some ?_, rfl⟩
      unfold V_leads
      (repeat' split) <;> first | rfl | omega
set_option maxHeartbeats 4000000 in
theorem l_X3_partner (d : Nat) (hd : 5 ≤ d) (h : List AC) (g0 : h[0]? = some (ao 3 [vr 1, vr 3, vr 10, vr 25, vr 28])) (kp : Int) (g3 : h[3]? = some (ao 2 [vr 4, vr 9, vi kp])) (g4 : h[4]? = some (aq 3 4 rw4)) (m : Nat → Int) (hm : mt m) (hR : ∀ r : Int, 0 ≤ r → r < 4 → h[5 + r.toNat]? = some (ai 0 12 (rwm m r))) (r i : Int) (rr : 0 ≤ r ∧ r < 4) (ri : -2147483648 ≤ i ∧ i < 2147483648) : ∀ (n : Nat) (k : Int) (c : Int), (0 ≤ k) → (k ≤ 48) → (0 ≤ c ∧ c ≤ k) → ((sel (prt (rwm m r)) i 48 0 0) = sel (prt (rwm m r)) i (48 - k).toNat k.toNat c) → ((48 - k).toNat) < n → AW zX3_partner Eq (rmd d) 0 0 0 0 32 [(5, vi k), (4, vi c), (3, vi (fst12 (rwm m r) 0 0 6 : Int)), (0, vr 0), (1, vi r), (2, vi i)] [] h (RQ (sel (prt (rwm m r)) i 48 0 0) h) := by
  intro n
  induction n with
  | zero =>
    intro k c h0 h1 hc hi hn
    exact absurd hn (Nat.not_lt_zero _)
  | succ n ih =>
    intro k c h0 h1 hc hi hn
    refine AW.go 2 (pc' := 36) rfl ?_
    refine AW.bi (tgt := 79) (pn := 39) rfl (by decide) rfl (by first | exact bI_rng _ | exact ⟨by omega, by omega⟩) (by first | exact bI_rng _ | exact ⟨by omega, by omega⟩) (fun c36 => ?_) (fun c36 => ?_)
    · dsimp only [cmpI] at c36
      refine AW.go 2 (pc' := 81) rfl ?_
      refine AW.bi (tgt := 89) (pn := 84) rfl (by decide) rfl (by first | exact bI_rng _ | exact ⟨by omega, by omega⟩) (by first | exact bI_rng _ | exact ⟨by omega, by omega⟩) (fun c81 => ?_) (fun c81 => ?_)
      · dsimp only [cmpI] at c81
        refine AW.go 1 (pc' := 91) rfl ?_
        refine AW.ret rfl rfl (Nat.le_refl _) (Nat.le_refl _) ?_
        refine ⟨congrArg some ?_, rfl⟩
        rw [hi, show (48 - k).toNat = 0 by omega]
        unfold sel
        first | rw [if_pos (by omega)] | rw [if_neg (by omega)]
      · dsimp only [cmpI] at c81
        refine AW.go 2 (pc' := 91) rfl ?_
        refine AW.ret rfl rfl (Nat.le_refl _) (Nat.le_refl _) ?_
        refine ⟨congrArg some ?_, rfl⟩
        rw [hi, show (48 - k).toNat = 0 by omega]
        unfold sel
        first | rw [if_pos (by omega)] | rw [if_neg (by omega)]
    · dsimp only [cmpI] at c36
      have hwr := hR r (by omega) (by omega)
      have htr := rwm_tn hm (r := r) (by omega)
      have hs : sel (prt (rwm m r)) i (48 - k).toNat k.toNat c = if decide (fst12 (rwm m r) k 0 6 &&& fst12 (rwm m r) 0 0 6 = 0) = true then (if c = i then k else sel (prt (rwm m r)) i ((48 - k).toNat - 1) (k.toNat + 1) (c + 1)) else sel (prt (rwm m r)) i ((48 - k).toNat - 1) (k.toNat + 1) c := by
        obtain ⟨q, hq⟩ : ∃ q, (48 - k).toNat = q + 1 := ⟨(48 - k).toNat - 1, by omega⟩
        rw [hq]
        show (if (prt (rwm m r)) (k.toNat) = true then (if c = i then (k.toNat : Int) else _) else _) = _
        simp only [prt, kk h0]
        rfl
      
      refine AW.go 1 (pc' := 40) rfl ?_
      refine AW.getf (pn := 43) rfl rfl flX3_19 (by first | assumption | exact set_self (by assumption) | exact set_ne (by first | assumption | omega | decide) (by first | assumption | exact set_self (by assumption) | exact set_ne (by first | assumption | omega | decide) (by assumption))) rfl ?_
      refine AW.getf (pn := 46) rfl rfl flX3_61 (by first | assumption | exact set_self (by assumption) | exact set_ne (by first | assumption | omega | decide) (by first | assumption | exact set_self (by assumption) | exact set_ne (by first | assumption | omega | decide) (by assumption))) rfl ?_
      refine AW.go 1 (pc' := 47) rfl ?_
      refine AW.aald (pn := 48) rfl rfl (by first | assumption | exact set_self (by assumption) | exact set_ne (by first | assumption | omega | decide) (by first | assumption | exact set_self (by assumption) | exact set_ne (by first | assumption | omega | decide) (by assumption))) (by decide) (by decide) (by omega) (by omega) (rw4_at (by omega)) ?_
      refine AW.go 3 (pc' := 53) rfl ?_
      refine AW.callSF (pn := 56) rfl rfl mlX3_122 (c_X3_formSet (d - 1) (by omega) _ _ _ (by assumption) (by assumption) _ _ _ (by omega) (by omega)) rfl rfl (Nat.le_of_ble_eq_true rfl) ⟨by show d - 1 + 1 ≤ d; omega, by show 40 * (d - 1 + 1) ≤ 40 * d; omega⟩ ⟨Nat.zero_le _, Nat.zero_le _⟩ ?_
      refine AW.go 1 (pc' := 57) rfl ?_
      refine AW.andN (pn := 58) rfl rfl ?_
      have g1 : fst12 (rwm m r) k 0 (6 : Int).toNat &&& fst12 (rwm m r) 0 0 6 < 4096 := Nat.lt_of_le_of_lt Nat.and_le_right (fst12_lt _ _ _ _)
      change fst12 (rwm m r) k 0 6 &&& fst12 (rwm m r) 0 0 6 < 4096 at g1
      rw [show (6 : Int).toNat = 6 from rfl]
      refine AW.br (tgt := 73) (pn := 61) rfl (by decide) rfl (by first | exact bI_rng _ | exact ⟨by omega, by omega⟩) (fun c58 => ?_) (fun c58 => ?_)
      · dsimp only [cmpI] at c58
        refine AW.go 2 (pc' := 32) rfl ?_
        first | (refine AW.lw ?_ (ih (k + 1) (c + 1) (by omega) (by omega) (by omega) ?_ (by omega)); exact (And.intro rfl (And.intro rfl (And.intro rfl (And.intro rfl (And.intro rfl (And.intro rfl trivial)))))); rw [k1 h0, show (48 - (k + 1)).toNat = (48 - k).toNat - 1 by omega, hi, hs]; (first | rw [if_pos (decide_eq_true (by omega)), if_neg c64] | rw [if_neg (fun q => c58 (by have q := of_decide_eq_true q; omega))])) | (refine AW.lw ?_ (ih (k + 1) (c) (by omega) (by omega) (by omega) ?_ (by omega)); exact (And.intro rfl (And.intro rfl (And.intro rfl (And.intro rfl (And.intro rfl (And.intro rfl trivial)))))); rw [k1 h0, show (48 - (k + 1)).toNat = (48 - k).toNat - 1 by omega, hi, hs]; (first | rw [if_pos (decide_eq_true (by omega)), if_neg c64] | rw [if_neg (fun q => c58 (by have q := of_decide_eq_true q; omega))]))
      · dsimp only [cmpI] at c58
        refine AW.go 2 (pc' := 64) rfl ?_
        refine AW.bi (tgt := 70) (pn := 67) rfl (by decide) rfl (by first | exact bI_rng _ | exact ⟨by omega, by omega⟩) (by first | exact bI_rng _ | exact ⟨by omega, by omega⟩) (fun c64 => ?_) (fun c64 => ?_)
        · dsimp only [cmpI] at c64
          refine AW.go 3 (pc' := 32) rfl ?_
          first | (refine AW.lw ?_ (ih (k + 1) (c + 1) (by omega) (by omega) (by omega) ?_ (by omega)); exact (And.intro rfl (And.intro rfl (And.intro rfl (And.intro rfl (And.intro rfl (And.intro rfl trivial)))))); rw [k1 h0, show (48 - (k + 1)).toNat = (48 - k).toNat - 1 by omega, hi, hs]; (first | rw [if_pos (decide_eq_true (by omega)), if_neg c64] | rw [if_neg (fun q => c58 (by have q := of_decide_eq_true q; omega))])) | (refine AW.lw ?_ (ih (k + 1) (c) (by omega) (by omega) (by omega) ?_ (by omega)); exact (And.intro rfl (And.intro rfl (And.intro rfl (And.intro rfl (And.intro rfl (And.intro rfl trivial)))))); rw [k1 h0, show (48 - (k + 1)).toNat = (48 - k).toNat - 1 by omega, hi, hs]; (first | rw [if_pos (decide_eq_true (by omega)), if_neg c64] | rw [if_neg (fun q => c58 (by have q := of_decide_eq_true q; omega))]))
        · dsimp only [cmpI] at c64
          refine AW.go 1 (pc' := 69) rfl ?_
          refine AW.ret rfl rfl (Nat.le_refl _) (Nat.le_refl _) ?_
          refine ⟨congrArg some ?_, rfl⟩
          rw [hi, hs, if_pos (decide_eq_true (by omega)), if_pos (Decidable.not_not.mp c64)]
set_option maxHeartbeats 2000000 in
theorem c_X3_partner (d : Nat) (hd : 5 ≤ d) (h : List AC) (g0 : h[0]? = some (ao 3 [vr 1, vr 3, vr 10, vr 25, vr 28])) (kp : Int) (g3 : h[3]? = some (ao 2 [vr 4, vr 9, vi kp])) (g4 : h[4]? = some (aq 3 4 rw4)) (m : Nat → Int) (hm : mt m) (hR : ∀ r : Int, 0 ≤ r → r < 4 → h[5 + r.toNat]? = some (ai 0 12 (rwm m r))) (r i : Int) (rr : -2147483648 ≤ r ∧ r < 2147483648) (ri : -2147483648 ≤ i ∧ i < 2147483648) : MF zX3_partner d [vr 0, vi r, vi i] h (V_partner m r i) h := by
  refine M0.of okX3_partner (Nat.le_of_ble_eq_true rfl) ?_
  refine AW.go 1 (pc' := 1) rfl ?_
  refine AW.callSF (pn := 4) rfl rfl mlX3_57 (c_X3_isRow (d - 1) (by omega) _ _ (by omega)) rfl rfl (Nat.le_of_ble_eq_true rfl) ⟨by show d - 1 + 1 ≤ d; omega, by show 40 * (d - 1 + 1) ≤ 40 * d; omega⟩ ⟨Nat.zero_le _, Nat.zero_le _⟩ ?_
  refine AW.bnz (tgt := 9) (pn := 7) rfl (by decide) rfl (fun c4 => ?_) (fun c4 => ?_)
  · have hwr := hR r (by omega) (by omega)
    have htr := rwm_tn hm (r := r) (by omega)
    refine AW.go 1 (pc' := 10) rfl ?_
    refine AW.getf (pn := 13) rfl rfl flX3_19 (by first | assumption | exact set_self (by assumption) | exact set_ne (by first | assumption | omega | decide) (by first | assumption | exact set_self (by assumption) | exact set_ne (by first | assumption | omega | decide) (by assumption))) rfl ?_
    refine AW.getf (pn := 16) rfl rfl flX3_61 (by first | assumption | exact set_self (by assumption) | exact set_ne (by first | assumption | omega | decide) (by first | assumption | exact set_self (by assumption) | exact set_ne (by first | assumption | omega | decide) (by assumption))) rfl ?_
    refine AW.go 1 (pc' := 17) rfl ?_
    refine AW.aald (pn := 18) rfl rfl (by first | assumption | exact set_self (by assumption) | exact set_ne (by first | assumption | omega | decide) (by first | assumption | exact set_self (by assumption) | exact set_ne (by first | assumption | omega | decide) (by assumption))) (by decide) (by decide) (by omega) (by omega) (rw4_at (by omega)) ?_
    refine AW.go 3 (pc' := 22) rfl ?_
    refine AW.callSF (pn := 25) rfl rfl mlX3_122 (c_X3_formSet (d - 1) (by omega) _ _ _ (by assumption) (by assumption) _ _ _ (by omega) (by omega)) rfl rfl (Nat.le_of_ble_eq_true rfl) ⟨by show d - 1 + 1 ≤ d; omega, by show 40 * (d - 1 + 1) ≤ 40 * d; omega⟩ ⟨Nat.zero_le _, Nat.zero_le _⟩ ?_
    refine AW.go 5 (pc' := 32) rfl ?_
    unfold V_partner
    rw [if_pos c4]
    refine AW.lw ?_ (l_X3_partner d hd h g0 kp g3 g4 m hm hR r i c4 ri _ 0 0 (by omega) (by omega) (by omega) rfl (Nat.lt_succ_self _))
    exact (And.intro rfl (And.intro rfl (And.intro rfl (And.intro rfl (And.intro rfl (And.intro rfl trivial))))))
  · refine AW.go 1 (pc' := 8) rfl ?_
    refine AW.ret rfl rfl (Nat.le_refl _) (Nat.le_refl _) ?_
    refine ⟨congrArg some ?_, rfl⟩
    unfold V_partner
    (repeat' split) <;> first | rfl | omega
set_option maxHeartbeats 4000000 in
theorem l_X3_shared (d : Nat) (hd : 6 ≤ d) (h : List AC) (g0 : h[0]? = some (ao 3 [vr 1, vr 3, vr 10, vr 25, vr 28])) (kp : Int) (g3 : h[3]? = some (ao 2 [vr 4, vr 9, vi kp])) (g4 : h[4]? = some (aq 3 4 rw4)) (m : Nat → Int) (hm : mt m) (hR : ∀ r : Int, 0 ≤ r → r < 4 → h[5 + r.toNat]? = some (ai 0 12 (rwm m r))) (r F N : Int) (rr : 0 ≤ r ∧ r < 4) (rF : 0 ≤ F ∧ F < 48) (rN : 2 ≤ N ∧ N ≤ 6) : ∀ (n : Nat) (k : Int) (c : Int), (0 ≤ k) → (k ≤ 13 - N) → (c = ((cntN (fun s => hsg (rwm m r) F N (fst12 (rwm m r) 0 (s : Int) N.toNat : Int)) k.toNat : Nat) : Int)) → ((13 - N - k).toNat) < n → AW zX3_shared Eq (rmd d) 0 0 0 0 36 [(5, vi k), (4, vi c), (0, vr 0), (1, vi r), (2, vi F), (3, vi N)] [] h (RQ ((cntN (fun s => hsg (rwm m r) F N (fst12 (rwm m r) 0 (s : Int) N.toNat : Int)) (13 - N).toNat : Nat) : Int) h) := by
  intro n
  induction n with
  | zero =>
    intro k c h0 h1 hc hn
    exact absurd hn (Nat.not_lt_zero _)
  | succ n ih =>
    intro k c h0 h1 hc hn
    refine AW.go 4 (pc' := 42) rfl ?_
    refine AW.bi (tgt := 87) (pn := 45) rfl (by decide) rfl (by first | exact bI_rng _ | exact ⟨by omega, by omega⟩) (by first | exact bI_rng _ | exact ⟨by omega, by omega⟩) (fun c42 => ?_) (fun c42 => ?_)
    · dsimp only [cmpI] at c42
      refine AW.go 1 (pc' := 89) rfl ?_
      refine AW.ret rfl rfl (Nat.le_refl _) (Nat.le_refl _) ?_
      refine ⟨congrArg some ?_, rfl⟩
      rw [hc, show k = 13 - N by omega]
    · dsimp only [cmpI] at c42
      have hwr := hR r (by omega) (by omega)
      have htr := rwm_tn hm (r := r) (by omega)
      refine AW.go 1 (pc' := 46) rfl ?_
      refine AW.getf (pn := 49) rfl rfl flX3_19 (by first | assumption | exact set_self (by assumption) | exact set_ne (by first | assumption | omega | decide) (by first | assumption | exact set_self (by assumption) | exact set_ne (by first | assumption | omega | decide) (by assumption))) rfl ?_
      refine AW.getf (pn := 52) rfl rfl flX3_61 (by first | assumption | exact set_self (by assumption) | exact set_ne (by first | assumption | omega | decide) (by first | assumption | exact set_self (by assumption) | exact set_ne (by first | assumption | omega | decide) (by assumption))) rfl ?_
      refine AW.go 1 (pc' := 53) rfl ?_
      refine AW.aald (pn := 54) rfl rfl (by first | assumption | exact set_self (by assumption) | exact set_ne (by first | assumption | omega | decide) (by first | assumption | exact set_self (by assumption) | exact set_ne (by first | assumption | omega | decide) (by assumption))) (by decide) (by decide) (by omega) (by omega) (rw4_at (by omega)) ?_
      refine AW.go 3 (pc' := 57) rfl ?_
      refine AW.getf (pn := 60) rfl rfl flX3_19 (by first | assumption | exact set_self (by assumption) | exact set_ne (by first | assumption | omega | decide) (by first | assumption | exact set_self (by assumption) | exact set_ne (by first | assumption | omega | decide) (by assumption))) rfl ?_
      refine AW.getf (pn := 63) rfl rfl flX3_61 (by first | assumption | exact set_self (by assumption) | exact set_ne (by first | assumption | omega | decide) (by first | assumption | exact set_self (by assumption) | exact set_ne (by first | assumption | omega | decide) (by assumption))) rfl ?_
      refine AW.go 1 (pc' := 64) rfl ?_
      refine AW.aald (pn := 65) rfl rfl (by first | assumption | exact set_self (by assumption) | exact set_ne (by first | assumption | omega | decide) (by first | assumption | exact set_self (by assumption) | exact set_ne (by first | assumption | omega | decide) (by assumption))) (by decide) (by decide) (by omega) (by omega) (rw4_at (by omega)) ?_
      refine AW.go 3 (pc' := 69) rfl ?_
      refine AW.callSF (pn := 72) rfl rfl mlX3_122 (c_X3_formSet (d - 1) (by omega) _ _ _ (by assumption) (by assumption) _ _ _ (by omega) (by omega)) rfl rfl (Nat.le_of_ble_eq_true rfl) ⟨by show d - 1 + 1 ≤ d; omega, by show 40 * (d - 1 + 1) ≤ 40 * d; omega⟩ ⟨Nat.zero_le _, Nat.zero_le _⟩ ?_
      have g1 := fst12_lt (rwm m r) 0 k N.toNat
      refine AW.callSF (pn := 75) rfl rfl mlX3_125 (c_X3_hasSegment (d - 1) (by omega) _ _ _ (by assumption) (by assumption) _ _ _ (by omega) (by omega) (by omega)) rfl rfl (Nat.le_of_ble_eq_true rfl) ⟨by show d - 1 + 1 ≤ d; omega, by show 40 * (d - 1 + 1) ≤ 40 * d; omega⟩ ⟨Nat.zero_le _, Nat.zero_le _⟩ ?_
      refine AW.bz (tgt := 81) (pn := 78) rfl (by decide) rfl (fun c75 => ?_) (fun c75 => ?_)
      · refine AW.go 2 (pc' := 36) rfl ?_
        first | (refine AW.lw ?_ (ih (k + 1) (c + 1) (by omega) (by omega) ?_ (by omega)); exact (And.intro rfl (And.intro rfl (And.intro rfl (And.intro rfl (And.intro rfl (And.intro rfl trivial)))))); rw [cntN_s h0, kk h0]; (first | rw [if_pos c75] | rw [if_neg c75]); rw [hc]; rfl) | (refine AW.lw ?_ (ih (k + 1) (c) (by omega) (by omega) ?_ (by omega)); exact (And.intro rfl (And.intro rfl (And.intro rfl (And.intro rfl (And.intro rfl (And.intro rfl trivial)))))); rw [cntN_s h0, kk h0]; (first | rw [if_pos c75] | rw [if_neg c75]); rw [hc]; rfl)
      · refine AW.go 3 (pc' := 36) rfl ?_
        first | (refine AW.lw ?_ (ih (k + 1) (c + 1) (by omega) (by omega) ?_ (by omega)); exact (And.intro rfl (And.intro rfl (And.intro rfl (And.intro rfl (And.intro rfl (And.intro rfl trivial)))))); rw [cntN_s h0, kk h0]; (first | rw [if_pos c75] | rw [if_neg c75]); rw [hc]; rfl) | (refine AW.lw ?_ (ih (k + 1) (c) (by omega) (by omega) ?_ (by omega)); exact (And.intro rfl (And.intro rfl (And.intro rfl (And.intro rfl (And.intro rfl (And.intro rfl trivial)))))); rw [cntN_s h0, kk h0]; (first | rw [if_pos c75] | rw [if_neg c75]); rw [hc]; rfl)
set_option maxHeartbeats 2000000 in
theorem c_X3_shared (d : Nat) (hd : 6 ≤ d) (h : List AC) (g0 : h[0]? = some (ao 3 [vr 1, vr 3, vr 10, vr 25, vr 28])) (kp : Int) (g3 : h[3]? = some (ao 2 [vr 4, vr 9, vi kp])) (g4 : h[4]? = some (aq 3 4 rw4)) (m : Nat → Int) (hm : mt m) (hR : ∀ r : Int, 0 ≤ r → r < 4 → h[5 + r.toNat]? = some (ai 0 12 (rwm m r))) (r F N : Int) (rr : -2147483648 ≤ r ∧ r < 2147483648) (rF : -2147483648 ≤ F ∧ F < 2147483648) (rN : -2147483648 ≤ N ∧ N < 2147483648) : MF zX3_shared d [vr 0, vi r, vi F, vi N] h (V_shared m r F N) h := by
  refine M0.of okX3_shared (Nat.le_of_ble_eq_true rfl) ?_
  refine AW.go 1 (pc' := 1) rfl ?_
  refine AW.callSF (pn := 4) rfl rfl mlX3_57 (c_X3_isRow (d - 1) (by omega) _ _ (by omega)) rfl rfl (Nat.le_of_ble_eq_true rfl) ⟨by show d - 1 + 1 ≤ d; omega, by show 40 * (d - 1 + 1) ≤ 40 * d; omega⟩ ⟨Nat.zero_le _, Nat.zero_le _⟩ ?_
  refine AW.bz (tgt := 14) (pn := 7) rfl (by decide) rfl (fun c4 => ?_) (fun c4 => ?_)
  · refine AW.go 1 (pc' := 15) rfl ?_
    refine AW.ret rfl rfl (Nat.le_refl _) (Nat.le_refl _) ?_
    refine ⟨congrArg some ?_, rfl⟩
    unfold V_shared
    (repeat' split) <;> first | rfl | omega
  · refine AW.go 1 (pc' := 8) rfl ?_
    refine AW.callSF (pn := 11) rfl rfl mlX3_82 (c_X3_isForm (d - 1) (by omega) _ _ (by omega)) rfl rfl (Nat.le_of_ble_eq_true rfl) ⟨by show d - 1 + 1 ≤ d; omega, by show 40 * (d - 1 + 1) ≤ 40 * d; omega⟩ ⟨Nat.zero_le _, Nat.zero_le _⟩ ?_
    refine AW.bnz (tgt := 16) (pn := 14) rfl (by decide) rfl (fun c11 => ?_) (fun c11 => ?_)
    · refine AW.go 2 (pc' := 18) rfl ?_
      refine AW.bi (tgt := 27) (pn := 21) rfl (by decide) rfl (by first | exact bI_rng _ | exact ⟨by omega, by omega⟩) (by first | exact bI_rng _ | exact ⟨by omega, by omega⟩) (fun c18 => ?_) (fun c18 => ?_)
      · dsimp only [cmpI] at c18
        refine AW.go 1 (pc' := 29) rfl ?_
        refine AW.ret rfl rfl (Nat.le_refl _) (Nat.le_refl _) ?_
        refine ⟨congrArg some ?_, rfl⟩
        unfold V_shared
        (repeat' split) <;> first | rfl | omega
      · dsimp only [cmpI] at c18
        refine AW.go 2 (pc' := 24) rfl ?_
        refine AW.bi (tgt := 30) (pn := 27) rfl (by decide) rfl (by first | exact bI_rng _ | exact ⟨by omega, by omega⟩) (by first | exact bI_rng _ | exact ⟨by omega, by omega⟩) (fun c24 => ?_) (fun c24 => ?_)
        · dsimp only [cmpI] at c24
          refine AW.go 4 (pc' := 36) rfl ?_
          unfold V_shared
          rw [if_pos ⟨c4, c11⟩, if_pos (by omega)]
          refine AW.lw ?_ (l_X3_shared d hd h g0 kp g3 g4 m hm hR r F N c4 c11 (by omega) _ 0 0 (by omega) (by omega) rfl (Nat.lt_succ_self _))
          exact (And.intro rfl (And.intro rfl (And.intro rfl (And.intro rfl (And.intro rfl (And.intro rfl trivial))))))
        · dsimp only [cmpI] at c24
          refine AW.go 1 (pc' := 29) rfl ?_
          refine AW.ret rfl rfl (Nat.le_refl _) (Nat.le_refl _) ?_
          refine ⟨congrArg some ?_, rfl⟩
          unfold V_shared
          (repeat' split) <;> first | rfl | omega
    · refine AW.go 1 (pc' := 15) rfl ?_
      refine AW.ret rfl rfl (Nat.le_refl _) (Nat.le_refl _) ?_
      refine ⟨congrArg some ?_, rfl⟩
      unfold V_shared
      (repeat' split) <;> first | rfl | omega
set_option maxHeartbeats 4000000 in
theorem l_X3_derived (d : Nat) (hd : 6 ≤ d) (h : List AC) (g0 : h[0]? = some (ao 3 [vr 1, vr 3, vr 10, vr 25, vr 28])) (kp : Int) (g3 : h[3]? = some (ao 2 [vr 4, vr 9, vi kp])) (g4 : h[4]? = some (aq 3 4 rw4)) (m : Nat → Int) (hm : mt m) (hR : ∀ r : Int, 0 ≤ r → r < 4 → h[5 + r.toNat]? = some (ai 0 12 (rwm m r))) (r N : Int) (rr : 0 ≤ r ∧ r < 4) (hN : N = 2 ∨ N = 3 ∨ N = 4 ∨ N = 6) : ∀ (n : Nat) (k : Int) (s : Int), (0 ≤ k) → (k ≤ 12 / N - 1) → (s = N * (k + 1)) → (drv (rwm m r) N k.toNat = true) → ((12 / N - 1 - k).toNat) < n → AW zX3_derived Eq (rmd d) 0 0 0 0 35 [(3, vi s), (0, vr 0), (1, vi r), (2, vi N)] [] h (RQ (bI (drv (rwm m r) N ((12 / N).toNat - 1) = true)) h) := by
  intro n
  induction n with
  | zero =>
    intro k s h0 h1 hsk hi hn
    exact absurd hn (Nat.not_lt_zero _)
  | succ n ih =>
    intro k s h0 h1 hsk hi hn
    have hsb : 0 ≤ s ∧ s ≤ 12 := by rw [hsk]; rcases hN with rfl | rfl | rfl | rfl <;> omega
    have hNb : 2 ≤ N ∧ N ≤ 6 := by omega
    refine AW.go 4 (pc' := 40) rfl ?_
    refine AW.bi (tgt := 69) (pn := 43) rfl (by decide) rfl (by first | exact bI_rng _ | exact ⟨by omega, by omega⟩) (by first | exact bI_rng _ | exact ⟨by omega, by omega⟩) (fun c40 => ?_) (fun c40 => ?_)
    · dsimp only [cmpI] at c40
      refine AW.go 1 (pc' := 70) rfl ?_
      refine AW.ret rfl rfl (Nat.le_refl _) (Nat.le_refl _) ?_
      refine ⟨congrArg some (bI_t ?_).symm, rfl⟩
      rw [show (12 / N).toNat - 1 = k.toNat by rcases hN with rfl | rfl | rfl | rfl <;> omega]
      exact hi
    · dsimp only [cmpI] at c40
      have hwr := hR r (by omega) (by omega)
      have htr := rwm_tn hm (r := r) (by omega)
      refine AW.go 1 (pc' := 44) rfl ?_
      refine AW.getf (pn := 47) rfl rfl flX3_19 (by first | assumption | exact set_self (by assumption) | exact set_ne (by first | assumption | omega | decide) (by first | assumption | exact set_self (by assumption) | exact set_ne (by first | assumption | omega | decide) (by assumption))) rfl ?_
      refine AW.getf (pn := 50) rfl rfl flX3_61 (by first | assumption | exact set_self (by assumption) | exact set_ne (by first | assumption | omega | decide) (by first | assumption | exact set_self (by assumption) | exact set_ne (by first | assumption | omega | decide) (by assumption))) rfl ?_
      refine AW.go 1 (pc' := 51) rfl ?_
      refine AW.aald (pn := 52) rfl rfl (by first | assumption | exact set_self (by assumption) | exact set_ne (by first | assumption | omega | decide) (by first | assumption | exact set_self (by assumption) | exact set_ne (by first | assumption | omega | decide) (by assumption))) (by decide) (by decide) (by omega) (by omega) (rw4_at (by omega)) ?_
      refine AW.go 2 (pc' := 54) rfl ?_
      refine AW.callSF (pn := 57) rfl rfl mlX3_129 (c_X3_isAnyFormOf (d - 1) (by omega) _ _ _ (by assumption) (by assumption) _ _ (by omega) (by omega)) rfl rfl (Nat.le_of_ble_eq_true rfl) ⟨by show d - 1 + 1 ≤ d; omega, by show 40 * (d - 1 + 1) ≤ 40 * d; omega⟩ ⟨Nat.zero_le _, Nat.zero_le _⟩ ?_
      refine AW.bnz (tgt := 62) (pn := 60) rfl (by decide) rfl (fun c57 => ?_) (fun c57 => ?_)
      · refine AW.go 5 (pc' := 35) rfl ?_
        refine AW.lw ?_ (ih (k + 1) (s + N) (by omega) (by rcases hN with rfl | rfl | rfl | rfl <;> omega) (by rw [hsk]; rcases hN with rfl | rfl | rfl | rfl <;> omega) (by unfold drv; rw [allN_s h0, kk h0, ← hsk, c57, Bool.and_true]; exact hi) (by rcases hN with rfl | rfl | rfl | rfl <;> omega))
        exact (And.intro rfl (And.intro rfl (And.intro rfl (And.intro rfl trivial))))
      · refine AW.go 1 (pc' := 61) rfl ?_
        refine AW.ret rfl rfl (Nat.le_refl _) (Nat.le_refl _) ?_
        refine ⟨congrArg some (bI_f (fun q => ?_)).symm, rfl⟩
        have q1 := (allN_iff _ _).mp q k.toNat (by rcases hN with rfl | rfl | rfl | rfl <;> omega)
        rw [kk h0, ← hsk] at q1
        exact c57 q1
set_option maxHeartbeats 2000000 in
theorem c_X3_derived (d : Nat) (hd : 6 ≤ d) (h : List AC) (g0 : h[0]? = some (ao 3 [vr 1, vr 3, vr 10, vr 25, vr 28])) (kp : Int) (g3 : h[3]? = some (ao 2 [vr 4, vr 9, vi kp])) (g4 : h[4]? = some (aq 3 4 rw4)) (m : Nat → Int) (hm : mt m) (hR : ∀ r : Int, 0 ≤ r → r < 4 → h[5 + r.toNat]? = some (ai 0 12 (rwm m r))) (r N : Int) (rr : -2147483648 ≤ r ∧ r < 2147483648) (rN : -2147483648 ≤ N ∧ N < 2147483648) : MF zX3_derived d [vr 0, vi r, vi N] h (V_derived m r N) h := by
  refine M0.of okX3_derived (Nat.le_of_ble_eq_true rfl) ?_
  refine AW.go 1 (pc' := 1) rfl ?_
  refine AW.callSF (pn := 4) rfl rfl mlX3_57 (c_X3_isRow (d - 1) (by omega) _ _ (by omega)) rfl rfl (Nat.le_of_ble_eq_true rfl) ⟨by show d - 1 + 1 ≤ d; omega, by show 40 * (d - 1 + 1) ≤ 40 * d; omega⟩ ⟨Nat.zero_le _, Nat.zero_le _⟩ ?_
  refine AW.bnz (tgt := 9) (pn := 7) rfl (by decide) rfl (fun c4 => ?_) (fun c4 => ?_)
  · refine AW.go 2 (pc' := 11) rfl ?_
    refine AW.bi (tgt := 33) (pn := 14) rfl (by decide) rfl (by first | exact bI_rng _ | exact ⟨by omega, by omega⟩) (by first | exact bI_rng _ | exact ⟨by omega, by omega⟩) (fun c11 => ?_) (fun c11 => ?_)
    · dsimp only [cmpI] at c11
      refine AW.go 2 (pc' := 35) rfl ?_
      have hN : N = 2 ∨ N = 3 ∨ N = 4 ∨ N = 6 := by omega
      unfold V_derived
      rw [if_pos c4, if_pos hN]
      refine AW.lw ?_ (l_X3_derived d hd h g0 kp g3 g4 m hm hR r N c4 hN _ 0 N (by omega) (by rcases hN with rfl | rfl | rfl | rfl <;> decide) (by omega) rfl (Nat.lt_succ_self _))
      exact (And.intro rfl (And.intro rfl (And.intro rfl (And.intro rfl trivial))))
    · dsimp only [cmpI] at c11
      refine AW.go 2 (pc' := 16) rfl ?_
      refine AW.bi (tgt := 33) (pn := 19) rfl (by decide) rfl (by first | exact bI_rng _ | exact ⟨by omega, by omega⟩) (by first | exact bI_rng _ | exact ⟨by omega, by omega⟩) (fun c16 => ?_) (fun c16 => ?_)
      · dsimp only [cmpI] at c16
        refine AW.go 2 (pc' := 35) rfl ?_
        have hN : N = 2 ∨ N = 3 ∨ N = 4 ∨ N = 6 := by omega
        unfold V_derived
        rw [if_pos c4, if_pos hN]
        refine AW.lw ?_ (l_X3_derived d hd h g0 kp g3 g4 m hm hR r N c4 hN _ 0 N (by omega) (by rcases hN with rfl | rfl | rfl | rfl <;> decide) (by omega) rfl (Nat.lt_succ_self _))
        exact (And.intro rfl (And.intro rfl (And.intro rfl (And.intro rfl trivial))))
      · dsimp only [cmpI] at c16
        refine AW.go 2 (pc' := 21) rfl ?_
        refine AW.bi (tgt := 33) (pn := 24) rfl (by decide) rfl (by first | exact bI_rng _ | exact ⟨by omega, by omega⟩) (by first | exact bI_rng _ | exact ⟨by omega, by omega⟩) (fun c21 => ?_) (fun c21 => ?_)
        · dsimp only [cmpI] at c21
          refine AW.go 2 (pc' := 35) rfl ?_
          have hN : N = 2 ∨ N = 3 ∨ N = 4 ∨ N = 6 := by omega
          unfold V_derived
          rw [if_pos c4, if_pos hN]
          refine AW.lw ?_ (l_X3_derived d hd h g0 kp g3 g4 m hm hR r N c4 hN _ 0 N (by omega) (by rcases hN with rfl | rfl | rfl | rfl <;> decide) (by omega) rfl (Nat.lt_succ_self _))
          exact (And.intro rfl (And.intro rfl (And.intro rfl (And.intro rfl trivial))))
        · dsimp only [cmpI] at c21
          refine AW.go 2 (pc' := 27) rfl ?_
          refine AW.bi (tgt := 33) (pn := 30) rfl (by decide) rfl (by first | exact bI_rng _ | exact ⟨by omega, by omega⟩) (by first | exact bI_rng _ | exact ⟨by omega, by omega⟩) (fun c27 => ?_) (fun c27 => ?_)
          · dsimp only [cmpI] at c27
            refine AW.go 2 (pc' := 35) rfl ?_
            have hN : N = 2 ∨ N = 3 ∨ N = 4 ∨ N = 6 := by omega
            unfold V_derived
            rw [if_pos c4, if_pos hN]
            refine AW.lw ?_ (l_X3_derived d hd h g0 kp g3 g4 m hm hR r N c4 hN _ 0 N (by omega) (by rcases hN with rfl | rfl | rfl | rfl <;> decide) (by omega) rfl (Nat.lt_succ_self _))
            exact (And.intro rfl (And.intro rfl (And.intro rfl (And.intro rfl trivial))))
          · dsimp only [cmpI] at c27
            refine AW.go 1 (pc' := 32) rfl ?_
            refine AW.ret rfl rfl (Nat.le_refl _) (Nat.le_refl _) ?_
            refine ⟨congrArg some ?_, rfl⟩
            unfold V_derived
            (repeat' split) <;> first | rfl | omega
  · refine AW.go 1 (pc' := 8) rfl ?_
    refine AW.ret rfl rfl (Nat.le_refl _) (Nat.le_refl _) ?_
    refine ⟨congrArg some ?_, rfl⟩
    unfold V_derived
    (repeat' split) <;> first | rfl | omega
set_option maxHeartbeats 2000000 in
theorem c_X3_sign (d : Nat) (hd : 4 ≤ d) (h : List AC) (g0 : h[0]? = some (ao 3 [vr 1, vr 3, vr 10, vr 25, vr 28])) (kp : Int) (g3 : h[3]? = some (ao 2 [vr 4, vr 9, vi kp])) (g4 : h[4]? = some (aq 3 4 rw4)) (m : Nat → Int) (hm : mt m) (hR : ∀ r : Int, 0 ≤ r → r < 4 → h[5 + r.toNat]? = some (ai 0 12 (rwm m r))) (r F j : Int) (rr : -2147483648 ≤ r ∧ r < 2147483648) (rF : -2147483648 ≤ F ∧ F < 2147483648) (rj : -2147483648 ≤ j ∧ j < 2147483648) : MF zX3_sign d [vr 0, vi r, vi F, vi j] h (V_sign m r F j) h := by
  refine M0.of okX3_sign (Nat.le_of_ble_eq_true rfl) ?_
  refine AW.go 1 (pc' := 1) rfl ?_
  refine AW.callSF (pn := 4) rfl rfl mlX3_57 (c_X3_isRow (d - 1) (by omega) _ _ (by omega)) rfl rfl (Nat.le_of_ble_eq_true rfl) ⟨by show d - 1 + 1 ≤ d; omega, by show 40 * (d - 1 + 1) ≤ 40 * d; omega⟩ ⟨Nat.zero_le _, Nat.zero_le _⟩ ?_
  refine AW.bz (tgt := 14) (pn := 7) rfl (by decide) rfl (fun c4 => ?_) (fun c4 => ?_)
  · refine AW.go 1 (pc' := 15) rfl ?_
    refine AW.ret rfl rfl (Nat.le_refl _) (Nat.le_refl _) ?_
    refine ⟨congrArg some ?_, rfl⟩
    unfold V_sign
    (repeat' split) <;> first | rfl | omega
  · refine AW.go 1 (pc' := 8) rfl ?_
    refine AW.callSF (pn := 11) rfl rfl mlX3_82 (c_X3_isForm (d - 1) (by omega) _ _ (by omega)) rfl rfl (Nat.le_of_ble_eq_true rfl) ⟨by show d - 1 + 1 ≤ d; omega, by show 40 * (d - 1 + 1) ≤ 40 * d; omega⟩ ⟨Nat.zero_le _, Nat.zero_le _⟩ ?_
    refine AW.bnz (tgt := 16) (pn := 14) rfl (by decide) rfl (fun c11 => ?_) (fun c11 => ?_)
    · refine AW.go 1 (pc' := 17) rfl ?_
      refine AW.callSF (pn := 20) rfl rfl mlX3_159 (c_X3_nameLength (d - 1) (by omega) _ _ (by omega)) rfl rfl (Nat.le_of_ble_eq_true rfl) ⟨by show d - 1 + 1 ≤ d; omega, by show 40 * (d - 1 + 1) ≤ 40 * d; omega⟩ ⟨Nat.zero_le _, Nat.zero_le _⟩ ?_
      refine AW.go 3 (pc' := 24) rfl ?_
      have hwr := hR r (by omega) (by omega)
      have htr := rwm_tn hm (r := r) (by omega)
      have b1 := kl_b F
      have b2 := nl_b F
      refine AW.bi (tgt := 35) (pn := 27) rfl (by decide) rfl (by first | exact bI_rng _ | exact ⟨by omega, by omega⟩) (by first | exact bI_rng _ | exact ⟨by omega, by omega⟩) (fun c24 => ?_) (fun c24 => ?_)
      · dsimp only [cmpI] at c24
        refine AW.go 1 (pc' := 36) rfl ?_
        refine AW.br (tgt := 48) (pn := 39) rfl (by decide) rfl (by first | exact bI_rng _ | exact ⟨by omega, by omega⟩) (fun c36 => ?_) (fun c36 => ?_)
        · dsimp only [cmpI] at c36
          refine AW.go 1 (pc' := 50) rfl ?_
          refine AW.ret rfl rfl (Nat.le_refl _) (Nat.le_refl _) ?_
          refine ⟨congrArg some ?_, rfl⟩
          unfold V_sign
          (repeat' split) <;> first | rfl | omega
        · dsimp only [cmpI] at c36
          refine AW.go 4 (pc' := 45) rfl ?_
          refine AW.bi (tgt := 51) (pn := 48) rfl (by decide) rfl (by first | exact bI_rng _ | exact ⟨by omega, by omega⟩) (by first | exact bI_rng _ | exact ⟨by omega, by omega⟩) (fun c45 => ?_) (fun c45 => ?_)
          · dsimp only [cmpI] at c45
            refine AW.go 2 (pc' := 54) rfl ?_
            refine AW.bi (tgt := 63) (pn := 57) rfl (by decide) rfl (by first | exact bI_rng _ | exact ⟨by omega, by omega⟩) (by first | exact bI_rng _ | exact ⟨by omega, by omega⟩) (fun c54 => ?_) (fun c54 => ?_)
            · dsimp only [cmpI] at c54
              refine AW.go 2 (pc' := 66) rfl ?_
              refine AW.bi (tgt := 74) (pn := 69) rfl (by decide) rfl (by first | exact bI_rng _ | exact ⟨by omega, by omega⟩) (by first | exact bI_rng _ | exact ⟨by omega, by omega⟩) (fun c66 => ?_) (fun c66 => ?_)
              · dsimp only [cmpI] at c66
                refine AW.go 1 (pc' := 75) rfl ?_
                refine AW.getf (pn := 78) rfl rfl flX3_19 (by first | assumption | exact set_self (by assumption) | exact set_ne (by first | assumption | omega | decide) (by first | assumption | exact set_self (by assumption) | exact set_ne (by first | assumption | omega | decide) (by assumption))) rfl ?_
                refine AW.getf (pn := 81) rfl rfl flX3_61 (by first | assumption | exact set_self (by assumption) | exact set_ne (by first | assumption | omega | decide) (by first | assumption | exact set_self (by assumption) | exact set_ne (by first | assumption | omega | decide) (by assumption))) rfl ?_
                refine AW.go 1 (pc' := 82) rfl ?_
                refine AW.aald (pn := 83) rfl rfl (by first | assumption | exact set_self (by assumption) | exact set_ne (by first | assumption | omega | decide) (by first | assumption | exact set_self (by assumption) | exact set_ne (by first | assumption | omega | decide) (by assumption))) (by decide) (by decide) (by omega) (by omega) (rw4_at (by omega)) ?_
                refine AW.go 7 (pc' := 92) rfl ?_
                refine AW.callSF (pn := 95) rfl rfl mlX3_85 (c_X3_formTone (d - 1) (by omega) _ _ _ (by assumption) (by assumption) _ _ _ (by omega) (by omega) (by omega)) rfl rfl (Nat.le_of_ble_eq_true rfl) ⟨by show d - 1 + 1 ≤ d; omega, by show 40 * (d - 1 + 1) ≤ 40 * d; omega⟩ ⟨Nat.zero_le _, Nat.zero_le _⟩ ?_
                have b3 := ft_b (rwm m r) 12 F (j - nl F - 1)
                refine AW.callSF (pn := 98) rfl rfl mlX3_165 (c_X3_toneSign (d - 1) (by omega) _ _ (by omega)) rfl rfl (Nat.le_of_ble_eq_true rfl) ⟨by show d - 1 + 1 ≤ d; omega, by show 40 * (d - 1 + 1) ≤ 40 * d; omega⟩ ⟨Nat.zero_le _, Nat.zero_le _⟩ ?_
                refine AW.ret rfl rfl (Nat.le_refl _) (Nat.le_refl _) ?_
                refine ⟨congrArg some ?_, rfl⟩
                unfold V_sign
                (repeat' split) <;> first | rfl | omega
              · dsimp only [cmpI] at c66
                refine AW.go 2 (pc' := 98) rfl ?_
                refine AW.ret rfl rfl (Nat.le_refl _) (Nat.le_refl _) ?_
                refine ⟨congrArg some ?_, rfl⟩
                unfold V_sign
                (repeat' split) <;> first | rfl | omega
            · dsimp only [cmpI] at c54
              refine AW.go 2 (pc' := 59) rfl ?_
              refine AW.callSF (pn := 62) rfl rfl mlX3_162 (c_X3_nameSign (d - 1) (by omega) _ _ _ (by omega) (by omega)) rfl rfl (Nat.le_of_ble_eq_true rfl) ⟨by show d - 1 + 1 ≤ d; omega, by show 40 * (d - 1 + 1) ≤ 40 * d; omega⟩ ⟨Nat.zero_le _, Nat.zero_le _⟩ ?_
              refine AW.ret rfl rfl (Nat.le_refl _) (Nat.le_refl _) ?_
              refine ⟨congrArg some ?_, rfl⟩
              unfold V_sign
              (repeat' split) <;> first | rfl | omega
          · dsimp only [cmpI] at c45
            refine AW.go 1 (pc' := 50) rfl ?_
            refine AW.ret rfl rfl (Nat.le_refl _) (Nat.le_refl _) ?_
            refine ⟨congrArg some ?_, rfl⟩
            unfold V_sign
            (repeat' split) <;> first | rfl | omega
      · dsimp only [cmpI] at c24
        refine AW.go 5 (pc' := 34) rfl ?_
        refine AW.ret rfl rfl (Nat.le_refl _) (Nat.le_refl _) ?_
        refine ⟨congrArg some ?_, rfl⟩
        unfold V_sign
        (repeat' split) <;> first | rfl | omega
    · refine AW.go 1 (pc' := 15) rfl ?_
      refine AW.ret rfl rfl (Nat.le_refl _) (Nat.le_refl _) ?_
      refine ⟨congrArg some ?_, rfl⟩
      unfold V_sign
      (repeat' split) <;> first | rfl | omega
set_option maxHeartbeats 4000000 in
theorem l_X3_leastAlike (d : Nat) (hd : 5 ≤ d) (h : List AC) (g0 : h[0]? = some (ao 3 [vr 1, vr 3, vr 10, vr 25, vr 28])) (kp : Int) (g3 : h[3]? = some (ao 2 [vr 4, vr 9, vi kp])) (g4 : h[4]? = some (aq 3 4 rw4)) (m : Nat → Int) (hm : mt m) (hR : ∀ r : Int, 0 ≤ r → r < 4 → h[5 + r.toNat]? = some (ai 0 12 (rwm m r))) (r : Int) (rr : 0 ≤ r ∧ r < 4) : ∀ (n : Nat) (k : Int), (0 ≤ k) → (k ≤ r) → ((lik m r r.toNat 0) = lik m r (r - k).toNat k) → ((r - k).toNat) < n → AW zX3_leastAlike Eq (rmd d) 0 0 0 0 2 [(2, vi k), (0, vr 0), (1, vi r)] [] h (RQ (lik m r r.toNat 0) h) := by
  intro n
  induction n with
  | zero =>
    intro k h0 h1 hi hn
    exact absurd hn (Nat.not_lt_zero _)
  | succ n ih =>
    intro k h0 h1 hi hn
    refine AW.go 2 (pc' := 4) rfl ?_
    refine AW.bi (tgt := 43) (pn := 7) rfl (by decide) rfl (by first | exact bI_rng _ | exact ⟨by omega, by omega⟩) (by first | exact bI_rng _ | exact ⟨by omega, by omega⟩) (fun c4 => ?_) (fun c4 => ?_)
    · dsimp only [cmpI] at c4
      refine AW.go 1 (pc' := 44) rfl ?_
      refine AW.ret rfl rfl (Nat.le_refl _) (Nat.le_refl _) ?_
      refine ⟨congrArg some ?_, rfl⟩
      rw [hi, show (r - k).toNat = 0 by omega]
      show r = k
      omega
    · dsimp only [cmpI] at c4
      have hwr := hR r (by omega) (by omega)
      have htr := rwm_tn hm (r := r) (by omega)
      have hwk := hR k (by omega) (by omega)
      have htk := rwm_tn hm (r := k) (by omega)
      have hs : lik m r (r - k).toNat k = if isf (rwm m r) 12 0 (rwm m k) 0 = true then k else lik m r ((r - k).toNat - 1) (k + 1) := by
        obtain ⟨q, hq⟩ : ∃ q, (r - k).toNat = q + 1 := ⟨(r - k).toNat - 1, by omega⟩
        rw [hq]
        rfl
      refine AW.go 1 (pc' := 8) rfl ?_
      refine AW.getf (pn := 11) rfl rfl flX3_19 (by first | assumption | exact set_self (by assumption) | exact set_ne (by first | assumption | omega | decide) (by first | assumption | exact set_self (by assumption) | exact set_ne (by first | assumption | omega | decide) (by assumption))) rfl ?_
      refine AW.getf (pn := 14) rfl rfl flX3_61 (by first | assumption | exact set_self (by assumption) | exact set_ne (by first | assumption | omega | decide) (by first | assumption | exact set_self (by assumption) | exact set_ne (by first | assumption | omega | decide) (by assumption))) rfl ?_
      refine AW.go 1 (pc' := 15) rfl ?_
      refine AW.aald (pn := 16) rfl rfl (by first | assumption | exact set_self (by assumption) | exact set_ne (by first | assumption | omega | decide) (by first | assumption | exact set_self (by assumption) | exact set_ne (by first | assumption | omega | decide) (by assumption))) (by decide) (by decide) (by omega) (by omega) (rw4_at (by omega)) ?_
      refine AW.go 3 (pc' := 20) rfl ?_
      refine AW.getf (pn := 23) rfl rfl flX3_19 (by first | assumption | exact set_self (by assumption) | exact set_ne (by first | assumption | omega | decide) (by first | assumption | exact set_self (by assumption) | exact set_ne (by first | assumption | omega | decide) (by assumption))) rfl ?_
      refine AW.getf (pn := 26) rfl rfl flX3_61 (by first | assumption | exact set_self (by assumption) | exact set_ne (by first | assumption | omega | decide) (by first | assumption | exact set_self (by assumption) | exact set_ne (by first | assumption | omega | decide) (by assumption))) rfl ?_
      refine AW.go 1 (pc' := 27) rfl ?_
      refine AW.aald (pn := 28) rfl rfl (by first | assumption | exact set_self (by assumption) | exact set_ne (by first | assumption | omega | decide) (by first | assumption | exact set_self (by assumption) | exact set_ne (by first | assumption | omega | decide) (by assumption))) (by decide) (by decide) (by omega) (by omega) (rw4_at (by omega)) ?_
      refine AW.go 1 (pc' := 29) rfl ?_
      refine AW.callSF (pn := 32) rfl rfl mlX3_111 (c_X3_isFormOf (d - 1) (by omega) _ _ _ (by assumption) (by assumption) _ _ (by assumption) (by assumption) _ _ _ (by omega) (by omega) (by omega)) rfl rfl (Nat.le_of_ble_eq_true rfl) ⟨by show d - 1 + 1 ≤ d; omega, by show 40 * (d - 1 + 1) ≤ 40 * d; omega⟩ ⟨Nat.zero_le _, Nat.zero_le _⟩ ?_
      refine AW.bz (tgt := 37) (pn := 35) rfl (by decide) rfl (fun c32 => ?_) (fun c32 => ?_)
      · refine AW.go 2 (pc' := 2) rfl ?_
        refine AW.lw ?_ (ih (k + 1) (by omega) (by omega) (by rw [hi, hs, if_neg c32, show (r - (k + 1)).toNat = (r - k).toNat - 1 by omega]) (by omega))
        exact (And.intro rfl (And.intro rfl (And.intro rfl trivial)))
      · refine AW.go 1 (pc' := 36) rfl ?_
        refine AW.ret rfl rfl (Nat.le_refl _) (Nat.le_refl _) ?_
        refine ⟨congrArg some ?_, rfl⟩
        rw [hi, hs, if_pos c32]
set_option maxHeartbeats 2000000 in
theorem c_X3_leastAlike (d : Nat) (hd : 5 ≤ d) (h : List AC) (g0 : h[0]? = some (ao 3 [vr 1, vr 3, vr 10, vr 25, vr 28])) (kp : Int) (g3 : h[3]? = some (ao 2 [vr 4, vr 9, vi kp])) (g4 : h[4]? = some (aq 3 4 rw4)) (m : Nat → Int) (hm : mt m) (hR : ∀ r : Int, 0 ≤ r → r < 4 → h[5 + r.toNat]? = some (ai 0 12 (rwm m r))) (r : Int) (rr : 0 ≤ r ∧ r < 4) : MF zX3_leastAlike d [vr 0, vi r] h (lik m r r.toNat 0) h := by
  refine M0.of okX3_leastAlike (Nat.le_of_ble_eq_true rfl) ?_
  refine AW.go 2 (pc' := 2) rfl ?_
  refine AW.lw ?_ (l_X3_leastAlike d hd h g0 kp g3 g4 m hm hR r rr _ 0 (by omega) (by omega) (by rw [Int.sub_zero]) (Nat.lt_succ_self _))
  exact (And.intro rfl (And.intro rfl (And.intro rfl trivial)))
set_option maxHeartbeats 2000000 in
theorem c_X3_told (d : Nat) (hd : 6 ≤ d) (h : List AC) (g0 : h[0]? = some (ao 3 [vr 1, vr 3, vr 10, vr 25, vr 28])) (kp : Int) (g3 : h[3]? = some (ao 2 [vr 4, vr 9, vi kp])) (g4 : h[4]? = some (aq 3 4 rw4)) (m : Nat → Int) (hm : mt m) (hR : ∀ r : Int, 0 ≤ r → r < 4 → h[5 + r.toNat]? = some (ai 0 12 (rwm m r))) (cnt : Int) (g1 : h[1]? = some (ao 0 [vr 2, vi cnt])) (pat : Nat → Int) (g9 : h[9]? = some (ai 0 12 pat)) (hp : pn pat) (w : Int) (rw : -2147483648 ≤ w ∧ w < 2147483648) : MF zX3_told d [vr 0, vi w] h (V_told cnt pat m w) h := by
  refine M0.of okX3_told (Nat.le_of_ble_eq_true rfl) ?_
  refine AW.go 1 (pc' := 1) rfl ?_
  refine AW.br (tgt := 12) (pn := 4) rfl (by decide) rfl (by first | exact bI_rng _ | exact ⟨by omega, by omega⟩) (fun c1 => ?_) (fun c1 => ?_)
  · dsimp only [cmpI] at c1
    refine AW.go 2 (pc' := 14) rfl ?_
    refine AW.bi (tgt := 28) (pn := 17) rfl (by decide) rfl (by first | exact bI_rng _ | exact ⟨by omega, by omega⟩) (by first | exact bI_rng _ | exact ⟨by omega, by omega⟩) (fun c14 => ?_) (fun c14 => ?_)
    · dsimp only [cmpI] at c14
      refine AW.go 2 (pc' := 31) rfl ?_
      refine AW.bi (tgt := 57) (pn := 34) rfl (by decide) rfl (by first | exact bI_rng _ | exact ⟨by omega, by omega⟩) (by first | exact bI_rng _ | exact ⟨by omega, by omega⟩) (fun c31 => ?_) (fun c31 => ?_)
      · dsimp only [cmpI] at c31
        refine AW.go 2 (pc' := 61) rfl ?_
        refine AW.bi (tgt := 85) (pn := 64) rfl (by decide) rfl (by first | exact bI_rng _ | exact ⟨by omega, by omega⟩) (by first | exact bI_rng _ | exact ⟨by omega, by omega⟩) (fun c61 => ?_) (fun c61 => ?_)
        · dsimp only [cmpI] at c61
          refine AW.go 1 (pc' := 87) rfl ?_
          refine AW.ret rfl rfl (Nat.le_refl _) (Nat.le_refl _) ?_
          refine ⟨congrArg some ?_, rfl⟩
          unfold V_told
          (repeat' split) <;> first | rfl | omega
        · dsimp only [cmpI] at c61
          refine AW.go 3 (pc' := 69) rfl ?_
          refine AW.callSF (pn := 72) rfl rfl mlX3_57 (c_X3_isRow (d - 1) (by omega) _ _ (by omega)) rfl rfl (Nat.le_of_ble_eq_true rfl) ⟨by show d - 1 + 1 ≤ d; omega, by show 40 * (d - 1 + 1) ≤ 40 * d; omega⟩ ⟨Nat.zero_le _, Nat.zero_le _⟩ ?_
          refine AW.bz (tgt := 85) (pn := 75) rfl (by decide) rfl (fun c72 => ?_) (fun c72 => ?_)
          · refine AW.go 1 (pc' := 87) rfl ?_
            refine AW.ret rfl rfl (Nat.le_refl _) (Nat.le_refl _) ?_
            refine ⟨congrArg some ?_, rfl⟩
            unfold V_told
            (repeat' split) <;> first | rfl | omega
          · refine AW.go 4 (pc' := 81) rfl ?_
            refine AW.callVF (pn := 84) rfl rfl mlX3_183 (by first | assumption | exact set_self (by assumption) | exact set_ne (by first | assumption | omega | decide) (by first | assumption | exact set_self (by assumption) | exact set_ne (by first | assumption | omega | decide) (by assumption))) (c_X3_leastAlike (d - 1) (by omega) _ (by assumption) _ (by assumption) (by assumption) _ (by assumption) (by assumption) _ (by omega)) rfl rfl (Nat.le_of_ble_eq_true rfl) ⟨by show d - 1 + 1 ≤ d; omega, by show 40 * (d - 1 + 1) ≤ 40 * d; omega⟩ ⟨Nat.zero_le _, Nat.zero_le _⟩ ?_
            refine AW.ret rfl rfl (Nat.le_refl _) (Nat.le_refl _) ?_
            refine ⟨congrArg some ?_, rfl⟩
            unfold V_told
            (repeat' split) <;> first | rfl | omega
      · dsimp only [cmpI] at c31
        refine AW.go 3 (pc' := 38) rfl ?_
        refine AW.callSF (pn := 41) rfl rfl mlX3_79 (c_X3_isPlace (d - 1) (by omega) _ _ (by omega)) rfl rfl (Nat.le_of_ble_eq_true rfl) ⟨by show d - 1 + 1 ≤ d; omega, by show 40 * (d - 1 + 1) ≤ 40 * d; omega⟩ ⟨Nat.zero_le _, Nat.zero_le _⟩ ?_
        refine AW.bz (tgt := 57) (pn := 44) rfl (by decide) rfl (fun c41 => ?_) (fun c41 => ?_)
        · refine AW.go 2 (pc' := 61) rfl ?_
          refine AW.bi (tgt := 85) (pn := 64) rfl (by decide) rfl (by first | exact bI_rng _ | exact ⟨by omega, by omega⟩) (by first | exact bI_rng _ | exact ⟨by omega, by omega⟩) (fun c61 => ?_) (fun c61 => ?_)
          · dsimp only [cmpI] at c61
            refine AW.go 1 (pc' := 87) rfl ?_
            refine AW.ret rfl rfl (Nat.le_refl _) (Nat.le_refl _) ?_
            refine ⟨congrArg some ?_, rfl⟩
            unfold V_told
            (repeat' split) <;> first | rfl | omega
          · dsimp only [cmpI] at c61
            refine AW.go 3 (pc' := 69) rfl ?_
            refine AW.callSF (pn := 72) rfl rfl mlX3_57 (c_X3_isRow (d - 1) (by omega) _ _ (by omega)) rfl rfl (Nat.le_of_ble_eq_true rfl) ⟨by show d - 1 + 1 ≤ d; omega, by show 40 * (d - 1 + 1) ≤ 40 * d; omega⟩ ⟨Nat.zero_le _, Nat.zero_le _⟩ ?_
            refine AW.bz (tgt := 85) (pn := 75) rfl (by decide) rfl (fun c72 => ?_) (fun c72 => ?_)
            · refine AW.go 1 (pc' := 87) rfl ?_
              refine AW.ret rfl rfl (Nat.le_refl _) (Nat.le_refl _) ?_
              refine ⟨congrArg some ?_, rfl⟩
              unfold V_told
              (repeat' split) <;> first | rfl | omega
            · refine AW.go 4 (pc' := 81) rfl ?_
              refine AW.callVF (pn := 84) rfl rfl mlX3_183 (by first | assumption | exact set_self (by assumption) | exact set_ne (by first | assumption | omega | decide) (by first | assumption | exact set_self (by assumption) | exact set_ne (by first | assumption | omega | decide) (by assumption))) (c_X3_leastAlike (d - 1) (by omega) _ (by assumption) _ (by assumption) (by assumption) _ (by assumption) (by assumption) _ (by omega)) rfl rfl (Nat.le_of_ble_eq_true rfl) ⟨by show d - 1 + 1 ≤ d; omega, by show 40 * (d - 1 + 1) ≤ 40 * d; omega⟩ ⟨Nat.zero_le _, Nat.zero_le _⟩ ?_
              refine AW.ret rfl rfl (Nat.le_refl _) (Nat.le_refl _) ?_
              refine ⟨congrArg some ?_, rfl⟩
              unfold V_told
              (repeat' split) <;> first | rfl | omega
        · refine AW.go 1 (pc' := 45) rfl ?_
          refine AW.getf (pn := 48) rfl rfl flX3_19 (by first | assumption | exact set_self (by assumption) | exact set_ne (by first | assumption | omega | decide) (by first | assumption | exact set_self (by assumption) | exact set_ne (by first | assumption | omega | decide) (by assumption))) rfl ?_
          refine AW.getf (pn := 51) rfl rfl flX3_69 (by first | assumption | exact set_self (by assumption) | exact set_ne (by first | assumption | omega | decide) (by first | assumption | exact set_self (by assumption) | exact set_ne (by first | assumption | omega | decide) (by assumption))) rfl ?_
          refine AW.go 3 (pc' := 55) rfl ?_
          refine AW.iald (pn := 56) rfl rfl (by first | assumption | exact set_self (by assumption) | exact set_ne (by first | assumption | omega | decide) (by first | assumption | exact set_self (by assumption) | exact set_ne (by first | assumption | omega | decide) (by assumption))) (by decide) (by omega) (by omega) ?_
          refine AW.ret rfl rfl (Nat.le_refl _) (Nat.le_refl _) ?_
          refine ⟨congrArg some ?_, rfl⟩
          unfold V_told
          (repeat' split) <;> first | rfl | omega
    · dsimp only [cmpI] at c14
      refine AW.go 1 (pc' := 18) rfl ?_
      refine AW.getf (pn := 21) rfl rfl flX3_19 (by first | assumption | exact set_self (by assumption) | exact set_ne (by first | assumption | omega | decide) (by first | assumption | exact set_self (by assumption) | exact set_ne (by first | assumption | omega | decide) (by assumption))) rfl ?_
      refine AW.getf (pn := 24) rfl rfl flX3_69 (by first | assumption | exact set_self (by assumption) | exact set_ne (by first | assumption | omega | decide) (by first | assumption | exact set_self (by assumption) | exact set_ne (by first | assumption | omega | decide) (by assumption))) rfl ?_
      refine AW.callSF (pn := 27) rfl rfl mlX3_72 (c_X3_holesOf (d - 1) (by omega) _ _ _ (by assumption) (by assumption)) rfl rfl (Nat.le_of_ble_eq_true rfl) ⟨by show d - 1 + 1 ≤ d; omega, by show 40 * (d - 1 + 1) ≤ 40 * d; omega⟩ ⟨Nat.zero_le _, Nat.zero_le _⟩ ?_
      refine AW.ret rfl rfl (Nat.le_refl _) (Nat.le_refl _) ?_
      refine ⟨congrArg some ?_, rfl⟩
      unfold V_told
      (repeat' split) <;> first | rfl | omega
  · dsimp only [cmpI] at c1
    refine AW.go 1 (pc' := 5) rfl ?_
    refine AW.getf (pn := 8) rfl rfl flX3_10 (by first | assumption | exact set_self (by assumption) | exact set_ne (by first | assumption | omega | decide) (by first | assumption | exact set_self (by assumption) | exact set_ne (by first | assumption | omega | decide) (by assumption))) rfl ?_
    refine AW.getf (pn := 11) rfl rfl flX3_179 (by first | assumption | exact set_self (by assumption) | exact set_ne (by first | assumption | omega | decide) (by first | assumption | exact set_self (by assumption) | exact set_ne (by first | assumption | omega | decide) (by assumption))) rfl ?_
    refine AW.ret rfl rfl (Nat.le_refl _) (Nat.le_refl _) ?_
    refine ⟨congrArg some ?_, rfl⟩
    unfold V_told
    (repeat' split) <;> first | rfl | omega
