theorem hol_congr {f g : Nat → Int} {n : Nat} (h : ∀ j, j < n → f j = g j) : hol f n = hol g n := cntN_congr (fun j hj => by rw [h j hj])
theorem tbt_congr {f g : Nat → Int} : ∀ {n : Nat}, (∀ j, j < n → f j = g j) → tbt f n = tbt g n
  | 0, _ => rfl
  | n + 1, h => by
    unfold tbt
    rw [tbt_congr (fun j hj => h j (by omega)), h n (by omega)]
theorem FI_congr {F : Int} {f g : Nat → Int} (h : ∀ j, j < 12 → f j = g j) (hg : FI F g) : FI F f :=
  ⟨fun j hj => by rw [h j hj]; exact hg.1 j hj, fun j hj hn => by rw [h j hj] at hn ⊢; rw [h _ (acN_lt hj)]; exact hg.2 j hj hn⟩
theorem fr1_congr {F : Int} {f g : Nat → Int} (h : ∀ j, j < 12 → f j = g j) {k : Nat} (hk : k < 12) : ∀ j, j < 12 → fr1 F f k j = fr1 F g k j := by
  intro j hj
  unfold fr1
  rw [h k hk, tbt_congr h]
  split
  · unfold up
    split
    · rfl
    · split
      · rfl
      · exact h j hj
  · exact h j hj
theorem ffl_congr {F : Int} {f g : Nat → Int} (h : ∀ j, j < 12 → f j = g j) : ∀ n, n ≤ 12 → ∀ j, j < 12 → ffl F f n j = ffl F g n j
  | 0, _ => h
  | n + 1, hn => fr1_congr (ffl_congr h n (by omega)) (by omega)
theorem fac_nn : ∀ n, 0 ≤ fac n
  | 0 => by show (0 : Int) ≤ 1; decide
  | n + 1 => by
    show 0 ≤ fac n * ((n : Int) + 1)
    exact Int.mul_nonneg (fac_nn n) (by omega)
def V_fills (F : Int) (f : Nat → Int) : Int := if 0 ≤ F ∧ F < 48 then (if (F = 0 ∨ F = 30 ∨ 36 < F ∧ F % 2 = 1) ∧ wel F f 12 = true then (if 24 ≤ F then fac (hol (fz F f 12) 12 / 2) * 2 ^ (hol (fz F f 12) 12 / 2) else fac (hol (fz F f 12) 12)) else 0) else -1
def V_fill (F : Int) (f : Nat → Int) (p : Int) : Int := if 0 ≤ F ∧ F < 48 then (if 0 ≤ p ∧ p < 12 then (if (F = 0 ∨ F = 30 ∨ 36 < F ∧ F % 2 = 1) ∧ wel F f 12 = true then ffl F (fz F f 12) 12 p.toNat else -6) else -2) else -1

set_option maxHeartbeats 2000000 in
theorem c_X3_fillings (d : Nat) (hd : 5 ≤ d) (h : List AC) (g0 : h[0]? = some (ao 3 [vr 1, vr 3, vr 10, vr 25, vr 28])) (kp : Int) (g3 : h[3]? = some (ao 2 [vr 4, vr 9, vi kp])) (f : Nat → Int) (g9 : h[9]? = some (ai 0 12 f)) (hp : pn f) (hj : pj f) (sc : Nat → Int) (g28 : h[28]? = some (ai 0 12 sc)) (F : Int) (rF : -2147483648 ≤ F ∧ F < 2147483648) : M0 zX3_fillings d [vr 0, vi F] h (fun v u => v = some (V_fills F f) ∧ ∃ I : Nat → Int, u = h.set 28 (ai 0 12 I)) := by
  refine M0.of okX3_fillings (Nat.le_of_ble_eq_true rfl) ?_
  refine AW.go 1 (pc' := 1) rfl ?_
  refine AW.callSF (pn := 4) rfl rfl mlX3_82 (c_X3_isForm (d - 1) (by omega) _ _ (by omega)) rfl rfl (Nat.le_of_ble_eq_true rfl) ⟨by show d - 1 + 1 ≤ d; omega, by show 40 * (d - 1 + 1) ≤ 40 * d; omega⟩ ⟨Nat.zero_le _, Nat.zero_le _⟩ ?_
  refine AW.bnz (tgt := 9) (pn := 7) rfl (by decide) rfl (fun c4 => ?_) (fun c4 => ?_)
  · refine AW.go 1 (pc' := 10) rfl ?_
    refine AW.callSF (pn := 13) rfl rfl mlX3_143 (c_X3_canKeepRows (d - 1) (by omega) _ _ (by omega)) rfl rfl (Nat.le_of_ble_eq_true rfl) ⟨by show d - 1 + 1 ≤ d; omega, by show 40 * (d - 1 + 1) ≤ 40 * d; omega⟩ ⟨Nat.zero_le _, Nat.zero_le _⟩ ?_
    refine AW.bz (tgt := 34) (pn := 16) rfl (by decide) rfl (fun c13 => ?_) (fun c13 => ?_)
    · refine AW.go 1 (pc' := 35) rfl ?_
      refine AW.ret rfl rfl (Nat.le_refl _) (Nat.le_refl _) ?_
      refine ⟨congrArg some ?_, ?_⟩
      · unfold V_fills
        first
          | (rw [if_neg c4]; done)
          | (rw [if_pos c4, if_neg (fun q => c13 q.1)]; done)
          | (rw [if_pos c4, if_neg (fun q => c31 q.2)]; done)
      · first | exact ⟨_, rfl⟩ | exact ⟨sc, (set_same g28).symm⟩
    · refine AW.go 1 (pc' := 17) rfl ?_
      refine AW.getf (pn := 20) rfl rfl flX3_19 (by first | assumption | exact set_self (by first | assumption | exact set_self (by first | assumption | exact set_self (by assumption) | exact set_ne (by first | assumption | decide | omega) (by assumption)) | exact set_ne (by first | assumption | decide | omega) (by first | assumption | exact set_self (by assumption) | exact set_ne (by first | assumption | decide | omega) (by assumption))) | exact set_ne (by first | assumption | decide | omega) (by first | assumption | exact set_self (by first | assumption | exact set_self (by assumption) | exact set_ne (by first | assumption | decide | omega) (by assumption)) | exact set_ne (by first | assumption | decide | omega) (by first | assumption | exact set_self (by assumption) | exact set_ne (by first | assumption | decide | omega) (by assumption)))) rfl ?_
      refine AW.getf (pn := 23) rfl rfl flX3_69 (by first | assumption | exact set_self (by first | assumption | exact set_self (by first | assumption | exact set_self (by assumption) | exact set_ne (by first | assumption | decide | omega) (by assumption)) | exact set_ne (by first | assumption | decide | omega) (by first | assumption | exact set_self (by assumption) | exact set_ne (by first | assumption | decide | omega) (by assumption))) | exact set_ne (by first | assumption | decide | omega) (by first | assumption | exact set_self (by first | assumption | exact set_self (by assumption) | exact set_ne (by first | assumption | decide | omega) (by assumption)) | exact set_ne (by first | assumption | decide | omega) (by first | assumption | exact set_self (by assumption) | exact set_ne (by first | assumption | decide | omega) (by assumption)))) rfl ?_
      refine AW.go 2 (pc' := 25) rfl ?_
      refine AW.getf (pn := 28) rfl rfl flX3_34 (by first | assumption | exact set_self (by first | assumption | exact set_self (by first | assumption | exact set_self (by assumption) | exact set_ne (by first | assumption | decide | omega) (by assumption)) | exact set_ne (by first | assumption | decide | omega) (by first | assumption | exact set_self (by assumption) | exact set_ne (by first | assumption | decide | omega) (by assumption))) | exact set_ne (by first | assumption | decide | omega) (by first | assumption | exact set_self (by first | assumption | exact set_self (by assumption) | exact set_ne (by first | assumption | decide | omega) (by assumption)) | exact set_ne (by first | assumption | decide | omega) (by first | assumption | exact set_self (by assumption) | exact set_ne (by first | assumption | decide | omega) (by assumption)))) rfl ?_
      refine AW.callS (pn := 31) rfl rfl mlX3_146 (c_X3_fillForced (d - 1) (by omega) _ _ _ (by decide) _ _ g9 g28 hp hj _ (by omega)) rfl rfl (Nat.le_of_ble_eq_true rfl) ⟨by show d - 1 + 1 ≤ d; omega, by show 40 * (d - 1 + 1) ≤ 40 * d; omega⟩ ⟨Nat.zero_le _, Nat.zero_le _⟩ ?_
      intro v u hq
      obtain ⟨rfl, I, rfl, hI⟩ := hq
      refine AW.bnz (tgt := 36) (pn := 34) rfl (by decide) rfl (fun c31 => ?_) (fun c31 => ?_)
      · have hIf := hI c31
        have hIp : pn I := fun j hj9 => by rw [hIf j hj9]; exact fz_b hp 12 hj9
        refine AW.go 1 (pc' := 37) rfl ?_
        refine AW.getf (pn := 40) rfl rfl flX3_34 (by first | assumption | exact set_self (by first | assumption | exact set_self (by first | assumption | exact set_self (by assumption) | exact set_ne (by first | assumption | decide | omega) (by assumption)) | exact set_ne (by first | assumption | decide | omega) (by first | assumption | exact set_self (by assumption) | exact set_ne (by first | assumption | decide | omega) (by assumption))) | exact set_ne (by first | assumption | decide | omega) (by first | assumption | exact set_self (by first | assumption | exact set_self (by assumption) | exact set_ne (by first | assumption | decide | omega) (by assumption)) | exact set_ne (by first | assumption | decide | omega) (by first | assumption | exact set_self (by assumption) | exact set_ne (by first | assumption | decide | omega) (by assumption)))) rfl ?_
        refine AW.callSF (pn := 43) rfl rfl mlX3_72 (c_X3_holesOf (d - 1) (by omega) _ _ _ (set_self g28) hIp) rfl rfl (Nat.le_of_ble_eq_true rfl) ⟨by show d - 1 + 1 ≤ d; omega, by show 40 * (d - 1 + 1) ≤ 40 * d; omega⟩ ⟨Nat.zero_le _, Nat.zero_le _⟩ ?_
        rw [hol_congr hIf]
        have hb := cntN_le (fun j => decide (fz F f 12 j = -6)) 12
        change hol (fz F f 12) 12 ≤ 12 at hb
        refine AW.go 2 (pc' := 45) rfl ?_
        refine AW.callSF (pn := 48) rfl rfl mlX3_150 (c_X3_isBackwards (d - 1) (by omega) _ _ (by omega)) rfl rfl (Nat.le_of_ble_eq_true rfl) ⟨by show d - 1 + 1 ≤ d; omega, by show 40 * (d - 1 + 1) ≤ 40 * d; omega⟩ ⟨Nat.zero_le _, Nat.zero_le _⟩ ?_
        refine AW.bz (tgt := 64) (pn := 51) rfl (by decide) rfl (fun c48 => ?_) (fun c48 => ?_)
        · refine AW.go 1 (pc' := 65) rfl ?_
          refine AW.callSF (pn := 68) rfl rfl mlX3_153 (c_X3_factorial (d - 1) (by omega) _ _ (by omega)) rfl rfl (Nat.le_of_ble_eq_true rfl) ⟨by show d - 1 + 1 ≤ d; omega, by show 40 * (d - 1 + 1) ≤ 40 * d; omega⟩ ⟨Nat.zero_le _, Nat.zero_le _⟩ ?_
          refine AW.ret rfl rfl (Nat.le_refl _) (Nat.le_refl _) ?_
          refine ⟨congrArg some ?_, ⟨_, rfl⟩⟩
          unfold V_fills
          rw [if_pos c4, if_pos ⟨c13, c31⟩]
          first
            | (rw [if_pos c48, show ((hol (fz F f 12) 12 : Int) / 2).toNat = hol (fz F f 12) 12 / 2 by omega]; done)
            | (rw [if_neg c48, Int.toNat_natCast]; done)
        · refine AW.go 2 (pc' := 53) rfl ?_
          refine AW.idiv (pn := 54) rfl rfl (by omega) (by omega) (by omega) (by omega) ?_
          refine AW.callSF (pn := 57) rfl rfl mlX3_153 (c_X3_factorial (d - 1) (by omega) _ _ (by omega)) rfl rfl (Nat.le_of_ble_eq_true rfl) ⟨by show d - 1 + 1 ≤ d; omega, by show 40 * (d - 1 + 1) ≤ 40 * d; omega⟩ ⟨Nat.zero_le _, Nat.zero_le _⟩ ?_
          refine AW.go 2 (pc' := 59) rfl ?_
          refine AW.idiv (pn := 60) rfl rfl (by omega) (by omega) (by omega) (by omega) ?_
          have hfn := fac_nn ((hol (fz F f 12) 12 : Int) / 2).toNat
          refine AW.ishl (pn := 61) rfl rfl (by omega) (by omega) (by omega) ?_
          refine AW.go 1 (pc' := 68) rfl ?_
          refine AW.ret rfl rfl (Nat.le_refl _) (Nat.le_refl _) ?_
          refine ⟨congrArg some ?_, ⟨_, rfl⟩⟩
          unfold V_fills
          rw [if_pos c4, if_pos ⟨c13, c31⟩]
          first
            | (rw [if_pos c48, show ((hol (fz F f 12) 12 : Int) / 2).toNat = hol (fz F f 12) 12 / 2 by omega]; done)
            | (rw [if_neg c48, Int.toNat_natCast]; done)
      · refine AW.go 1 (pc' := 35) rfl ?_
        refine AW.ret rfl rfl (Nat.le_refl _) (Nat.le_refl _) ?_
        refine ⟨congrArg some ?_, ?_⟩
        · unfold V_fills
          first
            | (rw [if_neg c4]; done)
            | (rw [if_pos c4, if_neg (fun q => c13 q.1)]; done)
            | (rw [if_pos c4, if_neg (fun q => c31 q.2)]; done)
        · first | exact ⟨_, rfl⟩ | exact ⟨sc, (set_same g28).symm⟩
  · refine AW.go 1 (pc' := 8) rfl ?_
    refine AW.ret rfl rfl (Nat.le_refl _) (Nat.le_refl _) ?_
    refine ⟨congrArg some ?_, ?_⟩
    · unfold V_fills
      first
        | (rw [if_neg c4]; done)
        | (rw [if_pos c4, if_neg (fun q => c13 q.1)]; done)
        | (rw [if_pos c4, if_neg (fun q => c31 q.2)]; done)
    · first | exact ⟨_, rfl⟩ | exact ⟨sc, (set_same g28).symm⟩
set_option maxHeartbeats 2000000 in
theorem c_X3_filling (d : Nat) (hd : 5 ≤ d) (h : List AC) (g0 : h[0]? = some (ao 3 [vr 1, vr 3, vr 10, vr 25, vr 28])) (kp : Int) (g3 : h[3]? = some (ao 2 [vr 4, vr 9, vi kp])) (f : Nat → Int) (g9 : h[9]? = some (ai 0 12 f)) (hp : pn f) (hj : pj f) (sc : Nat → Int) (g28 : h[28]? = some (ai 0 12 sc)) (F p : Int) (rF : -2147483648 ≤ F ∧ F < 2147483648) (rp : -2147483648 ≤ p ∧ p < 2147483648) : M0 zX3_filling d [vr 0, vi F, vi p] h (fun v u => v = some (V_fill F f p) ∧ ∃ I : Nat → Int, u = h.set 28 (ai 0 12 I)) := by
  refine M0.of okX3_filling (Nat.le_of_ble_eq_true rfl) ?_
  refine AW.go 1 (pc' := 1) rfl ?_
  refine AW.callSF (pn := 4) rfl rfl mlX3_82 (c_X3_isForm (d - 1) (by omega) _ _ (by omega)) rfl rfl (Nat.le_of_ble_eq_true rfl) ⟨by show d - 1 + 1 ≤ d; omega, by show 40 * (d - 1 + 1) ≤ 40 * d; omega⟩ ⟨Nat.zero_le _, Nat.zero_le _⟩ ?_
  refine AW.bnz (tgt := 9) (pn := 7) rfl (by decide) rfl (fun c4 => ?_) (fun c4 => ?_)
  · refine AW.go 1 (pc' := 10) rfl ?_
    refine AW.callSF (pn := 13) rfl rfl mlX3_79 (c_X3_isPlace (d - 1) (by omega) _ _ (by omega)) rfl rfl (Nat.le_of_ble_eq_true rfl) ⟨by show d - 1 + 1 ≤ d; omega, by show 40 * (d - 1 + 1) ≤ 40 * d; omega⟩ ⟨Nat.zero_le _, Nat.zero_le _⟩ ?_
    refine AW.bnz (tgt := 19) (pn := 16) rfl (by decide) rfl (fun c13 => ?_) (fun c13 => ?_)
    · refine AW.go 1 (pc' := 20) rfl ?_
      refine AW.callSF (pn := 23) rfl rfl mlX3_143 (c_X3_canKeepRows (d - 1) (by omega) _ _ (by omega)) rfl rfl (Nat.le_of_ble_eq_true rfl) ⟨by show d - 1 + 1 ≤ d; omega, by show 40 * (d - 1 + 1) ≤ 40 * d; omega⟩ ⟨Nat.zero_le _, Nat.zero_le _⟩ ?_
      refine AW.bz (tgt := 44) (pn := 26) rfl (by decide) rfl (fun c23 => ?_) (fun c23 => ?_)
      · refine AW.go 1 (pc' := 46) rfl ?_
        refine AW.ret rfl rfl (Nat.le_refl _) (Nat.le_refl _) ?_
        refine ⟨congrArg some ?_, ?_⟩
        · unfold V_fill
          first
            | (rw [if_neg c4]; done)
            | (rw [if_pos c4, if_neg c13]; done)
            | (rw [if_pos c4, if_pos c13, if_neg (fun q => c23 q.1)]; done)
            | (rw [if_pos c4, if_pos c13, if_neg (fun q => c41 q.2)]; done)
        · first | exact ⟨_, rfl⟩ | exact ⟨sc, (set_same g28).symm⟩
      · refine AW.go 1 (pc' := 27) rfl ?_
        refine AW.getf (pn := 30) rfl rfl flX3_19 (by first | assumption | exact set_self (by first | assumption | exact set_self (by first | assumption | exact set_self (by assumption) | exact set_ne (by first | assumption | decide | omega) (by assumption)) | exact set_ne (by first | assumption | decide | omega) (by first | assumption | exact set_self (by assumption) | exact set_ne (by first | assumption | decide | omega) (by assumption))) | exact set_ne (by first | assumption | decide | omega) (by first | assumption | exact set_self (by first | assumption | exact set_self (by assumption) | exact set_ne (by first | assumption | decide | omega) (by assumption)) | exact set_ne (by first | assumption | decide | omega) (by first | assumption | exact set_self (by assumption) | exact set_ne (by first | assumption | decide | omega) (by assumption)))) rfl ?_
        refine AW.getf (pn := 33) rfl rfl flX3_69 (by first | assumption | exact set_self (by first | assumption | exact set_self (by first | assumption | exact set_self (by assumption) | exact set_ne (by first | assumption | decide | omega) (by assumption)) | exact set_ne (by first | assumption | decide | omega) (by first | assumption | exact set_self (by assumption) | exact set_ne (by first | assumption | decide | omega) (by assumption))) | exact set_ne (by first | assumption | decide | omega) (by first | assumption | exact set_self (by first | assumption | exact set_self (by assumption) | exact set_ne (by first | assumption | decide | omega) (by assumption)) | exact set_ne (by first | assumption | decide | omega) (by first | assumption | exact set_self (by assumption) | exact set_ne (by first | assumption | decide | omega) (by assumption)))) rfl ?_
        refine AW.go 2 (pc' := 35) rfl ?_
        refine AW.getf (pn := 38) rfl rfl flX3_34 (by first | assumption | exact set_self (by first | assumption | exact set_self (by first | assumption | exact set_self (by assumption) | exact set_ne (by first | assumption | decide | omega) (by assumption)) | exact set_ne (by first | assumption | decide | omega) (by first | assumption | exact set_self (by assumption) | exact set_ne (by first | assumption | decide | omega) (by assumption))) | exact set_ne (by first | assumption | decide | omega) (by first | assumption | exact set_self (by first | assumption | exact set_self (by assumption) | exact set_ne (by first | assumption | decide | omega) (by assumption)) | exact set_ne (by first | assumption | decide | omega) (by first | assumption | exact set_self (by assumption) | exact set_ne (by first | assumption | decide | omega) (by assumption)))) rfl ?_
        refine AW.callS (pn := 41) rfl rfl mlX3_146 (c_X3_fillForced (d - 1) (by omega) _ _ _ (by decide) _ _ g9 g28 hp hj _ (by omega)) rfl rfl (Nat.le_of_ble_eq_true rfl) ⟨by show d - 1 + 1 ≤ d; omega, by show 40 * (d - 1 + 1) ≤ 40 * d; omega⟩ ⟨Nat.zero_le _, Nat.zero_le _⟩ ?_
        intro v u hq
        obtain ⟨rfl, I, rfl, hI⟩ := hq
        refine AW.bnz (tgt := 47) (pn := 44) rfl (by decide) rfl (fun c41 => ?_) (fun c41 => ?_)
        · have hIf := hI c41
          have hFI : FI F I := FI_congr hIf (FI_fz c23 c4.2 hp c41)
          refine AW.go 1 (pc' := 48) rfl ?_
          refine AW.getf (pn := 51) rfl rfl flX3_34 (by first | assumption | exact set_self (by first | assumption | exact set_self (by first | assumption | exact set_self (by assumption) | exact set_ne (by first | assumption | decide | omega) (by assumption)) | exact set_ne (by first | assumption | decide | omega) (by first | assumption | exact set_self (by assumption) | exact set_ne (by first | assumption | decide | omega) (by assumption))) | exact set_ne (by first | assumption | decide | omega) (by first | assumption | exact set_self (by first | assumption | exact set_self (by assumption) | exact set_ne (by first | assumption | decide | omega) (by assumption)) | exact set_ne (by first | assumption | decide | omega) (by first | assumption | exact set_self (by assumption) | exact set_ne (by first | assumption | decide | omega) (by assumption)))) rfl ?_
          refine AW.go 1 (pc' := 52) rfl ?_
          refine AW.callSV (pn := 55) rfl rfl mlX3_156 (c_X3_fillFree (d - 1) (by omega) _ _ _ (set_self g28) _ (by omega) c23 hFI) rfl rfl (Nat.le_of_ble_eq_true rfl) ⟨by show d - 1 + 1 ≤ d; omega, by show 40 * (d - 1 + 1) ≤ 40 * d; omega⟩ ⟨Nat.zero_le _, Nat.zero_le _⟩ ?_
          rw [List.set_set]
          refine AW.go 1 (pc' := 56) rfl ?_
          refine AW.getf (pn := 59) rfl rfl flX3_34 (by first | assumption | exact set_self (by first | assumption | exact set_self (by first | assumption | exact set_self (by assumption) | exact set_ne (by first | assumption | decide | omega) (by assumption)) | exact set_ne (by first | assumption | decide | omega) (by first | assumption | exact set_self (by assumption) | exact set_ne (by first | assumption | decide | omega) (by assumption))) | exact set_ne (by first | assumption | decide | omega) (by first | assumption | exact set_self (by first | assumption | exact set_self (by assumption) | exact set_ne (by first | assumption | decide | omega) (by assumption)) | exact set_ne (by first | assumption | decide | omega) (by first | assumption | exact set_self (by assumption) | exact set_ne (by first | assumption | decide | omega) (by assumption)))) rfl ?_
          refine AW.go 1 (pc' := 60) rfl ?_
          refine AW.iald (pn := 61) rfl rfl (by first | assumption | exact set_self (by first | assumption | exact set_self (by first | assumption | exact set_self (by assumption) | exact set_ne (by first | assumption | decide | omega) (by assumption)) | exact set_ne (by first | assumption | decide | omega) (by first | assumption | exact set_self (by assumption) | exact set_ne (by first | assumption | decide | omega) (by assumption))) | exact set_ne (by first | assumption | decide | omega) (by first | assumption | exact set_self (by first | assumption | exact set_self (by assumption) | exact set_ne (by first | assumption | decide | omega) (by assumption)) | exact set_ne (by first | assumption | decide | omega) (by first | assumption | exact set_self (by assumption) | exact set_ne (by first | assumption | decide | omega) (by assumption)))) (by first | decide | omega) (by omega) (by omega) ?_
          refine AW.ret rfl rfl (Nat.le_refl _) (Nat.le_refl _) ?_
          refine ⟨congrArg some ?_, ⟨_, rfl⟩⟩
          unfold V_fill
          rw [if_pos c4, if_pos c13, if_pos ⟨c23, c41⟩]
          exact ffl_congr hIf 12 (Nat.le_refl _) _ (by omega)
        · refine AW.go 1 (pc' := 46) rfl ?_
          refine AW.ret rfl rfl (Nat.le_refl _) (Nat.le_refl _) ?_
          refine ⟨congrArg some ?_, ?_⟩
          · unfold V_fill
            first
              | (rw [if_neg c4]; done)
              | (rw [if_pos c4, if_neg c13]; done)
              | (rw [if_pos c4, if_pos c13, if_neg (fun q => c23 q.1)]; done)
              | (rw [if_pos c4, if_pos c13, if_neg (fun q => c41 q.2)]; done)
          · first | exact ⟨_, rfl⟩ | exact ⟨sc, (set_same g28).symm⟩
    · refine AW.go 1 (pc' := 18) rfl ?_
      refine AW.ret rfl rfl (Nat.le_refl _) (Nat.le_refl _) ?_
      refine ⟨congrArg some ?_, ?_⟩
      · unfold V_fill
        first
          | (rw [if_neg c4]; done)
          | (rw [if_pos c4, if_neg c13]; done)
          | (rw [if_pos c4, if_pos c13, if_neg (fun q => c23 q.1)]; done)
          | (rw [if_pos c4, if_pos c13, if_neg (fun q => c41 q.2)]; done)
      · first | exact ⟨_, rfl⟩ | exact ⟨sc, (set_same g28).symm⟩
  · refine AW.go 1 (pc' := 8) rfl ?_
    refine AW.ret rfl rfl (Nat.le_refl _) (Nat.le_refl _) ?_
    refine ⟨congrArg some ?_, ?_⟩
    · unfold V_fill
      first
        | (rw [if_neg c4]; done)
        | (rw [if_pos c4, if_neg c13]; done)
        | (rw [if_pos c4, if_pos c13, if_neg (fun q => c23 q.1)]; done)
        | (rw [if_pos c4, if_pos c13, if_neg (fun q => c41 q.2)]; done)
    · first | exact ⟨_, rfl⟩ | exact ⟨sc, (set_same g28).symm⟩
