section Rules
variable {z : ZM} {G : GG} {R : Room} {MC MS k n pc pn : Nat} {ls : List (Nat × AV)} {st : List AV} {h : List AC} {Q : Option Int → List AC → Prop}
theorem AW.rep {a b : Int} (e : iI a = iI b) (kk : AW z G R MC MS k n pc ls (vi b :: st) h Q) : AW z G R MC MS k n pc ls (vi a :: st) h Q := by
  intro p l en s m args below meth c D τ A ρ0 ρ Zf C hK hA hG hZ H locs lsA hP hD hS hl
  have K := kk p l en s m args below meth c D τ A ρ0 ρ Zf C hK hA hG hZ H locs lsA hP hD hS hl
  have e2 : (vi a :: st).map (cv ρ) = (vi b :: st).map (cv ρ) := by
    show Value.int (iI a) :: st.map (cv ρ) = Value.int (iI b) :: st.map (cv ρ)
    rw [e]
  rw [e2]
  exact K
end Rules
theorem ft_r (f : Nat → Int) (n F p : Int) : -2147483648 ≤ ft f n F p ∧ ft f n F p < 2147483648 := by
  have := ft_b f n F p; omega
def wr (a : Int) : Int := if a < -2147483648 then a + 4294967296 else a
theorem wr_eq (a : Int) : iI a = iI (wr a) := by
  unfold wr
  split
  · rw [← iI_add, show iI 4294967296 = 0 by decide +kernel, Int32.add_zero]
  · rfl
theorem wr_c (a : Int) : (wr a = a ∧ -2147483648 ≤ a) ∨ (a < -2147483648 ∧ wr a = a + 4294967296) := by
  unfold wr; split <;> omega
theorem lik_self {m : Nat → Int} (hm : mt m) {r : Int} (hr : 0 ≤ r ∧ r < 4) : isf (rwm m r) 12 0 (rwm m r) 0 = true := by
  refine (allN_iff _ _).mpr (fun j hj => decide_eq_true ?_)
  have hj : j < 12 := hj
  have g := rwm_tn hm hr j hj
  unfold ft px mv
  rw [if_neg (by decide), if_neg (by decide), Int.zero_add, Int.zero_add, Int.toNat_natCast]
  omega

set_option maxHeartbeats 2000000 in
theorem c_X4_tone (d : Nat) (hd : 2 ≤ d) (h : List AC) (pm rf gm ka wr9 : Int) (hO : h[29]? = some (ao 4 (mo pm rf gm ka wr9))) (m : Nat → Int) (hM : h[30]? = some (ai 0 48 m)) (hm : mt m) (r p : Int) (rr : -2147483648 ≤ r ∧ r < 2147483648) (rp : -2147483648 ≤ p ∧ p < 2147483648) : MF zX4_tone d [vr 29, vi r, vi p] h (V_tone m r p) h := by
  refine M0.of okX4_tone (Nat.le_of_ble_eq_true rfl) ?_
  refine AW.go 1 (pc' := 1) rfl ?_
  refine AW.callSF (pn := 4) rfl rfl mlX4_79 (c_X4_isRow (d - 1) (by omega) _ _ (by omega)) rfl rfl (Nat.le_of_ble_eq_true rfl) ⟨by show d - 1 + 1 ≤ d; omega, by show 40 * (d - 1 + 1) ≤ 40 * d; omega⟩ ⟨Nat.zero_le _, Nat.zero_le _⟩ ?_
  refine AW.bnz (tgt := 11) (pn := 7) rfl (by decide) rfl (fun c4 => ?_) (fun c4 => ?_)
  · refine AW.go 1 (pc' := 12) rfl ?_
    refine AW.callSF (pn := 15) rfl rfl mlX4_86 (c_X4_isPlace (d - 1) (by omega) _ _ (by omega)) rfl rfl (Nat.le_of_ble_eq_true rfl) ⟨by show d - 1 + 1 ≤ d; omega, by show 40 * (d - 1 + 1) ≤ 40 * d; omega⟩ ⟨Nat.zero_le _, Nat.zero_le _⟩ ?_
    refine AW.bz (tgt := 27) (pn := 18) rfl (by decide) rfl (fun c15 => ?_) (fun c15 => ?_)
    · refine AW.go 1 (pc' := 29) rfl ?_
      refine AW.ret rfl rfl (Nat.le_refl _) (Nat.le_refl _) ?_
      refine ⟨congrArg some ?_, rfl⟩
      unfold V_tone
      (repeat' split) <;> first | rfl | omega
    · refine AW.go 3 (pc' := 21) rfl ?_
      refine AW.callVF (pn := 24) rfl rfl mlX4_89 (by first | assumption | exact set_self (by assumption) | exact set_ne (by first | assumption | omega | decide) (by first | assumption | exact set_self (by assumption) | exact set_ne (by first | assumption | omega | decide) (by assumption))) (c_X4_toneAt (d - 1) (by omega) _ _ _ _ _ _ (by assumption) _ (by assumption) (by assumption) _ _ (by omega) (by omega)) rfl rfl (Nat.le_of_ble_eq_true rfl) ⟨by show d - 1 + 1 ≤ d; omega, by show 40 * (d - 1 + 1) ≤ 40 * d; omega⟩ ⟨Nat.zero_le _, Nat.zero_le _⟩ ?_
      refine AW.go 1 (pc' := 29) rfl ?_
      refine AW.ret rfl rfl (Nat.le_refl _) (Nat.le_refl _) ?_
      refine ⟨congrArg some ?_, rfl⟩
      unfold V_tone
      (repeat' split) <;> first | rfl | omega
  · refine AW.go 2 (pc' := 29) rfl ?_
    refine AW.ret rfl rfl (Nat.le_refl _) (Nat.le_refl _) ?_
    refine ⟨congrArg some ?_, rfl⟩
    unfold V_tone
    (repeat' split) <;> first | rfl | omega
set_option maxHeartbeats 2000000 in
theorem c_X4_behind (d : Nat) (hd : 2 ≤ d) (h : List AC) (F G : Int) (rF : -2147483648 ≤ F ∧ F < 2147483648) (rG : -2147483648 ≤ G ∧ G < 2147483648) : MF zX4_behind d [vr 29, vi F, vi G] h (V_behind F G) h := by
  refine M0.of okX4_behind (Nat.le_of_ble_eq_true rfl) ?_
  refine AW.go 1 (pc' := 1) rfl ?_
  refine AW.callSF (pn := 4) rfl rfl mlX4_102 (c_X4_isForm (d - 1) (by omega) _ _ (by omega)) rfl rfl (Nat.le_of_ble_eq_true rfl) ⟨by show d - 1 + 1 ≤ d; omega, by show 40 * (d - 1 + 1) ≤ 40 * d; omega⟩ ⟨Nat.zero_le _, Nat.zero_le _⟩ ?_
  refine AW.bz (tgt := 14) (pn := 7) rfl (by decide) rfl (fun c4 => ?_) (fun c4 => ?_)
  · refine AW.go 1 (pc' := 15) rfl ?_
    refine AW.ret rfl rfl (Nat.le_refl _) (Nat.le_refl _) ?_
    refine ⟨congrArg some ?_, rfl⟩
    unfold V_behind
    (repeat' split) <;> first | rfl | omega
  · refine AW.go 1 (pc' := 8) rfl ?_
    refine AW.callSF (pn := 11) rfl rfl mlX4_102 (c_X4_isForm (d - 1) (by omega) _ _ (by omega)) rfl rfl (Nat.le_of_ble_eq_true rfl) ⟨by show d - 1 + 1 ≤ d; omega, by show 40 * (d - 1 + 1) ≤ 40 * d; omega⟩ ⟨Nat.zero_le _, Nat.zero_le _⟩ ?_
    refine AW.bnz (tgt := 16) (pn := 14) rfl (by decide) rfl (fun c11 => ?_) (fun c11 => ?_)
    · refine AW.go 1 (pc' := 17) rfl ?_
      refine AW.callSF (pn := 20) rfl rfl mlX4_93 (c_X4_isMirror (d - 1) (by omega) _ _ (by omega)) rfl rfl (Nat.le_of_ble_eq_true rfl) ⟨by show d - 1 + 1 ≤ d; omega, by show 40 * (d - 1 + 1) ≤ 40 * d; omega⟩ ⟨Nat.zero_le _, Nat.zero_le _⟩ ?_
      refine AW.go 1 (pc' := 21) rfl ?_
      refine AW.callSF (pn := 24) rfl rfl mlX4_93 (c_X4_isMirror (d - 1) (by omega) _ _ (by omega)) rfl rfl (Nat.le_of_ble_eq_true rfl) ⟨by show d - 1 + 1 ≤ d; omega, by show 40 * (d - 1 + 1) ≤ 40 * d; omega⟩ ⟨Nat.zero_le _, Nat.zero_le _⟩ ?_
      refine AW.bi (tgt := 31) (pn := 27) rfl (by decide) rfl (by first | exact bI_rng _ | exact ⟨by omega, by omega⟩) (by first | exact bI_rng _ | exact ⟨by omega, by omega⟩) (fun c24 => ?_) (fun c24 => ?_)
      · dsimp only [cmpI] at c24
        refine AW.go 3 (pc' := 34) rfl ?_
        refine AW.callSF (pn := 37) rfl rfl mlX4_96 (c_X4_isBack (d - 1) (by omega) _ _ (by omega)) rfl rfl (Nat.le_of_ble_eq_true rfl) ⟨by show d - 1 + 1 ≤ d; omega, by show 40 * (d - 1 + 1) ≤ 40 * d; omega⟩ ⟨Nat.zero_le _, Nat.zero_le _⟩ ?_
        refine AW.go 1 (pc' := 38) rfl ?_
        refine AW.callSF (pn := 41) rfl rfl mlX4_96 (c_X4_isBack (d - 1) (by omega) _ _ (by omega)) rfl rfl (Nat.le_of_ble_eq_true rfl) ⟨by show d - 1 + 1 ≤ d; omega, by show 40 * (d - 1 + 1) ≤ 40 * d; omega⟩ ⟨Nat.zero_le _, Nat.zero_le _⟩ ?_
        refine AW.bi (tgt := 48) (pn := 44) rfl (by decide) rfl (by first | exact bI_rng _ | exact ⟨by omega, by omega⟩) (by first | exact bI_rng _ | exact ⟨by omega, by omega⟩) (fun c41 => ?_) (fun c41 => ?_)
        · dsimp only [cmpI] at c41
          refine AW.go 4 (pc' := 55) rfl ?_
          refine AW.br (tgt := 62) (pn := 58) rfl (by decide) rfl (by first | exact bI_rng _ | exact ⟨by omega, by omega⟩) (fun c55 => ?_) (fun c55 => ?_)
          · dsimp only [cmpI] at c55
            refine AW.go 2 (pc' := 64) rfl ?_
            refine AW.br (tgt := 71) (pn := 67) rfl (by decide) rfl (by first | exact bI_rng _ | exact ⟨by omega, by omega⟩) (fun c64 => ?_) (fun c64 => ?_)
            · dsimp only [cmpI] at c64
              refine AW.go 6 (pc' := 78) rfl ?_
              refine AW.irem (pn := 79) rfl rfl (by omega) (by omega) (by omega) (by omega) ?_
              refine AW.callSF (pn := 82) rfl rfl mlX4_99 (c_X4_moved (d - 1) (by omega) _ _ _ (by omega) (by omega)) rfl rfl (Nat.le_of_ble_eq_true rfl) ⟨by show d - 1 + 1 ≤ d; omega, by show 40 * (d - 1 + 1) ≤ 40 * d; omega⟩ ⟨Nat.zero_le _, Nat.zero_le _⟩ ?_
              refine AW.go 1 (pc' := 83) rfl ?_
              refine AW.ret rfl rfl (Nat.le_refl _) (Nat.le_refl _) ?_
              refine ⟨congrArg some ?_, rfl⟩
              first
                | (exfalso; omega)
                | (unfold V_behind xk; rw [if_pos ⟨c4, c11⟩]; (first | rw [if_pos c41] | rw [if_neg c41]); (first | rw [if_pos c24] | rw [if_neg c24]))
            · dsimp only [cmpI] at c64
              refine AW.go 7 (pc' := 78) rfl ?_
              refine AW.irem (pn := 79) rfl rfl (by omega) (by omega) (by omega) (by omega) ?_
              refine AW.callSF (pn := 82) rfl rfl mlX4_99 (c_X4_moved (d - 1) (by omega) _ _ _ (by omega) (by omega)) rfl rfl (Nat.le_of_ble_eq_true rfl) ⟨by show d - 1 + 1 ≤ d; omega, by show 40 * (d - 1 + 1) ≤ 40 * d; omega⟩ ⟨Nat.zero_le _, Nat.zero_le _⟩ ?_
              refine AW.go 1 (pc' := 83) rfl ?_
              refine AW.ret rfl rfl (Nat.le_refl _) (Nat.le_refl _) ?_
              refine ⟨congrArg some ?_, rfl⟩
              first
                | (exfalso; omega)
                | (unfold V_behind xk; rw [if_pos ⟨c4, c11⟩]; (first | rw [if_pos c41] | rw [if_neg c41]); (first | rw [if_pos c24] | rw [if_neg c24]))
          · dsimp only [cmpI] at c55
            refine AW.go 3 (pc' := 64) rfl ?_
            refine AW.br (tgt := 71) (pn := 67) rfl (by decide) rfl (by first | exact bI_rng _ | exact ⟨by omega, by omega⟩) (fun c64 => ?_) (fun c64 => ?_)
            · dsimp only [cmpI] at c64
              refine AW.go 6 (pc' := 78) rfl ?_
              refine AW.irem (pn := 79) rfl rfl (by omega) (by omega) (by omega) (by omega) ?_
              refine AW.callSF (pn := 82) rfl rfl mlX4_99 (c_X4_moved (d - 1) (by omega) _ _ _ (by omega) (by omega)) rfl rfl (Nat.le_of_ble_eq_true rfl) ⟨by show d - 1 + 1 ≤ d; omega, by show 40 * (d - 1 + 1) ≤ 40 * d; omega⟩ ⟨Nat.zero_le _, Nat.zero_le _⟩ ?_
              refine AW.go 1 (pc' := 83) rfl ?_
              refine AW.ret rfl rfl (Nat.le_refl _) (Nat.le_refl _) ?_
              refine ⟨congrArg some ?_, rfl⟩
              first
                | (exfalso; omega)
                | (unfold V_behind xk; rw [if_pos ⟨c4, c11⟩]; (first | rw [if_pos c41] | rw [if_neg c41]); (first | rw [if_pos c24] | rw [if_neg c24]))
            · dsimp only [cmpI] at c64
              refine AW.go 7 (pc' := 78) rfl ?_
              refine AW.irem (pn := 79) rfl rfl (by omega) (by omega) (by omega) (by omega) ?_
              refine AW.callSF (pn := 82) rfl rfl mlX4_99 (c_X4_moved (d - 1) (by omega) _ _ _ (by omega) (by omega)) rfl rfl (Nat.le_of_ble_eq_true rfl) ⟨by show d - 1 + 1 ≤ d; omega, by show 40 * (d - 1 + 1) ≤ 40 * d; omega⟩ ⟨Nat.zero_le _, Nat.zero_le _⟩ ?_
              refine AW.go 1 (pc' := 83) rfl ?_
              refine AW.ret rfl rfl (Nat.le_refl _) (Nat.le_refl _) ?_
              refine ⟨congrArg some ?_, rfl⟩
              first
                | (exfalso; omega)
                | (unfold V_behind xk; rw [if_pos ⟨c4, c11⟩]; (first | rw [if_pos c41] | rw [if_neg c41]); (first | rw [if_pos c24] | rw [if_neg c24]))
        · dsimp only [cmpI] at c41
          refine AW.go 5 (pc' := 55) rfl ?_
          refine AW.br (tgt := 62) (pn := 58) rfl (by decide) rfl (by first | exact bI_rng _ | exact ⟨by omega, by omega⟩) (fun c55 => ?_) (fun c55 => ?_)
          · dsimp only [cmpI] at c55
            refine AW.go 2 (pc' := 64) rfl ?_
            refine AW.br (tgt := 71) (pn := 67) rfl (by decide) rfl (by first | exact bI_rng _ | exact ⟨by omega, by omega⟩) (fun c64 => ?_) (fun c64 => ?_)
            · dsimp only [cmpI] at c64
              refine AW.go 6 (pc' := 78) rfl ?_
              refine AW.irem (pn := 79) rfl rfl (by omega) (by omega) (by omega) (by omega) ?_
              refine AW.callSF (pn := 82) rfl rfl mlX4_99 (c_X4_moved (d - 1) (by omega) _ _ _ (by omega) (by omega)) rfl rfl (Nat.le_of_ble_eq_true rfl) ⟨by show d - 1 + 1 ≤ d; omega, by show 40 * (d - 1 + 1) ≤ 40 * d; omega⟩ ⟨Nat.zero_le _, Nat.zero_le _⟩ ?_
              refine AW.go 1 (pc' := 83) rfl ?_
              refine AW.ret rfl rfl (Nat.le_refl _) (Nat.le_refl _) ?_
              refine ⟨congrArg some ?_, rfl⟩
              first
                | (exfalso; omega)
                | (unfold V_behind xk; rw [if_pos ⟨c4, c11⟩]; (first | rw [if_pos c41] | rw [if_neg c41]); (first | rw [if_pos c24] | rw [if_neg c24]))
            · dsimp only [cmpI] at c64
              refine AW.go 7 (pc' := 78) rfl ?_
              refine AW.irem (pn := 79) rfl rfl (by omega) (by omega) (by omega) (by omega) ?_
              refine AW.callSF (pn := 82) rfl rfl mlX4_99 (c_X4_moved (d - 1) (by omega) _ _ _ (by omega) (by omega)) rfl rfl (Nat.le_of_ble_eq_true rfl) ⟨by show d - 1 + 1 ≤ d; omega, by show 40 * (d - 1 + 1) ≤ 40 * d; omega⟩ ⟨Nat.zero_le _, Nat.zero_le _⟩ ?_
              refine AW.go 1 (pc' := 83) rfl ?_
              refine AW.ret rfl rfl (Nat.le_refl _) (Nat.le_refl _) ?_
              refine ⟨congrArg some ?_, rfl⟩
              first
                | (exfalso; omega)
                | (unfold V_behind xk; rw [if_pos ⟨c4, c11⟩]; (first | rw [if_pos c41] | rw [if_neg c41]); (first | rw [if_pos c24] | rw [if_neg c24]))
          · dsimp only [cmpI] at c55
            refine AW.go 3 (pc' := 64) rfl ?_
            refine AW.br (tgt := 71) (pn := 67) rfl (by decide) rfl (by first | exact bI_rng _ | exact ⟨by omega, by omega⟩) (fun c64 => ?_) (fun c64 => ?_)
            · dsimp only [cmpI] at c64
              refine AW.go 6 (pc' := 78) rfl ?_
              refine AW.irem (pn := 79) rfl rfl (by omega) (by omega) (by omega) (by omega) ?_
              refine AW.callSF (pn := 82) rfl rfl mlX4_99 (c_X4_moved (d - 1) (by omega) _ _ _ (by omega) (by omega)) rfl rfl (Nat.le_of_ble_eq_true rfl) ⟨by show d - 1 + 1 ≤ d; omega, by show 40 * (d - 1 + 1) ≤ 40 * d; omega⟩ ⟨Nat.zero_le _, Nat.zero_le _⟩ ?_
              refine AW.go 1 (pc' := 83) rfl ?_
              refine AW.ret rfl rfl (Nat.le_refl _) (Nat.le_refl _) ?_
              refine ⟨congrArg some ?_, rfl⟩
              first
                | (exfalso; omega)
                | (unfold V_behind xk; rw [if_pos ⟨c4, c11⟩]; (first | rw [if_pos c41] | rw [if_neg c41]); (first | rw [if_pos c24] | rw [if_neg c24]))
            · dsimp only [cmpI] at c64
              refine AW.go 7 (pc' := 78) rfl ?_
              refine AW.irem (pn := 79) rfl rfl (by omega) (by omega) (by omega) (by omega) ?_
              refine AW.callSF (pn := 82) rfl rfl mlX4_99 (c_X4_moved (d - 1) (by omega) _ _ _ (by omega) (by omega)) rfl rfl (Nat.le_of_ble_eq_true rfl) ⟨by show d - 1 + 1 ≤ d; omega, by show 40 * (d - 1 + 1) ≤ 40 * d; omega⟩ ⟨Nat.zero_le _, Nat.zero_le _⟩ ?_
              refine AW.go 1 (pc' := 83) rfl ?_
              refine AW.ret rfl rfl (Nat.le_refl _) (Nat.le_refl _) ?_
              refine ⟨congrArg some ?_, rfl⟩
              first
                | (exfalso; omega)
                | (unfold V_behind xk; rw [if_pos ⟨c4, c11⟩]; (first | rw [if_pos c41] | rw [if_neg c41]); (first | rw [if_pos c24] | rw [if_neg c24]))
      · dsimp only [cmpI] at c24
        refine AW.go 4 (pc' := 34) rfl ?_
        refine AW.callSF (pn := 37) rfl rfl mlX4_96 (c_X4_isBack (d - 1) (by omega) _ _ (by omega)) rfl rfl (Nat.le_of_ble_eq_true rfl) ⟨by show d - 1 + 1 ≤ d; omega, by show 40 * (d - 1 + 1) ≤ 40 * d; omega⟩ ⟨Nat.zero_le _, Nat.zero_le _⟩ ?_
        refine AW.go 1 (pc' := 38) rfl ?_
        refine AW.callSF (pn := 41) rfl rfl mlX4_96 (c_X4_isBack (d - 1) (by omega) _ _ (by omega)) rfl rfl (Nat.le_of_ble_eq_true rfl) ⟨by show d - 1 + 1 ≤ d; omega, by show 40 * (d - 1 + 1) ≤ 40 * d; omega⟩ ⟨Nat.zero_le _, Nat.zero_le _⟩ ?_
        refine AW.bi (tgt := 48) (pn := 44) rfl (by decide) rfl (by first | exact bI_rng _ | exact ⟨by omega, by omega⟩) (by first | exact bI_rng _ | exact ⟨by omega, by omega⟩) (fun c41 => ?_) (fun c41 => ?_)
        · dsimp only [cmpI] at c41
          refine AW.go 4 (pc' := 55) rfl ?_
          refine AW.br (tgt := 62) (pn := 58) rfl (by decide) rfl (by first | exact bI_rng _ | exact ⟨by omega, by omega⟩) (fun c55 => ?_) (fun c55 => ?_)
          · dsimp only [cmpI] at c55
            refine AW.go 2 (pc' := 64) rfl ?_
            refine AW.br (tgt := 71) (pn := 67) rfl (by decide) rfl (by first | exact bI_rng _ | exact ⟨by omega, by omega⟩) (fun c64 => ?_) (fun c64 => ?_)
            · dsimp only [cmpI] at c64
              refine AW.go 6 (pc' := 78) rfl ?_
              refine AW.irem (pn := 79) rfl rfl (by omega) (by omega) (by omega) (by omega) ?_
              refine AW.callSF (pn := 82) rfl rfl mlX4_99 (c_X4_moved (d - 1) (by omega) _ _ _ (by omega) (by omega)) rfl rfl (Nat.le_of_ble_eq_true rfl) ⟨by show d - 1 + 1 ≤ d; omega, by show 40 * (d - 1 + 1) ≤ 40 * d; omega⟩ ⟨Nat.zero_le _, Nat.zero_le _⟩ ?_
              refine AW.go 1 (pc' := 83) rfl ?_
              refine AW.ret rfl rfl (Nat.le_refl _) (Nat.le_refl _) ?_
              refine ⟨congrArg some ?_, rfl⟩
              first
                | (exfalso; omega)
                | (unfold V_behind xk; rw [if_pos ⟨c4, c11⟩]; (first | rw [if_pos c41] | rw [if_neg c41]); (first | rw [if_pos c24] | rw [if_neg c24]))
            · dsimp only [cmpI] at c64
              refine AW.go 7 (pc' := 78) rfl ?_
              refine AW.irem (pn := 79) rfl rfl (by omega) (by omega) (by omega) (by omega) ?_
              refine AW.callSF (pn := 82) rfl rfl mlX4_99 (c_X4_moved (d - 1) (by omega) _ _ _ (by omega) (by omega)) rfl rfl (Nat.le_of_ble_eq_true rfl) ⟨by show d - 1 + 1 ≤ d; omega, by show 40 * (d - 1 + 1) ≤ 40 * d; omega⟩ ⟨Nat.zero_le _, Nat.zero_le _⟩ ?_
              refine AW.go 1 (pc' := 83) rfl ?_
              refine AW.ret rfl rfl (Nat.le_refl _) (Nat.le_refl _) ?_
              refine ⟨congrArg some ?_, rfl⟩
              first
                | (exfalso; omega)
                | (unfold V_behind xk; rw [if_pos ⟨c4, c11⟩]; (first | rw [if_pos c41] | rw [if_neg c41]); (first | rw [if_pos c24] | rw [if_neg c24]))
          · dsimp only [cmpI] at c55
            refine AW.go 3 (pc' := 64) rfl ?_
            refine AW.br (tgt := 71) (pn := 67) rfl (by decide) rfl (by first | exact bI_rng _ | exact ⟨by omega, by omega⟩) (fun c64 => ?_) (fun c64 => ?_)
            · dsimp only [cmpI] at c64
              refine AW.go 6 (pc' := 78) rfl ?_
              refine AW.irem (pn := 79) rfl rfl (by omega) (by omega) (by omega) (by omega) ?_
              refine AW.callSF (pn := 82) rfl rfl mlX4_99 (c_X4_moved (d - 1) (by omega) _ _ _ (by omega) (by omega)) rfl rfl (Nat.le_of_ble_eq_true rfl) ⟨by show d - 1 + 1 ≤ d; omega, by show 40 * (d - 1 + 1) ≤ 40 * d; omega⟩ ⟨Nat.zero_le _, Nat.zero_le _⟩ ?_
              refine AW.go 1 (pc' := 83) rfl ?_
              refine AW.ret rfl rfl (Nat.le_refl _) (Nat.le_refl _) ?_
              refine ⟨congrArg some ?_, rfl⟩
              first
                | (exfalso; omega)
                | (unfold V_behind xk; rw [if_pos ⟨c4, c11⟩]; (first | rw [if_pos c41] | rw [if_neg c41]); (first | rw [if_pos c24] | rw [if_neg c24]))
            · dsimp only [cmpI] at c64
              refine AW.go 7 (pc' := 78) rfl ?_
              refine AW.irem (pn := 79) rfl rfl (by omega) (by omega) (by omega) (by omega) ?_
              refine AW.callSF (pn := 82) rfl rfl mlX4_99 (c_X4_moved (d - 1) (by omega) _ _ _ (by omega) (by omega)) rfl rfl (Nat.le_of_ble_eq_true rfl) ⟨by show d - 1 + 1 ≤ d; omega, by show 40 * (d - 1 + 1) ≤ 40 * d; omega⟩ ⟨Nat.zero_le _, Nat.zero_le _⟩ ?_
              refine AW.go 1 (pc' := 83) rfl ?_
              refine AW.ret rfl rfl (Nat.le_refl _) (Nat.le_refl _) ?_
              refine ⟨congrArg some ?_, rfl⟩
              first
                | (exfalso; omega)
                | (unfold V_behind xk; rw [if_pos ⟨c4, c11⟩]; (first | rw [if_pos c41] | rw [if_neg c41]); (first | rw [if_pos c24] | rw [if_neg c24]))
        · dsimp only [cmpI] at c41
          refine AW.go 5 (pc' := 55) rfl ?_
          refine AW.br (tgt := 62) (pn := 58) rfl (by decide) rfl (by first | exact bI_rng _ | exact ⟨by omega, by omega⟩) (fun c55 => ?_) (fun c55 => ?_)
          · dsimp only [cmpI] at c55
            refine AW.go 2 (pc' := 64) rfl ?_
            refine AW.br (tgt := 71) (pn := 67) rfl (by decide) rfl (by first | exact bI_rng _ | exact ⟨by omega, by omega⟩) (fun c64 => ?_) (fun c64 => ?_)
            · dsimp only [cmpI] at c64
              refine AW.go 6 (pc' := 78) rfl ?_
              refine AW.irem (pn := 79) rfl rfl (by omega) (by omega) (by omega) (by omega) ?_
              refine AW.callSF (pn := 82) rfl rfl mlX4_99 (c_X4_moved (d - 1) (by omega) _ _ _ (by omega) (by omega)) rfl rfl (Nat.le_of_ble_eq_true rfl) ⟨by show d - 1 + 1 ≤ d; omega, by show 40 * (d - 1 + 1) ≤ 40 * d; omega⟩ ⟨Nat.zero_le _, Nat.zero_le _⟩ ?_
              refine AW.go 1 (pc' := 83) rfl ?_
              refine AW.ret rfl rfl (Nat.le_refl _) (Nat.le_refl _) ?_
              refine ⟨congrArg some ?_, rfl⟩
              first
                | (exfalso; omega)
                | (unfold V_behind xk; rw [if_pos ⟨c4, c11⟩]; (first | rw [if_pos c41] | rw [if_neg c41]); (first | rw [if_pos c24] | rw [if_neg c24]))
            · dsimp only [cmpI] at c64
              refine AW.go 7 (pc' := 78) rfl ?_
              refine AW.irem (pn := 79) rfl rfl (by omega) (by omega) (by omega) (by omega) ?_
              refine AW.callSF (pn := 82) rfl rfl mlX4_99 (c_X4_moved (d - 1) (by omega) _ _ _ (by omega) (by omega)) rfl rfl (Nat.le_of_ble_eq_true rfl) ⟨by show d - 1 + 1 ≤ d; omega, by show 40 * (d - 1 + 1) ≤ 40 * d; omega⟩ ⟨Nat.zero_le _, Nat.zero_le _⟩ ?_
              refine AW.go 1 (pc' := 83) rfl ?_
              refine AW.ret rfl rfl (Nat.le_refl _) (Nat.le_refl _) ?_
              refine ⟨congrArg some ?_, rfl⟩
              first
                | (exfalso; omega)
                | (unfold V_behind xk; rw [if_pos ⟨c4, c11⟩]; (first | rw [if_pos c41] | rw [if_neg c41]); (first | rw [if_pos c24] | rw [if_neg c24]))
          · dsimp only [cmpI] at c55
            refine AW.go 3 (pc' := 64) rfl ?_
            refine AW.br (tgt := 71) (pn := 67) rfl (by decide) rfl (by first | exact bI_rng _ | exact ⟨by omega, by omega⟩) (fun c64 => ?_) (fun c64 => ?_)
            · dsimp only [cmpI] at c64
              refine AW.go 6 (pc' := 78) rfl ?_
              refine AW.irem (pn := 79) rfl rfl (by omega) (by omega) (by omega) (by omega) ?_
              refine AW.callSF (pn := 82) rfl rfl mlX4_99 (c_X4_moved (d - 1) (by omega) _ _ _ (by omega) (by omega)) rfl rfl (Nat.le_of_ble_eq_true rfl) ⟨by show d - 1 + 1 ≤ d; omega, by show 40 * (d - 1 + 1) ≤ 40 * d; omega⟩ ⟨Nat.zero_le _, Nat.zero_le _⟩ ?_
              refine AW.go 1 (pc' := 83) rfl ?_
              refine AW.ret rfl rfl (Nat.le_refl _) (Nat.le_refl _) ?_
              refine ⟨congrArg some ?_, rfl⟩
              first
                | (exfalso; omega)
                | (unfold V_behind xk; rw [if_pos ⟨c4, c11⟩]; (first | rw [if_pos c41] | rw [if_neg c41]); (first | rw [if_pos c24] | rw [if_neg c24]))
            · dsimp only [cmpI] at c64
              refine AW.go 7 (pc' := 78) rfl ?_
              refine AW.irem (pn := 79) rfl rfl (by omega) (by omega) (by omega) (by omega) ?_
              refine AW.callSF (pn := 82) rfl rfl mlX4_99 (c_X4_moved (d - 1) (by omega) _ _ _ (by omega) (by omega)) rfl rfl (Nat.le_of_ble_eq_true rfl) ⟨by show d - 1 + 1 ≤ d; omega, by show 40 * (d - 1 + 1) ≤ 40 * d; omega⟩ ⟨Nat.zero_le _, Nat.zero_le _⟩ ?_
              refine AW.go 1 (pc' := 83) rfl ?_
              refine AW.ret rfl rfl (Nat.le_refl _) (Nat.le_refl _) ?_
              refine ⟨congrArg some ?_, rfl⟩
              first
                | (exfalso; omega)
                | (unfold V_behind xk; rw [if_pos ⟨c4, c11⟩]; (first | rw [if_pos c41] | rw [if_neg c41]); (first | rw [if_pos c24] | rw [if_neg c24]))
    · refine AW.go 1 (pc' := 15) rfl ?_
      refine AW.ret rfl rfl (Nat.le_refl _) (Nat.le_refl _) ?_
      refine ⟨congrArg some ?_, rfl⟩
      unfold V_behind
      (repeat' split) <;> first | rfl | omega
set_option maxHeartbeats 2000000 in
theorem c_X4_back (d : Nat) (hd : 2 ≤ d) (h : List AC) (F : Int) (rF : -2147483648 ≤ F ∧ F < 2147483648) : MF zX4_back d [vr 29, vi F] h (V_back F) h := by
  refine M0.of okX4_back (Nat.le_of_ble_eq_true rfl) ?_
  refine AW.go 1 (pc' := 1) rfl ?_
  refine AW.callSF (pn := 4) rfl rfl mlX4_102 (c_X4_isForm (d - 1) (by omega) _ _ (by omega)) rfl rfl (Nat.le_of_ble_eq_true rfl) ⟨by show d - 1 + 1 ≤ d; omega, by show 40 * (d - 1 + 1) ≤ 40 * d; omega⟩ ⟨Nat.zero_le _, Nat.zero_le _⟩ ?_
  refine AW.bnz (tgt := 9) (pn := 7) rfl (by decide) rfl (fun c4 => ?_) (fun c4 => ?_)
  · refine AW.go 2 (pc' := 12) rfl ?_
    refine AW.irem (pn := 13) rfl rfl (by omega) (by omega) (by omega) (by omega) ?_
    refine AW.go 5 (pc' := 18) rfl ?_
    refine AW.callSF (pn := 21) rfl rfl mlX4_93 (c_X4_isMirror (d - 1) (by omega) _ _ (by omega)) rfl rfl (Nat.le_of_ble_eq_true rfl) ⟨by show d - 1 + 1 ≤ d; omega, by show 40 * (d - 1 + 1) ≤ 40 * d; omega⟩ ⟨Nat.zero_le _, Nat.zero_le _⟩ ?_
    refine AW.bz (tgt := 28) (pn := 24) rfl (by decide) rfl (fun c21 => ?_) (fun c21 => ?_)
    · refine AW.go 4 (pc' := 34) rfl ?_
      refine AW.irem (pn := 35) rfl rfl (by omega) (by omega) (by omega) (by omega) ?_
      refine AW.go 1 (pc' := 36) rfl ?_
      refine AW.ret rfl rfl (Nat.le_refl _) (Nat.le_refl _) ?_
      refine ⟨congrArg some ?_, rfl⟩
      unfold V_back
      (repeat' split) <;> first | rfl | omega
    · refine AW.go 3 (pc' := 36) rfl ?_
      refine AW.ret rfl rfl (Nat.le_refl _) (Nat.le_refl _) ?_
      refine ⟨congrArg some ?_, rfl⟩
      unfold V_back
      (repeat' split) <;> first | rfl | omega
  · refine AW.go 1 (pc' := 8) rfl ?_
    refine AW.ret rfl rfl (Nat.le_refl _) (Nat.le_refl _) ?_
    refine ⟨congrArg some ?_, rfl⟩
    unfold V_back
    (repeat' split) <;> first | rfl | omega
set_option maxHeartbeats 2000000 in
theorem c_X4_canon (d : Nat) (hd : 5 ≤ d) (h : List AC) (pm rf gm ka wr9 : Int) (hO : h[29]? = some (ao 4 (mo pm rf gm ka wr9))) (m : Nat → Int) (hM : h[30]? = some (ai 0 48 m)) (hm : mt m) (r w : Int) (rr : -2147483648 ≤ r ∧ r < 2147483648) (rw : -2147483648 ≤ w ∧ w < 2147483648) : MF zX4_canon d [vr 29, vi r, vi w] h (V_canon szM m r w) h := by
  refine M0.of okX4_canon (Nat.le_of_ble_eq_true rfl) ?_
  refine AW.go 1 (pc' := 1) rfl ?_
  refine AW.callSF (pn := 4) rfl rfl mlX4_79 (c_X4_isRow (d - 1) (by omega) _ _ (by omega)) rfl rfl (Nat.le_of_ble_eq_true rfl) ⟨by show d - 1 + 1 ≤ d; omega, by show 40 * (d - 1 + 1) ≤ 40 * d; omega⟩ ⟨Nat.zero_le _, Nat.zero_le _⟩ ?_
  refine AW.bnz (tgt := 9) (pn := 7) rfl (by decide) rfl (fun c4 => ?_) (fun c4 => ?_)
  · refine AW.go 1 (pc' := 10) rfl ?_
    refine AW.i2l (pn := 11) rfl rfl (by first | exact bI_rng _ | exact ⟨by omega, by omega⟩) ?_
    refine AW.go 1 (pc' := 12) rfl ?_
    refine AW.ldc2 (pn := 15) rfl rfl clX4_112 ?_
    refine AW.callSF (pn := 18) rfl rfl mlX4_40 (c_X4_in (d - 1) (by omega) _ _ _ _ (by omega) (by omega) (by omega)) rfl rfl (Nat.le_of_ble_eq_true rfl) ⟨by show d - 1 + 1 ≤ d; omega, by show 40 * (d - 1 + 1) ≤ 40 * d; omega⟩ ⟨Nat.zero_le _, Nat.zero_le _⟩ ?_
    refine AW.bnz (tgt := 24) (pn := 21) rfl (by decide) rfl (fun c18 => ?_) (fun c18 => ?_)
    · refine AW.go 2 (pc' := 26) rfl ?_
      refine AW.callVF (pn := 29) rfl rfl mlX4_114 (by first | assumption | exact set_self (by assumption) | exact set_ne (by first | assumption | omega | decide) (by first | assumption | exact set_self (by assumption) | exact set_ne (by first | assumption | omega | decide) (by assumption))) (c_X4_canonForm (d - 1) (by omega) _ _ _ _ _ _ (by assumption) _ (by assumption) (by assumption) _ (by omega)) rfl rfl (Nat.le_of_ble_eq_true rfl) ⟨by show d - 1 + 1 ≤ d; omega, by show 40 * (d - 1 + 1) ≤ 40 * d; omega⟩ ⟨Nat.zero_le _, Nat.zero_le _⟩ ?_
      refine AW.go 1 (pc' := 30) rfl ?_
      have hb := lfm_b (rwm m r) 47
      refine AW.go 2 (pc' := 33) rfl ?_
      refine AW.bi (tgt := 44) (pn := 36) rfl (by decide) rfl (by first | exact bI_rng _ | exact ⟨by omega, by omega⟩) (by first | exact bI_rng _ | exact ⟨by omega, by omega⟩) (fun c33 => ?_) (fun c33 => ?_)
      · dsimp only [cmpI] at c33
        refine AW.go 2 (pc' := 47) rfl ?_
        refine AW.bi (tgt := 54) (pn := 50) rfl (by decide) rfl (by first | exact bI_rng _ | exact ⟨by omega, by omega⟩) (by first | exact bI_rng _ | exact ⟨by omega, by omega⟩) (fun c47 => ?_) (fun c47 => ?_)
        · dsimp only [cmpI] at c47
          refine AW.go 4 (pc' := 58) rfl ?_
          refine AW.callVF (pn := 61) rfl rfl mlX4_105 (by first | assumption | exact set_self (by assumption) | exact set_ne (by first | assumption | omega | decide) (by first | assumption | exact set_self (by assumption) | exact set_ne (by first | assumption | omega | decide) (by assumption))) (c_X4_formAt (d - 1) (by omega) _ _ _ _ _ _ (by assumption) _ (by assumption) (by assumption) _ _ _ (by omega) (by omega) (by omega)) rfl rfl (Nat.le_of_ble_eq_true rfl) ⟨by show d - 1 + 1 ≤ d; omega, by show 40 * (d - 1 + 1) ≤ 40 * d; omega⟩ ⟨Nat.zero_le _, Nat.zero_le _⟩ ?_
          refine AW.ret rfl rfl (Nat.le_refl _) (Nat.le_refl _) ?_
          refine ⟨congrArg some ?_, rfl⟩
          unfold V_canon szM
          (repeat' split) <;> first | rfl | omega
        · dsimp only [cmpI] at c47
          refine AW.go 2 (pc' := 61) rfl ?_
          refine AW.ret rfl rfl (Nat.le_refl _) (Nat.le_refl _) ?_
          refine ⟨congrArg some ?_, rfl⟩
          unfold V_canon szM
          (repeat' split) <;> first | rfl | omega
      · dsimp only [cmpI] at c33
        refine AW.go 2 (pc' := 38) rfl ?_
        refine AW.callVF (pn := 41) rfl rfl mlX4_117 (by first | assumption | exact set_self (by assumption) | exact set_ne (by first | assumption | omega | decide) (by first | assumption | exact set_self (by assumption) | exact set_ne (by first | assumption | omega | decide) (by assumption))) (c_X4_sizeOf (d - 1) (by omega) _ _ _ _ _ _ (by assumption) _ (by assumption) (by assumption) _ (by omega)) rfl rfl (Nat.le_of_ble_eq_true rfl) ⟨by show d - 1 + 1 ≤ d; omega, by show 40 * (d - 1 + 1) ≤ 40 * d; omega⟩ ⟨Nat.zero_le _, Nat.zero_le _⟩ ?_
        refine AW.go 1 (pc' := 61) rfl ?_
        refine AW.ret rfl rfl (Nat.le_refl _) (Nat.le_refl _) ?_
        refine ⟨congrArg some ?_, rfl⟩
        unfold V_canon szM
        (repeat' split) <;> first | rfl | omega
    · refine AW.go 1 (pc' := 23) rfl ?_
      refine AW.ret rfl rfl (Nat.le_refl _) (Nat.le_refl _) ?_
      refine ⟨congrArg some ?_, rfl⟩
      unfold V_canon szM
      (repeat' split) <;> first | rfl | omega
  · refine AW.go 1 (pc' := 8) rfl ?_
    refine AW.ret rfl rfl (Nat.le_refl _) (Nat.le_refl _) ?_
    refine ⟨congrArg some ?_, rfl⟩
    unfold V_canon szM
    (repeat' split) <;> first | rfl | omega
set_option maxHeartbeats 2000000 in
theorem c_X4_step (d : Nat) (hd : 3 ≤ d) (h : List AC) (pm rf gm ka wr9 : Int) (hO : h[29]? = some (ao 4 (mo pm rf gm ka wr9))) (m : Nat → Int) (hM : h[30]? = some (ai 0 48 m)) (hm : mt m) (r w : Int) (rr : -2147483648 ≤ r ∧ r < 2147483648) (rw : -2147483648 ≤ w ∧ w < 2147483648) : MF zX4_step d [vr 29, vi r, vi w] h (V_step usM m r w) h := by
  refine M0.of okX4_step (Nat.le_of_ble_eq_true rfl) ?_
  refine AW.go 1 (pc' := 1) rfl ?_
  refine AW.callSF (pn := 4) rfl rfl mlX4_79 (c_X4_isRow (d - 1) (by omega) _ _ (by omega)) rfl rfl (Nat.le_of_ble_eq_true rfl) ⟨by show d - 1 + 1 ≤ d; omega, by show 40 * (d - 1 + 1) ≤ 40 * d; omega⟩ ⟨Nat.zero_le _, Nat.zero_le _⟩ ?_
  refine AW.bnz (tgt := 9) (pn := 7) rfl (by decide) rfl (fun c4 => ?_) (fun c4 => ?_)
  · refine AW.go 1 (pc' := 10) rfl ?_
    refine AW.i2l (pn := 11) rfl rfl (by first | exact bI_rng _ | exact ⟨by omega, by omega⟩) ?_
    refine AW.go 1 (pc' := 12) rfl ?_
    refine AW.ldc2 (pn := 15) rfl rfl clX4_46 ?_
    refine AW.callSF (pn := 18) rfl rfl mlX4_40 (c_X4_in (d - 1) (by omega) _ _ _ _ (by omega) (by omega) (by omega)) rfl rfl (Nat.le_of_ble_eq_true rfl) ⟨by show d - 1 + 1 ≤ d; omega, by show 40 * (d - 1 + 1) ≤ 40 * d; omega⟩ ⟨Nat.zero_le _, Nat.zero_le _⟩ ?_
    refine AW.bnz (tgt := 26) (pn := 21) rfl (by decide) rfl (fun c18 => ?_) (fun c18 => ?_)
    · refine AW.go 2 (pc' := 29) rfl ?_
      refine AW.bi (tgt := 40) (pn := 32) rfl (by decide) rfl (by first | exact bI_rng _ | exact ⟨by omega, by omega⟩) (by first | exact bI_rng _ | exact ⟨by omega, by omega⟩) (fun c29 => ?_) (fun c29 => ?_)
      · dsimp only [cmpI] at c29
        refine AW.go 3 (pc' := 43) rfl ?_
        refine AW.callVF (pn := 46) rfl rfl mlX4_124 (by first | assumption | exact set_self (by assumption) | exact set_ne (by first | assumption | omega | decide) (by first | assumption | exact set_self (by assumption) | exact set_ne (by first | assumption | omega | decide) (by assumption))) (c_X4_stepAt (d - 1) (by omega) _ _ _ _ _ _ (by assumption) _ (by assumption) (by assumption) _ _ (by omega) (by omega)) rfl rfl (Nat.le_of_ble_eq_true rfl) ⟨by show d - 1 + 1 ≤ d; omega, by show 40 * (d - 1 + 1) ≤ 40 * d; omega⟩ ⟨Nat.zero_le _, Nat.zero_le _⟩ ?_
        refine AW.ret rfl rfl (Nat.le_refl _) (Nat.le_refl _) ?_
        refine ⟨congrArg some ?_, rfl⟩
        unfold V_step usM
        (repeat' split) <;> first | rfl | omega
      · dsimp only [cmpI] at c29
        refine AW.go 2 (pc' := 34) rfl ?_
        refine AW.callVF (pn := 37) rfl rfl mlX4_127 (by first | assumption | exact set_self (by assumption) | exact set_ne (by first | assumption | omega | decide) (by first | assumption | exact set_self (by assumption) | exact set_ne (by first | assumption | omega | decide) (by assumption))) (c_X4_unlikeSteps (d - 1) (by omega) _ _ _ _ _ _ (by assumption) _ (by assumption) (by assumption) _ (by omega)) rfl rfl (Nat.le_of_ble_eq_true rfl) ⟨by show d - 1 + 1 ≤ d; omega, by show 40 * (d - 1 + 1) ≤ 40 * d; omega⟩ ⟨Nat.zero_le _, Nat.zero_le _⟩ ?_
        refine AW.go 1 (pc' := 46) rfl ?_
        refine AW.ret rfl rfl (Nat.le_refl _) (Nat.le_refl _) ?_
        refine ⟨congrArg some ?_, rfl⟩
        unfold V_step usM
        (repeat' split) <;> first | rfl | omega
    · refine AW.go 2 (pc' := 46) rfl ?_
      refine AW.ret rfl rfl (Nat.le_refl _) (Nat.le_refl _) ?_
      refine ⟨congrArg some ?_, rfl⟩
      unfold V_step usM
      (repeat' split) <;> first | rfl | omega
  · refine AW.go 1 (pc' := 8) rfl ?_
    refine AW.ret rfl rfl (Nat.le_refl _) (Nat.le_refl _) ?_
    refine ⟨congrArg some ?_, rfl⟩
    unfold V_step usM
    (repeat' split) <;> first | rfl | omega
set_option maxHeartbeats 4000000 in
theorem l_X4_leads (d : Nat) (hd : 4 ≤ d) (h : List AC) (pm rf gm ka wr9 : Int) (hO : h[29]? = some (ao 4 (mo pm rf gm ka wr9))) (m : Nat → Int) (hM : h[30]? = some (ai 0 48 m)) (hm : mt m) (r o i : Int) (rr : 0 ≤ r ∧ r < 4) (ro : 0 ≤ o ∧ o < 4) (ri : -2147483648 ≤ i ∧ i < 2147483648) : ∀ (n : Nat) (k : Int) (c : Int), (0 ≤ k) → (k ≤ 48) → (0 ≤ c ∧ c ≤ k) → ((sel (fun F => isf (rwm m r) 12 (F : Int) (rwm m o) 0) i 48 0 0) = sel (fun F => isf (rwm m r) 12 (F : Int) (rwm m o) 0) i (48 - k).toNat k.toNat c) → ((48 - k).toNat) < n → AW zX4_leads Eq (rmd d) 0 0 0 0 22 [(5, vi k), (4, vi c), (0, vr 29), (1, vi r), (2, vi o), (3, vi i)] [] h (RQ (sel (fun F => isf (rwm m r) 12 (F : Int) (rwm m o) 0) i 48 0 0) h) := by
  intro n
  induction n with
  | zero =>
    intro k c h0 h1 hc hi hn
    exact absurd hn (Nat.not_lt_zero _)
  | succ n ih =>
    intro k c h0 h1 hc hi hn
    refine AW.go 2 (pc' := 26) rfl ?_
    refine AW.bi (tgt := 58) (pn := 29) rfl (by decide) rfl (by first | exact bI_rng _ | exact ⟨by omega, by omega⟩) (by first | exact bI_rng _ | exact ⟨by omega, by omega⟩) (fun c26 => ?_) (fun c26 => ?_)
    · dsimp only [cmpI] at c26
      refine AW.go 2 (pc' := 60) rfl ?_
      refine AW.bi (tgt := 68) (pn := 63) rfl (by decide) rfl (by first | exact bI_rng _ | exact ⟨by omega, by omega⟩) (by first | exact bI_rng _ | exact ⟨by omega, by omega⟩) (fun c60 => ?_) (fun c60 => ?_)
      · dsimp only [cmpI] at c60
        refine AW.go 1 (pc' := 70) rfl ?_
        refine AW.ret rfl rfl (Nat.le_refl _) (Nat.le_refl _) ?_
        refine ⟨congrArg some ?_, rfl⟩
        rw [hi, show (48 - k).toNat = 0 by omega]
        unfold sel
        first | rw [if_pos (by omega)] | rw [if_neg (by omega)]
      · dsimp only [cmpI] at c60
        refine AW.go 2 (pc' := 70) rfl ?_
        refine AW.ret rfl rfl (Nat.le_refl _) (Nat.le_refl _) ?_
        refine ⟨congrArg some ?_, rfl⟩
        rw [hi, show (48 - k).toNat = 0 by omega]
        unfold sel
        first | rw [if_pos (by omega)] | rw [if_neg (by omega)]
    · dsimp only [cmpI] at c26
      have hs : sel (fun F => isf (rwm m r) 12 (F : Int) (rwm m o) 0) i (48 - k).toNat k.toNat c = if isf (rwm m r) 12 k (rwm m o) 0 = true then (if c = i then k else sel (fun F => isf (rwm m r) 12 (F : Int) (rwm m o) 0) i ((48 - k).toNat - 1) (k.toNat + 1) (c + 1)) else sel (fun F => isf (rwm m r) 12 (F : Int) (rwm m o) 0) i ((48 - k).toNat - 1) (k.toNat + 1) c := by
        obtain ⟨q, hq⟩ : ∃ q, (48 - k).toNat = q + 1 := ⟨(48 - k).toNat - 1, by omega⟩
        rw [hq]
        show (if (fun F => isf (rwm m r) 12 (F : Int) (rwm m o) 0) (k.toNat) = true then (if c = i then (k.toNat : Int) else _) else _) = _
        simp only [kk h0]
        rfl
      refine AW.go 4 (pc' := 34) rfl ?_
      refine AW.callVF (pn := 37) rfl rfl mlX4_120 (by first | assumption | exact set_self (by assumption) | exact set_ne (by first | assumption | omega | decide) (by first | assumption | exact set_self (by assumption) | exact set_ne (by first | assumption | omega | decide) (by assumption))) (c_X4_isLeading (d - 1) (by omega) _ _ _ _ _ _ (by assumption) _ (by assumption) (by assumption) _ _ _ (by omega) (by omega) (by omega)) rfl rfl (Nat.le_of_ble_eq_true rfl) ⟨by show d - 1 + 1 ≤ d; omega, by show 40 * (d - 1 + 1) ≤ 40 * d; omega⟩ ⟨Nat.zero_le _, Nat.zero_le _⟩ ?_
      refine AW.bz (tgt := 52) (pn := 40) rfl (by decide) rfl (fun c37 => ?_) (fun c37 => ?_)
      · refine AW.go 2 (pc' := 22) rfl ?_
        first | (refine AW.lw ?_ (ih (k + 1) (c + 1) (by omega) (by omega) (by omega) ?_ (by omega)); exact (And.intro rfl (And.intro rfl (And.intro rfl (And.intro rfl (And.intro rfl (And.intro rfl trivial)))))); rw [k1 h0, show (48 - (k + 1)).toNat = (48 - k).toNat - 1 by omega, hi, hs]; (first | rw [if_pos c37, if_neg c43] | rw [if_neg c37])) | (refine AW.lw ?_ (ih (k + 1) (c) (by omega) (by omega) (by omega) ?_ (by omega)); exact (And.intro rfl (And.intro rfl (And.intro rfl (And.intro rfl (And.intro rfl (And.intro rfl trivial)))))); rw [k1 h0, show (48 - (k + 1)).toNat = (48 - k).toNat - 1 by omega, hi, hs]; (first | rw [if_pos c37, if_neg c43] | rw [if_neg c37]))
      · refine AW.go 2 (pc' := 43) rfl ?_
        refine AW.bi (tgt := 49) (pn := 46) rfl (by decide) rfl (by first | exact bI_rng _ | exact ⟨by omega, by omega⟩) (by first | exact bI_rng _ | exact ⟨by omega, by omega⟩) (fun c43 => ?_) (fun c43 => ?_)
        · dsimp only [cmpI] at c43
          refine AW.go 3 (pc' := 22) rfl ?_
          first | (refine AW.lw ?_ (ih (k + 1) (c + 1) (by omega) (by omega) (by omega) ?_ (by omega)); exact (And.intro rfl (And.intro rfl (And.intro rfl (And.intro rfl (And.intro rfl (And.intro rfl trivial)))))); rw [k1 h0, show (48 - (k + 1)).toNat = (48 - k).toNat - 1 by omega, hi, hs]; (first | rw [if_pos c37, if_neg c43] | rw [if_neg c37])) | (refine AW.lw ?_ (ih (k + 1) (c) (by omega) (by omega) (by omega) ?_ (by omega)); exact (And.intro rfl (And.intro rfl (And.intro rfl (And.intro rfl (And.intro rfl (And.intro rfl trivial)))))); rw [k1 h0, show (48 - (k + 1)).toNat = (48 - k).toNat - 1 by omega, hi, hs]; (first | rw [if_pos c37, if_neg c43] | rw [if_neg c37]))
        · dsimp only [cmpI] at c43
          refine AW.go 1 (pc' := 48) rfl ?_
          refine AW.ret rfl rfl (Nat.le_refl _) (Nat.le_refl _) ?_
          refine ⟨congrArg some ?_, rfl⟩
          rw [hi, hs, if_pos c37, if_pos (Decidable.not_not.mp c43)]
set_option maxHeartbeats 2000000 in
theorem c_X4_leads (d : Nat) (hd : 4 ≤ d) (h : List AC) (pm rf gm ka wr9 : Int) (hO : h[29]? = some (ao 4 (mo pm rf gm ka wr9))) (m : Nat → Int) (hM : h[30]? = some (ai 0 48 m)) (hm : mt m) (r o i : Int) (rr : -2147483648 ≤ r ∧ r < 2147483648) (ro : -2147483648 ≤ o ∧ o < 2147483648) (ri : -2147483648 ≤ i ∧ i < 2147483648) : MF zX4_leads d [vr 29, vi r, vi o, vi i] h (V_leads m r o i) h := by
  refine M0.of okX4_leads (Nat.le_of_ble_eq_true rfl) ?_
  refine AW.go 1 (pc' := 1) rfl ?_
  refine AW.callSF (pn := 4) rfl rfl mlX4_79 (c_X4_isRow (d - 1) (by omega) _ _ (by omega)) rfl rfl (Nat.le_of_ble_eq_true rfl) ⟨by show d - 1 + 1 ≤ d; omega, by show 40 * (d - 1 + 1) ≤ 40 * d; omega⟩ ⟨Nat.zero_le _, Nat.zero_le _⟩ ?_
  refine AW.bz (tgt := 14) (pn := 7) rfl (by decide) rfl (fun c4 => ?_) (fun c4 => ?_)
  · refine AW.go 1 (pc' := 15) rfl ?_
    refine AW.ret rfl rfl (Nat.le_refl _) (Nat.le_refl _) ?_
    refine ⟨congrArg some ?_, rfl⟩
    unfold V_leads
    (repeat' split) <;> first | rfl | omega
  · refine AW.go 1 (pc' := 8) rfl ?_
    refine AW.callSF (pn := 11) rfl rfl mlX4_79 (c_X4_isRow (d - 1) (by omega) _ _ (by omega)) rfl rfl (Nat.le_of_ble_eq_true rfl) ⟨by show d - 1 + 1 ≤ d; omega, by show 40 * (d - 1 + 1) ≤ 40 * d; omega⟩ ⟨Nat.zero_le _, Nat.zero_le _⟩ ?_
    refine AW.bnz (tgt := 16) (pn := 14) rfl (by decide) rfl (fun c11 => ?_) (fun c11 => ?_)
    · refine AW.go 4 (pc' := 22) rfl ?_
      unfold V_leads
      rw [if_pos ⟨c4, c11⟩]
      refine AW.lw ?_ (l_X4_leads d hd h pm rf gm ka wr9 hO m hM hm r o i c4 c11 ri _ 0 0 (by omega) (by omega) (by omega) rfl (Nat.lt_succ_self _))
      exact (And.intro rfl (And.intro rfl (And.intro rfl (And.intro rfl (And.intro rfl (And.intro rfl trivial))))))
    · refine AW.go 1 (pc' := 15) rfl ?_
      refine AW.ret rfl rfl (Nat.le_refl _) (Nat.le_refl _) ?_
      refine ⟨congrArg some ?_, rfl⟩
      unfold V_leads
      (repeat' split) <;> first | rfl | omega
set_option maxHeartbeats 4000000 in
theorem l_X4_partner (d : Nat) (hd : 4 ≤ d) (h : List AC) (pm rf gm ka wr9 : Int) (hO : h[29]? = some (ao 4 (mo pm rf gm ka wr9))) (m : Nat → Int) (hM : h[30]? = some (ai 0 48 m)) (hm : mt m) (r i : Int) (rr : 0 ≤ r ∧ r < 4) (ri : -2147483648 ≤ i ∧ i < 2147483648) : ∀ (n : Nat) (k : Int) (c : Int), (0 ≤ k) → (k ≤ 48) → (0 ≤ c ∧ c ≤ k) → ((sel (prt (rwm m r)) i 48 0 0) = sel (prt (rwm m r)) i (48 - k).toNat k.toNat c) → ((48 - k).toNat) < n → AW zX4_partner Eq (rmd d) 0 0 0 0 14 [(4, vi k), (3, vi c), (0, vr 29), (1, vi r), (2, vi i)] [] h (RQ (sel (prt (rwm m r)) i 48 0 0) h) := by
  intro n
  induction n with
  | zero =>
    intro k c h0 h1 hc hi hn
    exact absurd hn (Nat.not_lt_zero _)
  | succ n ih =>
    intro k c h0 h1 hc hi hn
    refine AW.go 2 (pc' := 18) rfl ?_
    refine AW.bi (tgt := 61) (pn := 21) rfl (by decide) rfl (by first | exact bI_rng _ | exact ⟨by omega, by omega⟩) (by first | exact bI_rng _ | exact ⟨by omega, by omega⟩) (fun c18 => ?_) (fun c18 => ?_)
    · dsimp only [cmpI] at c18
      refine AW.go 2 (pc' := 63) rfl ?_
      refine AW.bi (tgt := 70) (pn := 66) rfl (by decide) rfl (by first | exact bI_rng _ | exact ⟨by omega, by omega⟩) (by first | exact bI_rng _ | exact ⟨by omega, by omega⟩) (fun c63 => ?_) (fun c63 => ?_)
      · dsimp only [cmpI] at c63
        refine AW.go 1 (pc' := 72) rfl ?_
        refine AW.ret rfl rfl (Nat.le_refl _) (Nat.le_refl _) ?_
        refine ⟨congrArg some ?_, rfl⟩
        rw [hi, show (48 - k).toNat = 0 by omega]
        unfold sel
        first | rw [if_pos (by omega)] | rw [if_neg (by omega)]
      · dsimp only [cmpI] at c63
        refine AW.go 2 (pc' := 72) rfl ?_
        refine AW.ret rfl rfl (Nat.le_refl _) (Nat.le_refl _) ?_
        refine ⟨congrArg some ?_, rfl⟩
        rw [hi, show (48 - k).toNat = 0 by omega]
        unfold sel
        first | rw [if_pos (by omega)] | rw [if_neg (by omega)]
    · dsimp only [cmpI] at c18
      have hs : sel (prt (rwm m r)) i (48 - k).toNat k.toNat c = if decide (fst12 (rwm m r) k 0 6 &&& fst12 (rwm m r) 0 0 6 = 0) = true then (if c = i then k else sel (prt (rwm m r)) i ((48 - k).toNat - 1) (k.toNat + 1) (c + 1)) else sel (prt (rwm m r)) i ((48 - k).toNat - 1) (k.toNat + 1) c := by
        obtain ⟨q, hq⟩ : ∃ q, (48 - k).toNat = q + 1 := ⟨(48 - k).toNat - 1, by omega⟩
        rw [hq]
        show (if (prt (rwm m r)) (k.toNat) = true then (if c = i then (k.toNat : Int) else _) else _) = _
        simp only [prt, kk h0]
        rfl
      refine AW.go 5 (pc' := 27) rfl ?_
      refine AW.callVF (pn := 30) rfl rfl mlX4_134 (by first | assumption | exact set_self (by assumption) | exact set_ne (by first | assumption | omega | decide) (by first | assumption | exact set_self (by assumption) | exact set_ne (by first | assumption | omega | decide) (by assumption))) (c_X4_setAt (d - 1) (by omega) _ _ _ _ _ _ (by assumption) _ (by assumption) (by assumption) _ _ _ _ (by omega) (by omega) (by omega)) rfl rfl (Nat.le_of_ble_eq_true rfl) ⟨by show d - 1 + 1 ≤ d; omega, by show 40 * (d - 1 + 1) ≤ 40 * d; omega⟩ ⟨Nat.zero_le _, Nat.zero_le _⟩ ?_
      refine AW.go 5 (pc' := 37) rfl ?_
      refine AW.callVF (pn := 40) rfl rfl mlX4_134 (by first | assumption | exact set_self (by assumption) | exact set_ne (by first | assumption | omega | decide) (by first | assumption | exact set_self (by assumption) | exact set_ne (by first | assumption | omega | decide) (by assumption))) (c_X4_setAt (d - 1) (by omega) _ _ _ _ _ _ (by assumption) _ (by assumption) (by assumption) _ _ _ _ (by omega) (by omega) (by omega)) rfl rfl (Nat.le_of_ble_eq_true rfl) ⟨by show d - 1 + 1 ≤ d; omega, by show 40 * (d - 1 + 1) ≤ 40 * d; omega⟩ ⟨Nat.zero_le _, Nat.zero_le _⟩ ?_
      refine AW.andN (pn := 41) rfl rfl ?_
      have g1 : fst12 (rwm m r) k 0 6 &&& fst12 (rwm m r) 0 0 6 < 4096 := Nat.lt_of_le_of_lt Nat.and_le_right (fst12_lt _ _ _ _)
      rw [show (6 : Int).toNat = 6 from rfl, Nat.and_comm]
      refine AW.br (tgt := 55) (pn := 44) rfl (by decide) rfl (by first | exact bI_rng _ | exact ⟨by omega, by omega⟩) (fun c41 => ?_) (fun c41 => ?_)
      · dsimp only [cmpI] at c41
        refine AW.go 2 (pc' := 14) rfl ?_
        first | (refine AW.lw ?_ (ih (k + 1) (c + 1) (by omega) (by omega) (by omega) ?_ (by omega)); exact (And.intro rfl (And.intro rfl (And.intro rfl (And.intro rfl (And.intro rfl trivial))))); rw [k1 h0, show (48 - (k + 1)).toNat = (48 - k).toNat - 1 by omega, hi, hs]; (first | rw [if_pos (decide_eq_true (by omega)), if_neg c46] | rw [if_neg (fun q => c41 (by have q := of_decide_eq_true q; omega))])) | (refine AW.lw ?_ (ih (k + 1) (c) (by omega) (by omega) (by omega) ?_ (by omega)); exact (And.intro rfl (And.intro rfl (And.intro rfl (And.intro rfl (And.intro rfl trivial))))); rw [k1 h0, show (48 - (k + 1)).toNat = (48 - k).toNat - 1 by omega, hi, hs]; (first | rw [if_pos (decide_eq_true (by omega)), if_neg c46] | rw [if_neg (fun q => c41 (by have q := of_decide_eq_true q; omega))]))
      · dsimp only [cmpI] at c41
        refine AW.go 2 (pc' := 46) rfl ?_
        refine AW.bi (tgt := 52) (pn := 49) rfl (by decide) rfl (by first | exact bI_rng _ | exact ⟨by omega, by omega⟩) (by first | exact bI_rng _ | exact ⟨by omega, by omega⟩) (fun c46 => ?_) (fun c46 => ?_)
        · dsimp only [cmpI] at c46
          refine AW.go 3 (pc' := 14) rfl ?_
          first | (refine AW.lw ?_ (ih (k + 1) (c + 1) (by omega) (by omega) (by omega) ?_ (by omega)); exact (And.intro rfl (And.intro rfl (And.intro rfl (And.intro rfl (And.intro rfl trivial))))); rw [k1 h0, show (48 - (k + 1)).toNat = (48 - k).toNat - 1 by omega, hi, hs]; (first | rw [if_pos (decide_eq_true (by omega)), if_neg c46] | rw [if_neg (fun q => c41 (by have q := of_decide_eq_true q; omega))])) | (refine AW.lw ?_ (ih (k + 1) (c) (by omega) (by omega) (by omega) ?_ (by omega)); exact (And.intro rfl (And.intro rfl (And.intro rfl (And.intro rfl (And.intro rfl trivial))))); rw [k1 h0, show (48 - (k + 1)).toNat = (48 - k).toNat - 1 by omega, hi, hs]; (first | rw [if_pos (decide_eq_true (by omega)), if_neg c46] | rw [if_neg (fun q => c41 (by have q := of_decide_eq_true q; omega))]))
        · dsimp only [cmpI] at c46
          refine AW.go 1 (pc' := 51) rfl ?_
          refine AW.ret rfl rfl (Nat.le_refl _) (Nat.le_refl _) ?_
          refine ⟨congrArg some ?_, rfl⟩
          rw [hi, hs, if_pos (decide_eq_true (by omega)), if_pos (Decidable.not_not.mp c46)]
set_option maxHeartbeats 2000000 in
theorem c_X4_partner (d : Nat) (hd : 4 ≤ d) (h : List AC) (pm rf gm ka wr9 : Int) (hO : h[29]? = some (ao 4 (mo pm rf gm ka wr9))) (m : Nat → Int) (hM : h[30]? = some (ai 0 48 m)) (hm : mt m) (r i : Int) (rr : -2147483648 ≤ r ∧ r < 2147483648) (ri : -2147483648 ≤ i ∧ i < 2147483648) : MF zX4_partner d [vr 29, vi r, vi i] h (V_partner m r i) h := by
  refine M0.of okX4_partner (Nat.le_of_ble_eq_true rfl) ?_
  refine AW.go 1 (pc' := 1) rfl ?_
  refine AW.callSF (pn := 4) rfl rfl mlX4_79 (c_X4_isRow (d - 1) (by omega) _ _ (by omega)) rfl rfl (Nat.le_of_ble_eq_true rfl) ⟨by show d - 1 + 1 ≤ d; omega, by show 40 * (d - 1 + 1) ≤ 40 * d; omega⟩ ⟨Nat.zero_le _, Nat.zero_le _⟩ ?_
  refine AW.bnz (tgt := 9) (pn := 7) rfl (by decide) rfl (fun c4 => ?_) (fun c4 => ?_)
  · refine AW.go 4 (pc' := 14) rfl ?_
    unfold V_partner
    rw [if_pos c4]
    refine AW.lw ?_ (l_X4_partner d hd h pm rf gm ka wr9 hO m hM hm r i c4 ri _ 0 0 (by omega) (by omega) (by omega) rfl (Nat.lt_succ_self _))
    exact (And.intro rfl (And.intro rfl (And.intro rfl (And.intro rfl (And.intro rfl trivial)))))
  · refine AW.go 1 (pc' := 8) rfl ?_
    refine AW.ret rfl rfl (Nat.le_refl _) (Nat.le_refl _) ?_
    refine ⟨congrArg some ?_, rfl⟩
    unfold V_partner
    (repeat' split) <;> first | rfl | omega
set_option maxHeartbeats 4000000 in
theorem li_X4_shared (d : Nat) (hd : 4 ≤ d) (h : List AC) (pm rf gm ka wr9 : Int) (hO : h[29]? = some (ao 4 (mo pm rf gm ka wr9))) (m : Nat → Int) (hM : h[30]? = some (ai 0 48 m)) (hm : mt m) (r F N : Int) (rr : 0 ≤ r ∧ r < 4) (rF : 0 ≤ F ∧ F < 48) (rN : 2 ≤ N ∧ N ≤ 6) (k c : Int) (hk : 0 ≤ k ∧ k + N ≤ 12) (Q : Option Int → List AC → Prop) (K : AW zX4_shared Eq (rmd d) 0 0 0 0 102 [(6, vi (bI (hsg (rwm m r) F N (fst12 (rwm m r) 0 k N.toNat : Int) = true))), (5, vi k), (4, vi c), (0, vr 29), (1, vi r), (2, vi F), (3, vi N)] [] h Q) : ∀ (n : Nat) (g : Int) (b : Bool), (0 ≤ g) → (g ≤ 13 - N) → (b = anyN (fun t => decide ((fst12 (rwm m r) F (t : Int) N.toNat : Int) = (fst12 (rwm m r) 0 k N.toNat : Int))) g.toNat) → ((13 - N - g).toNat) < n → AW zX4_shared Eq (rmd d) 0 0 0 0 54 [(7, vi g), (6, vi (bI (b = true))), (5, vi k), (4, vi c), (0, vr 29), (1, vi r), (2, vi F), (3, vi N)] [] h Q := by
  intro n
  induction n with
  | zero =>
    intro g b h0 h1 hb hn
    exact absurd hn (Nat.not_lt_zero _)
  | succ n ih =>
    intro g b h0 h1 hb hn
    refine AW.go 4 (pc' := 60) rfl ?_
    refine AW.bi (tgt := 102) (pn := 63) rfl (by decide) rfl (by first | exact bI_rng _ | exact ⟨by omega, by omega⟩) (by first | exact bI_rng _ | exact ⟨by omega, by omega⟩) (fun c60 => ?_) (fun c60 => ?_)
    · dsimp only [cmpI] at c60
      have e : g = 13 - N := by omega
      subst e
      rw [hb]
      refine AW.lw ?_ K
      exact (And.intro rfl (And.intro rfl (And.intro rfl (And.intro rfl (And.intro rfl (And.intro rfl (And.intro rfl trivial)))))))
    · dsimp only [cmpI] at c60
      refine AW.go 1 (pc' := 65) rfl ?_
      refine AW.bnz (tgt := 89) (pn := 68) rfl (by decide) rfl (fun c65 => ?_) (fun c65 => ?_)
      · refine AW.go 5 (pc' := 54) rfl ?_
        first | (refine AW.lw ?_ (ih (g + 1) (true) (by omega) (by omega) ?_ (by omega)); exact (And.intro rfl (And.intro rfl (And.intro rfl (And.intro rfl (And.intro rfl (And.intro rfl (And.intro rfl (And.intro rfl trivial)))))))); rw [anyN_s h0, ← hb, kk h0]; (first | (rw [c65]; rfl) | (rw [eq_false_of_ne_true c65, decide_eq_false (fun q => c86 q.symm)]; rfl) | (rw [eq_false_of_ne_true c65, decide_eq_true (Decidable.not_not.mp c86).symm]; rfl))) | (refine AW.lw ?_ (ih (g + 1) (false) (by omega) (by omega) ?_ (by omega)); exact (And.intro rfl (And.intro rfl (And.intro rfl (And.intro rfl (And.intro rfl (And.intro rfl (And.intro rfl (And.intro rfl trivial)))))))); rw [anyN_s h0, ← hb, kk h0]; (first | (rw [c65]; rfl) | (rw [eq_false_of_ne_true c65, decide_eq_false (fun q => c86 q.symm)]; rfl) | (rw [eq_false_of_ne_true c65, decide_eq_true (Decidable.not_not.mp c86).symm]; rfl)))
      · refine AW.go 5 (pc' := 74) rfl ?_
        refine AW.callVF (pn := 77) rfl rfl mlX4_134 (by first | assumption | exact set_self (by assumption) | exact set_ne (by first | assumption | omega | decide) (by first | assumption | exact set_self (by assumption) | exact set_ne (by first | assumption | omega | decide) (by assumption))) (c_X4_setAt (d - 1) (by omega) _ _ _ _ _ _ (by assumption) _ (by assumption) (by assumption) _ _ _ _ (by omega) (by omega) (by omega)) rfl rfl (Nat.le_of_ble_eq_true rfl) ⟨by show d - 1 + 1 ≤ d; omega, by show 40 * (d - 1 + 1) ≤ 40 * d; omega⟩ ⟨Nat.zero_le _, Nat.zero_le _⟩ ?_
        refine AW.go 5 (pc' := 83) rfl ?_
        refine AW.callVF (pn := 86) rfl rfl mlX4_134 (by first | assumption | exact set_self (by assumption) | exact set_ne (by first | assumption | omega | decide) (by first | assumption | exact set_self (by assumption) | exact set_ne (by first | assumption | omega | decide) (by assumption))) (c_X4_setAt (d - 1) (by omega) _ _ _ _ _ _ (by assumption) _ (by assumption) (by assumption) _ _ _ _ (by omega) (by omega) (by omega)) rfl rfl (Nat.le_of_ble_eq_true rfl) ⟨by show d - 1 + 1 ≤ d; omega, by show 40 * (d - 1 + 1) ≤ 40 * d; omega⟩ ⟨Nat.zero_le _, Nat.zero_le _⟩ ?_
        have g1 := fst12_lt (rwm m r) 0 k N.toNat
        have g2 := fst12_lt (rwm m r) F g N.toNat
        refine AW.bi (tgt := 93) (pn := 89) rfl (by decide) rfl (by first | exact bI_rng _ | exact ⟨by omega, by omega⟩) (by first | exact bI_rng _ | exact ⟨by omega, by omega⟩) (fun c86 => ?_) (fun c86 => ?_)
        · dsimp only [cmpI] at c86
          refine AW.go 4 (pc' := 54) rfl ?_
          first | (refine AW.lw ?_ (ih (g + 1) (true) (by omega) (by omega) ?_ (by omega)); exact (And.intro rfl (And.intro rfl (And.intro rfl (And.intro rfl (And.intro rfl (And.intro rfl (And.intro rfl (And.intro rfl trivial)))))))); rw [anyN_s h0, ← hb, kk h0]; (first | (rw [c65]; rfl) | (rw [eq_false_of_ne_true c65, decide_eq_false (fun q => c86 q.symm)]; rfl) | (rw [eq_false_of_ne_true c65, decide_eq_true (Decidable.not_not.mp c86).symm]; rfl))) | (refine AW.lw ?_ (ih (g + 1) (false) (by omega) (by omega) ?_ (by omega)); exact (And.intro rfl (And.intro rfl (And.intro rfl (And.intro rfl (And.intro rfl (And.intro rfl (And.intro rfl (And.intro rfl trivial)))))))); rw [anyN_s h0, ← hb, kk h0]; (first | (rw [c65]; rfl) | (rw [eq_false_of_ne_true c65, decide_eq_false (fun q => c86 q.symm)]; rfl) | (rw [eq_false_of_ne_true c65, decide_eq_true (Decidable.not_not.mp c86).symm]; rfl)))
        · dsimp only [cmpI] at c86
          refine AW.go 5 (pc' := 54) rfl ?_
          first | (refine AW.lw ?_ (ih (g + 1) (true) (by omega) (by omega) ?_ (by omega)); exact (And.intro rfl (And.intro rfl (And.intro rfl (And.intro rfl (And.intro rfl (And.intro rfl (And.intro rfl (And.intro rfl trivial)))))))); rw [anyN_s h0, ← hb, kk h0]; (first | (rw [c65]; rfl) | (rw [eq_false_of_ne_true c65, decide_eq_false (fun q => c86 q.symm)]; rfl) | (rw [eq_false_of_ne_true c65, decide_eq_true (Decidable.not_not.mp c86).symm]; rfl))) | (refine AW.lw ?_ (ih (g + 1) (false) (by omega) (by omega) ?_ (by omega)); exact (And.intro rfl (And.intro rfl (And.intro rfl (And.intro rfl (And.intro rfl (And.intro rfl (And.intro rfl (And.intro rfl trivial)))))))); rw [anyN_s h0, ← hb, kk h0]; (first | (rw [c65]; rfl) | (rw [eq_false_of_ne_true c65, decide_eq_false (fun q => c86 q.symm)]; rfl) | (rw [eq_false_of_ne_true c65, decide_eq_true (Decidable.not_not.mp c86).symm]; rfl)))
set_option maxHeartbeats 4000000 in
theorem l_X4_shared (d : Nat) (hd : 4 ≤ d) (h : List AC) (pm rf gm ka wr9 : Int) (hO : h[29]? = some (ao 4 (mo pm rf gm ka wr9))) (m : Nat → Int) (hM : h[30]? = some (ai 0 48 m)) (hm : mt m) (r F N : Int) (rr : 0 ≤ r ∧ r < 4) (rF : 0 ≤ F ∧ F < 48) (rN : 2 ≤ N ∧ N ≤ 6) : ∀ (n : Nat) (k : Int) (c : Int), (0 ≤ k) → (k ≤ 13 - N) → (c = ((cntN (fun s => hsg (rwm m r) F N (fst12 (rwm m r) 0 (s : Int) N.toNat : Int)) k.toNat : Nat) : Int)) → ((13 - N - k).toNat) < n → AW zX4_shared Eq (rmd d) 0 0 0 0 39 [(5, vi k), (4, vi c), (0, vr 29), (1, vi r), (2, vi F), (3, vi N)] [] h (RQ ((cntN (fun s => hsg (rwm m r) F N (fst12 (rwm m r) 0 (s : Int) N.toNat : Int)) (13 - N).toNat : Nat) : Int) h) := by
  intro n
  induction n with
  | zero =>
    intro k c h0 h1 hc hn
    exact absurd hn (Nat.not_lt_zero _)
  | succ n ih =>
    intro k c h0 h1 hc hn
    refine AW.go 4 (pc' := 45) rfl ?_
    refine AW.bi (tgt := 123) (pn := 48) rfl (by decide) rfl (by first | exact bI_rng _ | exact ⟨by omega, by omega⟩) (by first | exact bI_rng _ | exact ⟨by omega, by omega⟩) (fun c45 => ?_) (fun c45 => ?_)
    · dsimp only [cmpI] at c45
      refine AW.go 1 (pc' := 125) rfl ?_
      refine AW.ret rfl rfl (Nat.le_refl _) (Nat.le_refl _) ?_
      refine ⟨congrArg some ?_, rfl⟩
      rw [hc, show k = 13 - N by omega]
    · dsimp only [cmpI] at c45
      refine AW.go 4 (pc' := 54) rfl ?_
      refine AW.lw ?_ (li_X4_shared d hd h pm rf gm ka wr9 hO m hM hm r F N rr rF rN k c ⟨h0, by omega⟩ _ ?_ _ 0 false (by omega) (by omega) rfl (Nat.lt_succ_self _))
      · exact (And.intro rfl (And.intro rfl (And.intro rfl (And.intro rfl (And.intro rfl (And.intro rfl (And.intro rfl (And.intro rfl trivial))))))))
      · refine AW.go 2 (pc' := 106) rfl ?_
        refine AW.bz (tgt := 113) (pn := 109) rfl (by decide) rfl (fun c106 => ?_) (fun c106 => ?_)
        · refine AW.go 5 (pc' := 39) rfl ?_
          first | (refine AW.lw ?_ (ih (k + 1) (c + 1) (by omega) (by omega) ?_ (by omega)); exact (And.intro rfl (And.intro rfl (And.intro rfl (And.intro rfl (And.intro rfl (And.intro rfl trivial)))))); rw [cntN_s h0, kk h0]; (first | rw [if_pos c106] | rw [if_neg c106]); rw [hc]; rfl) | (refine AW.lw ?_ (ih (k + 1) (c + 0) (by omega) (by omega) ?_ (by omega)); exact (And.intro rfl (And.intro rfl (And.intro rfl (And.intro rfl (And.intro rfl (And.intro rfl trivial)))))); rw [cntN_s h0, kk h0]; (first | rw [if_pos c106] | rw [if_neg c106]); rw [hc]; rfl)
        · refine AW.go 6 (pc' := 39) rfl ?_
          first | (refine AW.lw ?_ (ih (k + 1) (c + 1) (by omega) (by omega) ?_ (by omega)); exact (And.intro rfl (And.intro rfl (And.intro rfl (And.intro rfl (And.intro rfl (And.intro rfl trivial)))))); rw [cntN_s h0, kk h0]; (first | rw [if_pos c106] | rw [if_neg c106]); rw [hc]; rfl) | (refine AW.lw ?_ (ih (k + 1) (c + 0) (by omega) (by omega) ?_ (by omega)); exact (And.intro rfl (And.intro rfl (And.intro rfl (And.intro rfl (And.intro rfl (And.intro rfl trivial)))))); rw [cntN_s h0, kk h0]; (first | rw [if_pos c106] | rw [if_neg c106]); rw [hc]; rfl)
set_option maxHeartbeats 2000000 in
theorem c_X4_shared (d : Nat) (hd : 4 ≤ d) (h : List AC) (pm rf gm ka wr9 : Int) (hO : h[29]? = some (ao 4 (mo pm rf gm ka wr9))) (m : Nat → Int) (hM : h[30]? = some (ai 0 48 m)) (hm : mt m) (r F N : Int) (rr : -2147483648 ≤ r ∧ r < 2147483648) (rF : -2147483648 ≤ F ∧ F < 2147483648) (rN : -2147483648 ≤ N ∧ N < 2147483648) : MF zX4_shared d [vr 29, vi r, vi F, vi N] h (V_shared m r F N) h := by
  refine M0.of okX4_shared (Nat.le_of_ble_eq_true rfl) ?_
  refine AW.go 1 (pc' := 1) rfl ?_
  refine AW.callSF (pn := 4) rfl rfl mlX4_79 (c_X4_isRow (d - 1) (by omega) _ _ (by omega)) rfl rfl (Nat.le_of_ble_eq_true rfl) ⟨by show d - 1 + 1 ≤ d; omega, by show 40 * (d - 1 + 1) ≤ 40 * d; omega⟩ ⟨Nat.zero_le _, Nat.zero_le _⟩ ?_
  refine AW.bz (tgt := 14) (pn := 7) rfl (by decide) rfl (fun c4 => ?_) (fun c4 => ?_)
  · refine AW.go 1 (pc' := 15) rfl ?_
    refine AW.ret rfl rfl (Nat.le_refl _) (Nat.le_refl _) ?_
    refine ⟨congrArg some ?_, rfl⟩
    unfold V_shared
    (repeat' split) <;> first | rfl | omega
  · refine AW.go 1 (pc' := 8) rfl ?_
    refine AW.callSF (pn := 11) rfl rfl mlX4_102 (c_X4_isForm (d - 1) (by omega) _ _ (by omega)) rfl rfl (Nat.le_of_ble_eq_true rfl) ⟨by show d - 1 + 1 ≤ d; omega, by show 40 * (d - 1 + 1) ≤ 40 * d; omega⟩ ⟨Nat.zero_le _, Nat.zero_le _⟩ ?_
    refine AW.bnz (tgt := 16) (pn := 14) rfl (by decide) rfl (fun c11 => ?_) (fun c11 => ?_)
    · refine AW.go 1 (pc' := 17) rfl ?_
      refine AW.i2l (pn := 18) rfl rfl (by first | exact bI_rng _ | exact ⟨by omega, by omega⟩) ?_
      refine AW.ldc2 (pn := 21) rfl rfl clX4_130 ?_
      refine AW.ldc2 (pn := 24) rfl rfl clX4_132 ?_
      refine AW.callSF (pn := 27) rfl rfl mlX4_40 (c_X4_in (d - 1) (by omega) _ _ _ _ (by omega) (by omega) (by omega)) rfl rfl (Nat.le_of_ble_eq_true rfl) ⟨by show d - 1 + 1 ≤ d; omega, by show 40 * (d - 1 + 1) ≤ 40 * d; omega⟩ ⟨Nat.zero_le _, Nat.zero_le _⟩ ?_
      refine AW.bnz (tgt := 33) (pn := 30) rfl (by decide) rfl (fun c27 => ?_) (fun c27 => ?_)
      · refine AW.go 4 (pc' := 39) rfl ?_
        unfold V_shared
        rw [if_pos ⟨c4, c11⟩, if_pos (by omega)]
        refine AW.lw ?_ (l_X4_shared d hd h pm rf gm ka wr9 hO m hM hm r F N c4 c11 (by omega) _ 0 0 (by omega) (by omega) rfl (Nat.lt_succ_self _))
        exact (And.intro rfl (And.intro rfl (And.intro rfl (And.intro rfl (And.intro rfl (And.intro rfl trivial))))))
      · refine AW.go 1 (pc' := 32) rfl ?_
        refine AW.ret rfl rfl (Nat.le_refl _) (Nat.le_refl _) ?_
        refine ⟨congrArg some ?_, rfl⟩
        unfold V_shared
        (repeat' split) <;> first | rfl | omega
    · refine AW.go 1 (pc' := 15) rfl ?_
      refine AW.ret rfl rfl (Nat.le_refl _) (Nat.le_refl _) ?_
      refine ⟨congrArg some ?_, rfl⟩
      unfold V_shared
      (repeat' split) <;> first | rfl | omega
set_option maxHeartbeats 4000000 in
theorem l_X4_derived (d : Nat) (hd : 4 ≤ d) (h : List AC) (pm rf gm ka wr9 : Int) (hO : h[29]? = some (ao 4 (mo pm rf gm ka wr9))) (m : Nat → Int) (hM : h[30]? = some (ai 0 48 m)) (hm : mt m) (r N : Int) (rr : 0 ≤ r ∧ r < 4) (hN : N = 2 ∨ N = 3 ∨ N = 4 ∨ N = 6) : ∀ (n : Nat) (k : Int) (s : Int) (b : Bool), (0 ≤ k) → (k ≤ 12 / N - 1) → (s = N * (k + 1)) → (b = drv (rwm m r) N k.toNat) → ((12 / N - 1 - k).toNat) < n → AW zX4_derived Eq (rmd d) 0 0 0 0 38 [(4, vi s), (3, vi (bI (b = true))), (0, vr 29), (1, vi r), (2, vi N)] [] h (RQ (bI (drv (rwm m r) N ((12 / N).toNat - 1) = true)) h) := by
  intro n
  induction n with
  | zero =>
    intro k s b h0 h1 hsk hb hn
    exact absurd hn (Nat.not_lt_zero _)
  | succ n ih =>
    intro k s b h0 h1 hsk hb hn
    have hsb : 0 ≤ s ∧ s ≤ 12 := by rw [hsk]; rcases hN with rfl | rfl | rfl | rfl <;> omega
    have hNb : 2 ≤ N ∧ N ≤ 6 := by omega
    refine AW.go 2 (pc' := 42) rfl ?_
    refine AW.bi (tgt := 75) (pn := 45) rfl (by decide) rfl (by first | exact bI_rng _ | exact ⟨by omega, by omega⟩) (by first | exact bI_rng _ | exact ⟨by omega, by omega⟩) (fun c42 => ?_) (fun c42 => ?_)
    · dsimp only [cmpI] at c42
      refine AW.go 1 (pc' := 76) rfl ?_
      refine AW.bz (tgt := 83) (pn := 79) rfl (by decide) rfl (fun c76 => ?_) (fun c76 => ?_)
      · refine AW.go 1 (pc' := 84) rfl ?_
        refine AW.ret rfl rfl (Nat.le_refl _) (Nat.le_refl _) ?_
        have e : (12 / N).toNat - 1 = k.toNat := by rcases hN with rfl | rfl | rfl | rfl <;> omega
        refine ⟨congrArg some ?_, rfl⟩
        rw [e, ← hb]
        first | exact (bI_t c76).symm | exact (bI_f c76).symm
      · refine AW.go 2 (pc' := 84) rfl ?_
        refine AW.ret rfl rfl (Nat.le_refl _) (Nat.le_refl _) ?_
        have e : (12 / N).toNat - 1 = k.toNat := by rcases hN with rfl | rfl | rfl | rfl <;> omega
        refine ⟨congrArg some ?_, rfl⟩
        rw [e, ← hb]
        first | exact (bI_t c76).symm | exact (bI_f c76).symm
    · dsimp only [cmpI] at c42
      refine AW.go 1 (pc' := 46) rfl ?_
      refine AW.bz (tgt := 64) (pn := 49) rfl (by decide) rfl (fun c46 => ?_) (fun c46 => ?_)
      · refine AW.go 7 (pc' := 38) rfl ?_
        first | (refine AW.lw ?_ (ih (k + 1) (s + N) (true) (by omega) (by rcases hN with rfl | rfl | rfl | rfl <;> omega) (by rw [hsk]; rcases hN with rfl | rfl | rfl | rfl <;> omega) ?_ (by rcases hN with rfl | rfl | rfl | rfl <;> omega)); exact (And.intro rfl (And.intro rfl (And.intro rfl (And.intro rfl (And.intro rfl trivial))))); unfold drv; rw [allN_s h0, kk h0, ← hsk]; change _ = (drv (rwm m r) N k.toNat && _); rw [← hb]; (first | (rw [eq_false_of_ne_true c46]; rfl) | (rw [c46, eq_false_of_ne_true c57]; rfl) | (rw [c46, c57]; rfl))) | (refine AW.lw ?_ (ih (k + 1) (s + N) (false) (by omega) (by rcases hN with rfl | rfl | rfl | rfl <;> omega) (by rw [hsk]; rcases hN with rfl | rfl | rfl | rfl <;> omega) ?_ (by rcases hN with rfl | rfl | rfl | rfl <;> omega)); exact (And.intro rfl (And.intro rfl (And.intro rfl (And.intro rfl (And.intro rfl trivial))))); unfold drv; rw [allN_s h0, kk h0, ← hsk]; change _ = (drv (rwm m r) N k.toNat && _); rw [← hb]; (first | (rw [eq_false_of_ne_true c46]; rfl) | (rw [c46, eq_false_of_ne_true c57]; rfl) | (rw [c46, c57]; rfl)))
      · refine AW.go 4 (pc' := 54) rfl ?_
        have hsN : s + N ≤ 12 := by rw [hsk] at *; rcases hN with rfl | rfl | rfl | rfl <;> omega
        refine AW.callVF (pn := 57) rfl rfl mlX4_141 (by first | assumption | exact set_self (by assumption) | exact set_ne (by first | assumption | omega | decide) (by first | assumption | exact set_self (by assumption) | exact set_ne (by first | assumption | omega | decide) (by assumption))) (c_X4_isGroup (d - 1) (by omega) _ _ _ _ _ _ (by assumption) _ (by assumption) (by assumption) _ _ _ (by omega) (by omega) (by omega)) rfl rfl (Nat.le_of_ble_eq_true rfl) ⟨by show d - 1 + 1 ≤ d; omega, by show 40 * (d - 1 + 1) ≤ 40 * d; omega⟩ ⟨Nat.zero_le _, Nat.zero_le _⟩ ?_
        refine AW.bz (tgt := 64) (pn := 60) rfl (by decide) rfl (fun c57 => ?_) (fun c57 => ?_)
        · refine AW.go 7 (pc' := 38) rfl ?_
          first | (refine AW.lw ?_ (ih (k + 1) (s + N) (true) (by omega) (by rcases hN with rfl | rfl | rfl | rfl <;> omega) (by rw [hsk]; rcases hN with rfl | rfl | rfl | rfl <;> omega) ?_ (by rcases hN with rfl | rfl | rfl | rfl <;> omega)); exact (And.intro rfl (And.intro rfl (And.intro rfl (And.intro rfl (And.intro rfl trivial))))); unfold drv; rw [allN_s h0, kk h0, ← hsk]; change _ = (drv (rwm m r) N k.toNat && _); rw [← hb]; (first | (rw [eq_false_of_ne_true c46]; rfl) | (rw [c46, eq_false_of_ne_true c57]; rfl) | (rw [c46, c57]; rfl))) | (refine AW.lw ?_ (ih (k + 1) (s + N) (false) (by omega) (by rcases hN with rfl | rfl | rfl | rfl <;> omega) (by rw [hsk]; rcases hN with rfl | rfl | rfl | rfl <;> omega) ?_ (by rcases hN with rfl | rfl | rfl | rfl <;> omega)); exact (And.intro rfl (And.intro rfl (And.intro rfl (And.intro rfl (And.intro rfl trivial))))); unfold drv; rw [allN_s h0, kk h0, ← hsk]; change _ = (drv (rwm m r) N k.toNat && _); rw [← hb]; (first | (rw [eq_false_of_ne_true c46]; rfl) | (rw [c46, eq_false_of_ne_true c57]; rfl) | (rw [c46, c57]; rfl)))
        · refine AW.go 8 (pc' := 38) rfl ?_
          first | (refine AW.lw ?_ (ih (k + 1) (s + N) (true) (by omega) (by rcases hN with rfl | rfl | rfl | rfl <;> omega) (by rw [hsk]; rcases hN with rfl | rfl | rfl | rfl <;> omega) ?_ (by rcases hN with rfl | rfl | rfl | rfl <;> omega)); exact (And.intro rfl (And.intro rfl (And.intro rfl (And.intro rfl (And.intro rfl trivial))))); unfold drv; rw [allN_s h0, kk h0, ← hsk]; change _ = (drv (rwm m r) N k.toNat && _); rw [← hb]; (first | (rw [eq_false_of_ne_true c46]; rfl) | (rw [c46, eq_false_of_ne_true c57]; rfl) | (rw [c46, c57]; rfl))) | (refine AW.lw ?_ (ih (k + 1) (s + N) (false) (by omega) (by rcases hN with rfl | rfl | rfl | rfl <;> omega) (by rw [hsk]; rcases hN with rfl | rfl | rfl | rfl <;> omega) ?_ (by rcases hN with rfl | rfl | rfl | rfl <;> omega)); exact (And.intro rfl (And.intro rfl (And.intro rfl (And.intro rfl (And.intro rfl trivial))))); unfold drv; rw [allN_s h0, kk h0, ← hsk]; change _ = (drv (rwm m r) N k.toNat && _); rw [← hb]; (first | (rw [eq_false_of_ne_true c46]; rfl) | (rw [c46, eq_false_of_ne_true c57]; rfl) | (rw [c46, c57]; rfl)))
set_option maxHeartbeats 2000000 in
theorem c_X4_derived (d : Nat) (hd : 4 ≤ d) (h : List AC) (pm rf gm ka wr9 : Int) (hO : h[29]? = some (ao 4 (mo pm rf gm ka wr9))) (m : Nat → Int) (hM : h[30]? = some (ai 0 48 m)) (hm : mt m) (r N : Int) (rr : -2147483648 ≤ r ∧ r < 2147483648) (rN : -2147483648 ≤ N ∧ N < 2147483648) : MF zX4_derived d [vr 29, vi r, vi N] h (V_derived m r N) h := by
  refine M0.of okX4_derived (Nat.le_of_ble_eq_true rfl) ?_
  refine AW.go 1 (pc' := 1) rfl ?_
  refine AW.callSF (pn := 4) rfl rfl mlX4_79 (c_X4_isRow (d - 1) (by omega) _ _ (by omega)) rfl rfl (Nat.le_of_ble_eq_true rfl) ⟨by show d - 1 + 1 ≤ d; omega, by show 40 * (d - 1 + 1) ≤ 40 * d; omega⟩ ⟨Nat.zero_le _, Nat.zero_le _⟩ ?_
  refine AW.bnz (tgt := 9) (pn := 7) rfl (by decide) rfl (fun c4 => ?_) (fun c4 => ?_)
  · refine AW.go 2 (pc' := 11) rfl ?_
    refine AW.bi (tgt := 33) (pn := 14) rfl (by decide) rfl (by first | exact bI_rng _ | exact ⟨by omega, by omega⟩) (by first | exact bI_rng _ | exact ⟨by omega, by omega⟩) (fun c11 => ?_) (fun c11 => ?_)
    · dsimp only [cmpI] at c11
      refine AW.go 4 (pc' := 38) rfl ?_
      have hN : N = 2 ∨ N = 3 ∨ N = 4 ∨ N = 6 := by omega
      unfold V_derived
      rw [if_pos c4, if_pos hN]
      refine AW.lw ?_ (l_X4_derived d hd h pm rf gm ka wr9 hO m hM hm r N c4 hN _ 0 N true (by omega) (by rcases hN with rfl | rfl | rfl | rfl <;> decide) (by omega) rfl (Nat.lt_succ_self _))
      exact (And.intro rfl (And.intro rfl (And.intro rfl (And.intro rfl (And.intro rfl trivial)))))
    · dsimp only [cmpI] at c11
      refine AW.go 2 (pc' := 16) rfl ?_
      refine AW.bi (tgt := 33) (pn := 19) rfl (by decide) rfl (by first | exact bI_rng _ | exact ⟨by omega, by omega⟩) (by first | exact bI_rng _ | exact ⟨by omega, by omega⟩) (fun c16 => ?_) (fun c16 => ?_)
      · dsimp only [cmpI] at c16
        refine AW.go 4 (pc' := 38) rfl ?_
        have hN : N = 2 ∨ N = 3 ∨ N = 4 ∨ N = 6 := by omega
        unfold V_derived
        rw [if_pos c4, if_pos hN]
        refine AW.lw ?_ (l_X4_derived d hd h pm rf gm ka wr9 hO m hM hm r N c4 hN _ 0 N true (by omega) (by rcases hN with rfl | rfl | rfl | rfl <;> decide) (by omega) rfl (Nat.lt_succ_self _))
        exact (And.intro rfl (And.intro rfl (And.intro rfl (And.intro rfl (And.intro rfl trivial)))))
      · dsimp only [cmpI] at c16
        refine AW.go 2 (pc' := 21) rfl ?_
        refine AW.bi (tgt := 33) (pn := 24) rfl (by decide) rfl (by first | exact bI_rng _ | exact ⟨by omega, by omega⟩) (by first | exact bI_rng _ | exact ⟨by omega, by omega⟩) (fun c21 => ?_) (fun c21 => ?_)
        · dsimp only [cmpI] at c21
          refine AW.go 4 (pc' := 38) rfl ?_
          have hN : N = 2 ∨ N = 3 ∨ N = 4 ∨ N = 6 := by omega
          unfold V_derived
          rw [if_pos c4, if_pos hN]
          refine AW.lw ?_ (l_X4_derived d hd h pm rf gm ka wr9 hO m hM hm r N c4 hN _ 0 N true (by omega) (by rcases hN with rfl | rfl | rfl | rfl <;> decide) (by omega) rfl (Nat.lt_succ_self _))
          exact (And.intro rfl (And.intro rfl (And.intro rfl (And.intro rfl (And.intro rfl trivial)))))
        · dsimp only [cmpI] at c21
          refine AW.go 2 (pc' := 27) rfl ?_
          refine AW.bi (tgt := 33) (pn := 30) rfl (by decide) rfl (by first | exact bI_rng _ | exact ⟨by omega, by omega⟩) (by first | exact bI_rng _ | exact ⟨by omega, by omega⟩) (fun c27 => ?_) (fun c27 => ?_)
          · dsimp only [cmpI] at c27
            refine AW.go 4 (pc' := 38) rfl ?_
            have hN : N = 2 ∨ N = 3 ∨ N = 4 ∨ N = 6 := by omega
            unfold V_derived
            rw [if_pos c4, if_pos hN]
            refine AW.lw ?_ (l_X4_derived d hd h pm rf gm ka wr9 hO m hM hm r N c4 hN _ 0 N true (by omega) (by rcases hN with rfl | rfl | rfl | rfl <;> decide) (by omega) rfl (Nat.lt_succ_self _))
            exact (And.intro rfl (And.intro rfl (And.intro rfl (And.intro rfl (And.intro rfl trivial)))))
          · dsimp only [cmpI] at c27
            refine AW.go 1 (pc' := 32) rfl ?_
            refine AW.ret rfl rfl (Nat.le_refl _) (Nat.le_refl _) ?_
            refine ⟨congrArg some ?_, rfl⟩
            unfold V_derived
            (repeat' split) <;> first | rfl | omega
  · refine AW.go 1 (pc' := 8) rfl ?_
    refine AW.ret rfl rfl (Nat.le_refl _) (Nat.le_refl _) ?_
    refine ⟨congrArg some ?_, rfl⟩
    unfold V_derived
    (repeat' split) <;> first | rfl | omega
set_option maxHeartbeats 2000000 in
theorem c_X4_sign (d : Nat) (hd : 3 ≤ d) (h : List AC) (pm rf gm ka wr9 : Int) (hO : h[29]? = some (ao 4 (mo pm rf gm ka wr9))) (m : Nat → Int) (hM : h[30]? = some (ai 0 48 m)) (hm : mt m) (r F j : Int) (rr : -2147483648 ≤ r ∧ r < 2147483648) (rF : -2147483648 ≤ F ∧ F < 2147483648) (rj : -2147483648 ≤ j ∧ j < 2147483648) : MF zX4_sign d [vr 29, vi r, vi F, vi j] h (V_sign m r F j) h := by
  refine M0.of okX4_sign (Nat.le_of_ble_eq_true rfl) ?_
  refine AW.go 1 (pc' := 1) rfl ?_
  refine AW.callSF (pn := 4) rfl rfl mlX4_79 (c_X4_isRow (d - 1) (by omega) _ _ (by omega)) rfl rfl (Nat.le_of_ble_eq_true rfl) ⟨by show d - 1 + 1 ≤ d; omega, by show 40 * (d - 1 + 1) ≤ 40 * d; omega⟩ ⟨Nat.zero_le _, Nat.zero_le _⟩ ?_
  refine AW.bz (tgt := 14) (pn := 7) rfl (by decide) rfl (fun c4 => ?_) (fun c4 => ?_)
  · refine AW.go 1 (pc' := 15) rfl ?_
    refine AW.ret rfl rfl (Nat.le_refl _) (Nat.le_refl _) ?_
    refine ⟨congrArg some ?_, rfl⟩
    have e1 := kl_c F
    have e2 := nl_c F
    unfold V_sign nsg
    (repeat' split) <;> first | rfl | omega | (congr 2; omega)
  · refine AW.go 1 (pc' := 8) rfl ?_
    refine AW.callSF (pn := 11) rfl rfl mlX4_102 (c_X4_isForm (d - 1) (by omega) _ _ (by omega)) rfl rfl (Nat.le_of_ble_eq_true rfl) ⟨by show d - 1 + 1 ≤ d; omega, by show 40 * (d - 1 + 1) ≤ 40 * d; omega⟩ ⟨Nat.zero_le _, Nat.zero_le _⟩ ?_
    refine AW.bnz (tgt := 16) (pn := 14) rfl (by decide) rfl (fun c11 => ?_) (fun c11 => ?_)
    · refine AW.go 2 (pc' := 19) rfl ?_
      refine AW.idiv (pn := 20) rfl rfl (by omega) (by omega) (by omega) (by omega) ?_
      refine AW.go 3 (pc' := 25) rfl ?_
      refine AW.irem (pn := 26) rfl rfl (by omega) (by omega) (by omega) (by omega) ?_
      refine AW.go 3 (pc' := 31) rfl ?_
      refine AW.bi (tgt := 38) (pn := 34) rfl (by decide) rfl (by first | exact bI_rng _ | exact ⟨by omega, by omega⟩) (by first | exact bI_rng _ | exact ⟨by omega, by omega⟩) (fun c31 => ?_) (fun c31 => ?_)
      · dsimp only [cmpI] at c31
        refine AW.go 5 (pc' := 47) rfl ?_
        refine AW.bi (tgt := 54) (pn := 50) rfl (by decide) rfl (by first | exact bI_rng _ | exact ⟨by omega, by omega⟩) (by first | exact bI_rng _ | exact ⟨by omega, by omega⟩) (fun c47 => ?_) (fun c47 => ?_)
        · dsimp only [cmpI] at c47
          refine AW.go 5 (pc' := 60) rfl ?_
          refine AW.bi (tgt := 71) (pn := 63) rfl (by decide) rfl (by first | exact bI_rng _ | exact ⟨by omega, by omega⟩) (by first | exact bI_rng _ | exact ⟨by omega, by omega⟩) (fun c60 => ?_) (fun c60 => ?_)
          · dsimp only [cmpI] at c60
            refine AW.go 1 (pc' := 72) rfl ?_
            refine AW.i2l (pn := 73) rfl rfl (by first | exact bI_rng _ | exact ⟨by omega, by omega⟩) ?_
            refine AW.go 4 (pc' := 79) rfl ?_
            refine AW.i2l (pn := 80) rfl rfl (by first | exact bI_rng _ | exact ⟨by omega, by omega⟩) ?_
            refine AW.callSF (pn := 83) rfl rfl mlX4_40 (c_X4_in (d - 1) (by omega) _ _ _ _ (by omega) (by omega) (by omega)) rfl rfl (Nat.le_of_ble_eq_true rfl) ⟨by show d - 1 + 1 ≤ d; omega, by show 40 * (d - 1 + 1) ≤ 40 * d; omega⟩ ⟨Nat.zero_le _, Nat.zero_le _⟩ ?_
            refine AW.bnz (tgt := 89) (pn := 86) rfl (by decide) rfl (fun c83 => ?_) (fun c83 => ?_)
            · refine AW.go 2 (pc' := 92) rfl ?_
              refine AW.bi (tgt := 124) (pn := 95) rfl (by decide) rfl (by first | exact bI_rng _ | exact ⟨by omega, by omega⟩) (by first | exact bI_rng _ | exact ⟨by omega, by omega⟩) (fun c92 => ?_) (fun c92 => ?_)
              · dsimp only [cmpI] at c92
                refine AW.go 2 (pc' := 127) rfl ?_
                refine AW.bi (tgt := 156) (pn := 130) rfl (by decide) rfl (by first | exact bI_rng _ | exact ⟨by omega, by omega⟩) (by first | exact bI_rng _ | exact ⟨by omega, by omega⟩) (fun c127 => ?_) (fun c127 => ?_)
                · dsimp only [cmpI] at c127
                  refine AW.go 2 (pc' := 159) rfl ?_
                  refine AW.bi (tgt := 167) (pn := 162) rfl (by decide) rfl (by first | exact bI_rng _ | exact ⟨by omega, by omega⟩) (by first | exact bI_rng _ | exact ⟨by omega, by omega⟩) (fun c159 => ?_) (fun c159 => ?_)
                  · dsimp only [cmpI] at c159
                    refine AW.go 8 (pc' := 176) rfl ?_
                    refine AW.callVF (pn := 179) rfl rfl mlX4_105 (by first | assumption | exact set_self (by assumption) | exact set_ne (by first | assumption | omega | decide) (by first | assumption | exact set_self (by assumption) | exact set_ne (by first | assumption | omega | decide) (by assumption))) (c_X4_formAt (d - 1) (by omega) _ _ _ _ _ _ (by assumption) _ (by assumption) (by assumption) _ _ _ (by omega) (by omega) (by omega)) rfl rfl (Nat.le_of_ble_eq_true rfl) ⟨by show d - 1 + 1 ≤ d; omega, by show 40 * (d - 1 + 1) ≤ 40 * d; omega⟩ ⟨Nat.zero_le _, Nat.zero_le _⟩ ?_
                    refine AW.callSF (pn := 182) rfl rfl mlX4_190 (c_X4_signOf (d - 1) (by omega) _ _ (ft_r _ _ _ _)) rfl rfl (Nat.le_of_ble_eq_true rfl) ⟨by show d - 1 + 1 ≤ d; omega, by show 40 * (d - 1 + 1) ≤ 40 * d; omega⟩ ⟨Nat.zero_le _, Nat.zero_le _⟩ ?_
                    refine AW.ret rfl rfl (Nat.le_refl _) (Nat.le_refl _) ?_
                    refine ⟨congrArg some ?_, rfl⟩
                    have e1 := kl_c F
                    have e2 := nl_c F
                    unfold V_sign nsg
                    (repeat' split) <;> first | rfl | omega | (congr 2; omega)
                  · dsimp only [cmpI] at c159
                    refine AW.go 2 (pc' := 182) rfl ?_
                    refine AW.ret rfl rfl (Nat.le_refl _) (Nat.le_refl _) ?_
                    refine ⟨congrArg some ?_, rfl⟩
                    have e1 := kl_c F
                    have e2 := nl_c F
                    unfold V_sign nsg
                    (repeat' split) <;> first | rfl | omega | (congr 2; omega)
                · dsimp only [cmpI] at c127
                  refine AW.go 3 (pc' := 136) rfl ?_
                  refine AW.bi (tgt := 149) (pn := 139) rfl (by decide) rfl (by first | exact bI_rng _ | exact ⟨by omega, by omega⟩) (by first | exact bI_rng _ | exact ⟨by omega, by omega⟩) (fun c136 => ?_) (fun c136 => ?_)
                  · dsimp only [cmpI] at c136
                    refine AW.go 2 (pc' := 153) rfl ?_
                    refine AW.irem (pn := 154) rfl rfl (by omega) (by omega) (by omega) (by omega) ?_
                    refine AW.go 1 (pc' := 155) rfl ?_
                    refine AW.ret rfl rfl (Nat.le_refl _) (Nat.le_refl _) ?_
                    refine ⟨congrArg some ?_, rfl⟩
                    have e1 := kl_c F
                    have e2 := nl_c F
                    unfold V_sign nsg
                    (repeat' split) <;> first | rfl | omega | (congr 2; omega)
                  · dsimp only [cmpI] at c136
                    refine AW.go 2 (pc' := 142) rfl ?_
                    refine AW.bi (tgt := 149) (pn := 145) rfl (by decide) rfl (by first | exact bI_rng _ | exact ⟨by omega, by omega⟩) (by first | exact bI_rng _ | exact ⟨by omega, by omega⟩) (fun c142 => ?_) (fun c142 => ?_)
                    · dsimp only [cmpI] at c142
                      refine AW.go 2 (pc' := 153) rfl ?_
                      refine AW.irem (pn := 154) rfl rfl (by omega) (by omega) (by omega) (by omega) ?_
                      refine AW.go 1 (pc' := 155) rfl ?_
                      refine AW.ret rfl rfl (Nat.le_refl _) (Nat.le_refl _) ?_
                      refine ⟨congrArg some ?_, rfl⟩
                      have e1 := kl_c F
                      have e2 := nl_c F
                      unfold V_sign nsg
                      (repeat' split) <;> first | rfl | omega | (congr 2; omega)
                    · dsimp only [cmpI] at c142
                      refine AW.go 3 (pc' := 155) rfl ?_
                      refine AW.ret rfl rfl (Nat.le_refl _) (Nat.le_refl _) ?_
                      refine ⟨congrArg some ?_, rfl⟩
                      have e1 := kl_c F
                      have e2 := nl_c F
                      unfold V_sign nsg
                      (repeat' split) <;> first | rfl | omega | (congr 2; omega)
              · dsimp only [cmpI] at c92
                refine AW.go 1 (pc' := 97) rfl ?_
                refine AW.br (tgt := 105) (pn := 100) rfl (by decide) rfl (by first | exact bI_rng _ | exact ⟨by omega, by omega⟩) (fun c97 => ?_) (fun c97 => ?_)
                · dsimp only [cmpI] at c97
                  refine AW.go 2 (pc' := 108) rfl ?_
                  refine AW.bi (tgt := 116) (pn := 111) rfl (by decide) rfl (by first | exact bI_rng _ | exact ⟨by omega, by omega⟩) (by first | exact bI_rng _ | exact ⟨by omega, by omega⟩) (fun c108 => ?_) (fun c108 => ?_)
                  · dsimp only [cmpI] at c108
                    refine AW.go 2 (pc' := 123) rfl ?_
                    refine AW.ret rfl rfl (Nat.le_refl _) (Nat.le_refl _) ?_
                    refine ⟨congrArg some ?_, rfl⟩
                    have e1 := kl_c F
                    have e2 := nl_c F
                    unfold V_sign nsg
                    (repeat' split) <;> first | rfl | omega | (congr 2; omega)
                  · dsimp only [cmpI] at c108
                    refine AW.go 2 (pc' := 113) rfl ?_
                    refine AW.bi (tgt := 121) (pn := 116) rfl (by decide) rfl (by first | exact bI_rng _ | exact ⟨by omega, by omega⟩) (by first | exact bI_rng _ | exact ⟨by omega, by omega⟩) (fun c113 => ?_) (fun c113 => ?_)
                    · dsimp only [cmpI] at c113
                      refine AW.go 1 (pc' := 123) rfl ?_
                      refine AW.ret rfl rfl (Nat.le_refl _) (Nat.le_refl _) ?_
                      refine ⟨congrArg some ?_, rfl⟩
                      have e1 := kl_c F
                      have e2 := nl_c F
                      unfold V_sign nsg
                      (repeat' split) <;> first | rfl | omega | (congr 2; omega)
                    · dsimp only [cmpI] at c113
                      refine AW.go 2 (pc' := 123) rfl ?_
                      refine AW.ret rfl rfl (Nat.le_refl _) (Nat.le_refl _) ?_
                      refine ⟨congrArg some ?_, rfl⟩
                      have e1 := kl_c F
                      have e2 := nl_c F
                      unfold V_sign nsg
                      (repeat' split) <;> first | rfl | omega | (congr 2; omega)
                · dsimp only [cmpI] at c97
                  refine AW.go 2 (pc' := 123) rfl ?_
                  refine AW.ret rfl rfl (Nat.le_refl _) (Nat.le_refl _) ?_
                  refine ⟨congrArg some ?_, rfl⟩
                  have e1 := kl_c F
                  have e2 := nl_c F
                  unfold V_sign nsg
                  (repeat' split) <;> first | rfl | omega | (congr 2; omega)
            · refine AW.go 1 (pc' := 88) rfl ?_
              refine AW.ret rfl rfl (Nat.le_refl _) (Nat.le_refl _) ?_
              refine ⟨congrArg some ?_, rfl⟩
              have e1 := kl_c F
              have e2 := nl_c F
              unfold V_sign nsg
              (repeat' split) <;> first | rfl | omega | (congr 2; omega)
          · dsimp only [cmpI] at c60
            refine AW.go 5 (pc' := 70) rfl ?_
            refine AW.ret rfl rfl (Nat.le_refl _) (Nat.le_refl _) ?_
            refine ⟨congrArg some ?_, rfl⟩
            have e1 := kl_c F
            have e2 := nl_c F
            unfold V_sign nsg
            (repeat' split) <;> first | rfl | omega | (congr 2; omega)
        · dsimp only [cmpI] at c47
          refine AW.go 6 (pc' := 60) rfl ?_
          refine AW.bi (tgt := 71) (pn := 63) rfl (by decide) rfl (by first | exact bI_rng _ | exact ⟨by omega, by omega⟩) (by first | exact bI_rng _ | exact ⟨by omega, by omega⟩) (fun c60 => ?_) (fun c60 => ?_)
          · dsimp only [cmpI] at c60
            refine AW.go 1 (pc' := 72) rfl ?_
            refine AW.i2l (pn := 73) rfl rfl (by first | exact bI_rng _ | exact ⟨by omega, by omega⟩) ?_
            refine AW.go 4 (pc' := 79) rfl ?_
            refine AW.i2l (pn := 80) rfl rfl (by first | exact bI_rng _ | exact ⟨by omega, by omega⟩) ?_
            refine AW.callSF (pn := 83) rfl rfl mlX4_40 (c_X4_in (d - 1) (by omega) _ _ _ _ (by omega) (by omega) (by omega)) rfl rfl (Nat.le_of_ble_eq_true rfl) ⟨by show d - 1 + 1 ≤ d; omega, by show 40 * (d - 1 + 1) ≤ 40 * d; omega⟩ ⟨Nat.zero_le _, Nat.zero_le _⟩ ?_
            refine AW.bnz (tgt := 89) (pn := 86) rfl (by decide) rfl (fun c83 => ?_) (fun c83 => ?_)
            · refine AW.go 2 (pc' := 92) rfl ?_
              refine AW.bi (tgt := 124) (pn := 95) rfl (by decide) rfl (by first | exact bI_rng _ | exact ⟨by omega, by omega⟩) (by first | exact bI_rng _ | exact ⟨by omega, by omega⟩) (fun c92 => ?_) (fun c92 => ?_)
              · dsimp only [cmpI] at c92
                refine AW.go 2 (pc' := 127) rfl ?_
                refine AW.bi (tgt := 156) (pn := 130) rfl (by decide) rfl (by first | exact bI_rng _ | exact ⟨by omega, by omega⟩) (by first | exact bI_rng _ | exact ⟨by omega, by omega⟩) (fun c127 => ?_) (fun c127 => ?_)
                · dsimp only [cmpI] at c127
                  refine AW.go 2 (pc' := 159) rfl ?_
                  refine AW.bi (tgt := 167) (pn := 162) rfl (by decide) rfl (by first | exact bI_rng _ | exact ⟨by omega, by omega⟩) (by first | exact bI_rng _ | exact ⟨by omega, by omega⟩) (fun c159 => ?_) (fun c159 => ?_)
                  · dsimp only [cmpI] at c159
                    refine AW.go 8 (pc' := 176) rfl ?_
                    refine AW.callVF (pn := 179) rfl rfl mlX4_105 (by first | assumption | exact set_self (by assumption) | exact set_ne (by first | assumption | omega | decide) (by first | assumption | exact set_self (by assumption) | exact set_ne (by first | assumption | omega | decide) (by assumption))) (c_X4_formAt (d - 1) (by omega) _ _ _ _ _ _ (by assumption) _ (by assumption) (by assumption) _ _ _ (by omega) (by omega) (by omega)) rfl rfl (Nat.le_of_ble_eq_true rfl) ⟨by show d - 1 + 1 ≤ d; omega, by show 40 * (d - 1 + 1) ≤ 40 * d; omega⟩ ⟨Nat.zero_le _, Nat.zero_le _⟩ ?_
                    refine AW.callSF (pn := 182) rfl rfl mlX4_190 (c_X4_signOf (d - 1) (by omega) _ _ (ft_r _ _ _ _)) rfl rfl (Nat.le_of_ble_eq_true rfl) ⟨by show d - 1 + 1 ≤ d; omega, by show 40 * (d - 1 + 1) ≤ 40 * d; omega⟩ ⟨Nat.zero_le _, Nat.zero_le _⟩ ?_
                    refine AW.ret rfl rfl (Nat.le_refl _) (Nat.le_refl _) ?_
                    refine ⟨congrArg some ?_, rfl⟩
                    have e1 := kl_c F
                    have e2 := nl_c F
                    unfold V_sign nsg
                    (repeat' split) <;> first | rfl | omega | (congr 2; omega)
                  · dsimp only [cmpI] at c159
                    refine AW.go 2 (pc' := 182) rfl ?_
                    refine AW.ret rfl rfl (Nat.le_refl _) (Nat.le_refl _) ?_
                    refine ⟨congrArg some ?_, rfl⟩
                    have e1 := kl_c F
                    have e2 := nl_c F
                    unfold V_sign nsg
                    (repeat' split) <;> first | rfl | omega | (congr 2; omega)
                · dsimp only [cmpI] at c127
                  refine AW.go 3 (pc' := 136) rfl ?_
                  refine AW.bi (tgt := 149) (pn := 139) rfl (by decide) rfl (by first | exact bI_rng _ | exact ⟨by omega, by omega⟩) (by first | exact bI_rng _ | exact ⟨by omega, by omega⟩) (fun c136 => ?_) (fun c136 => ?_)
                  · dsimp only [cmpI] at c136
                    refine AW.go 2 (pc' := 153) rfl ?_
                    refine AW.irem (pn := 154) rfl rfl (by omega) (by omega) (by omega) (by omega) ?_
                    refine AW.go 1 (pc' := 155) rfl ?_
                    refine AW.ret rfl rfl (Nat.le_refl _) (Nat.le_refl _) ?_
                    refine ⟨congrArg some ?_, rfl⟩
                    have e1 := kl_c F
                    have e2 := nl_c F
                    unfold V_sign nsg
                    (repeat' split) <;> first | rfl | omega | (congr 2; omega)
                  · dsimp only [cmpI] at c136
                    refine AW.go 2 (pc' := 142) rfl ?_
                    refine AW.bi (tgt := 149) (pn := 145) rfl (by decide) rfl (by first | exact bI_rng _ | exact ⟨by omega, by omega⟩) (by first | exact bI_rng _ | exact ⟨by omega, by omega⟩) (fun c142 => ?_) (fun c142 => ?_)
                    · dsimp only [cmpI] at c142
                      refine AW.go 2 (pc' := 153) rfl ?_
                      refine AW.irem (pn := 154) rfl rfl (by omega) (by omega) (by omega) (by omega) ?_
                      refine AW.go 1 (pc' := 155) rfl ?_
                      refine AW.ret rfl rfl (Nat.le_refl _) (Nat.le_refl _) ?_
                      refine ⟨congrArg some ?_, rfl⟩
                      have e1 := kl_c F
                      have e2 := nl_c F
                      unfold V_sign nsg
                      (repeat' split) <;> first | rfl | omega | (congr 2; omega)
                    · dsimp only [cmpI] at c142
                      refine AW.go 3 (pc' := 155) rfl ?_
                      refine AW.ret rfl rfl (Nat.le_refl _) (Nat.le_refl _) ?_
                      refine ⟨congrArg some ?_, rfl⟩
                      have e1 := kl_c F
                      have e2 := nl_c F
                      unfold V_sign nsg
                      (repeat' split) <;> first | rfl | omega | (congr 2; omega)
              · dsimp only [cmpI] at c92
                refine AW.go 1 (pc' := 97) rfl ?_
                refine AW.br (tgt := 105) (pn := 100) rfl (by decide) rfl (by first | exact bI_rng _ | exact ⟨by omega, by omega⟩) (fun c97 => ?_) (fun c97 => ?_)
                · dsimp only [cmpI] at c97
                  refine AW.go 2 (pc' := 108) rfl ?_
                  refine AW.bi (tgt := 116) (pn := 111) rfl (by decide) rfl (by first | exact bI_rng _ | exact ⟨by omega, by omega⟩) (by first | exact bI_rng _ | exact ⟨by omega, by omega⟩) (fun c108 => ?_) (fun c108 => ?_)
                  · dsimp only [cmpI] at c108
                    refine AW.go 2 (pc' := 123) rfl ?_
                    refine AW.ret rfl rfl (Nat.le_refl _) (Nat.le_refl _) ?_
                    refine ⟨congrArg some ?_, rfl⟩
                    have e1 := kl_c F
                    have e2 := nl_c F
                    unfold V_sign nsg
                    (repeat' split) <;> first | rfl | omega | (congr 2; omega)
                  · dsimp only [cmpI] at c108
                    refine AW.go 2 (pc' := 113) rfl ?_
                    refine AW.bi (tgt := 121) (pn := 116) rfl (by decide) rfl (by first | exact bI_rng _ | exact ⟨by omega, by omega⟩) (by first | exact bI_rng _ | exact ⟨by omega, by omega⟩) (fun c113 => ?_) (fun c113 => ?_)
                    · dsimp only [cmpI] at c113
                      refine AW.go 1 (pc' := 123) rfl ?_
                      refine AW.ret rfl rfl (Nat.le_refl _) (Nat.le_refl _) ?_
                      refine ⟨congrArg some ?_, rfl⟩
                      have e1 := kl_c F
                      have e2 := nl_c F
                      unfold V_sign nsg
                      (repeat' split) <;> first | rfl | omega | (congr 2; omega)
                    · dsimp only [cmpI] at c113
                      refine AW.go 2 (pc' := 123) rfl ?_
                      refine AW.ret rfl rfl (Nat.le_refl _) (Nat.le_refl _) ?_
                      refine ⟨congrArg some ?_, rfl⟩
                      have e1 := kl_c F
                      have e2 := nl_c F
                      unfold V_sign nsg
                      (repeat' split) <;> first | rfl | omega | (congr 2; omega)
                · dsimp only [cmpI] at c97
                  refine AW.go 2 (pc' := 123) rfl ?_
                  refine AW.ret rfl rfl (Nat.le_refl _) (Nat.le_refl _) ?_
                  refine ⟨congrArg some ?_, rfl⟩
                  have e1 := kl_c F
                  have e2 := nl_c F
                  unfold V_sign nsg
                  (repeat' split) <;> first | rfl | omega | (congr 2; omega)
            · refine AW.go 1 (pc' := 88) rfl ?_
              refine AW.ret rfl rfl (Nat.le_refl _) (Nat.le_refl _) ?_
              refine ⟨congrArg some ?_, rfl⟩
              have e1 := kl_c F
              have e2 := nl_c F
              unfold V_sign nsg
              (repeat' split) <;> first | rfl | omega | (congr 2; omega)
          · dsimp only [cmpI] at c60
            refine AW.go 5 (pc' := 70) rfl ?_
            refine AW.ret rfl rfl (Nat.le_refl _) (Nat.le_refl _) ?_
            refine ⟨congrArg some ?_, rfl⟩
            have e1 := kl_c F
            have e2 := nl_c F
            unfold V_sign nsg
            (repeat' split) <;> first | rfl | omega | (congr 2; omega)
      · dsimp only [cmpI] at c31
        refine AW.go 6 (pc' := 47) rfl ?_
        refine AW.bi (tgt := 54) (pn := 50) rfl (by decide) rfl (by first | exact bI_rng _ | exact ⟨by omega, by omega⟩) (by first | exact bI_rng _ | exact ⟨by omega, by omega⟩) (fun c47 => ?_) (fun c47 => ?_)
        · dsimp only [cmpI] at c47
          refine AW.go 5 (pc' := 60) rfl ?_
          refine AW.bi (tgt := 71) (pn := 63) rfl (by decide) rfl (by first | exact bI_rng _ | exact ⟨by omega, by omega⟩) (by first | exact bI_rng _ | exact ⟨by omega, by omega⟩) (fun c60 => ?_) (fun c60 => ?_)
          · dsimp only [cmpI] at c60
            refine AW.go 1 (pc' := 72) rfl ?_
            refine AW.i2l (pn := 73) rfl rfl (by first | exact bI_rng _ | exact ⟨by omega, by omega⟩) ?_
            refine AW.go 4 (pc' := 79) rfl ?_
            refine AW.i2l (pn := 80) rfl rfl (by first | exact bI_rng _ | exact ⟨by omega, by omega⟩) ?_
            refine AW.callSF (pn := 83) rfl rfl mlX4_40 (c_X4_in (d - 1) (by omega) _ _ _ _ (by omega) (by omega) (by omega)) rfl rfl (Nat.le_of_ble_eq_true rfl) ⟨by show d - 1 + 1 ≤ d; omega, by show 40 * (d - 1 + 1) ≤ 40 * d; omega⟩ ⟨Nat.zero_le _, Nat.zero_le _⟩ ?_
            refine AW.bnz (tgt := 89) (pn := 86) rfl (by decide) rfl (fun c83 => ?_) (fun c83 => ?_)
            · refine AW.go 2 (pc' := 92) rfl ?_
              refine AW.bi (tgt := 124) (pn := 95) rfl (by decide) rfl (by first | exact bI_rng _ | exact ⟨by omega, by omega⟩) (by first | exact bI_rng _ | exact ⟨by omega, by omega⟩) (fun c92 => ?_) (fun c92 => ?_)
              · dsimp only [cmpI] at c92
                refine AW.go 2 (pc' := 127) rfl ?_
                refine AW.bi (tgt := 156) (pn := 130) rfl (by decide) rfl (by first | exact bI_rng _ | exact ⟨by omega, by omega⟩) (by first | exact bI_rng _ | exact ⟨by omega, by omega⟩) (fun c127 => ?_) (fun c127 => ?_)
                · dsimp only [cmpI] at c127
                  refine AW.go 2 (pc' := 159) rfl ?_
                  refine AW.bi (tgt := 167) (pn := 162) rfl (by decide) rfl (by first | exact bI_rng _ | exact ⟨by omega, by omega⟩) (by first | exact bI_rng _ | exact ⟨by omega, by omega⟩) (fun c159 => ?_) (fun c159 => ?_)
                  · dsimp only [cmpI] at c159
                    refine AW.go 8 (pc' := 176) rfl ?_
                    refine AW.callVF (pn := 179) rfl rfl mlX4_105 (by first | assumption | exact set_self (by assumption) | exact set_ne (by first | assumption | omega | decide) (by first | assumption | exact set_self (by assumption) | exact set_ne (by first | assumption | omega | decide) (by assumption))) (c_X4_formAt (d - 1) (by omega) _ _ _ _ _ _ (by assumption) _ (by assumption) (by assumption) _ _ _ (by omega) (by omega) (by omega)) rfl rfl (Nat.le_of_ble_eq_true rfl) ⟨by show d - 1 + 1 ≤ d; omega, by show 40 * (d - 1 + 1) ≤ 40 * d; omega⟩ ⟨Nat.zero_le _, Nat.zero_le _⟩ ?_
                    refine AW.callSF (pn := 182) rfl rfl mlX4_190 (c_X4_signOf (d - 1) (by omega) _ _ (ft_r _ _ _ _)) rfl rfl (Nat.le_of_ble_eq_true rfl) ⟨by show d - 1 + 1 ≤ d; omega, by show 40 * (d - 1 + 1) ≤ 40 * d; omega⟩ ⟨Nat.zero_le _, Nat.zero_le _⟩ ?_
                    refine AW.ret rfl rfl (Nat.le_refl _) (Nat.le_refl _) ?_
                    refine ⟨congrArg some ?_, rfl⟩
                    have e1 := kl_c F
                    have e2 := nl_c F
                    unfold V_sign nsg
                    (repeat' split) <;> first | rfl | omega | (congr 2; omega)
                  · dsimp only [cmpI] at c159
                    refine AW.go 2 (pc' := 182) rfl ?_
                    refine AW.ret rfl rfl (Nat.le_refl _) (Nat.le_refl _) ?_
                    refine ⟨congrArg some ?_, rfl⟩
                    have e1 := kl_c F
                    have e2 := nl_c F
                    unfold V_sign nsg
                    (repeat' split) <;> first | rfl | omega | (congr 2; omega)
                · dsimp only [cmpI] at c127
                  refine AW.go 3 (pc' := 136) rfl ?_
                  refine AW.bi (tgt := 149) (pn := 139) rfl (by decide) rfl (by first | exact bI_rng _ | exact ⟨by omega, by omega⟩) (by first | exact bI_rng _ | exact ⟨by omega, by omega⟩) (fun c136 => ?_) (fun c136 => ?_)
                  · dsimp only [cmpI] at c136
                    refine AW.go 2 (pc' := 153) rfl ?_
                    refine AW.irem (pn := 154) rfl rfl (by omega) (by omega) (by omega) (by omega) ?_
                    refine AW.go 1 (pc' := 155) rfl ?_
                    refine AW.ret rfl rfl (Nat.le_refl _) (Nat.le_refl _) ?_
                    refine ⟨congrArg some ?_, rfl⟩
                    have e1 := kl_c F
                    have e2 := nl_c F
                    unfold V_sign nsg
                    (repeat' split) <;> first | rfl | omega | (congr 2; omega)
                  · dsimp only [cmpI] at c136
                    refine AW.go 2 (pc' := 142) rfl ?_
                    refine AW.bi (tgt := 149) (pn := 145) rfl (by decide) rfl (by first | exact bI_rng _ | exact ⟨by omega, by omega⟩) (by first | exact bI_rng _ | exact ⟨by omega, by omega⟩) (fun c142 => ?_) (fun c142 => ?_)
                    · dsimp only [cmpI] at c142
                      refine AW.go 2 (pc' := 153) rfl ?_
                      refine AW.irem (pn := 154) rfl rfl (by omega) (by omega) (by omega) (by omega) ?_
                      refine AW.go 1 (pc' := 155) rfl ?_
                      refine AW.ret rfl rfl (Nat.le_refl _) (Nat.le_refl _) ?_
                      refine ⟨congrArg some ?_, rfl⟩
                      have e1 := kl_c F
                      have e2 := nl_c F
                      unfold V_sign nsg
                      (repeat' split) <;> first | rfl | omega | (congr 2; omega)
                    · dsimp only [cmpI] at c142
                      refine AW.go 3 (pc' := 155) rfl ?_
                      refine AW.ret rfl rfl (Nat.le_refl _) (Nat.le_refl _) ?_
                      refine ⟨congrArg some ?_, rfl⟩
                      have e1 := kl_c F
                      have e2 := nl_c F
                      unfold V_sign nsg
                      (repeat' split) <;> first | rfl | omega | (congr 2; omega)
              · dsimp only [cmpI] at c92
                refine AW.go 1 (pc' := 97) rfl ?_
                refine AW.br (tgt := 105) (pn := 100) rfl (by decide) rfl (by first | exact bI_rng _ | exact ⟨by omega, by omega⟩) (fun c97 => ?_) (fun c97 => ?_)
                · dsimp only [cmpI] at c97
                  refine AW.go 2 (pc' := 108) rfl ?_
                  refine AW.bi (tgt := 116) (pn := 111) rfl (by decide) rfl (by first | exact bI_rng _ | exact ⟨by omega, by omega⟩) (by first | exact bI_rng _ | exact ⟨by omega, by omega⟩) (fun c108 => ?_) (fun c108 => ?_)
                  · dsimp only [cmpI] at c108
                    refine AW.go 2 (pc' := 123) rfl ?_
                    refine AW.ret rfl rfl (Nat.le_refl _) (Nat.le_refl _) ?_
                    refine ⟨congrArg some ?_, rfl⟩
                    have e1 := kl_c F
                    have e2 := nl_c F
                    unfold V_sign nsg
                    (repeat' split) <;> first | rfl | omega | (congr 2; omega)
                  · dsimp only [cmpI] at c108
                    refine AW.go 2 (pc' := 113) rfl ?_
                    refine AW.bi (tgt := 121) (pn := 116) rfl (by decide) rfl (by first | exact bI_rng _ | exact ⟨by omega, by omega⟩) (by first | exact bI_rng _ | exact ⟨by omega, by omega⟩) (fun c113 => ?_) (fun c113 => ?_)
                    · dsimp only [cmpI] at c113
                      refine AW.go 1 (pc' := 123) rfl ?_
                      refine AW.ret rfl rfl (Nat.le_refl _) (Nat.le_refl _) ?_
                      refine ⟨congrArg some ?_, rfl⟩
                      have e1 := kl_c F
                      have e2 := nl_c F
                      unfold V_sign nsg
                      (repeat' split) <;> first | rfl | omega | (congr 2; omega)
                    · dsimp only [cmpI] at c113
                      refine AW.go 2 (pc' := 123) rfl ?_
                      refine AW.ret rfl rfl (Nat.le_refl _) (Nat.le_refl _) ?_
                      refine ⟨congrArg some ?_, rfl⟩
                      have e1 := kl_c F
                      have e2 := nl_c F
                      unfold V_sign nsg
                      (repeat' split) <;> first | rfl | omega | (congr 2; omega)
                · dsimp only [cmpI] at c97
                  refine AW.go 2 (pc' := 123) rfl ?_
                  refine AW.ret rfl rfl (Nat.le_refl _) (Nat.le_refl _) ?_
                  refine ⟨congrArg some ?_, rfl⟩
                  have e1 := kl_c F
                  have e2 := nl_c F
                  unfold V_sign nsg
                  (repeat' split) <;> first | rfl | omega | (congr 2; omega)
            · refine AW.go 1 (pc' := 88) rfl ?_
              refine AW.ret rfl rfl (Nat.le_refl _) (Nat.le_refl _) ?_
              refine ⟨congrArg some ?_, rfl⟩
              have e1 := kl_c F
              have e2 := nl_c F
              unfold V_sign nsg
              (repeat' split) <;> first | rfl | omega | (congr 2; omega)
          · dsimp only [cmpI] at c60
            refine AW.go 5 (pc' := 70) rfl ?_
            refine AW.ret rfl rfl (Nat.le_refl _) (Nat.le_refl _) ?_
            refine ⟨congrArg some ?_, rfl⟩
            have e1 := kl_c F
            have e2 := nl_c F
            unfold V_sign nsg
            (repeat' split) <;> first | rfl | omega | (congr 2; omega)
        · dsimp only [cmpI] at c47
          refine AW.go 6 (pc' := 60) rfl ?_
          refine AW.bi (tgt := 71) (pn := 63) rfl (by decide) rfl (by first | exact bI_rng _ | exact ⟨by omega, by omega⟩) (by first | exact bI_rng _ | exact ⟨by omega, by omega⟩) (fun c60 => ?_) (fun c60 => ?_)
          · dsimp only [cmpI] at c60
            refine AW.go 1 (pc' := 72) rfl ?_
            refine AW.i2l (pn := 73) rfl rfl (by first | exact bI_rng _ | exact ⟨by omega, by omega⟩) ?_
            refine AW.go 4 (pc' := 79) rfl ?_
            refine AW.i2l (pn := 80) rfl rfl (by first | exact bI_rng _ | exact ⟨by omega, by omega⟩) ?_
            refine AW.callSF (pn := 83) rfl rfl mlX4_40 (c_X4_in (d - 1) (by omega) _ _ _ _ (by omega) (by omega) (by omega)) rfl rfl (Nat.le_of_ble_eq_true rfl) ⟨by show d - 1 + 1 ≤ d; omega, by show 40 * (d - 1 + 1) ≤ 40 * d; omega⟩ ⟨Nat.zero_le _, Nat.zero_le _⟩ ?_
            refine AW.bnz (tgt := 89) (pn := 86) rfl (by decide) rfl (fun c83 => ?_) (fun c83 => ?_)
            · refine AW.go 2 (pc' := 92) rfl ?_
              refine AW.bi (tgt := 124) (pn := 95) rfl (by decide) rfl (by first | exact bI_rng _ | exact ⟨by omega, by omega⟩) (by first | exact bI_rng _ | exact ⟨by omega, by omega⟩) (fun c92 => ?_) (fun c92 => ?_)
              · dsimp only [cmpI] at c92
                refine AW.go 2 (pc' := 127) rfl ?_
                refine AW.bi (tgt := 156) (pn := 130) rfl (by decide) rfl (by first | exact bI_rng _ | exact ⟨by omega, by omega⟩) (by first | exact bI_rng _ | exact ⟨by omega, by omega⟩) (fun c127 => ?_) (fun c127 => ?_)
                · dsimp only [cmpI] at c127
                  refine AW.go 2 (pc' := 159) rfl ?_
                  refine AW.bi (tgt := 167) (pn := 162) rfl (by decide) rfl (by first | exact bI_rng _ | exact ⟨by omega, by omega⟩) (by first | exact bI_rng _ | exact ⟨by omega, by omega⟩) (fun c159 => ?_) (fun c159 => ?_)
                  · dsimp only [cmpI] at c159
                    refine AW.go 8 (pc' := 176) rfl ?_
                    refine AW.callVF (pn := 179) rfl rfl mlX4_105 (by first | assumption | exact set_self (by assumption) | exact set_ne (by first | assumption | omega | decide) (by first | assumption | exact set_self (by assumption) | exact set_ne (by first | assumption | omega | decide) (by assumption))) (c_X4_formAt (d - 1) (by omega) _ _ _ _ _ _ (by assumption) _ (by assumption) (by assumption) _ _ _ (by omega) (by omega) (by omega)) rfl rfl (Nat.le_of_ble_eq_true rfl) ⟨by show d - 1 + 1 ≤ d; omega, by show 40 * (d - 1 + 1) ≤ 40 * d; omega⟩ ⟨Nat.zero_le _, Nat.zero_le _⟩ ?_
                    refine AW.callSF (pn := 182) rfl rfl mlX4_190 (c_X4_signOf (d - 1) (by omega) _ _ (ft_r _ _ _ _)) rfl rfl (Nat.le_of_ble_eq_true rfl) ⟨by show d - 1 + 1 ≤ d; omega, by show 40 * (d - 1 + 1) ≤ 40 * d; omega⟩ ⟨Nat.zero_le _, Nat.zero_le _⟩ ?_
                    refine AW.ret rfl rfl (Nat.le_refl _) (Nat.le_refl _) ?_
                    refine ⟨congrArg some ?_, rfl⟩
                    have e1 := kl_c F
                    have e2 := nl_c F
                    unfold V_sign nsg
                    (repeat' split) <;> first | rfl | omega | (congr 2; omega)
                  · dsimp only [cmpI] at c159
                    refine AW.go 2 (pc' := 182) rfl ?_
                    refine AW.ret rfl rfl (Nat.le_refl _) (Nat.le_refl _) ?_
                    refine ⟨congrArg some ?_, rfl⟩
                    have e1 := kl_c F
                    have e2 := nl_c F
                    unfold V_sign nsg
                    (repeat' split) <;> first | rfl | omega | (congr 2; omega)
                · dsimp only [cmpI] at c127
                  refine AW.go 3 (pc' := 136) rfl ?_
                  refine AW.bi (tgt := 149) (pn := 139) rfl (by decide) rfl (by first | exact bI_rng _ | exact ⟨by omega, by omega⟩) (by first | exact bI_rng _ | exact ⟨by omega, by omega⟩) (fun c136 => ?_) (fun c136 => ?_)
                  · dsimp only [cmpI] at c136
                    refine AW.go 2 (pc' := 153) rfl ?_
                    refine AW.irem (pn := 154) rfl rfl (by omega) (by omega) (by omega) (by omega) ?_
                    refine AW.go 1 (pc' := 155) rfl ?_
                    refine AW.ret rfl rfl (Nat.le_refl _) (Nat.le_refl _) ?_
                    refine ⟨congrArg some ?_, rfl⟩
                    have e1 := kl_c F
                    have e2 := nl_c F
                    unfold V_sign nsg
                    (repeat' split) <;> first | rfl | omega | (congr 2; omega)
                  · dsimp only [cmpI] at c136
                    refine AW.go 2 (pc' := 142) rfl ?_
                    refine AW.bi (tgt := 149) (pn := 145) rfl (by decide) rfl (by first | exact bI_rng _ | exact ⟨by omega, by omega⟩) (by first | exact bI_rng _ | exact ⟨by omega, by omega⟩) (fun c142 => ?_) (fun c142 => ?_)
                    · dsimp only [cmpI] at c142
                      refine AW.go 2 (pc' := 153) rfl ?_
                      refine AW.irem (pn := 154) rfl rfl (by omega) (by omega) (by omega) (by omega) ?_
                      refine AW.go 1 (pc' := 155) rfl ?_
                      refine AW.ret rfl rfl (Nat.le_refl _) (Nat.le_refl _) ?_
                      refine ⟨congrArg some ?_, rfl⟩
                      have e1 := kl_c F
                      have e2 := nl_c F
                      unfold V_sign nsg
                      (repeat' split) <;> first | rfl | omega | (congr 2; omega)
                    · dsimp only [cmpI] at c142
                      refine AW.go 3 (pc' := 155) rfl ?_
                      refine AW.ret rfl rfl (Nat.le_refl _) (Nat.le_refl _) ?_
                      refine ⟨congrArg some ?_, rfl⟩
                      have e1 := kl_c F
                      have e2 := nl_c F
                      unfold V_sign nsg
                      (repeat' split) <;> first | rfl | omega | (congr 2; omega)
              · dsimp only [cmpI] at c92
                refine AW.go 1 (pc' := 97) rfl ?_
                refine AW.br (tgt := 105) (pn := 100) rfl (by decide) rfl (by first | exact bI_rng _ | exact ⟨by omega, by omega⟩) (fun c97 => ?_) (fun c97 => ?_)
                · dsimp only [cmpI] at c97
                  refine AW.go 2 (pc' := 108) rfl ?_
                  refine AW.bi (tgt := 116) (pn := 111) rfl (by decide) rfl (by first | exact bI_rng _ | exact ⟨by omega, by omega⟩) (by first | exact bI_rng _ | exact ⟨by omega, by omega⟩) (fun c108 => ?_) (fun c108 => ?_)
                  · dsimp only [cmpI] at c108
                    refine AW.go 2 (pc' := 123) rfl ?_
                    refine AW.ret rfl rfl (Nat.le_refl _) (Nat.le_refl _) ?_
                    refine ⟨congrArg some ?_, rfl⟩
                    have e1 := kl_c F
                    have e2 := nl_c F
                    unfold V_sign nsg
                    (repeat' split) <;> first | rfl | omega | (congr 2; omega)
                  · dsimp only [cmpI] at c108
                    refine AW.go 2 (pc' := 113) rfl ?_
                    refine AW.bi (tgt := 121) (pn := 116) rfl (by decide) rfl (by first | exact bI_rng _ | exact ⟨by omega, by omega⟩) (by first | exact bI_rng _ | exact ⟨by omega, by omega⟩) (fun c113 => ?_) (fun c113 => ?_)
                    · dsimp only [cmpI] at c113
                      refine AW.go 1 (pc' := 123) rfl ?_
                      refine AW.ret rfl rfl (Nat.le_refl _) (Nat.le_refl _) ?_
                      refine ⟨congrArg some ?_, rfl⟩
                      have e1 := kl_c F
                      have e2 := nl_c F
                      unfold V_sign nsg
                      (repeat' split) <;> first | rfl | omega | (congr 2; omega)
                    · dsimp only [cmpI] at c113
                      refine AW.go 2 (pc' := 123) rfl ?_
                      refine AW.ret rfl rfl (Nat.le_refl _) (Nat.le_refl _) ?_
                      refine ⟨congrArg some ?_, rfl⟩
                      have e1 := kl_c F
                      have e2 := nl_c F
                      unfold V_sign nsg
                      (repeat' split) <;> first | rfl | omega | (congr 2; omega)
                · dsimp only [cmpI] at c97
                  refine AW.go 2 (pc' := 123) rfl ?_
                  refine AW.ret rfl rfl (Nat.le_refl _) (Nat.le_refl _) ?_
                  refine ⟨congrArg some ?_, rfl⟩
                  have e1 := kl_c F
                  have e2 := nl_c F
                  unfold V_sign nsg
                  (repeat' split) <;> first | rfl | omega | (congr 2; omega)
            · refine AW.go 1 (pc' := 88) rfl ?_
              refine AW.ret rfl rfl (Nat.le_refl _) (Nat.le_refl _) ?_
              refine ⟨congrArg some ?_, rfl⟩
              have e1 := kl_c F
              have e2 := nl_c F
              unfold V_sign nsg
              (repeat' split) <;> first | rfl | omega | (congr 2; omega)
          · dsimp only [cmpI] at c60
            refine AW.go 5 (pc' := 70) rfl ?_
            refine AW.ret rfl rfl (Nat.le_refl _) (Nat.le_refl _) ?_
            refine ⟨congrArg some ?_, rfl⟩
            have e1 := kl_c F
            have e2 := nl_c F
            unfold V_sign nsg
            (repeat' split) <;> first | rfl | omega | (congr 2; omega)
    · refine AW.go 1 (pc' := 15) rfl ?_
      refine AW.ret rfl rfl (Nat.le_refl _) (Nat.le_refl _) ?_
      refine ⟨congrArg some ?_, rfl⟩
      have e1 := kl_c F
      have e2 := nl_c F
      unfold V_sign nsg
      (repeat' split) <;> first | rfl | omega | (congr 2; omega)
set_option maxHeartbeats 4000000 in
theorem l_X4_firstLike (d : Nat) (hd : 4 ≤ d) (h : List AC) (pm rf gm ka wr9 : Int) (hO : h[29]? = some (ao 4 (mo pm rf gm ka wr9))) (m : Nat → Int) (hM : h[30]? = some (ai 0 48 m)) (hm : mt m) (r : Int) (rr : 0 ≤ r ∧ r < 4) : ∀ (n : Nat) (k : Int), (0 ≤ k) → (k ≤ r) → ((lik m r r.toNat 0) = lik m r (r - k).toNat k) → ((r - k).toNat) < n → AW zX4_firstLike Eq (rmd d) 0 0 0 0 2 [(2, vi k), (0, vr 29), (1, vi r)] [] h (RQ (lik m r r.toNat 0) h) := by
  intro n
  induction n with
  | zero =>
    intro k h0 h1 hi hn
    exact absurd hn (Nat.not_lt_zero _)
  | succ n ih =>
    intro k h0 h1 hi hn
    refine AW.go 4 (pc' := 6) rfl ?_
    refine AW.callVF (pn := 9) rfl rfl mlX4_120 (by first | assumption | exact set_self (by assumption) | exact set_ne (by first | assumption | omega | decide) (by first | assumption | exact set_self (by assumption) | exact set_ne (by first | assumption | omega | decide) (by assumption))) (c_X4_isLeading (d - 1) (by omega) _ _ _ _ _ _ (by assumption) _ (by assumption) (by assumption) _ _ _ (by omega) (by omega) (by omega)) rfl rfl (Nat.le_of_ble_eq_true rfl) ⟨by show d - 1 + 1 ≤ d; omega, by show 40 * (d - 1 + 1) ≤ 40 * d; omega⟩ ⟨Nat.zero_le _, Nat.zero_le _⟩ ?_
    refine AW.bnz (tgt := 18) (pn := 12) rfl (by decide) rfl (fun c9 => ?_) (fun c9 => ?_)
    · refine AW.go 1 (pc' := 19) rfl ?_
      refine AW.ret rfl rfl (Nat.le_refl _) (Nat.le_refl _) ?_
      refine ⟨congrArg some ?_, rfl⟩
      rw [hi]
      by_cases q : k = r
      · rw [q, Int.sub_self]; rfl
      · obtain ⟨q1, hq⟩ : ∃ q1, (r - k).toNat = q1 + 1 := ⟨(r - k).toNat - 1, by omega⟩
        rw [hq]
        unfold lik
        rw [if_pos c9]
    · refine AW.go 2 (pc' := 2) rfl ?_
      have hne : k ≠ r := fun q => c9 (by rw [q]; exact lik_self hm rr)
      have hs : lik m r (r - k).toNat k = if isf (rwm m r) 12 0 (rwm m k) 0 = true then k else lik m r ((r - k).toNat - 1) (k + 1) := by
        obtain ⟨q, hq⟩ : ∃ q, (r - k).toNat = q + 1 := ⟨(r - k).toNat - 1, by omega⟩
        rw [hq]
        rfl
      refine AW.lw ?_ (ih (k + 1) (by omega) (by omega) (by rw [hi, hs, if_neg c9, show (r - (k + 1)).toNat = (r - k).toNat - 1 by omega]) (by omega))
      exact (And.intro rfl (And.intro rfl (And.intro rfl trivial)))
set_option maxHeartbeats 2000000 in
theorem c_X4_firstLike (d : Nat) (hd : 4 ≤ d) (h : List AC) (pm rf gm ka wr9 : Int) (hO : h[29]? = some (ao 4 (mo pm rf gm ka wr9))) (m : Nat → Int) (hM : h[30]? = some (ai 0 48 m)) (hm : mt m) (r : Int) (rr : 0 ≤ r ∧ r < 4) : MF zX4_firstLike d [vr 29, vi r] h (lik m r r.toNat 0) h := by
  refine M0.of okX4_firstLike (Nat.le_of_ble_eq_true rfl) ?_
  refine AW.go 2 (pc' := 2) rfl ?_
  refine AW.lw ?_ (l_X4_firstLike d hd h pm rf gm ka wr9 hO m hM hm r rr _ 0 (by omega) (by omega) (by rw [Int.sub_zero]) (Nat.lt_succ_self _))
  exact (And.intro rfl (And.intro rfl (And.intro rfl trivial)))
set_option maxHeartbeats 4000000 in
theorem l_X4_holesNow (d : Nat) (hd : 0 ≤ d) (h : List AC) (pm rf gm ka wr9 : Int) (hO : h[29]? = some (ao 4 (mo pm rf gm ka wr9))) (pat : Nat → Int) (hT : h[31]? = some (ai 0 12 pat)) (hp : pn pat) : ∀ (n : Nat) (k : Int) (c : Int), (0 ≤ k) → (k ≤ 12) → (c = (hol pat k.toNat : Int)) → ((12 - k).toNat) < n → AW zX4_holesNow Eq (rmd d) 0 0 0 0 4 [(2, vi k), (1, vi c), (0, vr 29)] [] h (RQ (hol pat 12 : Int) h) := by
  intro n
  induction n with
  | zero =>
    intro k c h0 h1 hc hn
    exact absurd hn (Nat.not_lt_zero _)
  | succ n ih =>
    intro k c h0 h1 hc hn
    refine AW.go 2 (pc' := 7) rfl ?_
    refine AW.bi (tgt := 33) (pn := 10) rfl (by decide) rfl (by first | exact bI_rng _ | exact ⟨by omega, by omega⟩) (by first | exact bI_rng _ | exact ⟨by omega, by omega⟩) (fun c7 => ?_) (fun c7 => ?_)
    · dsimp only [cmpI] at c7
      refine AW.go 1 (pc' := 34) rfl ?_
      refine AW.ret rfl rfl (Nat.le_refl _) (Nat.le_refl _) ?_
      refine ⟨congrArg some ?_, rfl⟩
      rw [hc, show k.toNat = 12 by omega]
    · dsimp only [cmpI] at c7
      refine AW.go 2 (pc' := 12) rfl ?_
      refine AW.getf (pn := 15) rfl rfl flX4_13 (by first | assumption | exact set_self (by assumption) | exact set_ne (by first | assumption | omega | decide) (by first | assumption | exact set_self (by assumption) | exact set_ne (by first | assumption | omega | decide) (by assumption))) rfl ?_
      refine AW.go 1 (pc' := 16) rfl ?_
      refine AW.iald (pn := 17) rfl rfl (by first | assumption | exact set_self (by assumption) | exact set_ne (by first | assumption | omega | decide) (by first | assumption | exact set_self (by assumption) | exact set_ne (by first | assumption | omega | decide) (by assumption))) (by decide) (by omega) (by omega) ?_
      have g1 := hp k.toNat (by omega)
      refine AW.br (tgt := 24) (pn := 20) rfl (by decide) rfl (by first | exact bI_rng _ | exact ⟨by omega, by omega⟩) (fun c17 => ?_) (fun c17 => ?_)
      · dsimp only [cmpI] at c17
        refine AW.go 5 (pc' := 4) rfl ?_
        first | (refine AW.lw ?_ (ih (k + 1) (c + 1) (by omega) (by omega) ?_ (by omega)); exact (And.intro rfl (And.intro rfl (And.intro rfl trivial))); unfold hol; rw [cntN_s h0]; (first | rw [if_pos (decide_eq_true (by omega))] | rw [if_neg (fun q => by have q := of_decide_eq_true q; omega)]); rw [hc]; rfl) | (refine AW.lw ?_ (ih (k + 1) (c + 0) (by omega) (by omega) ?_ (by omega)); exact (And.intro rfl (And.intro rfl (And.intro rfl trivial))); unfold hol; rw [cntN_s h0]; (first | rw [if_pos (decide_eq_true (by omega))] | rw [if_neg (fun q => by have q := of_decide_eq_true q; omega)]); rw [hc]; rfl)
      · dsimp only [cmpI] at c17
        refine AW.go 6 (pc' := 4) rfl ?_
        first | (refine AW.lw ?_ (ih (k + 1) (c + 1) (by omega) (by omega) ?_ (by omega)); exact (And.intro rfl (And.intro rfl (And.intro rfl trivial))); unfold hol; rw [cntN_s h0]; (first | rw [if_pos (decide_eq_true (by omega))] | rw [if_neg (fun q => by have q := of_decide_eq_true q; omega)]); rw [hc]; rfl) | (refine AW.lw ?_ (ih (k + 1) (c + 0) (by omega) (by omega) ?_ (by omega)); exact (And.intro rfl (And.intro rfl (And.intro rfl trivial))); unfold hol; rw [cntN_s h0]; (first | rw [if_pos (decide_eq_true (by omega))] | rw [if_neg (fun q => by have q := of_decide_eq_true q; omega)]); rw [hc]; rfl)
set_option maxHeartbeats 2000000 in
theorem c_X4_holesNow (d : Nat) (hd : 0 ≤ d) (h : List AC) (pm rf gm ka wr9 : Int) (hO : h[29]? = some (ao 4 (mo pm rf gm ka wr9))) (pat : Nat → Int) (hT : h[31]? = some (ai 0 12 pat)) (hp : pn pat) : MF zX4_holesNow d [vr 29] h (hol pat 12 : Int) h := by
  refine M0.of okX4_holesNow (Nat.le_of_ble_eq_true rfl) ?_
  refine AW.go 4 (pc' := 4) rfl ?_
  refine AW.lw ?_ (l_X4_holesNow d hd h pm rf gm ka wr9 hO pat hT hp _ 0 0 (by omega) (by omega) rfl (Nat.lt_succ_self _))
  exact (And.intro rfl (And.intro rfl (And.intro rfl trivial)))
set_option maxHeartbeats 2000000 in
theorem c_X4_told (d : Nat) (hd : 5 ≤ d) (h : List AC) (pm rf gm ka wr9 : Int) (hO : h[29]? = some (ao 4 (mo pm rf gm ka wr9))) (m : Nat → Int) (hM : h[30]? = some (ai 0 48 m)) (hm : mt m) (pat : Nat → Int) (hT : h[31]? = some (ai 0 12 pat)) (hp : pn pat) (w : Int) (rw : -2147483648 ≤ w ∧ w < 2147483648) : MF zX4_told d [vr 29, vi w] h (V_told pm pat m w) h := by
  refine M0.of okX4_told (Nat.le_of_ble_eq_true rfl) ?_
  refine AW.go 3 (pc' := 4) rfl ?_
  refine AW.rep (wr_eq (w - 100)) ?_
  have e1 := wr_c (w - 100)
  refine AW.callSF (pn := 7) rfl rfl mlX4_86 (c_X4_isPlace (d - 1) (by omega) _ _ (by omega)) rfl rfl (Nat.le_of_ble_eq_true rfl) ⟨by show d - 1 + 1 ≤ d; omega, by show 40 * (d - 1 + 1) ≤ 40 * d; omega⟩ ⟨Nat.zero_le _, Nat.zero_le _⟩ ?_
  refine AW.bz (tgt := 20) (pn := 10) rfl (by decide) rfl (fun c7 => ?_) (fun c7 => ?_)
  · refine AW.go 3 (pc' := 25) rfl ?_
    refine AW.rep (wr_eq (w - 200)) ?_
    have e2 := wr_c (w - 200)
    refine AW.callSF (pn := 28) rfl rfl mlX4_79 (c_X4_isRow (d - 1) (by omega) _ _ (by omega)) rfl rfl (Nat.le_of_ble_eq_true rfl) ⟨by show d - 1 + 1 ≤ d; omega, by show 40 * (d - 1 + 1) ≤ 40 * d; omega⟩ ⟨Nat.zero_le _, Nat.zero_le _⟩ ?_
    refine AW.bz (tgt := 41) (pn := 31) rfl (by decide) rfl (fun c28 => ?_) (fun c28 => ?_)
    · refine AW.go 1 (pc' := 42) rfl ?_
      refine AW.br (tgt := 52) (pn := 45) rfl (by decide) rfl (by first | exact bI_rng _ | exact ⟨by omega, by omega⟩) (fun c42 => ?_) (fun c42 => ?_)
      · dsimp only [cmpI] at c42
        refine AW.go 2 (pc' := 54) rfl ?_
        refine AW.bi (tgt := 64) (pn := 57) rfl (by decide) rfl (by first | exact bI_rng _ | exact ⟨by omega, by omega⟩) (by first | exact bI_rng _ | exact ⟨by omega, by omega⟩) (fun c54 => ?_) (fun c54 => ?_)
        · dsimp only [cmpI] at c54
          refine AW.go 1 (pc' := 66) rfl ?_
          refine AW.ret rfl rfl (Nat.le_refl _) (Nat.le_refl _) ?_
          refine ⟨congrArg some ?_, rfl⟩
          unfold V_told
          (repeat' split) <;> first | rfl | omega
        · dsimp only [cmpI] at c54
          refine AW.go 1 (pc' := 58) rfl ?_
          refine AW.callVF (pn := 61) rfl rfl mlX4_83 (by first | assumption | exact set_self (by assumption) | exact set_ne (by first | assumption | omega | decide) (by first | assumption | exact set_self (by assumption) | exact set_ne (by first | assumption | omega | decide) (by assumption))) (c_X4_holesNow (d - 1) (by omega) _ _ _ _ _ _ (by assumption) _ (by assumption) (by assumption) ) rfl rfl (Nat.le_of_ble_eq_true rfl) ⟨by show d - 1 + 1 ≤ d; omega, by show 40 * (d - 1 + 1) ≤ 40 * d; omega⟩ ⟨Nat.zero_le _, Nat.zero_le _⟩ ?_
          refine AW.go 1 (pc' := 66) rfl ?_
          refine AW.ret rfl rfl (Nat.le_refl _) (Nat.le_refl _) ?_
          refine ⟨congrArg some ?_, rfl⟩
          unfold V_told
          (repeat' split) <;> first | rfl | omega
      · dsimp only [cmpI] at c42
        refine AW.go 1 (pc' := 46) rfl ?_
        refine AW.getf (pn := 49) rfl rfl flX4_52 (by first | assumption | exact set_self (by assumption) | exact set_ne (by first | assumption | omega | decide) (by first | assumption | exact set_self (by assumption) | exact set_ne (by first | assumption | omega | decide) (by assumption))) rfl ?_
        refine AW.go 1 (pc' := 66) rfl ?_
        refine AW.ret rfl rfl (Nat.le_refl _) (Nat.le_refl _) ?_
        refine ⟨congrArg some ?_, rfl⟩
        unfold V_told
        (repeat' split) <;> first | rfl | omega
    · refine AW.go 4 (pc' := 37) rfl ?_
      refine AW.callVF (pn := 40) rfl rfl mlX4_207 (by first | assumption | exact set_self (by assumption) | exact set_ne (by first | assumption | omega | decide) (by first | assumption | exact set_self (by assumption) | exact set_ne (by first | assumption | omega | decide) (by assumption))) (c_X4_firstLike (d - 1) (by omega) _ _ _ _ _ _ (by assumption) _ (by assumption) (by assumption) _ (by omega)) rfl rfl (Nat.le_of_ble_eq_true rfl) ⟨by show d - 1 + 1 ≤ d; omega, by show 40 * (d - 1 + 1) ≤ 40 * d; omega⟩ ⟨Nat.zero_le _, Nat.zero_le _⟩ ?_
      refine AW.ret rfl rfl (Nat.le_refl _) (Nat.le_refl _) ?_
      refine ⟨congrArg some ?_, rfl⟩
      unfold V_told
      (repeat' split) <;> first | rfl | omega
  · refine AW.go 1 (pc' := 11) rfl ?_
    refine AW.getf (pn := 14) rfl rfl flX4_13 (by first | assumption | exact set_self (by assumption) | exact set_ne (by first | assumption | omega | decide) (by first | assumption | exact set_self (by assumption) | exact set_ne (by first | assumption | omega | decide) (by assumption))) rfl ?_
    refine AW.go 3 (pc' := 18) rfl ?_
    refine AW.iald (pn := 19) rfl rfl (by first | assumption | exact set_self (by assumption) | exact set_ne (by first | assumption | omega | decide) (by first | assumption | exact set_self (by assumption) | exact set_ne (by first | assumption | omega | decide) (by assumption))) (by decide) (by omega) (by omega) ?_
    refine AW.ret rfl rfl (Nat.le_refl _) (Nat.le_refl _) ?_
    refine ⟨congrArg some ?_, rfl⟩
    unfold V_told
    (repeat' split) <;> first | rfl | omega
