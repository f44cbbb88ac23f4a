theorem EN_C (f : Nat → Int) (g : Nat) : en (sS f g) (gC f g (fs0 f g) 48) (12 / g - 1) (fs0 f g) = EN f g := by
  unfold EN
  rw [gC_eq, en_flt _ _ (fun _ h => h)]
theorem EN_lt (f : Nat → Int) {g : Nat} (hg : g = 3 ∨ g = 4) : (EN f g).length < 1000000 := en_small (gM_len f g 48) (by rcases hg with rfl | rfl <;> decide) _
theorem EN_at {f : Nat → Int} {g : Nat} {i : Int} (h0 : 0 ≤ i) (h : i < ((EN f g).length : Int)) : (EN f g)[i.toNat]? = some ((EN f g).getD i.toNat []) := by
  rw [List.getD_eq_getElem?_getD, List.getElem?_eq_getElem (by omega)]; rfl
set_option maxHeartbeats 2000000 in
theorem c_X3_making (d : Nat) (hd : 7 ≤ d) (h : List AC) (hl : 28 ≤ h.length) (g0 : h[0]? = some (ao 3 [vr 1, vr 3, vr 10, vr 25, vr 28])) (kp : Int) (g3 : h[3]? = some (ao 2 [vr 4, vr 9, vi kp])) (g4 : h[4]? = some (aq 3 4 rw4)) (m : Nat → Int) (hm : mt m) (hR : ∀ r : Int, 0 ≤ r → r < 4 → h[5 + r.toNat]? = some (ai 0 12 (rwm m r))) (m0 w0 b0 o0 : Int) (K0 T0 : Nat → Int) (r N i p : Int) (rr : -2147483648 ≤ r ∧ r < 2147483648) (rN : -2147483648 ≤ N ∧ N < 2147483648) (ri : -2147483648 ≤ i ∧ i < 2147483648) (rp : -2147483648 ≤ p ∧ p < 2147483648) : M0 zX3_making d [vr 0, vi r, vi N, vi i, vi p] (HC h m0 w0 b0 o0 K0 T0) (fun v u => v = some (V_making m r N i p) ∧ ∃ (M9 w9 b9 o9 : Int) (K9 T9 : Nat → Int), u = HC h M9 w9 b9 o9 K9 T9) := by
  refine M0.of okX3_making (Nat.le_of_ble_eq_true rfl) ?_
  refine AW.go 1 (pc' := 1) rfl ?_
  refine AW.callSF (pn := 4) rfl rfl mlX3_57 (c_X3_isRow (d - 1) (by omega) _ _ (by omega)) rfl rfl (Nat.le_of_ble_eq_true rfl) ⟨by show d - 1 + 1 ≤ d; omega, by show 40 * (d - 1 + 1) ≤ 40 * d; omega⟩ ⟨Nat.zero_le _, Nat.zero_le _⟩ ?_
  refine AW.bnz (tgt := 9) (pn := 7) rfl (by decide) rfl (fun c4 => ?_) (fun c4 => ?_)
  · refine AW.go 2 (pc' := 11) rfl ?_
    refine AW.bi (tgt := 19) (pn := 14) rfl (by decide) rfl (by first | exact bI_rng _ | exact ⟨by omega, by omega⟩) (by first | exact bI_rng _ | exact ⟨by omega, by omega⟩) (fun c11 => ?_) (fun c11 => ?_)
    · dsimp only [cmpI] at c11
      refine AW.go 1 (pc' := 21) rfl ?_
      refine AW.callSF (pn := 24) rfl rfl mlX3_79 (c_X3_isPlace (d - 1) (by omega) _ _ (by omega)) rfl rfl (Nat.le_of_ble_eq_true rfl) ⟨by show d - 1 + 1 ≤ d; omega, by show 40 * (d - 1 + 1) ≤ 40 * d; omega⟩ ⟨Nat.zero_le _, Nat.zero_le _⟩ ?_
      refine AW.bz (tgt := 37) (pn := 27) rfl (by decide) rfl (fun c24 => ?_) (fun c24 => ?_)
      · refine AW.go 1 (pc' := 39) rfl ?_
        refine AW.ret rfl rfl (Nat.le_refl _) (Nat.le_refl _) ?_
        refine ⟨congrArg some ?_, ⟨_, _, _, _, _, _, rfl⟩⟩
        unfold V_making
        rw [if_pos c4, if_neg (by omega)]
      · refine AW.go 2 (pc' := 29) rfl ?_
        refine AW.bi (tgt := 40) (pn := 32) rfl (by decide) rfl (by first | exact bI_rng _ | exact ⟨by omega, by omega⟩) (by first | exact bI_rng _ | exact ⟨by omega, by omega⟩) (fun c29 => ?_) (fun c29 => ?_)
        · dsimp only [cmpI] at c29
          refine AW.go 1 (pc' := 41) rfl ?_
          obtain ⟨g, rfl⟩ : ∃ g : Nat, N = (g : Int) := ⟨N.toNat, by omega⟩
          have hg : g = 3 ∨ g = 4 := by omega
          have hsm := EN_lt (rwm m r) hg
          refine AW.getf (pn := 44) rfl rfl flX3_30 (by first | assumption | exact HC_25 hl | exact HC_26 hl | exact HC_27 hl | exact (HC_ne (by first | decide | omega) (by first | decide | omega) (by first | decide | omega)).trans (by first | assumption | exact hR _ (by omega) (by omega))) rfl ?_
          refine AW.go 1 (pc' := 45) rfl ?_
          refine AW.getf (pn := 48) rfl rfl flX3_19 (by first | assumption | exact HC_25 hl | exact HC_26 hl | exact HC_27 hl | exact (HC_ne (by first | decide | omega) (by first | decide | omega) (by first | decide | omega)).trans (by first | assumption | exact hR _ (by omega) (by omega))) rfl ?_
          refine AW.getf (pn := 51) rfl rfl flX3_61 (by first | assumption | exact HC_25 hl | exact HC_26 hl | exact HC_27 hl | exact (HC_ne (by first | decide | omega) (by first | decide | omega) (by first | decide | omega)).trans (by first | assumption | exact hR _ (by omega) (by omega))) rfl ?_
          refine AW.go 1 (pc' := 52) rfl ?_
          refine AW.aald (pn := 53) rfl rfl (by first | assumption | exact HC_25 hl | exact HC_26 hl | exact HC_27 hl | exact (HC_ne (by first | decide | omega) (by first | decide | omega) (by first | decide | omega)).trans (by first | assumption | exact hR _ (by omega) (by omega))) (by decide) (by decide) (by omega) (by omega) (rw4_at (by omega)) ?_
          refine AW.go 1 (pc' := 54) rfl ?_
          have hw := hR r (by omega) (by omega)
          refine AW.callV (pn := 57) rfl rfl mlX3_133 (by first | assumption | exact HC_25 hl | exact HC_26 hl | exact HC_27 hl | exact (HC_ne (by first | decide | omega) (by first | decide | omega) (by first | decide | omega)).trans (by first | assumption | exact hR _ (by omega) (by omega))) (c_X1_gather (d - 1) (by omega) h hl (rwm m r) (rwm_tn hm (by omega)) g hg (5 + r.toNat) (hR r (by omega) (by omega)) (by omega) (by omega) (by omega) _ _ _ _ _ _) rfl rfl (Nat.le_of_ble_eq_true rfl) ⟨by show d - 1 + 1 ≤ d; omega, by show 40 * (d - 1 + 1) ≤ 40 * d; omega⟩ ⟨Nat.zero_le _, Nat.zero_le _⟩ ?_
          intro v u hq
          obtain ⟨rfl, K9, T9, rfl, hS9⟩ := hq
          dsimp only [Option.toList, List.map, List.nil_append]
          refine AW.go 1 (pc' := 58) rfl ?_
          refine AW.getf (pn := 61) rfl rfl flX3_30 (by first | assumption | exact HC_25 hl | exact HC_26 hl | exact HC_27 hl | exact (HC_ne (by first | decide | omega) (by first | decide | omega) (by first | decide | omega)).trans (by first | assumption | exact hR _ (by omega) (by omega))) rfl ?_
          refine AW.callVF (pn := 64) rfl rfl mlX3_137 (by first | assumption | exact HC_25 hl | exact HC_26 hl | exact HC_27 hl | exact (HC_ne (by first | decide | omega) (by first | decide | omega) (by first | decide | omega)).trans (by first | assumption | exact hR _ (by omega) (by omega))) (c_X1_countRows (d - 1) (by omega) h hl (rwm m r) g _ (gC_len _ _ _ 48) _ _ (fs0 (rwm m r) g) K9 T9 hS9 (12 / g - 1) (by rcases hg with rfl | rfl <;> decide) (by rcases hg with rfl | rfl <;> rfl)) rfl rfl (Nat.le_of_ble_eq_true rfl) ⟨by show d - 1 + 1 ≤ d; omega, by show 40 * (d - 1 + 1) ≤ 40 * d; omega⟩ ⟨Nat.zero_le _, Nat.zero_le _⟩ ?_
          rw [EN_C]
          refine AW.go 3 (pc' := 68) rfl ?_
          refine AW.bi (tgt := 74) (pn := 71) rfl (by decide) rfl (by first | exact bI_rng _ | exact ⟨by omega, by omega⟩) (by first | exact bI_rng _ | exact ⟨by omega, by omega⟩) (fun c68 => ?_) (fun c68 => ?_)
          · dsimp only [cmpI] at c68
            refine AW.go 1 (pc' := 75) rfl ?_
            refine AW.br (tgt := 84) (pn := 78) rfl (by decide) rfl (by first | exact bI_rng _ | exact ⟨by omega, by omega⟩) (fun c75 => ?_) (fun c75 => ?_)
            · dsimp only [cmpI] at c75
              refine AW.go 1 (pc' := 86) rfl ?_
              refine AW.ret rfl rfl (Nat.le_refl _) (Nat.le_refl _) ?_
              refine ⟨congrArg some ?_, ⟨_, _, _, _, _, _, rfl⟩⟩
              unfold V_making V_mk
              rw [if_pos c4, if_pos (by omega), Int.toNat_natCast, if_neg (by omega), if_neg (by omega)]
            · dsimp only [cmpI] at c75
              refine AW.go 2 (pc' := 81) rfl ?_
              refine AW.bi (tgt := 87) (pn := 84) rfl (by decide) rfl (by first | exact bI_rng _ | exact ⟨by omega, by omega⟩) (by first | exact bI_rng _ | exact ⟨by omega, by omega⟩) (fun c81 => ?_) (fun c81 => ?_)
              · dsimp only [cmpI] at c81
                refine AW.go 2 (pc' := 90) rfl ?_
                refine AW.bi (tgt := 108) (pn := 93) rfl (by decide) rfl (by first | exact bI_rng _ | exact ⟨by omega, by omega⟩) (by first | exact bI_rng _ | exact ⟨by omega, by omega⟩) (fun c90 => ?_) (fun c90 => ?_)
                · dsimp only [cmpI] at c90
                  refine AW.go 1 (pc' := 109) rfl ?_
                  refine AW.getf (pn := 112) rfl rfl flX3_30 (by first | assumption | exact HC_25 hl | exact HC_26 hl | exact HC_27 hl | exact (HC_ne (by first | decide | omega) (by first | decide | omega) (by first | decide | omega)).trans (by first | assumption | exact hR _ (by omega) (by omega))) rfl ?_
                  refine AW.go 2 (pc' := 115) rfl ?_
                  refine AW.callVF (pn := 118) rfl rfl mlX3_140 (by first | assumption | exact HC_25 hl | exact HC_26 hl | exact HC_27 hl | exact (HC_ne (by first | decide | omega) (by first | decide | omega) (by first | decide | omega)).trans (by first | assumption | exact hR _ (by omega) (by omega))) (c_X1_toneOfRow (d - 1) (by omega) h hl (rwm m r) g hg _ (gC_len _ _ _ 48) (fs0 (rwm m r) g) _ K9 T9 hS9 i p (by omega) (tv (rwm m r) g ((EN (rwm m r) g).getD i.toNat []) (p.toNat - g)) (12 / g - 1) (by rcases hg with rfl | rfl <;> decide) (by rcases hg with rfl | rfl <;> rfl) (by rcases hg with rfl | rfl <;> rfl) (by omega) (by omega) ((EN (rwm m r) g).getD i.toNat []) (by rw [EN_C]; exact EN_at (by omega) (by omega)) rfl) rfl rfl (Nat.le_of_ble_eq_true rfl) ⟨by show d - 1 + 1 ≤ d; omega, by show 40 * (d - 1 + 1) ≤ 40 * d; omega⟩ ⟨Nat.zero_le _, Nat.zero_le _⟩ ?_
                  refine AW.ret rfl rfl (Nat.le_refl _) (Nat.le_refl _) ?_
                  refine ⟨congrArg some ?_, ⟨_, _, _, _, _, _, rfl⟩⟩
                  unfold V_making V_mk
                  rw [if_pos c4, if_pos (by omega), Int.toNat_natCast, if_neg (by omega), if_pos (by omega)]
                  first | (rw [if_pos (by omega)]; done) | (rw [if_neg (by omega)]; done)
                · dsimp only [cmpI] at c90
                  refine AW.go 1 (pc' := 94) rfl ?_
                  refine AW.getf (pn := 97) rfl rfl flX3_19 (by first | assumption | exact HC_25 hl | exact HC_26 hl | exact HC_27 hl | exact (HC_ne (by first | decide | omega) (by first | decide | omega) (by first | decide | omega)).trans (by first | assumption | exact hR _ (by omega) (by omega))) rfl ?_
                  refine AW.getf (pn := 100) rfl rfl flX3_61 (by first | assumption | exact HC_25 hl | exact HC_26 hl | exact HC_27 hl | exact (HC_ne (by first | decide | omega) (by first | decide | omega) (by first | decide | omega)).trans (by first | assumption | exact hR _ (by omega) (by omega))) rfl ?_
                  refine AW.go 1 (pc' := 101) rfl ?_
                  refine AW.aald (pn := 102) rfl rfl (by first | assumption | exact HC_25 hl | exact HC_26 hl | exact HC_27 hl | exact (HC_ne (by first | decide | omega) (by first | decide | omega) (by first | decide | omega)).trans (by first | assumption | exact hR _ (by omega) (by omega))) (by decide) (by decide) (by omega) (by omega) (rw4_at (by omega)) ?_
                  refine AW.go 1 (pc' := 104) rfl ?_
                  have hw2 : (HC h ((gC (rwm m r) g (fs0 (rwm m r) g) 48).length : Int) (g : Int) (fs0 (rwm m r) g : Int) (12 / (g : Int) - 1) K9 T9)[5 + r.toNat]? = some (ai 0 12 (rwm m r)) := (HC_ne (by omega) (by omega) (by omega)).trans hw
                  refine AW.iald (pn := 105) rfl rfl (by first | assumption | exact HC_25 hl | exact HC_26 hl | exact HC_27 hl | exact (HC_ne (by first | decide | omega) (by first | decide | omega) (by first | decide | omega)).trans (by first | assumption | exact hR _ (by omega) (by omega))) (by first | decide | omega) (by omega) (by omega) ?_
                  refine AW.go 1 (pc' := 118) rfl ?_
                  refine AW.ret rfl rfl (Nat.le_refl _) (Nat.le_refl _) ?_
                  refine ⟨congrArg some ?_, ⟨_, _, _, _, _, _, rfl⟩⟩
                  unfold V_making V_mk
                  rw [if_pos c4, if_pos (by omega), Int.toNat_natCast, if_neg (by omega), if_pos (by omega)]
                  first | (rw [if_pos (by omega)]; done) | (rw [if_neg (by omega)]; done)
              · dsimp only [cmpI] at c81
                refine AW.go 1 (pc' := 86) rfl ?_
                refine AW.ret rfl rfl (Nat.le_refl _) (Nat.le_refl _) ?_
                refine ⟨congrArg some ?_, ⟨_, _, _, _, _, _, rfl⟩⟩
                unfold V_making V_mk
                rw [if_pos c4, if_pos (by omega), Int.toNat_natCast, if_neg (by omega), if_neg (by omega)]
          · dsimp only [cmpI] at c68
            refine AW.go 1 (pc' := 73) rfl ?_
            refine AW.ret rfl rfl (Nat.le_refl _) (Nat.le_refl _) ?_
            refine ⟨congrArg some ?_, ⟨_, _, _, _, _, _, rfl⟩⟩
            unfold V_making V_mk
            rw [if_pos c4, if_pos (by omega), if_pos (by omega), Int.toNat_natCast]
        · dsimp only [cmpI] at c29
          refine AW.go 1 (pc' := 34) rfl ?_
          refine AW.br (tgt := 40) (pn := 37) rfl (by decide) rfl (by first | exact bI_rng _ | exact ⟨by omega, by omega⟩) (fun c34 => ?_) (fun c34 => ?_)
          · dsimp only [cmpI] at c34
            refine AW.go 1 (pc' := 41) rfl ?_
            obtain ⟨g, rfl⟩ : ∃ g : Nat, N = (g : Int) := ⟨N.toNat, by omega⟩
            have hg : g = 3 ∨ g = 4 := by omega
            have hsm := EN_lt (rwm m r) hg
            refine AW.getf (pn := 44) rfl rfl flX3_30 (by first | assumption | exact HC_25 hl | exact HC_26 hl | exact HC_27 hl | exact (HC_ne (by first | decide | omega) (by first | decide | omega) (by first | decide | omega)).trans (by first | assumption | exact hR _ (by omega) (by omega))) rfl ?_
            refine AW.go 1 (pc' := 45) rfl ?_
            refine AW.getf (pn := 48) rfl rfl flX3_19 (by first | assumption | exact HC_25 hl | exact HC_26 hl | exact HC_27 hl | exact (HC_ne (by first | decide | omega) (by first | decide | omega) (by first | decide | omega)).trans (by first | assumption | exact hR _ (by omega) (by omega))) rfl ?_
            refine AW.getf (pn := 51) rfl rfl flX3_61 (by first | assumption | exact HC_25 hl | exact HC_26 hl | exact HC_27 hl | exact (HC_ne (by first | decide | omega) (by first | decide | omega) (by first | decide | omega)).trans (by first | assumption | exact hR _ (by omega) (by omega))) rfl ?_
            refine AW.go 1 (pc' := 52) rfl ?_
            refine AW.aald (pn := 53) rfl rfl (by first | assumption | exact HC_25 hl | exact HC_26 hl | exact HC_27 hl | exact (HC_ne (by first | decide | omega) (by first | decide | omega) (by first | decide | omega)).trans (by first | assumption | exact hR _ (by omega) (by omega))) (by decide) (by decide) (by omega) (by omega) (rw4_at (by omega)) ?_
            refine AW.go 1 (pc' := 54) rfl ?_
            have hw := hR r (by omega) (by omega)
            refine AW.callV (pn := 57) rfl rfl mlX3_133 (by first | assumption | exact HC_25 hl | exact HC_26 hl | exact HC_27 hl | exact (HC_ne (by first | decide | omega) (by first | decide | omega) (by first | decide | omega)).trans (by first | assumption | exact hR _ (by omega) (by omega))) (c_X1_gather (d - 1) (by omega) h hl (rwm m r) (rwm_tn hm (by omega)) g hg (5 + r.toNat) (hR r (by omega) (by omega)) (by omega) (by omega) (by omega) _ _ _ _ _ _) rfl rfl (Nat.le_of_ble_eq_true rfl) ⟨by show d - 1 + 1 ≤ d; omega, by show 40 * (d - 1 + 1) ≤ 40 * d; omega⟩ ⟨Nat.zero_le _, Nat.zero_le _⟩ ?_
            intro v u hq
            obtain ⟨rfl, K9, T9, rfl, hS9⟩ := hq
            dsimp only [Option.toList, List.map, List.nil_append]
            refine AW.go 1 (pc' := 58) rfl ?_
            refine AW.getf (pn := 61) rfl rfl flX3_30 (by first | assumption | exact HC_25 hl | exact HC_26 hl | exact HC_27 hl | exact (HC_ne (by first | decide | omega) (by first | decide | omega) (by first | decide | omega)).trans (by first | assumption | exact hR _ (by omega) (by omega))) rfl ?_
            refine AW.callVF (pn := 64) rfl rfl mlX3_137 (by first | assumption | exact HC_25 hl | exact HC_26 hl | exact HC_27 hl | exact (HC_ne (by first | decide | omega) (by first | decide | omega) (by first | decide | omega)).trans (by first | assumption | exact hR _ (by omega) (by omega))) (c_X1_countRows (d - 1) (by omega) h hl (rwm m r) g _ (gC_len _ _ _ 48) _ _ (fs0 (rwm m r) g) K9 T9 hS9 (12 / g - 1) (by rcases hg with rfl | rfl <;> decide) (by rcases hg with rfl | rfl <;> rfl)) rfl rfl (Nat.le_of_ble_eq_true rfl) ⟨by show d - 1 + 1 ≤ d; omega, by show 40 * (d - 1 + 1) ≤ 40 * d; omega⟩ ⟨Nat.zero_le _, Nat.zero_le _⟩ ?_
            rw [EN_C]
            refine AW.go 3 (pc' := 68) rfl ?_
            refine AW.bi (tgt := 74) (pn := 71) rfl (by decide) rfl (by first | exact bI_rng _ | exact ⟨by omega, by omega⟩) (by first | exact bI_rng _ | exact ⟨by omega, by omega⟩) (fun c68 => ?_) (fun c68 => ?_)
            · dsimp only [cmpI] at c68
              refine AW.go 1 (pc' := 75) rfl ?_
              refine AW.br (tgt := 84) (pn := 78) rfl (by decide) rfl (by first | exact bI_rng _ | exact ⟨by omega, by omega⟩) (fun c75 => ?_) (fun c75 => ?_)
              · dsimp only [cmpI] at c75
                refine AW.go 1 (pc' := 86) rfl ?_
                refine AW.ret rfl rfl (Nat.le_refl _) (Nat.le_refl _) ?_
                refine ⟨congrArg some ?_, ⟨_, _, _, _, _, _, rfl⟩⟩
                unfold V_making V_mk
                rw [if_pos c4, if_pos (by omega), Int.toNat_natCast, if_neg (by omega), if_neg (by omega)]
              · dsimp only [cmpI] at c75
                refine AW.go 2 (pc' := 81) rfl ?_
                refine AW.bi (tgt := 87) (pn := 84) rfl (by decide) rfl (by first | exact bI_rng _ | exact ⟨by omega, by omega⟩) (by first | exact bI_rng _ | exact ⟨by omega, by omega⟩) (fun c81 => ?_) (fun c81 => ?_)
                · dsimp only [cmpI] at c81
                  refine AW.go 2 (pc' := 90) rfl ?_
                  refine AW.bi (tgt := 108) (pn := 93) rfl (by decide) rfl (by first | exact bI_rng _ | exact ⟨by omega, by omega⟩) (by first | exact bI_rng _ | exact ⟨by omega, by omega⟩) (fun c90 => ?_) (fun c90 => ?_)
                  · dsimp only [cmpI] at c90
                    refine AW.go 1 (pc' := 109) rfl ?_
                    refine AW.getf (pn := 112) rfl rfl flX3_30 (by first | assumption | exact HC_25 hl | exact HC_26 hl | exact HC_27 hl | exact (HC_ne (by first | decide | omega) (by first | decide | omega) (by first | decide | omega)).trans (by first | assumption | exact hR _ (by omega) (by omega))) rfl ?_
                    refine AW.go 2 (pc' := 115) rfl ?_
                    refine AW.callVF (pn := 118) rfl rfl mlX3_140 (by first | assumption | exact HC_25 hl | exact HC_26 hl | exact HC_27 hl | exact (HC_ne (by first | decide | omega) (by first | decide | omega) (by first | decide | omega)).trans (by first | assumption | exact hR _ (by omega) (by omega))) (c_X1_toneOfRow (d - 1) (by omega) h hl (rwm m r) g hg _ (gC_len _ _ _ 48) (fs0 (rwm m r) g) _ K9 T9 hS9 i p (by omega) (tv (rwm m r) g ((EN (rwm m r) g).getD i.toNat []) (p.toNat - g)) (12 / g - 1) (by rcases hg with rfl | rfl <;> decide) (by rcases hg with rfl | rfl <;> rfl) (by rcases hg with rfl | rfl <;> rfl) (by omega) (by omega) ((EN (rwm m r) g).getD i.toNat []) (by rw [EN_C]; exact EN_at (by omega) (by omega)) rfl) rfl rfl (Nat.le_of_ble_eq_true rfl) ⟨by show d - 1 + 1 ≤ d; omega, by show 40 * (d - 1 + 1) ≤ 40 * d; omega⟩ ⟨Nat.zero_le _, Nat.zero_le _⟩ ?_
                    refine AW.ret rfl rfl (Nat.le_refl _) (Nat.le_refl _) ?_
                    refine ⟨congrArg some ?_, ⟨_, _, _, _, _, _, rfl⟩⟩
                    unfold V_making V_mk
                    rw [if_pos c4, if_pos (by omega), Int.toNat_natCast, if_neg (by omega), if_pos (by omega)]
                    first | (rw [if_pos (by omega)]; done) | (rw [if_neg (by omega)]; done)
                  · dsimp only [cmpI] at c90
                    refine AW.go 1 (pc' := 94) rfl ?_
                    refine AW.getf (pn := 97) rfl rfl flX3_19 (by first | assumption | exact HC_25 hl | exact HC_26 hl | exact HC_27 hl | exact (HC_ne (by first | decide | omega) (by first | decide | omega) (by first | decide | omega)).trans (by first | assumption | exact hR _ (by omega) (by omega))) rfl ?_
                    refine AW.getf (pn := 100) rfl rfl flX3_61 (by first | assumption | exact HC_25 hl | exact HC_26 hl | exact HC_27 hl | exact (HC_ne (by first | decide | omega) (by first | decide | omega) (by first | decide | omega)).trans (by first | assumption | exact hR _ (by omega) (by omega))) rfl ?_
                    refine AW.go 1 (pc' := 101) rfl ?_
                    refine AW.aald (pn := 102) rfl rfl (by first | assumption | exact HC_25 hl | exact HC_26 hl | exact HC_27 hl | exact (HC_ne (by first | decide | omega) (by first | decide | omega) (by first | decide | omega)).trans (by first | assumption | exact hR _ (by omega) (by omega))) (by decide) (by decide) (by omega) (by omega) (rw4_at (by omega)) ?_
                    refine AW.go 1 (pc' := 104) rfl ?_
                    have hw2 : (HC h ((gC (rwm m r) g (fs0 (rwm m r) g) 48).length : Int) (g : Int) (fs0 (rwm m r) g : Int) (12 / (g : Int) - 1) K9 T9)[5 + r.toNat]? = some (ai 0 12 (rwm m r)) := (HC_ne (by omega) (by omega) (by omega)).trans hw
                    refine AW.iald (pn := 105) rfl rfl (by first | assumption | exact HC_25 hl | exact HC_26 hl | exact HC_27 hl | exact (HC_ne (by first | decide | omega) (by first | decide | omega) (by first | decide | omega)).trans (by first | assumption | exact hR _ (by omega) (by omega))) (by first | decide | omega) (by omega) (by omega) ?_
                    refine AW.go 1 (pc' := 118) rfl ?_
                    refine AW.ret rfl rfl (Nat.le_refl _) (Nat.le_refl _) ?_
                    refine ⟨congrArg some ?_, ⟨_, _, _, _, _, _, rfl⟩⟩
                    unfold V_making V_mk
                    rw [if_pos c4, if_pos (by omega), Int.toNat_natCast, if_neg (by omega), if_pos (by omega)]
                    first | (rw [if_pos (by omega)]; done) | (rw [if_neg (by omega)]; done)
                · dsimp only [cmpI] at c81
                  refine AW.go 1 (pc' := 86) rfl ?_
                  refine AW.ret rfl rfl (Nat.le_refl _) (Nat.le_refl _) ?_
                  refine ⟨congrArg some ?_, ⟨_, _, _, _, _, _, rfl⟩⟩
                  unfold V_making V_mk
                  rw [if_pos c4, if_pos (by omega), Int.toNat_natCast, if_neg (by omega), if_neg (by omega)]
            · dsimp only [cmpI] at c68
              refine AW.go 1 (pc' := 73) rfl ?_
              refine AW.ret rfl rfl (Nat.le_refl _) (Nat.le_refl _) ?_
              refine ⟨congrArg some ?_, ⟨_, _, _, _, _, _, rfl⟩⟩
              unfold V_making V_mk
              rw [if_pos c4, if_pos (by omega), if_pos (by omega), Int.toNat_natCast]
          · dsimp only [cmpI] at c34
            refine AW.go 1 (pc' := 39) rfl ?_
            refine AW.ret rfl rfl (Nat.le_refl _) (Nat.le_refl _) ?_
            refine ⟨congrArg some ?_, ⟨_, _, _, _, _, _, rfl⟩⟩
            unfold V_making
            rw [if_pos c4, if_neg (by omega)]
    · dsimp only [cmpI] at c11
      refine AW.go 2 (pc' := 16) rfl ?_
      refine AW.bi (tgt := 37) (pn := 19) rfl (by decide) rfl (by first | exact bI_rng _ | exact ⟨by omega, by omega⟩) (by first | exact bI_rng _ | exact ⟨by omega, by omega⟩) (fun c16 => ?_) (fun c16 => ?_)
      · dsimp only [cmpI] at c16
        refine AW.go 1 (pc' := 39) rfl ?_
        refine AW.ret rfl rfl (Nat.le_refl _) (Nat.le_refl _) ?_
        refine ⟨congrArg some ?_, ⟨_, _, _, _, _, _, rfl⟩⟩
        unfold V_making
        rw [if_pos c4, if_neg (by omega)]
      · dsimp only [cmpI] at c16
        refine AW.go 1 (pc' := 21) rfl ?_
        refine AW.callSF (pn := 24) rfl rfl mlX3_79 (c_X3_isPlace (d - 1) (by omega) _ _ (by omega)) rfl rfl (Nat.le_of_ble_eq_true rfl) ⟨by show d - 1 + 1 ≤ d; omega, by show 40 * (d - 1 + 1) ≤ 40 * d; omega⟩ ⟨Nat.zero_le _, Nat.zero_le _⟩ ?_
        refine AW.bz (tgt := 37) (pn := 27) rfl (by decide) rfl (fun c24 => ?_) (fun c24 => ?_)
        · refine AW.go 1 (pc' := 39) rfl ?_
          refine AW.ret rfl rfl (Nat.le_refl _) (Nat.le_refl _) ?_
          refine ⟨congrArg some ?_, ⟨_, _, _, _, _, _, rfl⟩⟩
          unfold V_making
          rw [if_pos c4, if_neg (by omega)]
        · refine AW.go 2 (pc' := 29) rfl ?_
          refine AW.bi (tgt := 40) (pn := 32) rfl (by decide) rfl (by first | exact bI_rng _ | exact ⟨by omega, by omega⟩) (by first | exact bI_rng _ | exact ⟨by omega, by omega⟩) (fun c29 => ?_) (fun c29 => ?_)
          · dsimp only [cmpI] at c29
            refine AW.go 1 (pc' := 41) rfl ?_
            obtain ⟨g, rfl⟩ : ∃ g : Nat, N = (g : Int) := ⟨N.toNat, by omega⟩
            have hg : g = 3 ∨ g = 4 := by omega
            have hsm := EN_lt (rwm m r) hg
            refine AW.getf (pn := 44) rfl rfl flX3_30 (by first | assumption | exact HC_25 hl | exact HC_26 hl | exact HC_27 hl | exact (HC_ne (by first | decide | omega) (by first | decide | omega) (by first | decide | omega)).trans (by first | assumption | exact hR _ (by omega) (by omega))) rfl ?_
            refine AW.go 1 (pc' := 45) rfl ?_
            refine AW.getf (pn := 48) rfl rfl flX3_19 (by first | assumption | exact HC_25 hl | exact HC_26 hl | exact HC_27 hl | exact (HC_ne (by first | decide | omega) (by first | decide | omega) (by first | decide | omega)).trans (by first | assumption | exact hR _ (by omega) (by omega))) rfl ?_
            refine AW.getf (pn := 51) rfl rfl flX3_61 (by first | assumption | exact HC_25 hl | exact HC_26 hl | exact HC_27 hl | exact (HC_ne (by first | decide | omega) (by first | decide | omega) (by first | decide | omega)).trans (by first | assumption | exact hR _ (by omega) (by omega))) rfl ?_
            refine AW.go 1 (pc' := 52) rfl ?_
            refine AW.aald (pn := 53) rfl rfl (by first | assumption | exact HC_25 hl | exact HC_26 hl | exact HC_27 hl | exact (HC_ne (by first | decide | omega) (by first | decide | omega) (by first | decide | omega)).trans (by first | assumption | exact hR _ (by omega) (by omega))) (by decide) (by decide) (by omega) (by omega) (rw4_at (by omega)) ?_
            refine AW.go 1 (pc' := 54) rfl ?_
            have hw := hR r (by omega) (by omega)
            refine AW.callV (pn := 57) rfl rfl mlX3_133 (by first | assumption | exact HC_25 hl | exact HC_26 hl | exact HC_27 hl | exact (HC_ne (by first | decide | omega) (by first | decide | omega) (by first | decide | omega)).trans (by first | assumption | exact hR _ (by omega) (by omega))) (c_X1_gather (d - 1) (by omega) h hl (rwm m r) (rwm_tn hm (by omega)) g hg (5 + r.toNat) (hR r (by omega) (by omega)) (by omega) (by omega) (by omega) _ _ _ _ _ _) rfl rfl (Nat.le_of_ble_eq_true rfl) ⟨by show d - 1 + 1 ≤ d; omega, by show 40 * (d - 1 + 1) ≤ 40 * d; omega⟩ ⟨Nat.zero_le _, Nat.zero_le _⟩ ?_
            intro v u hq
            obtain ⟨rfl, K9, T9, rfl, hS9⟩ := hq
            dsimp only [Option.toList, List.map, List.nil_append]
            refine AW.go 1 (pc' := 58) rfl ?_
            refine AW.getf (pn := 61) rfl rfl flX3_30 (by first | assumption | exact HC_25 hl | exact HC_26 hl | exact HC_27 hl | exact (HC_ne (by first | decide | omega) (by first | decide | omega) (by first | decide | omega)).trans (by first | assumption | exact hR _ (by omega) (by omega))) rfl ?_
            refine AW.callVF (pn := 64) rfl rfl mlX3_137 (by first | assumption | exact HC_25 hl | exact HC_26 hl | exact HC_27 hl | exact (HC_ne (by first | decide | omega) (by first | decide | omega) (by first | decide | omega)).trans (by first | assumption | exact hR _ (by omega) (by omega))) (c_X1_countRows (d - 1) (by omega) h hl (rwm m r) g _ (gC_len _ _ _ 48) _ _ (fs0 (rwm m r) g) K9 T9 hS9 (12 / g - 1) (by rcases hg with rfl | rfl <;> decide) (by rcases hg with rfl | rfl <;> rfl)) rfl rfl (Nat.le_of_ble_eq_true rfl) ⟨by show d - 1 + 1 ≤ d; omega, by show 40 * (d - 1 + 1) ≤ 40 * d; omega⟩ ⟨Nat.zero_le _, Nat.zero_le _⟩ ?_
            rw [EN_C]
            refine AW.go 3 (pc' := 68) rfl ?_
            refine AW.bi (tgt := 74) (pn := 71) rfl (by decide) rfl (by first | exact bI_rng _ | exact ⟨by omega, by omega⟩) (by first | exact bI_rng _ | exact ⟨by omega, by omega⟩) (fun c68 => ?_) (fun c68 => ?_)
            · dsimp only [cmpI] at c68
              refine AW.go 1 (pc' := 75) rfl ?_
              refine AW.br (tgt := 84) (pn := 78) rfl (by decide) rfl (by first | exact bI_rng _ | exact ⟨by omega, by omega⟩) (fun c75 => ?_) (fun c75 => ?_)
              · dsimp only [cmpI] at c75
                refine AW.go 1 (pc' := 86) rfl ?_
                refine AW.ret rfl rfl (Nat.le_refl _) (Nat.le_refl _) ?_
                refine ⟨congrArg some ?_, ⟨_, _, _, _, _, _, rfl⟩⟩
                unfold V_making V_mk
                rw [if_pos c4, if_pos (by omega), Int.toNat_natCast, if_neg (by omega), if_neg (by omega)]
              · dsimp only [cmpI] at c75
                refine AW.go 2 (pc' := 81) rfl ?_
                refine AW.bi (tgt := 87) (pn := 84) rfl (by decide) rfl (by first | exact bI_rng _ | exact ⟨by omega, by omega⟩) (by first | exact bI_rng _ | exact ⟨by omega, by omega⟩) (fun c81 => ?_) (fun c81 => ?_)
                · dsimp only [cmpI] at c81
                  refine AW.go 2 (pc' := 90) rfl ?_
                  refine AW.bi (tgt := 108) (pn := 93) rfl (by decide) rfl (by first | exact bI_rng _ | exact ⟨by omega, by omega⟩) (by first | exact bI_rng _ | exact ⟨by omega, by omega⟩) (fun c90 => ?_) (fun c90 => ?_)
                  · dsimp only [cmpI] at c90
                    refine AW.go 1 (pc' := 109) rfl ?_
                    refine AW.getf (pn := 112) rfl rfl flX3_30 (by first | assumption | exact HC_25 hl | exact HC_26 hl | exact HC_27 hl | exact (HC_ne (by first | decide | omega) (by first | decide | omega) (by first | decide | omega)).trans (by first | assumption | exact hR _ (by omega) (by omega))) rfl ?_
                    refine AW.go 2 (pc' := 115) rfl ?_
                    refine AW.callVF (pn := 118) rfl rfl mlX3_140 (by first | assumption | exact HC_25 hl | exact HC_26 hl | exact HC_27 hl | exact (HC_ne (by first | decide | omega) (by first | decide | omega) (by first | decide | omega)).trans (by first | assumption | exact hR _ (by omega) (by omega))) (c_X1_toneOfRow (d - 1) (by omega) h hl (rwm m r) g hg _ (gC_len _ _ _ 48) (fs0 (rwm m r) g) _ K9 T9 hS9 i p (by omega) (tv (rwm m r) g ((EN (rwm m r) g).getD i.toNat []) (p.toNat - g)) (12 / g - 1) (by rcases hg with rfl | rfl <;> decide) (by rcases hg with rfl | rfl <;> rfl) (by rcases hg with rfl | rfl <;> rfl) (by omega) (by omega) ((EN (rwm m r) g).getD i.toNat []) (by rw [EN_C]; exact EN_at (by omega) (by omega)) rfl) rfl rfl (Nat.le_of_ble_eq_true rfl) ⟨by show d - 1 + 1 ≤ d; omega, by show 40 * (d - 1 + 1) ≤ 40 * d; omega⟩ ⟨Nat.zero_le _, Nat.zero_le _⟩ ?_
                    refine AW.ret rfl rfl (Nat.le_refl _) (Nat.le_refl _) ?_
                    refine ⟨congrArg some ?_, ⟨_, _, _, _, _, _, rfl⟩⟩
                    unfold V_making V_mk
                    rw [if_pos c4, if_pos (by omega), Int.toNat_natCast, if_neg (by omega), if_pos (by omega)]
                    first | (rw [if_pos (by omega)]; done) | (rw [if_neg (by omega)]; done)
                  · dsimp only [cmpI] at c90
                    refine AW.go 1 (pc' := 94) rfl ?_
                    refine AW.getf (pn := 97) rfl rfl flX3_19 (by first | assumption | exact HC_25 hl | exact HC_26 hl | exact HC_27 hl | exact (HC_ne (by first | decide | omega) (by first | decide | omega) (by first | decide | omega)).trans (by first | assumption | exact hR _ (by omega) (by omega))) rfl ?_
                    refine AW.getf (pn := 100) rfl rfl flX3_61 (by first | assumption | exact HC_25 hl | exact HC_26 hl | exact HC_27 hl | exact (HC_ne (by first | decide | omega) (by first | decide | omega) (by first | decide | omega)).trans (by first | assumption | exact hR _ (by omega) (by omega))) rfl ?_
                    refine AW.go 1 (pc' := 101) rfl ?_
                    refine AW.aald (pn := 102) rfl rfl (by first | assumption | exact HC_25 hl | exact HC_26 hl | exact HC_27 hl | exact (HC_ne (by first | decide | omega) (by first | decide | omega) (by first | decide | omega)).trans (by first | assumption | exact hR _ (by omega) (by omega))) (by decide) (by decide) (by omega) (by omega) (rw4_at (by omega)) ?_
                    refine AW.go 1 (pc' := 104) rfl ?_
                    have hw2 : (HC h ((gC (rwm m r) g (fs0 (rwm m r) g) 48).length : Int) (g : Int) (fs0 (rwm m r) g : Int) (12 / (g : Int) - 1) K9 T9)[5 + r.toNat]? = some (ai 0 12 (rwm m r)) := (HC_ne (by omega) (by omega) (by omega)).trans hw
                    refine AW.iald (pn := 105) rfl rfl (by first | assumption | exact HC_25 hl | exact HC_26 hl | exact HC_27 hl | exact (HC_ne (by first | decide | omega) (by first | decide | omega) (by first | decide | omega)).trans (by first | assumption | exact hR _ (by omega) (by omega))) (by first | decide | omega) (by omega) (by omega) ?_
                    refine AW.go 1 (pc' := 118) rfl ?_
                    refine AW.ret rfl rfl (Nat.le_refl _) (Nat.le_refl _) ?_
                    refine ⟨congrArg some ?_, ⟨_, _, _, _, _, _, rfl⟩⟩
                    unfold V_making V_mk
                    rw [if_pos c4, if_pos (by omega), Int.toNat_natCast, if_neg (by omega), if_pos (by omega)]
                    first | (rw [if_pos (by omega)]; done) | (rw [if_neg (by omega)]; done)
                · dsimp only [cmpI] at c81
                  refine AW.go 1 (pc' := 86) rfl ?_
                  refine AW.ret rfl rfl (Nat.le_refl _) (Nat.le_refl _) ?_
                  refine ⟨congrArg some ?_, ⟨_, _, _, _, _, _, rfl⟩⟩
                  unfold V_making V_mk
                  rw [if_pos c4, if_pos (by omega), Int.toNat_natCast, if_neg (by omega), if_neg (by omega)]
            · dsimp only [cmpI] at c68
              refine AW.go 1 (pc' := 73) rfl ?_
              refine AW.ret rfl rfl (Nat.le_refl _) (Nat.le_refl _) ?_
              refine ⟨congrArg some ?_, ⟨_, _, _, _, _, _, rfl⟩⟩
              unfold V_making V_mk
              rw [if_pos c4, if_pos (by omega), if_pos (by omega), Int.toNat_natCast]
          · dsimp only [cmpI] at c29
            refine AW.go 1 (pc' := 34) rfl ?_
            refine AW.br (tgt := 40) (pn := 37) rfl (by decide) rfl (by first | exact bI_rng _ | exact ⟨by omega, by omega⟩) (fun c34 => ?_) (fun c34 => ?_)
            · dsimp only [cmpI] at c34
              refine AW.go 1 (pc' := 41) rfl ?_
              obtain ⟨g, rfl⟩ : ∃ g : Nat, N = (g : Int) := ⟨N.toNat, by omega⟩
              have hg : g = 3 ∨ g = 4 := by omega
              have hsm := EN_lt (rwm m r) hg
              refine AW.getf (pn := 44) rfl rfl flX3_30 (by first | assumption | exact HC_25 hl | exact HC_26 hl | exact HC_27 hl | exact (HC_ne (by first | decide | omega) (by first | decide | omega) (by first | decide | omega)).trans (by first | assumption | exact hR _ (by omega) (by omega))) rfl ?_
              refine AW.go 1 (pc' := 45) rfl ?_
              refine AW.getf (pn := 48) rfl rfl flX3_19 (by first | assumption | exact HC_25 hl | exact HC_26 hl | exact HC_27 hl | exact (HC_ne (by first | decide | omega) (by first | decide | omega) (by first | decide | omega)).trans (by first | assumption | exact hR _ (by omega) (by omega))) rfl ?_
              refine AW.getf (pn := 51) rfl rfl flX3_61 (by first | assumption | exact HC_25 hl | exact HC_26 hl | exact HC_27 hl | exact (HC_ne (by first | decide | omega) (by first | decide | omega) (by first | decide | omega)).trans (by first | assumption | exact hR _ (by omega) (by omega))) rfl ?_
              refine AW.go 1 (pc' := 52) rfl ?_
              refine AW.aald (pn := 53) rfl rfl (by first | assumption | exact HC_25 hl | exact HC_26 hl | exact HC_27 hl | exact (HC_ne (by first | decide | omega) (by first | decide | omega) (by first | decide | omega)).trans (by first | assumption | exact hR _ (by omega) (by omega))) (by decide) (by decide) (by omega) (by omega) (rw4_at (by omega)) ?_
              refine AW.go 1 (pc' := 54) rfl ?_
              have hw := hR r (by omega) (by omega)
              refine AW.callV (pn := 57) rfl rfl mlX3_133 (by first | assumption | exact HC_25 hl | exact HC_26 hl | exact HC_27 hl | exact (HC_ne (by first | decide | omega) (by first | decide | omega) (by first | decide | omega)).trans (by first | assumption | exact hR _ (by omega) (by omega))) (c_X1_gather (d - 1) (by omega) h hl (rwm m r) (rwm_tn hm (by omega)) g hg (5 + r.toNat) (hR r (by omega) (by omega)) (by omega) (by omega) (by omega) _ _ _ _ _ _) rfl rfl (Nat.le_of_ble_eq_true rfl) ⟨by show d - 1 + 1 ≤ d; omega, by show 40 * (d - 1 + 1) ≤ 40 * d; omega⟩ ⟨Nat.zero_le _, Nat.zero_le _⟩ ?_
              intro v u hq
              obtain ⟨rfl, K9, T9, rfl, hS9⟩ := hq
              dsimp only [Option.toList, List.map, List.nil_append]
              refine AW.go 1 (pc' := 58) rfl ?_
              refine AW.getf (pn := 61) rfl rfl flX3_30 (by first | assumption | exact HC_25 hl | exact HC_26 hl | exact HC_27 hl | exact (HC_ne (by first | decide | omega) (by first | decide | omega) (by first | decide | omega)).trans (by first | assumption | exact hR _ (by omega) (by omega))) rfl ?_
              refine AW.callVF (pn := 64) rfl rfl mlX3_137 (by first | assumption | exact HC_25 hl | exact HC_26 hl | exact HC_27 hl | exact (HC_ne (by first | decide | omega) (by first | decide | omega) (by first | decide | omega)).trans (by first | assumption | exact hR _ (by omega) (by omega))) (c_X1_countRows (d - 1) (by omega) h hl (rwm m r) g _ (gC_len _ _ _ 48) _ _ (fs0 (rwm m r) g) K9 T9 hS9 (12 / g - 1) (by rcases hg with rfl | rfl <;> decide) (by rcases hg with rfl | rfl <;> rfl)) rfl rfl (Nat.le_of_ble_eq_true rfl) ⟨by show d - 1 + 1 ≤ d; omega, by show 40 * (d - 1 + 1) ≤ 40 * d; omega⟩ ⟨Nat.zero_le _, Nat.zero_le _⟩ ?_
              rw [EN_C]
              refine AW.go 3 (pc' := 68) rfl ?_
              refine AW.bi (tgt := 74) (pn := 71) rfl (by decide) rfl (by first | exact bI_rng _ | exact ⟨by omega, by omega⟩) (by first | exact bI_rng _ | exact ⟨by omega, by omega⟩) (fun c68 => ?_) (fun c68 => ?_)
              · dsimp only [cmpI] at c68
                refine AW.go 1 (pc' := 75) rfl ?_
                refine AW.br (tgt := 84) (pn := 78) rfl (by decide) rfl (by first | exact bI_rng _ | exact ⟨by omega, by omega⟩) (fun c75 => ?_) (fun c75 => ?_)
                · dsimp only [cmpI] at c75
                  refine AW.go 1 (pc' := 86) rfl ?_
                  refine AW.ret rfl rfl (Nat.le_refl _) (Nat.le_refl _) ?_
                  refine ⟨congrArg some ?_, ⟨_, _, _, _, _, _, rfl⟩⟩
                  unfold V_making V_mk
                  rw [if_pos c4, if_pos (by omega), Int.toNat_natCast, if_neg (by omega), if_neg (by omega)]
                · dsimp only [cmpI] at c75
                  refine AW.go 2 (pc' := 81) rfl ?_
                  refine AW.bi (tgt := 87) (pn := 84) rfl (by decide) rfl (by first | exact bI_rng _ | exact ⟨by omega, by omega⟩) (by first | exact bI_rng _ | exact ⟨by omega, by omega⟩) (fun c81 => ?_) (fun c81 => ?_)
                  · dsimp only [cmpI] at c81
                    refine AW.go 2 (pc' := 90) rfl ?_
                    refine AW.bi (tgt := 108) (pn := 93) rfl (by decide) rfl (by first | exact bI_rng _ | exact ⟨by omega, by omega⟩) (by first | exact bI_rng _ | exact ⟨by omega, by omega⟩) (fun c90 => ?_) (fun c90 => ?_)
                    · dsimp only [cmpI] at c90
                      refine AW.go 1 (pc' := 109) rfl ?_
                      refine AW.getf (pn := 112) rfl rfl flX3_30 (by first | assumption | exact HC_25 hl | exact HC_26 hl | exact HC_27 hl | exact (HC_ne (by first | decide | omega) (by first | decide | omega) (by first | decide | omega)).trans (by first | assumption | exact hR _ (by omega) (by omega))) rfl ?_
                      refine AW.go 2 (pc' := 115) rfl ?_
                      refine AW.callVF (pn := 118) rfl rfl mlX3_140 (by first | assumption | exact HC_25 hl | exact HC_26 hl | exact HC_27 hl | exact (HC_ne (by first | decide | omega) (by first | decide | omega) (by first | decide | omega)).trans (by first | assumption | exact hR _ (by omega) (by omega))) (c_X1_toneOfRow (d - 1) (by omega) h hl (rwm m r) g hg _ (gC_len _ _ _ 48) (fs0 (rwm m r) g) _ K9 T9 hS9 i p (by omega) (tv (rwm m r) g ((EN (rwm m r) g).getD i.toNat []) (p.toNat - g)) (12 / g - 1) (by rcases hg with rfl | rfl <;> decide) (by rcases hg with rfl | rfl <;> rfl) (by rcases hg with rfl | rfl <;> rfl) (by omega) (by omega) ((EN (rwm m r) g).getD i.toNat []) (by rw [EN_C]; exact EN_at (by omega) (by omega)) rfl) rfl rfl (Nat.le_of_ble_eq_true rfl) ⟨by show d - 1 + 1 ≤ d; omega, by show 40 * (d - 1 + 1) ≤ 40 * d; omega⟩ ⟨Nat.zero_le _, Nat.zero_le _⟩ ?_
                      refine AW.ret rfl rfl (Nat.le_refl _) (Nat.le_refl _) ?_
                      refine ⟨congrArg some ?_, ⟨_, _, _, _, _, _, rfl⟩⟩
                      unfold V_making V_mk
                      rw [if_pos c4, if_pos (by omega), Int.toNat_natCast, if_neg (by omega), if_pos (by omega)]
                      first | (rw [if_pos (by omega)]; done) | (rw [if_neg (by omega)]; done)
                    · dsimp only [cmpI] at c90
                      refine AW.go 1 (pc' := 94) rfl ?_
                      refine AW.getf (pn := 97) rfl rfl flX3_19 (by first | assumption | exact HC_25 hl | exact HC_26 hl | exact HC_27 hl | exact (HC_ne (by first | decide | omega) (by first | decide | omega) (by first | decide | omega)).trans (by first | assumption | exact hR _ (by omega) (by omega))) rfl ?_
                      refine AW.getf (pn := 100) rfl rfl flX3_61 (by first | assumption | exact HC_25 hl | exact HC_26 hl | exact HC_27 hl | exact (HC_ne (by first | decide | omega) (by first | decide | omega) (by first | decide | omega)).trans (by first | assumption | exact hR _ (by omega) (by omega))) rfl ?_
                      refine AW.go 1 (pc' := 101) rfl ?_
                      refine AW.aald (pn := 102) rfl rfl (by first | assumption | exact HC_25 hl | exact HC_26 hl | exact HC_27 hl | exact (HC_ne (by first | decide | omega) (by first | decide | omega) (by first | decide | omega)).trans (by first | assumption | exact hR _ (by omega) (by omega))) (by decide) (by decide) (by omega) (by omega) (rw4_at (by omega)) ?_
                      refine AW.go 1 (pc' := 104) rfl ?_
                      have hw2 : (HC h ((gC (rwm m r) g (fs0 (rwm m r) g) 48).length : Int) (g : Int) (fs0 (rwm m r) g : Int) (12 / (g : Int) - 1) K9 T9)[5 + r.toNat]? = some (ai 0 12 (rwm m r)) := (HC_ne (by omega) (by omega) (by omega)).trans hw
                      refine AW.iald (pn := 105) rfl rfl (by first | assumption | exact HC_25 hl | exact HC_26 hl | exact HC_27 hl | exact (HC_ne (by first | decide | omega) (by first | decide | omega) (by first | decide | omega)).trans (by first | assumption | exact hR _ (by omega) (by omega))) (by first | decide | omega) (by omega) (by omega) ?_
                      refine AW.go 1 (pc' := 118) rfl ?_
                      refine AW.ret rfl rfl (Nat.le_refl _) (Nat.le_refl _) ?_
                      refine ⟨congrArg some ?_, ⟨_, _, _, _, _, _, rfl⟩⟩
                      unfold V_making V_mk
                      rw [if_pos c4, if_pos (by omega), Int.toNat_natCast, if_neg (by omega), if_pos (by omega)]
                      first | (rw [if_pos (by omega)]; done) | (rw [if_neg (by omega)]; done)
                  · dsimp only [cmpI] at c81
                    refine AW.go 1 (pc' := 86) rfl ?_
                    refine AW.ret rfl rfl (Nat.le_refl _) (Nat.le_refl _) ?_
                    refine ⟨congrArg some ?_, ⟨_, _, _, _, _, _, rfl⟩⟩
                    unfold V_making V_mk
                    rw [if_pos c4, if_pos (by omega), Int.toNat_natCast, if_neg (by omega), if_neg (by omega)]
              · dsimp only [cmpI] at c68
                refine AW.go 1 (pc' := 73) rfl ?_
                refine AW.ret rfl rfl (Nat.le_refl _) (Nat.le_refl _) ?_
                refine ⟨congrArg some ?_, ⟨_, _, _, _, _, _, rfl⟩⟩
                unfold V_making V_mk
                rw [if_pos c4, if_pos (by omega), if_pos (by omega), Int.toNat_natCast]
            · dsimp only [cmpI] at c34
              refine AW.go 1 (pc' := 39) rfl ?_
              refine AW.ret rfl rfl (Nat.le_refl _) (Nat.le_refl _) ?_
              refine ⟨congrArg some ?_, ⟨_, _, _, _, _, _, rfl⟩⟩
              unfold V_making
              rw [if_pos c4, if_neg (by omega)]
  · refine AW.go 1 (pc' := 8) rfl ?_
    refine AW.ret rfl rfl (Nat.le_refl _) (Nat.le_refl _) ?_
    refine ⟨congrArg some ?_, ⟨_, _, _, _, _, _, rfl⟩⟩
    unfold V_making
    rw [if_neg c4]
