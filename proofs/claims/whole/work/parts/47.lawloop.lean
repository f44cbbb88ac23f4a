theorem and31 (x : Int32) : 0 ≤ (iI x.toInt &&& iI 31).toInt ∧ (iI x.toInt &&& iI 31).toInt < 32 := by
  rw [iI_of]
  have h1 : (x &&& iI 31).toBitVec.toNat ≤ 31 := by
    rw [Int32.toBitVec_and, BitVec.toNat_and]
    exact Nat.le_trans Nat.and_le_right (by decide +kernel)
  have h2 : (x &&& iI 31).toInt = ((x &&& iI 31).toBitVec.toNat : Int) := by
    show (x &&& iI 31).toBitVec.toInt = _
    rw [BitVec.toInt_eq_toNat_of_lt (by omega)]
  omega
theorem INV.w {h : List AC} {m pat sg : Nat → Int} {cnt : Int} {kf : Nat → Int} {fI : Nat → Nat → Nat → Int} {pI : Nat → Nat → Int} {q ik : Nat → Int} (I : INV h m pat sg cnt kf fI pI q ik) : INVw h :=
  ⟨rwm m, pat, m, pat, sg, cnt, kf, fI, pI, q, ik, I.1, I.2.1, I.2.2.1, I.2.2.2.1, I.2.2.2.2, fun _ _ _ _ _ => rfl, fun _ _ => rfl⟩
set_option maxHeartbeats 4000000 in
theorem law_loop {b0 L0 : Nat} {xs : Nat → Int32} {nm : String} (hL : L0 ≤ 2560) : ∀ (n : Nat) (i : Int) (h : List AC), 0 ≤ i → i ≤ (L0 : Int) + 5 → ((L0 : Int) + 5 - i).toNat < n → INVw h → LW b0 L0 xs (zK nm yl_h) room_1 600000 7302250 39 671 18 (lsK i) [] h QL := by
  intro n
  induction n with
  | zero =>
    intro i h h0 h1 hn
    exact absurd hn (Nat.not_lt_zero _)
  | succ n ih =>
    intro i h h0 h1 hn iw
    obtain ⟨h', m, pat, sg, cnt, kf, fI, pI, q, ik, hs, I⟩ := iw.canon
    refine LW.canon hs ?_
    refine LW.go 2 (pc' := 20) rfl ?_
    refine LW.slen (pn := 21) rfl rfl hL ?_
    refine LW.go 2 (pc' := 23) rfl ?_
    refine LW.bi (tgt := 825) (pn := 26) rfl (by decide) rfl ⟨by omega, by omega⟩ ⟨by omega, by omega⟩ (fun c => ?_) (fun c => ?_)
    · refine LW.go 1 (pc' := 826) rfl ?_
      exact LW.retz rfl (Nat.le_of_ble_eq_true rfl) (Nat.le_of_ble_eq_true rfl) rfl
    · dsimp only [cmpI] at c
      have next : ∀ u : List AC, INVw u → LW b0 L0 xs (zK nm yl_h) room_1 600000 7302250 39 671 819 (lsK i) [] u QL := fun u iu => by
        refine LW.go 2 (pc' := 18) rfl ?_
        refine LW.lw ?_ (ih (i + 5) u (by omega) (by omega) (by omega) iu)
        exact (And.intro rfl (And.intro rfl (And.intro rfl (And.intro rfl trivial))))
      refine LW.go 2 (pc' := 28) rfl ?_
      refine LW.sld (pn := 29) rfl rfl hL (by omega) (by omega) ?_
      refine LW.go 1 (pc' := 31) rfl ?_
      refine LW.iandG (pn := 32) rfl rfl ?_
      have hw := and31 (xs i.toNat)
      generalize (iI (xs i.toNat).toInt &&& iI 31).toInt = w at hw ⊢
      rcases (show w = 0 ∨ w = 1 ∨ w = 2 ∨ w = 3 ∨ w = 4 ∨ w = 5 ∨ w = 6 ∨ w = 7 ∨ w = 8 ∨ w = 9 ∨ w = 10 ∨ w = 11 ∨ w = 12 ∨ w = 13 ∨ w = 14 ∨ w = 15 ∨ w = 16 ∨ w = 17 ∨ w = 18 ∨ w = 19 ∨ w = 20 ∨ w = 21 ∨ w = 22 ∨ 22 < w by omega) with rfl | rfl | rfl | rfl | rfl | rfl | rfl | rfl | rfl | rfl | rfl | rfl | rfl | rfl | rfl | rfl | rfl | rfl | rfl | rfl | rfl | rfl | rfl | hbig
      · refine LW.tin (tgt := 140) rfl (by exact ⟨by decide, by decide⟩) (by decide) (by decide) rfl (by decide) ?_
        exact case_0 I i h0 (by omega) hL next
      · refine LW.tin (tgt := 163) rfl (by exact ⟨by decide, by decide⟩) (by decide) (by decide) rfl (by decide) ?_
        exact case_1 I i h0 (by omega) hL next
      · refine LW.tin (tgt := 176) rfl (by exact ⟨by decide, by decide⟩) (by decide) (by decide) rfl (by decide) ?_
        exact case_2 I i h0 (by omega) hL next
      · refine LW.tin (tgt := 199) rfl (by exact ⟨by decide, by decide⟩) (by decide) (by decide) rfl (by decide) ?_
        exact case_3 I i h0 (by omega) hL next
      · refine LW.tin (tgt := 222) rfl (by exact ⟨by decide, by decide⟩) (by decide) (by decide) rfl (by decide) ?_
        exact case_4 I i h0 (by omega) hL next
      · refine LW.tin (tgt := 235) rfl (by exact ⟨by decide, by decide⟩) (by decide) (by decide) rfl (by decide) ?_
        exact case_5 I i h0 (by omega) hL next
      · refine LW.tin (tgt := 248) rfl (by exact ⟨by decide, by decide⟩) (by decide) (by decide) rfl (by decide) ?_
        exact case_6 I i h0 (by omega) hL next
      · refine LW.tin (tgt := 281) rfl (by exact ⟨by decide, by decide⟩) (by decide) (by decide) rfl (by decide) ?_
        exact case_7 I i h0 (by omega) hL next
      · refine LW.tin (tgt := 324) rfl (by exact ⟨by decide, by decide⟩) (by decide) (by decide) rfl (by decide) ?_
        exact case_8 I i h0 (by omega) hL next
      · refine LW.tin (tgt := 357) rfl (by exact ⟨by decide, by decide⟩) (by decide) (by decide) rfl (by decide) ?_
        exact case_9 I i h0 (by omega) hL next
      · refine LW.tin (tgt := 380) rfl (by exact ⟨by decide, by decide⟩) (by decide) (by decide) rfl (by decide) ?_
        exact case_10 I i h0 (by omega) hL next
      · refine LW.tin (tgt := 413) rfl (by exact ⟨by decide, by decide⟩) (by decide) (by decide) rfl (by decide) ?_
        exact case_11 I i h0 (by omega) hL next
      · refine LW.tin (tgt := 456) rfl (by exact ⟨by decide, by decide⟩) (by decide) (by decide) rfl (by decide) ?_
        exact case_12 I i h0 (by omega) hL next
      · refine LW.tin (tgt := 489) rfl (by exact ⟨by decide, by decide⟩) (by decide) (by decide) rfl (by decide) ?_
        exact case_13 I i h0 (by omega) hL next
      · refine LW.tin (tgt := 532) rfl (by exact ⟨by decide, by decide⟩) (by decide) (by decide) rfl (by decide) ?_
        exact case_14 I i h0 (by omega) hL next
      · refine LW.tin (tgt := 565) rfl (by exact ⟨by decide, by decide⟩) (by decide) (by decide) rfl (by decide) ?_
        exact case_15 I i h0 (by omega) hL next
      · refine LW.tin (tgt := 598) rfl (by exact ⟨by decide, by decide⟩) (by decide) (by decide) rfl (by decide) ?_
        exact case_16 I i h0 (by omega) hL next
      · refine LW.tin (tgt := 651) rfl (by exact ⟨by decide, by decide⟩) (by decide) (by decide) rfl (by decide) ?_
        exact case_17 I i h0 (by omega) hL next
      · refine LW.tin (tgt := 674) rfl (by exact ⟨by decide, by decide⟩) (by decide) (by decide) rfl (by decide) ?_
        exact case_18 I i h0 (by omega) hL next
      · refine LW.tin (tgt := 707) rfl (by exact ⟨by decide, by decide⟩) (by decide) (by decide) rfl (by decide) ?_
        exact case_19 I i h0 (by omega) hL next
      · refine LW.tin (tgt := 750) rfl (by exact ⟨by decide, by decide⟩) (by decide) (by decide) rfl (by decide) ?_
        exact case_20 I i h0 (by omega) hL next
      · refine LW.tin (tgt := 773) rfl (by exact ⟨by decide, by decide⟩) (by decide) (by decide) rfl (by decide) ?_
        exact case_21 I i h0 (by omega) hL next
      · refine LW.tin (tgt := 796) rfl (by exact ⟨by decide, by decide⟩) (by decide) (by decide) rfl (by decide) ?_
        exact case_22 I i h0 (by omega) hL next
      · refine LW.tout (tgt := 819) rfl (by exact ⟨by omega, by omega⟩) (Or.inr hbig) (by decide) ?_
        exact next _ I.w
