theorem fz_e0 {f : Nat → Int} (k : Nat) {j : Nat} : fz 0 f k j = f j := by
  unfold fz
  split
  · rw [acN_0, if_neg (fun w => w.2 (by assumption))]; omega
  · rfl
theorem lz_no7 {A : Nat → Int} (hp : pn A) {k : Int} (hk : k = (lz (tbt A 12) : Int)) (c : anyN (fun j => decide (A j = k)) 12 = true) : False := by
  obtain ⟨j, h3, h4⟩ := (anyN_iff _ _).mp c
  exact lz_free hp h3 (by rw [← hk]; exact of_decide_eq_true h4)
theorem lz_no23 {A : Nat → Int} {F : Int} (hF : ckF F) (hb : F < 48) (hI : FI F A) {k : Int} (rk : 0 ≤ k ∧ k < 12) (hk : k = (lz (tbt A 12) : Int)) (c : anyN (fun j => decide (A j = mv F k)) 12 = true) : False := by
  obtain ⟨j, h3, h4⟩ := (anyN_iff _ _).mp c
  have h5 : A j = mv F k := of_decide_eq_true h4
  have hm := mv_b F k
  have h6 := hI.2 j h3 (by omega)
  rw [h5, mv_invol hF hb rk] at h6
  exact lz_free hI.1 (acN_lt h3) (by rw [h6, hk])
/-- one place of the model's second walk -/
theorem fz_two {F : Int} (hF : ckF F) (h24 : 24 ≤ F) (hb : F < 48) {f : Nat → Int} (hf : pn f) (hw : wel F f 12 = true) {k : Nat} (hk : k < 12) (hn : ¬ fz F f k k = -6) {j : Nat} (hj : j < 12) : fz F f (k + 1) j = if j = 11 - k then mv F (fz F f k k) else fz F f k j := by
  have hac := acN_b h24 k
  have b1 := hf k hk
  by_cases e : f k = -6
  · -- told from across
    have v1 : fz F f k k = mv F (f (acN F k)) := by
      unfold fz at hn ⊢
      rw [if_pos e] at hn ⊢
      split at hn
      · next q => rw [if_pos q]
      · omega
    have e2 : ¬ f (acN F k) = -6 := by
      intro q
      unfold fz at hn
      rw [if_pos e, if_neg (fun w => w.2 q)] at hn
      exact hn rfl
    have b2 := hf _ (acN_lt (F := F) hk)
    rw [fz_s hk hj (Or.inr (Or.inl e))]
    split
    · next q =>
      rw [v1, mv_invol hF hb (by omega), q, ← hac, fz_told e2]
    · rfl
  · have v1 := fz_told (F := F) (k := k) e
    rw [v1]
    have q := (wek_iff F f k).mp ((allN_iff _ _).mp hw k hk)
    have hm := mv_b F (f k)
    split
    · next qj =>
      rw [qj, ← hac]
      rcases q with q | q | ⟨q, -⟩
      · exact absurd q e
      · rw [fz_told (by omega)]; exact q
      · exact fz_new hk e q
    · next qj => exact fz_s hk hj (Or.inl (by rw [hac]; exact qj))
theorem fz_stay {F : Int} {f : Nat → Int} (hf : pn f) {k : Nat} (hk : k < 12) (hn : fz F f k k = -6) {j : Nat} (hj : j < 12) : fz F f (k + 1) j = fz F f k j := by
  have b1 := hf k hk
  refine fz_s hk hj (Or.inr (Or.inl ?_))
  apply Decidable.byContradiction
  intro q
  rw [fz_told q] at hn
  exact q hn

set_option maxHeartbeats 4000000 in
theorem l_X4_isUsed (d : Nat) (hd : 0 ≤ d) (h : List AC) (pm rf gm ka wr9 : Int) (hO : h[29]? = some (ao 4 (mo pm rf gm ka wr9))) (A : Nat → Int) (hA : h[33]? = some (ai 0 12 A)) (hp : pn A) (t : Int) (rt : 0 ≤ t ∧ t < 12) : ∀ (n : Nat) (k : Int) (b : Bool), (0 ≤ k) → (k ≤ 12) → (b = anyN (fun j => decide (A j = t)) k.toNat) → ((12 - k).toNat) < n → AW zX4_isUsed Eq (rmd d) 0 0 0 0 4 [(3, vi k), (2, vi (bI (b = true))), (0, vr 29), (1, vi t)] [] h (RQ (bI (anyN (fun j => decide (A j = t)) 12 = true)) h) := by
  intro n
  induction n with
  | zero =>
    intro k b h0 h1 hb hn
    exact absurd hn (Nat.not_lt_zero _)
  | succ n ih =>
    intro k b h0 h1 hb hn
    refine AW.go 2 (pc' := 7) rfl ?_
    refine AW.bi (tgt := 36) (pn := 10) rfl (by decide) rfl (by first | exact bI_rng _ | exact ⟨by omega, by omega⟩) (by first | exact bI_rng _ | exact ⟨by omega, by omega⟩) (fun c7 => ?_) (fun c7 => ?_)
    · dsimp only [cmpI] at c7
      refine AW.go 1 (pc' := 37) rfl ?_
      refine AW.retz rfl rfl (by first | exact bI_01 _ | decide) (Nat.le_refl _) (Nat.le_refl _) ?_
      refine ⟨congrArg some ?_, rfl⟩
      rw [hb, show k.toNat = 12 by omega]
    · dsimp only [cmpI] at c7
      refine AW.go 1 (pc' := 11) rfl ?_
      refine AW.bnz (tgt := 24) (pn := 14) rfl (by decide) rfl (fun c11 => ?_) (fun c11 => ?_)
      · refine AW.go 5 (pc' := 4) rfl ?_
        first | (refine AW.lw ?_ (ih (k + 1) (true) (by omega) (by omega) ?_ (by omega)); exact (And.intro rfl (And.intro rfl (And.intro rfl (And.intro rfl trivial)))); rw [anyN_s h0, ← hb]; (first | (rw [c11]; rfl) | (rw [eq_false_of_ne_true c11, decide_eq_false c21]; rfl) | (rw [eq_false_of_ne_true c11, decide_eq_true (Decidable.not_not.mp c21)]; rfl))) | (refine AW.lw ?_ (ih (k + 1) (false) (by omega) (by omega) ?_ (by omega)); exact (And.intro rfl (And.intro rfl (And.intro rfl (And.intro rfl trivial)))); rw [anyN_s h0, ← hb]; (first | (rw [c11]; rfl) | (rw [eq_false_of_ne_true c11, decide_eq_false c21]; rfl) | (rw [eq_false_of_ne_true c11, decide_eq_true (Decidable.not_not.mp c21)]; rfl)))
      · refine AW.go 1 (pc' := 15) rfl ?_
        refine AW.getf (pn := 18) rfl rfl flX4_19 (by first | assumption | exact set_self (by first | assumption | exact set_self (by first | assumption | exact set_self (by assumption) | exact set_ne (by first | assumption | decide | omega) (by assumption)) | exact set_ne (by first | assumption | decide | omega) (by first | assumption | exact set_self (by assumption) | exact set_ne (by first | assumption | decide | omega) (by assumption))) | exact set_ne (by first | assumption | decide | omega) (by first | assumption | exact set_self (by first | assumption | exact set_self (by assumption) | exact set_ne (by first | assumption | decide | omega) (by assumption)) | exact set_ne (by first | assumption | decide | omega) (by first | assumption | exact set_self (by assumption) | exact set_ne (by first | assumption | decide | omega) (by assumption)))) rfl ?_
        refine AW.go 1 (pc' := 19) rfl ?_
        have b0 := hp k.toNat (by omega)
        refine AW.iald (pn := 20) rfl rfl (by first | assumption | exact set_self (by first | assumption | exact set_self (by first | assumption | exact set_self (by assumption) | exact set_ne (by first | assumption | decide | omega) (by assumption)) | exact set_ne (by first | assumption | decide | omega) (by first | assumption | exact set_self (by assumption) | exact set_ne (by first | assumption | decide | omega) (by assumption))) | exact set_ne (by first | assumption | decide | omega) (by first | assumption | exact set_self (by first | assumption | exact set_self (by assumption) | exact set_ne (by first | assumption | decide | omega) (by assumption)) | exact set_ne (by first | assumption | decide | omega) (by first | assumption | exact set_self (by assumption) | exact set_ne (by first | assumption | decide | omega) (by assumption)))) (by first | decide | omega) (by omega) (by omega) ?_
        refine AW.go 1 (pc' := 21) rfl ?_
        refine AW.bi (tgt := 28) (pn := 24) rfl (by decide) rfl (by first | exact bI_rng _ | exact ⟨by omega, by omega⟩) (by first | exact bI_rng _ | exact ⟨by omega, by omega⟩) (fun c21 => ?_) (fun c21 => ?_)
        · dsimp only [cmpI] at c21
          refine AW.go 4 (pc' := 4) rfl ?_
          first | (refine AW.lw ?_ (ih (k + 1) (true) (by omega) (by omega) ?_ (by omega)); exact (And.intro rfl (And.intro rfl (And.intro rfl (And.intro rfl trivial)))); rw [anyN_s h0, ← hb]; (first | (rw [c11]; rfl) | (rw [eq_false_of_ne_true c11, decide_eq_false c21]; rfl) | (rw [eq_false_of_ne_true c11, decide_eq_true (Decidable.not_not.mp c21)]; rfl))) | (refine AW.lw ?_ (ih (k + 1) (false) (by omega) (by omega) ?_ (by omega)); exact (And.intro rfl (And.intro rfl (And.intro rfl (And.intro rfl trivial)))); rw [anyN_s h0, ← hb]; (first | (rw [c11]; rfl) | (rw [eq_false_of_ne_true c11, decide_eq_false c21]; rfl) | (rw [eq_false_of_ne_true c11, decide_eq_true (Decidable.not_not.mp c21)]; rfl)))
        · dsimp only [cmpI] at c21
          refine AW.go 5 (pc' := 4) rfl ?_
          first | (refine AW.lw ?_ (ih (k + 1) (true) (by omega) (by omega) ?_ (by omega)); exact (And.intro rfl (And.intro rfl (And.intro rfl (And.intro rfl trivial)))); rw [anyN_s h0, ← hb]; (first | (rw [c11]; rfl) | (rw [eq_false_of_ne_true c11, decide_eq_false c21]; rfl) | (rw [eq_false_of_ne_true c11, decide_eq_true (Decidable.not_not.mp c21)]; rfl))) | (refine AW.lw ?_ (ih (k + 1) (false) (by omega) (by omega) ?_ (by omega)); exact (And.intro rfl (And.intro rfl (And.intro rfl (And.intro rfl trivial)))); rw [anyN_s h0, ← hb]; (first | (rw [c11]; rfl) | (rw [eq_false_of_ne_true c11, decide_eq_false c21]; rfl) | (rw [eq_false_of_ne_true c11, decide_eq_true (Decidable.not_not.mp c21)]; rfl)))
set_option maxHeartbeats 2000000 in
theorem c_X4_isUsed (d : Nat) (hd : 0 ≤ d) (h : List AC) (pm rf gm ka wr9 : Int) (hO : h[29]? = some (ao 4 (mo pm rf gm ka wr9))) (A : Nat → Int) (hA : h[33]? = some (ai 0 12 A)) (hp : pn A) (t : Int) (rt : 0 ≤ t ∧ t < 12) : MF zX4_isUsed d [vr 29, vi t] h (bI (anyN (fun j => decide (A j = t)) 12 = true)) h := by
  refine M0.of okX4_isUsed (Nat.le_of_ble_eq_true rfl) ?_
  refine AW.go 4 (pc' := 4) rfl ?_
  refine AW.lw ?_ (l_X4_isUsed d hd h pm rf gm ka wr9 hO A hA hp t rt _ 0 false (by omega) (by omega) rfl (Nat.lt_succ_self _))
  exact (And.intro rfl (And.intro rfl (And.intro rfl (And.intro rfl trivial))))
set_option maxHeartbeats 4000000 in
theorem l_X4_leastFree (d : Nat) (hd : 3 ≤ d) (h : List AC) (pm rf gm ka wr9 : Int) (hO : h[29]? = some (ao 4 (mo pm rf gm ka wr9))) (A : Nat → Int) (hA : h[33]? = some (ai 0 12 A)) (hp : pn A) (F : Int) (rF : 0 ≤ F ∧ F < 48) (hF : ckF F) (hI : FI F A) (q0 : Nat) (hq0 : q0 < 12) (hq6 : A q0 = -6) : ∀ (n : Nat) (k : Int), (0 ≤ k) → (k ≤ (lz (tbt A 12) : Int)) → (((lz (tbt A 12) : Int) - k).toNat) < n → AW zX4_leastFree Eq (rmd d) 0 0 0 0 2 [(2, vi k), (0, vr 29), (1, vi F)] [] h (RQ (lz (tbt A 12) : Int) h) := by
  intro n
  induction n with
  | zero =>
    intro k h0 h1 hn
    exact absurd hn (Nat.not_lt_zero _)
  | succ n ih =>
    intro k h0 h1 hn
    have hlz := lz_lt hp hq0 hq6
    refine AW.go 2 (pc' := 4) rfl ?_
    refine AW.callVF (pn := 7) rfl rfl mlX4_180 (by first | assumption | exact set_self (by first | assumption | exact set_self (by first | assumption | exact set_self (by assumption) | exact set_ne (by first | assumption | decide | omega) (by assumption)) | exact set_ne (by first | assumption | decide | omega) (by first | assumption | exact set_self (by assumption) | exact set_ne (by first | assumption | decide | omega) (by assumption))) | exact set_ne (by first | assumption | decide | omega) (by first | assumption | exact set_self (by first | assumption | exact set_self (by assumption) | exact set_ne (by first | assumption | decide | omega) (by assumption)) | exact set_ne (by first | assumption | decide | omega) (by first | assumption | exact set_self (by assumption) | exact set_ne (by first | assumption | decide | omega) (by assumption)))) (c_X4_isUsed (d - 1) (by omega) _ _ _ _ _ _ (by first | assumption | exact set_self (by first | assumption | exact set_self (by first | assumption | exact set_self (by assumption) | exact set_ne (by first | assumption | decide | omega) (by assumption)) | exact set_ne (by first | assumption | decide | omega) (by first | assumption | exact set_self (by assumption) | exact set_ne (by first | assumption | decide | omega) (by assumption))) | exact set_ne (by first | assumption | decide | omega) (by first | assumption | exact set_self (by first | assumption | exact set_self (by assumption) | exact set_ne (by first | assumption | decide | omega) (by assumption)) | exact set_ne (by first | assumption | decide | omega) (by first | assumption | exact set_self (by assumption) | exact set_ne (by first | assumption | decide | omega) (by assumption)))) _ (by first | assumption | exact set_self (by first | assumption | exact set_self (by first | assumption | exact set_self (by assumption) | exact set_ne (by first | assumption | decide | omega) (by assumption)) | exact set_ne (by first | assumption | decide | omega) (by first | assumption | exact set_self (by assumption) | exact set_ne (by first | assumption | decide | omega) (by assumption))) | exact set_ne (by first | assumption | decide | omega) (by first | assumption | exact set_self (by first | assumption | exact set_self (by assumption) | exact set_ne (by first | assumption | decide | omega) (by assumption)) | exact set_ne (by first | assumption | decide | omega) (by first | assumption | exact set_self (by assumption) | exact set_ne (by first | assumption | decide | omega) (by assumption)))) (by assumption) _ (by omega)) rfl rfl (Nat.le_of_ble_eq_true rfl) ⟨by show d - 1 + 1 ≤ d; omega, by show 40 * (d - 1 + 1) ≤ 40 * d; omega⟩ ⟨Nat.zero_le _, Nat.zero_le _⟩ ?_
    refine AW.bnz (tgt := 26) (pn := 10) rfl (by decide) rfl (fun c7 => ?_) (fun c7 => ?_)
    · refine AW.go 2 (pc' := 2) rfl ?_
      have hkl : k < (lz (tbt A 12) : Int) := Decidable.byContradiction (fun q => by
        have q2 : k = (lz (tbt A 12) : Int) := by omega
        first | exact lz_no7 hp q2 c7 | exact lz_no23 hF rF.2 hI (by omega) q2 c23)
      refine AW.lw ?_ (ih (k + 1) (by omega) (by omega) (by omega))
      exact (And.intro rfl (And.intro rfl (And.intro rfl trivial)))
    · refine AW.go 1 (pc' := 11) rfl ?_
      refine AW.br (tgt := 32) (pn := 14) rfl (by decide) rfl (by first | exact bI_rng _ | exact ⟨by omega, by omega⟩) (fun c11 => ?_) (fun c11 => ?_)
      · dsimp only [cmpI] at c11
        refine AW.go 1 (pc' := 33) rfl ?_
        refine AW.ret rfl rfl (Nat.le_refl _) (Nat.le_refl _) ?_
        refine ⟨congrArg some ?_, rfl⟩
        rcases (show k < (lz (tbt A 12) : Int) ∨ k = (lz (tbt A 12) : Int) by omega) with q | q
        · exfalso
          obtain ⟨j, h3, h4⟩ := lz_used hp (show k.toNat < lz (tbt A 12) by omega)
          exact c7 ((anyN_iff _ _).mpr ⟨j, h3, decide_eq_true (by rw [h4]; omega)⟩)
        · exact q
      · dsimp only [cmpI] at c11
        refine AW.go 3 (pc' := 17) rfl ?_
        have hm := mv_b F k
        refine AW.callSF (pn := 20) rfl rfl mlX4_171 (c_X4_across (d - 1) (by omega) _ _ _ (by omega) (by omega)) rfl rfl (Nat.le_of_ble_eq_true rfl) ⟨by show d - 1 + 1 ≤ d; omega, by show 40 * (d - 1 + 1) ≤ 40 * d; omega⟩ ⟨Nat.zero_le _, Nat.zero_le _⟩ ?_
        refine AW.callVF (pn := 23) rfl rfl mlX4_180 (by first | assumption | exact set_self (by first | assumption | exact set_self (by first | assumption | exact set_self (by assumption) | exact set_ne (by first | assumption | decide | omega) (by assumption)) | exact set_ne (by first | assumption | decide | omega) (by first | assumption | exact set_self (by assumption) | exact set_ne (by first | assumption | decide | omega) (by assumption))) | exact set_ne (by first | assumption | decide | omega) (by first | assumption | exact set_self (by first | assumption | exact set_self (by assumption) | exact set_ne (by first | assumption | decide | omega) (by assumption)) | exact set_ne (by first | assumption | decide | omega) (by first | assumption | exact set_self (by assumption) | exact set_ne (by first | assumption | decide | omega) (by assumption)))) (c_X4_isUsed (d - 1) (by omega) _ _ _ _ _ _ (by first | assumption | exact set_self (by first | assumption | exact set_self (by first | assumption | exact set_self (by assumption) | exact set_ne (by first | assumption | decide | omega) (by assumption)) | exact set_ne (by first | assumption | decide | omega) (by first | assumption | exact set_self (by assumption) | exact set_ne (by first | assumption | decide | omega) (by assumption))) | exact set_ne (by first | assumption | decide | omega) (by first | assumption | exact set_self (by first | assumption | exact set_self (by assumption) | exact set_ne (by first | assumption | decide | omega) (by assumption)) | exact set_ne (by first | assumption | decide | omega) (by first | assumption | exact set_self (by assumption) | exact set_ne (by first | assumption | decide | omega) (by assumption)))) _ (by first | assumption | exact set_self (by first | assumption | exact set_self (by first | assumption | exact set_self (by assumption) | exact set_ne (by first | assumption | decide | omega) (by assumption)) | exact set_ne (by first | assumption | decide | omega) (by first | assumption | exact set_self (by assumption) | exact set_ne (by first | assumption | decide | omega) (by assumption))) | exact set_ne (by first | assumption | decide | omega) (by first | assumption | exact set_self (by first | assumption | exact set_self (by assumption) | exact set_ne (by first | assumption | decide | omega) (by assumption)) | exact set_ne (by first | assumption | decide | omega) (by first | assumption | exact set_self (by assumption) | exact set_ne (by first | assumption | decide | omega) (by assumption)))) (by assumption) _ (by omega)) rfl rfl (Nat.le_of_ble_eq_true rfl) ⟨by show d - 1 + 1 ≤ d; omega, by show 40 * (d - 1 + 1) ≤ 40 * d; omega⟩ ⟨Nat.zero_le _, Nat.zero_le _⟩ ?_
        refine AW.bz (tgt := 32) (pn := 26) rfl (by decide) rfl (fun c23 => ?_) (fun c23 => ?_)
        · refine AW.go 1 (pc' := 33) rfl ?_
          refine AW.ret rfl rfl (Nat.le_refl _) (Nat.le_refl _) ?_
          refine ⟨congrArg some ?_, rfl⟩
          rcases (show k < (lz (tbt A 12) : Int) ∨ k = (lz (tbt A 12) : Int) by omega) with q | q
          · exfalso
            obtain ⟨j, h3, h4⟩ := lz_used hp (show k.toNat < lz (tbt A 12) by omega)
            exact c7 ((anyN_iff _ _).mpr ⟨j, h3, decide_eq_true (by rw [h4]; omega)⟩)
          · exact q
        · refine AW.go 2 (pc' := 2) rfl ?_
          have hkl : k < (lz (tbt A 12) : Int) := Decidable.byContradiction (fun q => by
            have q2 : k = (lz (tbt A 12) : Int) := by omega
            first | exact lz_no7 hp q2 c7 | exact lz_no23 hF rF.2 hI (by omega) q2 c23)
          refine AW.lw ?_ (ih (k + 1) (by omega) (by omega) (by omega))
          exact (And.intro rfl (And.intro rfl (And.intro rfl trivial)))
set_option maxHeartbeats 2000000 in
theorem c_X4_leastFree (d : Nat) (hd : 3 ≤ d) (h : List AC) (pm rf gm ka wr9 : Int) (hO : h[29]? = some (ao 4 (mo pm rf gm ka wr9))) (A : Nat → Int) (hA : h[33]? = some (ai 0 12 A)) (hp : pn A) (F : Int) (rF : 0 ≤ F ∧ F < 48) (hF : ckF F) (hI : FI F A) (q0 : Nat) (hq0 : q0 < 12) (hq6 : A q0 = -6) : MF zX4_leastFree d [vr 29, vi F] h (lz (tbt A 12) : Int) h := by
  refine M0.of okX4_leastFree (Nat.le_of_ble_eq_true rfl) ?_
  refine AW.go 2 (pc' := 2) rfl ?_
  refine AW.lw ?_ (l_X4_leastFree d hd h pm rf gm ka wr9 hO A hA hp F rF hF hI q0 hq0 hq6 _ 0 (by omega) (by omega) (Nat.lt_succ_self _))
  exact (And.intro rfl (And.intro rfl (And.intro rfl trivial)))
set_option maxHeartbeats 4000000 in
theorem l3_X4_fill (d : Nat) (hd : 4 ≤ d) (h : List AC) (pm rf gm ka wr9 : Int) (hO : h[29]? = some (ao 4 (mo pm rf gm ka wr9))) (f : Nat → Int) (hT : h[31]? = some (ai 0 12 f)) (md : Nat → Int) (hD : h[33]? = some (ai 0 12 md)) (hp : pn f) (F : Int) (rF : 0 ≤ F ∧ F < 48) (hF : ckF F) (hw : wel F f 12 = true) : ∀ (n : Nat) (k : Int) (A : Nat → Int), (0 ≤ k) → (k ≤ 12) → (∀ j, j < 12 → A j = ffl F (fz F f 12) k.toNat j) → ((12 - k).toNat) < n → AW zX4_fill Eq (rmd d) 0 0 0 0 74 [(2, vi k), (0, vr 29), (1, vi F)] [] (h.set 33 (ai 0 12 A)) (fun v w => v = none ∧ ∃ J : Nat → Int, w = h.set 33 (ai 0 12 J) ∧ ∀ j, j < 12 → J j = ffl F (fz F f 12) 12 j) := by
  intro n
  induction n with
  | zero =>
    intro k A h0 h1 hA hn
    exact absurd hn (Nat.not_lt_zero _)
  | succ n ih =>
    intro k A h0 h1 hA hn
    have hFA : FI F A := FI_congr hA (FI_ffl hF rF.2 (FI_fz hF rF.2 hp hw) k.toNat (by omega))
    refine AW.go 2 (pc' := 77) rfl ?_
    refine AW.bi (tgt := 138) (pn := 80) rfl (by decide) rfl (by first | exact bI_rng _ | exact ⟨by omega, by omega⟩) (by first | exact bI_rng _ | exact ⟨by omega, by omega⟩) (fun c77 => ?_) (fun c77 => ?_)
    · dsimp only [cmpI] at c77
      refine AW.retv rfl rfl (Nat.le_refl _) (Nat.le_refl _) ?_
      refine ⟨rfl, A, rfl, ?_⟩
      rw [show k.toNat = 12 by omega] at hA
      exact hA
    · dsimp only [cmpI] at c77
      refine AW.go 1 (pc' := 81) rfl ?_
      refine AW.getf (pn := 84) rfl rfl flX4_19 (by first | assumption | exact set_self (by first | assumption | exact set_self (by first | assumption | exact set_self (by assumption) | exact set_ne (by first | assumption | decide | omega) (by assumption)) | exact set_ne (by first | assumption | decide | omega) (by first | assumption | exact set_self (by assumption) | exact set_ne (by first | assumption | decide | omega) (by assumption))) | exact set_ne (by first | assumption | decide | omega) (by first | assumption | exact set_self (by first | assumption | exact set_self (by assumption) | exact set_ne (by first | assumption | decide | omega) (by assumption)) | exact set_ne (by first | assumption | decide | omega) (by first | assumption | exact set_self (by assumption) | exact set_ne (by first | assumption | decide | omega) (by assumption)))) rfl ?_
      refine AW.go 1 (pc' := 85) rfl ?_
      have b0 := hFA.1 k.toNat (by omega)
      refine AW.iald (pn := 86) rfl rfl (by first | assumption | exact set_self (by first | assumption | exact set_self (by first | assumption | exact set_self (by assumption) | exact set_ne (by first | assumption | decide | omega) (by assumption)) | exact set_ne (by first | assumption | decide | omega) (by first | assumption | exact set_self (by assumption) | exact set_ne (by first | assumption | decide | omega) (by assumption))) | exact set_ne (by first | assumption | decide | omega) (by first | assumption | exact set_self (by first | assumption | exact set_self (by assumption) | exact set_ne (by first | assumption | decide | omega) (by assumption)) | exact set_ne (by first | assumption | decide | omega) (by first | assumption | exact set_self (by assumption) | exact set_ne (by first | assumption | decide | omega) (by assumption)))) (by first | decide | omega) (by omega) (by omega) ?_
      refine AW.br (tgt := 132) (pn := 89) rfl (by decide) rfl (by first | exact bI_rng _ | exact ⟨by omega, by omega⟩) (fun c86 => ?_) (fun c86 => ?_)
      · dsimp only [cmpI] at c86
        refine AW.go 2 (pc' := 74) rfl ?_
        first
          | (refine AW.lw ?_ (ih (k + 1) A (by omega) (by omega) (fun j hj9 => ?_) (by omega))
             · exact (And.intro rfl (And.intro rfl (And.intro rfl trivial)))
             · rw [hA j hj9, k1 h0]
               show _ = fr1 F (ffl F (fz F f 12) k.toNat) k.toNat j
               unfold fr1
               rw [if_neg (by rw [← hA k.toNat (by omega)]; omega)])
          | (rw [List.set_set, List.set_set]
             refine AW.lw ?_ (ih (k + 1) _ (by omega) (by omega) (fun j hj9 => ?_) (by omega))
             · exact (And.intro rfl (And.intro rfl (And.intro rfl trivial)))
             · rw [k1 h0]
               show _ = fr1 F (ffl F (fz F f 12) k.toNat) k.toNat j
               unfold fr1
               have hA6 : ffl F (fz F f 12) k.toNat k.toNat = -6 := by rw [← hA k.toNat (by omega)]; omega
               rw [if_pos hA6, ← tbt_congr hA, show (11 - k).toNat = 11 - k.toNat by omega]
               first
                 | (have e24 : 24 ≤ F := by rcases ck_ac hF with q | q <;> omega
                    rw [acN_b e24]
                    unfold up
                    by_cases q1 : j = 11 - k.toNat
                    · rw [if_pos q1, if_pos q1]
                    · rw [if_neg q1, if_neg q1]
                      by_cases q2 : j = k.toNat
                      · rw [if_pos q2, if_pos q2]
                      · rw [if_neg q2, if_neg q2]; exact hA j hj9)
                 | (have e0 : F = 0 := by omega
                    subst e0
                    rw [acN_0, up_self, mv_0 (by omega)]
                    unfold up
                    by_cases q2 : j = k.toNat
                    · rw [if_pos q2, if_pos q2]
                    · rw [if_neg q2, if_neg q2, if_neg q2]; exact hA j hj9))
      · dsimp only [cmpI] at c86
        refine AW.go 2 (pc' := 91) rfl ?_
        refine AW.callVF (pn := 94) rfl rfl mlX4_183 (by first | assumption | exact set_self (by first | assumption | exact set_self (by first | assumption | exact set_self (by assumption) | exact set_ne (by first | assumption | decide | omega) (by assumption)) | exact set_ne (by first | assumption | decide | omega) (by first | assumption | exact set_self (by assumption) | exact set_ne (by first | assumption | decide | omega) (by assumption))) | exact set_ne (by first | assumption | decide | omega) (by first | assumption | exact set_self (by first | assumption | exact set_self (by assumption) | exact set_ne (by first | assumption | decide | omega) (by assumption)) | exact set_ne (by first | assumption | decide | omega) (by first | assumption | exact set_self (by assumption) | exact set_ne (by first | assumption | decide | omega) (by assumption)))) (c_X4_leastFree (d - 1) (by omega) _ _ _ _ _ _ (set_ne (by decide) hO) _ (set_self hD) hFA.1 _ rF hF hFA k.toNat (by omega) (by omega)) rfl rfl (Nat.le_of_ble_eq_true rfl) ⟨by show d - 1 + 1 ≤ d; omega, by show 40 * (d - 1 + 1) ≤ 40 * d; omega⟩ ⟨Nat.zero_le _, Nat.zero_le _⟩ ?_
        have hl := lz_lt hFA.1 (show k.toNat < 12 by omega) (by omega)
        have hm := mv_b F (lz (tbt A 12) : Int)
        refine AW.go 2 (pc' := 96) rfl ?_
        refine AW.getf (pn := 99) rfl rfl flX4_19 (by first | assumption | exact set_self (by first | assumption | exact set_self (by first | assumption | exact set_self (by assumption) | exact set_ne (by first | assumption | decide | omega) (by assumption)) | exact set_ne (by first | assumption | decide | omega) (by first | assumption | exact set_self (by assumption) | exact set_ne (by first | assumption | decide | omega) (by assumption))) | exact set_ne (by first | assumption | decide | omega) (by first | assumption | exact set_self (by first | assumption | exact set_self (by assumption) | exact set_ne (by first | assumption | decide | omega) (by assumption)) | exact set_ne (by first | assumption | decide | omega) (by first | assumption | exact set_self (by assumption) | exact set_ne (by first | assumption | decide | omega) (by assumption)))) rfl ?_
        refine AW.go 2 (pc' := 101) rfl ?_
        refine AW.iast (pn := 102) rfl rfl (by first | assumption | exact set_self (by first | assumption | exact set_self (by first | assumption | exact set_self (by assumption) | exact set_ne (by first | assumption | decide | omega) (by assumption)) | exact set_ne (by first | assumption | decide | omega) (by first | assumption | exact set_self (by assumption) | exact set_ne (by first | assumption | decide | omega) (by assumption))) | exact set_ne (by first | assumption | decide | omega) (by first | assumption | exact set_self (by first | assumption | exact set_self (by assumption) | exact set_ne (by first | assumption | decide | omega) (by assumption)) | exact set_ne (by first | assumption | decide | omega) (by first | assumption | exact set_self (by assumption) | exact set_ne (by first | assumption | decide | omega) (by assumption)))) (by first | decide | omega) (by omega) (by omega) ?_
        refine AW.go 1 (pc' := 103) rfl ?_
        refine AW.getf (pn := 106) rfl rfl flX4_19 (by first | assumption | exact set_self (by first | assumption | exact set_self (by first | assumption | exact set_self (by assumption) | exact set_ne (by first | assumption | decide | omega) (by assumption)) | exact set_ne (by first | assumption | decide | omega) (by first | assumption | exact set_self (by assumption) | exact set_ne (by first | assumption | decide | omega) (by assumption))) | exact set_ne (by first | assumption | decide | omega) (by first | assumption | exact set_self (by first | assumption | exact set_self (by assumption) | exact set_ne (by first | assumption | decide | omega) (by assumption)) | exact set_ne (by first | assumption | decide | omega) (by first | assumption | exact set_self (by assumption) | exact set_ne (by first | assumption | decide | omega) (by assumption)))) rfl ?_
        refine AW.go 4 (pc' := 111) rfl ?_
        refine AW.br (tgt := 122) (pn := 114) rfl (by decide) rfl (by first | exact bI_rng _ | exact ⟨by omega, by omega⟩) (fun c111 => ?_) (fun c111 => ?_)
        · dsimp only [cmpI] at c111
          refine AW.go 1 (pc' := 123) rfl ?_
          refine AW.getf (pn := 126) rfl rfl flX4_19 (by first | assumption | exact set_self (by first | assumption | exact set_self (by first | assumption | exact set_self (by assumption) | exact set_ne (by first | assumption | decide | omega) (by assumption)) | exact set_ne (by first | assumption | decide | omega) (by first | assumption | exact set_self (by assumption) | exact set_ne (by first | assumption | decide | omega) (by assumption))) | exact set_ne (by first | assumption | decide | omega) (by first | assumption | exact set_self (by first | assumption | exact set_self (by assumption) | exact set_ne (by first | assumption | decide | omega) (by assumption)) | exact set_ne (by first | assumption | decide | omega) (by first | assumption | exact set_self (by assumption) | exact set_ne (by first | assumption | decide | omega) (by assumption)))) rfl ?_
          refine AW.go 3 (pc' := 130) rfl ?_
          refine AW.iald (pn := 131) rfl rfl (by first | assumption | exact set_self (by first | assumption | exact set_self (by first | assumption | exact set_self (by assumption) | exact set_ne (by first | assumption | decide | omega) (by assumption)) | exact set_ne (by first | assumption | decide | omega) (by first | assumption | exact set_self (by assumption) | exact set_ne (by first | assumption | decide | omega) (by assumption))) | exact set_ne (by first | assumption | decide | omega) (by first | assumption | exact set_self (by first | assumption | exact set_self (by assumption) | exact set_ne (by first | assumption | decide | omega) (by assumption)) | exact set_ne (by first | assumption | decide | omega) (by first | assumption | exact set_self (by assumption) | exact set_ne (by first | assumption | decide | omega) (by assumption)))) (by first | decide | omega) (by omega) (by omega) ?_
          refine AW.iast (pn := 132) rfl rfl (by first | assumption | exact set_self (by first | assumption | exact set_self (by first | assumption | exact set_self (by assumption) | exact set_ne (by first | assumption | decide | omega) (by assumption)) | exact set_ne (by first | assumption | decide | omega) (by first | assumption | exact set_self (by assumption) | exact set_ne (by first | assumption | decide | omega) (by assumption))) | exact set_ne (by first | assumption | decide | omega) (by first | assumption | exact set_self (by first | assumption | exact set_self (by assumption) | exact set_ne (by first | assumption | decide | omega) (by assumption)) | exact set_ne (by first | assumption | decide | omega) (by first | assumption | exact set_self (by assumption) | exact set_ne (by first | assumption | decide | omega) (by assumption)))) (by first | decide | omega) (by omega) (by omega) ?_
          refine AW.go 2 (pc' := 74) rfl ?_
          first
            | (refine AW.lw ?_ (ih (k + 1) A (by omega) (by omega) (fun j hj9 => ?_) (by omega))
               · exact (And.intro rfl (And.intro rfl (And.intro rfl trivial)))
               · rw [hA j hj9, k1 h0]
                 show _ = fr1 F (ffl F (fz F f 12) k.toNat) k.toNat j
                 unfold fr1
                 rw [if_neg (by rw [← hA k.toNat (by omega)]; omega)])
            | (rw [List.set_set, List.set_set]
               refine AW.lw ?_ (ih (k + 1) _ (by omega) (by omega) (fun j hj9 => ?_) (by omega))
               · exact (And.intro rfl (And.intro rfl (And.intro rfl trivial)))
               · rw [k1 h0]
                 show _ = fr1 F (ffl F (fz F f 12) k.toNat) k.toNat j
                 unfold fr1
                 have hA6 : ffl F (fz F f 12) k.toNat k.toNat = -6 := by rw [← hA k.toNat (by omega)]; omega
                 rw [if_pos hA6, ← tbt_congr hA, show (11 - k).toNat = 11 - k.toNat by omega]
                 first
                   | (have e24 : 24 ≤ F := by rcases ck_ac hF with q | q <;> omega
                      rw [acN_b e24]
                      unfold up
                      by_cases q1 : j = 11 - k.toNat
                      · rw [if_pos q1, if_pos q1]
                      · rw [if_neg q1, if_neg q1]
                        by_cases q2 : j = k.toNat
                        · rw [if_pos q2, if_pos q2]
                        · rw [if_neg q2, if_neg q2]; exact hA j hj9)
                   | (have e0 : F = 0 := by omega
                      subst e0
                      rw [acN_0, up_self, mv_0 (by omega)]
                      unfold up
                      by_cases q2 : j = k.toNat
                      · rw [if_pos q2, if_pos q2]
                      · rw [if_neg q2, if_neg q2, if_neg q2]; exact hA j hj9))
        · dsimp only [cmpI] at c111
          refine AW.go 2 (pc' := 116) rfl ?_
          refine AW.callSF (pn := 119) rfl rfl mlX4_171 (c_X4_across (d - 1) (by omega) _ _ _ (by omega) (by omega)) rfl rfl (Nat.le_of_ble_eq_true rfl) ⟨by show d - 1 + 1 ≤ d; omega, by show 40 * (d - 1 + 1) ≤ 40 * d; omega⟩ ⟨Nat.zero_le _, Nat.zero_le _⟩ ?_
          refine AW.go 1 (pc' := 131) rfl ?_
          refine AW.iast (pn := 132) rfl rfl (by first | assumption | exact set_self (by first | assumption | exact set_self (by first | assumption | exact set_self (by assumption) | exact set_ne (by first | assumption | decide | omega) (by assumption)) | exact set_ne (by first | assumption | decide | omega) (by first | assumption | exact set_self (by assumption) | exact set_ne (by first | assumption | decide | omega) (by assumption))) | exact set_ne (by first | assumption | decide | omega) (by first | assumption | exact set_self (by first | assumption | exact set_self (by assumption) | exact set_ne (by first | assumption | decide | omega) (by assumption)) | exact set_ne (by first | assumption | decide | omega) (by first | assumption | exact set_self (by assumption) | exact set_ne (by first | assumption | decide | omega) (by assumption)))) (by first | decide | omega) (by omega) (by omega) ?_
          refine AW.go 2 (pc' := 74) rfl ?_
          first
            | (refine AW.lw ?_ (ih (k + 1) A (by omega) (by omega) (fun j hj9 => ?_) (by omega))
               · exact (And.intro rfl (And.intro rfl (And.intro rfl trivial)))
               · rw [hA j hj9, k1 h0]
                 show _ = fr1 F (ffl F (fz F f 12) k.toNat) k.toNat j
                 unfold fr1
                 rw [if_neg (by rw [← hA k.toNat (by omega)]; omega)])
            | (rw [List.set_set, List.set_set]
               refine AW.lw ?_ (ih (k + 1) _ (by omega) (by omega) (fun j hj9 => ?_) (by omega))
               · exact (And.intro rfl (And.intro rfl (And.intro rfl trivial)))
               · rw [k1 h0]
                 show _ = fr1 F (ffl F (fz F f 12) k.toNat) k.toNat j
                 unfold fr1
                 have hA6 : ffl F (fz F f 12) k.toNat k.toNat = -6 := by rw [← hA k.toNat (by omega)]; omega
                 rw [if_pos hA6, ← tbt_congr hA, show (11 - k).toNat = 11 - k.toNat by omega]
                 first
                   | (have e24 : 24 ≤ F := by rcases ck_ac hF with q | q <;> omega
                      rw [acN_b e24]
                      unfold up
                      by_cases q1 : j = 11 - k.toNat
                      · rw [if_pos q1, if_pos q1]
                      · rw [if_neg q1, if_neg q1]
                        by_cases q2 : j = k.toNat
                        · rw [if_pos q2, if_pos q2]
                        · rw [if_neg q2, if_neg q2]; exact hA j hj9)
                   | (have e0 : F = 0 := by omega
                      subst e0
                      rw [acN_0, up_self, mv_0 (by omega)]
                      unfold up
                      by_cases q2 : j = k.toNat
                      · rw [if_pos q2, if_pos q2]
                      · rw [if_neg q2, if_neg q2, if_neg q2]; exact hA j hj9))
set_option maxHeartbeats 4000000 in
theorem l2_X4_fill (d : Nat) (hd : 4 ≤ d) (h : List AC) (pm rf gm ka wr9 : Int) (hO : h[29]? = some (ao 4 (mo pm rf gm ka wr9))) (f : Nat → Int) (hT : h[31]? = some (ai 0 12 f)) (md : Nat → Int) (hD : h[33]? = some (ai 0 12 md)) (hp : pn f) (F : Int) (rF : 0 ≤ F ∧ F < 48) (hF : ckF F) (hw : wel F f 12 = true) : ∀ (n : Nat) (k : Int) (A : Nat → Int), (0 ≤ k) → (k ≤ 12) → (∀ j, j < 12 → A j = fz F f k.toNat j) → ((12 - k).toNat) < n → AW zX4_fill Eq (rmd d) 0 0 0 0 28 [(2, vi k), (0, vr 29), (1, vi F)] [] (h.set 33 (ai 0 12 A)) (fun v w => v = none ∧ ∃ J : Nat → Int, w = h.set 33 (ai 0 12 J) ∧ ∀ j, j < 12 → J j = ffl F (fz F f 12) 12 j) := by
  intro n
  induction n with
  | zero =>
    intro k A h0 h1 hA hn
    exact absurd hn (Nat.not_lt_zero _)
  | succ n ih =>
    intro k A h0 h1 hA hn
    refine AW.go 2 (pc' := 31) rfl ?_
    refine AW.bi (tgt := 72) (pn := 34) rfl (by decide) rfl (by first | exact bI_rng _ | exact ⟨by omega, by omega⟩) (by first | exact bI_rng _ | exact ⟨by omega, by omega⟩) (fun c31 => ?_) (fun c31 => ?_)
    · dsimp only [cmpI] at c31
      refine AW.go 2 (pc' := 74) rfl ?_
      refine AW.lw ?_ (l3_X4_fill d hd h pm rf gm ka wr9 hO f hT md hD hp F rF hF hw _ 0 A (by omega) (by omega) (fun j hj9 => ?_) (Nat.lt_succ_self _))
      · exact (And.intro rfl (And.intro rfl (And.intro rfl trivial)))
      · show A j = fz F f 12 j
        first
          | (rw [hA j hj9, show k.toNat = 12 by omega]; done)
          | (have e0 : F = 0 := by omega
             subst e0
             rw [hA j hj9, fz_e0, fz_e0]; done)
    · dsimp only [cmpI] at c31
      refine AW.go 1 (pc' := 35) rfl ?_
      refine AW.br (tgt := 72) (pn := 38) rfl (by decide) rfl (by first | exact bI_rng _ | exact ⟨by omega, by omega⟩) (fun c35 => ?_) (fun c35 => ?_)
      · dsimp only [cmpI] at c35
        refine AW.go 2 (pc' := 74) rfl ?_
        refine AW.lw ?_ (l3_X4_fill d hd h pm rf gm ka wr9 hO f hT md hD hp F rF hF hw _ 0 A (by omega) (by omega) (fun j hj9 => ?_) (Nat.lt_succ_self _))
        · exact (And.intro rfl (And.intro rfl (And.intro rfl trivial)))
        · show A j = fz F f 12 j
          first
            | (rw [hA j hj9, show k.toNat = 12 by omega]; done)
            | (have e0 : F = 0 := by omega
               subst e0
               rw [hA j hj9, fz_e0, fz_e0]; done)
      · dsimp only [cmpI] at c35
        refine AW.go 1 (pc' := 39) rfl ?_
        refine AW.getf (pn := 42) rfl rfl flX4_19 (by first | assumption | exact set_self (by first | assumption | exact set_self (by first | assumption | exact set_self (by assumption) | exact set_ne (by first | assumption | decide | omega) (by assumption)) | exact set_ne (by first | assumption | decide | omega) (by first | assumption | exact set_self (by assumption) | exact set_ne (by first | assumption | decide | omega) (by assumption))) | exact set_ne (by first | assumption | decide | omega) (by first | assumption | exact set_self (by first | assumption | exact set_self (by assumption) | exact set_ne (by first | assumption | decide | omega) (by assumption)) | exact set_ne (by first | assumption | decide | omega) (by first | assumption | exact set_self (by assumption) | exact set_ne (by first | assumption | decide | omega) (by assumption)))) rfl ?_
        refine AW.go 1 (pc' := 43) rfl ?_
        have b0 : A k.toNat = -6 ∨ (0 ≤ A k.toNat ∧ A k.toNat < 12) := by rw [hA k.toNat (by omega)]; exact fz_b hp _ (by omega)
        refine AW.iald (pn := 44) rfl rfl (by first | assumption | exact set_self (by first | assumption | exact set_self (by first | assumption | exact set_self (by assumption) | exact set_ne (by first | assumption | decide | omega) (by assumption)) | exact set_ne (by first | assumption | decide | omega) (by first | assumption | exact set_self (by assumption) | exact set_ne (by first | assumption | decide | omega) (by assumption))) | exact set_ne (by first | assumption | decide | omega) (by first | assumption | exact set_self (by first | assumption | exact set_self (by assumption) | exact set_ne (by first | assumption | decide | omega) (by assumption)) | exact set_ne (by first | assumption | decide | omega) (by first | assumption | exact set_self (by assumption) | exact set_ne (by first | assumption | decide | omega) (by assumption)))) (by first | decide | omega) (by omega) (by omega) ?_
        refine AW.br (tgt := 66) (pn := 47) rfl (by decide) rfl (by first | exact bI_rng _ | exact ⟨by omega, by omega⟩) (fun c44 => ?_) (fun c44 => ?_)
        · dsimp only [cmpI] at c44
          refine AW.go 2 (pc' := 28) rfl ?_
          first
            | (refine AW.lw ?_ (ih (k + 1) A (by omega) (by omega) (fun j hj9 => ?_) (by omega))
               · exact (And.intro rfl (And.intro rfl (And.intro rfl trivial)))
               · rw [hA j hj9, k1 h0]
                 exact (fz_stay hp (by omega) (by rw [← hA k.toNat (by omega)]; omega) hj9).symm)
            | (rw [List.set_set, show (11 - k).toNat = 11 - k.toNat by omega]
               refine AW.lw ?_ (ih (k + 1) _ (by omega) (by omega) (fun j hj9 => ?_) (by omega))
               · exact (And.intro rfl (And.intro rfl (And.intro rfl trivial)))
               · have e24 : 24 ≤ F := by rcases ck_ac hF with q | q <;> omega
                 rw [k1 h0, fz_two hF e24 rF.2 hp hw (by omega) (by rw [← hA k.toNat (by omega)]; omega) hj9, ← hA k.toNat (by omega)]
                 unfold up
                 by_cases q1 : j = 11 - k.toNat
                 · rw [if_pos q1, if_pos q1]
                 · rw [if_neg q1, if_neg q1]; exact hA j hj9)
        · dsimp only [cmpI] at c44
          refine AW.go 1 (pc' := 48) rfl ?_
          refine AW.getf (pn := 51) rfl rfl flX4_19 (by first | assumption | exact set_self (by first | assumption | exact set_self (by first | assumption | exact set_self (by assumption) | exact set_ne (by first | assumption | decide | omega) (by assumption)) | exact set_ne (by first | assumption | decide | omega) (by first | assumption | exact set_self (by assumption) | exact set_ne (by first | assumption | decide | omega) (by assumption))) | exact set_ne (by first | assumption | decide | omega) (by first | assumption | exact set_self (by first | assumption | exact set_self (by assumption) | exact set_ne (by first | assumption | decide | omega) (by assumption)) | exact set_ne (by first | assumption | decide | omega) (by first | assumption | exact set_self (by assumption) | exact set_ne (by first | assumption | decide | omega) (by assumption)))) rfl ?_
          refine AW.go 5 (pc' := 57) rfl ?_
          refine AW.getf (pn := 60) rfl rfl flX4_19 (by first | assumption | exact set_self (by first | assumption | exact set_self (by first | assumption | exact set_self (by assumption) | exact set_ne (by first | assumption | decide | omega) (by assumption)) | exact set_ne (by first | assumption | decide | omega) (by first | assumption | exact set_self (by assumption) | exact set_ne (by first | assumption | decide | omega) (by assumption))) | exact set_ne (by first | assumption | decide | omega) (by first | assumption | exact set_self (by first | assumption | exact set_self (by assumption) | exact set_ne (by first | assumption | decide | omega) (by assumption)) | exact set_ne (by first | assumption | decide | omega) (by first | assumption | exact set_self (by assumption) | exact set_ne (by first | assumption | decide | omega) (by assumption)))) rfl ?_
          refine AW.go 1 (pc' := 61) rfl ?_
          refine AW.iald (pn := 62) rfl rfl (by first | assumption | exact set_self (by first | assumption | exact set_self (by first | assumption | exact set_self (by assumption) | exact set_ne (by first | assumption | decide | omega) (by assumption)) | exact set_ne (by first | assumption | decide | omega) (by first | assumption | exact set_self (by assumption) | exact set_ne (by first | assumption | decide | omega) (by assumption))) | exact set_ne (by first | assumption | decide | omega) (by first | assumption | exact set_self (by first | assumption | exact set_self (by assumption) | exact set_ne (by first | assumption | decide | omega) (by assumption)) | exact set_ne (by first | assumption | decide | omega) (by first | assumption | exact set_self (by assumption) | exact set_ne (by first | assumption | decide | omega) (by assumption)))) (by first | decide | omega) (by omega) (by omega) ?_
          refine AW.callSF (pn := 65) rfl rfl mlX4_171 (c_X4_across (d - 1) (by omega) _ _ _ (by omega) (by omega)) rfl rfl (Nat.le_of_ble_eq_true rfl) ⟨by show d - 1 + 1 ≤ d; omega, by show 40 * (d - 1 + 1) ≤ 40 * d; omega⟩ ⟨Nat.zero_le _, Nat.zero_le _⟩ ?_
          refine AW.iast (pn := 66) rfl rfl (by first | assumption | exact set_self (by first | assumption | exact set_self (by first | assumption | exact set_self (by assumption) | exact set_ne (by first | assumption | decide | omega) (by assumption)) | exact set_ne (by first | assumption | decide | omega) (by first | assumption | exact set_self (by assumption) | exact set_ne (by first | assumption | decide | omega) (by assumption))) | exact set_ne (by first | assumption | decide | omega) (by first | assumption | exact set_self (by first | assumption | exact set_self (by assumption) | exact set_ne (by first | assumption | decide | omega) (by assumption)) | exact set_ne (by first | assumption | decide | omega) (by first | assumption | exact set_self (by assumption) | exact set_ne (by first | assumption | decide | omega) (by assumption)))) (by first | decide | omega) (by omega) (by omega) ?_
          refine AW.go 2 (pc' := 28) rfl ?_
          first
            | (refine AW.lw ?_ (ih (k + 1) A (by omega) (by omega) (fun j hj9 => ?_) (by omega))
               · exact (And.intro rfl (And.intro rfl (And.intro rfl trivial)))
               · rw [hA j hj9, k1 h0]
                 exact (fz_stay hp (by omega) (by rw [← hA k.toNat (by omega)]; omega) hj9).symm)
            | (rw [List.set_set, show (11 - k).toNat = 11 - k.toNat by omega]
               refine AW.lw ?_ (ih (k + 1) _ (by omega) (by omega) (fun j hj9 => ?_) (by omega))
               · exact (And.intro rfl (And.intro rfl (And.intro rfl trivial)))
               · have e24 : 24 ≤ F := by rcases ck_ac hF with q | q <;> omega
                 rw [k1 h0, fz_two hF e24 rF.2 hp hw (by omega) (by rw [← hA k.toNat (by omega)]; omega) hj9, ← hA k.toNat (by omega)]
                 unfold up
                 by_cases q1 : j = 11 - k.toNat
                 · rw [if_pos q1, if_pos q1]
                 · rw [if_neg q1, if_neg q1]; exact hA j hj9)
set_option maxHeartbeats 4000000 in
theorem l1_X4_fill (d : Nat) (hd : 4 ≤ d) (h : List AC) (pm rf gm ka wr9 : Int) (hO : h[29]? = some (ao 4 (mo pm rf gm ka wr9))) (f : Nat → Int) (hT : h[31]? = some (ai 0 12 f)) (md : Nat → Int) (hD : h[33]? = some (ai 0 12 md)) (hp : pn f) (F : Int) (rF : 0 ≤ F ∧ F < 48) (hF : ckF F) (hw : wel F f 12 = true) : ∀ (n : Nat) (k : Int), (0 ≤ k) → (k ≤ 12) → ((12 - k).toNat) < n → AW zX4_fill Eq (rmd d) 0 0 0 0 2 [(2, vi k), (0, vr 29), (1, vi F)] [] (h.set 33 (ai 0 12 (mix f md k.toNat))) (fun v w => v = none ∧ ∃ J : Nat → Int, w = h.set 33 (ai 0 12 J) ∧ ∀ j, j < 12 → J j = ffl F (fz F f 12) 12 j) := by
  intro n
  induction n with
  | zero =>
    intro k h0 h1 hn
    exact absurd hn (Nat.not_lt_zero _)
  | succ n ih =>
    intro k h0 h1 hn
    refine AW.go 2 (pc' := 5) rfl ?_
    refine AW.bi (tgt := 26) (pn := 8) rfl (by decide) rfl (by first | exact bI_rng _ | exact ⟨by omega, by omega⟩) (by first | exact bI_rng _ | exact ⟨by omega, by omega⟩) (fun c5 => ?_) (fun c5 => ?_)
    · dsimp only [cmpI] at c5
      refine AW.go 2 (pc' := 28) rfl ?_
      refine AW.lw ?_ (l2_X4_fill d hd h pm rf gm ka wr9 hO f hT md hD hp F rF hF hw _ 0 (mix f md k.toNat) (by omega) (by omega) (fun j hj9 => ?_) (Nat.lt_succ_self _))
      · exact (And.intro rfl (And.intro rfl (And.intro rfl trivial)))
      · rw [mix_in (by omega), show (0 : Int).toNat = 0 from rfl, fz_0]
    · dsimp only [cmpI] at c5
      refine AW.go 1 (pc' := 9) rfl ?_
      refine AW.getf (pn := 12) rfl rfl flX4_19 (by first | assumption | exact set_self (by first | assumption | exact set_self (by first | assumption | exact set_self (by assumption) | exact set_ne (by first | assumption | decide | omega) (by assumption)) | exact set_ne (by first | assumption | decide | omega) (by first | assumption | exact set_self (by assumption) | exact set_ne (by first | assumption | decide | omega) (by assumption))) | exact set_ne (by first | assumption | decide | omega) (by first | assumption | exact set_self (by first | assumption | exact set_self (by assumption) | exact set_ne (by first | assumption | decide | omega) (by assumption)) | exact set_ne (by first | assumption | decide | omega) (by first | assumption | exact set_self (by assumption) | exact set_ne (by first | assumption | decide | omega) (by assumption)))) rfl ?_
      refine AW.go 2 (pc' := 14) rfl ?_
      refine AW.getf (pn := 17) rfl rfl flX4_13 (by first | assumption | exact set_self (by first | assumption | exact set_self (by first | assumption | exact set_self (by assumption) | exact set_ne (by first | assumption | decide | omega) (by assumption)) | exact set_ne (by first | assumption | decide | omega) (by first | assumption | exact set_self (by assumption) | exact set_ne (by first | assumption | decide | omega) (by assumption))) | exact set_ne (by first | assumption | decide | omega) (by first | assumption | exact set_self (by first | assumption | exact set_self (by assumption) | exact set_ne (by first | assumption | decide | omega) (by assumption)) | exact set_ne (by first | assumption | decide | omega) (by first | assumption | exact set_self (by assumption) | exact set_ne (by first | assumption | decide | omega) (by assumption)))) rfl ?_
      refine AW.go 1 (pc' := 18) rfl ?_
      refine AW.iald (pn := 19) rfl rfl (by first | assumption | exact set_self (by first | assumption | exact set_self (by first | assumption | exact set_self (by assumption) | exact set_ne (by first | assumption | decide | omega) (by assumption)) | exact set_ne (by first | assumption | decide | omega) (by first | assumption | exact set_self (by assumption) | exact set_ne (by first | assumption | decide | omega) (by assumption))) | exact set_ne (by first | assumption | decide | omega) (by first | assumption | exact set_self (by first | assumption | exact set_self (by assumption) | exact set_ne (by first | assumption | decide | omega) (by assumption)) | exact set_ne (by first | assumption | decide | omega) (by first | assumption | exact set_self (by assumption) | exact set_ne (by first | assumption | decide | omega) (by assumption)))) (by first | decide | omega) (by omega) (by omega) ?_
      refine AW.iast (pn := 20) rfl rfl (by first | assumption | exact set_self (by first | assumption | exact set_self (by first | assumption | exact set_self (by assumption) | exact set_ne (by first | assumption | decide | omega) (by assumption)) | exact set_ne (by first | assumption | decide | omega) (by first | assumption | exact set_self (by assumption) | exact set_ne (by first | assumption | decide | omega) (by assumption))) | exact set_ne (by first | assumption | decide | omega) (by first | assumption | exact set_self (by first | assumption | exact set_self (by assumption) | exact set_ne (by first | assumption | decide | omega) (by assumption)) | exact set_ne (by first | assumption | decide | omega) (by first | assumption | exact set_self (by assumption) | exact set_ne (by first | assumption | decide | omega) (by assumption)))) (by first | decide | omega) (by omega) (by omega) ?_
      refine AW.go 2 (pc' := 2) rfl ?_
      rw [List.set_set, mix_s, ← k1 h0]
      refine AW.lw ?_ (ih (k + 1) (by omega) (by omega) (by omega))
      exact (And.intro rfl (And.intro rfl (And.intro rfl trivial)))
set_option maxHeartbeats 2000000 in
theorem c_X4_fill (d : Nat) (hd : 4 ≤ d) (h : List AC) (pm rf gm ka wr9 : Int) (hO : h[29]? = some (ao 4 (mo pm rf gm ka wr9))) (f : Nat → Int) (hT : h[31]? = some (ai 0 12 f)) (md : Nat → Int) (hD : h[33]? = some (ai 0 12 md)) (hp : pn f) (F : Int) (rF : 0 ≤ F ∧ F < 48) (hF : ckF F) (hw : wel F f 12 = true) : M0 zX4_fill d [vr 29, vi F] h (fun v w => v = none ∧ ∃ J : Nat → Int, w = h.set 33 (ai 0 12 J) ∧ ∀ j, j < 12 → J j = ffl F (fz F f 12) 12 j) := by
  refine M0.of okX4_fill (Nat.le_of_ble_eq_true rfl) ?_
  refine AW.go 2 (pc' := 2) rfl ?_
  have e := l1_X4_fill d hd h pm rf gm ka wr9 hO f hT md hD hp F rF hF hw _ 0 (by omega) (by omega) (Nat.lt_succ_self _)
  rw [show (0 : Int).toNat = 0 from rfl, mix_0, set_same hD] at e
  refine AW.lw ?_ e
  exact (And.intro rfl (And.intro rfl (And.intro rfl trivial)))
set_option maxHeartbeats 2000000 in
theorem c_X4_filling (d : Nat) (hd : 5 ≤ d) (h : List AC) (pm rf gm ka wr9 : Int) (hO : h[29]? = some (ao 4 (mo pm rf gm ka wr9))) (f : Nat → Int) (hT : h[31]? = some (ai 0 12 f)) (hp : pn f) (hj : pj f) (md : Nat → Int) (hD : h[33]? = some (ai 0 12 md)) (F p : Int) (rF : -2147483648 ≤ F ∧ F < 2147483648) (rp : -2147483648 ≤ p ∧ p < 2147483648) : M0 zX4_filling d [vr 29, vi F, vi p] h (fun v u => v = some (V_fill F f p) ∧ ∃ J : Nat → Int, u = h.set 33 (ai 0 12 J)) := by
  refine M0.of okX4_filling (Nat.le_of_ble_eq_true rfl) ?_
  refine AW.go 1 (pc' := 1) rfl ?_
  refine AW.callSF (pn := 4) rfl rfl mlX4_102 (c_X4_isForm (d - 1) (by omega) _ _ (by omega)) rfl rfl (Nat.le_of_ble_eq_true rfl) ⟨by show d - 1 + 1 ≤ d; omega, by show 40 * (d - 1 + 1) ≤ 40 * d; omega⟩ ⟨Nat.zero_le _, Nat.zero_le _⟩ ?_
  refine AW.bnz (tgt := 9) (pn := 7) rfl (by decide) rfl (fun c4 => ?_) (fun c4 => ?_)
  · refine AW.go 1 (pc' := 10) rfl ?_
    refine AW.callSF (pn := 13) rfl rfl mlX4_86 (c_X4_isPlace (d - 1) (by omega) _ _ (by omega)) rfl rfl (Nat.le_of_ble_eq_true rfl) ⟨by show d - 1 + 1 ≤ d; omega, by show 40 * (d - 1 + 1) ≤ 40 * d; omega⟩ ⟨Nat.zero_le _, Nat.zero_le _⟩ ?_
    refine AW.bnz (tgt := 19) (pn := 16) rfl (by decide) rfl (fun c13 => ?_) (fun c13 => ?_)
    · refine AW.go 2 (pc' := 21) rfl ?_
      refine AW.callVF (pn := 24) rfl rfl mlX4_177 (by first | assumption | exact set_self (by first | assumption | exact set_self (by first | assumption | exact set_self (by assumption) | exact set_ne (by first | assumption | decide | omega) (by assumption)) | exact set_ne (by first | assumption | decide | omega) (by first | assumption | exact set_self (by assumption) | exact set_ne (by first | assumption | decide | omega) (by assumption))) | exact set_ne (by first | assumption | decide | omega) (by first | assumption | exact set_self (by first | assumption | exact set_self (by assumption) | exact set_ne (by first | assumption | decide | omega) (by assumption)) | exact set_ne (by first | assumption | decide | omega) (by first | assumption | exact set_self (by assumption) | exact set_ne (by first | assumption | decide | omega) (by assumption)))) (c_X4_isWell (d - 1) (by omega) _ _ _ _ _ _ (by first | assumption | exact set_self (by first | assumption | exact set_self (by first | assumption | exact set_self (by assumption) | exact set_ne (by first | assumption | decide | omega) (by assumption)) | exact set_ne (by first | assumption | decide | omega) (by first | assumption | exact set_self (by assumption) | exact set_ne (by first | assumption | decide | omega) (by assumption))) | exact set_ne (by first | assumption | decide | omega) (by first | assumption | exact set_self (by first | assumption | exact set_self (by assumption) | exact set_ne (by first | assumption | decide | omega) (by assumption)) | exact set_ne (by first | assumption | decide | omega) (by first | assumption | exact set_self (by assumption) | exact set_ne (by first | assumption | decide | omega) (by assumption)))) _ (by first | assumption | exact set_self (by first | assumption | exact set_self (by first | assumption | exact set_self (by assumption) | exact set_ne (by first | assumption | decide | omega) (by assumption)) | exact set_ne (by first | assumption | decide | omega) (by first | assumption | exact set_self (by assumption) | exact set_ne (by first | assumption | decide | omega) (by assumption))) | exact set_ne (by first | assumption | decide | omega) (by first | assumption | exact set_self (by first | assumption | exact set_self (by assumption) | exact set_ne (by first | assumption | decide | omega) (by assumption)) | exact set_ne (by first | assumption | decide | omega) (by first | assumption | exact set_self (by assumption) | exact set_ne (by first | assumption | decide | omega) (by assumption)))) (by assumption) (by assumption) _ (by omega)) rfl rfl (Nat.le_of_ble_eq_true rfl) ⟨by show d - 1 + 1 ≤ d; omega, by show 40 * (d - 1 + 1) ≤ 40 * d; omega⟩ ⟨Nat.zero_le _, Nat.zero_le _⟩ ?_
      refine AW.bnz (tgt := 30) (pn := 27) rfl (by decide) rfl (fun c24 => ?_) (fun c24 => ?_)
      · refine AW.go 2 (pc' := 32) rfl ?_
        refine AW.callV (pn := 35) rfl rfl mlX4_186 (by first | assumption | exact set_self (by first | assumption | exact set_self (by first | assumption | exact set_self (by assumption) | exact set_ne (by first | assumption | decide | omega) (by assumption)) | exact set_ne (by first | assumption | decide | omega) (by first | assumption | exact set_self (by assumption) | exact set_ne (by first | assumption | decide | omega) (by assumption))) | exact set_ne (by first | assumption | decide | omega) (by first | assumption | exact set_self (by first | assumption | exact set_self (by assumption) | exact set_ne (by first | assumption | decide | omega) (by assumption)) | exact set_ne (by first | assumption | decide | omega) (by first | assumption | exact set_self (by assumption) | exact set_ne (by first | assumption | decide | omega) (by assumption)))) (c_X4_fill (d - 1) (by omega) _ _ _ _ _ _ hO _ hT _ hD hp _ (by omega) c24.1 c24.2) rfl rfl (Nat.le_of_ble_eq_true rfl) ⟨by show d - 1 + 1 ≤ d; omega, by show 40 * (d - 1 + 1) ≤ 40 * d; omega⟩ ⟨Nat.zero_le _, Nat.zero_le _⟩ ?_
        intro v u hq
        obtain ⟨rfl, J, rfl, hJ⟩ := hq
        refine AW.go 1 (pc' := 36) rfl ?_
        refine AW.getf (pn := 39) rfl rfl flX4_19 (by first | assumption | exact set_self (by first | assumption | exact set_self (by first | assumption | exact set_self (by assumption) | exact set_ne (by first | assumption | decide | omega) (by assumption)) | exact set_ne (by first | assumption | decide | omega) (by first | assumption | exact set_self (by assumption) | exact set_ne (by first | assumption | decide | omega) (by assumption))) | exact set_ne (by first | assumption | decide | omega) (by first | assumption | exact set_self (by first | assumption | exact set_self (by assumption) | exact set_ne (by first | assumption | decide | omega) (by assumption)) | exact set_ne (by first | assumption | decide | omega) (by first | assumption | exact set_self (by assumption) | exact set_ne (by first | assumption | decide | omega) (by assumption)))) rfl ?_
        refine AW.go 1 (pc' := 40) rfl ?_
        refine AW.iald (pn := 41) rfl rfl (by first | assumption | exact set_self (by first | assumption | exact set_self (by first | assumption | exact set_self (by assumption) | exact set_ne (by first | assumption | decide | omega) (by assumption)) | exact set_ne (by first | assumption | decide | omega) (by first | assumption | exact set_self (by assumption) | exact set_ne (by first | assumption | decide | omega) (by assumption))) | exact set_ne (by first | assumption | decide | omega) (by first | assumption | exact set_self (by first | assumption | exact set_self (by assumption) | exact set_ne (by first | assumption | decide | omega) (by assumption)) | exact set_ne (by first | assumption | decide | omega) (by first | assumption | exact set_self (by assumption) | exact set_ne (by first | assumption | decide | omega) (by assumption)))) (by first | decide | omega) (by omega) (by omega) ?_
        refine AW.ret rfl rfl (Nat.le_refl _) (Nat.le_refl _) ?_
        refine ⟨congrArg some ?_, ⟨_, rfl⟩⟩
        unfold V_fill
        rw [if_pos c4, if_pos c13, if_pos c24]
        exact hJ _ (by omega)
      · refine AW.go 1 (pc' := 29) rfl ?_
        refine AW.ret rfl rfl (Nat.le_refl _) (Nat.le_refl _) ?_
        refine ⟨congrArg some ?_, md, (set_same hD).symm⟩
        unfold V_fill
        first
          | (rw [if_neg c4]; done)
          | (rw [if_pos c4, if_neg c13]; done)
          | (rw [if_pos c4, if_pos c13, if_neg c24]; done)
    · refine AW.go 1 (pc' := 18) rfl ?_
      refine AW.ret rfl rfl (Nat.le_refl _) (Nat.le_refl _) ?_
      refine ⟨congrArg some ?_, md, (set_same hD).symm⟩
      unfold V_fill
      first
        | (rw [if_neg c4]; done)
        | (rw [if_pos c4, if_neg c13]; done)
        | (rw [if_pos c4, if_pos c13, if_neg c24]; done)
  · refine AW.go 1 (pc' := 8) rfl ?_
    refine AW.ret rfl rfl (Nat.le_refl _) (Nat.le_refl _) ?_
    refine ⟨congrArg some ?_, md, (set_same hD).symm⟩
    unfold V_fill
    first
      | (rw [if_neg c4]; done)
      | (rw [if_pos c4, if_neg c13]; done)
      | (rw [if_pos c4, if_pos c13, if_neg c24]; done)
