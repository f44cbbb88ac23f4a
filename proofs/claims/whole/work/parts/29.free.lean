theorem pc_or (u t : Nat) : ∀ n, cntN (fun i => (u ||| 2 ^ t).testBit i) n = cntN (fun i => u.testBit i) n + (if t < n ∧ ¬ u.testBit t = true then 1 else 0)
  | 0 => by rw [if_neg (by omega)]; rfl
  | n + 1 => by
    have ih := pc_or u t n
    show cntN (fun i => (u ||| 2 ^ t).testBit i) n + (if (u ||| 2 ^ t).testBit n = true then 1 else 0) = cntN (fun i => u.testBit i) n + (if u.testBit n = true then 1 else 0) + _
    rw [ih, bit_set]
    by_cases e : n = t
    · subst e
      rw [if_neg (by omega)]
      by_cases q : u.testBit n = true
      · simp [q]
      · simp [q]
    · have e2 : decide (n = t) = false := decide_eq_false e
      rw [e2, Bool.or_false]
      have e3 : (if t < n + 1 ∧ ¬ u.testBit t = true then 1 else 0) = (if t < n ∧ ¬ u.testBit t = true then 1 else 0 : Nat) := by
        by_cases q : t < n ∧ ¬ u.testBit t = true
        · rw [if_pos q, if_pos (show t < n + 1 ∧ ¬ u.testBit t = true from ⟨by omega, q.2⟩)]
        · rw [if_neg q, if_neg (show ¬ (t < n + 1 ∧ ¬ u.testBit t = true) from fun w => q ⟨by omega, w.2⟩)]
      rw [e3]; omega
theorem tbt_cnt {f : Nat → Int} (hf : pn f) : ∀ n, n ≤ 12 → cntN (fun i => (tbt f n).testBit i) 12 + hol f n ≤ n
  | 0, _ => by
    have : cntN (fun i => (tbt f 0).testBit i) 12 = 0 := by unfold tbt; decide
    rw [this]; exact Nat.le_refl 0
  | n + 1, h => by
    have ih := tbt_cnt hf n (by omega)
    have hh : hol f (n + 1) = hol f n + (if decide (f n = -6) = true then 1 else 0) := rfl
    rw [hh]
    by_cases e : f n = -6
    · have e1 : tbt f (n + 1) = tbt f n := if_pos e
      rw [e1, if_pos (decide_eq_true e)]; omega
    · have e1 : tbt f (n + 1) = tbt f n ||| 2 ^ (f n).toNat := if_neg e
      rw [e1, pc_or, if_neg (fun q => e (of_decide_eq_true q))]
      split <;> omega
theorem cnt_all (p : Nat → Bool) : ∀ n, allN p n = true → cntN p n = n
  | 0, _ => rfl
  | n + 1, h => by
    unfold allN at h
    rw [Bool.and_eq_true] at h
    show cntN p n + (if p n = true then 1 else 0) = n + 1
    rw [cnt_all p n h.1, if_pos h.2]
theorem cnt_pos {p : Nat → Bool} {k : Nat} : ∀ {n : Nat}, k < n → p k = true → 1 ≤ cntN p n
  | 0, h, _ => by omega
  | n + 1, h, hp => by
    show 1 ≤ cntN p n + (if p n = true then 1 else 0)
    by_cases e : k = n
    · subst e; rw [if_pos hp]; omega
    · have := cnt_pos (n := n) (by omega) hp; omega
theorem lz_lt {f : Nat → Int} (hf : pn f) {k : Nat} (hk : k < 12) (h6 : f k = -6) : lz (tbt f 12) < 12 := by
  obtain ⟨h1, -, h2, h3⟩ := lz_all (tbt f 12) (tbt_lt hf 12 (Nat.le_refl _))
  rcases Nat.lt_or_ge (lz (tbt f 12)) 12 with q | q
  · exact q
  · have e : lz (tbt f 12) = 12 := by omega
    rw [e] at h3
    have c1 := cnt_all _ _ h3
    have c2 := tbt_cnt hf 12 (Nat.le_refl _)
    have c3 : 1 ≤ hol f 12 := cnt_pos hk (decide_eq_true h6)
    omega
theorem lz_free {f : Nat → Int} (hf : pn f) {j : Nat} (hj : j < 12) : ¬ f j = (lz (tbt f 12) : Int) := by
  obtain ⟨-, -, h2, -⟩ := lz_all (tbt f 12) (tbt_lt hf 12 (Nat.le_refl _))
  intro q
  have := (tbt_bit hf (lz (tbt f 12)) 12 (Nat.le_refl _)).mpr ⟨j, hj, q⟩
  rw [h2] at this; cases this
theorem lz_used {f : Nat → Int} (hf : pn f) {t : Nat} (ht : t < lz (tbt f 12)) : ∃ j, j < 12 ∧ f j = (t : Int) := by
  obtain ⟨h1, -, -, h3⟩ := lz_all (tbt f 12) (tbt_lt hf 12 (Nat.le_refl _))
  exact (tbt_bit hf t 12 (Nat.le_refl _)).mp ((allN_iff _ _).mp h3 t ht)
theorem pn_up {f : Nat → Int} (hf : pn f) {k : Nat} {t : Int} (ht : 0 ≤ t ∧ t < 12) : pn (up f k t) := by
  intro j hj
  unfold up
  split
  · right; exact ht
  · exact hf j hj
theorem big_bit {u t : Nat} (hu : u < 4096) (ht : 12 ≤ t) : u.testBit t = false := Nat.testBit_lt_two_pow (Nat.lt_of_lt_of_le hu (by rw [show 4096 = 2 ^ 12 from rfl]; exact Nat.pow_le_pow_right (by decide) ht))
theorem tbt_up {f : Nat → Int} (hf : pn f) {k : Nat} (hk : k < 12) {t : Int} (ht : 0 ≤ t ∧ t < 12) (h6 : f k = -6 ∨ f k = t) : tbt (up f k t) 12 = tbt f 12 ||| 2 ^ t.toNat := by
  apply Nat.eq_of_testBit_eq
  intro i
  have hp := pn_up hf (k := k) ht
  rcases Nat.lt_or_ge i 12 with hi | hi
  · rw [Bool.eq_iff_iff, tbt_bit hp i 12 (Nat.le_refl _), bit_set, Bool.or_eq_true, tbt_bit hf i 12 (Nat.le_refl _), decide_eq_true_eq]
    constructor
    · rintro ⟨j, h1, h2⟩
      unfold up at h2
      split at h2
      · right; omega
      · left; exact ⟨j, h1, h2⟩
    · rintro (⟨j, h1, h2⟩ | h2)
      · by_cases e : j = k
        · subst e
          refine ⟨j, h1, ?_⟩
          unfold up; rw [if_pos rfl]; omega
        · exact ⟨j, h1, by unfold up; rw [if_neg e]; exact h2⟩
      · exact ⟨k, hk, by unfold up; rw [if_pos rfl]; omega⟩
  · rw [big_bit (tbt_lt hp 12 (Nat.le_refl _)) hi, big_bit (Nat.or_lt_two_pow (n := 12) (tbt_lt hf 12 (Nat.le_refl _)) (pow12 ht.1 ht.2)) hi]
def ckF (F : Int) : Prop := F = 0 ∨ F = 30 ∨ 36 < F ∧ F % 2 = 1
theorem mv_invol {F t : Int} (hF : ckF F) (hb : F < 48) (ht : 0 ≤ t ∧ t < 12) : mv F (mv F t) = t := by
  unfold mv ckF at *
  split
  · omega
  · omega
theorem ck_ac {F : Int} (hF : ckF F) : F = 0 ∨ 24 ≤ F := by unfold ckF at hF; omega
theorem mv_0 {t : Int} (ht : 0 ≤ t ∧ t < 12) : mv 0 t = t := by
  unfold mv; rw [if_neg (by decide)]; omega
/-- told tones answer each other -/
def FI (F : Int) (f : Nat → Int) : Prop := pn f ∧ ∀ j, j < 12 → ¬ f j = -6 → f (acN F j) = mv F (f j)
theorem FI_sym {F : Int} {f : Nat → Int} (h : FI F f) {j : Nat} (hj : j < 12) (h6 : f j = -6) : f (acN F j) = -6 := by
  apply Decidable.byContradiction
  intro q
  have h1 := h.2 _ (acN_lt hj) q
  rw [acN_inv hj, h6] at h1
  have := mv_b F (f (acN F j))
  omega
def fr1 (F : Int) (f : Nat → Int) (k : Nat) : Nat → Int := if f k = -6 then up (up f k (lz (tbt f 12) : Int)) (acN F k) (mv F (lz (tbt f 12) : Int)) else f
def ffl (F : Int) (f : Nat → Int) : Nat → Nat → Int
  | 0 => f
  | n + 1 => fr1 F (ffl F f n) n
theorem FI_step {F : Int} (hF : ckF F) (hb : F < 48) {f : Nat → Int} (h : FI F f) {k : Nat} (hk : k < 12) : FI F (fr1 F f k) := by
  unfold fr1
  split
  · next h6 =>
    have hl := lz_lt h.1 hk h6
    have ht : 0 ≤ (lz (tbt f 12) : Int) ∧ (lz (tbt f 12) : Int) < 12 := by omega
    have hm := mv_b F (lz (tbt f 12) : Int)
    refine ⟨pn_up (pn_up h.1 ht) hm, fun j hj hn => ?_⟩
    have hinv := mv_invol hF hb ht
    have ha := acN_lt (F := F) hk
    have hak := FI_sym h hk h6
    by_cases e1 : j = acN F k
    · subst e1
      rw [acN_inv hk]
      have v1 : up (up f k (lz (tbt f 12) : Int)) (acN F k) (mv F (lz (tbt f 12) : Int)) (acN F k) = mv F (lz (tbt f 12) : Int) := by unfold up; rw [if_pos rfl]
      rw [v1]
      by_cases e2 : k = acN F k
      · rw [← e2] at v1 ⊢
        have : F = 0 := by
          rcases ck_ac hF with q | q
          · exact q
          · unfold acN at e2; rw [if_pos q] at e2; omega
        subst this
        rw [mv_0 ht] at v1 ⊢
        rw [v1, mv_0 ht]
      · rw [hinv]
        unfold up
        rw [if_neg e2, if_pos rfl]
    · by_cases e2 : j = k
      · subst e2
        have v2 : up (up f j (lz (tbt f 12) : Int)) (acN F j) (mv F (lz (tbt f 12) : Int)) j = (lz (tbt f 12) : Int) := by
          unfold up; rw [if_neg e1, if_pos rfl]
        rw [v2]
        unfold up; rw [if_pos rfl]
      · have v3 : up (up f k (lz (tbt f 12) : Int)) (acN F k) (mv F (lz (tbt f 12) : Int)) j = f j := by
          unfold up; rw [if_neg e1, if_neg e2]
        rw [v3] at hn ⊢
        have e3 : acN F j ≠ acN F k := fun q => e2 (by rw [← acN_inv hj, q, acN_inv hk])
        have e4 : acN F j ≠ k := fun q => e1 (by rw [← q, acN_inv hj])
        have v4 : up (up f k (lz (tbt f 12) : Int)) (acN F k) (mv F (lz (tbt f 12) : Int)) (acN F j) = f (acN F j) := by
          unfold up; rw [if_neg e3, if_neg e4]
        rw [v4]
        exact h.2 j hj hn
  · exact h
theorem FI_ffl {F : Int} (hF : ckF F) (hb : F < 48) {f : Nat → Int} (h : FI F f) : ∀ n, n ≤ 12 → FI F (ffl F f n)
  | 0, _ => h
  | n + 1, hn => FI_step hF hb (FI_ffl hF hb h n (by omega)) (by omega)
/-- what was forced: told tones answer each other -/
theorem FI_fz {F : Int} (hF : ckF F) (hb : F < 48) {f : Nat → Int} (hf : pn f) (hw : wel F f 12 = true) : FI F (fz F f 12) := by
  refine ⟨fun j hj => fz_b hf 12 hj, fun j hj hn => ?_⟩
  have ha := acN_lt (F := F) hj
  have b1 := hf j hj
  have b2 := hf _ ha
  by_cases e : f j = -6
  · -- filled from across
    have e2 : ¬ f (acN F j) = -6 := fun q => hn (by unfold fz; rw [if_pos e, if_neg (fun w => w.2 q)])
    have v1 : fz F f 12 j = mv F (f (acN F j)) := by unfold fz; rw [if_pos e, if_pos ⟨ha, e2⟩]
    rw [fz_told e2, v1, mv_invol hF hb (by omega)]
  · have v1 := fz_told (F := F) (k := 12) e
    rw [v1]
    have q := (wek_iff F f j).mp ((allN_iff _ _).mp hw j hj)
    rcases q with q | q | ⟨q, -⟩
    · exact absurd q e
    · have hm := mv_b F (f j)
      rw [fz_told (by omega)]; exact q
    · unfold fz
      rw [if_pos q, acN_inv hj, if_pos ⟨hj, e⟩]

set_option maxHeartbeats 4000000 in
theorem l_X3_fillFree (d : Nat) (hd : 3 ≤ d) (h : List AC) (A : Nat) (f : Nat → Int) (hA : h[A]? = some (ai 0 12 f)) (F : Int) (rF : 0 ≤ F ∧ F < 48) (hF : ckF F) (hf : FI F f) : ∀ (n : Nat) (k : Int), (0 ≤ k) → (k ≤ 12) → ((12 - k).toNat) < n → AW zX3_fillFree Eq (rmd d) 0 0 0 0 7 [(3, vi k), (2, vi (tbt (ffl F f k.toNat) 12 : Int)), (0, vr A), (1, vi F)] [] (h.set A (ai 0 12 (ffl F f k.toNat))) (fun v w => v = none ∧ w = h.set A (ai 0 12 (ffl F f 12))) := by
  intro n
  induction n with
  | zero =>
    intro k h0 h1 hn
    exact absurd hn (Nat.not_lt_zero _)
  | succ n ih =>
    intro k h0 h1 hn
    have hG := FI_ffl hF rF.2 hf k.toNat (by omega)
    refine AW.go 2 (pc' := 10) rfl ?_
    refine AW.bi (tgt := 69) (pn := 13) rfl (by decide) rfl (by first | exact bI_rng _ | exact ⟨by omega, by omega⟩) (by first | exact bI_rng _ | exact ⟨by omega, by omega⟩) (fun c10 => ?_) (fun c10 => ?_)
    · dsimp only [cmpI] at c10
      refine AW.retv rfl rfl (Nat.le_refl _) (Nat.le_refl _) ?_
      refine ⟨rfl, ?_⟩
      rw [show k.toNat = 12 by omega]
    · dsimp only [cmpI] at c10
      refine AW.go 2 (pc' := 15) rfl ?_
      have b0 := hG.1 k.toNat (by omega)
      refine AW.iald (pn := 16) rfl rfl (by first | assumption | exact set_self (by first | assumption | exact set_self (by first | assumption | exact set_self (by assumption) | exact set_ne (by first | assumption | decide | omega) (by assumption)) | exact set_ne (by first | assumption | decide | omega) (by first | assumption | exact set_self (by assumption) | exact set_ne (by first | assumption | decide | omega) (by assumption))) | exact set_ne (by first | assumption | decide | omega) (by first | assumption | exact set_self (by first | assumption | exact set_self (by assumption) | exact set_ne (by first | assumption | decide | omega) (by assumption)) | exact set_ne (by first | assumption | decide | omega) (by first | assumption | exact set_self (by assumption) | exact set_ne (by first | assumption | decide | omega) (by assumption)))) (by first | decide | omega) (by omega) (by omega) ?_
      refine AW.go 1 (pc' := 18) rfl ?_
      refine AW.bi (tgt := 63) (pn := 21) rfl (by decide) rfl (by first | exact bI_rng _ | exact ⟨by omega, by omega⟩) (by first | exact bI_rng _ | exact ⟨by omega, by omega⟩) (fun c18 => ?_) (fun c18 => ?_)
      · dsimp only [cmpI] at c18
        refine AW.go 2 (pc' := 7) rfl ?_
        first
          | (have e9 : ffl F f (k + 1).toNat = ffl F f k.toNat := by
               rw [k1 h0]; show fr1 F (ffl F f k.toNat) k.toNat = _; unfold fr1; rw [if_neg c18]
             have e := ih (k + 1) (by omega) (by omega) (by omega)
             rw [e9] at e
             refine AW.lw ?_ e
             exact (And.intro rfl (And.intro rfl (And.intro rfl (And.intro rfl trivial)))))
          | (have c19 : ffl F f k.toNat k.toNat = -6 := Decidable.not_not.mp c18
             have e9 : ffl F f (k + 1).toNat = up (up (ffl F f k.toNat) k.toNat (lz (tbt (ffl F f k.toNat) 12) : Int)) (acN F k.toNat) (mv F (lz (tbt (ffl F f k.toNat) 12) : Int)) := by
               rw [k1 h0]; show fr1 F (ffl F f k.toNat) k.toNat = _; unfold fr1; rw [if_pos c19]
             have hak := FI_sym hG (show k.toNat < 12 by omega) c19
             have e10 : tbt (ffl F f (k + 1).toNat) 12 = tbt (ffl F f k.toNat) 12 ||| (2 ^ ((lz (tbt (ffl F f k.toNat) 12) : Nat) : Int).toNat ||| 2 ^ (mv F (lz (tbt (ffl F f k.toNat) 12) : Int)).toNat) := by
               rw [e9, tbt_up (pn_up hG.1 (by omega)) aL hm ?_, tbt_up hG.1 (by omega) (by omega) (Or.inl c19), Nat.or_assoc]
               unfold up
               by_cases q : acN F k.toNat = k.toNat
               · right
                 rw [if_pos q]
                 have : F = 0 := by
                   rcases ck_ac hF with q2 | q2
                   · exact q2
                   · unfold acN at q; rw [if_pos q2] at q; omega
                 subst this
                 rw [mv_0 (by omega)]
               · left; rw [if_neg q]; exact hak
             have e := ih (k + 1) (by omega) (by omega) (by omega)
             rw [e10, e9] at e
             rw [List.set_set, List.set_set, Int.toNat_natCast]
             refine AW.lw ?_ e
             exact (And.intro rfl (And.intro rfl (And.intro rfl (And.intro rfl trivial)))))
      · dsimp only [cmpI] at c18
        refine AW.go 2 (pc' := 23) rfl ?_
        refine AW.inot (pn := 24) rfl rfl   ?_
        refine AW.callSF (pn := 27) rfl rfl mlX3_205 (c_ntz (d - 1) _ _ (tbt_lt hG.1 12 (Nat.le_refl _))) rfl rfl (Nat.le_of_ble_eq_true rfl) ⟨by show d - 1 + 1 ≤ d; omega, by show 40 * (d - 1 + 1) ≤ 40 * d; omega⟩ ⟨Nat.zero_le _, Nat.zero_le _⟩ ?_
        have hl := lz_lt hG.1 (show k.toNat < 12 by omega) (by omega)
        refine AW.go 3 (pc' := 32) rfl ?_
        refine AW.callSF (pn := 35) rfl rfl mlX3_95 (c_X3_turnedTone (d - 1) (by omega) _ _ _ (by omega) (by omega)) rfl rfl (Nat.le_of_ble_eq_true rfl) ⟨by show d - 1 + 1 ≤ d; omega, by show 40 * (d - 1 + 1) ≤ 40 * d; omega⟩ ⟨Nat.zero_le _, Nat.zero_le _⟩ ?_
        refine AW.go 1 (pc' := 37) rfl ?_
        have hm := mv_b F (lz (tbt (ffl F f k.toNat) 12) : Int)
        refine AW.go 3 (pc' := 41) rfl ?_
        refine AW.iast (pn := 42) rfl rfl (by first | assumption | exact set_self (by first | assumption | exact set_self (by first | assumption | exact set_self (by assumption) | exact set_ne (by first | assumption | decide | omega) (by assumption)) | exact set_ne (by first | assumption | decide | omega) (by first | assumption | exact set_self (by assumption) | exact set_ne (by first | assumption | decide | omega) (by assumption))) | exact set_ne (by first | assumption | decide | omega) (by first | assumption | exact set_self (by first | assumption | exact set_self (by assumption) | exact set_ne (by first | assumption | decide | omega) (by assumption)) | exact set_ne (by first | assumption | decide | omega) (by first | assumption | exact set_self (by assumption) | exact set_ne (by first | assumption | decide | omega) (by assumption)))) (by first | decide | omega) (by omega) (by omega) ?_
        refine AW.go 3 (pc' := 45) rfl ?_
        refine AW.callSF (pn := 48) rfl rfl mlX3_202 (c_X3_placeAcross (d - 1) (by omega) _ _ _ (by omega)) rfl rfl (Nat.le_of_ble_eq_true rfl) ⟨by show d - 1 + 1 ≤ d; omega, by show 40 * (d - 1 + 1) ≤ 40 * d; omega⟩ ⟨Nat.zero_le _, Nat.zero_le _⟩ ?_
        have eA : (if 24 ≤ F then 11 - k else k) = ((acN F k.toNat : Nat) : Int) := by unfold acN; split <;> omega
        have aL := acN_lt (F := F) (show k.toNat < 12 by omega)
        rw [eA]
        refine AW.go 1 (pc' := 50) rfl ?_
        refine AW.iast (pn := 51) rfl rfl (by first | assumption | exact set_self (by first | assumption | exact set_self (by first | assumption | exact set_self (by assumption) | exact set_ne (by first | assumption | decide | omega) (by assumption)) | exact set_ne (by first | assumption | decide | omega) (by first | assumption | exact set_self (by assumption) | exact set_ne (by first | assumption | decide | omega) (by assumption))) | exact set_ne (by first | assumption | decide | omega) (by first | assumption | exact set_self (by first | assumption | exact set_self (by assumption) | exact set_ne (by first | assumption | decide | omega) (by assumption)) | exact set_ne (by first | assumption | decide | omega) (by first | assumption | exact set_self (by assumption) | exact set_ne (by first | assumption | decide | omega) (by assumption)))) (by first | decide | omega) (by omega) (by omega) ?_
        refine AW.go 3 (pc' := 55) rfl ?_
        refine AW.shl1 (pn := 56) rfl rfl (by omega) (by omega) ?_
        refine AW.go 2 (pc' := 59) rfl ?_
        refine AW.shl1 (pn := 60) rfl rfl (by omega) (by omega) ?_
        first | refine AW.orN (pn := 61) rfl rfl ?_ | refine AW.orN (y := 0) (pn := 61) rfl rfl ?_
        first | refine AW.orN (pn := 62) rfl rfl ?_ | refine AW.orN (y := 0) (pn := 62) rfl rfl ?_
        refine AW.go 3 (pc' := 7) rfl ?_
        first
          | (have e9 : ffl F f (k + 1).toNat = ffl F f k.toNat := by
               rw [k1 h0]; show fr1 F (ffl F f k.toNat) k.toNat = _; unfold fr1; rw [if_neg c18]
             have e := ih (k + 1) (by omega) (by omega) (by omega)
             rw [e9] at e
             refine AW.lw ?_ e
             exact (And.intro rfl (And.intro rfl (And.intro rfl (And.intro rfl trivial)))))
          | (have c19 : ffl F f k.toNat k.toNat = -6 := Decidable.not_not.mp c18
             have e9 : ffl F f (k + 1).toNat = up (up (ffl F f k.toNat) k.toNat (lz (tbt (ffl F f k.toNat) 12) : Int)) (acN F k.toNat) (mv F (lz (tbt (ffl F f k.toNat) 12) : Int)) := by
               rw [k1 h0]; show fr1 F (ffl F f k.toNat) k.toNat = _; unfold fr1; rw [if_pos c19]
             have hak := FI_sym hG (show k.toNat < 12 by omega) c19
             have e10 : tbt (ffl F f (k + 1).toNat) 12 = tbt (ffl F f k.toNat) 12 ||| (2 ^ ((lz (tbt (ffl F f k.toNat) 12) : Nat) : Int).toNat ||| 2 ^ (mv F (lz (tbt (ffl F f k.toNat) 12) : Int)).toNat) := by
               rw [e9, tbt_up (pn_up hG.1 (by omega)) aL hm ?_, tbt_up hG.1 (by omega) (by omega) (Or.inl c19), Nat.or_assoc]
               unfold up
               by_cases q : acN F k.toNat = k.toNat
               · right
                 rw [if_pos q]
                 have : F = 0 := by
                   rcases ck_ac hF with q2 | q2
                   · exact q2
                   · unfold acN at q; rw [if_pos q2] at q; omega
                 subst this
                 rw [mv_0 (by omega)]
               · left; rw [if_neg q]; exact hak
             have e := ih (k + 1) (by omega) (by omega) (by omega)
             rw [e10, e9] at e
             rw [List.set_set, List.set_set, Int.toNat_natCast]
             refine AW.lw ?_ e
             exact (And.intro rfl (And.intro rfl (And.intro rfl (And.intro rfl trivial)))))
set_option maxHeartbeats 2000000 in
theorem c_X3_fillFree (d : Nat) (hd : 3 ≤ d) (h : List AC) (A : Nat) (f : Nat → Int) (hA : h[A]? = some (ai 0 12 f)) (F : Int) (rF : 0 ≤ F ∧ F < 48) (hF : ckF F) (hf : FI F f) : MV zX3_fillFree d [vr A, vi F] h (h.set A (ai 0 12 (ffl F f 12))) := by
  refine M0.of okX3_fillFree (Nat.le_of_ble_eq_true rfl) ?_
  refine AW.go 1 (pc' := 1) rfl ?_
  refine AW.callSF (pn := 4) rfl rfl mlX3_199 (c_X3_toneBits (d - 1) (by omega) _ _ _ hA hf.1) rfl rfl (Nat.le_of_ble_eq_true rfl) ⟨by show d - 1 + 1 ≤ d; omega, by show 40 * (d - 1 + 1) ≤ 40 * d; omega⟩ ⟨Nat.zero_le _, Nat.zero_le _⟩ ?_
  refine AW.go 3 (pc' := 7) rfl ?_
  have e := l_X3_fillFree d hd h A f hA F rF hF hf _ 0 (by omega) (by omega) (Nat.lt_succ_self _)
  rw [show ffl F f (0 : Int).toNat = f from rfl, set_same hA] at e
  refine AW.lw ?_ e
  exact (And.intro rfl (And.intro rfl (And.intro rfl (And.intro rfl trivial))))
