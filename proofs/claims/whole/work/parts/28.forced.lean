def acN (F : Int) (k : Nat) : Nat := if 24 ≤ F then 11 - k else k
theorem acN_lt {F : Int} {k : Nat} (h : k < 12) : acN F k < 12 := by unfold acN; split <;> omega
theorem acN_inv {F : Int} {k : Nat} (h : k < 12) : acN F (acN F k) = k := by unfold acN; split <;> omega
theorem mv_inj {F a b : Int} (ha : 0 ≤ a ∧ a < 12) (hb : 0 ≤ b ∧ b < 12) (h : mv F a = mv F b) : a = b := by
  unfold mv at h; split at h <;> omega
def pj (f : Nat → Int) : Prop := ∀ i j : Nat, i < 12 → j < 12 → f i = f j → f i ≠ -6 → i = j
def wek (F : Int) (f : Nat → Int) (k : Nat) : Bool := decide (f k = -6) || decide (f (acN F k) = mv F (f k)) || (decide (f (acN F k) = -6) && allN (fun j => !decide (f j = mv F (f k))) 12)
def wel (F : Int) (f : Nat → Int) (n : Nat) : Bool := allN (wek F f) n
theorem wek_iff (F : Int) (f : Nat → Int) (k : Nat) : wek F f k = true ↔ f k = -6 ∨ f (acN F k) = mv F (f k) ∨ (f (acN F k) = -6 ∧ ∀ j, j < 12 → ¬ f j = mv F (f k)) := by
  unfold wek
  simp only [Bool.or_eq_true, Bool.and_eq_true, decide_eq_true_eq, allN_iff, Bool.not_eq_true', decide_eq_false_iff_not, or_assoc]
def fz (F : Int) (f : Nat → Int) (k : Nat) (j : Nat) : Int := if f j = -6 then (if acN F j < k ∧ ¬ f (acN F j) = -6 then mv F (f (acN F j)) else -6) else f j
theorem fz_0 (F : Int) (f : Nat → Int) (j : Nat) : fz F f 0 j = f j := by
  unfold fz
  split
  · rw [if_neg (by omega)]; omega
  · rfl
theorem fz_told {F : Int} {f : Nat → Int} {k j : Nat} (h : ¬ f j = -6) : fz F f k j = f j := if_neg h
theorem fz_b {F : Int} {f : Nat → Int} (hf : pn f) (k : Nat) {j : Nat} (hj : j < 12) : fz F f k j = -6 ∨ (0 ≤ fz F f k j ∧ fz F f k j < 12) := by
  have h1 := hf j hj
  have h2 := mv_b F (f (acN F j))
  unfold fz
  (repeat' split) <;> omega
/-- the place across from k is filled by k alone -/
theorem fz_ac {F : Int} {f : Nat → Int} {k : Nat} (hk : k < 12) : fz F f k (acN F k) = f (acN F k) := by
  unfold fz
  split
  · rw [acN_inv hk, if_neg (by omega)]; omega
  · rfl
theorem fz_s {F : Int} {f : Nat → Int} {k j : Nat} (hk : k < 12) (hj : j < 12) (h : j ≠ acN F k ∨ f k = -6 ∨ ¬ f (acN F k) = -6) : fz F f (k + 1) j = fz F f k j := by
  unfold fz
  by_cases e : f j = -6
  · rw [if_pos e, if_pos e]
    by_cases e2 : acN F j = k
    · have ej : j = acN F k := by rw [← e2, acN_inv hj]
      have h3 : f k = -6 := by
        rcases h with q | q | q
        · exact absurd ej q
        · exact q
        · rw [← ej] at q; exact absurd e q
      rw [e2, if_neg (fun q => q.2 h3), if_neg (fun q => q.2 h3)]
    · by_cases e3 : acN F j < k ∧ ¬ f (acN F j) = -6
      · rw [if_pos e3, if_pos ⟨by omega, e3.2⟩]
      · rw [if_neg e3, if_neg (fun q => e3 ⟨by omega, q.2⟩)]
  · rw [if_neg e, if_neg e]
theorem fz_new {F : Int} {f : Nat → Int} {k : Nat} (hk : k < 12) (h1 : ¬ f k = -6) (h2 : f (acN F k) = -6) : fz F f (k + 1) (acN F k) = mv F (f k) := by
  unfold fz
  rw [if_pos h2, acN_inv hk, if_pos ⟨by omega, h1⟩]
theorem fz_due {F : Int} {f : Nat → Int} (hf : pn f) (hp : pj f) {k : Nat} (hk : k < 12) (h1 : ¬ f k = -6) {j : Nat} (hj : j < 12) (e : fz F f k j = mv F (f k)) : f j = mv F (f k) := by
  have hm := mv_b F (f k)
  unfold fz at e
  split at e
  · split at e
    · next h2 =>
      have ha := acN_lt (F := F) hj
      have b1 := hf k hk
      have b2 := hf _ ha
      have e2 := mv_inj (by omega) (by omega) e
      have := hp _ _ ha hk e2 (by omega)
      omega
    · omega
  · exact e
theorem tbt_bit {f : Nat → Int} (hf : pn f) (t : Nat) : ∀ n, n ≤ 12 → ((tbt f n).testBit t = true ↔ ∃ j, j < n ∧ f j = (t : Int))
  | 0, _ => by
    constructor
    · intro h; unfold tbt at h; simp at h
    · rintro ⟨j, hj, -⟩; omega
  | n + 1, h => by
    have ih := tbt_bit hf t n (by omega)
    have hb := hf n (by omega)
    unfold tbt
    split
    · next e =>
      rw [ih]
      constructor
      · rintro ⟨j, h1, h2⟩; exact ⟨j, by omega, h2⟩
      · rintro ⟨j, h1, h2⟩
        by_cases q : j = n
        · subst q; omega
        · exact ⟨j, by omega, h2⟩
    · next e =>
      rw [bit_set, Bool.or_eq_true, ih, decide_eq_true_eq]
      constructor
      · rintro (⟨j, h1, h2⟩ | h2)
        · exact ⟨j, by omega, h2⟩
        · exact ⟨n, by omega, by omega⟩
      · rintro ⟨j, h1, h2⟩
        by_cases q : j = n
        · subst q; right; omega
        · left; exact ⟨j, by omega, h2⟩

set_option maxHeartbeats 4000000 in
theorem l_X3_fillForced (d : Nat) (hd : 3 ≤ d) (h : List AC) (A B : Nat) (hAB : A ≠ B) (f sc : Nat → Int) (hA : h[A]? = some (ai 0 12 f)) (hB : h[B]? = some (ai 0 12 sc)) (hf : pn f) (hp : pj f) (F : Int) (rF : 0 ≤ F ∧ F < 48) : ∀ (n : Nat) (k : Int) (I : Nat → Int) (u : Nat), (0 ≤ k) → (k ≤ 12) → (∀ j : Nat, j < 12 → I j = fz F f k.toNat j) → (u < 4096) → (∀ t : Nat, t < 12 → (u.testBit t = true ↔ ∃ j, j < 12 ∧ fz F f k.toNat j = (t : Int))) → (wel F f k.toNat = true) → ((12 - k).toNat) < n → AW zX3_fillForced Eq (rmd d) 0 0 0 0 17 [(4, vi k), (3, vi (u : Int)), (0, vr A), (1, vi F), (2, vr B)] [] (h.set B (ai 0 12 I)) (fun v w => v = some (bI (wel F f 12 = true)) ∧ ∃ I : Nat → Int, w = h.set B (ai 0 12 I) ∧ (wel F f 12 = true → ∀ j, j < 12 → I j = fz F f 12 j)) := by
  intro n
  induction n with
  | zero =>
    intro k I u h0 h1 hI hlt hu hw hn
    exact absurd hn (Nat.not_lt_zero _)
  | succ n ih =>
    intro k I u h0 h1 hI hlt hu hw hn
    refine AW.go 2 (pc' := 21) rfl ?_
    refine AW.bi (tgt := 102) (pn := 24) rfl (by decide) rfl (by first | exact bI_rng _ | exact ⟨by omega, by omega⟩) (by first | exact bI_rng _ | exact ⟨by omega, by omega⟩) (fun c21 => ?_) (fun c21 => ?_)
    · dsimp only [cmpI] at c21
      refine AW.go 1 (pc' := 103) rfl ?_
      refine AW.retz rfl rfl (by first | exact bI_01 _ | decide) (Nat.le_refl _) (Nat.le_refl _) ?_
      rw [show k.toNat = 12 by omega] at hw hI
      exact ⟨congrArg some (bI_t hw).symm, I, rfl, fun _ => hI⟩
    · dsimp only [cmpI] at c21
      refine AW.go 2 (pc' := 27) rfl ?_
      refine AW.iald (pn := 28) rfl rfl (by first | assumption | exact set_self (by first | assumption | exact set_self (by first | assumption | exact set_self (by assumption) | exact set_ne (by first | assumption | decide | omega) (by assumption)) | exact set_ne (by first | assumption | decide | omega) (by first | assumption | exact set_self (by assumption) | exact set_ne (by first | assumption | decide | omega) (by assumption))) | exact set_ne (by first | assumption | decide | omega) (by first | assumption | exact set_self (by first | assumption | exact set_self (by assumption) | exact set_ne (by first | assumption | decide | omega) (by assumption)) | exact set_ne (by first | assumption | decide | omega) (by first | assumption | exact set_self (by assumption) | exact set_ne (by first | assumption | decide | omega) (by assumption)))) (by first | decide | omega) (by omega) (by omega) ?_
      have b0 := hf k.toNat (by omega)
      refine AW.go 1 (pc' := 30) rfl ?_
      refine AW.bi (tgt := 96) (pn := 33) rfl (by decide) rfl (by first | exact bI_rng _ | exact ⟨by omega, by omega⟩) (by first | exact bI_rng _ | exact ⟨by omega, by omega⟩) (fun c30 => ?_) (fun c30 => ?_)
      · dsimp only [cmpI] at c30
        refine AW.go 2 (pc' := 17) rfl ?_
        first
          | (-- a hole
             have hk6 : f k.toNat = -6 := c30
             refine AW.lw ?_ (ih (k + 1) I u (by omega) (by omega) (fun j hj => ?_) hlt (fun t ht => ?_) ?_ (by omega))
             · exact (And.intro rfl (And.intro rfl (And.intro rfl (And.intro rfl (And.intro rfl trivial)))))
             · rw [k1 h0, fz_s (by omega) hj (Or.inr (Or.inl hk6))]; exact hI j hj
             · rw [hu t ht, k1 h0]
               constructor
               · rintro ⟨j, h3, h4⟩; exact ⟨j, h3, by rw [fz_s (by omega) h3 (Or.inr (Or.inl hk6))]; exact h4⟩
               · rintro ⟨j, h3, h4⟩; exact ⟨j, h3, by rw [fz_s (by omega) h3 (Or.inr (Or.inl hk6))] at h4; exact h4⟩
             · unfold wel at hw ⊢; rw [allN_s h0, hw, Bool.true_and, wek_iff]; exact Or.inl hk6)
          | (-- as it must be
             have hae : f (acN F k.toNat) = mv F (f k.toNat) := by omega
             have hq : ¬ f (acN F k.toNat) = -6 := by omega
             refine AW.lw ?_ (ih (k + 1) I u (by omega) (by omega) (fun j hj => ?_) hlt (fun t ht => ?_) ?_ (by omega))
             · exact (And.intro rfl (And.intro rfl (And.intro rfl (And.intro rfl (And.intro rfl trivial)))))
             · rw [k1 h0, fz_s (by omega) hj (Or.inr (Or.inr hq))]; exact hI j hj
             · rw [hu t ht, k1 h0]
               constructor
               · rintro ⟨j, h3, h4⟩; exact ⟨j, h3, by rw [fz_s (by omega) h3 (Or.inr (Or.inr hq))]; exact h4⟩
               · rintro ⟨j, h3, h4⟩; exact ⟨j, h3, by rw [fz_s (by omega) h3 (Or.inr (Or.inr hq))] at h4; exact h4⟩
             · unfold wel at hw ⊢; rw [allN_s h0, hw, Bool.true_and, wek_iff]; exact Or.inr (Or.inl hae))
          | (-- filled now
             have ha6 : f (acN F k.toNat) = -6 := by omega
             have hno : ∀ j, j < 12 → ¬ f j = mv F (f k.toNat) := fun j hj q => by
               have hbit : u.testBit (mv F (f k.toNat)).toNat = true := (hu _ (by omega)).mpr ⟨j, hj, by rw [fz_told (by omega), q]; omega⟩
               exact (e1.1.mp (Decidable.not_not.mp c66)) hbit
             rw [List.set_set, Int.toNat_natCast]
             refine AW.lw ?_ (ih (k + 1) (up I (acN F k.toNat) (mv F (f k.toNat))) (u ||| 2 ^ (mv F (f k.toNat)).toNat) (by omega) (by omega) (fun j hj => ?_) (Nat.or_lt_two_pow (n := 12) hlt (pow12 hm.1 hm.2)) (fun t ht => ?_) ?_ (by omega))
             · exact (And.intro rfl (And.intro rfl (And.intro rfl (And.intro rfl (And.intro rfl trivial)))))
             · rw [k1 h0]
               unfold up
               by_cases q : j = acN F k.toNat
               · rw [if_pos q, q, fz_new (by omega) c30 ha6]
               · rw [if_neg q, fz_s (by omega) hj (Or.inl q)]; exact hI j hj
             · rw [bit_set, Bool.or_eq_true, hu t ht, decide_eq_true_eq, k1 h0]
               constructor
               · rintro (⟨j, h3, h4⟩ | h4)
                 · refine ⟨j, h3, ?_⟩
                   rw [fz_s (by omega) h3 (Or.inl (fun q => ?_))]
                   · exact h4
                   · rw [q, fz_ac (by omega), ha6] at h4; omega
                 · exact ⟨acN F k.toNat, aL, by rw [fz_new (by omega) c30 ha6]; omega⟩
               · rintro ⟨j, h3, h4⟩
                 by_cases q : j = acN F k.toNat
                 · right; rw [q, fz_new (by omega) c30 ha6] at h4; omega
                 · left; exact ⟨j, h3, by rw [fz_s (by omega) h3 (Or.inl q)] at h4; exact h4⟩
             · unfold wel at hw ⊢; rw [allN_s h0, hw, Bool.true_and, wek_iff]; exact Or.inr (Or.inr ⟨ha6, hno⟩))
      · dsimp only [cmpI] at c30
        refine AW.go 2 (pc' := 36) rfl ?_
        refine AW.callSF (pn := 39) rfl rfl mlX3_202 (c_X3_placeAcross (d - 1) (by omega) _ _ _ (by omega)) rfl rfl (Nat.le_of_ble_eq_true rfl) ⟨by show d - 1 + 1 ≤ d; omega, by show 40 * (d - 1 + 1) ≤ 40 * d; omega⟩ ⟨Nat.zero_le _, Nat.zero_le _⟩ ?_
        have eA : (if 24 ≤ F then 11 - k else k) = ((acN F k.toNat : Nat) : Int) := by unfold acN; split <;> omega
        have aL := acN_lt (F := F) (show k.toNat < 12 by omega)
        rw [eA]
        refine AW.go 3 (pc' := 44) rfl ?_
        refine AW.iald (pn := 45) rfl rfl (by first | assumption | exact set_self (by first | assumption | exact set_self (by first | assumption | exact set_self (by assumption) | exact set_ne (by first | assumption | decide | omega) (by assumption)) | exact set_ne (by first | assumption | decide | omega) (by first | assumption | exact set_self (by assumption) | exact set_ne (by first | assumption | decide | omega) (by assumption))) | exact set_ne (by first | assumption | decide | omega) (by first | assumption | exact set_self (by first | assumption | exact set_self (by assumption) | exact set_ne (by first | assumption | decide | omega) (by assumption)) | exact set_ne (by first | assumption | decide | omega) (by first | assumption | exact set_self (by assumption) | exact set_ne (by first | assumption | decide | omega) (by assumption)))) (by first | decide | omega) (by omega) (by omega) ?_
        refine AW.go 1 (pc' := 46) rfl ?_
        refine AW.callSF (pn := 49) rfl rfl mlX3_95 (c_X3_turnedTone (d - 1) (by omega) _ _ _ (by omega) (by omega)) rfl rfl (Nat.le_of_ble_eq_true rfl) ⟨by show d - 1 + 1 ≤ d; omega, by show 40 * (d - 1 + 1) ≤ 40 * d; omega⟩ ⟨Nat.zero_le _, Nat.zero_le _⟩ ?_
        refine AW.go 1 (pc' := 51) rfl ?_
        have hm := mv_b F (f k.toNat)
        have hIa := hI (acN F k.toNat) aL
        rw [fz_ac (by omega)] at hIa
        refine AW.go 2 (pc' := 54) rfl ?_
        rw [show ((acN F k.toNat : Nat) : Int) = ((acN F k.toNat : Nat) : Int) from rfl]
        refine AW.iald (pn := 55) rfl rfl (by first | assumption | exact set_self (by first | assumption | exact set_self (by first | assumption | exact set_self (by assumption) | exact set_ne (by first | assumption | decide | omega) (by assumption)) | exact set_ne (by first | assumption | decide | omega) (by first | assumption | exact set_self (by assumption) | exact set_ne (by first | assumption | decide | omega) (by assumption))) | exact set_ne (by first | assumption | decide | omega) (by first | assumption | exact set_self (by first | assumption | exact set_self (by assumption) | exact set_ne (by first | assumption | decide | omega) (by assumption)) | exact set_ne (by first | assumption | decide | omega) (by first | assumption | exact set_self (by assumption) | exact set_ne (by first | assumption | decide | omega) (by assumption)))) (by first | decide | omega) (by omega) (by omega) ?_
        have b1 := fz_b (F := F) hf k.toNat aL
        rw [Int.toNat_natCast]
        have b2 := hf _ aL
        refine AW.go 1 (pc' := 57) rfl ?_
        refine AW.bi (tgt := 85) (pn := 60) rfl (by decide) rfl (by first | exact bI_rng _ | exact ⟨by omega, by omega⟩) (by first | exact bI_rng _ | exact ⟨by omega, by omega⟩) (fun c57 => ?_) (fun c57 => ?_)
        · dsimp only [cmpI] at c57
          
          refine AW.go 2 (pc' := 88) rfl ?_
          refine AW.iald (pn := 89) rfl rfl (by first | assumption | exact set_self (by first | assumption | exact set_self (by first | assumption | exact set_self (by assumption) | exact set_ne (by first | assumption | decide | omega) (by assumption)) | exact set_ne (by first | assumption | decide | omega) (by first | assumption | exact set_self (by assumption) | exact set_ne (by first | assumption | decide | omega) (by assumption))) | exact set_ne (by first | assumption | decide | omega) (by first | assumption | exact set_self (by first | assumption | exact set_self (by assumption) | exact set_ne (by first | assumption | decide | omega) (by assumption)) | exact set_ne (by first | assumption | decide | omega) (by first | assumption | exact set_self (by assumption) | exact set_ne (by first | assumption | decide | omega) (by assumption)))) (by first | decide | omega) (by omega) (by omega) ?_
          rw [Int.toNat_natCast]
          refine AW.go 1 (pc' := 91) rfl ?_
          refine AW.bi (tgt := 96) (pn := 94) rfl (by decide) rfl (by first | exact bI_rng _ | exact ⟨by omega, by omega⟩) (by first | exact bI_rng _ | exact ⟨by omega, by omega⟩) (fun c91 => ?_) (fun c91 => ?_)
          · dsimp only [cmpI] at c91
            refine AW.go 2 (pc' := 17) rfl ?_
            first
              | (-- a hole
                 have hk6 : f k.toNat = -6 := c30
                 refine AW.lw ?_ (ih (k + 1) I u (by omega) (by omega) (fun j hj => ?_) hlt (fun t ht => ?_) ?_ (by omega))
                 · exact (And.intro rfl (And.intro rfl (And.intro rfl (And.intro rfl (And.intro rfl trivial)))))
                 · rw [k1 h0, fz_s (by omega) hj (Or.inr (Or.inl hk6))]; exact hI j hj
                 · rw [hu t ht, k1 h0]
                   constructor
                   · rintro ⟨j, h3, h4⟩; exact ⟨j, h3, by rw [fz_s (by omega) h3 (Or.inr (Or.inl hk6))]; exact h4⟩
                   · rintro ⟨j, h3, h4⟩; exact ⟨j, h3, by rw [fz_s (by omega) h3 (Or.inr (Or.inl hk6))] at h4; exact h4⟩
                 · unfold wel at hw ⊢; rw [allN_s h0, hw, Bool.true_and, wek_iff]; exact Or.inl hk6)
              | (-- as it must be
                 have hae : f (acN F k.toNat) = mv F (f k.toNat) := by omega
                 have hq : ¬ f (acN F k.toNat) = -6 := by omega
                 refine AW.lw ?_ (ih (k + 1) I u (by omega) (by omega) (fun j hj => ?_) hlt (fun t ht => ?_) ?_ (by omega))
                 · exact (And.intro rfl (And.intro rfl (And.intro rfl (And.intro rfl (And.intro rfl trivial)))))
                 · rw [k1 h0, fz_s (by omega) hj (Or.inr (Or.inr hq))]; exact hI j hj
                 · rw [hu t ht, k1 h0]
                   constructor
                   · rintro ⟨j, h3, h4⟩; exact ⟨j, h3, by rw [fz_s (by omega) h3 (Or.inr (Or.inr hq))]; exact h4⟩
                   · rintro ⟨j, h3, h4⟩; exact ⟨j, h3, by rw [fz_s (by omega) h3 (Or.inr (Or.inr hq))] at h4; exact h4⟩
                 · unfold wel at hw ⊢; rw [allN_s h0, hw, Bool.true_and, wek_iff]; exact Or.inr (Or.inl hae))
              | (-- filled now
                 have ha6 : f (acN F k.toNat) = -6 := by omega
                 have hno : ∀ j, j < 12 → ¬ f j = mv F (f k.toNat) := fun j hj q => by
                   have hbit : u.testBit (mv F (f k.toNat)).toNat = true := (hu _ (by omega)).mpr ⟨j, hj, by rw [fz_told (by omega), q]; omega⟩
                   exact (e1.1.mp (Decidable.not_not.mp c66)) hbit
                 rw [List.set_set, Int.toNat_natCast]
                 refine AW.lw ?_ (ih (k + 1) (up I (acN F k.toNat) (mv F (f k.toNat))) (u ||| 2 ^ (mv F (f k.toNat)).toNat) (by omega) (by omega) (fun j hj => ?_) (Nat.or_lt_two_pow (n := 12) hlt (pow12 hm.1 hm.2)) (fun t ht => ?_) ?_ (by omega))
                 · exact (And.intro rfl (And.intro rfl (And.intro rfl (And.intro rfl (And.intro rfl trivial)))))
                 · rw [k1 h0]
                   unfold up
                   by_cases q : j = acN F k.toNat
                   · rw [if_pos q, q, fz_new (by omega) c30 ha6]
                   · rw [if_neg q, fz_s (by omega) hj (Or.inl q)]; exact hI j hj
                 · rw [bit_set, Bool.or_eq_true, hu t ht, decide_eq_true_eq, k1 h0]
                   constructor
                   · rintro (⟨j, h3, h4⟩ | h4)
                     · refine ⟨j, h3, ?_⟩
                       rw [fz_s (by omega) h3 (Or.inl (fun q => ?_))]
                       · exact h4
                       · rw [q, fz_ac (by omega), ha6] at h4; omega
                     · exact ⟨acN F k.toNat, aL, by rw [fz_new (by omega) c30 ha6]; omega⟩
                   · rintro ⟨j, h3, h4⟩
                     by_cases q : j = acN F k.toNat
                     · right; rw [q, fz_new (by omega) c30 ha6] at h4; omega
                     · left; exact ⟨j, h3, by rw [fz_s (by omega) h3 (Or.inl q)] at h4; exact h4⟩
                 · unfold wel at hw ⊢; rw [allN_s h0, hw, Bool.true_and, wek_iff]; exact Or.inr (Or.inr ⟨ha6, hno⟩))
          · dsimp only [cmpI] at c91
            refine AW.go 1 (pc' := 95) rfl ?_
            refine AW.retz rfl rfl (by first | exact bI_01 _ | decide) (Nat.le_refl _) (Nat.le_refl _) ?_
            have hwf : ¬ wel F f 12 = true := fun q => by
              have q1 := (wek_iff F f k.toNat).mp ((allN_iff _ _).mp q k.toNat (by omega))
              rcases q1 with q1 | q1 | ⟨q1, q2⟩
              · exact c30 q1
              · omega
              · first
                  | omega
                  | (obtain ⟨j, h3, h4⟩ := (hu _ (by omega)).mp (Decidable.byContradiction (fun q3 => c66 (e1.1.mpr q3)))
                     exact q2 j h3 (fz_due hf hp (by omega) c30 h3 (by rw [h4]; omega)))
            exact ⟨congrArg some (bI_f hwf).symm, I, rfl, fun q => absurd q hwf⟩
        · dsimp only [cmpI] at c57
          refine AW.go 3 (pc' := 64) rfl ?_
          refine AW.shl1 (pn := 65) rfl rfl (by omega) (by omega) ?_
          refine AW.andN (pn := 66) rfl rfl ?_
          have e1 := bitz u (mv F (f k.toNat)).toNat
          refine AW.br (tgt := 85) (pn := 69) rfl (by decide) rfl (by first | exact bI_rng _ | exact ⟨by omega, by omega⟩) (fun c66 => ?_) (fun c66 => ?_)
          · dsimp only [cmpI] at c66
            
            refine AW.go 2 (pc' := 88) rfl ?_
            refine AW.iald (pn := 89) rfl rfl (by first | assumption | exact set_self (by first | assumption | exact set_self (by first | assumption | exact set_self (by assumption) | exact set_ne (by first | assumption | decide | omega) (by assumption)) | exact set_ne (by first | assumption | decide | omega) (by first | assumption | exact set_self (by assumption) | exact set_ne (by first | assumption | decide | omega) (by assumption))) | exact set_ne (by first | assumption | decide | omega) (by first | assumption | exact set_self (by first | assumption | exact set_self (by assumption) | exact set_ne (by first | assumption | decide | omega) (by assumption)) | exact set_ne (by first | assumption | decide | omega) (by first | assumption | exact set_self (by assumption) | exact set_ne (by first | assumption | decide | omega) (by assumption)))) (by first | decide | omega) (by omega) (by omega) ?_
            rw [Int.toNat_natCast]
            refine AW.go 1 (pc' := 91) rfl ?_
            refine AW.bi (tgt := 96) (pn := 94) rfl (by decide) rfl (by first | exact bI_rng _ | exact ⟨by omega, by omega⟩) (by first | exact bI_rng _ | exact ⟨by omega, by omega⟩) (fun c91 => ?_) (fun c91 => ?_)
            · dsimp only [cmpI] at c91
              refine AW.go 2 (pc' := 17) rfl ?_
              first
                | (-- a hole
                   have hk6 : f k.toNat = -6 := c30
                   refine AW.lw ?_ (ih (k + 1) I u (by omega) (by omega) (fun j hj => ?_) hlt (fun t ht => ?_) ?_ (by omega))
                   · exact (And.intro rfl (And.intro rfl (And.intro rfl (And.intro rfl (And.intro rfl trivial)))))
                   · rw [k1 h0, fz_s (by omega) hj (Or.inr (Or.inl hk6))]; exact hI j hj
                   · rw [hu t ht, k1 h0]
                     constructor
                     · rintro ⟨j, h3, h4⟩; exact ⟨j, h3, by rw [fz_s (by omega) h3 (Or.inr (Or.inl hk6))]; exact h4⟩
                     · rintro ⟨j, h3, h4⟩; exact ⟨j, h3, by rw [fz_s (by omega) h3 (Or.inr (Or.inl hk6))] at h4; exact h4⟩
                   · unfold wel at hw ⊢; rw [allN_s h0, hw, Bool.true_and, wek_iff]; exact Or.inl hk6)
                | (-- as it must be
                   have hae : f (acN F k.toNat) = mv F (f k.toNat) := by omega
                   have hq : ¬ f (acN F k.toNat) = -6 := by omega
                   refine AW.lw ?_ (ih (k + 1) I u (by omega) (by omega) (fun j hj => ?_) hlt (fun t ht => ?_) ?_ (by omega))
                   · exact (And.intro rfl (And.intro rfl (And.intro rfl (And.intro rfl (And.intro rfl trivial)))))
                   · rw [k1 h0, fz_s (by omega) hj (Or.inr (Or.inr hq))]; exact hI j hj
                   · rw [hu t ht, k1 h0]
                     constructor
                     · rintro ⟨j, h3, h4⟩; exact ⟨j, h3, by rw [fz_s (by omega) h3 (Or.inr (Or.inr hq))]; exact h4⟩
                     · rintro ⟨j, h3, h4⟩; exact ⟨j, h3, by rw [fz_s (by omega) h3 (Or.inr (Or.inr hq))] at h4; exact h4⟩
                   · unfold wel at hw ⊢; rw [allN_s h0, hw, Bool.true_and, wek_iff]; exact Or.inr (Or.inl hae))
                | (-- filled now
                   have ha6 : f (acN F k.toNat) = -6 := by omega
                   have hno : ∀ j, j < 12 → ¬ f j = mv F (f k.toNat) := fun j hj q => by
                     have hbit : u.testBit (mv F (f k.toNat)).toNat = true := (hu _ (by omega)).mpr ⟨j, hj, by rw [fz_told (by omega), q]; omega⟩
                     exact (e1.1.mp (Decidable.not_not.mp c66)) hbit
                   rw [List.set_set, Int.toNat_natCast]
                   refine AW.lw ?_ (ih (k + 1) (up I (acN F k.toNat) (mv F (f k.toNat))) (u ||| 2 ^ (mv F (f k.toNat)).toNat) (by omega) (by omega) (fun j hj => ?_) (Nat.or_lt_two_pow (n := 12) hlt (pow12 hm.1 hm.2)) (fun t ht => ?_) ?_ (by omega))
                   · exact (And.intro rfl (And.intro rfl (And.intro rfl (And.intro rfl (And.intro rfl trivial)))))
                   · rw [k1 h0]
                     unfold up
                     by_cases q : j = acN F k.toNat
                     · rw [if_pos q, q, fz_new (by omega) c30 ha6]
                     · rw [if_neg q, fz_s (by omega) hj (Or.inl q)]; exact hI j hj
                   · rw [bit_set, Bool.or_eq_true, hu t ht, decide_eq_true_eq, k1 h0]
                     constructor
                     · rintro (⟨j, h3, h4⟩ | h4)
                       · refine ⟨j, h3, ?_⟩
                         rw [fz_s (by omega) h3 (Or.inl (fun q => ?_))]
                         · exact h4
                         · rw [q, fz_ac (by omega), ha6] at h4; omega
                       · exact ⟨acN F k.toNat, aL, by rw [fz_new (by omega) c30 ha6]; omega⟩
                     · rintro ⟨j, h3, h4⟩
                       by_cases q : j = acN F k.toNat
                       · right; rw [q, fz_new (by omega) c30 ha6] at h4; omega
                       · left; exact ⟨j, h3, by rw [fz_s (by omega) h3 (Or.inl q)] at h4; exact h4⟩
                   · unfold wel at hw ⊢; rw [allN_s h0, hw, Bool.true_and, wek_iff]; exact Or.inr (Or.inr ⟨ha6, hno⟩))
            · dsimp only [cmpI] at c91
              refine AW.go 1 (pc' := 95) rfl ?_
              refine AW.retz rfl rfl (by first | exact bI_01 _ | decide) (Nat.le_refl _) (Nat.le_refl _) ?_
              have hwf : ¬ wel F f 12 = true := fun q => by
                have q1 := (wek_iff F f k.toNat).mp ((allN_iff _ _).mp q k.toNat (by omega))
                rcases q1 with q1 | q1 | ⟨q1, q2⟩
                · exact c30 q1
                · omega
                · first
                    | omega
                    | (obtain ⟨j, h3, h4⟩ := (hu _ (by omega)).mp (Decidable.byContradiction (fun q3 => c66 (e1.1.mpr q3)))
                       exact q2 j h3 (fz_due hf hp (by omega) c30 h3 (by rw [h4]; omega)))
              exact ⟨congrArg some (bI_f hwf).symm, I, rfl, fun q => absurd q hwf⟩
          · dsimp only [cmpI] at c66
            refine AW.go 3 (pc' := 74) rfl ?_
            
            refine AW.iast (pn := 75) rfl rfl (by first | assumption | exact set_self (by first | assumption | exact set_self (by first | assumption | exact set_self (by assumption) | exact set_ne (by first | assumption | decide | omega) (by assumption)) | exact set_ne (by first | assumption | decide | omega) (by first | assumption | exact set_self (by assumption) | exact set_ne (by first | assumption | decide | omega) (by assumption))) | exact set_ne (by first | assumption | decide | omega) (by first | assumption | exact set_self (by first | assumption | exact set_self (by assumption) | exact set_ne (by first | assumption | decide | omega) (by assumption)) | exact set_ne (by first | assumption | decide | omega) (by first | assumption | exact set_self (by assumption) | exact set_ne (by first | assumption | decide | omega) (by assumption)))) (by first | decide | omega) (by omega) (by omega) ?_
            refine AW.go 3 (pc' := 79) rfl ?_
            refine AW.shl1 (pn := 80) rfl rfl (by omega) (by omega) ?_
            first | refine AW.orN (pn := 81) rfl rfl ?_ | refine AW.orN (y := 0) (pn := 81) rfl rfl ?_
            refine AW.go 4 (pc' := 17) rfl ?_
            first
              | (-- a hole
                 have hk6 : f k.toNat = -6 := c30
                 refine AW.lw ?_ (ih (k + 1) I u (by omega) (by omega) (fun j hj => ?_) hlt (fun t ht => ?_) ?_ (by omega))
                 · exact (And.intro rfl (And.intro rfl (And.intro rfl (And.intro rfl (And.intro rfl trivial)))))
                 · rw [k1 h0, fz_s (by omega) hj (Or.inr (Or.inl hk6))]; exact hI j hj
                 · rw [hu t ht, k1 h0]
                   constructor
                   · rintro ⟨j, h3, h4⟩; exact ⟨j, h3, by rw [fz_s (by omega) h3 (Or.inr (Or.inl hk6))]; exact h4⟩
                   · rintro ⟨j, h3, h4⟩; exact ⟨j, h3, by rw [fz_s (by omega) h3 (Or.inr (Or.inl hk6))] at h4; exact h4⟩
                 · unfold wel at hw ⊢; rw [allN_s h0, hw, Bool.true_and, wek_iff]; exact Or.inl hk6)
              | (-- as it must be
                 have hae : f (acN F k.toNat) = mv F (f k.toNat) := by omega
                 have hq : ¬ f (acN F k.toNat) = -6 := by omega
                 refine AW.lw ?_ (ih (k + 1) I u (by omega) (by omega) (fun j hj => ?_) hlt (fun t ht => ?_) ?_ (by omega))
                 · exact (And.intro rfl (And.intro rfl (And.intro rfl (And.intro rfl (And.intro rfl trivial)))))
                 · rw [k1 h0, fz_s (by omega) hj (Or.inr (Or.inr hq))]; exact hI j hj
                 · rw [hu t ht, k1 h0]
                   constructor
                   · rintro ⟨j, h3, h4⟩; exact ⟨j, h3, by rw [fz_s (by omega) h3 (Or.inr (Or.inr hq))]; exact h4⟩
                   · rintro ⟨j, h3, h4⟩; exact ⟨j, h3, by rw [fz_s (by omega) h3 (Or.inr (Or.inr hq))] at h4; exact h4⟩
                 · unfold wel at hw ⊢; rw [allN_s h0, hw, Bool.true_and, wek_iff]; exact Or.inr (Or.inl hae))
              | (-- filled now
                 have ha6 : f (acN F k.toNat) = -6 := by omega
                 have hno : ∀ j, j < 12 → ¬ f j = mv F (f k.toNat) := fun j hj q => by
                   have hbit : u.testBit (mv F (f k.toNat)).toNat = true := (hu _ (by omega)).mpr ⟨j, hj, by rw [fz_told (by omega), q]; omega⟩
                   exact (e1.1.mp (Decidable.not_not.mp c66)) hbit
                 rw [List.set_set, Int.toNat_natCast]
                 refine AW.lw ?_ (ih (k + 1) (up I (acN F k.toNat) (mv F (f k.toNat))) (u ||| 2 ^ (mv F (f k.toNat)).toNat) (by omega) (by omega) (fun j hj => ?_) (Nat.or_lt_two_pow (n := 12) hlt (pow12 hm.1 hm.2)) (fun t ht => ?_) ?_ (by omega))
                 · exact (And.intro rfl (And.intro rfl (And.intro rfl (And.intro rfl (And.intro rfl trivial)))))
                 · rw [k1 h0]
                   unfold up
                   by_cases q : j = acN F k.toNat
                   · rw [if_pos q, q, fz_new (by omega) c30 ha6]
                   · rw [if_neg q, fz_s (by omega) hj (Or.inl q)]; exact hI j hj
                 · rw [bit_set, Bool.or_eq_true, hu t ht, decide_eq_true_eq, k1 h0]
                   constructor
                   · rintro (⟨j, h3, h4⟩ | h4)
                     · refine ⟨j, h3, ?_⟩
                       rw [fz_s (by omega) h3 (Or.inl (fun q => ?_))]
                       · exact h4
                       · rw [q, fz_ac (by omega), ha6] at h4; omega
                     · exact ⟨acN F k.toNat, aL, by rw [fz_new (by omega) c30 ha6]; omega⟩
                   · rintro ⟨j, h3, h4⟩
                     by_cases q : j = acN F k.toNat
                     · right; rw [q, fz_new (by omega) c30 ha6] at h4; omega
                     · left; exact ⟨j, h3, by rw [fz_s (by omega) h3 (Or.inl q)] at h4; exact h4⟩
                 · unfold wel at hw ⊢; rw [allN_s h0, hw, Bool.true_and, wek_iff]; exact Or.inr (Or.inr ⟨ha6, hno⟩))
set_option maxHeartbeats 2000000 in
theorem c_X3_fillForced (d : Nat) (hd : 3 ≤ d) (h : List AC) (A B : Nat) (hAB : A ≠ B) (f sc : Nat → Int) (hA : h[A]? = some (ai 0 12 f)) (hB : h[B]? = some (ai 0 12 sc)) (hf : pn f) (hp : pj f) (F : Int) (rF : 0 ≤ F ∧ F < 48) : M0 zX3_fillForced d [vr A, vi F, vr B] h (fun v w => v = some (bI (wel F f 12 = true)) ∧ ∃ I : Nat → Int, w = h.set B (ai 0 12 I) ∧ (wel F f 12 = true → ∀ j, j < 12 → I j = fz F f 12 j)) := by
  refine M0.of okX3_fillForced (Nat.le_of_ble_eq_true rfl) ?_
  refine AW.go 5 (pc' := 6) rfl ?_
  refine AW.copy (pn := 9) rfl rfl cpX3_89 (by first | assumption | exact set_self (by first | assumption | exact set_self (by first | assumption | exact set_self (by assumption) | exact set_ne (by first | assumption | decide | omega) (by assumption)) | exact set_ne (by first | assumption | decide | omega) (by first | assumption | exact set_self (by assumption) | exact set_ne (by first | assumption | decide | omega) (by assumption))) | exact set_ne (by first | assumption | decide | omega) (by first | assumption | exact set_self (by first | assumption | exact set_self (by assumption) | exact set_ne (by first | assumption | decide | omega) (by assumption)) | exact set_ne (by first | assumption | decide | omega) (by first | assumption | exact set_self (by assumption) | exact set_ne (by first | assumption | decide | omega) (by assumption)))) (by first | assumption | exact set_self (by first | assumption | exact set_self (by first | assumption | exact set_self (by assumption) | exact set_ne (by first | assumption | decide | omega) (by assumption)) | exact set_ne (by first | assumption | decide | omega) (by first | assumption | exact set_self (by assumption) | exact set_ne (by first | assumption | decide | omega) (by assumption))) | exact set_ne (by first | assumption | decide | omega) (by first | assumption | exact set_self (by first | assumption | exact set_self (by assumption) | exact set_ne (by first | assumption | decide | omega) (by assumption)) | exact set_ne (by first | assumption | decide | omega) (by first | assumption | exact set_self (by assumption) | exact set_ne (by first | assumption | decide | omega) (by assumption)))) (by omega) (by omega) (by omega) (by omega) (by omega) (by omega) (by omega) (by omega) ⟨by show 1 ≤ d; omega, by show _ ≤ 40 * d; simp [acat]; omega⟩ ?_
  refine AW.go 1 (pc' := 10) rfl ?_
  refine AW.callSF (pn := 13) rfl rfl mlX3_199 (c_X3_toneBits (d - 1) (by omega) _ _ _ (set_ne hAB.symm hA) (by assumption)) rfl rfl (Nat.le_of_ble_eq_true rfl) ⟨by show d - 1 + 1 ≤ d; omega, by show 40 * (d - 1 + 1) ≤ 40 * d; omega⟩ ⟨Nat.zero_le _, Nat.zero_le _⟩ ?_
  refine AW.go 3 (pc' := 17) rfl ?_
  refine AW.lw ?_ (l_X3_fillForced d hd h A B hAB f sc hA hB hf hp F rF _ 0 (cpy12 f sc) (tbt f 12) (by omega) (by omega) (fun j hj => ?_) (tbt_lt hf 12 (Nat.le_refl _)) (fun t ht => ?_) rfl (Nat.lt_succ_self _))
  · exact (And.intro rfl (And.intro rfl (And.intro rfl (And.intro rfl (And.intro rfl trivial)))))
  · rw [show (0 : Int).toNat = 0 from rfl, fz_0]
    exact (pk_cpy_in (Nat.zero_le _) (by omega)).trans (by rw [Nat.zero_add, Nat.sub_zero])
  · rw [tbt_bit hf t 12 (Nat.le_refl _)]
    simp only [show (0 : Int).toNat = 0 from rfl, fz_0]
