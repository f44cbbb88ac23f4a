/-! steps: both counts are one -/
theorem us_eq (f : Nat → Int) : usC f = usM f := by
  have key : ∀ n, cntN (fun i => (sbt f n).testBit i) 12 = ust f n := by
    intro n
    induction n with
    | zero => show cntN (fun i => (0 : Nat).testBit i) 12 = 0; decide
    | succ n ih =>
      have hs : 0 ≤ stp f (n : Int) ∧ stp f (n : Int) < 12 := by unfold stp; omega
      show cntN (fun i => (sbt f n ||| 2 ^ (stp f (n : Int)).toNat).testBit i) 12 = ust f n + (if (sbt f n).testBit (stp f (n : Int)).toNat then 0 else 1)
      rw [pc_or, ih]
      by_cases q : (sbt f n).testBit (stp f (n : Int)).toNat = true
      · rw [if_neg (fun w => w.2 q), if_pos q]
      · rw [if_pos ⟨by omega, q⟩, if_neg q]
  unfold usC usM
  rw [key 11]
/-! the forms as a group -/
def inj12 (f : Nat → Int) : Prop := ∀ i j : Nat, i < 12 → j < 12 → f i = f j → i = j
def bhN (F G : Nat) : Nat := (V_behind (F : Int) (G : Int)).toNat
def bkN (F : Nat) : Nat := (V_back (F : Int)).toNat
def hN (F G : Nat) : Nat := bhN (bkN G) F
theorem grp_mv : ∀ F : Nat, F < 48 → ∀ G : Nat, G < 48 → ∀ t : Nat, t < 12 → mv (F : Int) (mv (G : Int) (t : Int)) = mv (bhN F G : Int) (t : Int) := by decide +kernel
theorem grp_px : ∀ F : Nat, F < 48 → ∀ G : Nat, G < 48 → bhN F G < 48 ∧ (24 ≤ bhN F G ↔ ¬ (24 ≤ F ↔ 24 ≤ G)) := by decide +kernel
theorem grp_bk : ∀ G : Nat, G < 48 → bkN G < 48 ∧ bhN (bkN G) G = 0 ∧ bhN G (bkN G) = 0 := by decide +kernel
theorem grp_as : ∀ G : Nat, G < 48 → ∀ F : Nat, F < 48 → bhN G (bhN (bkN G) F) = F := by decide +kernel
/-- a form of a row -/
def act (F : Nat) (f : Nat → Int) : Nat → Int := fun j => ft f 12 (F : Int) (j : Int)
theorem act_at (F : Nat) (f : Nat → Int) {j : Nat} (hj : j < 12) : act F f j = mv (F : Int) (f (if 24 ≤ F then 11 - j else j)) := by
  unfold act ft px
  by_cases h : 24 ≤ F
  · rw [if_pos h, if_pos (show (24 : Int) ≤ F by omega), show ((12 : Int) - 1 - j).toNat = 11 - j by omega]
  · rw [if_neg h, if_neg (show ¬ (24 : Int) ≤ F by omega), Int.toNat_natCast]
theorem act_tn (F : Nat) (f : Nat → Int) : tn (act F f) := fun _ _ => ft_b _ _ _ _
theorem act_congr {F : Nat} {f g : Nat → Int} (h : ∀ j, j < 12 → f j = g j) : ∀ j, j < 12 → act F f j = act F g j := by
  intro j hj
  rw [act_at F f hj, act_at F g hj]
  split
  · rw [h _ (by omega)]
  · rw [h _ hj]
theorem act_act {F G : Nat} (hF : F < 48) (hG : G < 48) {f : Nat → Int} (hf : tn f) {j : Nat} (hj : j < 12) : act F (act G f) j = act (bhN F G) f j := by
  have hp := (grp_px F hF G hG).2
  rw [act_at F _ hj, act_at (bhN F G) f hj]
  have key : ∀ i, i < 12 → mv (F : Int) (act G f i) = mv (bhN F G : Int) (f (if 24 ≤ G then 11 - i else i)) := by
    intro i hi
    rw [act_at G f hi]
    have hb := hf (if 24 ≤ G then 11 - i else i) (by split <;> omega)
    have := grp_mv F hF G hG (f (if 24 ≤ G then 11 - i else i)).toNat (by omega)
    rw [kk hb.1] at this
    exact this
  by_cases a : 24 ≤ F
  · rw [if_pos a, key _ (by omega)]
    by_cases b : 24 ≤ G
    · rw [if_pos b, if_neg (fun w => hp.mp w (by constructor <;> intro _ <;> assumption)), show 11 - (11 - j) = j by omega]
    · rw [if_neg b, if_pos (hp.mpr (fun w => b (w.mp a)))]
  · rw [if_neg a, key _ hj]
    by_cases b : 24 ≤ G
    · rw [if_pos b, if_pos (hp.mpr (fun w => a (w.mpr b)))]
    · rw [if_neg b, if_neg (fun w => hp.mp w (by constructor <;> intro q <;> contradiction))]
theorem act_0 {f : Nat → Int} (hf : tn f) {j : Nat} (hj : j < 12) : act 0 f j = f j := by
  rw [act_at 0 f hj, if_neg (by decide)]
  exact mv_0 (hf j hj)
def keep (f : Nat → Int) (F : Nat) : Bool := isf f 12 (F : Int) f 0
theorem keep_iff (f : Nat → Int) (F : Nat) : keep f F = true ↔ ∀ j, j < 12 → act F f j = f j := by
  unfold keep isf
  rw [allN_iff]
  constructor
  · intro h j hj
    have := of_decide_eq_true (h j hj)
    rw [Int.zero_add, Int.toNat_natCast] at this
    exact this
  · intro h j hj
    refine decide_eq_true ?_
    rw [Int.zero_add, Int.toNat_natCast]
    exact h j hj
theorem cpd_0 (a b : Nat → Int) : ∀ n k, cpd a b n k = 0 ↔ ∀ j, k ≤ j → j < k + n → a j = b j
  | 0, k => ⟨fun _ j h1 h2 => by omega, fun _ => rfl⟩
  | n + 1, k => by
    unfold cpd
    by_cases e : a k - b k = 0
    · rw [if_pos e, cpd_0 a b n (k + 1)]
      constructor
      · intro h j h1 h2
        by_cases q : j = k
        · subst q; omega
        · exact h j (by omega) (by omega)
      · intro h j h1 h2; exact h j (by omega) (by omega)
    · rw [if_neg e]
      constructor
      · intro h; exact absurd h e
      · intro h; exact absurd (by have := h k (Nat.le_refl _) (by omega); omega) e
theorem cpF_0 (f : Nat → Int) (F G : Nat) : cpF f (F : Int) (G : Int) = 0 ↔ ∀ j, j < 12 → act F f j = act G f j := by
  unfold cpF
  rw [cpd_0]
  constructor
  · intro h j hj; exact h j (Nat.zero_le _) (by omega)
  · intro h j _ hj; exact h j (by omega)
theorem eq_keep {f : Nat → Int} (hf : tn f) {F G : Nat} (hF : F < 48) (hG : G < 48) : cpF f (F : Int) (G : Int) = 0 ↔ keep f (hN F G) = true := by
  rw [cpF_0, keep_iff]
  obtain ⟨b1, b2, b3⟩ := grp_bk G hG
  constructor
  · intro h j hj
    have e1 := act_act b1 hF hf hj
    have e2 := act_congr (F := bkN G) h j hj
    have e3 := act_act b1 hG hf hj
    unfold hN
    rw [← e1, e2, e3, b2, act_0 hf hj]
  · intro h j hj
    have h48 := (grp_px (bkN G) b1 F hF).1
    have e1 := act_congr (F := G) h j hj
    have e2 := act_act hG h48 hf hj
    unfold hN at e1
    rw [e2, grp_as G hG F hF] at e1
    exact e1
theorem tbt_inj {f : Nat → Int} (hf : tn f) (hi : inj12 f) : ∀ n, n ≤ 12 → cntN (fun i => (tbt f n).testBit i) 12 = n
  | 0, _ => by show cntN (fun i => (0 : Nat).testBit i) 12 = 0; decide
  | n + 1, h => by
    have ih := tbt_inj hf hi n (by omega)
    have hb := hf n (by omega)
    have e1 : tbt f (n + 1) = tbt f n ||| 2 ^ (f n).toNat := if_neg (by omega)
    have hp : pn f := fun j hj => Or.inr (hf j hj)
    have hno : ¬ (tbt f n).testBit (f n).toNat = true := by
      intro q
      obtain ⟨j, h1, h2⟩ := (tbt_bit hp _ n (by omega)).mp q
      have := hi j n (by omega) (by omega) (by omega)
      omega
    rw [e1, pc_or, ih, if_pos ⟨by omega, hno⟩]
theorem cnt_full {p : Nat → Bool} : ∀ {n : Nat}, cntN p n = n → allN p n = true
  | 0, _ => rfl
  | n + 1, h => by
    have h : cntN p n + (if p n = true then 1 else 0) = n + 1 := h
    have hl := cntN_le p n
    unfold allN
    by_cases q : p n = true
    · rw [if_pos q] at h
      rw [cnt_full (n := n) (by omega), q]; rfl
    · rw [if_neg q] at h; omega
theorem onto12 {f : Nat → Int} (hf : tn f) (hi : inj12 f) {t : Nat} (ht : t < 12) : ∃ j, j < 12 ∧ f j = (t : Int) := by
  have hp : pn f := fun j hj => Or.inr (hf j hj)
  have h1 := (allN_iff _ _).mp (cnt_full (tbt_inj hf hi 12 (Nat.le_refl _))) t ht
  exact (tbt_bit hp t 12 (Nat.le_refl _)).mp h1
theorem keep_set {f : Nat → Int} (hf : tn f) (hi : inj12 f) {F : Nat} (hF : F < 48) (hk : keep f F = true) : F = 0 ∨ F = 30 ∨ (36 < F ∧ F % 2 = 1) := by
  have hk := (keep_iff f F).mp hk
  have a0 := hk 0 (by decide)
  have a1 := hk 1 (by decide)
  have a2 := hk 2 (by decide)
  have a11 := hk 11 (by decide)
  rw [act_at F f (by decide)] at a0 a1 a2 a11
  have b0 := hf 0 (by decide)
  have b1 := hf 1 (by decide)
  have b2 := hf 2 (by decide)
  have b11 := hf 11 (by decide)
  have d01 : f 0 ≠ f 1 := fun q => by have := hi 0 1 (by decide) (by decide) q; omega
  have d02 : f 0 ≠ f 2 := fun q => by have := hi 0 2 (by decide) (by decide) q; omega
  have d12 : f 1 ≠ f 2 := fun q => by have := hi 1 2 (by decide) (by decide) q; omega
  have d011 : f 0 ≠ f 11 := fun q => by have := hi 0 11 (by decide) (by decide) q; omega
  by_cases e : 24 ≤ F
  · rw [if_pos e] at a0 a11
    rw [show 11 - 0 = 11 from rfl] at a0
    rw [show 11 - 11 = 0 from rfl] at a11
    by_cases e2 : F < 36
    · unfold mv at a0 a11
      rw [if_neg (by omega)] at a0 a11
      right; left; omega
    · right; right
      -- an even sum has a tone that answers itself
      apply Decidable.byContradiction
      intro q
      have hev : F % 2 = 0 := by
        by_cases e3 : F = 36
        · omega
        · omega
      obtain ⟨j, hj, hj2⟩ := onto12 hf hi (t := (F % 12) / 2) (by omega)
      have aj := hk j hj
      rw [act_at F f hj, if_pos e] at aj
      have bj := hf (11 - j) (by omega)
      unfold mv at aj
      rw [if_pos (by omega)] at aj
      have e5 : f (11 - j) = f j := by omega
      have := hi (11 - j) j (by omega) hj e5
      omega
  · rw [if_neg e] at a0 a1 a2
    by_cases e2 : F < 12
    · unfold mv at a0
      rw [if_neg (by omega)] at a0
      left; omega
    · exfalso
      unfold mv at a0 a1 a2
      rw [if_pos (by omega)] at a0 a1 a2
      omega
theorem keep_mul {f : Nat → Int} (hf : tn f) {F G : Nat} (hF : F < 48) (hG : G < 48) (h1 : keep f F = true) (h2 : keep f G = true) : keep f (bhN F G) = true := by
  rw [keep_iff] at *
  intro j hj
  rw [← act_act hF hG hf hj, act_congr h2 j hj, h1 j hj]
theorem keep_0 {f : Nat → Int} (hf : tn f) : keep f 0 = true := (keep_iff f 0).mpr (fun _ hj => act_0 hf hj)
def okH (F : Nat) : Bool := decide (F = 0) || decide (F = 30) || (decide (36 < F) && decide (F % 2 = 1))
theorem grp_two' : ∀ F : Nat, F < 48 → ∀ G : Nat, G < 48 → (okH F && okH G && !decide (F = 0) && !decide (G = 0) && okH (bhN F G) && !decide (F = G)) = false := by decide +kernel
theorem grp_two (F : Nat) (hF : F < 48) (G : Nat) (hG : G < 48) (a : okH F = true) (b : okH G = true) (c : F ≠ 0) (d : G ≠ 0) (e : okH (bhN F G) = true) : F = G := by
  have h := grp_two' F hF G hG
  rw [a, b, e, decide_eq_false c, decide_eq_false d] at h
  apply Decidable.byContradiction
  intro q
  rw [decide_eq_false q] at h
  cases h
theorem okH_of {F : Nat} (h : F = 0 ∨ F = 30 ∨ (36 < F ∧ F % 2 = 1)) : okH F = true := by
  unfold okH
  simp only [Bool.or_eq_true, Bool.and_eq_true, decide_eq_true_eq]
  omega
theorem sz_0 : cntN (fun F => decide (F = 0)) 48 = 1 ∧ cntN (fun F => allN (fun G => !decide (hN F G = 0)) F) 48 = 48 := by decide +kernel
theorem sz_H : ∀ H : Nat, H < 48 → okH H = true → H ≠ 0 → cntN (fun F => decide (F = 0) || decide (F = H)) 48 = 2 ∧ cntN (fun F => allN (fun G => !(decide (hN F G = 0) || decide (hN F G = H))) F) 48 = 24 := by decide +kernel
theorem hN_lt {F G : Nat} (hF : F < 48) (hG : G < 48) : hN F G < 48 := (grp_px _ (grp_bk G hG).1 F hF).1
theorem sz_eq {f : Nat → Int} (hf : tn f) (hi : inj12 f) : szC f = szM f := by
  have hfr : ∀ K : Nat → Bool, (∀ F, F < 48 → keep f F = K F) → frs f 48 = cntN (fun F => allN (fun G => !K (hN F G)) F) 48 := by
    intro K hK
    unfold frs
    refine cntN_congr (fun F hF => allN_congr (fun G hG => ?_))
    rw [← hK _ (hN_lt hF (by omega))]
    have := eq_keep hf hF (show G < 48 by omega)
    cases hh : keep f (hN F G) with
    | true => rw [hh] at this; exact decide_eq_false (fun q => q (this.mpr rfl))
    | false => rw [hh] at this; exact decide_eq_true (fun q => by have := this.mp q; cases this)
  have hkp : ∀ K : Nat → Bool, (∀ F, F < 48 → keep f F = K F) → kps f 48 = cntN K 48 := fun K hK => cntN_congr (fun F hF => hK F hF)
  by_cases ex : ∃ H, H < 48 ∧ H ≠ 0 ∧ keep f H = true
  · obtain ⟨H, h1, h2, h3⟩ := ex
    have hoH := okH_of (keep_set hf hi h1 h3)
    have hK : ∀ F, F < 48 → keep f F = (decide (F = 0) || decide (F = H)) := by
      intro F hF
      rw [Bool.eq_iff_iff, Bool.or_eq_true, decide_eq_true_eq, decide_eq_true_eq]
      constructor
      · intro hk
        by_cases e : F = 0
        · exact Or.inl e
        · right
          have hb := keep_mul hf hF h1 hk h3
          exact grp_two F hF H h1 (okH_of (keep_set hf hi hF hk)) hoH e h2 (okH_of (keep_set hf hi (grp_px F hF H h1).1 hb))
      · rintro (rfl | rfl)
        · exact keep_0 hf
        · exact h3
    obtain ⟨c1, c2⟩ := sz_H H h1 hoH h2
    unfold szC szM
    rw [hkp _ hK, hfr _ hK, c1, c2]
    rfl
  · have hK : ∀ F, F < 48 → keep f F = decide (F = 0) := by
      intro F hF
      rw [Bool.eq_iff_iff, decide_eq_true_eq]
      constructor
      · intro hk
        exact Decidable.byContradiction (fun q => ex ⟨F, hF, q, hk⟩)
      · rintro rfl; exact keep_0 hf
    unfold szC szM
    rw [hkp _ hK, hfr _ hK, sz_0.1, sz_0.2]
    rfl
