def isf (f : Nat → Int) (N F : Int) (g : Nat → Int) (S : Int) : Bool := allN (fun j => decide (ft f N F (j : Int) = g (S + (j : Int)).toNat)) N.toNat
def cpd (a b : Nat → Int) : Nat → Nat → Int
  | 0, _ => 0
  | n + 1, k => if a k - b k = 0 then cpd a b n (k + 1) else a k - b k
def cpF (f : Nat → Int) (F G : Int) : Int := cpd (fun j => ft f 12 F (j : Int)) (fun j => ft f 12 G (j : Int)) 12 0
def lfm (f : Nat → Int) : Nat → Int
  | 0 => 0
  | n + 1 => if cpF f (n + 1 : Int) (lfm f n) < 0 then (n + 1 : Int) else lfm f n
theorem lfm_b (f : Nat → Int) : ∀ n : Nat, 0 ≤ lfm f n ∧ lfm f n ≤ n
  | 0 => ⟨Int.le_refl 0, Int.le_refl 0⟩
  | n + 1 => by
    have := lfm_b f n
    unfold lfm
    split <;> omega
def kps (f : Nat → Int) (n : Nat) : Nat := cntN (fun F => isf f 12 (F : Int) f 0) n
def stp (f : Nat → Int) (i : Int) : Int := (f (i + 1).toNat - f i.toNat) % 12
def sbt (f : Nat → Int) : Nat → Nat
  | 0 => 0
  | n + 1 => sbt f n ||| 2 ^ (stp f (n : Int)).toNat
theorem pow12 {t : Int} (h0 : 0 ≤ t) (h : t < 12) : 2 ^ t.toNat < 2 ^ 12 := Nat.pow_lt_pow_right (by decide) (by omega)
theorem sbt_lt (f : Nat → Int) : ∀ n, sbt f n < 4096
  | 0 => Nat.zero_lt_succ _
  | n + 1 => Nat.or_lt_two_pow (n := 12) (sbt_lt f n) (pow12 (by unfold stp; omega) (by unfold stp; omega))
def fst12 (f : Nat → Int) (F S : Int) : Nat → Nat
  | 0 => 0
  | n + 1 => fst12 f F S n ||| 2 ^ (ft f 12 F (S + (n : Int))).toNat
theorem fst12_lt (f : Nat → Int) (F S : Int) : ∀ n, fst12 f F S n < 4096
  | 0 => Nat.zero_lt_succ _
  | n + 1 => Nat.or_lt_two_pow (n := 12) (fst12_lt f F S n) (pow12 (ft_b _ _ _ _).1 (ft_b _ _ _ _).2)
def hsg (f : Nat → Int) (F N set : Int) : Bool := anyN (fun s => decide ((fst12 f F (s : Int) N.toNat : Int) = set)) (13 - N).toNat
def hol (f : Nat → Int) (n : Nat) : Nat := cntN (fun j => decide (f j = -6)) n
def pn (f : Nat → Int) : Prop := ∀ j : Nat, j < 12 → f j = -6 ∨ (0 ≤ f j ∧ f j < 12)
def tbt (f : Nat → Int) : Nat → Nat
  | 0 => 0
  | n + 1 => if f n = -6 then tbt f n else tbt f n ||| 2 ^ (f n).toNat
theorem tbt_lt {f : Nat → Int} (hf : pn f) : ∀ n, n ≤ 12 → tbt f n < 4096
  | 0, _ => Nat.zero_lt_succ _
  | n + 1, h => by
    have h1 := tbt_lt hf n (by omega)
    have h2 := hf n (by omega)
    unfold tbt
    split
    · exact h1
    · exact Nat.or_lt_two_pow (n := 12) h1 (pow12 (by omega) (by omega))
def fac : Nat → Int
  | 0 => 1
  | n + 1 => fac n * (n + 1 : Int)
theorem k1 {k : Int} (h : 0 ≤ k) : (k + 1).toNat = k.toNat + 1 := by omega
theorem kk {k : Int} (h : 0 ≤ k) : ((k.toNat : Nat) : Int) = k := Int.toNat_of_nonneg h

set_option maxHeartbeats 4000000 in
theorem l_X3_isFormOf (d : Nat) (hd : 4 ≤ d) (h : List AC) (A : Nat) (f : Nat → Int) (hA : h[A]? = some (ai 0 12 f)) (hf : tn f) (B : Nat) (g : Nat → Int) (hB : h[B]? = some (ai 0 12 g)) (hg : tn g) (N F S : Int) (rN : 0 ≤ N ∧ N ≤ 12) (rF : 0 ≤ F ∧ F < 48) (rS : 0 ≤ S ∧ S + N ≤ 12) : ∀ (n : Nat) (k : Int), (0 ≤ k) → (k ≤ N) → (∀ j : Nat, (j : Int) < k → ft f N F (j : Int) = g (S + (j : Int)).toNat) → ((N - k).toNat) < n → AW zX3_isFormOf Eq (rmd d) 0 0 0 0 3 [(5, vi k), (0, vr A), (1, vi N), (2, vi F), (3, vr B), (4, vi S)] [] h (RQ (bI (isf f N F g S = true)) h) := by
  intro n
  induction n with
  | zero =>
    intro k h0 h1 hi hn
    exact absurd hn (Nat.not_lt_zero _)
  | succ n ih =>
    intro k h0 h1 hi hn
    refine AW.go 2 (pc' := 6) rfl ?_
    refine AW.bi (tgt := 35) (pn := 9) rfl (by decide) rfl (by first | exact bI_rng _ | exact ⟨by omega, by omega⟩) (by first | exact bI_rng _ | exact ⟨by omega, by omega⟩) (fun c6 => ?_) (fun c6 => ?_)
    · dsimp only [cmpI] at c6
      refine AW.go 1 (pc' := 36) rfl ?_
      refine AW.retz rfl rfl (by first | exact bI_01 _ | decide) (Nat.le_refl _) (Nat.le_refl _) ?_
      refine ⟨congrArg some (bI_t ?_).symm, rfl⟩
      exact (allN_iff _ _).mpr (fun j hj => decide_eq_true (hi j (by omega)))
    · dsimp only [cmpI] at c6
      refine AW.go 4 (pc' := 14) rfl ?_
      refine AW.callSF (pn := 17) rfl rfl mlX3_85 (c_X3_formTone (d - 1) (by omega) _ _ _ (by assumption) (by assumption) _ _ _ (by omega) (by omega) (by omega)) rfl rfl (Nat.le_of_ble_eq_true rfl) ⟨by show d - 1 + 1 ≤ d; omega, by show 40 * (d - 1 + 1) ≤ 40 * d; omega⟩ ⟨Nat.zero_le _, Nat.zero_le _⟩ ?_
      refine AW.go 4 (pc' := 23) rfl ?_
      refine AW.iald (pn := 24) rfl rfl (by first | assumption | exact set_self (by assumption) | exact set_ne (by first | assumption | omega | decide) (by first | assumption | exact set_self (by assumption) | exact set_ne (by first | assumption | omega | decide) (by assumption))) (by decide) (by omega) (by omega) ?_
      have g1 := hg (S + k).toNat (by omega)
      have g2 := ft_b f N F k
      refine AW.bi (tgt := 29) (pn := 27) rfl (by decide) rfl (by first | exact bI_rng _ | exact ⟨by omega, by omega⟩) (by first | exact bI_rng _ | exact ⟨by omega, by omega⟩) (fun c24 => ?_) (fun c24 => ?_)
      · dsimp only [cmpI] at c24
        refine AW.go 2 (pc' := 3) rfl ?_
        refine AW.lw ?_ (ih (k + 1) (by omega) (by omega) (fun j hj => by by_cases q : (j : Int) < k; exact hi j q; rw [show (j : Int) = k by omega]; exact c24) (by omega))
        exact (And.intro rfl (And.intro rfl (And.intro rfl (And.intro rfl (And.intro rfl (And.intro rfl trivial))))))
      · dsimp only [cmpI] at c24
        refine AW.go 1 (pc' := 28) rfl ?_
        refine AW.retz rfl rfl (by first | exact bI_01 _ | decide) (Nat.le_refl _) (Nat.le_refl _) ?_
        refine ⟨congrArg some (bI_f (fun q => ?_)).symm, rfl⟩
        have q1 := (allN_iff _ _).mp q k.toNat (by omega)
        rw [decide_eq_true_eq, kk h0] at q1
        exact c24 q1
set_option maxHeartbeats 2000000 in
theorem c_X3_isFormOf (d : Nat) (hd : 4 ≤ d) (h : List AC) (A : Nat) (f : Nat → Int) (hA : h[A]? = some (ai 0 12 f)) (hf : tn f) (B : Nat) (g : Nat → Int) (hB : h[B]? = some (ai 0 12 g)) (hg : tn g) (N F S : Int) (rN : 0 ≤ N ∧ N ≤ 12) (rF : 0 ≤ F ∧ F < 48) (rS : 0 ≤ S ∧ S + N ≤ 12) : MF zX3_isFormOf d [vr A, vi N, vi F, vr B, vi S] h (bI (isf f N F g S = true)) h := by
  refine M0.of okX3_isFormOf (Nat.le_of_ble_eq_true rfl) ?_
  refine AW.go 2 (pc' := 3) rfl ?_
  refine AW.lw ?_ (l_X3_isFormOf d hd h A f hA hf B g hB hg N F S rN rF rS _ 0 (by omega) (by omega) (fun j hj => by omega) (Nat.lt_succ_self _))
  exact (And.intro rfl (And.intro rfl (And.intro rfl (And.intro rfl (And.intro rfl (And.intro rfl trivial))))))
set_option maxHeartbeats 4000000 in
theorem l_X3_isAnyFormOf (d : Nat) (hd : 5 ≤ d) (h : List AC) (A : Nat) (f : Nat → Int) (hA : h[A]? = some (ai 0 12 f)) (hf : tn f) (N S : Int) (rN : 0 ≤ N ∧ N ≤ 12) (rS : 0 ≤ S ∧ S + N ≤ 12) : ∀ (n : Nat) (k : Int), (0 ≤ k) → (k ≤ 48) → (∀ j : Nat, (j : Int) < k → isf f N (j : Int) f S = false) → ((48 - k).toNat) < n → AW zX3_isAnyFormOf Eq (rmd d) 0 0 0 0 2 [(3, vi k), (0, vr A), (1, vi N), (2, vi S)] [] h (RQ (bI (anyN (fun F => isf f N (F : Int) f S) 48 = true)) h) := by
  intro n
  induction n with
  | zero =>
    intro k h0 h1 hi hn
    exact absurd hn (Nat.not_lt_zero _)
  | succ n ih =>
    intro k h0 h1 hi hn
    refine AW.go 2 (pc' := 5) rfl ?_
    refine AW.bi (tgt := 27) (pn := 8) rfl (by decide) rfl (by first | exact bI_rng _ | exact ⟨by omega, by omega⟩) (by first | exact bI_rng _ | exact ⟨by omega, by omega⟩) (fun c5 => ?_) (fun c5 => ?_)
    · dsimp only [cmpI] at c5
      refine AW.go 1 (pc' := 28) rfl ?_
      refine AW.retz rfl rfl (by first | exact bI_01 _ | decide) (Nat.le_refl _) (Nat.le_refl _) ?_
      refine ⟨congrArg some (bI_f (fun q => ?_)).symm, rfl⟩
      obtain ⟨j, hj, q1⟩ := (anyN_iff _ _).mp q
      rw [hi j (by omega)] at q1
      cases q1
    · dsimp only [cmpI] at c5
      refine AW.go 5 (pc' := 13) rfl ?_
      refine AW.callSF (pn := 16) rfl rfl mlX3_111 (c_X3_isFormOf (d - 1) (by omega) _ _ _ (by assumption) (by assumption) _ _ (by assumption) (by assumption) _ _ _ (by omega) (by omega) (by omega)) rfl rfl (Nat.le_of_ble_eq_true rfl) ⟨by show d - 1 + 1 ≤ d; omega, by show 40 * (d - 1 + 1) ≤ 40 * d; omega⟩ ⟨Nat.zero_le _, Nat.zero_le _⟩ ?_
      refine AW.bz (tgt := 21) (pn := 19) rfl (by decide) rfl (fun c16 => ?_) (fun c16 => ?_)
      · refine AW.go 2 (pc' := 2) rfl ?_
        refine AW.lw ?_ (ih (k + 1) (by omega) (by omega) (fun j hj => by by_cases q : (j : Int) < k; exact hi j q; rw [show (j : Int) = k by omega]; exact Bool.eq_false_iff.mpr c16) (by omega))
        exact (And.intro rfl (And.intro rfl (And.intro rfl (And.intro rfl trivial))))
      · refine AW.go 1 (pc' := 20) rfl ?_
        refine AW.retz rfl rfl (by first | exact bI_01 _ | decide) (Nat.le_refl _) (Nat.le_refl _) ?_
        refine ⟨congrArg some (bI_t ?_).symm, rfl⟩
        exact (anyN_iff _ _).mpr ⟨k.toNat, by omega, by rw [kk h0]; exact c16⟩
set_option maxHeartbeats 2000000 in
theorem c_X3_isAnyFormOf (d : Nat) (hd : 5 ≤ d) (h : List AC) (A : Nat) (f : Nat → Int) (hA : h[A]? = some (ai 0 12 f)) (hf : tn f) (N S : Int) (rN : 0 ≤ N ∧ N ≤ 12) (rS : 0 ≤ S ∧ S + N ≤ 12) : MF zX3_isAnyFormOf d [vr A, vi N, vi S] h (bI (anyN (fun F => isf f N (F : Int) f S) 48 = true)) h := by
  refine M0.of okX3_isAnyFormOf (Nat.le_of_ble_eq_true rfl) ?_
  refine AW.go 2 (pc' := 2) rfl ?_
  refine AW.lw ?_ (l_X3_isAnyFormOf d hd h A f hA hf N S rN rS _ 0 (by omega) (by omega) (fun j hj => by omega) (Nat.lt_succ_self _))
  exact (And.intro rfl (And.intro rfl (And.intro rfl (And.intro rfl trivial))))
set_option maxHeartbeats 4000000 in
theorem l_X3_isLess (d : Nat) (hd : 4 ≤ d) (h : List AC) (A : Nat) (f : Nat → Int) (hA : h[A]? = some (ai 0 12 f)) (hf : tn f) (F G : Int) (rF : 0 ≤ F ∧ F < 48) (rG : 0 ≤ G ∧ G < 48) : ∀ (n : Nat) (k : Int), (0 ≤ k) → (k ≤ 12) → (cpF f F G = cpd (fun j => ft f 12 F (j : Int)) (fun j => ft f 12 G (j : Int)) (12 - k).toNat k.toNat) → ((12 - k).toNat) < n → AW zX3_isLess Eq (rmd d) 0 0 0 0 2 [(3, vi k), (0, vr A), (1, vi F), (2, vi G)] [] h (RQ (bI (cpF f F G < 0)) h) := by
  intro n
  induction n with
  | zero =>
    intro k h0 h1 hi hn
    exact absurd hn (Nat.not_lt_zero _)
  | succ n ih =>
    intro k h0 h1 hi hn
    refine AW.go 2 (pc' := 5) rfl ?_
    refine AW.bi (tgt := 49) (pn := 8) rfl (by decide) rfl (by first | exact bI_rng _ | exact ⟨by omega, by omega⟩) (by first | exact bI_rng _ | exact ⟨by omega, by omega⟩) (fun c5 => ?_) (fun c5 => ?_)
    · dsimp only [cmpI] at c5
      refine AW.go 1 (pc' := 50) rfl ?_
      refine AW.retz rfl rfl (by first | exact bI_01 _ | decide) (Nat.le_refl _) (Nat.le_refl _) ?_
      refine ⟨congrArg some ?_, rfl⟩
      rw [hi, show (12 - k).toNat = 0 by omega]
      exact (bI_f (by unfold cpd; decide)).symm
    · dsimp only [cmpI] at c5
      refine AW.go 4 (pc' := 13) rfl ?_
      refine AW.callSF (pn := 16) rfl rfl mlX3_85 (c_X3_formTone (d - 1) (by omega) _ _ _ (by assumption) (by assumption) _ _ _ (by omega) (by omega) (by omega)) rfl rfl (Nat.le_of_ble_eq_true rfl) ⟨by show d - 1 + 1 ≤ d; omega, by show 40 * (d - 1 + 1) ≤ 40 * d; omega⟩ ⟨Nat.zero_le _, Nat.zero_le _⟩ ?_
      refine AW.go 4 (pc' := 21) rfl ?_
      refine AW.callSF (pn := 24) rfl rfl mlX3_85 (c_X3_formTone (d - 1) (by omega) _ _ _ (by assumption) (by assumption) _ _ _ (by omega) (by omega) (by omega)) rfl rfl (Nat.le_of_ble_eq_true rfl) ⟨by show d - 1 + 1 ≤ d; omega, by show 40 * (d - 1 + 1) ≤ 40 * d; omega⟩ ⟨Nat.zero_le _, Nat.zero_le _⟩ ?_
      refine AW.go 3 (pc' := 29) rfl ?_
      have g1 := ft_b f 12 F k
      have g2 := ft_b f 12 G k
      have hs : cpd (fun j => ft f 12 F (j : Int)) (fun j => ft f 12 G (j : Int)) (12 - k).toNat k.toNat = if ft f 12 F k - ft f 12 G k = 0 then cpd (fun j => ft f 12 F (j : Int)) (fun j => ft f 12 G (j : Int)) ((12 - k).toNat - 1) (k.toNat + 1) else ft f 12 F k - ft f 12 G k := by
        obtain ⟨m, hm⟩ : ∃ m, (12 - k).toNat = m + 1 := ⟨(12 - k).toNat - 1, by omega⟩
        rw [hm]
        show (if ft f 12 F (k.toNat : Int) - ft f 12 G (k.toNat : Int) = 0 then _ else ft f 12 F (k.toNat : Int) - ft f 12 G (k.toNat : Int)) = _
        rw [kk h0]
        rfl
      refine AW.br (tgt := 43) (pn := 32) rfl (by decide) rfl (by first | exact bI_rng _ | exact ⟨by omega, by omega⟩) (fun c29 => ?_) (fun c29 => ?_)
      · dsimp only [cmpI] at c29
        refine AW.go 2 (pc' := 2) rfl ?_
        refine AW.lw ?_ (ih (k + 1) (by omega) (by omega) (by rw [k1 h0, show (12 - (k + 1)).toNat = (12 - k).toNat - 1 by omega]; rw [hs, if_pos c29] at hi; exact hi) (by omega))
        exact (And.intro rfl (And.intro rfl (And.intro rfl (And.intro rfl trivial))))
      · dsimp only [cmpI] at c29
        refine AW.go 1 (pc' := 34) rfl ?_
        refine AW.br (tgt := 41) (pn := 37) rfl (by decide) rfl (by first | exact bI_rng _ | exact ⟨by omega, by omega⟩) (fun c34 => ?_) (fun c34 => ?_)
        · dsimp only [cmpI] at c34
          refine AW.go 1 (pc' := 42) rfl ?_
          refine AW.retz rfl rfl (by first | exact bI_01 _ | decide) (Nat.le_refl _) (Nat.le_refl _) ?_
          refine ⟨congrArg some ?_, rfl⟩
          rw [hi, hs, if_neg c29]
          first | rfl | (symm; first | exact bI_t (by omega) | exact bI_f (by omega))
        · dsimp only [cmpI] at c34
          refine AW.go 2 (pc' := 42) rfl ?_
          refine AW.retz rfl rfl (by first | exact bI_01 _ | decide) (Nat.le_refl _) (Nat.le_refl _) ?_
          refine ⟨congrArg some ?_, rfl⟩
          rw [hi, hs, if_neg c29]
          first | rfl | (symm; first | exact bI_t (by omega) | exact bI_f (by omega))
set_option maxHeartbeats 2000000 in
theorem c_X3_isLess (d : Nat) (hd : 4 ≤ d) (h : List AC) (A : Nat) (f : Nat → Int) (hA : h[A]? = some (ai 0 12 f)) (hf : tn f) (F G : Int) (rF : 0 ≤ F ∧ F < 48) (rG : 0 ≤ G ∧ G < 48) : MF zX3_isLess d [vr A, vi F, vi G] h (bI (cpF f F G < 0)) h := by
  refine M0.of okX3_isLess (Nat.le_of_ble_eq_true rfl) ?_
  refine AW.go 2 (pc' := 2) rfl ?_
  refine AW.lw ?_ (l_X3_isLess d hd h A f hA hf F G rF rG _ 0 (by omega) (by omega) rfl (Nat.lt_succ_self _))
  exact (And.intro rfl (And.intro rfl (And.intro rfl (And.intro rfl trivial))))
set_option maxHeartbeats 4000000 in
theorem l_X3_leastForm (d : Nat) (hd : 5 ≤ d) (h : List AC) (A : Nat) (f : Nat → Int) (hA : h[A]? = some (ai 0 12 f)) (hf : tn f) : ∀ (n : Nat) (k : Int) (c : Int), (1 ≤ k) → (k ≤ 48) → (c = lfm f (k - 1).toNat) → ((48 - k).toNat) < n → AW zX3_leastForm Eq (rmd d) 0 0 0 0 4 [(2, vi k), (1, vi c), (0, vr A)] [] h (RQ (lfm f 47) h) := by
  intro n
  induction n with
  | zero =>
    intro k c h0 h1 hc hn
    exact absurd hn (Nat.not_lt_zero _)
  | succ n ih =>
    intro k c h0 h1 hc hn
    have hb := lfm_b f (k - 1).toNat
    rw [← hc] at hb
    have hk1 : (((k - 1).toNat : Int) + 1) = k := by omega
    refine AW.go 2 (pc' := 7) rfl ?_
    refine AW.bi (tgt := 27) (pn := 10) rfl (by decide) rfl (by first | exact bI_rng _ | exact ⟨by omega, by omega⟩) (by first | exact bI_rng _ | exact ⟨by omega, by omega⟩) (fun c7 => ?_) (fun c7 => ?_)
    · dsimp only [cmpI] at c7
      refine AW.go 1 (pc' := 28) rfl ?_
      refine AW.ret rfl rfl (Nat.le_refl _) (Nat.le_refl _) ?_
      refine ⟨congrArg some ?_, rfl⟩
      rw [hc, show (k - 1).toNat = 47 by omega]
    · dsimp only [cmpI] at c7
      refine AW.go 3 (pc' := 13) rfl ?_
      refine AW.callSF (pn := 16) rfl rfl mlX3_191 (c_X3_isLess (d - 1) (by omega) _ _ _ (by assumption) (by assumption) _ _ (by omega) (by omega)) rfl rfl (Nat.le_of_ble_eq_true rfl) ⟨by show d - 1 + 1 ≤ d; omega, by show 40 * (d - 1 + 1) ≤ 40 * d; omega⟩ ⟨Nat.zero_le _, Nat.zero_le _⟩ ?_
      refine AW.bz (tgt := 21) (pn := 19) rfl (by decide) rfl (fun c16 => ?_) (fun c16 => ?_)
      · refine AW.go 2 (pc' := 4) rfl ?_
        first | (refine AW.lw ?_ (ih (k + 1) (k) (by omega) (by omega) ?_ (by omega)); exact (And.intro rfl (And.intro rfl (And.intro rfl trivial))); rw [show (k + 1 - 1).toNat = (k - 1).toNat + 1 by omega]; unfold lfm; rw [← hc, hk1]; (first | rw [if_pos c16] | rw [if_neg c16])) | (refine AW.lw ?_ (ih (k + 1) (c) (by omega) (by omega) ?_ (by omega)); exact (And.intro rfl (And.intro rfl (And.intro rfl trivial))); rw [show (k + 1 - 1).toNat = (k - 1).toNat + 1 by omega]; unfold lfm; rw [← hc, hk1]; (first | rw [if_pos c16] | rw [if_neg c16]))
      · refine AW.go 4 (pc' := 4) rfl ?_
        first | (refine AW.lw ?_ (ih (k + 1) (k) (by omega) (by omega) ?_ (by omega)); exact (And.intro rfl (And.intro rfl (And.intro rfl trivial))); rw [show (k + 1 - 1).toNat = (k - 1).toNat + 1 by omega]; unfold lfm; rw [← hc, hk1]; (first | rw [if_pos c16] | rw [if_neg c16])) | (refine AW.lw ?_ (ih (k + 1) (c) (by omega) (by omega) ?_ (by omega)); exact (And.intro rfl (And.intro rfl (And.intro rfl trivial))); rw [show (k + 1 - 1).toNat = (k - 1).toNat + 1 by omega]; unfold lfm; rw [← hc, hk1]; (first | rw [if_pos c16] | rw [if_neg c16]))
set_option maxHeartbeats 2000000 in
theorem c_X3_leastForm (d : Nat) (hd : 5 ≤ d) (h : List AC) (A : Nat) (f : Nat → Int) (hA : h[A]? = some (ai 0 12 f)) (hf : tn f) : MF zX3_leastForm d [vr A] h (lfm f 47) h := by
  refine M0.of okX3_leastForm (Nat.le_of_ble_eq_true rfl) ?_
  refine AW.go 4 (pc' := 4) rfl ?_
  refine AW.lw ?_ (l_X3_leastForm d hd h A f hA hf _ 1 0 (by omega) (by omega) rfl (Nat.lt_succ_self _))
  exact (And.intro rfl (And.intro rfl (And.intro rfl trivial)))
set_option maxHeartbeats 4000000 in
theorem l_X3_sizeOf (d : Nat) (hd : 5 ≤ d) (h : List AC) (A : Nat) (f : Nat → Int) (hA : h[A]? = some (ai 0 12 f)) (hf : tn f) : ∀ (n : Nat) (k : Int) (c : Int), (0 ≤ k) → (k ≤ 48) → (c = (kps f k.toNat : Int)) → ((48 - k).toNat) < n → AW zX3_sizeOf Eq (rmd d) 0 0 0 0 4 [(2, vi k), (1, vi c), (0, vr A)] [] h (RQ (if (kps f 48 : Int) = 0 then 48 else 48 / (kps f 48 : Int)) h) := by
  intro n
  induction n with
  | zero =>
    intro k c h0 h1 hc hn
    exact absurd hn (Nat.not_lt_zero _)
  | succ n ih =>
    intro k c h0 h1 hc hn
    have hb := cntN_le (fun F => isf f 12 (F : Int) f 0) k.toNat
    have hb2 : 0 ≤ c ∧ c ≤ 48 := by rw [hc]; unfold kps; omega
    refine AW.go 2 (pc' := 7) rfl ?_
    refine AW.bi (tgt := 31) (pn := 10) rfl (by decide) rfl (by first | exact bI_rng _ | exact ⟨by omega, by omega⟩) (by first | exact bI_rng _ | exact ⟨by omega, by omega⟩) (fun c7 => ?_) (fun c7 => ?_)
    · dsimp only [cmpI] at c7
      refine AW.go 1 (pc' := 32) rfl ?_
      refine AW.br (tgt := 40) (pn := 35) rfl (by decide) rfl (by first | exact bI_rng _ | exact ⟨by omega, by omega⟩) (fun c32 => ?_) (fun c32 => ?_)
      · dsimp only [cmpI] at c32
        refine AW.go 2 (pc' := 43) rfl ?_
        refine AW.idiv (pn := 44) rfl rfl (by omega) (by omega) (by omega) (by omega) ?_
        refine AW.ret rfl rfl (Nat.le_refl _) (Nat.le_refl _) ?_
        have e : k.toNat = 48 := by omega
        rw [e] at hc
        refine ⟨congrArg some ?_, rfl⟩
        rw [← hc]
        first | rw [if_pos (by omega)] | rw [if_neg (by omega)]
      · dsimp only [cmpI] at c32
        refine AW.go 2 (pc' := 44) rfl ?_
        refine AW.ret rfl rfl (Nat.le_refl _) (Nat.le_refl _) ?_
        have e : k.toNat = 48 := by omega
        rw [e] at hc
        refine ⟨congrArg some ?_, rfl⟩
        rw [← hc]
        first | rw [if_pos (by omega)] | rw [if_neg (by omega)]
    · dsimp only [cmpI] at c7
      refine AW.go 5 (pc' := 16) rfl ?_
      refine AW.callSF (pn := 19) rfl rfl mlX3_111 (c_X3_isFormOf (d - 1) (by omega) _ _ _ (by assumption) (by assumption) _ _ (by assumption) (by assumption) _ _ _ (by omega) (by omega) (by omega)) rfl rfl (Nat.le_of_ble_eq_true rfl) ⟨by show d - 1 + 1 ≤ d; omega, by show 40 * (d - 1 + 1) ≤ 40 * d; omega⟩ ⟨Nat.zero_le _, Nat.zero_le _⟩ ?_
      refine AW.bz (tgt := 25) (pn := 22) rfl (by decide) rfl (fun c19 => ?_) (fun c19 => ?_)
      · refine AW.go 2 (pc' := 4) rfl ?_
        first | (refine AW.lw ?_ (ih (k + 1) (c + 1) (by omega) (by omega) ?_ (by omega)); exact (And.intro rfl (And.intro rfl (And.intro rfl trivial))); rw [k1 h0]; unfold kps cntN; rw [kk h0]; (first | (rw [if_pos c19, hc]; rfl) | (rw [if_neg c19, hc]; rfl))) | (refine AW.lw ?_ (ih (k + 1) (c) (by omega) (by omega) ?_ (by omega)); exact (And.intro rfl (And.intro rfl (And.intro rfl trivial))); rw [k1 h0]; unfold kps cntN; rw [kk h0]; (first | (rw [if_pos c19, hc]; rfl) | (rw [if_neg c19, hc]; rfl)))
      · refine AW.go 3 (pc' := 4) rfl ?_
        first | (refine AW.lw ?_ (ih (k + 1) (c + 1) (by omega) (by omega) ?_ (by omega)); exact (And.intro rfl (And.intro rfl (And.intro rfl trivial))); rw [k1 h0]; unfold kps cntN; rw [kk h0]; (first | (rw [if_pos c19, hc]; rfl) | (rw [if_neg c19, hc]; rfl))) | (refine AW.lw ?_ (ih (k + 1) (c) (by omega) (by omega) ?_ (by omega)); exact (And.intro rfl (And.intro rfl (And.intro rfl trivial))); rw [k1 h0]; unfold kps cntN; rw [kk h0]; (first | (rw [if_pos c19, hc]; rfl) | (rw [if_neg c19, hc]; rfl)))
set_option maxHeartbeats 2000000 in
theorem c_X3_sizeOf (d : Nat) (hd : 5 ≤ d) (h : List AC) (A : Nat) (f : Nat → Int) (hA : h[A]? = some (ai 0 12 f)) (hf : tn f) : MF zX3_sizeOf d [vr A] h (if (kps f 48 : Int) = 0 then 48 else 48 / (kps f 48 : Int)) h := by
  refine M0.of okX3_sizeOf (Nat.le_of_ble_eq_true rfl) ?_
  refine AW.go 4 (pc' := 4) rfl ?_
  refine AW.lw ?_ (l_X3_sizeOf d hd h A f hA hf _ 0 0 (by omega) (by omega) rfl (Nat.lt_succ_self _))
  exact (And.intro rfl (And.intro rfl (And.intro rfl trivial)))
set_option maxHeartbeats 2000000 in
theorem c_X3_stepAt (d : Nat) (hd : 2 ≤ d) (h : List AC) (A : Nat) (f : Nat → Int) (hA : h[A]? = some (ai 0 12 f)) (hf : tn f) (i : Int) (ri : 0 ≤ i ∧ i < 11) : MF zX3_stepAt d [vr A, vi i] h (stp f i) h := by
  refine M0.of okX3_stepAt (Nat.le_of_ble_eq_true rfl) ?_
  refine AW.go 4 (pc' := 4) rfl ?_
  refine AW.iald (pn := 5) rfl rfl (by first | assumption | exact set_self (by assumption) | exact set_ne (by first | assumption | omega | decide) (by first | assumption | exact set_self (by assumption) | exact set_ne (by first | assumption | omega | decide) (by assumption))) (by decide) (by omega) (by omega) ?_
  refine AW.go 2 (pc' := 7) rfl ?_
  refine AW.iald (pn := 8) rfl rfl (by first | assumption | exact set_self (by assumption) | exact set_ne (by first | assumption | omega | decide) (by first | assumption | exact set_self (by assumption) | exact set_ne (by first | assumption | omega | decide) (by assumption))) (by decide) (by omega) (by omega) ?_
  refine AW.go 1 (pc' := 9) rfl ?_
  have g1 := hf (i + 1).toNat (by omega)
  have g2 := hf i.toNat (by omega)
  refine AW.callSF (pn := 12) rfl rfl mlX3_102 (c_X3_wrapped (d - 1) (by omega) _ _ (by omega)) rfl rfl (Nat.le_of_ble_eq_true rfl) ⟨by show d - 1 + 1 ≤ d; omega, by show 40 * (d - 1 + 1) ≤ 40 * d; omega⟩ ⟨Nat.zero_le _, Nat.zero_le _⟩ ?_
  refine AW.ret rfl rfl (Nat.le_refl _) (Nat.le_refl _) ?_
  exact ⟨rfl, rfl⟩
set_option maxHeartbeats 4000000 in
theorem l_X3_unlikeSteps (d : Nat) (hd : 3 ≤ d) (h : List AC) (A : Nat) (f : Nat → Int) (hA : h[A]? = some (ai 0 12 f)) (hf : tn f) : ∀ (n : Nat) (k : Int) (x : Nat), (0 ≤ k) → (k ≤ 11) → (x = sbt f k.toNat) → ((11 - k).toNat) < n → AW zX3_unlikeSteps Eq (rmd d) 0 0 0 0 4 [(2, vi k), (1, vi (x : Int)), (0, vr A)] [] h (RQ ((cntN (fun i => (sbt f 11).testBit i) 12 : Nat) : Int) h) := by
  intro n
  induction n with
  | zero =>
    intro k x h0 h1 hc hn
    exact absurd hn (Nat.not_lt_zero _)
  | succ n ih =>
    intro k x h0 h1 hc hn
    refine AW.go 2 (pc' := 7) rfl ?_
    refine AW.bi (tgt := 26) (pn := 10) rfl (by decide) rfl (by first | exact bI_rng _ | exact ⟨by omega, by omega⟩) (by first | exact bI_rng _ | exact ⟨by omega, by omega⟩) (fun c7 => ?_) (fun c7 => ?_)
    · dsimp only [cmpI] at c7
      refine AW.go 1 (pc' := 27) rfl ?_
      have e : k.toNat = 11 := by omega
      rw [e] at hc
      subst hc
      refine AW.callSF (pn := 30) rfl rfl mlX3_194 (c_bitCount (d - 1) _ _ (by first | assumption | exact sbt_lt _ _)) rfl rfl (Nat.le_of_ble_eq_true rfl) ⟨by show d - 1 + 1 ≤ d; omega, by show 40 * (d - 1 + 1) ≤ 40 * d; omega⟩ ⟨Nat.zero_le _, Nat.zero_le _⟩ ?_
      refine AW.ret rfl rfl (Nat.le_refl _) (Nat.le_refl _) ?_
      exact ⟨rfl, rfl⟩
    · dsimp only [cmpI] at c7
      refine AW.go 4 (pc' := 14) rfl ?_
      refine AW.callSF (pn := 17) rfl rfl mlX3_118 (c_X3_stepAt (d - 1) (by omega) _ _ _ (by assumption) (by assumption) _ (by omega)) rfl rfl (Nat.le_of_ble_eq_true rfl) ⟨by show d - 1 + 1 ≤ d; omega, by show 40 * (d - 1 + 1) ≤ 40 * d; omega⟩ ⟨Nat.zero_le _, Nat.zero_le _⟩ ?_
      have g1 : 0 ≤ stp f k ∧ stp f k < 12 := by unfold stp; omega
      refine AW.shl1 (pn := 18) rfl rfl (by omega) (by omega) ?_
      refine AW.orN (pn := 19) rfl rfl ?_
      refine AW.go 3 (pc' := 4) rfl ?_
      first | (refine AW.lw ?_ (ih (k + 1) (x ||| 2 ^ (stp f k).toNat) (by omega) (by omega) ?_ (by omega)); exact (And.intro rfl (And.intro rfl (And.intro rfl trivial))); rw [k1 h0]; unfold sbt; rw [← hc, kk h0])
set_option maxHeartbeats 2000000 in
theorem c_X3_unlikeSteps (d : Nat) (hd : 3 ≤ d) (h : List AC) (A : Nat) (f : Nat → Int) (hA : h[A]? = some (ai 0 12 f)) (hf : tn f) : MF zX3_unlikeSteps d [vr A] h ((cntN (fun i => (sbt f 11).testBit i) 12 : Nat) : Int) h := by
  refine M0.of okX3_unlikeSteps (Nat.le_of_ble_eq_true rfl) ?_
  refine AW.go 4 (pc' := 4) rfl ?_
  refine AW.lw ?_ (l_X3_unlikeSteps d hd h A f hA hf _ 0 0 (by omega) (by omega) rfl (Nat.lt_succ_self _))
  exact (And.intro rfl (And.intro rfl (And.intro rfl trivial)))
set_option maxHeartbeats 4000000 in
theorem l_X3_formSet (d : Nat) (hd : 4 ≤ d) (h : List AC) (A : Nat) (f : Nat → Int) (hA : h[A]? = some (ai 0 12 f)) (hf : tn f) (F S N : Int) (rF : 0 ≤ F ∧ F < 48) (rS : 0 ≤ S ∧ 0 ≤ N ∧ S + N ≤ 12) : ∀ (n : Nat) (k : Int) (x : Nat), (S ≤ k) → (k ≤ S + N) → (x = fst12 f F S (k - S).toNat) → ((S + N - k).toNat) < n → AW zX3_formSet Eq (rmd d) 0 0 0 0 6 [(5, vi k), (4, vi (x : Int)), (0, vr A), (1, vi F), (2, vi S), (3, vi N)] [] h (RQ (fst12 f F S N.toNat : Int) h) := by
  intro n
  induction n with
  | zero =>
    intro k x h0 h1 hc hn
    exact absurd hn (Nat.not_lt_zero _)
  | succ n ih =>
    intro k x h0 h1 hc hn
    refine AW.go 4 (pc' := 11) rfl ?_
    refine AW.bi (tgt := 36) (pn := 14) rfl (by decide) rfl (by first | exact bI_rng _ | exact ⟨by omega, by omega⟩) (by first | exact bI_rng _ | exact ⟨by omega, by omega⟩) (fun c11 => ?_) (fun c11 => ?_)
    · dsimp only [cmpI] at c11
      refine AW.go 1 (pc' := 38) rfl ?_
      refine AW.ret rfl rfl (Nat.le_refl _) (Nat.le_refl _) ?_
      have e : (k - S).toNat = N.toNat := by omega
      rw [e] at hc
      subst hc
      exact ⟨rfl, rfl⟩
    · dsimp only [cmpI] at c11
      refine AW.go 6 (pc' := 23) rfl ?_
      refine AW.callSF (pn := 26) rfl rfl mlX3_85 (c_X3_formTone (d - 1) (by omega) _ _ _ (by assumption) (by assumption) _ _ _ (by omega) (by omega) (by omega)) rfl rfl (Nat.le_of_ble_eq_true rfl) ⟨by show d - 1 + 1 ≤ d; omega, by show 40 * (d - 1 + 1) ≤ 40 * d; omega⟩ ⟨Nat.zero_le _, Nat.zero_le _⟩ ?_
      have g1 := ft_b f 12 F k
      refine AW.shl1 (pn := 27) rfl rfl (by omega) (by omega) ?_
      refine AW.orN (pn := 28) rfl rfl ?_
      refine AW.go 3 (pc' := 6) rfl ?_
      first | (refine AW.lw ?_ (ih (k + 1) (x ||| 2 ^ (ft f 12 F k).toNat) (by omega) (by omega) ?_ (by omega)); exact (And.intro rfl (And.intro rfl (And.intro rfl (And.intro rfl (And.intro rfl (And.intro rfl trivial)))))); rw [show (k + 1 - S).toNat = (k - S).toNat + 1 by omega]; unfold fst12; rw [← hc, show S + ((k - S).toNat : Int) = k by omega])
set_option maxHeartbeats 2000000 in
theorem c_X3_formSet (d : Nat) (hd : 4 ≤ d) (h : List AC) (A : Nat) (f : Nat → Int) (hA : h[A]? = some (ai 0 12 f)) (hf : tn f) (F S N : Int) (rF : 0 ≤ F ∧ F < 48) (rS : 0 ≤ S ∧ 0 ≤ N ∧ S + N ≤ 12) : MF zX3_formSet d [vr A, vi F, vi S, vi N] h (fst12 f F S N.toNat : Int) h := by
  refine M0.of okX3_formSet (Nat.le_of_ble_eq_true rfl) ?_
  refine AW.go 4 (pc' := 6) rfl ?_
  refine AW.lw ?_ (l_X3_formSet d hd h A f hA hf F S N rF rS _ S 0 (by omega) (by omega) (by rw [Int.sub_self]; rfl) (Nat.lt_succ_self _))
  exact (And.intro rfl (And.intro rfl (And.intro rfl (And.intro rfl (And.intro rfl (And.intro rfl trivial))))))
set_option maxHeartbeats 4000000 in
theorem l_X3_hasSegment (d : Nat) (hd : 5 ≤ d) (h : List AC) (A : Nat) (f : Nat → Int) (hA : h[A]? = some (ai 0 12 f)) (hf : tn f) (F N s : Int) (rF : 0 ≤ F ∧ F < 48) (rN : 0 ≤ N ∧ N ≤ 12) (rs : -2147483648 ≤ s ∧ s < 2147483648) : ∀ (n : Nat) (k : Int), (0 ≤ k) → (k ≤ 13 - N) → (∀ j : Nat, (j : Int) < k → ¬ (fst12 f F (j : Int) N.toNat : Int) = s) → ((13 - N - k).toNat) < n → AW zX3_hasSegment Eq (rmd d) 0 0 0 0 3 [(4, vi k), (0, vr A), (1, vi F), (2, vi N), (3, vi s)] [] h (RQ (bI (hsg f F N s = true)) h) := by
  intro n
  induction n with
  | zero =>
    intro k h0 h1 hi hn
    exact absurd hn (Nat.not_lt_zero _)
  | succ n ih =>
    intro k h0 h1 hi hn
    refine AW.go 4 (pc' := 9) rfl ?_
    refine AW.bi (tgt := 32) (pn := 12) rfl (by decide) rfl (by first | exact bI_rng _ | exact ⟨by omega, by omega⟩) (by first | exact bI_rng _ | exact ⟨by omega, by omega⟩) (fun c9 => ?_) (fun c9 => ?_)
    · dsimp only [cmpI] at c9
      refine AW.go 1 (pc' := 33) rfl ?_
      refine AW.retz rfl rfl (by first | exact bI_01 _ | decide) (Nat.le_refl _) (Nat.le_refl _) ?_
      refine ⟨congrArg some (bI_f (fun q => ?_)).symm, rfl⟩
      obtain ⟨j, hj, q1⟩ := (anyN_iff _ _).mp q
      exact hi j (by omega) (of_decide_eq_true q1)
    · dsimp only [cmpI] at c9
      refine AW.go 4 (pc' := 17) rfl ?_
      refine AW.callSF (pn := 20) rfl rfl mlX3_122 (c_X3_formSet (d - 1) (by omega) _ _ _ (by assumption) (by assumption) _ _ _ (by omega) (by omega)) rfl rfl (Nat.le_of_ble_eq_true rfl) ⟨by show d - 1 + 1 ≤ d; omega, by show 40 * (d - 1 + 1) ≤ 40 * d; omega⟩ ⟨Nat.zero_le _, Nat.zero_le _⟩ ?_
      refine AW.go 1 (pc' := 21) rfl ?_
      have g1 := fst12_lt f F k N.toNat
      refine AW.bi (tgt := 26) (pn := 24) rfl (by decide) rfl (by first | exact bI_rng _ | exact ⟨by omega, by omega⟩) (by first | exact bI_rng _ | exact ⟨by omega, by omega⟩) (fun c21 => ?_) (fun c21 => ?_)
      · dsimp only [cmpI] at c21
        refine AW.go 2 (pc' := 3) rfl ?_
        refine AW.lw ?_ (ih (k + 1) (by omega) (by omega) (fun j hj => by by_cases q : (j : Int) < k; exact hi j q; rw [show (j : Int) = k by omega]; exact c21) (by omega))
        exact (And.intro rfl (And.intro rfl (And.intro rfl (And.intro rfl (And.intro rfl trivial)))))
      · dsimp only [cmpI] at c21
        refine AW.go 1 (pc' := 25) rfl ?_
        refine AW.retz rfl rfl (by first | exact bI_01 _ | decide) (Nat.le_refl _) (Nat.le_refl _) ?_
        refine ⟨congrArg some (bI_t ?_).symm, rfl⟩
        exact (anyN_iff _ _).mpr ⟨k.toNat, by omega, by rw [kk h0]; exact decide_eq_true (Decidable.not_not.mp c21)⟩
set_option maxHeartbeats 2000000 in
theorem c_X3_hasSegment (d : Nat) (hd : 5 ≤ d) (h : List AC) (A : Nat) (f : Nat → Int) (hA : h[A]? = some (ai 0 12 f)) (hf : tn f) (F N s : Int) (rF : 0 ≤ F ∧ F < 48) (rN : 0 ≤ N ∧ N ≤ 12) (rs : -2147483648 ≤ s ∧ s < 2147483648) : MF zX3_hasSegment d [vr A, vi F, vi N, vi s] h (bI (hsg f F N s = true)) h := by
  refine M0.of okX3_hasSegment (Nat.le_of_ble_eq_true rfl) ?_
  refine AW.go 2 (pc' := 3) rfl ?_
  refine AW.lw ?_ (l_X3_hasSegment d hd h A f hA hf F N s rF rN rs _ 0 (by omega) (by omega) (fun j hj => by omega) (Nat.lt_succ_self _))
  exact (And.intro rfl (And.intro rfl (And.intro rfl (And.intro rfl (And.intro rfl trivial)))))
set_option maxHeartbeats 4000000 in
theorem l_X3_holesOf (d : Nat) (hd : 0 ≤ d) (h : List AC) (A : Nat) (f : Nat → Int) (hA : h[A]? = some (ai 0 12 f)) (hf : pn f) : ∀ (n : Nat) (k : Int) (c : Int), (0 ≤ k) → (k ≤ 12) → (c = (hol f k.toNat : Int)) → ((12 - k).toNat) < n → AW zX3_holesOf Eq (rmd d) 0 0 0 0 4 [(2, vi k), (1, vi c), (0, vr A)] [] h (RQ (hol f 12 : Int) h) := by
  intro n
  induction n with
  | zero =>
    intro k c h0 h1 hc hn
    exact absurd hn (Nat.not_lt_zero _)
  | succ n ih =>
    intro k c h0 h1 hc hn
    refine AW.go 2 (pc' := 7) rfl ?_
    refine AW.bi (tgt := 27) (pn := 10) rfl (by decide) rfl (by first | exact bI_rng _ | exact ⟨by omega, by omega⟩) (by first | exact bI_rng _ | exact ⟨by omega, by omega⟩) (fun c7 => ?_) (fun c7 => ?_)
    · dsimp only [cmpI] at c7
      refine AW.go 1 (pc' := 28) rfl ?_
      refine AW.ret rfl rfl (Nat.le_refl _) (Nat.le_refl _) ?_
      have e : k.toNat = 12 := by omega
      rw [e] at hc
      subst hc
      exact ⟨rfl, rfl⟩
    · dsimp only [cmpI] at c7
      refine AW.go 2 (pc' := 12) rfl ?_
      refine AW.iald (pn := 13) rfl rfl (by first | assumption | exact set_self (by assumption) | exact set_ne (by first | assumption | omega | decide) (by first | assumption | exact set_self (by assumption) | exact set_ne (by first | assumption | omega | decide) (by assumption))) (by decide) (by omega) (by omega) ?_
      refine AW.go 1 (pc' := 15) rfl ?_
      have g1 := hf k.toNat (by omega)
      refine AW.bi (tgt := 21) (pn := 18) rfl (by decide) rfl (by first | exact bI_rng _ | exact ⟨by omega, by omega⟩) (by first | exact bI_rng _ | exact ⟨by omega, by omega⟩) (fun c15 => ?_) (fun c15 => ?_)
      · dsimp only [cmpI] at c15
        refine AW.go 2 (pc' := 4) rfl ?_
        first | (refine AW.lw ?_ (ih (k + 1) (c + 1) (by omega) (by omega) ?_ (by omega)); exact (And.intro rfl (And.intro rfl (And.intro rfl trivial))); rw [k1 h0]; unfold hol cntN; (first | (rw [if_pos (decide_eq_true (Decidable.not_not.mp c15)), hc]; rfl) | (rw [if_neg (fun q => c15 (of_decide_eq_true q)), hc]; rfl))) | (refine AW.lw ?_ (ih (k + 1) (c) (by omega) (by omega) ?_ (by omega)); exact (And.intro rfl (And.intro rfl (And.intro rfl trivial))); rw [k1 h0]; unfold hol cntN; (first | (rw [if_pos (decide_eq_true (Decidable.not_not.mp c15)), hc]; rfl) | (rw [if_neg (fun q => c15 (of_decide_eq_true q)), hc]; rfl)))
      · dsimp only [cmpI] at c15
        refine AW.go 3 (pc' := 4) rfl ?_
        first | (refine AW.lw ?_ (ih (k + 1) (c + 1) (by omega) (by omega) ?_ (by omega)); exact (And.intro rfl (And.intro rfl (And.intro rfl trivial))); rw [k1 h0]; unfold hol cntN; (first | (rw [if_pos (decide_eq_true (Decidable.not_not.mp c15)), hc]; rfl) | (rw [if_neg (fun q => c15 (of_decide_eq_true q)), hc]; rfl))) | (refine AW.lw ?_ (ih (k + 1) (c) (by omega) (by omega) ?_ (by omega)); exact (And.intro rfl (And.intro rfl (And.intro rfl trivial))); rw [k1 h0]; unfold hol cntN; (first | (rw [if_pos (decide_eq_true (Decidable.not_not.mp c15)), hc]; rfl) | (rw [if_neg (fun q => c15 (of_decide_eq_true q)), hc]; rfl)))
set_option maxHeartbeats 2000000 in
theorem c_X3_holesOf (d : Nat) (hd : 0 ≤ d) (h : List AC) (A : Nat) (f : Nat → Int) (hA : h[A]? = some (ai 0 12 f)) (hf : pn f) : MF zX3_holesOf d [vr A] h (hol f 12 : Int) h := by
  refine M0.of okX3_holesOf (Nat.le_of_ble_eq_true rfl) ?_
  refine AW.go 4 (pc' := 4) rfl ?_
  refine AW.lw ?_ (l_X3_holesOf d hd h A f hA hf _ 0 0 (by omega) (by omega) rfl (Nat.lt_succ_self _))
  exact (And.intro rfl (And.intro rfl (And.intro rfl trivial)))
def ckp (F : Int) : Prop := F = 0 ∨ F = 30 ∨ 36 < F ∧ F % 2 = 1
noncomputable section
end
set_option maxHeartbeats 2000000 in
theorem c_X3_canKeepRows (d : Nat) (hd : 1 ≤ d) (h : List AC) (F : Int) (rF : 0 ≤ F ∧ F < 48) : MF zX3_canKeepRows d [vi F] h (bI (F = 0 ∨ F = 30 ∨ 36 < F ∧ F % 2 = 1)) h := by
  refine M0.of okX3_canKeepRows (Nat.le_of_ble_eq_true rfl) ?_
  refine AW.go 1 (pc' := 1) rfl ?_
  refine AW.callSF (pn := 4) rfl rfl mlX3_150 (c_X3_isBackwards (d - 1) (by omega) _ _ (by omega)) rfl rfl (Nat.le_of_ble_eq_true rfl) ⟨by show d - 1 + 1 ≤ d; omega, by show 40 * (d - 1 + 1) ≤ 40 * d; omega⟩ ⟨Nat.zero_le _, Nat.zero_le _⟩ ?_
  refine AW.bnz (tgt := 17) (pn := 7) rfl (by decide) rfl (fun c4 => ?_) (fun c4 => ?_)
  · refine AW.go 1 (pc' := 18) rfl ?_
    refine AW.callSF (pn := 21) rfl rfl mlX3_99 (c_X3_isMirrored (d - 1) (by omega) _ _ (by omega)) rfl rfl (Nat.le_of_ble_eq_true rfl) ⟨by show d - 1 + 1 ≤ d; omega, by show 40 * (d - 1 + 1) ≤ 40 * d; omega⟩ ⟨Nat.zero_le _, Nat.zero_le _⟩ ?_
    refine AW.bz (tgt := 39) (pn := 24) rfl (by decide) rfl (fun c21 => ?_) (fun c21 => ?_)
    · refine AW.go 2 (pc' := 42) rfl ?_
      refine AW.irem (pn := 43) rfl rfl (by omega) (by omega) (by omega) (by omega) ?_
      refine AW.go 1 (pc' := 45) rfl ?_
      refine AW.bi (tgt := 52) (pn := 48) rfl (by decide) rfl (by first | exact bI_rng _ | exact ⟨by omega, by omega⟩) (by first | exact bI_rng _ | exact ⟨by omega, by omega⟩) (fun c45 => ?_) (fun c45 => ?_)
      · dsimp only [cmpI] at c45
        refine AW.go 1 (pc' := 53) rfl ?_
        refine AW.retz rfl rfl (by first | exact bI_01 _ | decide) (Nat.le_refl _) (Nat.le_refl _) ?_
        refine ⟨congrArg some ?_, rfl⟩
        first | rfl | (symm; first | exact bI_t (by omega) | exact bI_f (by omega)) | omega
      · dsimp only [cmpI] at c45
        refine AW.go 2 (pc' := 53) rfl ?_
        refine AW.retz rfl rfl (by first | exact bI_01 _ | decide) (Nat.le_refl _) (Nat.le_refl _) ?_
        refine ⟨congrArg some ?_, rfl⟩
        first | rfl | (symm; first | exact bI_t (by omega) | exact bI_f (by omega)) | omega
    · refine AW.go 2 (pc' := 26) rfl ?_
      refine AW.irem (pn := 27) rfl rfl (by omega) (by omega) (by omega) (by omega) ?_
      refine AW.go 1 (pc' := 28) rfl ?_
      refine AW.bi (tgt := 35) (pn := 31) rfl (by decide) rfl (by first | exact bI_rng _ | exact ⟨by omega, by omega⟩) (by first | exact bI_rng _ | exact ⟨by omega, by omega⟩) (fun c28 => ?_) (fun c28 => ?_)
      · dsimp only [cmpI] at c28
        refine AW.go 2 (pc' := 53) rfl ?_
        refine AW.retz rfl rfl (by first | exact bI_01 _ | decide) (Nat.le_refl _) (Nat.le_refl _) ?_
        refine ⟨congrArg some ?_, rfl⟩
        first | rfl | (symm; first | exact bI_t (by omega) | exact bI_f (by omega)) | omega
      · dsimp only [cmpI] at c28
        refine AW.go 2 (pc' := 53) rfl ?_
        refine AW.retz rfl rfl (by first | exact bI_01 _ | decide) (Nat.le_refl _) (Nat.le_refl _) ?_
        refine ⟨congrArg some ?_, rfl⟩
        first | rfl | (symm; first | exact bI_t (by omega) | exact bI_f (by omega)) | omega
  · refine AW.go 1 (pc' := 8) rfl ?_
    refine AW.br (tgt := 15) (pn := 11) rfl (by decide) rfl (by first | exact bI_rng _ | exact ⟨by omega, by omega⟩) (fun c8 => ?_) (fun c8 => ?_)
    · dsimp only [cmpI] at c8
      refine AW.go 1 (pc' := 16) rfl ?_
      refine AW.retz rfl rfl (by first | exact bI_01 _ | decide) (Nat.le_refl _) (Nat.le_refl _) ?_
      refine ⟨congrArg some ?_, rfl⟩
      first | rfl | (symm; first | exact bI_t (by omega) | exact bI_f (by omega)) | omega
    · dsimp only [cmpI] at c8
      refine AW.go 2 (pc' := 16) rfl ?_
      refine AW.retz rfl rfl (by first | exact bI_01 _ | decide) (Nat.le_refl _) (Nat.le_refl _) ?_
      refine ⟨congrArg some ?_, rfl⟩
      first | rfl | (symm; first | exact bI_t (by omega) | exact bI_f (by omega)) | omega
set_option maxHeartbeats 2000000 in
theorem c_X3_placeAcross (d : Nat) (hd : 1 ≤ d) (h : List AC) (F p : Int) (rF : 0 ≤ F ∧ F < 48) : MF zX3_placeAcross d [vi F, vi p] h (if 24 ≤ F then 11 - p else p) h := by
  refine M0.of okX3_placeAcross (Nat.le_of_ble_eq_true rfl) ?_
  refine AW.go 1 (pc' := 1) rfl ?_
  refine AW.callSF (pn := 4) rfl rfl mlX3_150 (c_X3_isBackwards (d - 1) (by omega) _ _ (by omega)) rfl rfl (Nat.le_of_ble_eq_true rfl) ⟨by show d - 1 + 1 ≤ d; omega, by show 40 * (d - 1 + 1) ≤ 40 * d; omega⟩ ⟨Nat.zero_le _, Nat.zero_le _⟩ ?_
  refine AW.bz (tgt := 14) (pn := 7) rfl (by decide) rfl (fun c4 => ?_) (fun c4 => ?_)
  · refine AW.go 1 (pc' := 15) rfl ?_
    refine AW.ret rfl rfl (Nat.le_refl _) (Nat.le_refl _) ?_
    refine ⟨congrArg some ?_, rfl⟩
    first | rw [if_pos (by assumption)] | rw [if_neg (by assumption)]
  · refine AW.go 4 (pc' := 15) rfl ?_
    refine AW.ret rfl rfl (Nat.le_refl _) (Nat.le_refl _) ?_
    refine ⟨congrArg some ?_, rfl⟩
    first | rw [if_pos (by assumption)] | rw [if_neg (by assumption)]
set_option maxHeartbeats 4000000 in
theorem l_X3_toneBits (d : Nat) (hd : 0 ≤ d) (h : List AC) (A : Nat) (f : Nat → Int) (hA : h[A]? = some (ai 0 12 f)) (hf : pn f) : ∀ (n : Nat) (k : Int) (x : Nat), (0 ≤ k) → (k ≤ 12) → (x = tbt f k.toNat) → ((12 - k).toNat) < n → AW zX3_toneBits Eq (rmd d) 0 0 0 0 4 [(2, vi k), (1, vi (x : Int)), (0, vr A)] [] h (RQ (tbt f 12 : Int) h) := by
  intro n
  induction n with
  | zero =>
    intro k x h0 h1 hc hn
    exact absurd hn (Nat.not_lt_zero _)
  | succ n ih =>
    intro k x h0 h1 hc hn
    refine AW.go 2 (pc' := 7) rfl ?_
    refine AW.bi (tgt := 32) (pn := 10) rfl (by decide) rfl (by first | exact bI_rng _ | exact ⟨by omega, by omega⟩) (by first | exact bI_rng _ | exact ⟨by omega, by omega⟩) (fun c7 => ?_) (fun c7 => ?_)
    · dsimp only [cmpI] at c7
      refine AW.go 1 (pc' := 33) rfl ?_
      refine AW.ret rfl rfl (Nat.le_refl _) (Nat.le_refl _) ?_
      have e : k.toNat = 12 := by omega
      rw [e] at hc
      subst hc
      exact ⟨rfl, rfl⟩
    · dsimp only [cmpI] at c7
      refine AW.go 2 (pc' := 12) rfl ?_
      refine AW.iald (pn := 13) rfl rfl (by first | assumption | exact set_self (by assumption) | exact set_ne (by first | assumption | omega | decide) (by first | assumption | exact set_self (by assumption) | exact set_ne (by first | assumption | omega | decide) (by assumption))) (by decide) (by omega) (by omega) ?_
      refine AW.go 1 (pc' := 15) rfl ?_
      have g1 := hf k.toNat (by omega)
      refine AW.bi (tgt := 26) (pn := 18) rfl (by decide) rfl (by first | exact bI_rng _ | exact ⟨by omega, by omega⟩) (by first | exact bI_rng _ | exact ⟨by omega, by omega⟩) (fun c15 => ?_) (fun c15 => ?_)
      · dsimp only [cmpI] at c15
        refine AW.go 2 (pc' := 4) rfl ?_
        first | (refine AW.lw ?_ (ih (k + 1) (x) (by omega) (by omega) ?_ (by omega)); exact (And.intro rfl (And.intro rfl (And.intro rfl trivial))); rw [k1 h0]; unfold tbt; rw [← hc]; (first | rw [if_pos c15] | rw [if_neg c15])) | (refine AW.lw ?_ (ih (k + 1) (x ||| 2 ^ (f k.toNat).toNat) (by omega) (by omega) ?_ (by omega)); exact (And.intro rfl (And.intro rfl (And.intro rfl trivial))); rw [k1 h0]; unfold tbt; rw [← hc]; (first | rw [if_pos c15] | rw [if_neg c15]))
      · dsimp only [cmpI] at c15
        refine AW.go 4 (pc' := 22) rfl ?_
        refine AW.iald (pn := 23) rfl rfl (by first | assumption | exact set_self (by assumption) | exact set_ne (by first | assumption | omega | decide) (by first | assumption | exact set_self (by assumption) | exact set_ne (by first | assumption | omega | decide) (by assumption))) (by decide) (by omega) (by omega) ?_
        refine AW.shl1 (pn := 24) rfl rfl (by omega) (by omega) ?_
        refine AW.orN (pn := 25) rfl rfl ?_
        refine AW.go 3 (pc' := 4) rfl ?_
        first | (refine AW.lw ?_ (ih (k + 1) (x) (by omega) (by omega) ?_ (by omega)); exact (And.intro rfl (And.intro rfl (And.intro rfl trivial))); rw [k1 h0]; unfold tbt; rw [← hc]; (first | rw [if_pos c15] | rw [if_neg c15])) | (refine AW.lw ?_ (ih (k + 1) (x ||| 2 ^ (f k.toNat).toNat) (by omega) (by omega) ?_ (by omega)); exact (And.intro rfl (And.intro rfl (And.intro rfl trivial))); rw [k1 h0]; unfold tbt; rw [← hc]; (first | rw [if_pos c15] | rw [if_neg c15]))
set_option maxHeartbeats 2000000 in
theorem c_X3_toneBits (d : Nat) (hd : 0 ≤ d) (h : List AC) (A : Nat) (f : Nat → Int) (hA : h[A]? = some (ai 0 12 f)) (hf : pn f) : MF zX3_toneBits d [vr A] h (tbt f 12 : Int) h := by
  refine M0.of okX3_toneBits (Nat.le_of_ble_eq_true rfl) ?_
  refine AW.go 4 (pc' := 4) rfl ?_
  refine AW.lw ?_ (l_X3_toneBits d hd h A f hA hf _ 0 0 (by omega) (by omega) rfl (Nat.lt_succ_self _))
  exact (And.intro rfl (And.intro rfl (And.intro rfl trivial)))
set_option maxHeartbeats 4000000 in
theorem l_X3_factorial (d : Nat) (hd : 0 ≤ d) (h : List AC) (m : Int) (rm : 0 ≤ m ∧ m ≤ 12) : ∀ (n : Nat) (k : Int) (c : Int), (1 ≤ k) → (k ≤ m + 1 ∨ k = 2) → (c = fac (k - 1).toNat) → ((m + 1 - k).toNat) < n → AW zX3_factorial Eq (rmd d) 0 0 0 0 4 [(2, vi k), (1, vi c), (0, vi m)] [] h (RQ (fac m.toNat) h) := by
  intro n
  induction n with
  | zero =>
    intro k c h0 h1 hc hn
    exact absurd hn (Nat.not_lt_zero _)
  | succ n ih =>
    intro k c h0 h1 hc hn
    refine AW.go 2 (pc' := 6) rfl ?_
    refine AW.bi (tgt := 19) (pn := 9) rfl (by decide) rfl (by first | exact bI_rng _ | exact ⟨by omega, by omega⟩) (by first | exact bI_rng _ | exact ⟨by omega, by omega⟩) (fun c6 => ?_) (fun c6 => ?_)
    · dsimp only [cmpI] at c6
      refine AW.go 1 (pc' := 20) rfl ?_
      refine AW.ret rfl rfl (Nat.le_refl _) (Nat.le_refl _) ?_
      refine ⟨congrArg some ?_, rfl⟩
      rw [hc]
      rcases (show m = k - 1 ∨ (m = 0 ∧ k = 2) by omega) with q | ⟨q1, q2⟩
      · rw [q]
      · rw [q1, q2]; rfl
    · dsimp only [cmpI] at c6
      refine AW.go 6 (pc' := 4) rfl ?_
      first | (refine AW.lw ?_ (ih (k + 1) (c * k) (by omega) (by omega) ?_ (by omega)); exact (And.intro rfl (And.intro rfl (And.intro rfl trivial))); rw [show (k + 1 - 1).toNat = (k - 1).toNat + 1 by omega]; unfold fac; rw [← hc, show (((k - 1).toNat : Int) + 1) = k by omega])
set_option maxHeartbeats 2000000 in
theorem c_X3_factorial (d : Nat) (hd : 0 ≤ d) (h : List AC) (m : Int) (rm : 0 ≤ m ∧ m ≤ 12) : MF zX3_factorial d [vi m] h (fac m.toNat) h := by
  refine M0.of okX3_factorial (Nat.le_of_ble_eq_true rfl) ?_
  refine AW.go 4 (pc' := 4) rfl ?_
  refine AW.lw ?_ (l_X3_factorial d hd h m rm _ 2 1 (by omega) (by omega) rfl (Nat.lt_succ_self _))
  exact (And.intro rfl (And.intro rfl (And.intro rfl trivial)))
