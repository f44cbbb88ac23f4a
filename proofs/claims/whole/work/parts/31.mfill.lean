theorem acN_b {F : Int} (h : 24 ≤ F) (k : Nat) : acN F k = 11 - k := if_pos h
theorem acN_0 (k : Nat) : acN 0 k = k := if_neg (by decide)
theorem wel_0 {f : Nat → Int} (hf : pn f) : ∀ n, n ≤ 12 → wel 0 f n = true := by
  intro n hn
  refine (allN_iff _ _).mpr (fun j hj => (wek_iff 0 f j).mpr ?_)
  have hb := hf j (by omega)
  rw [acN_0]
  rcases hb with q | q
  · exact Or.inl q
  · exact Or.inr (Or.inl (mv_0 q).symm)
theorem wek_model {F : Int} (hF : 24 ≤ F) {f : Nat → Int} (hf : pn f) (hj : pj f) {k : Nat} (hk : k < 12) (ht : ¬ f k = -6) {x : Int} (hx : (x = -6 ∧ ∀ j, j < 12 → ¬ f j = mv F (f k)) ∨ (0 ≤ x ∧ x < 12 ∧ f x.toNat = mv F (f k))) : wek F f k = true ↔ (x < 0 ∨ x = 11 - (k : Int)) ∧ (f (11 - k) < 0 ∨ f (11 - k) = mv F (f k)) := by
  rw [wek_iff, acN_b hF]
  have hm := mv_b F (f k)
  have hb := hf (11 - k) (by omega)
  constructor
  · rintro (q | q | ⟨q1, q2⟩)
    · exact absurd q ht
    · refine ⟨?_, Or.inr q⟩
      rcases hx with ⟨e1, e2⟩ | ⟨e1, e2, e3⟩
      · left; omega
      · right
        have := hj x.toNat (11 - k) (by omega) (by omega) (by rw [e3, q]) (by omega)
        omega
    · refine ⟨?_, Or.inl (by omega)⟩
      rcases hx with ⟨e1, e2⟩ | ⟨e1, e2, e3⟩
      · left; omega
      · exact absurd e3 (q2 _ (by omega))
  · rintro ⟨q1, q2⟩
    right
    by_cases e : f (11 - k) = mv F (f k)
    · exact Or.inl e
    · right
      refine ⟨by omega, ?_⟩
      rcases hx with ⟨e1, e2⟩ | ⟨e1, e2, e3⟩
      · exact e2
      · exfalso
        have : x = 11 - (k : Int) := by omega
        rw [show x.toNat = 11 - k by omega] at e3
        exact e e3
def opn (F : Int) (f : Nat → Int) (n : Nat) : Nat := cntN (fun k => decide (f k < 0 ∧ (F = 0 ∨ (k : Int) < 6 ∧ f (11 - k) < 0))) n
def wys (F : Int) : Nat → Int
  | 0 => 1
  | n + 1 => wys F n * (if F = 0 then ((n : Int) + 1) else 2 * ((n : Int) + 1))
theorem wys_0 : ∀ n, wys 0 n = fac n
  | 0 => rfl
  | n + 1 => by
    show wys 0 n * (if (0 : Int) = 0 then ((n : Int) + 1) else 2 * ((n : Int) + 1)) = fac n * ((n : Int) + 1)
    rw [if_pos rfl, wys_0 n]
theorem wys_b {F : Int} (hF : ¬ F = 0) : ∀ n, wys F n = fac n * 2 ^ n
  | 0 => rfl
  | n + 1 => by
    show wys F n * (if F = 0 then ((n : Int) + 1) else 2 * ((n : Int) + 1)) = fac n * ((n : Int) + 1) * 2 ^ (n + 1)
    rw [if_neg hF, wys_b hF n, Int.pow_succ]
    rw [Int.mul_assoc, Int.mul_assoc]
    congr 1
    rw [← Int.mul_assoc, Int.mul_comm ((n : Int) + 1), Int.mul_assoc]
theorem opn_0 {f : Nat → Int} (hf : pn f) : opn 0 f 12 = hol (fz 0 f 12) 12 := by
  refine cntN_congr (fun j hj => ?_)
  have hb := hf j hj
  have e : fz 0 f 12 j = f j := by
    unfold fz
    split
    · rw [acN_0, if_neg (by omega)]; omega
    · rfl
  rw [e]
  by_cases q : f j = -6
  · rw [decide_eq_true q, decide_eq_true ⟨by omega, Or.inl rfl⟩]
  · rw [decide_eq_false q, decide_eq_false (fun w => by omega)]
theorem cnt_add {p q : Nat → Bool} : ∀ n, (∀ j, j < n → q j = false) → cntN (fun j => p j || q j) n = cntN p n
  | 0, _ => rfl
  | n + 1, h => by
    show cntN _ n + (if (p n || q n) = true then 1 else 0) = cntN p n + (if p n = true then 1 else 0)
    rw [cnt_add n (fun j hj => h j (by omega)), h n (by omega), Bool.or_false]
theorem cnt_half (p : Nat → Bool) (h : ∀ a b, a + b = 11 → p a = p b) : cntN p 12 = 2 * cntN (fun j => decide (j < 6) && p j) 12 := by
  have cb : ∀ (q : Nat → Bool) (n : Nat), cntN q (n + 1) = cntN q n + (q n).toNat := fun q n => by
    show cntN q n + (if q n = true then 1 else 0) = _
    cases q n <;> rfl
  have c12 : ∀ q : Nat → Bool, cntN q 12 = 0 + (q 0).toNat + (q 1).toNat + (q 2).toNat + (q 3).toNat + (q 4).toNat + (q 5).toNat + (q 6).toNat + (q 7).toNat + (q 8).toNat + (q 9).toNat + (q 10).toNat + (q 11).toNat := fun q => by
    rw [cb, cb, cb, cb, cb, cb, cb, cb, cb, cb, cb, cb]; rfl
  rw [c12, c12, h 6 5 rfl, h 7 4 rfl, h 8 3 rfl, h 9 2 rfl, h 10 1 rfl, h 11 0 rfl]
  generalize p 0 = a0
  generalize p 1 = a1
  generalize p 2 = a2
  generalize p 3 = a3
  generalize p 4 = a4
  generalize p 5 = a5
  revert a0 a1 a2 a3 a4 a5
  decide
theorem opn_b {F : Int} (hF : 24 ≤ F) {f : Nat → Int} (hf : pn f) : hol (fz F f 12) 12 = 2 * opn F f 12 := by
  have key : ∀ j, j < 12 → (decide (fz F f 12 j = -6) = decide (f j < 0 ∧ f (11 - j) < 0)) := by
    intro j hj
    have b1 := hf j hj
    have b2 := hf (11 - j) (by omega)
    have b3 := mv_b F (f (11 - j))
    unfold fz
    rw [acN_b hF]
    by_cases q1 : f j = -6
    · rw [if_pos q1]
      by_cases q2 : f (11 - j) = -6
      · rw [if_neg (fun w => w.2 q2), decide_eq_true rfl, decide_eq_true ⟨by omega, by omega⟩]
      · rw [if_pos ⟨by omega, q2⟩, decide_eq_false (by omega), decide_eq_false (fun w => by omega)]
    · rw [if_neg q1, decide_eq_false q1, decide_eq_false (fun w => by omega)]
  have e1 : hol (fz F f 12) 12 = cntN (fun j => decide (f j < 0 ∧ f (11 - j) < 0)) 12 := cntN_congr key
  have e2 : opn F f 12 = cntN (fun j => decide ((j : Int) < 6 ∧ f j < 0 ∧ f (11 - j) < 0)) 12 := by
    refine cntN_congr (fun j hj => ?_)
    by_cases q : f j < 0 ∧ (F = 0 ∨ (j : Int) < 6 ∧ f (11 - j) < 0)
    · rw [decide_eq_true q, decide_eq_true ⟨by omega, q.1, by omega⟩]
    · rw [decide_eq_false q, decide_eq_false (fun w => q ⟨w.2.1, Or.inr ⟨w.1, w.2.2⟩⟩)]
  rw [e1, e2]
  have e3 : cntN (fun j => decide ((j : Int) < 6 ∧ f j < 0 ∧ f (11 - j) < 0)) 12 = cntN (fun j => decide (j < 6) && decide (f j < 0 ∧ f (11 - j) < 0)) 12 := by
    refine cntN_congr (fun j hj => ?_)
    by_cases q : (j : Int) < 6 ∧ f j < 0 ∧ f (11 - j) < 0
    · rw [decide_eq_true q, decide_eq_true q.2, decide_eq_true (show j < 6 by omega)]; rfl
    · rw [decide_eq_false q]
      by_cases q2 : j < 6
      · rw [decide_eq_true q2, decide_eq_false (fun w => q ⟨by omega, w⟩)]; rfl
      · rw [decide_eq_false q2]; rfl
  rw [e3]
  refine cnt_half _ (fun a b hab => ?_)
  rw [show 11 - a = b by omega, show 11 - b = a by omega]
  by_cases q : f a < 0 ∧ f b < 0
  · rw [decide_eq_true q, decide_eq_true ⟨q.2, q.1⟩]
  · rw [decide_eq_false q, decide_eq_false (fun w => q ⟨w.2, w.1⟩)]

set_option maxHeartbeats 4000000 in
theorem l_X4_placeOf (d : Nat) (hd : 0 ≤ d) (h : List AC) (pm rf gm ka wr9 : Int) (hO : h[29]? = some (ao 4 (mo pm rf gm ka wr9))) (f : Nat → Int) (hT : h[31]? = some (ai 0 12 f)) (hp : pn f) (hj : pj f) (t : Int) (rt : 0 ≤ t ∧ t < 12) : ∀ (n : Nat) (k : Int), (0 ≤ k) → (k ≤ 12) → (∀ j : Nat, (j : Int) < k → ¬ f j = t) → ((12 - k).toNat) < n → AW zX4_placeOf Eq (rmd d) 0 0 0 0 2 [(2, vi k), (0, vr 29), (1, vi t)] [] h (fun v u => u = h ∧ ∃ x : Int, v = some x ∧ ((x = -6 ∧ ∀ j, j < 12 → ¬ f j = t) ∨ (0 ≤ x ∧ x < 12 ∧ f x.toNat = t))) := by
  intro n
  induction n with
  | zero =>
    intro k h0 h1 hi hn
    exact absurd hn (Nat.not_lt_zero _)
  | succ n ih =>
    intro k h0 h1 hi hn
    refine AW.go 2 (pc' := 5) rfl ?_
    refine AW.bi (tgt := 26) (pn := 8) rfl (by decide) rfl (by first | exact bI_rng _ | exact ⟨by omega, by omega⟩) (by first | exact bI_rng _ | exact ⟨by omega, by omega⟩) (fun c5 => ?_) (fun c5 => ?_)
    · dsimp only [cmpI] at c5
      refine AW.go 1 (pc' := 28) rfl ?_
      refine AW.ret rfl rfl (Nat.le_refl _) (Nat.le_refl _) ?_
      exact ⟨rfl, -6, rfl, Or.inl ⟨rfl, fun j hj9 => hi j (by omega)⟩⟩
    · dsimp only [cmpI] at c5
      refine AW.go 1 (pc' := 9) rfl ?_
      refine AW.getf (pn := 12) rfl rfl flX4_13 (by first | assumption | exact set_self (by first | assumption | exact set_self (by first | assumption | exact set_self (by assumption) | exact set_ne (by first | assumption | decide | omega) (by assumption)) | exact set_ne (by first | assumption | decide | omega) (by first | assumption | exact set_self (by assumption) | exact set_ne (by first | assumption | decide | omega) (by assumption))) | exact set_ne (by first | assumption | decide | omega) (by first | assumption | exact set_self (by first | assumption | exact set_self (by assumption) | exact set_ne (by first | assumption | decide | omega) (by assumption)) | exact set_ne (by first | assumption | decide | omega) (by first | assumption | exact set_self (by assumption) | exact set_ne (by first | assumption | decide | omega) (by assumption)))) rfl ?_
      refine AW.go 1 (pc' := 13) rfl ?_
      refine AW.iald (pn := 14) rfl rfl (by first | assumption | exact set_self (by first | assumption | exact set_self (by first | assumption | exact set_self (by assumption) | exact set_ne (by first | assumption | decide | omega) (by assumption)) | exact set_ne (by first | assumption | decide | omega) (by first | assumption | exact set_self (by assumption) | exact set_ne (by first | assumption | decide | omega) (by assumption))) | exact set_ne (by first | assumption | decide | omega) (by first | assumption | exact set_self (by first | assumption | exact set_self (by assumption) | exact set_ne (by first | assumption | decide | omega) (by assumption)) | exact set_ne (by first | assumption | decide | omega) (by first | assumption | exact set_self (by assumption) | exact set_ne (by first | assumption | decide | omega) (by assumption)))) (by first | decide | omega) (by omega) (by omega) ?_
      have b0 := hp k.toNat (by omega)
      refine AW.go 1 (pc' := 15) rfl ?_
      refine AW.bi (tgt := 20) (pn := 18) rfl (by decide) rfl (by first | exact bI_rng _ | exact ⟨by omega, by omega⟩) (by first | exact bI_rng _ | exact ⟨by omega, by omega⟩) (fun c15 => ?_) (fun c15 => ?_)
      · dsimp only [cmpI] at c15
        refine AW.go 2 (pc' := 2) rfl ?_
        refine AW.lw ?_ (ih (k + 1) (by omega) (by omega) (fun j hj9 => by by_cases q : (j : Int) < k; exact hi j q; rw [show j = k.toNat by omega]; exact c15) (by omega))
        exact (And.intro rfl (And.intro rfl (And.intro rfl trivial)))
      · dsimp only [cmpI] at c15
        refine AW.go 1 (pc' := 19) rfl ?_
        refine AW.ret rfl rfl (Nat.le_refl _) (Nat.le_refl _) ?_
        exact ⟨rfl, k, rfl, Or.inr ⟨h0, by omega, Decidable.not_not.mp c15⟩⟩
set_option maxHeartbeats 2000000 in
theorem c_X4_placeOf (d : Nat) (hd : 0 ≤ d) (h : List AC) (pm rf gm ka wr9 : Int) (hO : h[29]? = some (ao 4 (mo pm rf gm ka wr9))) (f : Nat → Int) (hT : h[31]? = some (ai 0 12 f)) (hp : pn f) (hj : pj f) (t : Int) (rt : 0 ≤ t ∧ t < 12) : M0 zX4_placeOf d [vr 29, vi t] h (fun v u => u = h ∧ ∃ x : Int, v = some x ∧ ((x = -6 ∧ ∀ j, j < 12 → ¬ f j = t) ∨ (0 ≤ x ∧ x < 12 ∧ f x.toNat = t))) := by
  refine M0.of okX4_placeOf (Nat.le_of_ble_eq_true rfl) ?_
  refine AW.go 2 (pc' := 2) rfl ?_
  refine AW.lw ?_ (l_X4_placeOf d hd h pm rf gm ka wr9 hO f hT hp hj t rt _ 0 (by omega) (by omega) (fun j hj9 => by omega) (Nat.lt_succ_self _))
  exact (And.intro rfl (And.intro rfl (And.intro rfl trivial)))
set_option maxHeartbeats 4000000 in
theorem l_X4_isWell (d : Nat) (hd : 3 ≤ d) (h : List AC) (pm rf gm ka wr9 : Int) (hO : h[29]? = some (ao 4 (mo pm rf gm ka wr9))) (f : Nat → Int) (hT : h[31]? = some (ai 0 12 f)) (hp : pn f) (hj : pj f) (F : Int) (rF : 0 ≤ F ∧ F < 48) : ∀ (n : Nat) (k : Int) (b : Bool), (0 ≤ k) → (k ≤ 12) → (b = (decide (F = 0 ∨ F = 30 ∨ 36 < F ∧ F % 2 = 1) && wel F f k.toNat)) → ((12 - k).toNat) < n → AW zX4_isWell Eq (rmd d) 0 0 0 0 7 [(3, vi k), (2, vi (bI (b = true))), (0, vr 29), (1, vi F)] [] h (RQ (bI ((F = 0 ∨ F = 30 ∨ 36 < F ∧ F % 2 = 1) ∧ wel F f 12 = true)) h) := by
  intro n
  induction n with
  | zero =>
    intro k b h0 h1 hb hn
    exact absurd hn (Nat.not_lt_zero _)
  | succ n ih =>
    intro k b h0 h1 hb hn
    refine AW.go 2 (pc' := 10) rfl ?_
    refine AW.bi (tgt := 102) (pn := 13) rfl (by decide) rfl (by first | exact bI_rng _ | exact ⟨by omega, by omega⟩) (by first | exact bI_rng _ | exact ⟨by omega, by omega⟩) (fun c10 => ?_) (fun c10 => ?_)
    · dsimp only [cmpI] at c10
      refine AW.go 1 (pc' := 103) rfl ?_
      refine AW.retz rfl rfl (by first | exact bI_01 _ | decide) (Nat.le_refl _) (Nat.le_refl _) ?_
      refine ⟨congrArg some (bI_c ?_), rfl⟩
      rw [hb, Bool.and_eq_true, decide_eq_true_eq]
      first
        | (rw [show k.toNat = 12 by omega]; done)
        | (have e0 : F = 0 := by omega
           subst e0
           rw [wel_0 hp _ (by omega), wel_0 hp _ (Nat.le_refl _)]; done)
    · dsimp only [cmpI] at c10
      refine AW.go 1 (pc' := 14) rfl ?_
      refine AW.br (tgt := 102) (pn := 17) rfl (by decide) rfl (by first | exact bI_rng _ | exact ⟨by omega, by omega⟩) (fun c14 => ?_) (fun c14 => ?_)
      · dsimp only [cmpI] at c14
        refine AW.go 1 (pc' := 103) rfl ?_
        refine AW.retz rfl rfl (by first | exact bI_01 _ | decide) (Nat.le_refl _) (Nat.le_refl _) ?_
        refine ⟨congrArg some (bI_c ?_), rfl⟩
        rw [hb, Bool.and_eq_true, decide_eq_true_eq]
        first
          | (rw [show k.toNat = 12 by omega]; done)
          | (have e0 : F = 0 := by omega
             subst e0
             rw [wel_0 hp _ (by omega), wel_0 hp _ (Nat.le_refl _)]; done)
      · dsimp only [cmpI] at c14
        refine AW.go 1 (pc' := 18) rfl ?_
        refine AW.getf (pn := 21) rfl rfl flX4_13 (by first | assumption | exact set_self (by first | assumption | exact set_self (by first | assumption | exact set_self (by assumption) | exact set_ne (by first | assumption | decide | omega) (by assumption)) | exact set_ne (by first | assumption | decide | omega) (by first | assumption | exact set_self (by assumption) | exact set_ne (by first | assumption | decide | omega) (by assumption))) | exact set_ne (by first | assumption | decide | omega) (by first | assumption | exact set_self (by first | assumption | exact set_self (by assumption) | exact set_ne (by first | assumption | decide | omega) (by assumption)) | exact set_ne (by first | assumption | decide | omega) (by first | assumption | exact set_self (by assumption) | exact set_ne (by first | assumption | decide | omega) (by assumption)))) rfl ?_
        refine AW.go 1 (pc' := 22) rfl ?_
        have b0 := hp k.toNat (by omega)
        have eF : f (11 - k).toNat = f (11 - k.toNat) := by rw [show (11 - k).toNat = 11 - k.toNat by omega]
        have hm := mv_b F (f k.toNat)
        refine AW.iald (pn := 23) rfl rfl (by first | assumption | exact set_self (by first | assumption | exact set_self (by first | assumption | exact set_self (by assumption) | exact set_ne (by first | assumption | decide | omega) (by assumption)) | exact set_ne (by first | assumption | decide | omega) (by first | assumption | exact set_self (by assumption) | exact set_ne (by first | assumption | decide | omega) (by assumption))) | exact set_ne (by first | assumption | decide | omega) (by first | assumption | exact set_self (by first | assumption | exact set_self (by assumption) | exact set_ne (by first | assumption | decide | omega) (by assumption)) | exact set_ne (by first | assumption | decide | omega) (by first | assumption | exact set_self (by assumption) | exact set_ne (by first | assumption | decide | omega) (by assumption)))) (by first | decide | omega) (by omega) (by omega) ?_
        refine AW.br (tgt := 96) (pn := 26) rfl (by decide) rfl (by first | exact bI_rng _ | exact ⟨by omega, by omega⟩) (fun c23 => ?_) (fun c23 => ?_)
        · dsimp only [cmpI] at c23
          refine AW.go 2 (pc' := 7) rfl ?_
          have hws : wel F f (k + 1).toNat = (wel F f k.toNat && wek F f k.toNat) := allN_s h0
          first | (refine AW.lw ?_ (ih (k + 1) (b) (by omega) (by omega) ?_ (by omega)); exact (And.intro rfl (And.intro rfl (And.intro rfl (And.intro rfl trivial)))); rw [hws, ← Bool.and_assoc, ← hb]; (first | (rw [(wek_iff F f k.toNat).mpr (Or.inl (by omega)), Bool.and_true]; done) | (rw [eq_false_of_ne_true c47]; (first | done | rfl)) | (have hck : F = 0 ∨ F = 30 ∨ 36 < F ∧ F % 2 = 1 := (by rw [c47] at hb; have hb2 := hb.symm; rw [Bool.and_eq_true, decide_eq_true_eq] at hb2; exact hb2.1); have hwk := wek_model (show 24 ≤ F by omega) hp hj (show k.toNat < 12 by omega) (by omega) hx; (first | (rw [c47, hwk.mpr (by constructor <;> omega)]; (first | done | rfl)) | (rw [c47, show wek F f k.toNat = false from Bool.eq_false_iff.mpr (fun q => by have q2 := hwk.mp q; omega)]; (first | done | rfl)))))) | (refine AW.lw ?_ (ih (k + 1) (true) (by omega) (by omega) ?_ (by omega)); exact (And.intro rfl (And.intro rfl (And.intro rfl (And.intro rfl trivial)))); rw [hws, ← Bool.and_assoc, ← hb]; (first | (rw [(wek_iff F f k.toNat).mpr (Or.inl (by omega)), Bool.and_true]; done) | (rw [eq_false_of_ne_true c47]; (first | done | rfl)) | (have hck : F = 0 ∨ F = 30 ∨ 36 < F ∧ F % 2 = 1 := (by rw [c47] at hb; have hb2 := hb.symm; rw [Bool.and_eq_true, decide_eq_true_eq] at hb2; exact hb2.1); have hwk := wek_model (show 24 ≤ F by omega) hp hj (show k.toNat < 12 by omega) (by omega) hx; (first | (rw [c47, hwk.mpr (by constructor <;> omega)]; (first | done | rfl)) | (rw [c47, show wek F f k.toNat = false from Bool.eq_false_iff.mpr (fun q => by have q2 := hwk.mp q; omega)]; (first | done | rfl)))))) | (refine AW.lw ?_ (ih (k + 1) (false) (by omega) (by omega) ?_ (by omega)); exact (And.intro rfl (And.intro rfl (And.intro rfl (And.intro rfl trivial)))); rw [hws, ← Bool.and_assoc, ← hb]; (first | (rw [(wek_iff F f k.toNat).mpr (Or.inl (by omega)), Bool.and_true]; done) | (rw [eq_false_of_ne_true c47]; (first | done | rfl)) | (have hck : F = 0 ∨ F = 30 ∨ 36 < F ∧ F % 2 = 1 := (by rw [c47] at hb; have hb2 := hb.symm; rw [Bool.and_eq_true, decide_eq_true_eq] at hb2; exact hb2.1); have hwk := wek_model (show 24 ≤ F by omega) hp hj (show k.toNat < 12 by omega) (by omega) hx; (first | (rw [c47, hwk.mpr (by constructor <;> omega)]; (first | done | rfl)) | (rw [c47, show wek F f k.toNat = false from Bool.eq_false_iff.mpr (fun q => by have q2 := hwk.mp q; omega)]; (first | done | rfl))))))
        · dsimp only [cmpI] at c23
          refine AW.go 2 (pc' := 28) rfl ?_
          refine AW.getf (pn := 31) rfl rfl flX4_13 (by first | assumption | exact set_self (by first | assumption | exact set_self (by first | assumption | exact set_self (by assumption) | exact set_ne (by first | assumption | decide | omega) (by assumption)) | exact set_ne (by first | assumption | decide | omega) (by first | assumption | exact set_self (by assumption) | exact set_ne (by first | assumption | decide | omega) (by assumption))) | exact set_ne (by first | assumption | decide | omega) (by first | assumption | exact set_self (by first | assumption | exact set_self (by assumption) | exact set_ne (by first | assumption | decide | omega) (by assumption)) | exact set_ne (by first | assumption | decide | omega) (by first | assumption | exact set_self (by assumption) | exact set_ne (by first | assumption | decide | omega) (by assumption)))) rfl ?_
          refine AW.go 1 (pc' := 32) rfl ?_
          refine AW.iald (pn := 33) rfl rfl (by first | assumption | exact set_self (by first | assumption | exact set_self (by first | assumption | exact set_self (by assumption) | exact set_ne (by first | assumption | decide | omega) (by assumption)) | exact set_ne (by first | assumption | decide | omega) (by first | assumption | exact set_self (by assumption) | exact set_ne (by first | assumption | decide | omega) (by assumption))) | exact set_ne (by first | assumption | decide | omega) (by first | assumption | exact set_self (by first | assumption | exact set_self (by assumption) | exact set_ne (by first | assumption | decide | omega) (by assumption)) | exact set_ne (by first | assumption | decide | omega) (by first | assumption | exact set_self (by assumption) | exact set_ne (by first | assumption | decide | omega) (by assumption)))) (by first | decide | omega) (by omega) (by omega) ?_
          refine AW.callSF (pn := 36) rfl rfl mlX4_171 (c_X4_across (d - 1) (by omega) _ _ _ (by omega) (by omega)) rfl rfl (Nat.le_of_ble_eq_true rfl) ⟨by show d - 1 + 1 ≤ d; omega, by show 40 * (d - 1 + 1) ≤ 40 * d; omega⟩ ⟨Nat.zero_le _, Nat.zero_le _⟩ ?_
          refine AW.go 3 (pc' := 41) rfl ?_
          refine AW.callV (pn := 44) rfl rfl mlX4_174 (by first | assumption | exact set_self (by first | assumption | exact set_self (by first | assumption | exact set_self (by assumption) | exact set_ne (by first | assumption | decide | omega) (by assumption)) | exact set_ne (by first | assumption | decide | omega) (by first | assumption | exact set_self (by assumption) | exact set_ne (by first | assumption | decide | omega) (by assumption))) | exact set_ne (by first | assumption | decide | omega) (by first | assumption | exact set_self (by first | assumption | exact set_self (by assumption) | exact set_ne (by first | assumption | decide | omega) (by assumption)) | exact set_ne (by first | assumption | decide | omega) (by first | assumption | exact set_self (by assumption) | exact set_ne (by first | assumption | decide | omega) (by assumption)))) (c_X4_placeOf (d - 1) (by omega) _ _ _ _ _ _ (by first | assumption | exact set_self (by first | assumption | exact set_self (by first | assumption | exact set_self (by assumption) | exact set_ne (by first | assumption | decide | omega) (by assumption)) | exact set_ne (by first | assumption | decide | omega) (by first | assumption | exact set_self (by assumption) | exact set_ne (by first | assumption | decide | omega) (by assumption))) | exact set_ne (by first | assumption | decide | omega) (by first | assumption | exact set_self (by first | assumption | exact set_self (by assumption) | exact set_ne (by first | assumption | decide | omega) (by assumption)) | exact set_ne (by first | assumption | decide | omega) (by first | assumption | exact set_self (by assumption) | exact set_ne (by first | assumption | decide | omega) (by assumption)))) _ (by first | assumption | exact set_self (by first | assumption | exact set_self (by first | assumption | exact set_self (by assumption) | exact set_ne (by first | assumption | decide | omega) (by assumption)) | exact set_ne (by first | assumption | decide | omega) (by first | assumption | exact set_self (by assumption) | exact set_ne (by first | assumption | decide | omega) (by assumption))) | exact set_ne (by first | assumption | decide | omega) (by first | assumption | exact set_self (by first | assumption | exact set_self (by assumption) | exact set_ne (by first | assumption | decide | omega) (by assumption)) | exact set_ne (by first | assumption | decide | omega) (by first | assumption | exact set_self (by assumption) | exact set_ne (by first | assumption | decide | omega) (by assumption)))) (by assumption) (by assumption) _ (by omega)) rfl rfl (Nat.le_of_ble_eq_true rfl) ⟨by show d - 1 + 1 ≤ d; omega, by show 40 * (d - 1 + 1) ≤ 40 * d; omega⟩ ⟨Nat.zero_le _, Nat.zero_le _⟩ ?_
          intro v u hq
          obtain ⟨rfl, x, rfl, hx⟩ := hq
          have hxb : -6 ≤ x ∧ x < 12 := by omega
          refine AW.go 2 (pc' := 47) rfl ?_
          refine AW.bz (tgt := 94) (pn := 50) rfl (by decide) rfl (fun c47 => ?_) (fun c47 => ?_)
          · refine AW.go 4 (pc' := 7) rfl ?_
            have hws : wel F f (k + 1).toNat = (wel F f k.toNat && wek F f k.toNat) := allN_s h0
            first | (refine AW.lw ?_ (ih (k + 1) (b) (by omega) (by omega) ?_ (by omega)); exact (And.intro rfl (And.intro rfl (And.intro rfl (And.intro rfl trivial)))); rw [hws, ← Bool.and_assoc, ← hb]; (first | (rw [(wek_iff F f k.toNat).mpr (Or.inl (by omega)), Bool.and_true]; done) | (rw [eq_false_of_ne_true c47]; (first | done | rfl)) | (have hck : F = 0 ∨ F = 30 ∨ 36 < F ∧ F % 2 = 1 := (by rw [c47] at hb; have hb2 := hb.symm; rw [Bool.and_eq_true, decide_eq_true_eq] at hb2; exact hb2.1); have hwk := wek_model (show 24 ≤ F by omega) hp hj (show k.toNat < 12 by omega) (by omega) hx; (first | (rw [c47, hwk.mpr (by constructor <;> omega)]; (first | done | rfl)) | (rw [c47, show wek F f k.toNat = false from Bool.eq_false_iff.mpr (fun q => by have q2 := hwk.mp q; omega)]; (first | done | rfl)))))) | (refine AW.lw ?_ (ih (k + 1) (true) (by omega) (by omega) ?_ (by omega)); exact (And.intro rfl (And.intro rfl (And.intro rfl (And.intro rfl trivial)))); rw [hws, ← Bool.and_assoc, ← hb]; (first | (rw [(wek_iff F f k.toNat).mpr (Or.inl (by omega)), Bool.and_true]; done) | (rw [eq_false_of_ne_true c47]; (first | done | rfl)) | (have hck : F = 0 ∨ F = 30 ∨ 36 < F ∧ F % 2 = 1 := (by rw [c47] at hb; have hb2 := hb.symm; rw [Bool.and_eq_true, decide_eq_true_eq] at hb2; exact hb2.1); have hwk := wek_model (show 24 ≤ F by omega) hp hj (show k.toNat < 12 by omega) (by omega) hx; (first | (rw [c47, hwk.mpr (by constructor <;> omega)]; (first | done | rfl)) | (rw [c47, show wek F f k.toNat = false from Bool.eq_false_iff.mpr (fun q => by have q2 := hwk.mp q; omega)]; (first | done | rfl)))))) | (refine AW.lw ?_ (ih (k + 1) (false) (by omega) (by omega) ?_ (by omega)); exact (And.intro rfl (And.intro rfl (And.intro rfl (And.intro rfl trivial)))); rw [hws, ← Bool.and_assoc, ← hb]; (first | (rw [(wek_iff F f k.toNat).mpr (Or.inl (by omega)), Bool.and_true]; done) | (rw [eq_false_of_ne_true c47]; (first | done | rfl)) | (have hck : F = 0 ∨ F = 30 ∨ 36 < F ∧ F % 2 = 1 := (by rw [c47] at hb; have hb2 := hb.symm; rw [Bool.and_eq_true, decide_eq_true_eq] at hb2; exact hb2.1); have hwk := wek_model (show 24 ≤ F by omega) hp hj (show k.toNat < 12 by omega) (by omega) hx; (first | (rw [c47, hwk.mpr (by constructor <;> omega)]; (first | done | rfl)) | (rw [c47, show wek F f k.toNat = false from Bool.eq_false_iff.mpr (fun q => by have q2 := hwk.mp q; omega)]; (first | done | rfl))))))
          · refine AW.go 1 (pc' := 52) rfl ?_
            refine AW.br (tgt := 64) (pn := 55) rfl (by decide) rfl (by first | exact bI_rng _ | exact ⟨by omega, by omega⟩) (fun c52 => ?_) (fun c52 => ?_)
            · dsimp only [cmpI] at c52
              refine AW.go 1 (pc' := 65) rfl ?_
              refine AW.getf (pn := 68) rfl rfl flX4_13 (by first | assumption | exact set_self (by first | assumption | exact set_self (by first | assumption | exact set_self (by assumption) | exact set_ne (by first | assumption | decide | omega) (by assumption)) | exact set_ne (by first | assumption | decide | omega) (by first | assumption | exact set_self (by assumption) | exact set_ne (by first | assumption | decide | omega) (by assumption))) | exact set_ne (by first | assumption | decide | omega) (by first | assumption | exact set_self (by first | assumption | exact set_self (by assumption) | exact set_ne (by first | assumption | decide | omega) (by assumption)) | exact set_ne (by first | assumption | decide | omega) (by first | assumption | exact set_self (by assumption) | exact set_ne (by first | assumption | decide | omega) (by assumption)))) rfl ?_
              refine AW.go 3 (pc' := 72) rfl ?_
              have b1 := hp (11 - k).toNat (by omega)
              have eN : (11 - k).toNat = 11 - k.toNat := by omega
              refine AW.iald (pn := 73) rfl rfl (by first | assumption | exact set_self (by first | assumption | exact set_self (by first | assumption | exact set_self (by assumption) | exact set_ne (by first | assumption | decide | omega) (by assumption)) | exact set_ne (by first | assumption | decide | omega) (by first | assumption | exact set_self (by assumption) | exact set_ne (by first | assumption | decide | omega) (by assumption))) | exact set_ne (by first | assumption | decide | omega) (by first | assumption | exact set_self (by first | assumption | exact set_self (by assumption) | exact set_ne (by first | assumption | decide | omega) (by assumption)) | exact set_ne (by first | assumption | decide | omega) (by first | assumption | exact set_self (by assumption) | exact set_ne (by first | assumption | decide | omega) (by assumption)))) (by first | decide | omega) (by omega) (by omega) ?_
              refine AW.br (tgt := 90) (pn := 76) rfl (by decide) rfl (by first | exact bI_rng _ | exact ⟨by omega, by omega⟩) (fun c73 => ?_) (fun c73 => ?_)
              · dsimp only [cmpI] at c73
                refine AW.go 5 (pc' := 7) rfl ?_
                have hws : wel F f (k + 1).toNat = (wel F f k.toNat && wek F f k.toNat) := allN_s h0
                first | (refine AW.lw ?_ (ih (k + 1) (b) (by omega) (by omega) ?_ (by omega)); exact (And.intro rfl (And.intro rfl (And.intro rfl (And.intro rfl trivial)))); rw [hws, ← Bool.and_assoc, ← hb]; (first | (rw [(wek_iff F f k.toNat).mpr (Or.inl (by omega)), Bool.and_true]; done) | (rw [eq_false_of_ne_true c47]; (first | done | rfl)) | (have hck : F = 0 ∨ F = 30 ∨ 36 < F ∧ F % 2 = 1 := (by rw [c47] at hb; have hb2 := hb.symm; rw [Bool.and_eq_true, decide_eq_true_eq] at hb2; exact hb2.1); have hwk := wek_model (show 24 ≤ F by omega) hp hj (show k.toNat < 12 by omega) (by omega) hx; (first | (rw [c47, hwk.mpr (by constructor <;> omega)]; (first | done | rfl)) | (rw [c47, show wek F f k.toNat = false from Bool.eq_false_iff.mpr (fun q => by have q2 := hwk.mp q; omega)]; (first | done | rfl)))))) | (refine AW.lw ?_ (ih (k + 1) (true) (by omega) (by omega) ?_ (by omega)); exact (And.intro rfl (And.intro rfl (And.intro rfl (And.intro rfl trivial)))); rw [hws, ← Bool.and_assoc, ← hb]; (first | (rw [(wek_iff F f k.toNat).mpr (Or.inl (by omega)), Bool.and_true]; done) | (rw [eq_false_of_ne_true c47]; (first | done | rfl)) | (have hck : F = 0 ∨ F = 30 ∨ 36 < F ∧ F % 2 = 1 := (by rw [c47] at hb; have hb2 := hb.symm; rw [Bool.and_eq_true, decide_eq_true_eq] at hb2; exact hb2.1); have hwk := wek_model (show 24 ≤ F by omega) hp hj (show k.toNat < 12 by omega) (by omega) hx; (first | (rw [c47, hwk.mpr (by constructor <;> omega)]; (first | done | rfl)) | (rw [c47, show wek F f k.toNat = false from Bool.eq_false_iff.mpr (fun q => by have q2 := hwk.mp q; omega)]; (first | done | rfl)))))) | (refine AW.lw ?_ (ih (k + 1) (false) (by omega) (by omega) ?_ (by omega)); exact (And.intro rfl (And.intro rfl (And.intro rfl (And.intro rfl trivial)))); rw [hws, ← Bool.and_assoc, ← hb]; (first | (rw [(wek_iff F f k.toNat).mpr (Or.inl (by omega)), Bool.and_true]; done) | (rw [eq_false_of_ne_true c47]; (first | done | rfl)) | (have hck : F = 0 ∨ F = 30 ∨ 36 < F ∧ F % 2 = 1 := (by rw [c47] at hb; have hb2 := hb.symm; rw [Bool.and_eq_true, decide_eq_true_eq] at hb2; exact hb2.1); have hwk := wek_model (show 24 ≤ F by omega) hp hj (show k.toNat < 12 by omega) (by omega) hx; (first | (rw [c47, hwk.mpr (by constructor <;> omega)]; (first | done | rfl)) | (rw [c47, show wek F f k.toNat = false from Bool.eq_false_iff.mpr (fun q => by have q2 := hwk.mp q; omega)]; (first | done | rfl))))))
              · dsimp only [cmpI] at c73
                refine AW.go 1 (pc' := 77) rfl ?_
                refine AW.getf (pn := 80) rfl rfl flX4_13 (by first | assumption | exact set_self (by first | assumption | exact set_self (by first | assumption | exact set_self (by assumption) | exact set_ne (by first | assumption | decide | omega) (by assumption)) | exact set_ne (by first | assumption | decide | omega) (by first | assumption | exact set_self (by assumption) | exact set_ne (by first | assumption | decide | omega) (by assumption))) | exact set_ne (by first | assumption | decide | omega) (by first | assumption | exact set_self (by first | assumption | exact set_self (by assumption) | exact set_ne (by first | assumption | decide | omega) (by assumption)) | exact set_ne (by first | assumption | decide | omega) (by first | assumption | exact set_self (by assumption) | exact set_ne (by first | assumption | decide | omega) (by assumption)))) rfl ?_
                refine AW.go 3 (pc' := 84) rfl ?_
                have b1 := hp (11 - k).toNat (by omega)
                refine AW.iald (pn := 85) rfl rfl (by first | assumption | exact set_self (by first | assumption | exact set_self (by first | assumption | exact set_self (by assumption) | exact set_ne (by first | assumption | decide | omega) (by assumption)) | exact set_ne (by first | assumption | decide | omega) (by first | assumption | exact set_self (by assumption) | exact set_ne (by first | assumption | decide | omega) (by assumption))) | exact set_ne (by first | assumption | decide | omega) (by first | assumption | exact set_self (by first | assumption | exact set_self (by assumption) | exact set_ne (by first | assumption | decide | omega) (by assumption)) | exact set_ne (by first | assumption | decide | omega) (by first | assumption | exact set_self (by assumption) | exact set_ne (by first | assumption | decide | omega) (by assumption)))) (by first | decide | omega) (by omega) (by omega) ?_
                refine AW.go 1 (pc' := 87) rfl ?_
                refine AW.bi (tgt := 94) (pn := 90) rfl (by decide) rfl (by first | exact bI_rng _ | exact ⟨by omega, by omega⟩) (by first | exact bI_rng _ | exact ⟨by omega, by omega⟩) (fun c87 => ?_) (fun c87 => ?_)
                · dsimp only [cmpI] at c87
                  refine AW.go 4 (pc' := 7) rfl ?_
                  have hws : wel F f (k + 1).toNat = (wel F f k.toNat && wek F f k.toNat) := allN_s h0
                  first | (refine AW.lw ?_ (ih (k + 1) (b) (by omega) (by omega) ?_ (by omega)); exact (And.intro rfl (And.intro rfl (And.intro rfl (And.intro rfl trivial)))); rw [hws, ← Bool.and_assoc, ← hb]; (first | (rw [(wek_iff F f k.toNat).mpr (Or.inl (by omega)), Bool.and_true]; done) | (rw [eq_false_of_ne_true c47]; (first | done | rfl)) | (have hck : F = 0 ∨ F = 30 ∨ 36 < F ∧ F % 2 = 1 := (by rw [c47] at hb; have hb2 := hb.symm; rw [Bool.and_eq_true, decide_eq_true_eq] at hb2; exact hb2.1); have hwk := wek_model (show 24 ≤ F by omega) hp hj (show k.toNat < 12 by omega) (by omega) hx; (first | (rw [c47, hwk.mpr (by constructor <;> omega)]; (first | done | rfl)) | (rw [c47, show wek F f k.toNat = false from Bool.eq_false_iff.mpr (fun q => by have q2 := hwk.mp q; omega)]; (first | done | rfl)))))) | (refine AW.lw ?_ (ih (k + 1) (true) (by omega) (by omega) ?_ (by omega)); exact (And.intro rfl (And.intro rfl (And.intro rfl (And.intro rfl trivial)))); rw [hws, ← Bool.and_assoc, ← hb]; (first | (rw [(wek_iff F f k.toNat).mpr (Or.inl (by omega)), Bool.and_true]; done) | (rw [eq_false_of_ne_true c47]; (first | done | rfl)) | (have hck : F = 0 ∨ F = 30 ∨ 36 < F ∧ F % 2 = 1 := (by rw [c47] at hb; have hb2 := hb.symm; rw [Bool.and_eq_true, decide_eq_true_eq] at hb2; exact hb2.1); have hwk := wek_model (show 24 ≤ F by omega) hp hj (show k.toNat < 12 by omega) (by omega) hx; (first | (rw [c47, hwk.mpr (by constructor <;> omega)]; (first | done | rfl)) | (rw [c47, show wek F f k.toNat = false from Bool.eq_false_iff.mpr (fun q => by have q2 := hwk.mp q; omega)]; (first | done | rfl)))))) | (refine AW.lw ?_ (ih (k + 1) (false) (by omega) (by omega) ?_ (by omega)); exact (And.intro rfl (And.intro rfl (And.intro rfl (And.intro rfl trivial)))); rw [hws, ← Bool.and_assoc, ← hb]; (first | (rw [(wek_iff F f k.toNat).mpr (Or.inl (by omega)), Bool.and_true]; done) | (rw [eq_false_of_ne_true c47]; (first | done | rfl)) | (have hck : F = 0 ∨ F = 30 ∨ 36 < F ∧ F % 2 = 1 := (by rw [c47] at hb; have hb2 := hb.symm; rw [Bool.and_eq_true, decide_eq_true_eq] at hb2; exact hb2.1); have hwk := wek_model (show 24 ≤ F by omega) hp hj (show k.toNat < 12 by omega) (by omega) hx; (first | (rw [c47, hwk.mpr (by constructor <;> omega)]; (first | done | rfl)) | (rw [c47, show wek F f k.toNat = false from Bool.eq_false_iff.mpr (fun q => by have q2 := hwk.mp q; omega)]; (first | done | rfl))))))
                · dsimp only [cmpI] at c87
                  refine AW.go 5 (pc' := 7) rfl ?_
                  have hws : wel F f (k + 1).toNat = (wel F f k.toNat && wek F f k.toNat) := allN_s h0
                  first | (refine AW.lw ?_ (ih (k + 1) (b) (by omega) (by omega) ?_ (by omega)); exact (And.intro rfl (And.intro rfl (And.intro rfl (And.intro rfl trivial)))); rw [hws, ← Bool.and_assoc, ← hb]; (first | (rw [(wek_iff F f k.toNat).mpr (Or.inl (by omega)), Bool.and_true]; done) | (rw [eq_false_of_ne_true c47]; (first | done | rfl)) | (have hck : F = 0 ∨ F = 30 ∨ 36 < F ∧ F % 2 = 1 := (by rw [c47] at hb; have hb2 := hb.symm; rw [Bool.and_eq_true, decide_eq_true_eq] at hb2; exact hb2.1); have hwk := wek_model (show 24 ≤ F by omega) hp hj (show k.toNat < 12 by omega) (by omega) hx; (first | (rw [c47, hwk.mpr (by constructor <;> omega)]; (first | done | rfl)) | (rw [c47, show wek F f k.toNat = false from Bool.eq_false_iff.mpr (fun q => by have q2 := hwk.mp q; omega)]; (first | done | rfl)))))) | (refine AW.lw ?_ (ih (k + 1) (true) (by omega) (by omega) ?_ (by omega)); exact (And.intro rfl (And.intro rfl (And.intro rfl (And.intro rfl trivial)))); rw [hws, ← Bool.and_assoc, ← hb]; (first | (rw [(wek_iff F f k.toNat).mpr (Or.inl (by omega)), Bool.and_true]; done) | (rw [eq_false_of_ne_true c47]; (first | done | rfl)) | (have hck : F = 0 ∨ F = 30 ∨ 36 < F ∧ F % 2 = 1 := (by rw [c47] at hb; have hb2 := hb.symm; rw [Bool.and_eq_true, decide_eq_true_eq] at hb2; exact hb2.1); have hwk := wek_model (show 24 ≤ F by omega) hp hj (show k.toNat < 12 by omega) (by omega) hx; (first | (rw [c47, hwk.mpr (by constructor <;> omega)]; (first | done | rfl)) | (rw [c47, show wek F f k.toNat = false from Bool.eq_false_iff.mpr (fun q => by have q2 := hwk.mp q; omega)]; (first | done | rfl)))))) | (refine AW.lw ?_ (ih (k + 1) (false) (by omega) (by omega) ?_ (by omega)); exact (And.intro rfl (And.intro rfl (And.intro rfl (And.intro rfl trivial)))); rw [hws, ← Bool.and_assoc, ← hb]; (first | (rw [(wek_iff F f k.toNat).mpr (Or.inl (by omega)), Bool.and_true]; done) | (rw [eq_false_of_ne_true c47]; (first | done | rfl)) | (have hck : F = 0 ∨ F = 30 ∨ 36 < F ∧ F % 2 = 1 := (by rw [c47] at hb; have hb2 := hb.symm; rw [Bool.and_eq_true, decide_eq_true_eq] at hb2; exact hb2.1); have hwk := wek_model (show 24 ≤ F by omega) hp hj (show k.toNat < 12 by omega) (by omega) hx; (first | (rw [c47, hwk.mpr (by constructor <;> omega)]; (first | done | rfl)) | (rw [c47, show wek F f k.toNat = false from Bool.eq_false_iff.mpr (fun q => by have q2 := hwk.mp q; omega)]; (first | done | rfl))))))
            · dsimp only [cmpI] at c52
              refine AW.go 4 (pc' := 61) rfl ?_
              refine AW.bi (tgt := 94) (pn := 64) rfl (by decide) rfl (by first | exact bI_rng _ | exact ⟨by omega, by omega⟩) (by first | exact bI_rng _ | exact ⟨by omega, by omega⟩) (fun c61 => ?_) (fun c61 => ?_)
              · dsimp only [cmpI] at c61
                refine AW.go 4 (pc' := 7) rfl ?_
                have hws : wel F f (k + 1).toNat = (wel F f k.toNat && wek F f k.toNat) := allN_s h0
                first | (refine AW.lw ?_ (ih (k + 1) (b) (by omega) (by omega) ?_ (by omega)); exact (And.intro rfl (And.intro rfl (And.intro rfl (And.intro rfl trivial)))); rw [hws, ← Bool.and_assoc, ← hb]; (first | (rw [(wek_iff F f k.toNat).mpr (Or.inl (by omega)), Bool.and_true]; done) | (rw [eq_false_of_ne_true c47]; (first | done | rfl)) | (have hck : F = 0 ∨ F = 30 ∨ 36 < F ∧ F % 2 = 1 := (by rw [c47] at hb; have hb2 := hb.symm; rw [Bool.and_eq_true, decide_eq_true_eq] at hb2; exact hb2.1); have hwk := wek_model (show 24 ≤ F by omega) hp hj (show k.toNat < 12 by omega) (by omega) hx; (first | (rw [c47, hwk.mpr (by constructor <;> omega)]; (first | done | rfl)) | (rw [c47, show wek F f k.toNat = false from Bool.eq_false_iff.mpr (fun q => by have q2 := hwk.mp q; omega)]; (first | done | rfl)))))) | (refine AW.lw ?_ (ih (k + 1) (true) (by omega) (by omega) ?_ (by omega)); exact (And.intro rfl (And.intro rfl (And.intro rfl (And.intro rfl trivial)))); rw [hws, ← Bool.and_assoc, ← hb]; (first | (rw [(wek_iff F f k.toNat).mpr (Or.inl (by omega)), Bool.and_true]; done) | (rw [eq_false_of_ne_true c47]; (first | done | rfl)) | (have hck : F = 0 ∨ F = 30 ∨ 36 < F ∧ F % 2 = 1 := (by rw [c47] at hb; have hb2 := hb.symm; rw [Bool.and_eq_true, decide_eq_true_eq] at hb2; exact hb2.1); have hwk := wek_model (show 24 ≤ F by omega) hp hj (show k.toNat < 12 by omega) (by omega) hx; (first | (rw [c47, hwk.mpr (by constructor <;> omega)]; (first | done | rfl)) | (rw [c47, show wek F f k.toNat = false from Bool.eq_false_iff.mpr (fun q => by have q2 := hwk.mp q; omega)]; (first | done | rfl)))))) | (refine AW.lw ?_ (ih (k + 1) (false) (by omega) (by omega) ?_ (by omega)); exact (And.intro rfl (And.intro rfl (And.intro rfl (And.intro rfl trivial)))); rw [hws, ← Bool.and_assoc, ← hb]; (first | (rw [(wek_iff F f k.toNat).mpr (Or.inl (by omega)), Bool.and_true]; done) | (rw [eq_false_of_ne_true c47]; (first | done | rfl)) | (have hck : F = 0 ∨ F = 30 ∨ 36 < F ∧ F % 2 = 1 := (by rw [c47] at hb; have hb2 := hb.symm; rw [Bool.and_eq_true, decide_eq_true_eq] at hb2; exact hb2.1); have hwk := wek_model (show 24 ≤ F by omega) hp hj (show k.toNat < 12 by omega) (by omega) hx; (first | (rw [c47, hwk.mpr (by constructor <;> omega)]; (first | done | rfl)) | (rw [c47, show wek F f k.toNat = false from Bool.eq_false_iff.mpr (fun q => by have q2 := hwk.mp q; omega)]; (first | done | rfl))))))
              · dsimp only [cmpI] at c61
                refine AW.go 1 (pc' := 65) rfl ?_
                refine AW.getf (pn := 68) rfl rfl flX4_13 (by first | assumption | exact set_self (by first | assumption | exact set_self (by first | assumption | exact set_self (by assumption) | exact set_ne (by first | assumption | decide | omega) (by assumption)) | exact set_ne (by first | assumption | decide | omega) (by first | assumption | exact set_self (by assumption) | exact set_ne (by first | assumption | decide | omega) (by assumption))) | exact set_ne (by first | assumption | decide | omega) (by first | assumption | exact set_self (by first | assumption | exact set_self (by assumption) | exact set_ne (by first | assumption | decide | omega) (by assumption)) | exact set_ne (by first | assumption | decide | omega) (by first | assumption | exact set_self (by assumption) | exact set_ne (by first | assumption | decide | omega) (by assumption)))) rfl ?_
                refine AW.go 3 (pc' := 72) rfl ?_
                have b1 := hp (11 - k).toNat (by omega)
                have eN : (11 - k).toNat = 11 - k.toNat := by omega
                refine AW.iald (pn := 73) rfl rfl (by first | assumption | exact set_self (by first | assumption | exact set_self (by first | assumption | exact set_self (by assumption) | exact set_ne (by first | assumption | decide | omega) (by assumption)) | exact set_ne (by first | assumption | decide | omega) (by first | assumption | exact set_self (by assumption) | exact set_ne (by first | assumption | decide | omega) (by assumption))) | exact set_ne (by first | assumption | decide | omega) (by first | assumption | exact set_self (by first | assumption | exact set_self (by assumption) | exact set_ne (by first | assumption | decide | omega) (by assumption)) | exact set_ne (by first | assumption | decide | omega) (by first | assumption | exact set_self (by assumption) | exact set_ne (by first | assumption | decide | omega) (by assumption)))) (by first | decide | omega) (by omega) (by omega) ?_
                refine AW.br (tgt := 90) (pn := 76) rfl (by decide) rfl (by first | exact bI_rng _ | exact ⟨by omega, by omega⟩) (fun c73 => ?_) (fun c73 => ?_)
                · dsimp only [cmpI] at c73
                  refine AW.go 5 (pc' := 7) rfl ?_
                  have hws : wel F f (k + 1).toNat = (wel F f k.toNat && wek F f k.toNat) := allN_s h0
                  first | (refine AW.lw ?_ (ih (k + 1) (b) (by omega) (by omega) ?_ (by omega)); exact (And.intro rfl (And.intro rfl (And.intro rfl (And.intro rfl trivial)))); rw [hws, ← Bool.and_assoc, ← hb]; (first | (rw [(wek_iff F f k.toNat).mpr (Or.inl (by omega)), Bool.and_true]; done) | (rw [eq_false_of_ne_true c47]; (first | done | rfl)) | (have hck : F = 0 ∨ F = 30 ∨ 36 < F ∧ F % 2 = 1 := (by rw [c47] at hb; have hb2 := hb.symm; rw [Bool.and_eq_true, decide_eq_true_eq] at hb2; exact hb2.1); have hwk := wek_model (show 24 ≤ F by omega) hp hj (show k.toNat < 12 by omega) (by omega) hx; (first | (rw [c47, hwk.mpr (by constructor <;> omega)]; (first | done | rfl)) | (rw [c47, show wek F f k.toNat = false from Bool.eq_false_iff.mpr (fun q => by have q2 := hwk.mp q; omega)]; (first | done | rfl)))))) | (refine AW.lw ?_ (ih (k + 1) (true) (by omega) (by omega) ?_ (by omega)); exact (And.intro rfl (And.intro rfl (And.intro rfl (And.intro rfl trivial)))); rw [hws, ← Bool.and_assoc, ← hb]; (first | (rw [(wek_iff F f k.toNat).mpr (Or.inl (by omega)), Bool.and_true]; done) | (rw [eq_false_of_ne_true c47]; (first | done | rfl)) | (have hck : F = 0 ∨ F = 30 ∨ 36 < F ∧ F % 2 = 1 := (by rw [c47] at hb; have hb2 := hb.symm; rw [Bool.and_eq_true, decide_eq_true_eq] at hb2; exact hb2.1); have hwk := wek_model (show 24 ≤ F by omega) hp hj (show k.toNat < 12 by omega) (by omega) hx; (first | (rw [c47, hwk.mpr (by constructor <;> omega)]; (first | done | rfl)) | (rw [c47, show wek F f k.toNat = false from Bool.eq_false_iff.mpr (fun q => by have q2 := hwk.mp q; omega)]; (first | done | rfl)))))) | (refine AW.lw ?_ (ih (k + 1) (false) (by omega) (by omega) ?_ (by omega)); exact (And.intro rfl (And.intro rfl (And.intro rfl (And.intro rfl trivial)))); rw [hws, ← Bool.and_assoc, ← hb]; (first | (rw [(wek_iff F f k.toNat).mpr (Or.inl (by omega)), Bool.and_true]; done) | (rw [eq_false_of_ne_true c47]; (first | done | rfl)) | (have hck : F = 0 ∨ F = 30 ∨ 36 < F ∧ F % 2 = 1 := (by rw [c47] at hb; have hb2 := hb.symm; rw [Bool.and_eq_true, decide_eq_true_eq] at hb2; exact hb2.1); have hwk := wek_model (show 24 ≤ F by omega) hp hj (show k.toNat < 12 by omega) (by omega) hx; (first | (rw [c47, hwk.mpr (by constructor <;> omega)]; (first | done | rfl)) | (rw [c47, show wek F f k.toNat = false from Bool.eq_false_iff.mpr (fun q => by have q2 := hwk.mp q; omega)]; (first | done | rfl))))))
                · dsimp only [cmpI] at c73
                  refine AW.go 1 (pc' := 77) rfl ?_
                  refine AW.getf (pn := 80) rfl rfl flX4_13 (by first | assumption | exact set_self (by first | assumption | exact set_self (by first | assumption | exact set_self (by assumption) | exact set_ne (by first | assumption | decide | omega) (by assumption)) | exact set_ne (by first | assumption | decide | omega) (by first | assumption | exact set_self (by assumption) | exact set_ne (by first | assumption | decide | omega) (by assumption))) | exact set_ne (by first | assumption | decide | omega) (by first | assumption | exact set_self (by first | assumption | exact set_self (by assumption) | exact set_ne (by first | assumption | decide | omega) (by assumption)) | exact set_ne (by first | assumption | decide | omega) (by first | assumption | exact set_self (by assumption) | exact set_ne (by first | assumption | decide | omega) (by assumption)))) rfl ?_
                  refine AW.go 3 (pc' := 84) rfl ?_
                  have b1 := hp (11 - k).toNat (by omega)
                  refine AW.iald (pn := 85) rfl rfl (by first | assumption | exact set_self (by first | assumption | exact set_self (by first | assumption | exact set_self (by assumption) | exact set_ne (by first | assumption | decide | omega) (by assumption)) | exact set_ne (by first | assumption | decide | omega) (by first | assumption | exact set_self (by assumption) | exact set_ne (by first | assumption | decide | omega) (by assumption))) | exact set_ne (by first | assumption | decide | omega) (by first | assumption | exact set_self (by first | assumption | exact set_self (by assumption) | exact set_ne (by first | assumption | decide | omega) (by assumption)) | exact set_ne (by first | assumption | decide | omega) (by first | assumption | exact set_self (by assumption) | exact set_ne (by first | assumption | decide | omega) (by assumption)))) (by first | decide | omega) (by omega) (by omega) ?_
                  refine AW.go 1 (pc' := 87) rfl ?_
                  refine AW.bi (tgt := 94) (pn := 90) rfl (by decide) rfl (by first | exact bI_rng _ | exact ⟨by omega, by omega⟩) (by first | exact bI_rng _ | exact ⟨by omega, by omega⟩) (fun c87 => ?_) (fun c87 => ?_)
                  · dsimp only [cmpI] at c87
                    refine AW.go 4 (pc' := 7) rfl ?_
                    have hws : wel F f (k + 1).toNat = (wel F f k.toNat && wek F f k.toNat) := allN_s h0
                    first | (refine AW.lw ?_ (ih (k + 1) (b) (by omega) (by omega) ?_ (by omega)); exact (And.intro rfl (And.intro rfl (And.intro rfl (And.intro rfl trivial)))); rw [hws, ← Bool.and_assoc, ← hb]; (first | (rw [(wek_iff F f k.toNat).mpr (Or.inl (by omega)), Bool.and_true]; done) | (rw [eq_false_of_ne_true c47]; (first | done | rfl)) | (have hck : F = 0 ∨ F = 30 ∨ 36 < F ∧ F % 2 = 1 := (by rw [c47] at hb; have hb2 := hb.symm; rw [Bool.and_eq_true, decide_eq_true_eq] at hb2; exact hb2.1); have hwk := wek_model (show 24 ≤ F by omega) hp hj (show k.toNat < 12 by omega) (by omega) hx; (first | (rw [c47, hwk.mpr (by constructor <;> omega)]; (first | done | rfl)) | (rw [c47, show wek F f k.toNat = false from Bool.eq_false_iff.mpr (fun q => by have q2 := hwk.mp q; omega)]; (first | done | rfl)))))) | (refine AW.lw ?_ (ih (k + 1) (true) (by omega) (by omega) ?_ (by omega)); exact (And.intro rfl (And.intro rfl (And.intro rfl (And.intro rfl trivial)))); rw [hws, ← Bool.and_assoc, ← hb]; (first | (rw [(wek_iff F f k.toNat).mpr (Or.inl (by omega)), Bool.and_true]; done) | (rw [eq_false_of_ne_true c47]; (first | done | rfl)) | (have hck : F = 0 ∨ F = 30 ∨ 36 < F ∧ F % 2 = 1 := (by rw [c47] at hb; have hb2 := hb.symm; rw [Bool.and_eq_true, decide_eq_true_eq] at hb2; exact hb2.1); have hwk := wek_model (show 24 ≤ F by omega) hp hj (show k.toNat < 12 by omega) (by omega) hx; (first | (rw [c47, hwk.mpr (by constructor <;> omega)]; (first | done | rfl)) | (rw [c47, show wek F f k.toNat = false from Bool.eq_false_iff.mpr (fun q => by have q2 := hwk.mp q; omega)]; (first | done | rfl)))))) | (refine AW.lw ?_ (ih (k + 1) (false) (by omega) (by omega) ?_ (by omega)); exact (And.intro rfl (And.intro rfl (And.intro rfl (And.intro rfl trivial)))); rw [hws, ← Bool.and_assoc, ← hb]; (first | (rw [(wek_iff F f k.toNat).mpr (Or.inl (by omega)), Bool.and_true]; done) | (rw [eq_false_of_ne_true c47]; (first | done | rfl)) | (have hck : F = 0 ∨ F = 30 ∨ 36 < F ∧ F % 2 = 1 := (by rw [c47] at hb; have hb2 := hb.symm; rw [Bool.and_eq_true, decide_eq_true_eq] at hb2; exact hb2.1); have hwk := wek_model (show 24 ≤ F by omega) hp hj (show k.toNat < 12 by omega) (by omega) hx; (first | (rw [c47, hwk.mpr (by constructor <;> omega)]; (first | done | rfl)) | (rw [c47, show wek F f k.toNat = false from Bool.eq_false_iff.mpr (fun q => by have q2 := hwk.mp q; omega)]; (first | done | rfl))))))
                  · dsimp only [cmpI] at c87
                    refine AW.go 5 (pc' := 7) rfl ?_
                    have hws : wel F f (k + 1).toNat = (wel F f k.toNat && wek F f k.toNat) := allN_s h0
                    first | (refine AW.lw ?_ (ih (k + 1) (b) (by omega) (by omega) ?_ (by omega)); exact (And.intro rfl (And.intro rfl (And.intro rfl (And.intro rfl trivial)))); rw [hws, ← Bool.and_assoc, ← hb]; (first | (rw [(wek_iff F f k.toNat).mpr (Or.inl (by omega)), Bool.and_true]; done) | (rw [eq_false_of_ne_true c47]; (first | done | rfl)) | (have hck : F = 0 ∨ F = 30 ∨ 36 < F ∧ F % 2 = 1 := (by rw [c47] at hb; have hb2 := hb.symm; rw [Bool.and_eq_true, decide_eq_true_eq] at hb2; exact hb2.1); have hwk := wek_model (show 24 ≤ F by omega) hp hj (show k.toNat < 12 by omega) (by omega) hx; (first | (rw [c47, hwk.mpr (by constructor <;> omega)]; (first | done | rfl)) | (rw [c47, show wek F f k.toNat = false from Bool.eq_false_iff.mpr (fun q => by have q2 := hwk.mp q; omega)]; (first | done | rfl)))))) | (refine AW.lw ?_ (ih (k + 1) (true) (by omega) (by omega) ?_ (by omega)); exact (And.intro rfl (And.intro rfl (And.intro rfl (And.intro rfl trivial)))); rw [hws, ← Bool.and_assoc, ← hb]; (first | (rw [(wek_iff F f k.toNat).mpr (Or.inl (by omega)), Bool.and_true]; done) | (rw [eq_false_of_ne_true c47]; (first | done | rfl)) | (have hck : F = 0 ∨ F = 30 ∨ 36 < F ∧ F % 2 = 1 := (by rw [c47] at hb; have hb2 := hb.symm; rw [Bool.and_eq_true, decide_eq_true_eq] at hb2; exact hb2.1); have hwk := wek_model (show 24 ≤ F by omega) hp hj (show k.toNat < 12 by omega) (by omega) hx; (first | (rw [c47, hwk.mpr (by constructor <;> omega)]; (first | done | rfl)) | (rw [c47, show wek F f k.toNat = false from Bool.eq_false_iff.mpr (fun q => by have q2 := hwk.mp q; omega)]; (first | done | rfl)))))) | (refine AW.lw ?_ (ih (k + 1) (false) (by omega) (by omega) ?_ (by omega)); exact (And.intro rfl (And.intro rfl (And.intro rfl (And.intro rfl trivial)))); rw [hws, ← Bool.and_assoc, ← hb]; (first | (rw [(wek_iff F f k.toNat).mpr (Or.inl (by omega)), Bool.and_true]; done) | (rw [eq_false_of_ne_true c47]; (first | done | rfl)) | (have hck : F = 0 ∨ F = 30 ∨ 36 < F ∧ F % 2 = 1 := (by rw [c47] at hb; have hb2 := hb.symm; rw [Bool.and_eq_true, decide_eq_true_eq] at hb2; exact hb2.1); have hwk := wek_model (show 24 ≤ F by omega) hp hj (show k.toNat < 12 by omega) (by omega) hx; (first | (rw [c47, hwk.mpr (by constructor <;> omega)]; (first | done | rfl)) | (rw [c47, show wek F f k.toNat = false from Bool.eq_false_iff.mpr (fun q => by have q2 := hwk.mp q; omega)]; (first | done | rfl))))))
set_option maxHeartbeats 2000000 in
theorem c_X4_isWell (d : Nat) (hd : 3 ≤ d) (h : List AC) (pm rf gm ka wr9 : Int) (hO : h[29]? = some (ao 4 (mo pm rf gm ka wr9))) (f : Nat → Int) (hT : h[31]? = some (ai 0 12 f)) (hp : pn f) (hj : pj f) (F : Int) (rF : 0 ≤ F ∧ F < 48) : MF zX4_isWell d [vr 29, vi F] h (bI ((F = 0 ∨ F = 30 ∨ 36 < F ∧ F % 2 = 1) ∧ wel F f 12 = true)) h := by
  refine M0.of okX4_isWell (Nat.le_of_ble_eq_true rfl) ?_
  refine AW.go 1 (pc' := 1) rfl ?_
  refine AW.callSF (pn := 4) rfl rfl mlX4_168 (c_X4_isKeeping (d - 1) (by omega) _ _ (by omega)) rfl rfl (Nat.le_of_ble_eq_true rfl) ⟨by show d - 1 + 1 ≤ d; omega, by show 40 * (d - 1 + 1) ≤ 40 * d; omega⟩ ⟨Nat.zero_le _, Nat.zero_le _⟩ ?_
  refine AW.go 3 (pc' := 7) rfl ?_
  refine AW.lw ?_ (l_X4_isWell d hd h pm rf gm ka wr9 hO f hT hp hj F rF _ 0 (decide (F = 0 ∨ F = 30 ∨ 36 < F ∧ F % 2 = 1)) (by omega) (by omega) (by show _ = (_ && true); rw [Bool.and_true]) (Nat.lt_succ_self _))
  refine And.intro rfl (And.intro ?_ (And.intro rfl (And.intro rfl trivial)))
  exact congrArg (fun x => some (vi x)) (bI_c (by rw [decide_eq_true_eq]))
set_option maxHeartbeats 4000000 in
theorem l2_X4_fillings (d : Nat) (hd : 3 ≤ d) (h : List AC) (pm rf gm ka wr9 : Int) (hO : h[29]? = some (ao 4 (mo pm rf gm ka wr9))) (f : Nat → Int) (hT : h[31]? = some (ai 0 12 f)) (hp : pn f) (hj : pj f) (F : Int) (rF : 0 ≤ F ∧ F < 48) (o : Nat) (ro : o ≤ 12) : ∀ (n : Nat) (k : Int) (c : Int), (1 ≤ k) → (k ≤ (o : Int) + 1) → (c = wys F (k - 1).toNat) → (((o : Int) + 1 - k).toNat) < n → AW zX4_fillings Eq (rmd d) 0 0 0 0 79 [(4, vi k), (3, vi c), (2, vi (o : Int)), (0, vr 29), (1, vi F)] [] h (RQ (wys F o) h) := by
  intro n
  induction n with
  | zero =>
    intro k c h0 h1 hc hn
    exact absurd hn (Nat.not_lt_zero _)
  | succ n ih =>
    intro k c h0 h1 hc hn
    refine AW.go 2 (pc' := 82) rfl ?_
    refine AW.bi (tgt := 107) (pn := 85) rfl (by decide) rfl (by first | exact bI_rng _ | exact ⟨by omega, by omega⟩) (by first | exact bI_rng _ | exact ⟨by omega, by omega⟩) (fun c82 => ?_) (fun c82 => ?_)
    · dsimp only [cmpI] at c82
      refine AW.go 1 (pc' := 108) rfl ?_
      refine AW.ret rfl rfl (Nat.le_refl _) (Nat.le_refl _) ?_
      refine ⟨congrArg some ?_, rfl⟩
      rw [hc, show (k - 1).toNat = o by omega]
    · dsimp only [cmpI] at c82
      refine AW.go 2 (pc' := 87) rfl ?_
      refine AW.br (tgt := 95) (pn := 90) rfl (by decide) rfl (by first | exact bI_rng _ | exact ⟨by omega, by omega⟩) (fun c87 => ?_) (fun c87 => ?_)
      · dsimp only [cmpI] at c87
        refine AW.go 7 (pc' := 79) rfl ?_
        first | (refine AW.lw ?_ (ih (k + 1) (c * k) (by omega) (by omega) ?_ (by omega)); exact (And.intro rfl (And.intro rfl (And.intro rfl (And.intro rfl (And.intro rfl trivial))))); rw [show (k + 1 - 1).toNat = (k - 1).toNat + 1 by omega]; unfold wys; rw [← hc, show (((k - 1).toNat : Int) + 1) = k by omega]; (first | rw [if_pos (by omega)] | rw [if_neg (by omega)])) | (refine AW.lw ?_ (ih (k + 1) (c * (2 * k)) (by omega) (by omega) ?_ (by omega)); exact (And.intro rfl (And.intro rfl (And.intro rfl (And.intro rfl (And.intro rfl trivial))))); rw [show (k + 1 - 1).toNat = (k - 1).toNat + 1 by omega]; unfold wys; rw [← hc, show (((k - 1).toNat : Int) + 1) = k by omega]; (first | rw [if_pos (by omega)] | rw [if_neg (by omega)]))
      · dsimp only [cmpI] at c87
        refine AW.go 6 (pc' := 79) rfl ?_
        first | (refine AW.lw ?_ (ih (k + 1) (c * k) (by omega) (by omega) ?_ (by omega)); exact (And.intro rfl (And.intro rfl (And.intro rfl (And.intro rfl (And.intro rfl trivial))))); rw [show (k + 1 - 1).toNat = (k - 1).toNat + 1 by omega]; unfold wys; rw [← hc, show (((k - 1).toNat : Int) + 1) = k by omega]; (first | rw [if_pos (by omega)] | rw [if_neg (by omega)])) | (refine AW.lw ?_ (ih (k + 1) (c * (2 * k)) (by omega) (by omega) ?_ (by omega)); exact (And.intro rfl (And.intro rfl (And.intro rfl (And.intro rfl (And.intro rfl trivial))))); rw [show (k + 1 - 1).toNat = (k - 1).toNat + 1 by omega]; unfold wys; rw [← hc, show (((k - 1).toNat : Int) + 1) = k by omega]; (first | rw [if_pos (by omega)] | rw [if_neg (by omega)]))
set_option maxHeartbeats 4000000 in
theorem l1_X4_fillings (d : Nat) (hd : 3 ≤ d) (h : List AC) (pm rf gm ka wr9 : Int) (hO : h[29]? = some (ao 4 (mo pm rf gm ka wr9))) (f : Nat → Int) (hT : h[31]? = some (ai 0 12 f)) (hp : pn f) (hj : pj f) (F : Int) (rF : 0 ≤ F ∧ F < 48) : ∀ (n : Nat) (k : Int) (c : Int), (0 ≤ k) → (k ≤ 12) → (c = (opn F f k.toNat : Int)) → ((12 - k).toNat) < n → AW zX4_fillings Eq (rmd d) 0 0 0 0 23 [(3, vi k), (2, vi c), (0, vr 29), (1, vi F)] [] h (RQ (wys F (opn F f 12)) h) := by
  intro n
  induction n with
  | zero =>
    intro k c h0 h1 hc hn
    exact absurd hn (Nat.not_lt_zero _)
  | succ n ih =>
    intro k c h0 h1 hc hn
    refine AW.go 2 (pc' := 26) rfl ?_
    refine AW.bi (tgt := 74) (pn := 29) rfl (by decide) rfl (by first | exact bI_rng _ | exact ⟨by omega, by omega⟩) (by first | exact bI_rng _ | exact ⟨by omega, by omega⟩) (fun c26 => ?_) (fun c26 => ?_)
    · dsimp only [cmpI] at c26
      refine AW.go 4 (pc' := 79) rfl ?_
      have e : k.toNat = 12 := by omega
      rw [e] at hc
      have hop : opn F f 12 ≤ 12 := cntN_le _ _
      rw [hc]
      refine AW.lw ?_ (l2_X4_fillings d hd h pm rf gm ka wr9 hO f hT hp hj F rF (opn F f 12) hop _ 1 1 (by omega) (by omega) rfl (Nat.lt_succ_self _))
      exact (And.intro rfl (And.intro rfl (And.intro rfl (And.intro rfl (And.intro rfl trivial)))))
    · dsimp only [cmpI] at c26
      refine AW.go 2 (pc' := 31) rfl ?_
      refine AW.getf (pn := 34) rfl rfl flX4_13 (by first | assumption | exact set_self (by first | assumption | exact set_self (by first | assumption | exact set_self (by assumption) | exact set_ne (by first | assumption | decide | omega) (by assumption)) | exact set_ne (by first | assumption | decide | omega) (by first | assumption | exact set_self (by assumption) | exact set_ne (by first | assumption | decide | omega) (by assumption))) | exact set_ne (by first | assumption | decide | omega) (by first | assumption | exact set_self (by first | assumption | exact set_self (by assumption) | exact set_ne (by first | assumption | decide | omega) (by assumption)) | exact set_ne (by first | assumption | decide | omega) (by first | assumption | exact set_self (by assumption) | exact set_ne (by first | assumption | decide | omega) (by assumption)))) rfl ?_
      refine AW.go 1 (pc' := 35) rfl ?_
      have b0 := hp k.toNat (by omega)
      have hcs : opn F f (k + 1).toNat = opn F f k.toNat + (if decide (f k.toNat < 0 ∧ (F = 0 ∨ ((k.toNat : Nat) : Int) < 6 ∧ f (11 - k.toNat) < 0)) = true then 1 else 0) := cntN_s h0
      refine AW.iald (pn := 36) rfl rfl (by first | assumption | exact set_self (by first | assumption | exact set_self (by first | assumption | exact set_self (by assumption) | exact set_ne (by first | assumption | decide | omega) (by assumption)) | exact set_ne (by first | assumption | decide | omega) (by first | assumption | exact set_self (by assumption) | exact set_ne (by first | assumption | decide | omega) (by assumption))) | exact set_ne (by first | assumption | decide | omega) (by first | assumption | exact set_self (by first | assumption | exact set_self (by assumption) | exact set_ne (by first | assumption | decide | omega) (by assumption)) | exact set_ne (by first | assumption | decide | omega) (by first | assumption | exact set_self (by assumption) | exact set_ne (by first | assumption | decide | omega) (by assumption)))) (by first | decide | omega) (by omega) (by omega) ?_
      refine AW.br (tgt := 65) (pn := 39) rfl (by decide) rfl (by first | exact bI_rng _ | exact ⟨by omega, by omega⟩) (fun c36 => ?_) (fun c36 => ?_)
      · dsimp only [cmpI] at c36
        refine AW.go 5 (pc' := 23) rfl ?_
        first | (refine AW.lw ?_ (ih (k + 1) (c + 1) (by omega) (by omega) ?_ (by omega)); exact (And.intro rfl (And.intro rfl (And.intro rfl (And.intro rfl trivial)))); rw [hcs, hc]; (first | (rw [if_pos (decide_eq_true (by omega))]; rfl) | (rw [if_neg (fun q => by have q := of_decide_eq_true q; omega)]; rfl))) | (refine AW.lw ?_ (ih (k + 1) (c + 0) (by omega) (by omega) ?_ (by omega)); exact (And.intro rfl (And.intro rfl (And.intro rfl (And.intro rfl trivial)))); rw [hcs, hc]; (first | (rw [if_pos (decide_eq_true (by omega))]; rfl) | (rw [if_neg (fun q => by have q := of_decide_eq_true q; omega)]; rfl)))
      · dsimp only [cmpI] at c36
        refine AW.go 1 (pc' := 40) rfl ?_
        refine AW.br (tgt := 61) (pn := 43) rfl (by decide) rfl (by first | exact bI_rng _ | exact ⟨by omega, by omega⟩) (fun c40 => ?_) (fun c40 => ?_)
        · dsimp only [cmpI] at c40
          refine AW.go 6 (pc' := 23) rfl ?_
          first | (refine AW.lw ?_ (ih (k + 1) (c + 1) (by omega) (by omega) ?_ (by omega)); exact (And.intro rfl (And.intro rfl (And.intro rfl (And.intro rfl trivial)))); rw [hcs, hc]; (first | (rw [if_pos (decide_eq_true (by omega))]; rfl) | (rw [if_neg (fun q => by have q := of_decide_eq_true q; omega)]; rfl))) | (refine AW.lw ?_ (ih (k + 1) (c + 0) (by omega) (by omega) ?_ (by omega)); exact (And.intro rfl (And.intro rfl (And.intro rfl (And.intro rfl trivial)))); rw [hcs, hc]; (first | (rw [if_pos (decide_eq_true (by omega))]; rfl) | (rw [if_neg (fun q => by have q := of_decide_eq_true q; omega)]; rfl)))
        · dsimp only [cmpI] at c40
          refine AW.go 2 (pc' := 46) rfl ?_
          refine AW.bi (tgt := 65) (pn := 49) rfl (by decide) rfl (by first | exact bI_rng _ | exact ⟨by omega, by omega⟩) (by first | exact bI_rng _ | exact ⟨by omega, by omega⟩) (fun c46 => ?_) (fun c46 => ?_)
          · dsimp only [cmpI] at c46
            refine AW.go 5 (pc' := 23) rfl ?_
            first | (refine AW.lw ?_ (ih (k + 1) (c + 1) (by omega) (by omega) ?_ (by omega)); exact (And.intro rfl (And.intro rfl (And.intro rfl (And.intro rfl trivial)))); rw [hcs, hc]; (first | (rw [if_pos (decide_eq_true (by omega))]; rfl) | (rw [if_neg (fun q => by have q := of_decide_eq_true q; omega)]; rfl))) | (refine AW.lw ?_ (ih (k + 1) (c + 0) (by omega) (by omega) ?_ (by omega)); exact (And.intro rfl (And.intro rfl (And.intro rfl (And.intro rfl trivial)))); rw [hcs, hc]; (first | (rw [if_pos (decide_eq_true (by omega))]; rfl) | (rw [if_neg (fun q => by have q := of_decide_eq_true q; omega)]; rfl)))
          · dsimp only [cmpI] at c46
            refine AW.go 1 (pc' := 50) rfl ?_
            refine AW.getf (pn := 53) rfl rfl flX4_13 (by first | assumption | exact set_self (by first | assumption | exact set_self (by first | assumption | exact set_self (by assumption) | exact set_ne (by first | assumption | decide | omega) (by assumption)) | exact set_ne (by first | assumption | decide | omega) (by first | assumption | exact set_self (by assumption) | exact set_ne (by first | assumption | decide | omega) (by assumption))) | exact set_ne (by first | assumption | decide | omega) (by first | assumption | exact set_self (by first | assumption | exact set_self (by assumption) | exact set_ne (by first | assumption | decide | omega) (by assumption)) | exact set_ne (by first | assumption | decide | omega) (by first | assumption | exact set_self (by assumption) | exact set_ne (by first | assumption | decide | omega) (by assumption)))) rfl ?_
            refine AW.go 3 (pc' := 57) rfl ?_
            have b1 := hp (11 - k).toNat (by omega)
            have eF : f (11 - k).toNat = f (11 - k.toNat) := by rw [show (11 - k).toNat = 11 - k.toNat by omega]
            refine AW.iald (pn := 58) rfl rfl (by first | assumption | exact set_self (by first | assumption | exact set_self (by first | assumption | exact set_self (by assumption) | exact set_ne (by first | assumption | decide | omega) (by assumption)) | exact set_ne (by first | assumption | decide | omega) (by first | assumption | exact set_self (by assumption) | exact set_ne (by first | assumption | decide | omega) (by assumption))) | exact set_ne (by first | assumption | decide | omega) (by first | assumption | exact set_self (by first | assumption | exact set_self (by assumption) | exact set_ne (by first | assumption | decide | omega) (by assumption)) | exact set_ne (by first | assumption | decide | omega) (by first | assumption | exact set_self (by assumption) | exact set_ne (by first | assumption | decide | omega) (by assumption)))) (by first | decide | omega) (by omega) (by omega) ?_
            refine AW.br (tgt := 65) (pn := 61) rfl (by decide) rfl (by first | exact bI_rng _ | exact ⟨by omega, by omega⟩) (fun c58 => ?_) (fun c58 => ?_)
            · dsimp only [cmpI] at c58
              refine AW.go 5 (pc' := 23) rfl ?_
              first | (refine AW.lw ?_ (ih (k + 1) (c + 1) (by omega) (by omega) ?_ (by omega)); exact (And.intro rfl (And.intro rfl (And.intro rfl (And.intro rfl trivial)))); rw [hcs, hc]; (first | (rw [if_pos (decide_eq_true (by omega))]; rfl) | (rw [if_neg (fun q => by have q := of_decide_eq_true q; omega)]; rfl))) | (refine AW.lw ?_ (ih (k + 1) (c + 0) (by omega) (by omega) ?_ (by omega)); exact (And.intro rfl (And.intro rfl (And.intro rfl (And.intro rfl trivial)))); rw [hcs, hc]; (first | (rw [if_pos (decide_eq_true (by omega))]; rfl) | (rw [if_neg (fun q => by have q := of_decide_eq_true q; omega)]; rfl)))
            · dsimp only [cmpI] at c58
              refine AW.go 6 (pc' := 23) rfl ?_
              first | (refine AW.lw ?_ (ih (k + 1) (c + 1) (by omega) (by omega) ?_ (by omega)); exact (And.intro rfl (And.intro rfl (And.intro rfl (And.intro rfl trivial)))); rw [hcs, hc]; (first | (rw [if_pos (decide_eq_true (by omega))]; rfl) | (rw [if_neg (fun q => by have q := of_decide_eq_true q; omega)]; rfl))) | (refine AW.lw ?_ (ih (k + 1) (c + 0) (by omega) (by omega) ?_ (by omega)); exact (And.intro rfl (And.intro rfl (And.intro rfl (And.intro rfl trivial)))); rw [hcs, hc]; (first | (rw [if_pos (decide_eq_true (by omega))]; rfl) | (rw [if_neg (fun q => by have q := of_decide_eq_true q; omega)]; rfl)))
set_option maxHeartbeats 2000000 in
theorem c_X4_fillings (d : Nat) (hd : 4 ≤ d) (h : List AC) (pm rf gm ka wr9 : Int) (hO : h[29]? = some (ao 4 (mo pm rf gm ka wr9))) (f : Nat → Int) (hT : h[31]? = some (ai 0 12 f)) (hp : pn f) (hj : pj f) (F : Int) (rF : -2147483648 ≤ F ∧ F < 2147483648) : MF zX4_fillings d [vr 29, vi F] h (V_fills F f) h := by
  refine M0.of okX4_fillings (Nat.le_of_ble_eq_true rfl) ?_
  refine AW.go 1 (pc' := 1) rfl ?_
  refine AW.callSF (pn := 4) rfl rfl mlX4_102 (c_X4_isForm (d - 1) (by omega) _ _ (by omega)) rfl rfl (Nat.le_of_ble_eq_true rfl) ⟨by show d - 1 + 1 ≤ d; omega, by show 40 * (d - 1 + 1) ≤ 40 * d; omega⟩ ⟨Nat.zero_le _, Nat.zero_le _⟩ ?_
  refine AW.bnz (tgt := 9) (pn := 7) rfl (by decide) rfl (fun c4 => ?_) (fun c4 => ?_)
  · refine AW.go 2 (pc' := 11) rfl ?_
    refine AW.callVF (pn := 14) rfl rfl mlX4_177 (by first | assumption | exact set_self (by first | assumption | exact set_self (by first | assumption | exact set_self (by assumption) | exact set_ne (by first | assumption | decide | omega) (by assumption)) | exact set_ne (by first | assumption | decide | omega) (by first | assumption | exact set_self (by assumption) | exact set_ne (by first | assumption | decide | omega) (by assumption))) | exact set_ne (by first | assumption | decide | omega) (by first | assumption | exact set_self (by first | assumption | exact set_self (by assumption) | exact set_ne (by first | assumption | decide | omega) (by assumption)) | exact set_ne (by first | assumption | decide | omega) (by first | assumption | exact set_self (by assumption) | exact set_ne (by first | assumption | decide | omega) (by assumption)))) (c_X4_isWell (d - 1) (by omega) _ _ _ _ _ _ (by first | assumption | exact set_self (by first | assumption | exact set_self (by first | assumption | exact set_self (by assumption) | exact set_ne (by first | assumption | decide | omega) (by assumption)) | exact set_ne (by first | assumption | decide | omega) (by first | assumption | exact set_self (by assumption) | exact set_ne (by first | assumption | decide | omega) (by assumption))) | exact set_ne (by first | assumption | decide | omega) (by first | assumption | exact set_self (by first | assumption | exact set_self (by assumption) | exact set_ne (by first | assumption | decide | omega) (by assumption)) | exact set_ne (by first | assumption | decide | omega) (by first | assumption | exact set_self (by assumption) | exact set_ne (by first | assumption | decide | omega) (by assumption)))) _ (by first | assumption | exact set_self (by first | assumption | exact set_self (by first | assumption | exact set_self (by assumption) | exact set_ne (by first | assumption | decide | omega) (by assumption)) | exact set_ne (by first | assumption | decide | omega) (by first | assumption | exact set_self (by assumption) | exact set_ne (by first | assumption | decide | omega) (by assumption))) | exact set_ne (by first | assumption | decide | omega) (by first | assumption | exact set_self (by first | assumption | exact set_self (by assumption) | exact set_ne (by first | assumption | decide | omega) (by assumption)) | exact set_ne (by first | assumption | decide | omega) (by first | assumption | exact set_self (by assumption) | exact set_ne (by first | assumption | decide | omega) (by assumption)))) (by assumption) (by assumption) _ (by omega)) rfl rfl (Nat.le_of_ble_eq_true rfl) ⟨by show d - 1 + 1 ≤ d; omega, by show 40 * (d - 1 + 1) ≤ 40 * d; omega⟩ ⟨Nat.zero_le _, Nat.zero_le _⟩ ?_
    refine AW.bnz (tgt := 19) (pn := 17) rfl (by decide) rfl (fun c14 => ?_) (fun c14 => ?_)
    · refine AW.go 4 (pc' := 23) rfl ?_
      have e9 : V_fills F f = wys F (opn F f 12) := by
        unfold V_fills
        rw [if_pos c4, if_pos c14]
        by_cases q : 24 ≤ F
        · rw [if_pos q, opn_b q hp, wys_b (by omega), Nat.mul_div_cancel_left _ (by decide)]
        · have e0 : F = 0 := by have := c14.1; omega
          subst e0
          rw [if_neg q, wys_0, opn_0 hp]
      rw [e9]
      refine AW.lw ?_ (l1_X4_fillings d (by omega) h pm rf gm ka wr9 hO f hT hp hj F c4 _ 0 0 (by omega) (by omega) rfl (Nat.lt_succ_self _))
      exact (And.intro rfl (And.intro rfl (And.intro rfl (And.intro rfl trivial))))
    · refine AW.go 1 (pc' := 18) rfl ?_
      refine AW.ret rfl rfl (Nat.le_refl _) (Nat.le_refl _) ?_
      refine ⟨congrArg some ?_, rfl⟩
      unfold V_fills
      rw [if_pos c4, if_neg c14]
  · refine AW.go 1 (pc' := 8) rfl ?_
    refine AW.ret rfl rfl (Nat.le_refl _) (Nat.le_refl _) ?_
    refine ⟨congrArg some ?_, rfl⟩
    unfold V_fills
    rw [if_neg c4]
